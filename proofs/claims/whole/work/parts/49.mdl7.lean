/-! ===== the reference: lay ===== -/
def layR (M : Mem) (e i : Nat) : Mem := upR (up M 9 0 35 1) 64 0 (fun q => if q < i then M 45 0 (e + q) else M 64 0 q)
theorem layR_step (M : Mem) (e i : Nat) : up (layR M e i) 64 0 i (M 45 0 (e + i)) = layR M e (i + 1) := by
  funext a b c
  simp only [layR, up, upR]
  grind
theorem layR_0 (M : Mem) (e : Nat) : layR M e 0 = up M 9 0 35 1 := by
  funext a b c
  simp only [layR, up, upR]
  grind
theorem MR_lay {a N : Mem} {g : Nat → Int} {e : Nat} (h : MR a N) (hg : ∀ k, k < 10 → N 45 0 (e + k) = g k) : MR (up (upR a 33 0 (fun k => if k < 10 then g k else a 33 0 k)) 8 0 8 1) (layR N e 10) := by
  obtain ⟨m1, m2, m3, m4, m5, m6⟩ := h.r0
  refine ⟨⟨m1, m2, m3, m4, m5, rfl⟩, h.rr, h.rs, h.rp, h.rl, h.rq, h.rh, h.rm, h.rt, h.ru, h.rf, h.rb, ?_⟩
  intro k hk
  have := hg k hk
  simp only [layR, up, upR]
  simp [hk, this]
theorem Sm_lay {N : Mem} {e i : Nat} : Sm (layR N e i) N := (Sm_upR (Or.inl (by decide))).tr (Sm_up (Or.inr rfl))
theorem lp_mlay {l : Launch} {G : Gx} {E : Fx} {d : Nat} {M : Mem} {s e : Nat} {b : Int} (hs : s < 14) (he : (e : Int) = 20 * s + 10 * b) (b1 : 0 ≤ b) (b2 : b ≤ 1) {P : Option Value → Mem → Prop} (hP : P (some (vi 10)) (layR M e 10)) (X : OkM l G E cX9_lay RX9 4 d (some .int) P) : ∀ (n i : Nat), i ≤ 10 → 10 < i + n → J G E 38 [some (rf G 9 0), some (vi (s : Int)), some (vi b), some (vi (i : Int))] [] (layR M e i) := by
  have Y := X.ok
  intro n
  induction n with
  | zero => intro i h1 h2; exfalso; omega
  | succ n ih =>
    intro i h1 h2
    refine J_iload_3 Y qX9_lay_38 ?_
    refine J_bipush Y qX9_lay_39 (by decide) ?_
    refine J_icmp_ge Y qX9_lay_41 (by omega) (by omega) (by omega) (by omega) (fun h41 => ?_) (fun h41 => ?_)
    · obtain rfl : i = 10 := by omega
      refine J_bipush Y qX9_lay_72 (by decide) ?_
      exact J_iret X qX9_lay_74 hP
    · refine J_aloadr_0 Y qX9_lay_44 ?_
      refine J_getR Y qX9_lay_45 fX9_83 (by decide) ?_
      refine J_iload_3 Y qX9_lay_48 ?_
      refine J_aloadr_0 Y qX9_lay_49 ?_
      refine J_getR Y qX9_lay_50 fX9_25 (by decide) ?_
      refine J_bipush Y qX9_lay_53 (by decide) ?_
      refine J_iload_1 Y qX9_lay_55 ?_
      refine J_imul Y qX9_lay_56 ?_
      refine J_bipush Y qX9_lay_57 (by decide) ?_
      refine J_iload_2 Y qX9_lay_59 ?_
      refine J_imul Y qX9_lay_60 ?_
      refine J_iadd Y qX9_lay_61 ?_
      refine J_iload_3 Y qX9_lay_62 ?_
      refine J_iadd Y qX9_lay_63 ?_
      rw [show (20 : Int) * (s : Int) + 10 * b + (i : Int) = ((e + i : Nat) : Int) by omega]
      refine J_ialoadN (kx := (e + i)) Y qX9_lay_64 rfl (by decide) rfl (by omega) (by decide) ?_
      rw [show layR M e i 45 0 (e + i) = M 45 0 (e + i) from rfl]
      refine J_iastoreN (kx := i) Y qX9_lay_65 rfl (by decide) rfl (by omega) (by decide) ?_
      refine J_iinc_3 Y qX9_lay_66 rfl ?_
      refine J_goto Y qX9_lay_69 ?_
      rw [layR_step]
      exact ih (i + 1) (by omega) (by omega)

theorem r_lay (l : Launch) (G : Gx) (M : Mem) {A : Mem} {n : Nat} {a b : Int} (a1 : -2147483648 ≤ a) (a2 : a < 2147483648) (b1 : -2147483648 ≤ b) (b2 : b < 2147483648) (hI : Inv n A) (hn : n < 512) (hM : MR A M)  : Ct l G 4 yX9_lay cX9_lay 4 ((Option.some Jvm.ClassFile.FieldType.int)) [rf G 9 0, vi a, vi b] M (QR (f_lay A a b) M) := by
  refine Ct.of rfl (Nat.le_of_ble_eq_true rfl) rfl (fun E X => ?_)
  have Y := X.ok
  obtain ⟨m1, m2, m3, m4, m5, m6⟩ := hM.r0
  obtain ⟨c1, c2⟩ := hI.count
  obtain ⟨d1, d2⟩ := hI.day
  refine J_aloadr_0 Y qX9_lay_0 ?_
  refine J_iload_1 Y qX9_lay_1 ?_
  refine J_cV1B Y qX9_lay_2 mX9_101 iyX9_isShop (by decide) rfl (by decide) rfl (Nat.le_of_ble_eq_true rfl) (m_isShop _ _ _ (by omega) (by omega) (by omega) (by omega)) (fun h2 => ?_) (fun h2 => ?_)
  · refine J_ne1 Y qX9_lay_5 ?_
    refine J_iload_2 Y qX9_lay_15 ?_
    refine J_iconst Y qX9_lay_16 ?_
    refine J_iconst Y qX9_lay_17 ?_
    refine J_cS3B Y qX9_lay_18 mX9_93 iyX9_in rfl (by decide) rfl (Nat.le_of_ble_eq_true rfl) (m_in _ _ _ (by omega) (by omega) (by omega) (by omega) (by omega) (by omega)) (fun h18 => ?_) (fun h18 => ?_)
    · refine J_ne1 Y qX9_lay_21 ?_
      obtain ⟨s, rfl⟩ := nat_of (show 0 ≤ a by omega)
      rcases (show b = 0 ∨ b = 1 by omega) with rfl | rfl
      · refine J_aloadr_0 Y qX9_lay_31 ?_
        refine J_iconst Y qX9_lay_32 ?_
        refine J_putZ Y qX9_lay_33 fX9_228w (Or.inr rfl) (by decide) ?_
        refine J_iconst Y qX9_lay_36 ?_
        refine J_istore_3 Y qX9_lay_37 rfl ?_
        rw [← layR_0 M (20 * s)]
        exact lp_mlay (by omega) (by omega) (by omega) (by omega) (QR_e (by
          unfold f_lay
          rewrite [if_neg (by omega), if_neg (by omega)]
          exact rfl) rfl (MR_lay hM (fun k hk => (hM.rp s (by omega) k hk).1)) Sm_lay) X 11 0 (by omega) (by omega)
      · refine J_aloadr_0 Y qX9_lay_31 ?_
        refine J_iconst Y qX9_lay_32 ?_
        refine J_putZ Y qX9_lay_33 fX9_228w (Or.inr rfl) (by decide) ?_
        refine J_iconst Y qX9_lay_36 ?_
        refine J_istore_3 Y qX9_lay_37 rfl ?_
        rw [← layR_0 M (20 * s + 10)]
        exact lp_mlay (by omega) (by omega) (by omega) (by omega) (QR_e (by
          unfold f_lay
          rewrite [if_neg (by omega), if_neg (by omega)]
          exact rfl) rfl (MR_lay hM (fun k hk => (hM.rp s (by omega) k hk).2)) Sm_lay) X 11 0 (by omega) (by omega)
    · refine J_ne0 Y qX9_lay_21 ?_
      refine J_aloadr_0 Y qX9_lay_24 ?_
      refine J_bipush Y qX9_lay_25 (by decide) ?_
      refine J_cV1F Y qX9_lay_27 mX9_97 iyX9_refuse (by decide) rfl (by decide) rfl (Nat.le_of_ble_eq_true rfl) (m_refuse _ _ _ 5 (by decide) rfl) ?_
      exact J_iret X qX9_lay_30 (QR_e (by
        unfold f_lay
        try simp only [Int.toNat_natCast]
        repeat (first | rewrite [if_pos trivial] | rewrite [if_pos (by omega)] | rewrite [if_neg (by omega)])
        exact rfl) (by first | rfl | (dsimp only; omega)) (by first | exact hM | exact MR_rfs hM (by decide)) (by first | exact Sm.rfl' | exact Sm_up (Or.inl (by decide))))
  · refine J_ne0 Y qX9_lay_5 ?_
    refine J_aloadr_0 Y qX9_lay_8 ?_
    refine J_bipush Y qX9_lay_9 (by decide) ?_
    refine J_cV1F Y qX9_lay_11 mX9_97 iyX9_refuse (by decide) rfl (by decide) rfl (Nat.le_of_ble_eq_true rfl) (m_refuse _ _ _ 3 (by decide) rfl) ?_
    exact J_iret X qX9_lay_14 (QR_e (by
      unfold f_lay
      try simp only [Int.toNat_natCast]
      repeat (first | rewrite [if_pos trivial] | rewrite [if_pos (by omega)] | rewrite [if_neg (by omega)])
      exact rfl) (by first | rfl | (dsimp only; omega)) (by first | exact hM | exact MR_rfs hM (by decide)) (by first | exact Sm.rfl' | exact Sm_up (Or.inl (by decide))))


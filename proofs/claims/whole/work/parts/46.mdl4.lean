/-! ===== the reference: pawns that go ===== -/
def mdS (M : Mem) (i t : Nat) : Mem := upR (upR M 50 0 (shf (M 50 0) i t)) 51 0 (shf (M 51 0) i t)
def mdr (M : Mem) (s i n : Nat) : Mem := up (mdS M (8 * s + i) (8 * s + n)) 49 0 s ((n : Int) - 1)
theorem mdS_step (M : Mem) (g t : Nat) (hg : g ≤ t) : up (up (mdS M g (t + 1)) 50 0 t (M 50 0 (t + 1))) 51 0 t (M 51 0 (t + 1)) = mdS M g (t + 2) := by
  funext a b c
  simp only [mdS, up, upR, shf]
  grind
theorem mdS_50 (M : Mem) (g t : Nat) : mdS M g t 50 0 t = M 50 0 t := by simp only [mdS, upR, shf]; grind
theorem mdS_51 (M : Mem) (g t : Nat) : mdS M g t 51 0 t = M 51 0 t := by simp only [mdS, upR, shf]; grind
theorem mdS_49 (M : Mem) (g t s : Nat) : mdS M g t 49 0 s = M 49 0 s := rfl
theorem MR_mdr {a N : Mem} {s i n : Nat} (h : MR a N) (hs : s < 14) (hn : a 5 s 11 = (n : Int)) (hi : i < n) (h8 : ∀ q, q < 14 → a 5 q 11 ≤ 8) : MR (drp a s i n) (mdr N s i n) := by
  have hs8 := h8 s hs
  refine ⟨h.r0, h.rr, ?_, h.rp, ?_, ?_, h.rh, h.rm, h.rt, h.ru, h.rf, h.rb, h.rw⟩
  · intro u hu
    have := h.rs u hu
    simpa [drp, drpS, up, upR, mdr, mdS] using this
  · intro u hu
    have := h.rl u hu
    simpa [drp, drpS, up, upR, mdr, mdS] using this
  intro q hq
  obtain ⟨h1, h2⟩ := h.rq q hq
  by_cases e : q = s
  · subst e
    refine ⟨by simp [drp, mdr, up], fun j hj => ?_⟩
    have hj2 : (j : Int) < n - 1 := by simpa [drp, up] using hj
    have g1 := h2 j (by omega)
    have g2 := h2 (j + 1) (by omega)
    rw [show 8 * q + (j + 1) = 8 * q + j + 1 by omega] at g2
    have e1 : drp a q i n 27 q j = shf (a 27 q) i n j := by simp [drp, drpS, up, upR]
    have e2 : drp a q i n 28 q j = shf (a 28 q) i n j := by simp [drp, drpS, up, upR]
    have e3 : mdr N q i n 50 0 (8 * q + j) = shf (N 50 0) (8 * q + i) (8 * q + n) (8 * q + j) := by simp [mdr, mdS, up, upR]
    have e4 : mdr N q i n 51 0 (8 * q + j) = shf (N 51 0) (8 * q + i) (8 * q + n) (8 * q + j) := by simp [mdr, mdS, up, upR]
    rw [e1, e2, e3, e4]
    simp only [shf]
    by_cases hij : i ≤ j
    · rw [if_pos (by omega), if_pos (by omega), if_pos (by omega), if_pos (by omega)]
      exact g2
    · rw [if_neg (by omega), if_neg (by omega), if_neg (by omega), if_neg (by omega)]
      exact g1
  · have hj0 : drp a s i n 5 q 11 = a 5 q 11 := by simp [drp, drpS, up, upR, e]
    refine ⟨by simp [drp, drpS, mdr, mdS, up, upR, e]; exact h1, fun j hj => ?_⟩
    rw [hj0] at hj
    have g1 := h2 j hj
    have hq8 := h8 q hq
    have e1 : drp a s i n 27 q j = a 27 q j := by simp [drp, drpS, up, upR, e]
    have e2 : drp a s i n 28 q j = a 28 q j := by simp [drp, drpS, up, upR, e]
    have e3 : mdr N s i n 50 0 (8 * q + j) = shf (N 50 0) (8 * s + i) (8 * s + n) (8 * q + j) := by simp [mdr, mdS, up, upR]
    have e4 : mdr N s i n 51 0 (8 * q + j) = shf (N 51 0) (8 * s + i) (8 * s + n) (8 * q + j) := by simp [mdr, mdS, up, upR]
    rw [e1, e2, e3, e4]
    simp only [shf]
    rw [if_neg (by omega), if_neg (by omega)]
    exact g1
theorem Sm_mdr {N : Mem} {s i n : Nat} : Sm (mdr N s i n) N := (Sm_up (Or.inl (by decide))).tr ((Sm_upR (Or.inl (by decide))).tr (Sm_upR (Or.inl (by decide))))
theorem lp_drops {l : Launch} {G : Gx} {E : Fx} {d : Nat} {M : Mem} {s k g : Nat} (hs : s < 14) (hk : M 49 0 s = (k : Int)) (k8 : k ≤ 8) (hg : g < k) (X : OkM l G E cX9_drops RX9 4 d (none) (VF (mdr M s g k))) : ∀ (n i : Nat), 8 * s + g ≤ i → i + 1 ≤ 8 * s + k → 8 * s + k < i + 1 + n → J G E 7 [some (rf G 9 0), some (vi (s : Int)), some (vi (g : Int)), some (vi (i : Int))] [] (mdS M (8 * s + g) (i + 1)) := by
  have Y := X.ok
  intro n
  induction n with
  | zero => intro i h0 h1 h2; exfalso; omega
  | succ n ih =>
    intro i h0 h1 h2
    refine J_iload_3 Y qX9_drops_7 ?_
    refine J_bipush Y qX9_drops_8 (by decide) ?_
    refine J_iload_1 Y qX9_drops_10 ?_
    refine J_imul Y qX9_drops_11 ?_
    refine J_aloadr_0 Y qX9_drops_12 ?_
    refine J_getR Y qX9_drops_13 fX9_37 (by decide) ?_
    refine J_iload_1 Y qX9_drops_16 ?_
    refine J_ialoadN (kx := s) Y qX9_drops_17 rfl (by decide) rfl (by omega) (by decide) ?_
    rw [mdS_49, hk]
    refine J_iadd Y qX9_drops_18 ?_
    refine J_iconst Y qX9_drops_19 ?_
    refine J_isub Y qX9_drops_20 ?_
    refine J_icmp_ge Y qX9_drops_21 (by omega) (by omega) (by omega) (by omega) (fun h21 => ?_) (fun h21 => ?_)
    · have hik : i + 1 = 8 * s + k := by omega
      refine J_aloadr_0 Y qX9_drops_58 ?_
      refine J_getR Y qX9_drops_59 fX9_37 (by decide) ?_
      refine J_iload_1 Y qX9_drops_62 ?_
      refine J_dup2 Y qX9_drops_63 rfl rfl ?_
      refine J_ialoadN (kx := s) Y qX9_drops_64 rfl (by decide) rfl (by omega) (by decide) ?_
      rw [mdS_49, hk]
      refine J_iconst Y qX9_drops_65 ?_
      refine J_isub Y qX9_drops_66 ?_
      refine J_iastoreN (kx := s) Y qX9_drops_67 rfl (by decide) rfl (by omega) (by decide) ?_
      exact J_vret X qX9_drops_68 ⟨rfl, by rw [hik]; rfl⟩
    · refine J_aloadr_0 Y qX9_drops_24 ?_
      refine J_getR Y qX9_drops_25 fX9_40 (by decide) ?_
      refine J_iload_3 Y qX9_drops_28 ?_
      refine J_aloadr_0 Y qX9_drops_29 ?_
      refine J_getR Y qX9_drops_30 fX9_40 (by decide) ?_
      refine J_iload_3 Y qX9_drops_33 ?_
      refine J_iconst Y qX9_drops_34 ?_
      refine J_iadd Y qX9_drops_35 ?_
      rw [show (i : Int) + 1 = ((i + 1 : Nat) : Int) by omega]
      refine J_ialoadN (kx := (i + 1)) Y qX9_drops_36 rfl (by decide) rfl (by omega) (by decide) ?_
      rw [mdS_50]
      refine J_iastoreN (kx := i) Y qX9_drops_37 rfl (by decide) rfl (by omega) (by decide) ?_
      refine J_aloadr_0 Y qX9_drops_38 ?_
      refine J_getR Y qX9_drops_39 fX9_43 (by decide) ?_
      refine J_iload_3 Y qX9_drops_42 ?_
      refine J_aloadr_0 Y qX9_drops_43 ?_
      refine J_getR Y qX9_drops_44 fX9_43 (by decide) ?_
      refine J_iload_3 Y qX9_drops_47 ?_
      refine J_iconst Y qX9_drops_48 ?_
      refine J_iadd Y qX9_drops_49 ?_
      rw [show (i : Int) + 1 = ((i + 1 : Nat) : Int) by omega]
      refine J_ialoadN (kx := (i + 1)) Y qX9_drops_50 rfl (by decide) rfl (by omega) (by decide) ?_
      rw [show up (mdS M (8 * s + g) (i + 1)) 50 0 i (M 50 0 (i + 1)) 51 0 (i + 1) = M 51 0 (i + 1) from mdS_51 M (8 * s + g) (i + 1)]
      refine J_iastoreN (kx := i) Y qX9_drops_51 rfl (by decide) rfl (by omega) (by decide) ?_
      refine J_iinc_3 Y qX9_drops_52 rfl ?_
      refine J_goto Y qX9_drops_55 ?_
      rw [mdS_step M (8 * s + g) i (by omega)]
      exact ih (i + 1) (by omega) (by omega) (by omega)

theorem m_drops (l : Launch) (G : Gx) (M : Mem) {s k g : Nat} (hs : s < 14) (hk : M 49 0 s = (k : Int)) (k8 : k ≤ 8) (hg : g < k) : Ct l G 1 yX9_drops cX9_drops 4 ((Option.none : Option Jvm.ClassFile.FieldType)) [rf G 9 0, vi (s : Nat), vi (g : Nat)] M (VF (mdr M s g k)) := by
  refine Ct.of rfl (Nat.le_of_ble_eq_true rfl) rfl (fun E X => ?_)
  have Y := X.ok
  refine J_bipush Y qX9_drops_0 (by decide) ?_
  refine J_iload_1 Y qX9_drops_2 ?_
  refine J_imul Y qX9_drops_3 ?_
  refine J_iload_2 Y qX9_drops_4 ?_
  refine J_iadd Y qX9_drops_5 ?_
  rw [show (8 : Int) * (s : Int) + (g : Int) = ((8 * s + g : Nat) : Int) by omega]
  refine J_istore_3 Y qX9_drops_6 rfl ?_
  have h := lp_drops hs hk k8 hg X (8 * s + k) (8 * s + g) (by omega) (by omega) (by omega)
  rwa [show mdS M (8 * s + g) (8 * s + g + 1) = M from by funext a b c; simp only [mdS, upR, shf]; grind] at h

theorem r_pay (l : Launch) (G : Gx) (M : Mem) {A : Mem} {n : Nat} {a b : Int} (a1 : -2147483648 ≤ a) (a2 : a < 2147483648) (b1 : -2147483648 ≤ b) (b2 : b < 2147483648) (hI : Inv n A) (hn : n < 512) (hM : MR A M)  : Ct l G 4 yX9_pay cX9_pay 4 ((Option.some Jvm.ClassFile.FieldType.int)) [rf G 9 0, vi a, vi b] M (QR (f_pay A a b) M) := by
  refine Ct.of rfl (Nat.le_of_ble_eq_true rfl) rfl (fun E X => ?_)
  have Y := X.ok
  obtain ⟨m1, m2, m3, m4, m5, m6⟩ := hM.r0
  obtain ⟨c1, c2⟩ := hI.count
  obtain ⟨d1, d2⟩ := hI.day
  refine J_aloadr_0 Y qX9_pay_0 ?_
  refine J_iload_1 Y qX9_pay_1 ?_
  refine J_cV1B Y qX9_pay_2 mX9_101 iyX9_isShop (by decide) rfl (by decide) rfl (Nat.le_of_ble_eq_true rfl) (m_isShop _ _ _ (by omega) (by omega) (by omega) (by omega)) (fun h2 => ?_) (fun h2 => ?_)
  · refine J_eq1 Y qX9_pay_5 ?_
    obtain ⟨s, rfl⟩ := nat_of (show 0 ≤ a by omega)
    obtain ⟨p1, p2, p3⟩ := hI.pawns (s := s) (by omega)
    obtain ⟨k, hk⟩ := nat_of p1
    obtain ⟨u1, u2⟩ := hM.rq s (by omega)
    have hd8 : sumN (fun j => M 51 0 (8 * s + j)) k = sumN (A 28 s) k := sumN_cong k (fun j hj => (u2 j (by omega)).2)
    refine J_iload_2 Y qX9_pay_8 ?_
    refine J_iconst Y qX9_pay_9 ?_
    refine J_aloadr_0 Y qX9_pay_10 ?_
    refine J_getR Y qX9_pay_11 fX9_37 (by decide) ?_
    refine J_iload_1 Y qX9_pay_14 ?_
    refine J_ialoadN (kx := s) Y qX9_pay_15 rfl (by decide) rfl (by omega) (by decide) ?_
    refine J_iconst Y qX9_pay_16 ?_
    refine J_isub Y qX9_pay_17 ?_
    refine J_cS3B Y qX9_pay_18 mX9_93 iyX9_in rfl (by decide) rfl (Nat.le_of_ble_eq_true rfl) (m_in _ _ _ (by omega) (by omega) (by omega) (by omega) (by omega) (by omega)) (fun h18 => ?_) (fun h18 => ?_)
    · refine J_ne1 Y qX9_pay_21 ?_
      obtain ⟨j, rfl⟩ := nat_of (show 0 ≤ b by omega)
      obtain ⟨t1, t2⟩ := u2 j (by omega)
      refine J_aloadr_0 Y qX9_pay_31 ?_
      refine J_getR Y qX9_pay_32 fX9_43 (by decide) ?_
      refine J_bipush Y qX9_pay_35 (by decide) ?_
      refine J_iload_1 Y qX9_pay_37 ?_
      refine J_imul Y qX9_pay_38 ?_
      refine J_iload_2 Y qX9_pay_39 ?_
      refine J_iadd Y qX9_pay_40 ?_
      rw [show (8 : Int) * (s : Int) + (j : Int) = ((8 * s + j : Nat) : Int) by omega]
      refine J_ialoadN (kx := (8 * s + j)) Y qX9_pay_41 rfl (by decide) rfl (by omega) (by decide) ?_
      refine J_istore_3 Y qX9_pay_42 rfl ?_
      refine J_aloadr_0 Y qX9_pay_43 ?_
      refine J_iload_1 Y qX9_pay_44 ?_
      refine J_iload_2 Y qX9_pay_45 ?_
      refine J_cV2W Y qX9_pay_46 mX9_115 iyX9_drops (by decide) rfl (by decide) rfl (Nat.le_of_ble_eq_true rfl) (m_drops _ _ _ (k := k) (by omega) (by omega) (by omega) (by omega)) ?_
      refine J_iload_3 Y qX9_pay_49 ?_
      exact J_iret X qX9_pay_50 (QR_e (by
        unfold f_pay
        try simp only [Int.toNat_natCast, hk]
        repeat (first | rewrite [if_pos trivial] | rewrite [if_pos (by omega)] | rewrite [if_neg (by omega)])
        exact rfl) (by first | rfl | (dsimp only; omega)) (by first | exact hM | exact MR_rfs hM (by decide) | exact MR_mdr hM (by omega) hk (by omega) (fun q hq => (hI.pawns hq).2.1)) (by first | exact Sm.rfl' | exact Sm_up (Or.inl (by decide)) | exact Sm_mdr))
    · refine J_ne0 Y qX9_pay_21 ?_
      refine J_aloadr_0 Y qX9_pay_24 ?_
      refine J_bipush Y qX9_pay_25 (by decide) ?_
      refine J_cV1F Y qX9_pay_27 mX9_97 iyX9_refuse (by decide) rfl (by decide) rfl (Nat.le_of_ble_eq_true rfl) (m_refuse _ _ _ 3 (by decide) rfl) ?_
      exact J_iret X qX9_pay_30 (QR_e (by
        unfold f_pay
        try simp only [Int.toNat_natCast, hk]
        repeat (first | rewrite [if_pos trivial] | rewrite [if_pos (by omega)] | rewrite [if_neg (by omega)])
        exact rfl) (by first | rfl | (dsimp only; omega)) (by first | exact hM | exact MR_rfs hM (by decide) | exact MR_mdr hM (by omega) hk (by omega) (fun q hq => (hI.pawns hq).2.1)) (by first | exact Sm.rfl' | exact Sm_up (Or.inl (by decide)) | exact Sm_mdr))
  · refine J_eq0 Y qX9_pay_5 ?_
    refine J_aloadr_0 Y qX9_pay_24 ?_
    refine J_bipush Y qX9_pay_25 (by decide) ?_
    refine J_cV1F Y qX9_pay_27 mX9_97 iyX9_refuse (by decide) rfl (by decide) rfl (Nat.le_of_ble_eq_true rfl) (m_refuse _ _ _ 3 (by decide) rfl) ?_
    exact J_iret X qX9_pay_30 (QR_e (by
      unfold f_pay
      try simp only [Int.toNat_natCast, hk]
      repeat (first | rewrite [if_pos trivial] | rewrite [if_pos (by omega)] | rewrite [if_neg (by omega)])
      exact rfl) (by first | rfl | (dsimp only; omega)) (by first | exact hM | exact MR_rfs hM (by decide) | exact MR_mdr hM (by omega) hk (by omega) (fun q hq => (hI.pawns hq).2.1)) (by first | exact Sm.rfl' | exact Sm_up (Or.inl (by decide)) | exact Sm_mdr))


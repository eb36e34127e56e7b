/-! ===== the reference: feed ===== -/
def fdN (M : Mem) (z : Int) (l n t : Nat) : Mem := up (upR M 58 0 (fun k => if l ≤ k ∧ k < l + t then fdB z n (k - l) else M 58 0 k)) 9 0 22 ((l : Int) + t)
theorem fdN_step (M : Mem) (z : Int) (l n t : Nat) : up (up (fdN M z l n t) 58 0 (l + t) (fdB z n t)) 9 0 22 (((l + t : Nat) : Int) + 1) = fdN M z l n (t + 1) := by
  funext a b c
  simp only [fdN, up, upR]
  grind
theorem fdN_0 (M : Mem) (z : Int) (l n : Nat) (h : M 9 0 22 = (l : Int)) : fdN M z l n 0 = M := by
  funext a b c
  simp only [fdN, up, upR]
  grind
theorem MR_fd {a N : Mem} {z : Int} {l n t : Nat} (h : MR a N) (hl : a 6 0 1 = (l : Int)) : MR (fdM a z l n t) (fdN N z l n t) := by
  obtain ⟨m1, m2, m3, m4, m5, m6⟩ := h.r0
  refine ⟨⟨m1, m2, m3, rfl, m5, m6⟩, h.rr, h.rs, h.rp, h.rl, h.rq, h.rh, h.rm, h.rt, h.ru, ?_, h.rb, h.rw⟩
  intro k hk
  have hk2 : (k : Int) < (l : Int) + t := hk
  show (if l ≤ k ∧ k < l + t then fdB z n (k - l) else N 58 0 k) = (if l ≤ k ∧ k < l + t then fdB z n (k - l) else a 29 0 k)
  by_cases e : l ≤ k ∧ k < l + t
  · rw [if_pos e, if_pos e]
  · rw [if_neg e, if_neg e]
    exact h.rf k (by omega)
theorem Sm_fd {N : Mem} {z : Int} {l n t : Nat} : Sm (fdN N z l n t) N := (Sm_up (Or.inr rfl)).tr (Sm_upR (Or.inl (by decide)))
theorem lp_mfeed {l : Launch} {G : Gx} {E : Fx} {d : Nat} {M : Mem} {a : Int} {r k : Nat} (a1 : -2147483648 ≤ a) (a2 : a < 2147483648) (hr : r + k ≤ 80) (hk : k ≤ 4) {P : Option Value → Mem → Prop} (hP : P (some (vi ((r : Int) + k))) (fdN M a r k k)) (X : OkM l G E cX9_feed RX9 4 d (some .int) P) : ∀ (n i : Nat), i ≤ k → k < i + n → J G E 45 [some (rf G 9 0), some (vi a), some (vi (k : Int)), some (vi ((k : Int) - 1 - (i : Int)))] [] (fdN M a r k i) := by
  have Y := X.ok
  intro n
  induction n with
  | zero => intro i h1 h2; exfalso; omega
  | succ n ih =>
    intro i h1 h2
    refine J_iload_3 Y qX9_feed_45 ?_
    refine J_if_lt Y qX9_feed_46 (by omega) (by omega) (fun h46 => ?_) (fun h46 => ?_)
    · obtain rfl : i = k := by omega
      refine J_aloadr_0 Y qX9_feed_84 ?_
      refine J_getI Y qX9_feed_85 fX9_130 (by decide) ?_
      rw [show fdN M a r i i 9 0 22 = (r : Int) + i from by simp [fdN, up]]
      exact J_iret X qX9_feed_88 hP
    · refine J_aloadr_0 Y qX9_feed_49 ?_
      refine J_getR Y qX9_feed_50 fX9_65 (by decide) ?_
      refine J_aloadr_0 Y qX9_feed_53 ?_
      refine J_getI Y qX9_feed_54 fX9_130 (by decide) ?_
      rw [show fdN M a r k i 9 0 22 = ((r + i : Nat) : Int) from by simp [fdN, up]]
      refine J_iload_1 Y qX9_feed_57 ?_
      refine J_bipush Y qX9_feed_58 (by decide) ?_
      refine J_iload_3 Y qX9_feed_60 ?_
      refine J_imul Y qX9_feed_61 ?_
      refine J_ishr Y (8 * (k - 1 - i)) qX9_feed_62 (by omega) (by omega) (by omega) (by omega) ?_
      refine J_sipush Y qX9_feed_63 (by decide) ?_
      refine J_mask Y 8 qX9_feed_66 (by decide) (by decide +kernel) ?_
      refine J_iastoreN (kx := (r + i)) Y qX9_feed_67 rfl (by decide) rfl (by omega) (by decide) ?_
      refine J_aloadr_0 Y qX9_feed_68 ?_
      refine J_dup Y qX9_feed_69 rfl ?_
      refine J_getI Y qX9_feed_70 fX9_130 (by decide) ?_
      refine J_iconst Y qX9_feed_73 ?_
      refine J_iadd Y qX9_feed_74 ?_
      refine J_putI Y qX9_feed_75 fX9_130w (by decide) ?_
      refine J_iinc_3 Y qX9_feed_78 rfl ?_
      refine J_goto Y qX9_feed_81 ?_
      rw [show a / 2 ^ (8 * (k - 1 - i)) % 2 ^ 8 = fdB a k i from rfl]
      rw [show up (fdN M a r k i) 58 0 (r + i) (fdB a k i) 9 0 22 = ((r + i : Nat) : Int) from by simp [fdN, up], fdN_step, show (k : Int) - 1 - (i : Int) + -1 = (k : Int) - 1 - ((i + 1 : Nat) : Int) by omega]
      exact ih (i + 1) (by omega) (by omega)

theorem r_feed (l : Launch) (G : Gx) (M : Mem) {A : Mem} {n : Nat} {a b : Int} (a1 : -2147483648 ≤ a) (a2 : a < 2147483648) (b1 : -2147483648 ≤ b) (b2 : b < 2147483648) (hI : Inv n A) (hn : n < 512) (hM : MR A M)  : Ct l G 4 yX9_feed cX9_feed 4 ((Option.some Jvm.ClassFile.FieldType.int)) [rf G 9 0, vi a, vi b] M (QR (f_feed A a b) M) := by
  refine Ct.of rfl (Nat.le_of_ble_eq_true rfl) rfl (fun E X => ?_)
  have Y := X.ok
  obtain ⟨m1, m2, m3, m4, m5, m6⟩ := hM.r0
  obtain ⟨c1, c2⟩ := hI.count
  obtain ⟨d1, d2⟩ := hI.day
  obtain ⟨t1, t2⟩ := hI.tape
  obtain ⟨r, hr⟩ := nat_of t1
  refine J_iload_2 Y qX9_feed_0 ?_
  refine J_if_ge Y qX9_feed_1 (by omega) (by omega) (fun h1 => ?_) (fun h1 => ?_)
  · refine J_iload_2 Y qX9_feed_11 ?_
    refine J_iconst Y qX9_feed_12 ?_
    refine J_icmp_le Y qX9_feed_13 (by omega) (by omega) (by omega) (by omega) (fun h13 => ?_) (fun h13 => ?_)
    · refine J_aloadr_0 Y qX9_feed_23 ?_
      refine J_getI Y qX9_feed_24 fX9_130 (by decide) ?_
      refine J_iload_2 Y qX9_feed_27 ?_
      refine J_iadd Y qX9_feed_28 ?_
      refine J_bipush Y qX9_feed_29 (by decide) ?_
      refine J_icmp_le Y qX9_feed_31 (by omega) (by omega) (by omega) (by omega) (fun h31 => ?_) (fun h31 => ?_)
      · refine J_iload_2 Y qX9_feed_41 ?_
        refine J_iconst Y qX9_feed_42 ?_
        refine J_isub Y qX9_feed_43 ?_
        refine J_istore_3 Y qX9_feed_44 rfl ?_
        obtain ⟨k, rfl⟩ := nat_of (show 0 ≤ b by omega)
        have h := lp_mfeed (r := r) (k := k) (M := M) (by omega) (by omega) (by omega) (by omega) (QR_e (show f_feed A a (k : Int) = ((r : Int) + k, fdM A a r k k) from by
          unfold f_feed
          simp only [hr, Int.toNat_natCast]
          rw [if_neg (by omega), if_neg (by omega), if_neg (by omega)]) rfl (MR_fd hM hr) Sm_fd) X (k + 1) 0 (by omega) (by omega)
        rw [fdN_0 M a r k (by omega)] at h
        simpa using h
      · refine J_aloadr_0 Y qX9_feed_34 ?_
        refine J_bipush Y qX9_feed_35 (by decide) ?_
        refine J_cV1F Y qX9_feed_37 mX9_97 iyX9_refuse (by decide) rfl (by decide) rfl (Nat.le_of_ble_eq_true rfl) (m_refuse _ _ _ 8 (by decide) rfl) ?_
        exact J_iret X qX9_feed_40 (QR_e (by
          unfold f_feed
          try simp only [Int.toNat_natCast]
          repeat (first | rewrite [if_pos trivial] | rewrite [if_pos (by omega)] | rewrite [if_neg (by omega)])
          exact rfl) (by first | rfl | (dsimp only; omega)) (by first | exact hM | exact MR_rfs hM (by decide)) (by first | exact Sm.rfl' | exact Sm_up (Or.inl (by decide))))
    · refine J_aloadr_0 Y qX9_feed_16 ?_
      refine J_bipush Y qX9_feed_17 (by decide) ?_
      refine J_cV1F Y qX9_feed_19 mX9_97 iyX9_refuse (by decide) rfl (by decide) rfl (Nat.le_of_ble_eq_true rfl) (m_refuse _ _ _ 7 (by decide) rfl) ?_
      exact J_iret X qX9_feed_22 (QR_e (by
        unfold f_feed
        try simp only [Int.toNat_natCast]
        repeat (first | rewrite [if_pos trivial] | rewrite [if_pos (by omega)] | rewrite [if_neg (by omega)])
        exact rfl) (by first | rfl | (dsimp only; omega)) (by first | exact hM | exact MR_rfs hM (by decide)) (by first | exact Sm.rfl' | exact Sm_up (Or.inl (by decide))))
  · refine J_aloadr_0 Y qX9_feed_4 ?_
    refine J_bipush Y qX9_feed_5 (by decide) ?_
    refine J_cV1F Y qX9_feed_7 mX9_97 iyX9_refuse (by decide) rfl (by decide) rfl (Nat.le_of_ble_eq_true rfl) (m_refuse _ _ _ 4 (by decide) rfl) ?_
    exact J_iret X qX9_feed_10 (QR_e (by
      unfold f_feed
      try simp only [Int.toNat_natCast]
      repeat (first | rewrite [if_pos trivial] | rewrite [if_pos (by omega)] | rewrite [if_neg (by omega)])
      exact rfl) (by first | rfl | (dsimp only; omega)) (by first | exact hM | exact MR_rfs hM (by decide)) (by first | exact Sm.rfl' | exact Sm_up (Or.inl (by decide))))


/-! ===== the reference: small calls ===== -/
section MRU
variable {a N : Mem}
theorem MR_wipe (h : MR a N) : MR (up a 6 0 1 0) (up N 9 0 22 0) := by
  obtain ⟨m1, m2, m3, m4, m5, m6⟩ := h.r0
  exact ⟨⟨m1, m2, m3, rfl, m5, m6⟩, h.rr, h.rs, h.rp, h.rl, h.rq, h.rh, h.rm, h.rt, h.ru, fun k hk => by rw [up_same] at hk; omega, h.rb, h.rw⟩
theorem MR_tear {v : Int} (h : MR a N) : MR (up a 8 0 8 v) (up N 9 0 35 v) := by
  obtain ⟨m1, m2, m3, m4, m5, m6⟩ := h.r0
  exact ⟨⟨m1, m2, m3, m4, m5, rfl⟩, h.rr, h.rs, h.rp, h.rl, h.rq, h.rh, h.rm, h.rt, h.ru, h.rf, h.rb, h.rw⟩
theorem MR_takes {k : Nat} {v : Int} (h : MR a N) : MR (up a 12 0 k v) (up N 56 0 k v) := by
  refine ⟨h.r0, h.rr, h.rs, h.rp, h.rl, h.rq, h.rh, h.rm, ?_, h.ru, h.rf, h.rb, h.rw⟩
  intro j hj
  have := h.rt j hj
  simp only [up]
  grind
theorem MR_lett {s : Nat} {p t r : Int} (h : MR a N) : MR (lett a s p t r) (up (up (up N 46 0 s p) 47 0 s t) 48 0 s r) := by
  refine ⟨h.r0, h.rr, ?_, h.rp, ?_, ?_, h.rh, h.rm, h.rt, h.ru, h.rf, h.rb, h.rw⟩
  · intro u hu
    have := h.rs u hu
    simpa [lett, up] using this
  · intro u hu
    have := h.rl u hu
    by_cases e : u = s
    · subst e; simp [lett, up]
    · simp [lett, up, e]; exact this
  · intro u hu
    have := h.rq u hu
    simpa [lett, up] using this
theorem MR_addH {p k : Nat} {b c : Int} (h : MR a N) (hk : a 7 p 2 = (k : Int)) (hk4 : k < 4) (h4 : ∀ q, q < 10 → a 7 q 2 ≤ 4) : MR (addH a p k b c) (up (up (up N 53 0 (4 * p + k) b) 54 0 (4 * p + k) c) 52 0 p ((k : Int) + 1)) := by
  refine ⟨h.r0, h.rr, h.rs, h.rp, h.rl, h.rq, ?_, h.rm, h.rt, h.ru, h.rf, h.rb, h.rw⟩
  intro q hq
  obtain ⟨h1, h2⟩ := h.rh q hq
  by_cases e : q = p
  · subst e
    refine ⟨by simp [addH, up], fun j hj => ?_⟩
    have hj2 : (j : Int) < k + 1 := by simpa [addH, up] using hj
    by_cases e2 : j = k
    · subst e2; simp [addH, up]
    · have := h2 j (by omega)
      simp [addH, up, e2]; exact this
  · have hj0 : addH a p k b c 7 q 2 = a 7 q 2 := by simp [addH, up, e]
    refine ⟨by simp [addH, up, e]; exact h1, fun j hj => ?_⟩
    rw [hj0] at hj
    have := h2 j hj
    have hq4 := h4 q hq
    unfold addH
    constructor
    · rw [up_ne (by omega), up_ne (by omega), up_ne (by omega), up_ne (by omega), up_ne (by omega), up_ne (by omega)]
      exact this.1
    · rw [up_ne (by omega), up_ne (by omega), up_ne (by omega), up_ne (by omega), up_ne (by omega), up_ne (by omega)]
      exact this.2
theorem MR_addP {s k : Nat} {b c : Int} (h : MR a N) (hk : a 5 s 11 = (k : Int)) (hk4 : k < 8) (h4 : ∀ q, q < 14 → a 5 q 11 ≤ 8) : MR (addP a s k b c) (up (up (up N 50 0 (8 * s + k) b) 51 0 (8 * s + k) c) 49 0 s ((k : Int) + 1)) := by
  refine ⟨h.r0, h.rr, ?_, h.rp, ?_, ?_, h.rh, h.rm, h.rt, h.ru, h.rf, h.rb, h.rw⟩
  · intro u hu
    have := h.rs u hu
    simpa [addP, up] using this
  · intro u hu
    have := h.rl u hu
    simpa [addP, up] using this
  intro q hq
  obtain ⟨h1, h2⟩ := h.rq q hq
  by_cases e : q = s
  · subst e
    refine ⟨by simp [addP, up], fun j hj => ?_⟩
    have hj2 : (j : Int) < k + 1 := by simpa [addP, up] using hj
    by_cases e2 : j = k
    · subst e2; simp [addP, up]
    · have := h2 j (by omega)
      simp [addP, up, e2]; exact this
  · have hj0 : addP a s k b c 5 q 11 = a 5 q 11 := by simp [addP, up, e]
    refine ⟨by simp [addP, up, e]; exact h1, fun j hj => ?_⟩
    rw [hj0] at hj
    have := h2 j hj
    have hq4 := h4 q hq
    unfold addP
    constructor
    · rw [up_ne (by omega), up_ne (by omega), up_ne (by omega), up_ne (by omega), up_ne (by omega), up_ne (by omega)]
      exact this.1
    · rw [up_ne (by omega), up_ne (by omega), up_ne (by omega), up_ne (by omega), up_ne (by omega), up_ne (by omega)]
      exact this.2
end MRU
theorem r_wipe (l : Launch) (G : Gx) (M : Mem) {A : Mem} {n : Nat}  (hI : Inv n A) (hn : n < 512) (hM : MR A M)  : Ct l G 4 yX9_wipe cX9_wipe 2 ((Option.some Jvm.ClassFile.FieldType.int)) [rf G 9 0] M (QR (f_wipe A ) M) := by
  refine Ct.of rfl (Nat.le_of_ble_eq_true rfl) rfl (fun E X => ?_)
  have Y := X.ok
  obtain ⟨m1, m2, m3, m4, m5, m6⟩ := hM.r0
  obtain ⟨c1, c2⟩ := hI.count
  obtain ⟨d1, d2⟩ := hI.day
  refine J_aloadr_0 Y qX9_wipe_0 ?_
  refine J_getI Y qX9_wipe_1 fX9_130 (by decide) ?_
  refine J_istore_1 Y qX9_wipe_4 rfl ?_
  refine J_aloadr_0 Y qX9_wipe_5 ?_
  refine J_iconst Y qX9_wipe_6 ?_
  refine J_putI Y qX9_wipe_7 fX9_130w (by decide) ?_
  refine J_iload_1 Y qX9_wipe_10 ?_
  exact J_iret X qX9_wipe_11 (QR_e (by
    unfold f_wipe
    try simp only [Int.toNat_natCast]
    repeat (first | rewrite [if_pos trivial] | rewrite [if_pos (by omega)] | rewrite [if_neg (by omega)])
    exact rfl) (by first | rfl | (dsimp only; omega)) (by first | exact hM | exact MR_rfs hM (by decide) | exact MR_wipe hM) (by first | exact Sm.rfl' | exact Sm_up (Or.inl (by decide)) | exact Sm_up (Or.inr rfl)))

theorem r_tear (l : Launch) (G : Gx) (M : Mem) {A : Mem} {n : Nat}  (hI : Inv n A) (hn : n < 512) (hM : MR A M)  : Ct l G 4 yX9_tear cX9_tear 2 ((Option.some Jvm.ClassFile.FieldType.int)) [rf G 9 0] M (QR (f_tear A ) M) := by
  refine Ct.of rfl (Nat.le_of_ble_eq_true rfl) rfl (fun E X => ?_)
  have Y := X.ok
  obtain ⟨m1, m2, m3, m4, m5, m6⟩ := hM.r0
  obtain ⟨c1, c2⟩ := hI.count
  obtain ⟨d1, d2⟩ := hI.day
  have hl := hI.laid
  refine J_aloadr_0 Y qX9_tear_0 ?_
  refine J_getI Y qX9_tear_1 fX9_228 (by decide) ?_
  refine J_istore_1 Y qX9_tear_4 rfl ?_
  refine J_aloadr_0 Y qX9_tear_5 ?_
  refine J_iconst Y qX9_tear_6 ?_
  refine J_putZ Y qX9_tear_7 fX9_228w (Or.inl rfl) (by decide) ?_
  refine J_iload_1 Y qX9_tear_10 ?_
  skip
  refine J_if_eq Y qX9_tear_11 (by omega) (by omega) (fun h11 => ?_) (fun h11 => ?_)
  · refine J_iconst Y qX9_tear_18 ?_
    exact J_iret X qX9_tear_19 (QR_e (by
      unfold f_tear
      try simp only [Int.toNat_natCast]
      repeat (first | rewrite [if_pos trivial] | rewrite [if_pos (by omega)] | rewrite [if_neg (by omega)])
      exact rfl) (by first | rfl | (dsimp only; omega)) (by first | exact hM | exact MR_rfs hM (by decide) | exact MR_tear hM) (by first | exact Sm.rfl' | exact Sm_up (Or.inl (by decide)) | exact Sm_up (Or.inr rfl)))
  · refine J_iconst Y qX9_tear_14 ?_
    refine J_goto Y qX9_tear_15 ?_
    exact J_iret X qX9_tear_19 (QR_e (by
      unfold f_tear
      try simp only [Int.toNat_natCast]
      repeat (first | rewrite [if_pos trivial] | rewrite [if_pos (by omega)] | rewrite [if_neg (by omega)])
      exact rfl) (by first | rfl | (dsimp only; omega)) (by first | exact hM | exact MR_rfs hM (by decide) | exact MR_tear hM) (by first | exact Sm.rfl' | exact Sm_up (Or.inl (by decide)) | exact Sm_up (Or.inr rfl)))

theorem r_takes (l : Launch) (G : Gx) (M : Mem) {A : Mem} {n : Nat} {a b : Int} (a1 : -2147483648 ≤ a) (a2 : a < 2147483648) (b1 : -2147483648 ≤ b) (b2 : b < 2147483648) (hI : Inv n A) (hn : n < 512) (hM : MR A M)  : Ct l G 4 yX9_takes cX9_takes 4 ((Option.some Jvm.ClassFile.FieldType.int)) [rf G 9 0, vi a, vi b] M (QR (f_takes A a b) M) := by
  refine Ct.of rfl (Nat.le_of_ble_eq_true rfl) rfl (fun E X => ?_)
  have Y := X.ok
  obtain ⟨m1, m2, m3, m4, m5, m6⟩ := hM.r0
  obtain ⟨c1, c2⟩ := hI.count
  obtain ⟨d1, d2⟩ := hI.day
  refine J_iload_1 Y qX9_takes_0 ?_
  refine J_iconst Y qX9_takes_1 ?_
  refine J_iconst Y qX9_takes_2 ?_
  refine J_cS3B Y qX9_takes_3 mX9_93 iyX9_in rfl (by decide) rfl (Nat.le_of_ble_eq_true rfl) (m_in _ _ _ (by omega) (by omega) (by omega) (by omega) (by omega) (by omega)) (fun h3 => ?_) (fun h3 => ?_)
  · refine J_ne1 Y qX9_takes_6 ?_
    refine J_iload_2 Y qX9_takes_16 ?_
    refine J_iconst Y qX9_takes_17 ?_
    refine J_bipush Y qX9_takes_18 (by decide) ?_
    refine J_cS3B Y qX9_takes_20 mX9_93 iyX9_in rfl (by decide) rfl (Nat.le_of_ble_eq_true rfl) (m_in _ _ _ (by omega) (by omega) (by omega) (by omega) (by omega) (by omega)) (fun h20 => ?_) (fun h20 => ?_)
    · refine J_ne1 Y qX9_takes_23 ?_
      obtain ⟨s, rfl⟩ := nat_of (show 0 ≤ a by omega)
      have ht := hM.rt s (by omega)
      refine J_aloadr_0 Y qX9_takes_33 ?_
      refine J_getR Y qX9_takes_34 fX9_59 (by decide) ?_
      refine J_iload_1 Y qX9_takes_37 ?_
      refine J_ialoadN (kx := s) Y qX9_takes_38 rfl (by decide) rfl (by omega) (by decide) ?_
      refine J_istore_3 Y qX9_takes_39 rfl ?_
      refine J_aloadr_0 Y qX9_takes_40 ?_
      refine J_getR Y qX9_takes_41 fX9_59 (by decide) ?_
      refine J_iload_1 Y qX9_takes_44 ?_
      refine J_iload_2 Y qX9_takes_45 ?_
      refine J_iastoreN (kx := s) Y qX9_takes_46 rfl (by decide) rfl (by omega) (by decide) ?_
      refine J_iload_3 Y qX9_takes_47 ?_
      exact J_iret X qX9_takes_48 (QR_e (by
        unfold f_takes
        try simp only [Int.toNat_natCast]
        repeat (first | rewrite [if_pos trivial] | rewrite [if_pos (by omega)] | rewrite [if_neg (by omega)])
        exact rfl) (by first | rfl | (dsimp only; omega)) (by first | exact hM | exact MR_rfs hM (by decide) | exact MR_takes hM) (by first | exact Sm.rfl' | exact Sm_up (Or.inl (by decide))))
    · refine J_ne0 Y qX9_takes_23 ?_
      refine J_aloadr_0 Y qX9_takes_26 ?_
      refine J_bipush Y qX9_takes_27 (by decide) ?_
      refine J_cV1F Y qX9_takes_29 mX9_97 iyX9_refuse (by decide) rfl (by decide) rfl (Nat.le_of_ble_eq_true rfl) (m_refuse _ _ _ 7 (by decide) rfl) ?_
      exact J_iret X qX9_takes_32 (QR_e (by
        unfold f_takes
        try simp only [Int.toNat_natCast]
        repeat (first | rewrite [if_pos trivial] | rewrite [if_pos (by omega)] | rewrite [if_neg (by omega)])
        exact rfl) (by first | rfl | (dsimp only; omega)) (by first | exact hM | exact MR_rfs hM (by decide) | exact MR_takes hM) (by first | exact Sm.rfl' | exact Sm_up (Or.inl (by decide))))
  · refine J_ne0 Y qX9_takes_6 ?_
    refine J_aloadr_0 Y qX9_takes_9 ?_
    refine J_bipush Y qX9_takes_10 (by decide) ?_
    refine J_cV1F Y qX9_takes_12 mX9_97 iyX9_refuse (by decide) rfl (by decide) rfl (Nat.le_of_ble_eq_true rfl) (m_refuse _ _ _ 3 (by decide) rfl) ?_
    exact J_iret X qX9_takes_15 (QR_e (by
      unfold f_takes
      try simp only [Int.toNat_natCast]
      repeat (first | rewrite [if_pos trivial] | rewrite [if_pos (by omega)] | rewrite [if_neg (by omega)])
      exact rfl) (by first | rfl | (dsimp only; omega)) (by first | exact hM | exact MR_rfs hM (by decide) | exact MR_takes hM) (by first | exact Sm.rfl' | exact Sm_up (Or.inl (by decide))))

theorem r_planned (l : Launch) (G : Gx) (M : Mem) {A : Mem} {n : Nat} {a b : Int} (a1 : -2147483648 ≤ a) (a2 : a < 2147483648) (b1 : -2147483648 ≤ b) (b2 : b < 2147483648) (hI : Inv n A) (hn : n < 512) (hM : MR A M) (hb : b = 0 ∨ b = 1) : Ct l G 4 yX9_planned cX9_planned 3 ((Option.some Jvm.ClassFile.FieldType.int)) [rf G 9 0, vi a, vi b] M (QR (f_planned A a b) M) := by
  refine Ct.of rfl (Nat.le_of_ble_eq_true rfl) rfl (fun E X => ?_)
  have Y := X.ok
  obtain ⟨m1, m2, m3, m4, m5, m6⟩ := hM.r0
  obtain ⟨c1, c2⟩ := hI.count
  obtain ⟨d1, d2⟩ := hI.day
  obtain ⟨z1, z2⟩ := hI.size
  refine J_aloadr_0 Y qX9_planned_0 ?_
  refine J_getI Y qX9_planned_1 fX9_204 (by decide) ?_
  refine J_if_ne Y qX9_planned_4 (by omega) (by omega) (fun h4 => ?_) (fun h4 => ?_)
  · refine J_iload_1 Y qX9_planned_14 ?_
    refine J_iconst Y qX9_planned_15 ?_
    refine J_aloadr_0 Y qX9_planned_16 ?_
    refine J_getI Y qX9_planned_17 fX9_204 (by decide) ?_
    refine J_iconst Y qX9_planned_20 ?_
    refine J_isub Y qX9_planned_21 ?_
    refine J_cS3B Y qX9_planned_22 mX9_93 iyX9_in rfl (by decide) rfl (Nat.le_of_ble_eq_true rfl) (m_in _ _ _ (by omega) (by omega) (by omega) (by omega) (by omega) (by omega)) (fun h22 => ?_) (fun h22 => ?_)
    · refine J_ne1 Y qX9_planned_25 ?_
      obtain ⟨s, rfl⟩ := nat_of (show 0 ≤ a by omega)
      have ht := hM.rb s (by omega)
      refine J_iload_2 Y qX9_planned_35 ?_
      refine J_if_eq Y qX9_planned_36 (by omega) (by omega) (fun h36 => ?_) (fun h36 => ?_)
      · refine J_aloadr_0 Y qX9_planned_48 ?_
        refine J_getR Y qX9_planned_49 fX9_74 (by decide) ?_
        refine J_iload_1 Y qX9_planned_52 ?_
        refine J_ialoadN (kx := s) Y qX9_planned_53 rfl (by decide) rfl (by omega) (by decide) ?_
        exact J_iret X qX9_planned_54 (QR_e (by
          unfold f_planned
          try simp only [Int.toNat_natCast]
          repeat (first | rewrite [if_pos trivial] | rewrite [if_pos (by omega)] | rewrite [if_neg (by omega)])
          exact rfl) (by first | rfl | (dsimp only; omega)) (by first | exact hM | exact MR_rfs hM (by decide)) (by first | exact Sm.rfl' | exact Sm_up (Or.inl (by decide))))
      · refine J_aloadr_0 Y qX9_planned_39 ?_
        refine J_getR Y qX9_planned_40 fX9_77 (by decide) ?_
        refine J_iload_1 Y qX9_planned_43 ?_
        refine J_ialoadN (kx := s) Y qX9_planned_44 rfl (by decide) rfl (by omega) (by decide) ?_
        refine J_goto Y qX9_planned_45 ?_
        exact J_iret X qX9_planned_54 (QR_e (by
          unfold f_planned
          try simp only [Int.toNat_natCast]
          repeat (first | rewrite [if_pos trivial] | rewrite [if_pos (by omega)] | rewrite [if_neg (by omega)])
          exact rfl) (by first | rfl | (dsimp only; omega)) (by first | exact hM | exact MR_rfs hM (by decide)) (by first | exact Sm.rfl' | exact Sm_up (Or.inl (by decide))))
    · refine J_ne0 Y qX9_planned_25 ?_
      refine J_aloadr_0 Y qX9_planned_28 ?_
      refine J_bipush Y qX9_planned_29 (by decide) ?_
      refine J_cV1F Y qX9_planned_31 mX9_97 iyX9_refuse (by decide) rfl (by decide) rfl (Nat.le_of_ble_eq_true rfl) (m_refuse _ _ _ 3 (by decide) rfl) ?_
      exact J_iret X qX9_planned_34 (QR_e (by
        unfold f_planned
        try simp only [Int.toNat_natCast]
        repeat (first | rewrite [if_pos trivial] | rewrite [if_pos (by omega)] | rewrite [if_neg (by omega)])
        exact rfl) (by first | rfl | (dsimp only; omega)) (by first | exact hM | exact MR_rfs hM (by decide)) (by first | exact Sm.rfl' | exact Sm_up (Or.inl (by decide))))
  · refine J_aloadr_0 Y qX9_planned_7 ?_
    refine J_bipush Y qX9_planned_8 (by decide) ?_
    refine J_cV1F Y qX9_planned_10 mX9_97 iyX9_refuse (by decide) rfl (by decide) rfl (Nat.le_of_ble_eq_true rfl) (m_refuse _ _ _ 2 (by decide) rfl) ?_
    exact J_iret X qX9_planned_13 (QR_e (by
      unfold f_planned
      try simp only [Int.toNat_natCast]
      repeat (first | rewrite [if_pos trivial] | rewrite [if_pos (by omega)] | rewrite [if_neg (by omega)])
      exact rfl) (by first | rfl | (dsimp only; omega)) (by first | exact hM | exact MR_rfs hM (by decide)) (by first | exact Sm.rfl' | exact Sm_up (Or.inl (by decide))))

theorem r_row (l : Launch) (G : Gx) (M : Mem) {A : Mem} {n : Nat} {a : Int} (a1 : -2147483648 ≤ a) (a2 : a < 2147483648) (hI : Inv n A) (hn : n < 512) (hM : MR A M)  : Ct l G 4 yX9_row cX9_row 2 ((Option.some Jvm.ClassFile.FieldType.int)) [rf G 9 0, vi a] M (QR (f_row A a) M) := by
  refine Ct.of rfl (Nat.le_of_ble_eq_true rfl) rfl (fun E X => ?_)
  have Y := X.ok
  obtain ⟨m1, m2, m3, m4, m5, m6⟩ := hM.r0
  obtain ⟨c1, c2⟩ := hI.count
  obtain ⟨d1, d2⟩ := hI.day
  have hl := hI.laid
  refine J_aloadr_0 Y qX9_row_0 ?_
  refine J_getI Y qX9_row_1 fX9_228 (by decide) ?_
  refine J_if_ne Y qX9_row_4 (by omega) (by omega) (fun h4 => ?_) (fun h4 => ?_)
  · refine J_iload_1 Y qX9_row_14 ?_
    refine J_iconst Y qX9_row_15 ?_
    refine J_bipush Y qX9_row_16 (by decide) ?_
    refine J_cS3B Y qX9_row_18 mX9_93 iyX9_in rfl (by decide) rfl (Nat.le_of_ble_eq_true rfl) (m_in _ _ _ (by omega) (by omega) (by omega) (by omega) (by omega) (by omega)) (fun h18 => ?_) (fun h18 => ?_)
    · refine J_eq1 Y qX9_row_21 ?_
      obtain ⟨s, rfl⟩ := nat_of (show 0 ≤ a by omega)
      have ht := hM.rw s (by omega)
      refine J_aloadr_0 Y qX9_row_24 ?_
      refine J_getR Y qX9_row_25 fX9_83 (by decide) ?_
      refine J_iload_1 Y qX9_row_28 ?_
      refine J_ialoadN (kx := s) Y qX9_row_29 rfl (by decide) rfl (by omega) (by decide) ?_
      refine J_goto Y qX9_row_30 ?_
      exact J_iret X qX9_row_39 (QR_e (by
        unfold f_row
        try simp only [Int.toNat_natCast]
        repeat (first | rewrite [if_pos trivial] | rewrite [if_pos (by omega)] | rewrite [if_neg (by omega)])
        exact rfl) (by first | rfl | (dsimp only; omega)) (by first | exact hM | exact MR_rfs hM (by decide)) (by first | exact Sm.rfl' | exact Sm_up (Or.inl (by decide))))
    · refine J_eq0 Y qX9_row_21 ?_
      refine J_aloadr_0 Y qX9_row_33 ?_
      refine J_bipush Y qX9_row_34 (by decide) ?_
      refine J_cV1F Y qX9_row_36 mX9_97 iyX9_refuse (by decide) rfl (by decide) rfl (Nat.le_of_ble_eq_true rfl) (m_refuse _ _ _ 3 (by decide) rfl) ?_
      exact J_iret X qX9_row_39 (QR_e (by
        unfold f_row
        try simp only [Int.toNat_natCast]
        repeat (first | rewrite [if_pos trivial] | rewrite [if_pos (by omega)] | rewrite [if_neg (by omega)])
        exact rfl) (by first | rfl | (dsimp only; omega)) (by first | exact hM | exact MR_rfs hM (by decide)) (by first | exact Sm.rfl' | exact Sm_up (Or.inl (by decide))))
  · refine J_aloadr_0 Y qX9_row_7 ?_
    refine J_bipush Y qX9_row_8 (by decide) ?_
    refine J_cV1F Y qX9_row_10 mX9_97 iyX9_refuse (by decide) rfl (by decide) rfl (Nat.le_of_ble_eq_true rfl) (m_refuse _ _ _ 2 (by decide) rfl) ?_
    exact J_iret X qX9_row_13 (QR_e (by
      unfold f_row
      try simp only [Int.toNat_natCast]
      repeat (first | rewrite [if_pos trivial] | rewrite [if_pos (by omega)] | rewrite [if_neg (by omega)])
      exact rfl) (by first | rfl | (dsimp only; omega)) (by first | exact hM | exact MR_rfs hM (by decide)) (by first | exact Sm.rfl' | exact Sm_up (Or.inl (by decide))))

theorem r_status (l : Launch) (G : Gx) (M : Mem) {A : Mem} {n : Nat} {a : Int} (a1 : -2147483648 ≤ a) (a2 : a < 2147483648) (hI : Inv n A) (hn : n < 512) (hM : MR A M)  : Ct l G 4 yX9_status cX9_status 2 ((Option.some Jvm.ClassFile.FieldType.int)) [rf G 9 0, vi a] M (QR (f_status A a) M) := by
  refine Ct.of rfl (Nat.le_of_ble_eq_true rfl) rfl (fun E X => ?_)
  have Y := X.ok
  obtain ⟨m1, m2, m3, m4, m5, m6⟩ := hM.r0
  obtain ⟨c1, c2⟩ := hI.count
  obtain ⟨d1, d2⟩ := hI.day
  refine J_iload_1 Y qX9_status_0 ?_
  refine J_bipush Y qX9_status_1 (by decide) ?_
  refine J_bipush Y qX9_status_3 (by decide) ?_
  refine J_cS3B Y qX9_status_5 mX9_93 iyX9_in rfl (by decide) rfl (Nat.le_of_ble_eq_true rfl) (m_in _ _ _ (by omega) (by omega) (by omega) (by omega) (by omega) (by omega)) (fun h5 => ?_) (fun h5 => ?_)
  · refine J_eq1 Y qX9_status_8 ?_
    obtain ⟨w, hw⟩ := nat_of (show 0 ≤ -a by omega)
    obtain rfl : a = -(w : Int) := by omega
    have ht := hM.rr w (by omega)
    refine J_aloadr_0 Y qX9_status_11 ?_
    refine J_getR Y qX9_status_12 fX9_7 (by decide) ?_
    refine J_iload_1 Y qX9_status_15 ?_
    refine J_ineg Y qX9_status_16 ?_
    rw [Int.neg_neg]
    refine J_ialoadN (kx := w) Y qX9_status_17 rfl (by decide) rfl (by omega) (by decide) ?_
    refine J_goto Y qX9_status_18 ?_
    exact J_iret X qX9_status_27 (QR_e (by
      unfold f_status
      try simp only [Int.toNat_natCast, Int.neg_neg]
      repeat (first | rewrite [if_pos trivial] | rewrite [if_pos (by omega)] | rewrite [if_neg (by omega)])
      exact rfl) (by first | rfl | (dsimp only; omega)) (by first | exact hM | exact MR_rfs hM (by decide)) (by first | exact Sm.rfl' | exact Sm_up (Or.inl (by decide))))
  · refine J_eq0 Y qX9_status_8 ?_
    refine J_aloadr_0 Y qX9_status_21 ?_
    refine J_bipush Y qX9_status_22 (by decide) ?_
    refine J_cV1F Y qX9_status_24 mX9_97 iyX9_refuse (by decide) rfl (by decide) rfl (Nat.le_of_ble_eq_true rfl) (m_refuse _ _ _ 7 (by decide) rfl) ?_
    exact J_iret X qX9_status_27 (QR_e (by
      unfold f_status
      try simp only [Int.toNat_natCast, Int.neg_neg]
      repeat (first | rewrite [if_pos trivial] | rewrite [if_pos (by omega)] | rewrite [if_neg (by omega)])
      exact rfl) (by first | rfl | (dsimp only; omega)) (by first | exact hM | exact MR_rfs hM (by decide)) (by first | exact Sm.rfl' | exact Sm_up (Or.inl (by decide))))

def QL (p : Int × Mem) (N : Mem) : Option Value → Mem → Prop := RLg (fun z N2 => z = p.1 ∧ MR p.2 N2 ∧ Sm N2 N)
theorem QL_e {p q : Int × Mem} {N N2 : Mem} {z : Int} (h : p = q) (hz : z = q.1) (hM : MR q.2 N2) (hS : Sm N2 N) : QL p N (some (vl z)) N2 := by subst h; exact ⟨z, rfl, hz, hM, hS⟩
theorem r_purse (l : Launch) (G : Gx) (M : Mem) {A : Mem} {n : Nat} {a : Int} (a1 : -2147483648 ≤ a) (a2 : a < 2147483648) (hI : Inv n A) (hn : n < 512) (hM : MR A M)  : Ct l G 4 yX9_purse cX9_purse 3 ((Option.some Jvm.ClassFile.FieldType.long)) [rf G 9 0, vi a] M (QL (f_purse A a) M) := by
  refine Ct.of rfl (Nat.le_of_ble_eq_true rfl) rfl (fun E X => ?_)
  have Y := X.ok
  obtain ⟨m1, m2, m3, m4, m5, m6⟩ := hM.r0
  obtain ⟨c1, c2⟩ := hI.count
  obtain ⟨d1, d2⟩ := hI.day
  refine J_iload_1 Y qX9_purse_0 ?_
  refine J_cS1B Y qX9_purse_1 mX9_108 iyX9_isPerson rfl (by decide) rfl (Nat.le_of_ble_eq_true rfl) (m_isPerson _ _ _ (by omega) (by omega)) (fun h1 => ?_) (fun h1 => ?_)
  · refine J_ne1 Y qX9_purse_4 ?_
    obtain ⟨s, rfl⟩ := nat_of (show 0 ≤ a by omega)
    have ht := hM.rm s (by omega)
    refine J_aloadr_0 Y qX9_purse_16 ?_
    refine J_getR Y qX9_purse_17 fX9_55 (by decide) ?_
    refine J_iload_1 Y qX9_purse_20 ?_
    refine J_laloadN (kx := s) Y qX9_purse_21 rfl (by decide) rfl (by omega) (by decide) ?_
    exact J_lret X qX9_purse_22 (QL_e (by
      unfold f_purse
      try simp only [Int.toNat_natCast]
      repeat (first | rewrite [if_pos trivial] | rewrite [if_pos (by omega)] | rewrite [if_neg (by omega)])
      exact rfl) (by first | rfl | (dsimp only; omega)) (by first | exact hM | exact MR_rfs hM (by decide)) (by first | exact Sm.rfl' | exact Sm_up (Or.inl (by decide))))
  · refine J_ne0 Y qX9_purse_4 ?_
    refine J_aloadr_0 Y qX9_purse_7 ?_
    refine J_bipush Y qX9_purse_8 (by decide) ?_
    refine J_cV1F Y qX9_purse_10 mX9_97 iyX9_refuse (by decide) rfl (by decide) rfl (Nat.le_of_ble_eq_true rfl) (m_refuse _ _ _ 3 (by decide) rfl) ?_
    refine J_istore_2 Y qX9_purse_13 rfl ?_
    refine J_lconst0 Y qX9_purse_14 ?_
    exact J_lret X qX9_purse_15 (QL_e (by
      unfold f_purse
      try simp only [Int.toNat_natCast]
      repeat (first | rewrite [if_pos trivial] | rewrite [if_pos (by omega)] | rewrite [if_neg (by omega)])
      exact rfl) (by first | rfl | (dsimp only; omega)) (by first | exact hM | exact MR_rfs hM (by decide)) (by first | exact Sm.rfl' | exact Sm_up (Or.inl (by decide))))

theorem r_let (l : Launch) (G : Gx) (M : Mem) {A : Mem} {n : Nat} {a b c e : Int} (a1 : -2147483648 ≤ a) (a2 : a < 2147483648) (b1 : -2147483648 ≤ b) (b2 : b < 2147483648) (c1 : -2147483648 ≤ c) (c2 : c < 2147483648) (e1 : -2147483648 ≤ e) (e2 : e < 2147483648) (hI : Inv n A) (hn : n < 512) (hM : MR A M)  : Ct l G 4 yX9_let cX9_let 5 ((Option.some Jvm.ClassFile.FieldType.int)) [rf G 9 0, vi a, vi b, vi c, vi e] M (QR (f_let A a b c e) M) := by
  refine Ct.of rfl (Nat.le_of_ble_eq_true rfl) rfl (fun E X => ?_)
  have Y := X.ok
  obtain ⟨m1, m2, m3, m4, m5, m6⟩ := hM.r0
  obtain ⟨c1, c2⟩ := hI.count
  obtain ⟨d1, d2⟩ := hI.day
  refine J_aloadr_0 Y qX9_let_0 ?_
  refine J_iload_1 Y qX9_let_1 ?_
  refine J_cV1B Y qX9_let_2 mX9_101 iyX9_isShop (by decide) rfl (by decide) rfl (Nat.le_of_ble_eq_true rfl) (m_isShop _ _ _ (by omega) (by omega) (by omega) (by omega)) (fun h2 => ?_) (fun h2 => ?_)
  · refine J_eq1 Y qX9_let_5 ?_
    refine J_iload_2 Y qX9_let_8 ?_
    refine J_iconst Y qX9_let_9 ?_
    refine J_bipush Y qX9_let_10 (by decide) ?_
    refine J_cS3B Y qX9_let_12 mX9_93 iyX9_in rfl (by decide) rfl (Nat.le_of_ble_eq_true rfl) (m_in _ _ _ (by omega) (by omega) (by omega) (by omega) (by omega) (by omega)) (fun h12 => ?_) (fun h12 => ?_)
    · refine J_ne1 Y qX9_let_15 ?_
      obtain ⟨s, rfl⟩ := nat_of (show 0 ≤ a by omega)
      obtain ⟨g, hg⟩ := nat_of (show 0 ≤ b / 10 by omega)
      have hp0 := (hM.rp s (by omega) g (by omega)).2
      have ht := (hM.rl s (by omega)).1
      obtain ⟨l1, l2, l3, l4⟩ := hI.lets (s := s) (by omega)
      have pr := hI.part (s := s) (p := g) (by omega) (by omega)
      refine J_iload_3 Y qX9_let_25 ?_
      refine J_aloadr_0 Y qX9_let_26 ?_
      refine J_getI Y qX9_let_27 fX9_111 (by decide) ?_
      refine J_ldc Y qX9_let_30 kX9_114 ?_
      refine J_cS3B Y qX9_let_32 mX9_93 iyX9_in rfl (by decide) rfl (Nat.le_of_ble_eq_true rfl) (m_in _ _ _ (by omega) (by omega) (by omega) (by omega) (by omega) (by omega)) (fun h32 => ?_) (fun h32 => ?_)
      · refine J_eq1 Y qX9_let_35 ?_
        refine J_iload_4 Y qX9_let_38 ?_
        refine J_iconst Y qX9_let_40 ?_
        refine J_sipush Y qX9_let_41 (by decide) ?_
        refine J_cS3B Y qX9_let_44 mX9_93 iyX9_in rfl (by decide) rfl (Nat.le_of_ble_eq_true rfl) (m_in _ _ _ (by omega) (by omega) (by omega) (by omega) (by omega) (by omega)) (fun h44 => ?_) (fun h44 => ?_)
        · refine J_eq1 Y qX9_let_47 ?_
          refine J_aloadr_0 Y qX9_let_50 ?_
          refine J_getR Y qX9_let_51 fX9_28 (by decide) ?_
          refine J_iload_1 Y qX9_let_54 ?_
          refine J_ialoadN (kx := s) Y qX9_let_55 rfl (by decide) rfl (by omega) (by decide) ?_
          refine J_iconst Y qX9_let_56 ?_
          refine J_icmp_ne Y qX9_let_57 (by omega) (by omega) (by omega) (by omega) (fun h57 => ?_) (fun h57 => ?_)
          · refine J_aloadr_0 Y qX9_let_80 ?_
            refine J_bipush Y qX9_let_81 (by decide) ?_
            refine J_cV1F Y qX9_let_83 mX9_97 iyX9_refuse (by decide) rfl (by decide) rfl (Nat.le_of_ble_eq_true rfl) (m_refuse _ _ _ 7 (by decide) rfl) ?_
            exact J_iret X qX9_let_86 (QR_e (by
              unfold f_let
              try simp only [Int.toNat_natCast, hg]
              repeat (first | rewrite [if_pos trivial] | rewrite [if_pos (by omega)] | rewrite [if_neg (by omega)])
              exact rfl) (by first | rfl | (dsimp only; omega)) (by first | exact hM | exact MR_rfs hM (by decide) | exact MR_lett hM) (by first | exact Sm.rfl' | exact Sm_up (Or.inl (by decide)) | exact (Sm_up (Or.inl (by decide))).tr ((Sm_up (Or.inl (by decide))).tr (Sm_up (Or.inl (by decide))))))
          · refine J_aloadr_0 Y qX9_let_60 ?_
            refine J_getR Y qX9_let_61 fX9_25 (by decide) ?_
            refine J_bipush Y qX9_let_64 (by decide) ?_
            refine J_iload_1 Y qX9_let_66 ?_
            refine J_imul Y qX9_let_67 ?_
            refine J_bipush Y qX9_let_68 (by decide) ?_
            refine J_iadd Y qX9_let_70 ?_
            refine J_iload_2 Y qX9_let_71 ?_
            refine J_bipush Y qX9_let_72 (by decide) ?_
            refine J_idiv Y qX9_let_74 (by omega) (by omega) (by omega) (by omega) ?_
            refine J_iadd Y qX9_let_75 ?_
            rw [show (20 : Int) * (s : Int) + 10 + b / 10 = ((20 * s + 10 + g : Nat) : Int) by omega]
            refine J_ialoadN (kx := (20 * s + 10 + g)) Y qX9_let_76 rfl (by decide) rfl (by omega) (by decide) ?_
            refine J_if_ne Y qX9_let_77 (by omega) (by omega) (fun h77 => ?_) (fun h77 => ?_)
            · refine J_aloadr_0 Y qX9_let_87 ?_
              refine J_getR Y qX9_let_88 fX9_28 (by decide) ?_
              refine J_iload_1 Y qX9_let_91 ?_
              refine J_iload_2 Y qX9_let_92 ?_
              refine J_bipush Y qX9_let_93 (by decide) ?_
              refine J_irem Y qX9_let_95 (by omega) (by omega) (by omega) (by omega) ?_
              refine J_iastoreN (kx := s) Y qX9_let_96 rfl (by decide) rfl (by omega) (by decide) ?_
              refine J_aloadr_0 Y qX9_let_97 ?_
              refine J_getR Y qX9_let_98 fX9_31 (by decide) ?_
              refine J_iload_1 Y qX9_let_101 ?_
              refine J_iload_3 Y qX9_let_102 ?_
              refine J_iastoreN (kx := s) Y qX9_let_103 rfl (by decide) rfl (by omega) (by decide) ?_
              refine J_aloadr_0 Y qX9_let_104 ?_
              refine J_getR Y qX9_let_105 fX9_34 (by decide) ?_
              refine J_iload_1 Y qX9_let_108 ?_
              refine J_iload_4 Y qX9_let_109 ?_
              refine J_iastoreN (kx := s) Y qX9_let_111 rfl (by decide) rfl (by omega) (by decide) ?_
              refine J_iconst Y qX9_let_112 ?_
              exact J_iret X qX9_let_113 (QR_e (by
                unfold f_let
                try simp only [Int.toNat_natCast, hg]
                repeat (first | rewrite [if_pos trivial] | rewrite [if_pos (by omega)] | rewrite [if_neg (by omega)])
                exact rfl) (by first | rfl | (dsimp only; omega)) (by first | exact hM | exact MR_rfs hM (by decide) | exact MR_lett hM) (by first | exact Sm.rfl' | exact Sm_up (Or.inl (by decide)) | exact (Sm_up (Or.inl (by decide))).tr ((Sm_up (Or.inl (by decide))).tr (Sm_up (Or.inl (by decide))))))
            · refine J_aloadr_0 Y qX9_let_80 ?_
              refine J_bipush Y qX9_let_81 (by decide) ?_
              refine J_cV1F Y qX9_let_83 mX9_97 iyX9_refuse (by decide) rfl (by decide) rfl (Nat.le_of_ble_eq_true rfl) (m_refuse _ _ _ 7 (by decide) rfl) ?_
              exact J_iret X qX9_let_86 (QR_e (by
                unfold f_let
                try simp only [Int.toNat_natCast, hg]
                repeat (first | rewrite [if_pos trivial] | rewrite [if_pos (by omega)] | rewrite [if_neg (by omega)])
                exact rfl) (by first | rfl | (dsimp only; omega)) (by first | exact hM | exact MR_rfs hM (by decide) | exact MR_lett hM) (by first | exact Sm.rfl' | exact Sm_up (Or.inl (by decide)) | exact (Sm_up (Or.inl (by decide))).tr ((Sm_up (Or.inl (by decide))).tr (Sm_up (Or.inl (by decide))))))
        · refine J_eq0 Y qX9_let_47 ?_
          refine J_aloadr_0 Y qX9_let_80 ?_
          refine J_bipush Y qX9_let_81 (by decide) ?_
          refine J_cV1F Y qX9_let_83 mX9_97 iyX9_refuse (by decide) rfl (by decide) rfl (Nat.le_of_ble_eq_true rfl) (m_refuse _ _ _ 7 (by decide) rfl) ?_
          exact J_iret X qX9_let_86 (QR_e (by
            unfold f_let
            try simp only [Int.toNat_natCast, hg]
            repeat (first | rewrite [if_pos trivial] | rewrite [if_pos (by omega)] | rewrite [if_neg (by omega)])
            exact rfl) (by first | rfl | (dsimp only; omega)) (by first | exact hM | exact MR_rfs hM (by decide) | exact MR_lett hM) (by first | exact Sm.rfl' | exact Sm_up (Or.inl (by decide)) | exact (Sm_up (Or.inl (by decide))).tr ((Sm_up (Or.inl (by decide))).tr (Sm_up (Or.inl (by decide))))))
      · refine J_eq0 Y qX9_let_35 ?_
        refine J_aloadr_0 Y qX9_let_80 ?_
        refine J_bipush Y qX9_let_81 (by decide) ?_
        refine J_cV1F Y qX9_let_83 mX9_97 iyX9_refuse (by decide) rfl (by decide) rfl (Nat.le_of_ble_eq_true rfl) (m_refuse _ _ _ 7 (by decide) rfl) ?_
        exact J_iret X qX9_let_86 (QR_e (by
          unfold f_let
          try simp only [Int.toNat_natCast, hg]
          repeat (first | rewrite [if_pos trivial] | rewrite [if_pos (by omega)] | rewrite [if_neg (by omega)])
          exact rfl) (by first | rfl | (dsimp only; omega)) (by first | exact hM | exact MR_rfs hM (by decide) | exact MR_lett hM) (by first | exact Sm.rfl' | exact Sm_up (Or.inl (by decide)) | exact (Sm_up (Or.inl (by decide))).tr ((Sm_up (Or.inl (by decide))).tr (Sm_up (Or.inl (by decide))))))
    · refine J_ne0 Y qX9_let_15 ?_
      refine J_aloadr_0 Y qX9_let_18 ?_
      refine J_bipush Y qX9_let_19 (by decide) ?_
      refine J_cV1F Y qX9_let_21 mX9_97 iyX9_refuse (by decide) rfl (by decide) rfl (Nat.le_of_ble_eq_true rfl) (m_refuse _ _ _ 3 (by decide) rfl) ?_
      exact J_iret X qX9_let_24 (QR_e (by
        unfold f_let
        try simp only [Int.toNat_natCast, hg]
        repeat (first | rewrite [if_pos trivial] | rewrite [if_pos (by omega)] | rewrite [if_neg (by omega)])
        exact rfl) (by first | rfl | (dsimp only; omega)) (by first | exact hM | exact MR_rfs hM (by decide) | exact MR_lett hM) (by first | exact Sm.rfl' | exact Sm_up (Or.inl (by decide)) | exact (Sm_up (Or.inl (by decide))).tr ((Sm_up (Or.inl (by decide))).tr (Sm_up (Or.inl (by decide))))))
  · refine J_eq0 Y qX9_let_5 ?_
    refine J_aloadr_0 Y qX9_let_18 ?_
    refine J_bipush Y qX9_let_19 (by decide) ?_
    refine J_cV1F Y qX9_let_21 mX9_97 iyX9_refuse (by decide) rfl (by decide) rfl (Nat.le_of_ble_eq_true rfl) (m_refuse _ _ _ 3 (by decide) rfl) ?_
    exact J_iret X qX9_let_24 (QR_e (by
      unfold f_let
      try simp only [Int.toNat_natCast, hg]
      repeat (first | rewrite [if_pos trivial] | rewrite [if_pos (by omega)] | rewrite [if_neg (by omega)])
      exact rfl) (by first | rfl | (dsimp only; omega)) (by first | exact hM | exact MR_rfs hM (by decide) | exact MR_lett hM) (by first | exact Sm.rfl' | exact Sm_up (Or.inl (by decide)) | exact (Sm_up (Or.inl (by decide))).tr ((Sm_up (Or.inl (by decide))).tr (Sm_up (Or.inl (by decide))))))

theorem r_pawned (l : Launch) (G : Gx) (M : Mem) {A : Mem} {n : Nat} {a b c : Int} (a1 : -2147483648 ≤ a) (a2 : a < 2147483648) (b1 : -2147483648 ≤ b) (b2 : b < 2147483648) (c1 : -2147483648 ≤ c) (c2 : c < 2147483648) (hI : Inv n A) (hn : n < 512) (hM : MR A M)  : Ct l G 4 yX9_pawned cX9_pawned 4 ((Option.some Jvm.ClassFile.FieldType.int)) [rf G 9 0, vi a, vi b, vi c] M (QR (f_pawned A a b c) M) := by
  refine Ct.of rfl (Nat.le_of_ble_eq_true rfl) rfl (fun E X => ?_)
  have Y := X.ok
  obtain ⟨m1, m2, m3, m4, m5, m6⟩ := hM.r0
  obtain ⟨c1, c2⟩ := hI.count
  obtain ⟨d1, d2⟩ := hI.day
  have hpw : ∀ s : Nat, (s : Int) < A 0 0 2 → M 49 0 s = A 5 s 11 := fun s hs => (hM.rq s (by omega)).1
  refine J_aloadr_0 Y qX9_pawned_0 ?_
  refine J_iload_1 Y qX9_pawned_1 ?_
  refine J_cV1B Y qX9_pawned_2 mX9_101 iyX9_isShop (by decide) rfl (by decide) rfl (Nat.le_of_ble_eq_true rfl) (m_isShop _ _ _ (by omega) (by omega) (by omega) (by omega)) (fun h2 => ?_) (fun h2 => ?_)
  · refine J_eq1 Y qX9_pawned_5 ?_
    obtain ⟨s, rfl⟩ := nat_of (show 0 ≤ a by omega)
    obtain ⟨p1, p2, p3⟩ := hI.pawns (s := s) (by omega)
    obtain ⟨k, hk⟩ := nat_of p1
    obtain ⟨u1, u2⟩ := hM.rq s (by omega)
    have hd8 : sumN (fun j => M 51 0 (8 * s + j)) k = sumN (A 28 s) k := sumN_cong k (fun j hj => (u2 j (by omega)).2)
    refine J_iload_2 Y qX9_pawned_8 ?_
    refine J_iconst Y qX9_pawned_9 ?_
    refine J_aloadr_0 Y qX9_pawned_10 ?_
    refine J_getR Y qX9_pawned_11 fX9_37 (by decide) ?_
    refine J_iload_1 Y qX9_pawned_14 ?_
    refine J_ialoadN (kx := s) Y qX9_pawned_15 rfl (by decide) rfl (by omega) (by decide) ?_
    refine J_iconst Y qX9_pawned_16 ?_
    refine J_isub Y qX9_pawned_17 ?_
    refine J_cS3B Y qX9_pawned_18 mX9_93 iyX9_in rfl (by decide) rfl (Nat.le_of_ble_eq_true rfl) (m_in _ _ _ (by omega) (by omega) (by omega) (by omega) (by omega) (by omega)) (fun h18 => ?_) (fun h18 => ?_)
    · refine J_ne1 Y qX9_pawned_21 ?_
      obtain ⟨j, rfl⟩ := nat_of (show 0 ≤ b by omega)
      obtain ⟨t1, t2⟩ := u2 j (by omega)
      refine J_iload_3 Y qX9_pawned_31 ?_
      refine J_if_ne Y qX9_pawned_32 (by omega) (by omega) (fun h32 => ?_) (fun h32 => ?_)
      · refine J_iload_3 Y qX9_pawned_49 ?_
        refine J_iconst Y qX9_pawned_50 ?_
        refine J_icmp_ne Y qX9_pawned_51 (by omega) (by omega) (by omega) (by omega) (fun h51 => ?_) (fun h51 => ?_)
        · refine J_aloadr_0 Y qX9_pawned_68 ?_
          refine J_bipush Y qX9_pawned_69 (by decide) ?_
          refine J_cV1F Y qX9_pawned_71 mX9_97 iyX9_refuse (by decide) rfl (by decide) rfl (Nat.le_of_ble_eq_true rfl) (m_refuse _ _ _ 7 (by decide) rfl) ?_
          exact J_iret X qX9_pawned_74 (QR_e (by
            unfold f_pawned
            try simp only [Int.toNat_natCast]
            repeat (first | rewrite [if_pos trivial] | rewrite [if_pos (by omega)] | rewrite [if_neg (by omega)])
            exact rfl) (by first | rfl | (dsimp only; omega)) (by first | exact hM | exact MR_rfs hM (by decide)) (by first | exact Sm.rfl' | exact Sm_up (Or.inl (by decide))))
        · refine J_aloadr_0 Y qX9_pawned_54 ?_
          refine J_getR Y qX9_pawned_55 fX9_43 (by decide) ?_
          refine J_bipush Y qX9_pawned_58 (by decide) ?_
          refine J_iload_1 Y qX9_pawned_60 ?_
          refine J_imul Y qX9_pawned_61 ?_
          refine J_iload_2 Y qX9_pawned_62 ?_
          refine J_iadd Y qX9_pawned_63 ?_
          rw [show (8 : Int) * (s : Int) + (j : Int) = ((8 * s + j : Nat) : Int) by omega]
          refine J_ialoadN (kx := (8 * s + j)) Y qX9_pawned_64 rfl (by decide) rfl (by omega) (by decide) ?_
          refine J_goto Y qX9_pawned_65 ?_
          exact J_iret X qX9_pawned_74 (QR_e (by
            unfold f_pawned
            try simp only [Int.toNat_natCast]
            repeat (first | rewrite [if_pos trivial] | rewrite [if_pos (by omega)] | rewrite [if_neg (by omega)])
            exact rfl) (by first | rfl | (dsimp only; omega)) (by first | exact hM | exact MR_rfs hM (by decide)) (by first | exact Sm.rfl' | exact Sm_up (Or.inl (by decide))))
      · refine J_aloadr_0 Y qX9_pawned_35 ?_
        refine J_getR Y qX9_pawned_36 fX9_40 (by decide) ?_
        refine J_bipush Y qX9_pawned_39 (by decide) ?_
        refine J_iload_1 Y qX9_pawned_41 ?_
        refine J_imul Y qX9_pawned_42 ?_
        refine J_iload_2 Y qX9_pawned_43 ?_
        refine J_iadd Y qX9_pawned_44 ?_
        rw [show (8 : Int) * (s : Int) + (j : Int) = ((8 * s + j : Nat) : Int) by omega]
        refine J_ialoadN (kx := (8 * s + j)) Y qX9_pawned_45 rfl (by decide) rfl (by omega) (by decide) ?_
        refine J_goto Y qX9_pawned_46 ?_
        exact J_iret X qX9_pawned_74 (QR_e (by
          unfold f_pawned
          try simp only [Int.toNat_natCast]
          repeat (first | rewrite [if_pos trivial] | rewrite [if_pos (by omega)] | rewrite [if_neg (by omega)])
          exact rfl) (by first | rfl | (dsimp only; omega)) (by first | exact hM | exact MR_rfs hM (by decide)) (by first | exact Sm.rfl' | exact Sm_up (Or.inl (by decide))))
    · refine J_ne0 Y qX9_pawned_21 ?_
      refine J_aloadr_0 Y qX9_pawned_24 ?_
      refine J_bipush Y qX9_pawned_25 (by decide) ?_
      refine J_cV1F Y qX9_pawned_27 mX9_97 iyX9_refuse (by decide) rfl (by decide) rfl (Nat.le_of_ble_eq_true rfl) (m_refuse _ _ _ 3 (by decide) rfl) ?_
      exact J_iret X qX9_pawned_30 (QR_e (by
        unfold f_pawned
        try simp only [Int.toNat_natCast]
        repeat (first | rewrite [if_pos trivial] | rewrite [if_pos (by omega)] | rewrite [if_neg (by omega)])
        exact rfl) (by first | rfl | (dsimp only; omega)) (by first | exact hM | exact MR_rfs hM (by decide)) (by first | exact Sm.rfl' | exact Sm_up (Or.inl (by decide))))
  · refine J_eq0 Y qX9_pawned_5 ?_
    refine J_aloadr_0 Y qX9_pawned_24 ?_
    refine J_bipush Y qX9_pawned_25 (by decide) ?_
    refine J_cV1F Y qX9_pawned_27 mX9_97 iyX9_refuse (by decide) rfl (by decide) rfl (Nat.le_of_ble_eq_true rfl) (m_refuse _ _ _ 3 (by decide) rfl) ?_
    exact J_iret X qX9_pawned_30 (QR_e (by
      unfold f_pawned
      try simp only [Int.toNat_natCast]
      repeat (first | rewrite [if_pos trivial] | rewrite [if_pos (by omega)] | rewrite [if_neg (by omega)])
      exact rfl) (by first | rfl | (dsimp only; omega)) (by first | exact hM | exact MR_rfs hM (by decide)) (by first | exact Sm.rfl' | exact Sm_up (Or.inl (by decide))))

theorem r_pawn (l : Launch) (G : Gx) (M : Mem) {A : Mem} {n : Nat} {a b c : Int} (a1 : -2147483648 ≤ a) (a2 : a < 2147483648) (b1 : -2147483648 ≤ b) (b2 : b < 2147483648) (c1 : -2147483648 ≤ c) (c2 : c < 2147483648) (hI : Inv n A) (hn : n < 512) (hM : MR A M)  : Ct l G 4 yX9_pawn cX9_pawn 4 ((Option.some Jvm.ClassFile.FieldType.int)) [rf G 9 0, vi a, vi b, vi c] M (QR (f_pawn A a b c) M) := by
  refine Ct.of rfl (Nat.le_of_ble_eq_true rfl) rfl (fun E X => ?_)
  have Y := X.ok
  obtain ⟨m1, m2, m3, m4, m5, m6⟩ := hM.r0
  obtain ⟨c1, c2⟩ := hI.count
  obtain ⟨d1, d2⟩ := hI.day
  refine J_aloadr_0 Y qX9_pawn_0 ?_
  refine J_iload_1 Y qX9_pawn_1 ?_
  refine J_cV1B Y qX9_pawn_2 mX9_101 iyX9_isShop (by decide) rfl (by decide) rfl (Nat.le_of_ble_eq_true rfl) (m_isShop _ _ _ (by omega) (by omega) (by omega) (by omega)) (fun h2 => ?_) (fun h2 => ?_)
  · refine J_eq1 Y qX9_pawn_5 ?_
    refine J_iload_2 Y qX9_pawn_8 ?_
    refine J_cS1B Y qX9_pawn_9 mX9_108 iyX9_isPerson rfl (by decide) rfl (Nat.le_of_ble_eq_true rfl) (m_isPerson _ _ _ (by omega) (by omega)) (fun h9 => ?_) (fun h9 => ?_)
    · refine J_ne1 Y qX9_pawn_12 ?_
      obtain ⟨s, rfl⟩ := nat_of (show 0 ≤ a by omega)
      obtain ⟨p1, p2, p3⟩ := hI.pawns (s := s) (by omega)
      obtain ⟨k, hk⟩ := nat_of p1
      obtain ⟨u1, u2⟩ := hM.rq s (by omega)
      have hd8 : sumN (fun j => M 51 0 (8 * s + j)) k = sumN (A 28 s) k := sumN_cong k (fun j hj => (u2 j (by omega)).2)
      obtain ⟨g1, g2, g3, g4⟩ := hM.rs s (by omega)
      obtain ⟨e1, e2, ⟨e3, e4⟩, e5⟩ := hI.shopS (s := s) (by omega)
      have sb := sumN_le (g := A 28 s) (c := 9999) k (fun i hi => (p3 i (by omega)).2.2)
      have sg := sumN_ge (g := A 28 s) (c := 1) k (fun i hi => (p3 i (by omega)).2.1)
      refine J_iload_3 Y qX9_pawn_22 ?_
      refine J_iconst Y qX9_pawn_23 ?_
      refine J_sipush Y qX9_pawn_24 (by decide) ?_
      refine J_cS3B Y qX9_pawn_27 mX9_93 iyX9_in rfl (by decide) rfl (Nat.le_of_ble_eq_true rfl) (m_in _ _ _ (by omega) (by omega) (by omega) (by omega) (by omega) (by omega)) (fun h27 => ?_) (fun h27 => ?_)
      · refine J_eq1 Y qX9_pawn_30 ?_
        refine J_aloadr_0 Y qX9_pawn_33 ?_
        refine J_iload_1 Y qX9_pawn_34 ?_
        refine J_cV1P Y qX9_pawn_35 mX9_105 iyX9_debts (by decide) rfl (by decide) rfl (Nat.le_of_ble_eq_true rfl) (m_debts _ _ _ (k := k) (by omega) (by omega) (by omega)) ?_
        rw [hd8]
        refine J_iload_3 Y qX9_pawn_38 ?_
        refine J_iadd Y qX9_pawn_39 ?_
        refine J_aloadr_0 Y qX9_pawn_40 ?_
        refine J_getR Y qX9_pawn_41 fX9_19 (by decide) ?_
        refine J_iload_1 Y qX9_pawn_44 ?_
        refine J_ialoadN (kx := s) Y qX9_pawn_45 rfl (by decide) rfl (by omega) (by decide) ?_
        refine J_icmp_le Y qX9_pawn_46 (by omega) (by omega) (by omega) (by omega) (fun h46 => ?_) (fun h46 => ?_)
        · refine J_aloadr_0 Y qX9_pawn_56 ?_
          refine J_getR Y qX9_pawn_57 fX9_37 (by decide) ?_
          refine J_iload_1 Y qX9_pawn_60 ?_
          refine J_ialoadN (kx := s) Y qX9_pawn_61 rfl (by decide) rfl (by omega) (by decide) ?_
          refine J_bipush Y qX9_pawn_62 (by decide) ?_
          refine J_icmp_ne Y qX9_pawn_64 (by omega) (by omega) (by omega) (by omega) (fun h64 => ?_) (fun h64 => ?_)
          · refine J_aloadr_0 Y qX9_pawn_74 ?_
            refine J_getR Y qX9_pawn_75 fX9_40 (by decide) ?_
            refine J_bipush Y qX9_pawn_78 (by decide) ?_
            refine J_iload_1 Y qX9_pawn_80 ?_
            refine J_imul Y qX9_pawn_81 ?_
            refine J_aloadr_0 Y qX9_pawn_82 ?_
            refine J_getR Y qX9_pawn_83 fX9_37 (by decide) ?_
            refine J_iload_1 Y qX9_pawn_86 ?_
            refine J_ialoadN (kx := s) Y qX9_pawn_87 rfl (by decide) rfl (by omega) (by decide) ?_
            refine J_iadd Y qX9_pawn_88 ?_
            refine J_iload_2 Y qX9_pawn_89 ?_
            rw [show (8 : Int) * (s : Int) + M 49 0 s = ((8 * s + k : Nat) : Int) by omega]
            refine J_iastoreN (kx := (8 * s + k)) Y qX9_pawn_90 rfl (by decide) rfl (by omega) (by decide) ?_
            refine J_aloadr_0 Y qX9_pawn_91 ?_
            refine J_getR Y qX9_pawn_92 fX9_43 (by decide) ?_
            refine J_bipush Y qX9_pawn_95 (by decide) ?_
            refine J_iload_1 Y qX9_pawn_97 ?_
            refine J_imul Y qX9_pawn_98 ?_
            refine J_aloadr_0 Y qX9_pawn_99 ?_
            refine J_getR Y qX9_pawn_100 fX9_37 (by decide) ?_
            refine J_iload_1 Y qX9_pawn_103 ?_
            refine J_ialoadN (kx := s) Y qX9_pawn_104 rfl (by decide) rfl (by omega) (by decide) ?_
            refine J_iadd Y qX9_pawn_105 ?_
            refine J_iload_3 Y qX9_pawn_106 ?_
            rw [show (8 : Int) * (s : Int) + up M 50 0 (8 * s + k) b 49 0 s = ((8 * s + k : Nat) : Int) by show (8 : Int) * (s : Int) + M 49 0 s = _; omega]
            refine J_iastoreN (kx := (8 * s + k)) Y qX9_pawn_107 rfl (by decide) rfl (by omega) (by decide) ?_
            refine J_aloadr_0 Y qX9_pawn_108 ?_
            refine J_getR Y qX9_pawn_109 fX9_37 (by decide) ?_
            refine J_iload_1 Y qX9_pawn_112 ?_
            refine J_dup2 Y qX9_pawn_113 rfl rfl ?_
            refine J_ialoadN (kx := s) Y qX9_pawn_114 rfl (by decide) rfl (by omega) (by decide) ?_
            rw [show up (up M 50 0 (8 * s + k) b) 51 0 (8 * s + k) c 49 0 s = (k : Int) by show M 49 0 s = _; omega]
            refine J_iconst Y qX9_pawn_115 ?_
            refine J_iadd Y qX9_pawn_116 ?_
            refine J_iastoreN (kx := s) Y qX9_pawn_117 rfl (by decide) rfl (by omega) (by decide) ?_
            refine J_aloadr_0 Y qX9_pawn_118 ?_
            refine J_getR Y qX9_pawn_119 fX9_37 (by decide) ?_
            refine J_iload_1 Y qX9_pawn_122 ?_
            refine J_ialoadN (kx := s) Y qX9_pawn_123 rfl (by decide) rfl (by omega) (by decide) ?_
            rw [up_same]
            exact J_iret X qX9_pawn_124 (QR_e (by
              unfold f_pawn
              try simp only [Int.toNat_natCast, hk]
              repeat (first | rewrite [if_pos trivial] | rewrite [if_pos (by omega)] | rewrite [if_neg (by omega)])
              exact rfl) (by first | rfl | (dsimp only; omega)) (by first | exact hM | exact MR_rfs hM (by decide) | exact MR_addP hM hk (by omega) (fun q hq => (hI.pawns hq).2.1)) (by first | exact Sm.rfl' | exact Sm_up (Or.inl (by decide)) | exact (Sm_up (Or.inl (by decide))).tr ((Sm_up (Or.inl (by decide))).tr (Sm_up (Or.inl (by decide))))))
          · refine J_aloadr_0 Y qX9_pawn_67 ?_
            refine J_bipush Y qX9_pawn_68 (by decide) ?_
            refine J_cV1F Y qX9_pawn_70 mX9_97 iyX9_refuse (by decide) rfl (by decide) rfl (Nat.le_of_ble_eq_true rfl) (m_refuse _ _ _ 8 (by decide) rfl) ?_
            exact J_iret X qX9_pawn_73 (QR_e (by
              unfold f_pawn
              try simp only [Int.toNat_natCast, hk]
              repeat (first | rewrite [if_pos trivial] | rewrite [if_pos (by omega)] | rewrite [if_neg (by omega)])
              exact rfl) (by first | rfl | (dsimp only; omega)) (by first | exact hM | exact MR_rfs hM (by decide) | exact MR_addP hM hk (by omega) (fun q hq => (hI.pawns hq).2.1)) (by first | exact Sm.rfl' | exact Sm_up (Or.inl (by decide)) | exact (Sm_up (Or.inl (by decide))).tr ((Sm_up (Or.inl (by decide))).tr (Sm_up (Or.inl (by decide))))))
        · refine J_aloadr_0 Y qX9_pawn_49 ?_
          refine J_bipush Y qX9_pawn_50 (by decide) ?_
          refine J_cV1F Y qX9_pawn_52 mX9_97 iyX9_refuse (by decide) rfl (by decide) rfl (Nat.le_of_ble_eq_true rfl) (m_refuse _ _ _ 7 (by decide) rfl) ?_
          exact J_iret X qX9_pawn_55 (QR_e (by
            unfold f_pawn
            try simp only [Int.toNat_natCast, hk]
            repeat (first | rewrite [if_pos trivial] | rewrite [if_pos (by omega)] | rewrite [if_neg (by omega)])
            exact rfl) (by first | rfl | (dsimp only; omega)) (by first | exact hM | exact MR_rfs hM (by decide) | exact MR_addP hM hk (by omega) (fun q hq => (hI.pawns hq).2.1)) (by first | exact Sm.rfl' | exact Sm_up (Or.inl (by decide)) | exact (Sm_up (Or.inl (by decide))).tr ((Sm_up (Or.inl (by decide))).tr (Sm_up (Or.inl (by decide))))))
      · refine J_eq0 Y qX9_pawn_30 ?_
        refine J_aloadr_0 Y qX9_pawn_49 ?_
        refine J_bipush Y qX9_pawn_50 (by decide) ?_
        refine J_cV1F Y qX9_pawn_52 mX9_97 iyX9_refuse (by decide) rfl (by decide) rfl (Nat.le_of_ble_eq_true rfl) (m_refuse _ _ _ 7 (by decide) rfl) ?_
        exact J_iret X qX9_pawn_55 (QR_e (by
          unfold f_pawn
          try simp only [Int.toNat_natCast, hk]
          repeat (first | rewrite [if_pos trivial] | rewrite [if_pos (by omega)] | rewrite [if_neg (by omega)])
          exact rfl) (by first | rfl | (dsimp only; omega)) (by first | exact hM | exact MR_rfs hM (by decide) | exact MR_addP hM hk (by omega) (fun q hq => (hI.pawns hq).2.1)) (by first | exact Sm.rfl' | exact Sm_up (Or.inl (by decide)) | exact (Sm_up (Or.inl (by decide))).tr ((Sm_up (Or.inl (by decide))).tr (Sm_up (Or.inl (by decide))))))
    · refine J_ne0 Y qX9_pawn_12 ?_
      refine J_aloadr_0 Y qX9_pawn_15 ?_
      refine J_bipush Y qX9_pawn_16 (by decide) ?_
      refine J_cV1F Y qX9_pawn_18 mX9_97 iyX9_refuse (by decide) rfl (by decide) rfl (Nat.le_of_ble_eq_true rfl) (m_refuse _ _ _ 3 (by decide) rfl) ?_
      exact J_iret X qX9_pawn_21 (QR_e (by
        unfold f_pawn
        try simp only [Int.toNat_natCast, hk]
        repeat (first | rewrite [if_pos trivial] | rewrite [if_pos (by omega)] | rewrite [if_neg (by omega)])
        exact rfl) (by first | rfl | (dsimp only; omega)) (by first | exact hM | exact MR_rfs hM (by decide) | exact MR_addP hM hk (by omega) (fun q hq => (hI.pawns hq).2.1)) (by first | exact Sm.rfl' | exact Sm_up (Or.inl (by decide)) | exact (Sm_up (Or.inl (by decide))).tr ((Sm_up (Or.inl (by decide))).tr (Sm_up (Or.inl (by decide))))))
  · refine J_eq0 Y qX9_pawn_5 ?_
    refine J_aloadr_0 Y qX9_pawn_15 ?_
    refine J_bipush Y qX9_pawn_16 (by decide) ?_
    refine J_cV1F Y qX9_pawn_18 mX9_97 iyX9_refuse (by decide) rfl (by decide) rfl (Nat.le_of_ble_eq_true rfl) (m_refuse _ _ _ 3 (by decide) rfl) ?_
    exact J_iret X qX9_pawn_21 (QR_e (by
      unfold f_pawn
      try simp only [Int.toNat_natCast, hk]
      repeat (first | rewrite [if_pos trivial] | rewrite [if_pos (by omega)] | rewrite [if_neg (by omega)])
      exact rfl) (by first | rfl | (dsimp only; omega)) (by first | exact hM | exact MR_rfs hM (by decide) | exact MR_addP hM hk (by omega) (fun q hq => (hI.pawns hq).2.1)) (by first | exact Sm.rfl' | exact Sm_up (Or.inl (by decide)) | exact (Sm_up (Or.inl (by decide))).tr ((Sm_up (Or.inl (by decide))).tr (Sm_up (Or.inl (by decide))))))


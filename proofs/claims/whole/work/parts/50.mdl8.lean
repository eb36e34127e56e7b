/-! ===== the reference: copy ===== -/
def cp1 (M : Mem) (x t : Nat) : Mem := upR M 65 0 (fun q => if q < t then M 64 0 (x + q) else M 65 0 q)
def cp2 (M : Mem) (x y n t : Nat) : Mem := upR (cp1 M x n) 64 0 (fun q => if y ≤ q ∧ q < y + t then M 64 0 (x + (q - y)) else M 64 0 q)
theorem cp1_step (M : Mem) (x t : Nat) : up (cp1 M x t) 65 0 t (M 64 0 (x + t)) = cp1 M x (t + 1) := by
  funext a b c
  simp only [cp1, up, upR]
  grind
theorem cp1_0 (M : Mem) (x : Nat) : cp1 M x 0 = M := by
  funext a b c
  simp only [cp1, upR]
  grind
theorem cp2_step (M : Mem) (x y n t : Nat) : up (cp2 M x y n t) 64 0 (y + t) (M 64 0 (x + t)) = cp2 M x y n (t + 1) := by
  funext a b c
  simp only [cp2, up, upR]
  by_cases h : a = 64 ∧ b = 0
  · obtain ⟨rfl, rfl⟩ := h
    by_cases h2 : c = y + t
    · subst h2
      simp
    · simp only [h2]
      grind
  · grind
theorem cp2_0 (M : Mem) (x y n : Nat) : cp2 M x y n 0 = cp1 M x n := by
  funext a b c
  simp only [cp2, cp1, upR]
  grind
theorem Sm_cp {N : Mem} {x y n t : Nat} : Sm (cp2 N x y n t) N := (Sm_upR (Or.inl (by decide))).tr (Sm_upR (Or.inl (by decide)))
theorem MR_cp {a N : Mem} {x y n : Nat} (h : MR a N) (hx : x + n ≤ 10) : MR (upR a 33 0 (va_cpy (a 33 0) (a 33 0) x y n)) (cp2 N x y n n) := by
  refine ⟨h.r0, h.rr, h.rs, h.rp, h.rl, h.rq, h.rh, h.rm, h.rt, h.ru, h.rf, h.rb, ?_⟩
  intro k hk
  have h1 := h.rw k hk
  simp only [cp2, upR, va_cpy]
  by_cases e : y ≤ k ∧ k < y + n
  · have h2 := h.rw (x + (k - y)) (by omega)
    simp [e, h2]
  · simp [e, h1]
theorem lp_mcopy2 {l : Launch} {G : Gx} {E : Fx} {d : Nat} {M : Mem} {x y n : Nat} (hx : x + n ≤ 10) (hy : y + n ≤ 10) {P : Option Value → Mem → Prop} (hP : P (some (vi (n : Int))) (cp2 M x y n n)) (X : OkM l G E cX9_copy RX9 5 d (some .int) P) : ∀ (m i : Nat), i ≤ n → n < i + m → J G E 102 [some (rf G 9 0), some (vi (x : Int)), some (vi (y : Int)), some (vi (n : Int)), some (vi (i : Int))] [] (cp2 M x y n i) := by
  have Y := X.ok
  intro m
  induction m with
  | zero => intro i h1 h2; exfalso; omega
  | succ m ih =>
    intro i h1 h2
    refine J_iload_4 Y qX9_copy_102 ?_
    refine J_iload_3 Y qX9_copy_104 ?_
    refine J_icmp_ge Y qX9_copy_105 (by omega) (by omega) (by omega) (by omega) (fun h105 => ?_) (fun h105 => ?_)
    · obtain rfl : i = n := by omega
      refine J_iload_3 Y qX9_copy_130 ?_
      exact J_iret X qX9_copy_131 hP
    · refine J_aloadr_0 Y qX9_copy_108 ?_
      refine J_getR Y qX9_copy_109 fX9_83 (by decide) ?_
      refine J_iload_2 Y qX9_copy_112 ?_
      refine J_iload_4 Y qX9_copy_113 ?_
      refine J_iadd Y qX9_copy_115 ?_
      refine J_aloadr_0 Y qX9_copy_116 ?_
      refine J_getR Y qX9_copy_117 fX9_86 (by decide) ?_
      refine J_iload_4 Y qX9_copy_120 ?_
      refine J_ialoadN (kx := i) Y qX9_copy_122 rfl (by decide) rfl (by omega) (by decide) ?_
      rw [show cp2 M x y n i 65 0 i = M 64 0 (x + i) from by simp [cp2, cp1, upR]; omega, show (y : Int) + (i : Int) = ((y + i : Nat) : Int) by omega]
      refine J_iastoreN (kx := (y + i)) Y qX9_copy_123 rfl (by decide) rfl (by omega) (by decide) ?_
      refine J_iinc_4 Y qX9_copy_124 rfl ?_
      refine J_goto Y qX9_copy_127 ?_
      rw [cp2_step]
      exact ih (i + 1) (by omega) (by omega)

theorem lp_mcopy1 {l : Launch} {G : Gx} {E : Fx} {d : Nat} {M : Mem} {x y n : Nat} (hx : x + n ≤ 10) (hy : y + n ≤ 10) {P : Option Value → Mem → Prop} (hP : P (some (vi (n : Int))) (cp2 M x y n n)) (X : OkM l G E cX9_copy RX9 5 d (some .int) P) : ∀ (m i : Nat), i ≤ n → n < i + m → J G E 71 [some (rf G 9 0), some (vi (x : Int)), some (vi (y : Int)), some (vi (n : Int)), some (vi (i : Int))] [] (cp1 M x i) := by
  have Y := X.ok
  intro m
  induction m with
  | zero => intro i h1 h2; exfalso; omega
  | succ m ih =>
    intro i h1 h2
    refine J_iload_4 Y qX9_copy_71 ?_
    refine J_iload_3 Y qX9_copy_73 ?_
    refine J_icmp_ge Y qX9_copy_74 (by omega) (by omega) (by omega) (by omega) (fun h74 => ?_) (fun h74 => ?_)
    · obtain rfl : i = n := by omega
      refine J_iconst Y qX9_copy_99 ?_
      refine J_istore_4 Y qX9_copy_100 rfl ?_
      rw [← cp2_0 M x y i]
      exact lp_mcopy2 hx hy hP X (i + 1) 0 (by omega) (by omega)
    · refine J_aloadr_0 Y qX9_copy_77 ?_
      refine J_getR Y qX9_copy_78 fX9_86 (by decide) ?_
      refine J_iload_4 Y qX9_copy_81 ?_
      refine J_aloadr_0 Y qX9_copy_83 ?_
      refine J_getR Y qX9_copy_84 fX9_83 (by decide) ?_
      refine J_iload_1 Y qX9_copy_87 ?_
      refine J_iload_4 Y qX9_copy_88 ?_
      refine J_iadd Y qX9_copy_90 ?_
      rw [show (x : Int) + (i : Int) = ((x + i : Nat) : Int) by omega]
      refine J_ialoadN (kx := (x + i)) Y qX9_copy_91 rfl (by decide) rfl (by omega) (by decide) ?_
      rw [show cp1 M x i 64 0 (x + i) = M 64 0 (x + i) from rfl]
      refine J_iastoreN (kx := i) Y qX9_copy_92 rfl (by decide) rfl (by omega) (by decide) ?_
      refine J_iinc_4 Y qX9_copy_93 rfl ?_
      refine J_goto Y qX9_copy_96 ?_
      rw [cp1_step]
      exact ih (i + 1) (by omega) (by omega)

theorem r_copy (l : Launch) (G : Gx) (M : Mem) {A : Mem} {n : Nat} {a b c : Int} (a1 : -2147483648 ≤ a) (a2 : a < 2147483648) (b1 : -2147483648 ≤ b) (b2 : b < 2147483648) (c1 : -2147483648 ≤ c) (c2 : c < 2147483648) (hI : Inv n A) (hn : n < 512) (hM : MR A M)  : Ct l G 4 yX9_copy cX9_copy 5 ((Option.some Jvm.ClassFile.FieldType.int)) [rf G 9 0, vi a, vi b, vi c] M (QR (f_copy A a b c) M) := by
  refine Ct.of rfl (Nat.le_of_ble_eq_true rfl) rfl (fun E X => ?_)
  have Y := X.ok
  obtain ⟨m1, m2, m3, m4, m5, m6⟩ := hM.r0
  obtain ⟨c1, c2⟩ := hI.count
  obtain ⟨d1, d2⟩ := hI.day
  have hl := hI.laid
  refine J_aloadr_0 Y qX9_copy_0 ?_
  refine J_getI Y qX9_copy_1 fX9_228 (by decide) ?_
  refine J_if_ne Y qX9_copy_4 (by omega) (by omega) (fun h4 => ?_) (fun h4 => ?_)
  · refine J_iload_3 Y qX9_copy_14 ?_
    refine J_if_ge Y qX9_copy_15 (by omega) (by omega) (fun h15 => ?_) (fun h15 => ?_)
    · refine J_iload_1 Y qX9_copy_25 ?_
      refine J_if_lt Y qX9_copy_26 (by omega) (by omega) (fun h26 => ?_) (fun h26 => ?_)
      · refine J_aloadr_0 Y qX9_copy_61 ?_
        refine J_bipush Y qX9_copy_62 (by decide) ?_
        refine J_cV1F Y qX9_copy_64 mX9_97 iyX9_refuse (by decide) rfl (by decide) rfl (Nat.le_of_ble_eq_true rfl) (m_refuse _ _ _ 6 (by decide) rfl) ?_
        exact J_iret X qX9_copy_67 (QR_e (by
          unfold f_copy
          try simp only [Int.toNat_natCast]
          repeat (first | rewrite [if_pos trivial] | rewrite [if_pos (by omega)] | rewrite [if_neg (by omega)])
          exact rfl) (by first | rfl | (dsimp only; omega)) (by first | exact hM | exact MR_rfs hM (by decide)) (by first | exact Sm.rfl' | exact Sm_up (Or.inl (by decide))))
      · refine J_iload_2 Y qX9_copy_29 ?_
        refine J_if_lt Y qX9_copy_30 (by omega) (by omega) (fun h30 => ?_) (fun h30 => ?_)
        · refine J_aloadr_0 Y qX9_copy_61 ?_
          refine J_bipush Y qX9_copy_62 (by decide) ?_
          refine J_cV1F Y qX9_copy_64 mX9_97 iyX9_refuse (by decide) rfl (by decide) rfl (Nat.le_of_ble_eq_true rfl) (m_refuse _ _ _ 6 (by decide) rfl) ?_
          exact J_iret X qX9_copy_67 (QR_e (by
            unfold f_copy
            try simp only [Int.toNat_natCast]
            repeat (first | rewrite [if_pos trivial] | rewrite [if_pos (by omega)] | rewrite [if_neg (by omega)])
            exact rfl) (by first | rfl | (dsimp only; omega)) (by first | exact hM | exact MR_rfs hM (by decide)) (by first | exact Sm.rfl' | exact Sm_up (Or.inl (by decide))))
        · refine J_iload_1 Y qX9_copy_33 ?_
          refine J_bipush Y qX9_copy_34 (by decide) ?_
          refine J_icmp_gt Y qX9_copy_36 (by omega) (by omega) (by omega) (by omega) (fun h36 => ?_) (fun h36 => ?_)
          · refine J_aloadr_0 Y qX9_copy_61 ?_
            refine J_bipush Y qX9_copy_62 (by decide) ?_
            refine J_cV1F Y qX9_copy_64 mX9_97 iyX9_refuse (by decide) rfl (by decide) rfl (Nat.le_of_ble_eq_true rfl) (m_refuse _ _ _ 6 (by decide) rfl) ?_
            exact J_iret X qX9_copy_67 (QR_e (by
              unfold f_copy
              try simp only [Int.toNat_natCast]
              repeat (first | rewrite [if_pos trivial] | rewrite [if_pos (by omega)] | rewrite [if_neg (by omega)])
              exact rfl) (by first | rfl | (dsimp only; omega)) (by first | exact hM | exact MR_rfs hM (by decide)) (by first | exact Sm.rfl' | exact Sm_up (Or.inl (by decide))))
          · refine J_iload_2 Y qX9_copy_39 ?_
            refine J_bipush Y qX9_copy_40 (by decide) ?_
            refine J_icmp_gt Y qX9_copy_42 (by omega) (by omega) (by omega) (by omega) (fun h42 => ?_) (fun h42 => ?_)
            · refine J_aloadr_0 Y qX9_copy_61 ?_
              refine J_bipush Y qX9_copy_62 (by decide) ?_
              refine J_cV1F Y qX9_copy_64 mX9_97 iyX9_refuse (by decide) rfl (by decide) rfl (Nat.le_of_ble_eq_true rfl) (m_refuse _ _ _ 6 (by decide) rfl) ?_
              exact J_iret X qX9_copy_67 (QR_e (by
                unfold f_copy
                try simp only [Int.toNat_natCast]
                repeat (first | rewrite [if_pos trivial] | rewrite [if_pos (by omega)] | rewrite [if_neg (by omega)])
                exact rfl) (by first | rfl | (dsimp only; omega)) (by first | exact hM | exact MR_rfs hM (by decide)) (by first | exact Sm.rfl' | exact Sm_up (Or.inl (by decide))))
            · refine J_iload_3 Y qX9_copy_45 ?_
              refine J_bipush Y qX9_copy_46 (by decide) ?_
              refine J_iload_1 Y qX9_copy_48 ?_
              refine J_isub Y qX9_copy_49 ?_
              refine J_icmp_gt Y qX9_copy_50 (by omega) (by omega) (by omega) (by omega) (fun h50 => ?_) (fun h50 => ?_)
              · refine J_aloadr_0 Y qX9_copy_61 ?_
                refine J_bipush Y qX9_copy_62 (by decide) ?_
                refine J_cV1F Y qX9_copy_64 mX9_97 iyX9_refuse (by decide) rfl (by decide) rfl (Nat.le_of_ble_eq_true rfl) (m_refuse _ _ _ 6 (by decide) rfl) ?_
                exact J_iret X qX9_copy_67 (QR_e (by
                  unfold f_copy
                  try simp only [Int.toNat_natCast]
                  repeat (first | rewrite [if_pos trivial] | rewrite [if_pos (by omega)] | rewrite [if_neg (by omega)])
                  exact rfl) (by first | rfl | (dsimp only; omega)) (by first | exact hM | exact MR_rfs hM (by decide)) (by first | exact Sm.rfl' | exact Sm_up (Or.inl (by decide))))
              · refine J_iload_3 Y qX9_copy_53 ?_
                refine J_bipush Y qX9_copy_54 (by decide) ?_
                refine J_iload_2 Y qX9_copy_56 ?_
                refine J_isub Y qX9_copy_57 ?_
                refine J_icmp_le Y qX9_copy_58 (by omega) (by omega) (by omega) (by omega) (fun h58 => ?_) (fun h58 => ?_)
                · refine J_iconst Y qX9_copy_68 ?_
                  refine J_istore_4 Y qX9_copy_69 rfl ?_
                  obtain ⟨x, rfl⟩ := nat_of (show 0 ≤ a by omega)
                  obtain ⟨y, rfl⟩ := nat_of (show 0 ≤ b by omega)
                  obtain ⟨t, rfl⟩ := nat_of (show 0 ≤ c by omega)
                  rw [← cp1_0 M x]
                  exact lp_mcopy1 (by omega) (by omega) (QR_e (by
                    unfold f_copy
                    rewrite [if_neg (by omega), if_neg (by omega), if_neg (by omega)]
                    exact rfl) rfl (MR_cp (x := x) (y := y) (n := t) hM (by omega)) Sm_cp) X (t + 1) 0 (by omega) (by omega)
                · refine J_aloadr_0 Y qX9_copy_61 ?_
                  refine J_bipush Y qX9_copy_62 (by decide) ?_
                  refine J_cV1F Y qX9_copy_64 mX9_97 iyX9_refuse (by decide) rfl (by decide) rfl (Nat.le_of_ble_eq_true rfl) (m_refuse _ _ _ 6 (by decide) rfl) ?_
                  exact J_iret X qX9_copy_67 (QR_e (by
                    unfold f_copy
                    try simp only [Int.toNat_natCast]
                    repeat (first | rewrite [if_pos trivial] | rewrite [if_pos (by omega)] | rewrite [if_neg (by omega)])
                    exact rfl) (by first | rfl | (dsimp only; omega)) (by first | exact hM | exact MR_rfs hM (by decide)) (by first | exact Sm.rfl' | exact Sm_up (Or.inl (by decide))))
    · refine J_aloadr_0 Y qX9_copy_18 ?_
      refine J_bipush Y qX9_copy_19 (by decide) ?_
      refine J_cV1F Y qX9_copy_21 mX9_97 iyX9_refuse (by decide) rfl (by decide) rfl (Nat.le_of_ble_eq_true rfl) (m_refuse _ _ _ 4 (by decide) rfl) ?_
      exact J_iret X qX9_copy_24 (QR_e (by
        unfold f_copy
        try simp only [Int.toNat_natCast]
        repeat (first | rewrite [if_pos trivial] | rewrite [if_pos (by omega)] | rewrite [if_neg (by omega)])
        exact rfl) (by first | rfl | (dsimp only; omega)) (by first | exact hM | exact MR_rfs hM (by decide)) (by first | exact Sm.rfl' | exact Sm_up (Or.inl (by decide))))
  · refine J_aloadr_0 Y qX9_copy_7 ?_
    refine J_bipush Y qX9_copy_8 (by decide) ?_
    refine J_cV1F Y qX9_copy_10 mX9_97 iyX9_refuse (by decide) rfl (by decide) rfl (Nat.le_of_ble_eq_true rfl) (m_refuse _ _ _ 2 (by decide) rfl) ?_
    exact J_iret X qX9_copy_13 (QR_e (by
      unfold f_copy
      try simp only [Int.toNat_natCast]
      repeat (first | rewrite [if_pos trivial] | rewrite [if_pos (by omega)] | rewrite [if_neg (by omega)])
      exact rfl) (by first | rfl | (dsimp only; omega)) (by first | exact hM | exact MR_rfs hM (by decide)) (by first | exact Sm.rfl' | exact Sm_up (Or.inl (by decide))))


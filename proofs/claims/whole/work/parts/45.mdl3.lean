/-! ===== the reference: rows and lists ===== -/
theorem isAm_cong {g h : Nat → Int} {b : Int} : ∀ (n : Nat), (∀ i, i < n → g i = h i) → isAm g b n = isAm h b n
  | 0, _ => rfl
  | n + 1, e => by simp only [isAm]; rw [isAm_cong n (fun i hi => e i (by omega)), e n (by omega)]
def orB (x : Prop) [Decidable x] (b : Bool) : Int := if x ∨ b = true then 1 else 0
theorem lp_mheir {l : Launch} {G : Gx} {E : Fx} {M : Mem} {A : Mem} {n : Nat} {p k : Nat} {b c : Int} (b1 : 0 ≤ b) (b2 : b ≤ 9) (hI : Inv n A) (hM : MR A M) (hp : p < 10) (hk : A 7 p 2 = (k : Int)) (hk4 : k ≤ 4) (X : OkM l G E cX9_heir RX9 6 4 (some .int) (QR (f_heir A (p : Int) b c) M)) : ∀ (n i : Nat) (f : Int), i ≤ k → k < i + n → (f = 0 ∨ f = 1) → (f = 1 ↔ ((c < 1 ∨ 9 < c ∨ b = p) ∨ isAm (A 30 p) b i = true)) → J G E 46 [some (rf G 9 0), some (vi (p : Int)), some (vi b), some (vi c), some (vi f), some (vi (i : Int))] [] M := by
  have Y := X.ok
  have hkM : M 52 0 p = (k : Int) := by rw [(hM.rh p hp).1, hk]
  intro n
  induction n with
  | zero => intro i f h1 h2 h3 h4; exfalso; omega
  | succ n ih =>
    intro i f h1 h2 h3 h4
    refine J_iload_5 Y qX9_heir_46 ?_
    refine J_aloadr_0 Y qX9_heir_48 ?_
    refine J_getR Y qX9_heir_49 fX9_46 (by decide) ?_
    refine J_iload_1 Y qX9_heir_52 ?_
    refine J_ialoadN (kx := p) Y qX9_heir_53 rfl (by decide) rfl (by omega) (by decide) ?_
    rw [hkM]
    refine J_icmp_ge Y qX9_heir_54 (by omega) (by omega) (by omega) (by omega) (fun h54 => ?_) (fun h54 => ?_)
    · obtain rfl : i = k := by omega
      by_cases hq : isAm (A 30 p) b i = true
      · have hf : f = 1 := h4.mpr (Or.inr hq)
        refine J_iload_4 Y qX9_heir_90 ?_
        refine J_if_eq Y qX9_heir_92 (by omega) (by omega) (fun h92 => ?_) (fun h92 => ?_)
        · exfalso; omega
        · refine J_aloadr_0 Y qX9_heir_95 ?_
          refine J_bipush Y qX9_heir_96 (by decide) ?_
          refine J_cV1F Y qX9_heir_98 mX9_97 iyX9_refuse (by decide) rfl (by decide) rfl (Nat.le_of_ble_eq_true rfl) (m_refuse _ _ _ 7 (by decide) rfl) ?_
          by_cases hc : c < 1 ∨ 9 < c ∨ b = p
          · exact J_iret X qX9_heir_101 (QR_e (by
              unfold f_heir
              try simp only [Int.toNat_natCast, hk]
              repeat (first | rewrite [if_pos trivial] | rewrite [if_pos (by omega)] | rewrite [if_neg (by omega)] | rewrite [if_pos hq] | rewrite [if_neg hq])
              exact rfl) (by first | rfl | (dsimp only; omega)) (by first | exact hM | exact MR_rfs hM (by decide) | exact MR_addH hM hk (by omega) (fun q hq => (hI.heirs hq).2.1)) (by first | exact Sm.rfl' | exact Sm_up (Or.inl (by decide)) | exact (Sm_up (Or.inl (by decide))).tr ((Sm_up (Or.inl (by decide))).tr (Sm_up (Or.inl (by decide))))))
          · exact J_iret X qX9_heir_101 (QR_e (by
              unfold f_heir
              try simp only [Int.toNat_natCast, hk]
              repeat (first | rewrite [if_pos trivial] | rewrite [if_pos (by omega)] | rewrite [if_neg (by omega)] | rewrite [if_pos hq] | rewrite [if_neg hq])
              exact rfl) (by first | rfl | (dsimp only; omega)) (by first | exact hM | exact MR_rfs hM (by decide) | exact MR_addH hM hk (by omega) (fun q hq => (hI.heirs hq).2.1)) (by first | exact Sm.rfl' | exact Sm_up (Or.inl (by decide)) | exact (Sm_up (Or.inl (by decide))).tr ((Sm_up (Or.inl (by decide))).tr (Sm_up (Or.inl (by decide))))))
          
      · have hf : f = 1 ↔ (c < 1 ∨ 9 < c ∨ b = p) := by simpa [hq] using h4
        refine J_iload_4 Y qX9_heir_90 ?_
        refine J_if_eq Y qX9_heir_92 (by omega) (by omega) (fun h92 => ?_) (fun h92 => ?_)
        · refine J_aloadr_0 Y qX9_heir_102 ?_
          refine J_getR Y qX9_heir_103 fX9_46 (by decide) ?_
          refine J_iload_1 Y qX9_heir_106 ?_
          refine J_ialoadN (kx := p) Y qX9_heir_107 rfl (by decide) rfl (by omega) (by decide) ?_
          rw [hkM]
          refine J_iconst Y qX9_heir_108 ?_
          refine J_icmp_ne Y qX9_heir_109 (by omega) (by omega) (by omega) (by omega) (fun h109 => ?_) (fun h109 => ?_)
          · refine J_aloadr_0 Y qX9_heir_119 ?_
            refine J_getR Y qX9_heir_120 fX9_49 (by decide) ?_
            refine J_iconst Y qX9_heir_123 ?_
            refine J_iload_1 Y qX9_heir_124 ?_
            refine J_imul Y qX9_heir_125 ?_
            refine J_aloadr_0 Y qX9_heir_126 ?_
            refine J_getR Y qX9_heir_127 fX9_46 (by decide) ?_
            refine J_iload_1 Y qX9_heir_130 ?_
            refine J_ialoadN (kx := p) Y qX9_heir_131 rfl (by decide) rfl (by omega) (by decide) ?_
            refine J_iadd Y qX9_heir_132 ?_
            refine J_iload_2 Y qX9_heir_133 ?_
            rw [hkM, show (4 : Int) * (p : Int) + (i : Int) = ((4 * p + i : Nat) : Int) by omega]
            refine J_iastoreN (kx := (4 * p + i)) Y qX9_heir_134 rfl (by decide) rfl (by omega) (by decide) ?_
            refine J_aloadr_0 Y qX9_heir_135 ?_
            refine J_getR Y qX9_heir_136 fX9_52 (by decide) ?_
            refine J_iconst Y qX9_heir_139 ?_
            refine J_iload_1 Y qX9_heir_140 ?_
            refine J_imul Y qX9_heir_141 ?_
            refine J_aloadr_0 Y qX9_heir_142 ?_
            refine J_getR Y qX9_heir_143 fX9_46 (by decide) ?_
            refine J_iload_1 Y qX9_heir_146 ?_
            refine J_ialoadN (kx := p) Y qX9_heir_147 rfl (by decide) rfl (by omega) (by decide) ?_
            refine J_iadd Y qX9_heir_148 ?_
            refine J_iload_3 Y qX9_heir_149 ?_
            rw [show up M 53 0 (4 * p + i) b 52 0 p = (i : Int) from hkM, show (4 : Int) * (p : Int) + (i : Int) = ((4 * p + i : Nat) : Int) by omega]
            refine J_iastoreN (kx := (4 * p + i)) Y qX9_heir_150 rfl (by decide) rfl (by omega) (by decide) ?_
            refine J_aloadr_0 Y qX9_heir_151 ?_
            refine J_getR Y qX9_heir_152 fX9_46 (by decide) ?_
            refine J_iload_1 Y qX9_heir_155 ?_
            refine J_dup2 Y qX9_heir_156 rfl rfl ?_
            refine J_ialoadN (kx := p) Y qX9_heir_157 rfl (by decide) rfl (by omega) (by decide) ?_
            rw [show up (up M 53 0 (4 * p + i) b) 54 0 (4 * p + i) c 52 0 p = (i : Int) from hkM]
            refine J_iconst Y qX9_heir_158 ?_
            refine J_iadd Y qX9_heir_159 ?_
            refine J_iastoreN (kx := p) Y qX9_heir_160 rfl (by decide) rfl (by omega) (by decide) ?_
            refine J_aloadr_0 Y qX9_heir_161 ?_
            refine J_getR Y qX9_heir_162 fX9_46 (by decide) ?_
            refine J_iload_1 Y qX9_heir_165 ?_
            refine J_ialoadN (kx := p) Y qX9_heir_166 rfl (by decide) rfl (by omega) (by decide) ?_
            rw [up_same]
            exact J_iret X qX9_heir_167 (QR_e (by
              unfold f_heir
              try simp only [Int.toNat_natCast, hk]
              repeat (first | rewrite [if_pos trivial] | rewrite [if_pos (by omega)] | rewrite [if_neg (by omega)] | rewrite [if_pos hq] | rewrite [if_neg hq])
              exact rfl) (by first | rfl | (dsimp only; omega)) (by first | exact hM | exact MR_rfs hM (by decide) | exact MR_addH hM hk (by omega) (fun q hq => (hI.heirs hq).2.1)) (by first | exact Sm.rfl' | exact Sm_up (Or.inl (by decide)) | exact (Sm_up (Or.inl (by decide))).tr ((Sm_up (Or.inl (by decide))).tr (Sm_up (Or.inl (by decide))))))
          · refine J_aloadr_0 Y qX9_heir_112 ?_
            refine J_bipush Y qX9_heir_113 (by decide) ?_
            refine J_cV1F Y qX9_heir_115 mX9_97 iyX9_refuse (by decide) rfl (by decide) rfl (Nat.le_of_ble_eq_true rfl) (m_refuse _ _ _ 8 (by decide) rfl) ?_
            exact J_iret X qX9_heir_118 (QR_e (by
              unfold f_heir
              try simp only [Int.toNat_natCast, hk]
              repeat (first | rewrite [if_pos trivial] | rewrite [if_pos (by omega)] | rewrite [if_neg (by omega)] | rewrite [if_pos hq] | rewrite [if_neg hq])
              exact rfl) (by first | rfl | (dsimp only; omega)) (by first | exact hM | exact MR_rfs hM (by decide) | exact MR_addH hM hk (by omega) (fun q hq => (hI.heirs hq).2.1)) (by first | exact Sm.rfl' | exact Sm_up (Or.inl (by decide)) | exact (Sm_up (Or.inl (by decide))).tr ((Sm_up (Or.inl (by decide))).tr (Sm_up (Or.inl (by decide))))))
        · refine J_aloadr_0 Y qX9_heir_95 ?_
          refine J_bipush Y qX9_heir_96 (by decide) ?_
          refine J_cV1F Y qX9_heir_98 mX9_97 iyX9_refuse (by decide) rfl (by decide) rfl (Nat.le_of_ble_eq_true rfl) (m_refuse _ _ _ 7 (by decide) rfl) ?_
          exact J_iret X qX9_heir_101 (QR_e (by
            unfold f_heir
            try simp only [Int.toNat_natCast, hk]
            repeat (first | rewrite [if_pos trivial] | rewrite [if_pos (by omega)] | rewrite [if_neg (by omega)] | rewrite [if_pos hq] | rewrite [if_neg hq])
            exact rfl) (by first | rfl | (dsimp only; omega)) (by first | exact hM | exact MR_rfs hM (by decide) | exact MR_addH hM hk (by omega) (fun q hq => (hI.heirs hq).2.1)) (by first | exact Sm.rfl' | exact Sm_up (Or.inl (by decide)) | exact (Sm_up (Or.inl (by decide))).tr ((Sm_up (Or.inl (by decide))).tr (Sm_up (Or.inl (by decide))))))
    · have hv := (hM.rh p hp).2 i (by omega)
      have hr3 := (hI.heirs hp).2.2 i (by omega)
      refine J_iload_4 Y qX9_heir_57 ?_
      refine J_if_ne Y qX9_heir_59 (by omega) (by omega) (fun h59 => ?_) (fun h59 => ?_)
      · refine J_iconst Y qX9_heir_77 ?_
        refine J_goto Y qX9_heir_78 ?_
        refine J_istore_4 Y qX9_heir_82 rfl ?_
        refine J_iinc_5 Y qX9_heir_84 rfl ?_
        refine J_goto Y qX9_heir_87 ?_
        first
        | exact ih (i + 1) 1 (by omega) (by omega) (by omega) (by simp only [isAm, Bool.or_eq_true, decide_eq_true_eq]; grind)
        | exact ih (i + 1) 0 (by omega) (by omega) (by omega) (by simp only [isAm, Bool.or_eq_true, decide_eq_true_eq]; grind)
      · refine J_aloadr_0 Y qX9_heir_62 ?_
        refine J_getR Y qX9_heir_63 fX9_49 (by decide) ?_
        refine J_iconst Y qX9_heir_66 ?_
        refine J_iload_1 Y qX9_heir_67 ?_
        refine J_imul Y qX9_heir_68 ?_
        refine J_iload_5 Y qX9_heir_69 ?_
        refine J_iadd Y qX9_heir_71 ?_
        rw [show (4 : Int) * (p : Int) + (i : Int) = ((4 * p + i : Nat) : Int) by omega]
        refine J_ialoadN (kx := (4 * p + i)) Y qX9_heir_72 rfl (by decide) rfl (by omega) (by decide) ?_
        refine J_iload_2 Y qX9_heir_73 ?_
        refine J_icmp_ne Y qX9_heir_74 (by omega) (by omega) (by omega) (by omega) (fun h74 => ?_) (fun h74 => ?_)
        · refine J_iconst Y qX9_heir_81 ?_
          refine J_istore_4 Y qX9_heir_82 rfl ?_
          refine J_iinc_5 Y qX9_heir_84 rfl ?_
          refine J_goto Y qX9_heir_87 ?_
          first
          | exact ih (i + 1) 1 (by omega) (by omega) (by omega) (by simp only [isAm, Bool.or_eq_true, decide_eq_true_eq]; grind)
          | exact ih (i + 1) 0 (by omega) (by omega) (by omega) (by simp only [isAm, Bool.or_eq_true, decide_eq_true_eq]; grind)
        · refine J_iconst Y qX9_heir_77 ?_
          refine J_goto Y qX9_heir_78 ?_
          refine J_istore_4 Y qX9_heir_82 rfl ?_
          refine J_iinc_5 Y qX9_heir_84 rfl ?_
          refine J_goto Y qX9_heir_87 ?_
          first
          | exact ih (i + 1) 1 (by omega) (by omega) (by omega) (by simp only [isAm, Bool.or_eq_true, decide_eq_true_eq]; grind)
          | exact ih (i + 1) 0 (by omega) (by omega) (by omega) (by simp only [isAm, Bool.or_eq_true, decide_eq_true_eq]; grind)

theorem r_heir (l : Launch) (G : Gx) (M : Mem) {A : Mem} {n : Nat} {a b c : Int} (a1 : -2147483648 ≤ a) (a2 : a < 2147483648) (b1 : -2147483648 ≤ b) (b2 : b < 2147483648) (c1 : -2147483648 ≤ c) (c2 : c < 2147483648) (hI : Inv n A) (hn : n < 512) (hM : MR A M)  : Ct l G 4 yX9_heir cX9_heir 6 ((Option.some Jvm.ClassFile.FieldType.int)) [rf G 9 0, vi a, vi b, vi c] M (QR (f_heir A a b c) M) := by
  refine Ct.of rfl (Nat.le_of_ble_eq_true rfl) rfl (fun E X => ?_)
  have Y := X.ok
  obtain ⟨m1, m2, m3, m4, m5, m6⟩ := hM.r0
  obtain ⟨c1, c2⟩ := hI.count
  obtain ⟨d1, d2⟩ := hI.day
  refine J_iload_1 Y qX9_heir_0 ?_
  refine J_cS1B Y qX9_heir_1 mX9_108 iyX9_isPerson rfl (by decide) rfl (Nat.le_of_ble_eq_true rfl) (m_isPerson _ _ _ (by omega) (by omega)) (fun h1 => ?_) (fun h1 => ?_)
  · refine J_eq1 Y qX9_heir_4 ?_
    refine J_iload_2 Y qX9_heir_7 ?_
    refine J_cS1B Y qX9_heir_8 mX9_108 iyX9_isPerson rfl (by decide) rfl (Nat.le_of_ble_eq_true rfl) (m_isPerson _ _ _ (by omega) (by omega)) (fun h8 => ?_) (fun h8 => ?_)
    · refine J_ne1 Y qX9_heir_11 ?_
      obtain ⟨p, rfl⟩ := nat_of (show 0 ≤ a by omega)
      obtain ⟨q1, q2, q3⟩ := hI.heirs (p := p) (by omega)
      obtain ⟨k, hk⟩ := nat_of q1
      refine J_iload_1 Y qX9_heir_21 ?_
      refine J_iload_2 Y qX9_heir_22 ?_
      refine J_icmp_eq Y qX9_heir_23 (by omega) (by omega) (by omega) (by omega) (fun h23 => ?_) (fun h23 => ?_)
      · refine J_iconst Y qX9_heir_36 ?_
        refine J_goto Y qX9_heir_37 ?_
        refine J_istore_4 Y qX9_heir_41 rfl ?_
        refine J_iconst Y qX9_heir_43 ?_
        refine J_istore_5 Y qX9_heir_44 rfl ?_
        first
        | exact lp_mheir (by omega) (by omega) hI hM (by omega) hk (by omega) X (k + 1) 0 1 (by omega) (by omega) (Or.inr rfl) (by simp [isAm]; omega)
        | exact lp_mheir (by omega) (by omega) hI hM (by omega) hk (by omega) X (k + 1) 0 0 (by omega) (by omega) (Or.inl rfl) (by simp [isAm]; omega)
      · refine J_iload_3 Y qX9_heir_26 ?_
        refine J_iconst Y qX9_heir_27 ?_
        refine J_bipush Y qX9_heir_28 (by decide) ?_
        refine J_cS3B Y qX9_heir_30 mX9_93 iyX9_in rfl (by decide) rfl (Nat.le_of_ble_eq_true rfl) (m_in _ _ _ (by omega) (by omega) (by omega) (by omega) (by omega) (by omega)) (fun h30 => ?_) (fun h30 => ?_)
        · refine J_ne1 Y qX9_heir_33 ?_
          refine J_iconst Y qX9_heir_40 ?_
          refine J_istore_4 Y qX9_heir_41 rfl ?_
          refine J_iconst Y qX9_heir_43 ?_
          refine J_istore_5 Y qX9_heir_44 rfl ?_
          first
          | exact lp_mheir (by omega) (by omega) hI hM (by omega) hk (by omega) X (k + 1) 0 1 (by omega) (by omega) (Or.inr rfl) (by simp [isAm]; omega)
          | exact lp_mheir (by omega) (by omega) hI hM (by omega) hk (by omega) X (k + 1) 0 0 (by omega) (by omega) (Or.inl rfl) (by simp [isAm]; omega)
        · refine J_ne0 Y qX9_heir_33 ?_
          refine J_iconst Y qX9_heir_36 ?_
          refine J_goto Y qX9_heir_37 ?_
          refine J_istore_4 Y qX9_heir_41 rfl ?_
          refine J_iconst Y qX9_heir_43 ?_
          refine J_istore_5 Y qX9_heir_44 rfl ?_
          first
          | exact lp_mheir (by omega) (by omega) hI hM (by omega) hk (by omega) X (k + 1) 0 1 (by omega) (by omega) (Or.inr rfl) (by simp [isAm]; omega)
          | exact lp_mheir (by omega) (by omega) hI hM (by omega) hk (by omega) X (k + 1) 0 0 (by omega) (by omega) (Or.inl rfl) (by simp [isAm]; omega)
    · refine J_ne0 Y qX9_heir_11 ?_
      refine J_aloadr_0 Y qX9_heir_14 ?_
      refine J_bipush Y qX9_heir_15 (by decide) ?_
      refine J_cV1F Y qX9_heir_17 mX9_97 iyX9_refuse (by decide) rfl (by decide) rfl (Nat.le_of_ble_eq_true rfl) (m_refuse _ _ _ 3 (by decide) rfl) ?_
      exact J_iret X qX9_heir_20 (QR_e (by
        unfold f_heir
        try simp only [Int.toNat_natCast]
        repeat (first | rewrite [if_pos trivial] | rewrite [if_pos (by omega)] | rewrite [if_neg (by omega)])
        exact rfl) (by first | rfl | (dsimp only; omega)) (by first | exact hM | exact MR_rfs hM (by decide)) (by first | exact Sm.rfl' | exact Sm_up (Or.inl (by decide))))
  · refine J_eq0 Y qX9_heir_4 ?_
    refine J_aloadr_0 Y qX9_heir_14 ?_
    refine J_bipush Y qX9_heir_15 (by decide) ?_
    refine J_cV1F Y qX9_heir_17 mX9_97 iyX9_refuse (by decide) rfl (by decide) rfl (Nat.le_of_ble_eq_true rfl) (m_refuse _ _ _ 3 (by decide) rfl) ?_
    exact J_iret X qX9_heir_20 (QR_e (by
      unfold f_heir
      try simp only [Int.toNat_natCast]
      repeat (first | rewrite [if_pos trivial] | rewrite [if_pos (by omega)] | rewrite [if_neg (by omega)])
      exact rfl) (by first | rfl | (dsimp only; omega)) (by first | exact hM | exact MR_rfs hM (by decide)) (by first | exact Sm.rfl' | exact Sm_up (Or.inl (by decide))))

theorem r_sale (l : Launch) (G : Gx) (M : Mem) {A : Mem} {n : Nat} {a b c : Int} (a1 : -2147483648 ≤ a) (a2 : a < 2147483648) (b1 : -2147483648 ≤ b) (b2 : b < 2147483648) (c1 : -2147483648 ≤ c) (c2 : c < 2147483648) (hI : Inv n A) (hn : n < 512) (hM : MR A M)  : Ct l G 4 yX9_sale cX9_sale 8 ((Option.some Jvm.ClassFile.FieldType.int)) [rf G 9 0, vi a, vi b, vi c] M (QR (f_sale A a b c) M) := by
  refine Ct.of rfl (Nat.le_of_ble_eq_true rfl) rfl (fun E X => ?_)
  have Y := X.ok
  obtain ⟨m1, m2, m3, m4, m5, m6⟩ := hM.r0
  obtain ⟨c1, c2⟩ := hI.count
  obtain ⟨d1, d2⟩ := hI.day
  refine J_iload_1 Y qX9_sale_0 ?_
  refine J_if_lt Y qX9_sale_1 (by omega) (by omega) (fun h1 => ?_) (fun h1 => ?_)
  · refine J_aloadr_0 Y qX9_sale_25 ?_
    refine J_bipush Y qX9_sale_26 (by decide) ?_
    refine J_cV1F Y qX9_sale_28 mX9_97 iyX9_refuse (by decide) rfl (by decide) rfl (Nat.le_of_ble_eq_true rfl) (m_refuse _ _ _ 3 (by decide) rfl) ?_
    exact J_iret X qX9_sale_31 (QR_e (by
      unfold f_sale
      try simp only [Int.toNat_natCast]
      repeat (first | rewrite [if_pos trivial] | rewrite [if_pos (by omega)] | rewrite [if_neg (by omega)])
      exact rfl) (by first | rfl | (dsimp only; omega)) (by first | exact hM | exact MR_rfs hM (by decide)) (by first | exact Sm.rfl' | exact Sm_up (Or.inl (by decide))))
  · refine J_aloadr_0 Y qX9_sale_4 ?_
    refine J_iload_1 Y qX9_sale_5 ?_
    refine J_bipush Y qX9_sale_6 (by decide) ?_
    refine J_irem Y qX9_sale_8 (by omega) (by omega) (by omega) (by omega) ?_
    refine J_cV1B Y qX9_sale_9 mX9_101 iyX9_isShop (by decide) rfl (by decide) rfl (Nat.le_of_ble_eq_true rfl) (m_isShop _ _ _ (by omega) (by omega) (by omega) (by omega)) (fun h9 => ?_) (fun h9 => ?_)
    · refine J_eq1 Y qX9_sale_12 ?_
      refine J_iload_2 Y qX9_sale_15 ?_
      refine J_iconst Y qX9_sale_16 ?_
      refine J_bipush Y qX9_sale_17 (by decide) ?_
      refine J_cS3B Y qX9_sale_19 mX9_93 iyX9_in rfl (by decide) rfl (Nat.le_of_ble_eq_true rfl) (m_in _ _ _ (by omega) (by omega) (by omega) (by omega) (by omega) (by omega)) (fun h19 => ?_) (fun h19 => ?_)
      · refine J_ne1 Y qX9_sale_22 ?_
        refine J_iload_1 Y qX9_sale_32 ?_
        refine J_bipush Y qX9_sale_33 (by decide) ?_
        refine J_idiv Y qX9_sale_35 (by omega) (by omega) (by omega) (by omega) ?_
        refine J_iconst Y qX9_sale_36 ?_
        refine J_icmp_le Y qX9_sale_37 (by omega) (by omega) (by omega) (by omega) (fun h37 => ?_) (fun h37 => ?_)
        · refine J_iload_2 Y qX9_sale_47 ?_
          refine J_bipush Y qX9_sale_48 (by decide) ?_
          refine J_idiv Y qX9_sale_50 (by omega) (by omega) (by omega) (by omega) ?_
          refine J_istore_4 Y qX9_sale_51 rfl ?_
          refine J_iload_2 Y qX9_sale_53 ?_
          refine J_bipush Y qX9_sale_54 (by decide) ?_
          refine J_irem Y qX9_sale_56 (by omega) (by omega) (by omega) (by omega) ?_
          refine J_istore_5 Y qX9_sale_57 rfl ?_
          refine J_iload_3 Y qX9_sale_59 ?_
          refine J_iconst Y qX9_sale_60 ?_
          refine J_sipush Y qX9_sale_61 (by decide) ?_
          refine J_cS3B Y qX9_sale_64 mX9_93 iyX9_in rfl (by decide) rfl (Nat.le_of_ble_eq_true rfl) (m_in _ _ _ (by omega) (by omega) (by omega) (by omega) (by omega) (by omega)) (fun h64 => ?_) (fun h64 => ?_)
          · refine J_eq1 Y qX9_sale_67 ?_
            refine J_iload_4 Y qX9_sale_70 ?_
            refine J_iload_5 Y qX9_sale_72 ?_
            refine J_icmp_ne Y qX9_sale_74 (by omega) (by omega) (by omega) (by omega) (fun h74 => ?_) (fun h74 => ?_)
            · obtain ⟨s, hs⟩ := nat_of (show 0 ≤ a % 100 by omega)
              obtain ⟨g, hg⟩ := nat_of (show 0 ≤ b / 10 by omega)
              obtain ⟨t, ht⟩ := nat_of (show 0 ≤ b % 10 by omega)
              rcases (show a / 100 = 0 ∨ a / 100 = 1 by omega) with hk | hk
              · have e1 : M 45 0 (20 * s + g) = A 25 s g := (hM.rp s (by omega) g (by omega)).1
                have e2 : M 45 0 (20 * s + t) = A 25 s t := (hM.rp s (by omega) t (by omega)).1
                have pr := hI.part (s := s) (p := g) (by omega) (by omega)
                obtain ⟨v, hv⟩ : ∃ v, v = min c (A 25 s g) := ⟨_, rfl⟩
                refine J_bipush Y qX9_sale_84 (by decide) ?_
                refine J_iload_1 Y qX9_sale_86 ?_
                refine J_bipush Y qX9_sale_87 (by decide) ?_
                refine J_irem Y qX9_sale_89 (by omega) (by omega) (by omega) (by omega) ?_
                refine J_imul Y qX9_sale_90 ?_
                refine J_bipush Y qX9_sale_91 (by decide) ?_
                refine J_iload_1 Y qX9_sale_93 ?_
                refine J_bipush Y qX9_sale_94 (by decide) ?_
                refine J_idiv Y qX9_sale_96 (by omega) (by omega) (by omega) (by omega) ?_
                refine J_imul Y qX9_sale_97 ?_
                refine J_iadd Y qX9_sale_98 ?_
                refine J_istore_6 Y qX9_sale_99 rfl ?_
                refine J_aloadr_0 Y qX9_sale_101 ?_
                refine J_getR Y qX9_sale_102 fX9_25 (by decide) ?_
                refine J_iload_6 Y qX9_sale_105 ?_
                refine J_iload_4 Y qX9_sale_107 ?_
                refine J_iadd Y qX9_sale_109 ?_
                rw [show 20 * (a % 100) + 10 * (a / 100) + b / 10 = ((20 * s + g : Nat) : Int) by omega]
                refine J_ialoadN (kx := (20 * s + g)) Y qX9_sale_110 rfl (by decide) rfl (by omega) (by decide) ?_
                refine J_iload_3 Y qX9_sale_111 ?_
                refine J_icmp_ge Y qX9_sale_112 (by omega) (by omega) (by omega) (by omega) (fun h112 => ?_) (fun h112 => ?_)
                · refine J_iload_3 Y qX9_sale_128 ?_
                  first
                  | (rw [show M 45 0 (20 * s + g) = v by omega])
                  | (rw [show vi c :: [] = vi v :: [] by rw [show c = v by omega]])
                  refine J_istore_7 Y qX9_sale_129 rfl ?_
                  refine J_aloadr_0 Y qX9_sale_131 ?_
                  refine J_getR Y qX9_sale_132 fX9_25 (by decide) ?_
                  refine J_iload_6 Y qX9_sale_135 ?_
                  refine J_iload_4 Y qX9_sale_137 ?_
                  refine J_iadd Y qX9_sale_139 ?_
                  rw [show 20 * (a % 100) + 10 * (a / 100) + b / 10 = ((20 * s + g : Nat) : Int) by omega]
                  refine J_dup2 Y qX9_sale_140 rfl rfl ?_
                  refine J_ialoadN (kx := (20 * s + g)) Y qX9_sale_141 rfl (by decide) rfl (by omega) (by decide) ?_
                  refine J_iload_7 Y qX9_sale_142 ?_
                  refine J_isub Y qX9_sale_144 ?_
                  refine J_iastoreN (kx := (20 * s + g)) Y qX9_sale_145 rfl (by decide) rfl (by omega) (by decide) ?_
                  refine J_aloadr_0 Y qX9_sale_146 ?_
                  refine J_getR Y qX9_sale_147 fX9_25 (by decide) ?_
                  refine J_iload_6 Y qX9_sale_150 ?_
                  refine J_iload_5 Y qX9_sale_152 ?_
                  refine J_iadd Y qX9_sale_154 ?_
                  rw [show 20 * (a % 100) + 10 * (a / 100) + b % 10 = ((20 * s + t : Nat) : Int) by omega]
                  refine J_dup2 Y qX9_sale_155 rfl rfl ?_
                  refine J_ialoadN (kx := (20 * s + t)) Y qX9_sale_156 rfl (by decide) rfl (by omega) (by decide) ?_
                  rw [show up M 45 0 (20 * s + g) (M 45 0 (20 * s + g) - v) 45 0 (20 * s + t) = M 45 0 (20 * s + t) from up_ne (by omega)]
                  refine J_iload_7 Y qX9_sale_157 ?_
                  refine J_iadd Y qX9_sale_159 ?_
                  refine J_iastoreN (kx := (20 * s + t)) Y qX9_sale_160 rfl (by decide) rfl (by omega) (by decide) ?_
                  refine J_iload_7 Y qX9_sale_161 ?_
                  have hF : f_sale A a b c = (v, up (up A 25 s g (A 25 s g - v)) 25 s t (A 25 s t + v)) := by
                    unfold f_sale
                    rw [if_neg (by omega), if_neg (by omega), if_neg (by omega)]
                    simp only [hs, hg, ht, hk, hv]
                    rfl
                  rw [e1, e2]
                  exact J_iret X qX9_sale_163 (QR_e hF rfl (MR_part (MR_part hM (by omega) (by omega)) (by omega) (by omega)) ((Sm_up (Or.inl (by decide))).tr (Sm_up (Or.inl (by decide)))))
                · refine J_aloadr_0 Y qX9_sale_115 ?_
                  refine J_getR Y qX9_sale_116 fX9_25 (by decide) ?_
                  refine J_iload_6 Y qX9_sale_119 ?_
                  refine J_iload_4 Y qX9_sale_121 ?_
                  refine J_iadd Y qX9_sale_123 ?_
                  rw [show 20 * (a % 100) + 10 * (a / 100) + b / 10 = ((20 * s + g : Nat) : Int) by omega]
                  refine J_ialoadN (kx := (20 * s + g)) Y qX9_sale_124 rfl (by decide) rfl (by omega) (by decide) ?_
                  refine J_goto Y qX9_sale_125 ?_
                  first
                  | (rw [show M 45 0 (20 * s + g) = v by omega])
                  | (rw [show vi c :: [] = vi v :: [] by rw [show c = v by omega]])
                  refine J_istore_7 Y qX9_sale_129 rfl ?_
                  refine J_aloadr_0 Y qX9_sale_131 ?_
                  refine J_getR Y qX9_sale_132 fX9_25 (by decide) ?_
                  refine J_iload_6 Y qX9_sale_135 ?_
                  refine J_iload_4 Y qX9_sale_137 ?_
                  refine J_iadd Y qX9_sale_139 ?_
                  rw [show 20 * (a % 100) + 10 * (a / 100) + b / 10 = ((20 * s + g : Nat) : Int) by omega]
                  refine J_dup2 Y qX9_sale_140 rfl rfl ?_
                  refine J_ialoadN (kx := (20 * s + g)) Y qX9_sale_141 rfl (by decide) rfl (by omega) (by decide) ?_
                  refine J_iload_7 Y qX9_sale_142 ?_
                  refine J_isub Y qX9_sale_144 ?_
                  refine J_iastoreN (kx := (20 * s + g)) Y qX9_sale_145 rfl (by decide) rfl (by omega) (by decide) ?_
                  refine J_aloadr_0 Y qX9_sale_146 ?_
                  refine J_getR Y qX9_sale_147 fX9_25 (by decide) ?_
                  refine J_iload_6 Y qX9_sale_150 ?_
                  refine J_iload_5 Y qX9_sale_152 ?_
                  refine J_iadd Y qX9_sale_154 ?_
                  rw [show 20 * (a % 100) + 10 * (a / 100) + b % 10 = ((20 * s + t : Nat) : Int) by omega]
                  refine J_dup2 Y qX9_sale_155 rfl rfl ?_
                  refine J_ialoadN (kx := (20 * s + t)) Y qX9_sale_156 rfl (by decide) rfl (by omega) (by decide) ?_
                  rw [show up M 45 0 (20 * s + g) (M 45 0 (20 * s + g) - v) 45 0 (20 * s + t) = M 45 0 (20 * s + t) from up_ne (by omega)]
                  refine J_iload_7 Y qX9_sale_157 ?_
                  refine J_iadd Y qX9_sale_159 ?_
                  refine J_iastoreN (kx := (20 * s + t)) Y qX9_sale_160 rfl (by decide) rfl (by omega) (by decide) ?_
                  refine J_iload_7 Y qX9_sale_161 ?_
                  have hF : f_sale A a b c = (v, up (up A 25 s g (A 25 s g - v)) 25 s t (A 25 s t + v)) := by
                    unfold f_sale
                    rw [if_neg (by omega), if_neg (by omega), if_neg (by omega)]
                    simp only [hs, hg, ht, hk, hv]
                    rfl
                  rw [e1, e2]
                  exact J_iret X qX9_sale_163 (QR_e hF rfl (MR_part (MR_part hM (by omega) (by omega)) (by omega) (by omega)) ((Sm_up (Or.inl (by decide))).tr (Sm_up (Or.inl (by decide)))))
              · have e1 : M 45 0 (20 * s + 10 + g) = A 26 s g := (hM.rp s (by omega) g (by omega)).2
                have e2 : M 45 0 (20 * s + 10 + t) = A 26 s t := (hM.rp s (by omega) t (by omega)).2
                have pr := hI.part (s := s) (p := g) (by omega) (by omega)
                obtain ⟨v, hv⟩ : ∃ v, v = min c (A 26 s g) := ⟨_, rfl⟩
                refine J_bipush Y qX9_sale_84 (by decide) ?_
                refine J_iload_1 Y qX9_sale_86 ?_
                refine J_bipush Y qX9_sale_87 (by decide) ?_
                refine J_irem Y qX9_sale_89 (by omega) (by omega) (by omega) (by omega) ?_
                refine J_imul Y qX9_sale_90 ?_
                refine J_bipush Y qX9_sale_91 (by decide) ?_
                refine J_iload_1 Y qX9_sale_93 ?_
                refine J_bipush Y qX9_sale_94 (by decide) ?_
                refine J_idiv Y qX9_sale_96 (by omega) (by omega) (by omega) (by omega) ?_
                refine J_imul Y qX9_sale_97 ?_
                refine J_iadd Y qX9_sale_98 ?_
                refine J_istore_6 Y qX9_sale_99 rfl ?_
                refine J_aloadr_0 Y qX9_sale_101 ?_
                refine J_getR Y qX9_sale_102 fX9_25 (by decide) ?_
                refine J_iload_6 Y qX9_sale_105 ?_
                refine J_iload_4 Y qX9_sale_107 ?_
                refine J_iadd Y qX9_sale_109 ?_
                rw [show 20 * (a % 100) + 10 * (a / 100) + b / 10 = ((20 * s + 10 + g : Nat) : Int) by omega]
                refine J_ialoadN (kx := (20 * s + 10 + g)) Y qX9_sale_110 rfl (by decide) rfl (by omega) (by decide) ?_
                refine J_iload_3 Y qX9_sale_111 ?_
                refine J_icmp_ge Y qX9_sale_112 (by omega) (by omega) (by omega) (by omega) (fun h112 => ?_) (fun h112 => ?_)
                · refine J_iload_3 Y qX9_sale_128 ?_
                  first
                  | (rw [show M 45 0 (20 * s + 10 + g) = v by omega])
                  | (rw [show vi c :: [] = vi v :: [] by rw [show c = v by omega]])
                  refine J_istore_7 Y qX9_sale_129 rfl ?_
                  refine J_aloadr_0 Y qX9_sale_131 ?_
                  refine J_getR Y qX9_sale_132 fX9_25 (by decide) ?_
                  refine J_iload_6 Y qX9_sale_135 ?_
                  refine J_iload_4 Y qX9_sale_137 ?_
                  refine J_iadd Y qX9_sale_139 ?_
                  rw [show 20 * (a % 100) + 10 * (a / 100) + b / 10 = ((20 * s + 10 + g : Nat) : Int) by omega]
                  refine J_dup2 Y qX9_sale_140 rfl rfl ?_
                  refine J_ialoadN (kx := (20 * s + 10 + g)) Y qX9_sale_141 rfl (by decide) rfl (by omega) (by decide) ?_
                  refine J_iload_7 Y qX9_sale_142 ?_
                  refine J_isub Y qX9_sale_144 ?_
                  refine J_iastoreN (kx := (20 * s + 10 + g)) Y qX9_sale_145 rfl (by decide) rfl (by omega) (by decide) ?_
                  refine J_aloadr_0 Y qX9_sale_146 ?_
                  refine J_getR Y qX9_sale_147 fX9_25 (by decide) ?_
                  refine J_iload_6 Y qX9_sale_150 ?_
                  refine J_iload_5 Y qX9_sale_152 ?_
                  refine J_iadd Y qX9_sale_154 ?_
                  rw [show 20 * (a % 100) + 10 * (a / 100) + b % 10 = ((20 * s + 10 + t : Nat) : Int) by omega]
                  refine J_dup2 Y qX9_sale_155 rfl rfl ?_
                  refine J_ialoadN (kx := (20 * s + 10 + t)) Y qX9_sale_156 rfl (by decide) rfl (by omega) (by decide) ?_
                  rw [show up M 45 0 (20 * s + 10 + g) (M 45 0 (20 * s + 10 + g) - v) 45 0 (20 * s + 10 + t) = M 45 0 (20 * s + 10 + t) from up_ne (by omega)]
                  refine J_iload_7 Y qX9_sale_157 ?_
                  refine J_iadd Y qX9_sale_159 ?_
                  refine J_iastoreN (kx := (20 * s + 10 + t)) Y qX9_sale_160 rfl (by decide) rfl (by omega) (by decide) ?_
                  refine J_iload_7 Y qX9_sale_161 ?_
                  have hF : f_sale A a b c = (v, up (up A 26 s g (A 26 s g - v)) 26 s t (A 26 s t + v)) := by
                    unfold f_sale
                    rw [if_neg (by omega), if_neg (by omega), if_neg (by omega)]
                    simp only [hs, hg, ht, hk, hv]
                    rfl
                  rw [e1, e2]
                  exact J_iret X qX9_sale_163 (QR_e hF rfl (MR_part2 (MR_part2 hM (by omega) (by omega)) (by omega) (by omega)) ((Sm_up (Or.inl (by decide))).tr (Sm_up (Or.inl (by decide)))))
                · refine J_aloadr_0 Y qX9_sale_115 ?_
                  refine J_getR Y qX9_sale_116 fX9_25 (by decide) ?_
                  refine J_iload_6 Y qX9_sale_119 ?_
                  refine J_iload_4 Y qX9_sale_121 ?_
                  refine J_iadd Y qX9_sale_123 ?_
                  rw [show 20 * (a % 100) + 10 * (a / 100) + b / 10 = ((20 * s + 10 + g : Nat) : Int) by omega]
                  refine J_ialoadN (kx := (20 * s + 10 + g)) Y qX9_sale_124 rfl (by decide) rfl (by omega) (by decide) ?_
                  refine J_goto Y qX9_sale_125 ?_
                  first
                  | (rw [show M 45 0 (20 * s + 10 + g) = v by omega])
                  | (rw [show vi c :: [] = vi v :: [] by rw [show c = v by omega]])
                  refine J_istore_7 Y qX9_sale_129 rfl ?_
                  refine J_aloadr_0 Y qX9_sale_131 ?_
                  refine J_getR Y qX9_sale_132 fX9_25 (by decide) ?_
                  refine J_iload_6 Y qX9_sale_135 ?_
                  refine J_iload_4 Y qX9_sale_137 ?_
                  refine J_iadd Y qX9_sale_139 ?_
                  rw [show 20 * (a % 100) + 10 * (a / 100) + b / 10 = ((20 * s + 10 + g : Nat) : Int) by omega]
                  refine J_dup2 Y qX9_sale_140 rfl rfl ?_
                  refine J_ialoadN (kx := (20 * s + 10 + g)) Y qX9_sale_141 rfl (by decide) rfl (by omega) (by decide) ?_
                  refine J_iload_7 Y qX9_sale_142 ?_
                  refine J_isub Y qX9_sale_144 ?_
                  refine J_iastoreN (kx := (20 * s + 10 + g)) Y qX9_sale_145 rfl (by decide) rfl (by omega) (by decide) ?_
                  refine J_aloadr_0 Y qX9_sale_146 ?_
                  refine J_getR Y qX9_sale_147 fX9_25 (by decide) ?_
                  refine J_iload_6 Y qX9_sale_150 ?_
                  refine J_iload_5 Y qX9_sale_152 ?_
                  refine J_iadd Y qX9_sale_154 ?_
                  rw [show 20 * (a % 100) + 10 * (a / 100) + b % 10 = ((20 * s + 10 + t : Nat) : Int) by omega]
                  refine J_dup2 Y qX9_sale_155 rfl rfl ?_
                  refine J_ialoadN (kx := (20 * s + 10 + t)) Y qX9_sale_156 rfl (by decide) rfl (by omega) (by decide) ?_
                  rw [show up M 45 0 (20 * s + 10 + g) (M 45 0 (20 * s + 10 + g) - v) 45 0 (20 * s + 10 + t) = M 45 0 (20 * s + 10 + t) from up_ne (by omega)]
                  refine J_iload_7 Y qX9_sale_157 ?_
                  refine J_iadd Y qX9_sale_159 ?_
                  refine J_iastoreN (kx := (20 * s + 10 + t)) Y qX9_sale_160 rfl (by decide) rfl (by omega) (by decide) ?_
                  refine J_iload_7 Y qX9_sale_161 ?_
                  have hF : f_sale A a b c = (v, up (up A 26 s g (A 26 s g - v)) 26 s t (A 26 s t + v)) := by
                    unfold f_sale
                    rw [if_neg (by omega), if_neg (by omega), if_neg (by omega)]
                    simp only [hs, hg, ht, hk, hv]
                    rfl
                  rw [e1, e2]
                  exact J_iret X qX9_sale_163 (QR_e hF rfl (MR_part2 (MR_part2 hM (by omega) (by omega)) (by omega) (by omega)) ((Sm_up (Or.inl (by decide))).tr (Sm_up (Or.inl (by decide)))))
            · refine J_aloadr_0 Y qX9_sale_77 ?_
              refine J_bipush Y qX9_sale_78 (by decide) ?_
              refine J_cV1F Y qX9_sale_80 mX9_97 iyX9_refuse (by decide) rfl (by decide) rfl (Nat.le_of_ble_eq_true rfl) (m_refuse _ _ _ 7 (by decide) rfl) ?_
              exact J_iret X qX9_sale_83 (QR_e (by
                unfold f_sale
                try simp only [Int.toNat_natCast]
                repeat (first | rewrite [if_pos trivial] | rewrite [if_pos (by omega)] | rewrite [if_neg (by omega)])
                exact rfl) (by first | rfl | (dsimp only; omega)) (by first | exact hM | exact MR_rfs hM (by decide)) (by first | exact Sm.rfl' | exact Sm_up (Or.inl (by decide))))
          · refine J_eq0 Y qX9_sale_67 ?_
            refine J_aloadr_0 Y qX9_sale_77 ?_
            refine J_bipush Y qX9_sale_78 (by decide) ?_
            refine J_cV1F Y qX9_sale_80 mX9_97 iyX9_refuse (by decide) rfl (by decide) rfl (Nat.le_of_ble_eq_true rfl) (m_refuse _ _ _ 7 (by decide) rfl) ?_
            exact J_iret X qX9_sale_83 (QR_e (by
              unfold f_sale
              try simp only [Int.toNat_natCast]
              repeat (first | rewrite [if_pos trivial] | rewrite [if_pos (by omega)] | rewrite [if_neg (by omega)])
              exact rfl) (by first | rfl | (dsimp only; omega)) (by first | exact hM | exact MR_rfs hM (by decide)) (by first | exact Sm.rfl' | exact Sm_up (Or.inl (by decide))))
        · refine J_aloadr_0 Y qX9_sale_40 ?_
          refine J_bipush Y qX9_sale_41 (by decide) ?_
          refine J_cV1F Y qX9_sale_43 mX9_97 iyX9_refuse (by decide) rfl (by decide) rfl (Nat.le_of_ble_eq_true rfl) (m_refuse _ _ _ 5 (by decide) rfl) ?_
          exact J_iret X qX9_sale_46 (QR_e (by
            unfold f_sale
            try simp only [Int.toNat_natCast]
            repeat (first | rewrite [if_pos trivial] | rewrite [if_pos (by omega)] | rewrite [if_neg (by omega)])
            exact rfl) (by first | rfl | (dsimp only; omega)) (by first | exact hM | exact MR_rfs hM (by decide)) (by first | exact Sm.rfl' | exact Sm_up (Or.inl (by decide))))
      · refine J_ne0 Y qX9_sale_22 ?_
        refine J_aloadr_0 Y qX9_sale_25 ?_
        refine J_bipush Y qX9_sale_26 (by decide) ?_
        refine J_cV1F Y qX9_sale_28 mX9_97 iyX9_refuse (by decide) rfl (by decide) rfl (Nat.le_of_ble_eq_true rfl) (m_refuse _ _ _ 3 (by decide) rfl) ?_
        exact J_iret X qX9_sale_31 (QR_e (by
          unfold f_sale
          try simp only [Int.toNat_natCast]
          repeat (first | rewrite [if_pos trivial] | rewrite [if_pos (by omega)] | rewrite [if_neg (by omega)])
          exact rfl) (by first | rfl | (dsimp only; omega)) (by first | exact hM | exact MR_rfs hM (by decide)) (by first | exact Sm.rfl' | exact Sm_up (Or.inl (by decide))))
    · refine J_eq0 Y qX9_sale_12 ?_
      refine J_aloadr_0 Y qX9_sale_25 ?_
      refine J_bipush Y qX9_sale_26 (by decide) ?_
      refine J_cV1F Y qX9_sale_28 mX9_97 iyX9_refuse (by decide) rfl (by decide) rfl (Nat.le_of_ble_eq_true rfl) (m_refuse _ _ _ 3 (by decide) rfl) ?_
      exact J_iret X qX9_sale_31 (QR_e (by
        unfold f_sale
        try simp only [Int.toNat_natCast]
        repeat (first | rewrite [if_pos trivial] | rewrite [if_pos (by omega)] | rewrite [if_neg (by omega)])
        exact rfl) (by first | rfl | (dsimp only; omega)) (by first | exact hM | exact MR_rfs hM (by decide)) (by first | exact Sm.rfl' | exact Sm_up (Or.inl (by decide))))


/-! ===== the reference: first ===== -/
theorem m_in (l : Launch) (G : Gx) (M : Mem) {v lo hi : Int} (v1 : -2147483648 ≤ v) (v2 : v < 2147483648) (lo1 : -2147483648 ≤ lo) (lo2 : lo < 2147483648) (hi1 : -2147483648 ≤ hi) (hi2 : hi < 2147483648) : Ct l G 1 yX9_in cX9_in 3 ((Option.some Jvm.ClassFile.FieldType.boolean)) [vi v, vi lo, vi hi] M (RB M (lo ≤ v ∧ v ≤ hi)) := by
  refine Ct.of rfl (Nat.le_of_ble_eq_true rfl) rfl (fun E X => ?_)
  have Y := X.ok
  refine J_iload_0 Y qX9_in_0 ?_
  refine J_iload_1 Y qX9_in_1 ?_
  refine J_icmp_lt Y qX9_in_2 (by omega) (by omega) (by omega) (by omega) (fun h2 => ?_) (fun h2 => ?_)
  · refine J_iconst Y qX9_in_14 ?_
    exact J_zret_f X qX9_in_15 rfl (by omega)
  · refine J_iload_0 Y qX9_in_5 ?_
    refine J_iload_2 Y qX9_in_6 ?_
    refine J_icmp_gt Y qX9_in_7 (by omega) (by omega) (by omega) (by omega) (fun h7 => ?_) (fun h7 => ?_)
    · refine J_iconst Y qX9_in_14 ?_
      exact J_zret_f X qX9_in_15 rfl (by omega)
    · refine J_iconst Y qX9_in_10 ?_
      refine J_goto Y qX9_in_11 ?_
      exact J_zret_t X qX9_in_15 rfl (by omega)

theorem m_refuse (l : Launch) (G : Gx) (M : Mem) (w : Nat) (hw : w < 9) {v : Int} (hv : v = -(w : Int)) : Ct l G 1 yX9_refuse cX9_refuse 2 ((Option.some Jvm.ClassFile.FieldType.int)) [rf G 9 0, vi v] M (RF v (up M 40 0 w (M 40 0 w + 1))) := by
  refine Ct.of rfl (Nat.le_of_ble_eq_true rfl) rfl (fun E X => ?_)
  have Y := X.ok
  refine J_aloadr_0 Y qX9_refuse_0 ?_
  refine J_getR Y qX9_refuse_1 fX9_7 (by decide) ?_
  refine J_iload_1 Y qX9_refuse_4 ?_
  refine J_ineg Y qX9_refuse_5 ?_
  rw [hv, Int.neg_neg]
  refine J_dup2 Y qX9_refuse_6 rfl rfl ?_
  refine J_ialoadN (kx := w) Y qX9_refuse_7 rfl (by decide) rfl (by omega) (by decide) ?_
  refine J_iconst Y qX9_refuse_8 ?_
  refine J_iadd Y qX9_refuse_9 ?_
  refine J_iastoreN (kx := w) Y qX9_refuse_10 rfl (by decide) rfl (by omega) (by decide) ?_
  refine J_iload_1 Y qX9_refuse_11 ?_
  exact J_iret X qX9_refuse_12 ⟨by rw [hv], rfl⟩

theorem m_isPerson (l : Launch) (G : Gx) (M : Mem) {p : Int} (p1 : -2147483648 ≤ p) (p2 : p < 2147483648) : Ct l G 2 yX9_isPerson cX9_isPerson 1 ((Option.some Jvm.ClassFile.FieldType.boolean)) [vi p] M (RB M (0 ≤ p ∧ p ≤ 9)) := by
  refine Ct.of rfl (Nat.le_of_ble_eq_true rfl) rfl (fun E X => ?_)
  have Y := X.ok
  refine J_iload_0 Y qX9_isPerson_0 ?_
  refine J_iconst Y qX9_isPerson_1 ?_
  refine J_bipush Y qX9_isPerson_2 (by decide) ?_
  refine J_cS3B Y qX9_isPerson_4 mX9_93 iyX9_in rfl (by decide) rfl (Nat.le_of_ble_eq_true rfl) (m_in _ _ _ (by omega) (by omega) (by omega) (by omega) (by omega) (by omega)) (fun h4 => ?_) (fun h4 => ?_)
  · exact J_zret_t X qX9_isPerson_7 rfl (by omega)
  · exact J_zret_f X qX9_isPerson_7 rfl (by omega)

theorem m_isShop (l : Launch) (G : Gx) (M : Mem) {s : Int} (s1 : -2147483648 ≤ s) (s2 : s < 2147483648) (h1 : 0 ≤ M 9 0 2) (h2 : M 9 0 2 ≤ 14) : Ct l G 2 yX9_isShop cX9_isShop 2 ((Option.some Jvm.ClassFile.FieldType.boolean)) [rf G 9 0, vi s] M (RB M (0 ≤ s ∧ s < M 9 0 2)) := by
  refine Ct.of rfl (Nat.le_of_ble_eq_true rfl) rfl (fun E X => ?_)
  have Y := X.ok
  refine J_iload_1 Y qX9_isShop_0 ?_
  refine J_iconst Y qX9_isShop_1 ?_
  refine J_aloadr_0 Y qX9_isShop_2 ?_
  refine J_getI Y qX9_isShop_3 fX9_89 (by decide) ?_
  refine J_iconst Y qX9_isShop_6 ?_
  refine J_isub Y qX9_isShop_7 ?_
  refine J_cS3B Y qX9_isShop_8 mX9_93 iyX9_in rfl (by decide) rfl (Nat.le_of_ble_eq_true rfl) (m_in _ _ _ (by omega) (by omega) (by omega) (by omega) (by omega) (by omega)) (fun h8 => ?_) (fun h8 => ?_)
  · exact J_zret_t X qX9_isShop_11 rfl (by omega)
  · exact J_zret_f X qX9_isShop_11 rfl (by omega)

theorem lp_mdebts {l : Launch} {G : Gx} {E : Fx} {d : Nat} {M : Mem} {s k : Nat} (hs : s < 14) (hk : M 49 0 s = (k : Int)) (k8 : k ≤ 8) (X : OkM l G E cX9_debts RX9 4 d (some .int) (RP M (sumN (fun j => M 51 0 (8 * s + j)) k))) : ∀ (n i : Nat), i ≤ k → k < i + n → J G E 4 [some (rf G 9 0), some (vi (s : Int)), some (vi (sumN (fun j => M 51 0 (8 * s + j)) i)), some (vi (i : Int))] [] M := by
  have Y := X.ok
  intro n
  induction n with
  | zero => intro i h1 h2; exfalso; omega
  | succ n ih =>
    intro i h1 h2
    refine J_iload_3 Y qX9_debts_4 ?_
    refine J_aloadr_0 Y qX9_debts_5 ?_
    refine J_getR Y qX9_debts_6 fX9_37 (by decide) ?_
    refine J_iload_1 Y qX9_debts_9 ?_
    refine J_ialoadN (kx := s) Y qX9_debts_10 rfl (by decide) rfl (by omega) (by decide) ?_
    rw [hk]
    refine J_icmp_ge Y qX9_debts_11 (by omega) (by omega) (by omega) (by omega) (fun h11 => ?_) (fun h11 => ?_)
    · obtain rfl : i = k := by omega
      refine J_iload_2 Y qX9_debts_34 ?_
      exact J_iret X qX9_debts_35 (RP_i rfl)
    · refine J_iload_2 Y qX9_debts_14 ?_
      refine J_aloadr_0 Y qX9_debts_15 ?_
      refine J_getR Y qX9_debts_16 fX9_43 (by decide) ?_
      refine J_bipush Y qX9_debts_19 (by decide) ?_
      refine J_iload_1 Y qX9_debts_21 ?_
      refine J_imul Y qX9_debts_22 ?_
      refine J_iload_3 Y qX9_debts_23 ?_
      refine J_iadd Y qX9_debts_24 ?_
      rw [show (8 : Int) * (s : Int) + (i : Int) = ((8 * s + i : Nat) : Int) by omega]
      refine J_ialoadN (kx := (8 * s + i)) Y qX9_debts_25 rfl (by decide) rfl (by omega) (by decide) ?_
      refine J_iadd Y qX9_debts_26 ?_
      refine J_istore_2 Y qX9_debts_27 rfl ?_
      refine J_iinc_3 Y qX9_debts_28 rfl ?_
      refine J_goto Y qX9_debts_31 ?_
      exact ih (i + 1) (by omega) (by omega)

theorem m_debts (l : Launch) (G : Gx) (M : Mem) {s k : Nat} (hs : s < 14) (hk : M 49 0 s = (k : Int)) (k8 : k ≤ 8) : Ct l G 1 yX9_debts cX9_debts 4 ((Option.some Jvm.ClassFile.FieldType.int)) [rf G 9 0, vi (s : Nat)] M (RP M (sumN (fun j => M 51 0 (8 * s + j)) k)) := by
  refine Ct.of rfl (Nat.le_of_ble_eq_true rfl) rfl (fun E X => ?_)
  have Y := X.ok
  refine J_iconst Y qX9_debts_0 ?_
  refine J_istore_2 Y qX9_debts_1 rfl ?_
  refine J_iconst Y qX9_debts_2 ?_
  refine J_istore_3 Y qX9_debts_3 rfl ?_
  exact lp_mdebts hs hk k8 X (k + 1) 0 (by omega) (by omega)

theorem r_look (l : Launch) (G : Gx) (M : Mem) {A : Mem} {n : Nat} {a b : Int} (a1 : -2147483648 ≤ a) (a2 : a < 2147483648) (b1 : -2147483648 ≤ b) (b2 : b < 2147483648) (hI : Inv n A) (hn : n < 512) (hM : MR A M)  : Ct l G 4 yX9_look cX9_look 3 ((Option.some Jvm.ClassFile.FieldType.int)) [rf G 9 0, vi a, vi b] M (QR (f_look A a b) M) := by
  refine Ct.of rfl (Nat.le_of_ble_eq_true rfl) rfl (fun E X => ?_)
  have Y := X.ok
  obtain ⟨m1, m2, m3, m4, m5, m6⟩ := hM.r0
  obtain ⟨c1, c2⟩ := hI.count
  obtain ⟨d1, d2⟩ := hI.day
  refine J_aloadr_0 Y qX9_look_0 ?_
  refine J_iload_1 Y qX9_look_1 ?_
  refine J_cV1B Y qX9_look_2 mX9_101 iyX9_isShop (by decide) rfl (by decide) rfl (Nat.le_of_ble_eq_true rfl) (m_isShop _ _ _ (by omega) (by omega) (by omega) (by omega)) (fun h2 => ?_) (fun h2 => ?_)
  · refine J_ne1 Y qX9_look_5 ?_
    obtain ⟨s, rfl⟩ := nat_of (show 0 ≤ a by omega)
    obtain ⟨p1, p2, p3⟩ := hI.pawns (s := s) (by omega)
    obtain ⟨k, hk⟩ := nat_of p1
    obtain ⟨u1, u2⟩ := hM.rq s (by omega)
    have hd8 : sumN (fun j => M 51 0 (8 * s + j)) k = sumN (A 28 s) k := sumN_cong k (fun j hj => (u2 j (by omega)).2)
    obtain ⟨g1, g2, g3, g4⟩ := hM.rs s (by omega)
    obtain ⟨l1, l2⟩ := hM.rl s (by omega)
    obtain ⟨e1, e2, e3, e4⟩ := hI.lets (s := s) (by omega)
    refine J_iload_2 Y qX9_look_15 ?_
    rcases (show b < 0 ∨ 8 < b ∨ b = 0 ∨ b = 1 ∨ b = 2 ∨ b = 3 ∨ b = 4 ∨ b = 5 ∨ b = 6 ∨ b = 7 ∨ b = 8 by omega) with hb | hb | rfl | rfl | rfl | rfl | rfl | rfl | rfl | rfl | rfl
    · refine J_tswOut (tg := 158) Y qX9_look_16 (by omega) (by omega) (Or.inl hb) (by decide) ?_
      refine J_aloadr_0 Y qX9_look_158 ?_
      refine J_bipush Y qX9_look_159 (by decide) ?_
      refine J_cV1F Y qX9_look_161 mX9_97 iyX9_refuse (by decide) rfl (by decide) rfl (Nat.le_of_ble_eq_true rfl) (m_refuse _ _ _ 7 (by decide) rfl) ?_
      exact J_iret X qX9_look_164 (QR_e (by
        unfold f_look
        try simp only [Int.toNat_natCast, hk]
        repeat (first | rewrite [if_pos trivial] | rewrite [if_pos (by omega)] | rewrite [if_neg (by omega)])
        exact rfl) (by first | rfl | (dsimp only; omega) | exact hd8) (by first | exact hM | exact MR_rfs hM (by decide)) (by first | exact Sm.rfl' | exact Sm_up (Or.inl (by decide))))
    · refine J_tswOut (tg := 158) Y qX9_look_16 (by omega) (by omega) (Or.inr hb) (by decide) ?_
      refine J_aloadr_0 Y qX9_look_158 ?_
      refine J_bipush Y qX9_look_159 (by decide) ?_
      refine J_cV1F Y qX9_look_161 mX9_97 iyX9_refuse (by decide) rfl (by decide) rfl (Nat.le_of_ble_eq_true rfl) (m_refuse _ _ _ 7 (by decide) rfl) ?_
      exact J_iret X qX9_look_164 (QR_e (by
        unfold f_look
        try simp only [Int.toNat_natCast, hk]
        repeat (first | rewrite [if_pos trivial] | rewrite [if_pos (by omega)] | rewrite [if_neg (by omega)])
        exact rfl) (by first | rfl | (dsimp only; omega) | exact hd8) (by first | exact hM | exact MR_rfs hM (by decide)) (by first | exact Sm.rfl' | exact Sm_up (Or.inl (by decide))))
    · refine J_tswIn (tg := 68) Y qX9_look_16 (by decide) (by decide) (by decide) (by decide) rfl (by decide) ?_
      refine J_aloadr_0 Y qX9_look_68 ?_
      refine J_getR Y qX9_look_69 fX9_13 (by decide) ?_
      refine J_iload_1 Y qX9_look_72 ?_
      refine J_ialoadN (kx := s) Y qX9_look_73 rfl (by decide) rfl (by omega) (by decide) ?_
      exact J_iret X qX9_look_74 (QR_e (by
        unfold f_look
        try simp only [Int.toNat_natCast, hk]
        repeat (first | rewrite [if_pos trivial] | rewrite [if_pos (by omega)] | rewrite [if_neg (by omega)])
        exact rfl) (by first | rfl | (dsimp only; omega) | exact hd8) (by first | exact hM | exact MR_rfs hM (by decide)) (by first | exact Sm.rfl' | exact Sm_up (Or.inl (by decide))))
    · refine J_tswIn (tg := 75) Y qX9_look_16 (by decide) (by decide) (by decide) (by decide) rfl (by decide) ?_
      refine J_aloadr_0 Y qX9_look_75 ?_
      refine J_getR Y qX9_look_76 fX9_16 (by decide) ?_
      refine J_iload_1 Y qX9_look_79 ?_
      refine J_ialoadN (kx := s) Y qX9_look_80 rfl (by decide) rfl (by omega) (by decide) ?_
      exact J_iret X qX9_look_81 (QR_e (by
        unfold f_look
        try simp only [Int.toNat_natCast, hk]
        repeat (first | rewrite [if_pos trivial] | rewrite [if_pos (by omega)] | rewrite [if_neg (by omega)])
        exact rfl) (by first | rfl | (dsimp only; omega) | exact hd8) (by first | exact hM | exact MR_rfs hM (by decide)) (by first | exact Sm.rfl' | exact Sm_up (Or.inl (by decide))))
    · refine J_tswIn (tg := 82) Y qX9_look_16 (by decide) (by decide) (by decide) (by decide) rfl (by decide) ?_
      refine J_aloadr_0 Y qX9_look_82 ?_
      refine J_getR Y qX9_look_83 fX9_19 (by decide) ?_
      refine J_iload_1 Y qX9_look_86 ?_
      refine J_ialoadN (kx := s) Y qX9_look_87 rfl (by decide) rfl (by omega) (by decide) ?_
      exact J_iret X qX9_look_88 (QR_e (by
        unfold f_look
        try simp only [Int.toNat_natCast, hk]
        repeat (first | rewrite [if_pos trivial] | rewrite [if_pos (by omega)] | rewrite [if_neg (by omega)])
        exact rfl) (by first | rfl | (dsimp only; omega) | exact hd8) (by first | exact hM | exact MR_rfs hM (by decide)) (by first | exact Sm.rfl' | exact Sm_up (Or.inl (by decide))))
    · refine J_tswIn (tg := 89) Y qX9_look_16 (by decide) (by decide) (by decide) (by decide) rfl (by decide) ?_
      refine J_aloadr_0 Y qX9_look_89 ?_
      refine J_getR Y qX9_look_90 fX9_22 (by decide) ?_
      refine J_iload_1 Y qX9_look_93 ?_
      refine J_ialoadN (kx := s) Y qX9_look_94 rfl (by decide) rfl (by omega) (by decide) ?_
      exact J_iret X qX9_look_95 (QR_e (by
        unfold f_look
        try simp only [Int.toNat_natCast, hk]
        repeat (first | rewrite [if_pos trivial] | rewrite [if_pos (by omega)] | rewrite [if_neg (by omega)])
        exact rfl) (by first | rfl | (dsimp only; omega) | exact hd8) (by first | exact hM | exact MR_rfs hM (by decide)) (by first | exact Sm.rfl' | exact Sm_up (Or.inl (by decide))))
    · refine J_tswIn (tg := 96) Y qX9_look_16 (by decide) (by decide) (by decide) (by decide) rfl (by decide) ?_
      refine J_aloadr_0 Y qX9_look_96 ?_
      refine J_getR Y qX9_look_97 fX9_28 (by decide) ?_
      refine J_iload_1 Y qX9_look_100 ?_
      refine J_ialoadN (kx := s) Y qX9_look_101 rfl (by decide) rfl (by omega) (by decide) ?_
      exact J_iret X qX9_look_102 (QR_e (by
        unfold f_look
        try simp only [Int.toNat_natCast, hk]
        repeat (first | rewrite [if_pos trivial] | rewrite [if_pos (by omega)] | rewrite [if_neg (by omega)])
        exact rfl) (by first | rfl | (dsimp only; omega) | exact hd8) (by first | exact hM | exact MR_rfs hM (by decide)) (by first | exact Sm.rfl' | exact Sm_up (Or.inl (by decide))))
    · refine J_tswIn (tg := 103) Y qX9_look_16 (by decide) (by decide) (by decide) (by decide) rfl (by decide) ?_
      refine J_aloadr_0 Y qX9_look_103 ?_
      refine J_getR Y qX9_look_104 fX9_28 (by decide) ?_
      refine J_iload_1 Y qX9_look_107 ?_
      refine J_ialoadN (kx := s) Y qX9_look_108 rfl (by decide) rfl (by omega) (by decide) ?_
      refine J_iconst Y qX9_look_109 ?_
      refine J_icmp_ne Y qX9_look_110 (by omega) (by omega) (by omega) (by omega) (fun h110 => ?_) (fun h110 => ?_)
      · refine J_aloadr_0 Y qX9_look_117 ?_
        refine J_getR Y qX9_look_118 fX9_31 (by decide) ?_
        refine J_iload_1 Y qX9_look_121 ?_
        refine J_ialoadN (kx := s) Y qX9_look_122 rfl (by decide) rfl (by omega) (by decide) ?_
        exact J_iret X qX9_look_123 (QR_e (by
          unfold f_look
          try simp only [Int.toNat_natCast, hk]
          repeat (first | rewrite [if_pos trivial] | rewrite [if_pos (by omega)] | rewrite [if_neg (by omega)])
          exact rfl) (by first | rfl | (dsimp only; omega) | exact hd8) (by first | exact hM | exact MR_rfs hM (by decide)) (by first | exact Sm.rfl' | exact Sm_up (Or.inl (by decide))))
      · refine J_iconst Y qX9_look_113 ?_
        refine J_goto Y qX9_look_114 ?_
        exact J_iret X qX9_look_123 (QR_e (by
          unfold f_look
          try simp only [Int.toNat_natCast, hk]
          repeat (first | rewrite [if_pos trivial] | rewrite [if_pos (by omega)] | rewrite [if_neg (by omega)])
          exact rfl) (by first | rfl | (dsimp only; omega) | exact hd8) (by first | exact hM | exact MR_rfs hM (by decide)) (by first | exact Sm.rfl' | exact Sm_up (Or.inl (by decide))))
    · refine J_tswIn (tg := 124) Y qX9_look_16 (by decide) (by decide) (by decide) (by decide) rfl (by decide) ?_
      refine J_aloadr_0 Y qX9_look_124 ?_
      refine J_getR Y qX9_look_125 fX9_28 (by decide) ?_
      refine J_iload_1 Y qX9_look_128 ?_
      refine J_ialoadN (kx := s) Y qX9_look_129 rfl (by decide) rfl (by omega) (by decide) ?_
      refine J_iconst Y qX9_look_130 ?_
      refine J_icmp_ne Y qX9_look_131 (by omega) (by omega) (by omega) (by omega) (fun h131 => ?_) (fun h131 => ?_)
      · refine J_aloadr_0 Y qX9_look_138 ?_
        refine J_getR Y qX9_look_139 fX9_34 (by decide) ?_
        refine J_iload_1 Y qX9_look_142 ?_
        refine J_ialoadN (kx := s) Y qX9_look_143 rfl (by decide) rfl (by omega) (by decide) ?_
        exact J_iret X qX9_look_144 (QR_e (by
          unfold f_look
          try simp only [Int.toNat_natCast, hk]
          repeat (first | rewrite [if_pos trivial] | rewrite [if_pos (by omega)] | rewrite [if_neg (by omega)])
          exact rfl) (by first | rfl | (dsimp only; omega) | exact hd8) (by first | exact hM | exact MR_rfs hM (by decide)) (by first | exact Sm.rfl' | exact Sm_up (Or.inl (by decide))))
      · refine J_iconst Y qX9_look_134 ?_
        refine J_goto Y qX9_look_135 ?_
        exact J_iret X qX9_look_144 (QR_e (by
          unfold f_look
          try simp only [Int.toNat_natCast, hk]
          repeat (first | rewrite [if_pos trivial] | rewrite [if_pos (by omega)] | rewrite [if_neg (by omega)])
          exact rfl) (by first | rfl | (dsimp only; omega) | exact hd8) (by first | exact hM | exact MR_rfs hM (by decide)) (by first | exact Sm.rfl' | exact Sm_up (Or.inl (by decide))))
    · refine J_tswIn (tg := 145) Y qX9_look_16 (by decide) (by decide) (by decide) (by decide) rfl (by decide) ?_
      refine J_aloadr_0 Y qX9_look_145 ?_
      refine J_getR Y qX9_look_146 fX9_37 (by decide) ?_
      refine J_iload_1 Y qX9_look_149 ?_
      refine J_ialoadN (kx := s) Y qX9_look_150 rfl (by decide) rfl (by omega) (by decide) ?_
      exact J_iret X qX9_look_151 (QR_e (by
        unfold f_look
        try simp only [Int.toNat_natCast, hk]
        repeat (first | rewrite [if_pos trivial] | rewrite [if_pos (by omega)] | rewrite [if_neg (by omega)])
        exact rfl) (by first | rfl | (dsimp only; omega) | exact hd8) (by first | exact hM | exact MR_rfs hM (by decide)) (by first | exact Sm.rfl' | exact Sm_up (Or.inl (by decide))))
    · refine J_tswIn (tg := 152) Y qX9_look_16 (by decide) (by decide) (by decide) (by decide) rfl (by decide) ?_
      refine J_aloadr_0 Y qX9_look_152 ?_
      refine J_iload_1 Y qX9_look_153 ?_
      refine J_cV1P Y qX9_look_154 mX9_105 iyX9_debts (by decide) rfl (by decide) rfl (Nat.le_of_ble_eq_true rfl) (m_debts _ _ _ (k := k) (by omega) (by omega) (by omega)) ?_
      exact J_iret X qX9_look_157 (QR_e (by
        unfold f_look
        try simp only [Int.toNat_natCast, hk]
        repeat (first | rewrite [if_pos trivial] | rewrite [if_pos (by omega)] | rewrite [if_neg (by omega)])
        exact rfl) (by first | rfl | (dsimp only; omega) | exact hd8) (by first | exact hM | exact MR_rfs hM (by decide)) (by first | exact Sm.rfl' | exact Sm_up (Or.inl (by decide))))
  · refine J_ne0 Y qX9_look_5 ?_
    refine J_aloadr_0 Y qX9_look_8 ?_
    refine J_bipush Y qX9_look_9 (by decide) ?_
    refine J_cV1F Y qX9_look_11 mX9_97 iyX9_refuse (by decide) rfl (by decide) rfl (Nat.le_of_ble_eq_true rfl) (m_refuse _ _ _ 3 (by decide) rfl) ?_
    exact J_iret X qX9_look_14 (QR_e (by
      unfold f_look
      try simp only [Int.toNat_natCast, hk]
      repeat (first | rewrite [if_pos trivial] | rewrite [if_pos (by omega)] | rewrite [if_neg (by omega)])
      exact rfl) (by first | rfl | (dsimp only; omega) | exact hd8) (by first | exact hM | exact MR_rfs hM (by decide)) (by first | exact Sm.rfl' | exact Sm_up (Or.inl (by decide))))

theorem r_has (l : Launch) (G : Gx) (M : Mem) {A : Mem} {n : Nat} {a b c : Int} (a1 : -2147483648 ≤ a) (a2 : a < 2147483648) (b1 : -2147483648 ≤ b) (b2 : b < 2147483648) (c1 : -2147483648 ≤ c) (c2 : c < 2147483648) (hI : Inv n A) (hn : n < 512) (hM : MR A M)  : Ct l G 4 yX9_has cX9_has 4 ((Option.some Jvm.ClassFile.FieldType.int)) [rf G 9 0, vi a, vi b, vi c] M (QR (f_has A a b c) M) := by
  refine Ct.of rfl (Nat.le_of_ble_eq_true rfl) rfl (fun E X => ?_)
  have Y := X.ok
  obtain ⟨m1, m2, m3, m4, m5, m6⟩ := hM.r0
  obtain ⟨c1, c2⟩ := hI.count
  obtain ⟨d1, d2⟩ := hI.day
  refine J_aloadr_0 Y qX9_has_0 ?_
  refine J_iload_1 Y qX9_has_1 ?_
  refine J_cV1B Y qX9_has_2 mX9_101 iyX9_isShop (by decide) rfl (by decide) rfl (Nat.le_of_ble_eq_true rfl) (m_isShop _ _ _ (by omega) (by omega) (by omega) (by omega)) (fun h2 => ?_) (fun h2 => ?_)
  · refine J_eq1 Y qX9_has_5 ?_
    refine J_iload_3 Y qX9_has_8 ?_
    refine J_cS1B Y qX9_has_9 mX9_108 iyX9_isPerson rfl (by decide) rfl (Nat.le_of_ble_eq_true rfl) (m_isPerson _ _ _ (by omega) (by omega)) (fun h9 => ?_) (fun h9 => ?_)
    · refine J_ne1 Y qX9_has_12 ?_
      obtain ⟨s, rfl⟩ := nat_of (show 0 ≤ a by omega)
      obtain ⟨p, rfl⟩ := nat_of (show 0 ≤ c by omega)
      refine J_iload_2 Y qX9_has_22 ?_
      refine J_iconst Y qX9_has_23 ?_
      refine J_iconst Y qX9_has_24 ?_
      refine J_cS3B Y qX9_has_25 mX9_93 iyX9_in rfl (by decide) rfl (Nat.le_of_ble_eq_true rfl) (m_in _ _ _ (by omega) (by omega) (by omega) (by omega) (by omega) (by omega)) (fun h25 => ?_) (fun h25 => ?_)
      · refine J_eq1 Y qX9_has_28 ?_
        have hp0 := hM.rp s (by omega) p (by omega)
        rcases (show b = 0 ∨ b = 1 by omega) with rfl | rfl
        · refine J_aloadr_0 Y qX9_has_31 ?_
          refine J_getR Y qX9_has_32 fX9_25 (by decide) ?_
          refine J_bipush Y qX9_has_35 (by decide) ?_
          refine J_iload_1 Y qX9_has_37 ?_
          refine J_imul Y qX9_has_38 ?_
          refine J_bipush Y qX9_has_39 (by decide) ?_
          refine J_iload_2 Y qX9_has_41 ?_
          refine J_imul Y qX9_has_42 ?_
          refine J_iadd Y qX9_has_43 ?_
          refine J_iload_3 Y qX9_has_44 ?_
          refine J_iadd Y qX9_has_45 ?_
          rw [show (20 : Int) * (s : Int) + 10 * 0 + (p : Int) = ((20 * s + p : Nat) : Int) by omega]
          refine J_ialoadN (kx := (20 * s + p)) Y qX9_has_46 rfl (by decide) rfl (by omega) (by decide) ?_
          refine J_goto Y qX9_has_47 ?_
          exact J_iret X qX9_has_56 (QR_e (by
            unfold f_has
            try simp only [Int.toNat_natCast]
            repeat (first | rewrite [if_pos trivial] | rewrite [if_pos (by omega)] | rewrite [if_neg (by omega)])
            exact rfl) (by first | rfl | (dsimp only; omega) | exact hp0.1 | exact hp0.2) (by first | exact hM | exact MR_rfs hM (by decide)) (by first | exact Sm.rfl' | exact Sm_up (Or.inl (by decide))))
        · refine J_aloadr_0 Y qX9_has_31 ?_
          refine J_getR Y qX9_has_32 fX9_25 (by decide) ?_
          refine J_bipush Y qX9_has_35 (by decide) ?_
          refine J_iload_1 Y qX9_has_37 ?_
          refine J_imul Y qX9_has_38 ?_
          refine J_bipush Y qX9_has_39 (by decide) ?_
          refine J_iload_2 Y qX9_has_41 ?_
          refine J_imul Y qX9_has_42 ?_
          refine J_iadd Y qX9_has_43 ?_
          refine J_iload_3 Y qX9_has_44 ?_
          refine J_iadd Y qX9_has_45 ?_
          rw [show (20 : Int) * (s : Int) + 10 * 1 + (p : Int) = ((20 * s + 10 + p : Nat) : Int) by omega]
          refine J_ialoadN (kx := (20 * s + 10 + p)) Y qX9_has_46 rfl (by decide) rfl (by omega) (by decide) ?_
          refine J_goto Y qX9_has_47 ?_
          exact J_iret X qX9_has_56 (QR_e (by
            unfold f_has
            try simp only [Int.toNat_natCast]
            repeat (first | rewrite [if_pos trivial] | rewrite [if_pos (by omega)] | rewrite [if_neg (by omega)])
            exact rfl) (by first | rfl | (dsimp only; omega) | exact hp0.1 | exact hp0.2) (by first | exact hM | exact MR_rfs hM (by decide)) (by first | exact Sm.rfl' | exact Sm_up (Or.inl (by decide))))
      · refine J_eq0 Y qX9_has_28 ?_
        refine J_aloadr_0 Y qX9_has_50 ?_
        refine J_bipush Y qX9_has_51 (by decide) ?_
        refine J_cV1F Y qX9_has_53 mX9_97 iyX9_refuse (by decide) rfl (by decide) rfl (Nat.le_of_ble_eq_true rfl) (m_refuse _ _ _ 5 (by decide) rfl) ?_
        exact J_iret X qX9_has_56 (QR_e (by
          unfold f_has
          try simp only [Int.toNat_natCast]
          repeat (first | rewrite [if_pos trivial] | rewrite [if_pos (by omega)] | rewrite [if_neg (by omega)])
          exact rfl) (by first | rfl | (dsimp only; omega) | exact hp0.1 | exact hp0.2) (by first | exact hM | exact MR_rfs hM (by decide)) (by first | exact Sm.rfl' | exact Sm_up (Or.inl (by decide))))
    · refine J_ne0 Y qX9_has_12 ?_
      refine J_aloadr_0 Y qX9_has_15 ?_
      refine J_bipush Y qX9_has_16 (by decide) ?_
      refine J_cV1F Y qX9_has_18 mX9_97 iyX9_refuse (by decide) rfl (by decide) rfl (Nat.le_of_ble_eq_true rfl) (m_refuse _ _ _ 3 (by decide) rfl) ?_
      exact J_iret X qX9_has_21 (QR_e (by
        unfold f_has
        try simp only [Int.toNat_natCast]
        repeat (first | rewrite [if_pos trivial] | rewrite [if_pos (by omega)] | rewrite [if_neg (by omega)])
        exact rfl) (by first | rfl | (dsimp only; omega) | exact hp0.1 | exact hp0.2) (by first | exact hM | exact MR_rfs hM (by decide)) (by first | exact Sm.rfl' | exact Sm_up (Or.inl (by decide))))
  · refine J_eq0 Y qX9_has_5 ?_
    refine J_aloadr_0 Y qX9_has_15 ?_
    refine J_bipush Y qX9_has_16 (by decide) ?_
    refine J_cV1F Y qX9_has_18 mX9_97 iyX9_refuse (by decide) rfl (by decide) rfl (Nat.le_of_ble_eq_true rfl) (m_refuse _ _ _ 3 (by decide) rfl) ?_
    exact J_iret X qX9_has_21 (QR_e (by
      unfold f_has
      try simp only [Int.toNat_natCast]
      repeat (first | rewrite [if_pos trivial] | rewrite [if_pos (by omega)] | rewrite [if_neg (by omega)])
      exact rfl) (by first | rfl | (dsimp only; omega) | exact hp0.1 | exact hp0.2) (by first | exact hM | exact MR_rfs hM (by decide)) (by first | exact Sm.rfl' | exact Sm_up (Or.inl (by decide))))

theorem MR_heirs0 {a N : Mem} {p : Nat} (h : MR a N) (hp : p < 10) : MR (up a 7 p 2 0) (up N 52 0 p 0) := by
  refine ⟨h.r0, h.rr, h.rs, h.rp, h.rl, h.rq, ?_, h.rm, h.rt, h.ru, h.rf, h.rb, h.rw⟩
  intro q hq
  obtain ⟨h1, h2⟩ := h.rh q hq
  by_cases e : q = p
  · subst e
    rw [up_same, up_same]
    exact ⟨rfl, fun j hj => by omega⟩
  · rw [up_ne (by omega), up_ne (by omega)]
    exact ⟨h1, h2⟩
theorem MR_part {a N : Mem} {s p : Nat} {v : Int} (h : MR a N) (hs : s < 14) (hp : p < 10) : MR (up a 25 s p v) (up N 45 0 (20 * s + p) v) := by
  refine ⟨h.r0, h.rr, h.rs, ?_, h.rl, h.rq, h.rh, h.rm, h.rt, h.ru, h.rf, h.rb, h.rw⟩
  intro t ht q hq
  obtain ⟨h1, h2⟩ := h.rp t ht q hq
  simp only [up]
  grind
theorem MR_part2 {a N : Mem} {s p : Nat} {v : Int} (h : MR a N) (hs : s < 14) (hp : p < 10) : MR (up a 26 s p v) (up N 45 0 (20 * s + 10 + p) v) := by
  refine ⟨h.r0, h.rr, h.rs, ?_, h.rl, h.rq, h.rh, h.rm, h.rt, h.ru, h.rf, h.rb, h.rw⟩
  intro t ht q hq
  obtain ⟨h1, h2⟩ := h.rp t ht q hq
  simp only [up]
  grind
theorem r_disown (l : Launch) (G : Gx) (M : Mem) {A : Mem} {n : Nat} {a : Int} (a1 : -2147483648 ≤ a) (a2 : a < 2147483648) (hI : Inv n A) (hn : n < 512) (hM : MR A M)  : Ct l G 4 yX9_disown cX9_disown 3 ((Option.some Jvm.ClassFile.FieldType.int)) [rf G 9 0, vi a] M (QR (f_disown A a) M) := by
  refine Ct.of rfl (Nat.le_of_ble_eq_true rfl) rfl (fun E X => ?_)
  have Y := X.ok
  obtain ⟨m1, m2, m3, m4, m5, m6⟩ := hM.r0
  obtain ⟨c1, c2⟩ := hI.count
  obtain ⟨d1, d2⟩ := hI.day
  refine J_iload_1 Y qX9_disown_0 ?_
  refine J_cS1B Y qX9_disown_1 mX9_108 iyX9_isPerson rfl (by decide) rfl (Nat.le_of_ble_eq_true rfl) (m_isPerson _ _ _ (by omega) (by omega)) (fun h1 => ?_) (fun h1 => ?_)
  · refine J_ne1 Y qX9_disown_4 ?_
    obtain ⟨p, rfl⟩ := nat_of (show 0 ≤ a by omega)
    obtain ⟨h1, h2⟩ := hM.rh p (by omega)
    refine J_aloadr_0 Y qX9_disown_14 ?_
    refine J_getR Y qX9_disown_15 fX9_46 (by decide) ?_
    refine J_iload_1 Y qX9_disown_18 ?_
    refine J_ialoadN (kx := p) Y qX9_disown_19 rfl (by decide) rfl (by omega) (by decide) ?_
    refine J_istore_2 Y qX9_disown_20 rfl ?_
    refine J_aloadr_0 Y qX9_disown_21 ?_
    refine J_getR Y qX9_disown_22 fX9_46 (by decide) ?_
    refine J_iload_1 Y qX9_disown_25 ?_
    refine J_iconst Y qX9_disown_26 ?_
    refine J_iastoreN (kx := p) Y qX9_disown_27 rfl (by decide) rfl (by omega) (by decide) ?_
    refine J_iload_2 Y qX9_disown_28 ?_
    exact J_iret X qX9_disown_29 (QR_e (by
      unfold f_disown
      try simp only [Int.toNat_natCast]
      repeat (first | rewrite [if_pos trivial] | rewrite [if_pos (by omega)] | rewrite [if_neg (by omega)])
      exact rfl) (by first | rfl | (dsimp only; omega)) (by first | exact hM | exact MR_rfs hM (by decide) | exact MR_heirs0 hM (by omega)) (by first | exact Sm.rfl' | exact Sm_up (Or.inl (by decide))))
  · refine J_ne0 Y qX9_disown_4 ?_
    refine J_aloadr_0 Y qX9_disown_7 ?_
    refine J_bipush Y qX9_disown_8 (by decide) ?_
    refine J_cV1F Y qX9_disown_10 mX9_97 iyX9_refuse (by decide) rfl (by decide) rfl (Nat.le_of_ble_eq_true rfl) (m_refuse _ _ _ 3 (by decide) rfl) ?_
    exact J_iret X qX9_disown_13 (QR_e (by
      unfold f_disown
      try simp only [Int.toNat_natCast]
      repeat (first | rewrite [if_pos trivial] | rewrite [if_pos (by omega)] | rewrite [if_neg (by omega)])
      exact rfl) (by first | rfl | (dsimp only; omega)) (by first | exact hM | exact MR_rfs hM (by decide) | exact MR_heirs0 hM (by omega)) (by first | exact Sm.rfl' | exact Sm_up (Or.inl (by decide))))


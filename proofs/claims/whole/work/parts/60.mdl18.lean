/-! ===== the reference: days go by, its walk ===== -/
theorem lp_mrun1 {l : Launch} {G : Gx} {E : Fx} {M : Mem} {A : Mem} {m c k da : Nat} (hI : Inv m A) (hm : m < 512) (k1 : k < da) (da1 : da ≤ 100) (hc : A 0 0 2 = (c : Int)) (c14 : c ≤ 14) {P : Option Value → Mem → Prop} (hK : ∀ N : Mem, MR (rnG A c (tdF k c) (tdF k 0) k) N → Sm N M → J G E 119 [some (rf G 9 0), some (vi (da : Int)), some (vi (pdT A c (tdF k c))), some (vi (k : Int)), some (vi (c : Int))] [] N) (X : OkM l G E cX9_run RX9 5 4 (some .int) (P)) : ∀ (n i : Nat), ∀ (N : Mem), i ≤ c → c < i + n → MR (rnG A c (tdF k i) (tdF k 0) k) N → Sm N M → J G E 40 [some (rf G 9 0), some (vi (da : Int)), some (vi (pdT A c (tdF k i))), some (vi (k : Int)), some (vi (i : Int))] [] N := by
  have Y := X.ok
  intro n
  induction n with
  | zero => intro i N h1 h2 h3 h4; exfalso; omega
  | succ n ih =>
    intro i N h1 h2 h3 h4
    have e02 : N 9 0 2 = (c : Int) := by rw [h3.r0.2.1, rnG_o (by omega)]; exact hc
    refine J_iload_4 Y qX9_run_40 ?_
    refine J_aloadr_0 Y qX9_run_42 ?_
    refine J_getI Y qX9_run_43 fX9_89 (by decide) ?_
    rw [e02]
    refine J_icmp_ge Y qX9_run_46 (by omega) (by omega) (by omega) (by omega) (fun h46 => ?_) (fun h46 => ?_)
    · obtain rfl : i = c := by omega
      exact hK N h3 h4
    · obtain ⟨l1, l2, l3, l4⟩ := hI.lets (s := i) (by omega)
      have pr := fun j (hj : j < 10) => hI.part (s := i) (p := j) (by omega) hj
      have rr := hI.rowR (s := i) (by omega)
      by_cases hl : lst A i k
      · have ti : tdF k 0 i = (k : Int) := by unfold tdF; rw [if_neg (by omega)]
        have r6 : ∀ z, rnG A c (tdF k i) (tdF k 0) k 5 i z = A 5 i z := fun z => rnG_5n (Or.inr (Or.inr (by rw [ti]; exact hl.2)))
        obtain ⟨v1, v2⟩ := h3.rl i (by omega)
        rw [r6, r6, r6] at v2
        have e46 : N 46 0 i = A 5 i 6 := by rw [v1, r6]
        have e48 : N 48 0 i = A 5 i 8 := (v2 hl.1).2
        obtain ⟨st, hst⟩ := nat_of (show 0 ≤ A 5 i 6 by have := hl.1; omega)
        have g4 := l4 hl.1
        refine J_aloadr_0 Y qX9_run_49 ?_
        refine J_getR Y qX9_run_50 fX9_28 (by decide) ?_
        refine J_iload_4 Y qX9_run_53 ?_
        refine J_ialoadN (kx := i) Y qX9_run_55 rfl (by decide) rfl (by omega) (by decide) ?_
        rw [e46, hst]
        refine J_iconst Y qX9_run_56 ?_
        refine J_icmp_eq Y qX9_run_57 (by omega) (by omega) (by omega) (by omega) (fun h57 => ?_) (fun h57 => ?_)
        · exfalso; omega
        · refine J_aloadr_0 Y qX9_run_60 ?_
          refine J_getR Y qX9_run_61 fX9_55 (by decide) ?_
          refine J_aloadr_0 Y qX9_run_64 ?_
          refine J_getR Y qX9_run_65 fX9_28 (by decide) ?_
          refine J_iload_4 Y qX9_run_68 ?_
          refine J_ialoadN (kx := i) Y qX9_run_70 rfl (by decide) rfl (by omega) (by decide) ?_
          rw [e46, hst]
          refine J_dup2 Y qX9_run_71 rfl rfl ?_
          refine J_laloadN (kx := st) Y qX9_run_72 rfl (by decide) rfl (by omega) (by decide) ?_
          refine J_aloadr_0 Y qX9_run_73 ?_
          refine J_getR Y qX9_run_74 fX9_34 (by decide) ?_
          refine J_iload_4 Y qX9_run_77 ?_
          refine J_ialoadN (kx := i) Y qX9_run_79 rfl (by decide) rfl (by omega) (by decide) ?_
          rw [e48]
          refine J_i2l Y qX9_run_80 (by omega) (by omega) ?_
          refine J_lsub Y qX9_run_81 ?_
          refine J_lastoreN (kx := st) Y qX9_run_82 rfl (by decide) rfl (by omega) (by decide) ?_
          refine J_aloadr_0 Y qX9_run_83 ?_
          refine J_bipush Y qX9_run_84 (by decide) ?_
          refine J_iload_4 Y qX9_run_86 ?_
          refine J_imul Y qX9_run_88 ?_
          refine J_bipush Y qX9_run_89 (by decide) ?_
          refine J_iadd Y qX9_run_91 ?_
          rw [show (20 : Int) * (i : Int) + 10 = ((20 * i + 10 : Nat) : Int) by omega]
          refine J_aloadr_0 Y qX9_run_92 ?_
          refine J_getR Y qX9_run_93 fX9_34 (by decide) ?_
          refine J_iload_4 Y qX9_run_96 ?_
          refine J_ialoadN (kx := i) Y qX9_run_98 rfl (by decide) rfl (by omega) (by decide) ?_
          rw [show (up N 55 0 st (N 55 0 st - A 5 i 8)) 48 0 i = A 5 i 8 from (up_ne (by omega)).trans e48]
          refine J_iconst Y qX9_run_99 ?_
          refine J_cV3W Y qX9_run_100 mX9_122 iyX9_shares (by decide) rfl (by decide) rfl (Nat.le_of_ble_eq_true rfl) (m_shares (at0 := 20 * i + 10) (g := A 26 i) _ _ _ (by omega) (fun j hj => by rw [up_ne (by omega), (h3.rp i (by omega) j hj).2, rnG_o (by omega)]) (fun j hj => (pr j hj).2) (fstP_ne rr.2) (by omega) (by omega) (Or.inl rfl)) ?_
          refine J_iload_2 Y qX9_run_103 ?_
          refine J_aloadr_0 Y qX9_run_104 ?_
          refine J_getR Y qX9_run_105 fX9_34 (by decide) ?_
          refine J_iload_4 Y qX9_run_108 ?_
          refine J_ialoadN (kx := i) Y qX9_run_110 rfl (by decide) rfl (by omega) (by decide) ?_
          rw [show mpr (up N 55 0 st (N 55 0 st - A 5 i 8)) (A 26 i) (A 5 i 8) 1 48 0 i = A 5 i 8 from (by rw [mpr, upR_ne (by omega), up_ne (by omega)]; exact e48)]
          refine J_iadd Y qX9_run_111 ?_
          refine J_istore_2 Y qX9_run_112 rfl ?_
          refine J_iinc_4 Y qX9_run_113 rfl ?_
          refine J_goto Y qX9_run_116 ?_
          have ih9 := ih (i + 1)
          rw [pdT_on (by omega) hl] at ih9
          exact ih9 _ (by omega) (by omega) (pay_on (by omega) h3 hl hst) (Sm_mpr.tr ((Sm_up (Or.inl (by decide))).tr h4))
      · have ti : tdF k 0 i = (k : Int) := by unfold tdF; rw [if_neg (by omega)]
        have e46 : N 46 0 i = -1 := by
          rw [(h3.rl i (by omega)).1]
          by_cases q : A 5 i 6 = -1
          · rw [rnG_5n (Or.inr (Or.inl q))]; exact q
          · have : ¬ (k : Int) < A 5 i 7 - A 8 0 9 + 1 := fun z => hl ⟨q, z⟩
            exact rnG_5y (by omega) q (by rw [ti]; omega) (by omega)
        refine J_aloadr_0 Y qX9_run_49 ?_
        refine J_getR Y qX9_run_50 fX9_28 (by decide) ?_
        refine J_iload_4 Y qX9_run_53 ?_
        refine J_ialoadN (kx := i) Y qX9_run_55 rfl (by decide) rfl (by omega) (by decide) ?_
        rw [e46]
        refine J_iconst Y qX9_run_56 ?_
        refine J_icmp_eq Y qX9_run_57 (by omega) (by omega) (by omega) (by omega) (fun h57 => ?_) (fun h57 => ?_)
        · refine J_iinc_4 Y qX9_run_113 rfl ?_
          refine J_goto Y qX9_run_116 ?_
          have ih9 := ih (i + 1)
          rw [pdT_off hl] at ih9
          exact ih9 _ (by omega) (by omega) (pay_off h3 hl) h4
        · exfalso; omega

theorem lp_mrun2 {l : Launch} {G : Gx} {E : Fx} {M : Mem} {A : Mem} {m c k da : Nat} (hI : Inv m A) (hm : m < 512) (k1 : k < da) (da1 : da ≤ 100) (hc : A 0 0 2 = (c : Int)) (c14 : c ≤ 14) {P : Option Value → Mem → Prop} {pd : Int} (hK : ∀ N : Mem, MR (rnG A c (tdF (k + 1) 0) (tdF k c) ((k + 1 : Nat) : Int)) N → Sm N M → J G E 179 [some (rf G 9 0), some (vi (da : Int)), some (vi pd), some (vi (k : Int)), some (vi (c : Int))] [] N) (X : OkM l G E cX9_run RX9 5 4 (some .int) (P)) : ∀ (n i : Nat), ∀ (N : Mem), i ≤ c → c < i + n → MR (rnG A c (tdF (k + 1) 0) (tdF k i) ((k + 1 : Nat) : Int)) N → Sm N M → J G E 132 [some (rf G 9 0), some (vi (da : Int)), some (vi pd), some (vi (k : Int)), some (vi (i : Int))] [] N := by
  have Y := X.ok
  intro n
  induction n with
  | zero => intro i N h1 h2 h3 h4; exfalso; omega
  | succ n ih =>
    intro i N h1 h2 h3 h4
    obtain ⟨d1, d2⟩ := hI.day
    have e02 : N 9 0 2 = (c : Int) := by rw [h3.r0.2.1, rnG_o (by omega)]; exact hc
    have e91 : N 9 0 1 = A 8 0 9 + ((k + 1 : Nat) : Int) := by rw [h3.r0.1, rnG_89]
    refine J_iload_4 Y qX9_run_132 ?_
    refine J_aloadr_0 Y qX9_run_134 ?_
    refine J_getI Y qX9_run_135 fX9_89 (by decide) ?_
    rw [e02]
    refine J_icmp_ge Y qX9_run_138 (by omega) (by omega) (by omega) (by omega) (fun h138 => ?_) (fun h138 => ?_)
    · obtain rfl : i = c := by omega
      exact hK N h3 h4
    · obtain ⟨l1, l2, l3, l4⟩ := hI.lets (s := i) (by omega)
      obtain ⟨v, hv⟩ : ∃ v, v = if lst A i (k + 1) then A 5 i 6 else -1 := ⟨_, rfl⟩
      by_cases hl : lst A i k
      · have ti : tdF k i i = (k : Int) := by unfold tdF; rw [if_neg (by omega)]
        have r6 : ∀ z, rnG A c (tdF (k + 1) 0) (tdF k i) ((k + 1 : Nat) : Int) 5 i z = A 5 i z := fun z => rnG_5n (Or.inr (Or.inr (by rw [ti]; exact hl.2)))
        obtain ⟨v1, v2⟩ := h3.rl i (by omega)
        rw [r6, r6, r6] at v2
        have e46 : N 46 0 i = A 5 i 6 := by rw [v1, r6]
        have e47 : N 47 0 i = A 5 i 7 := (v2 hl.1).1
        have g4 := l4 hl.1
        obtain ⟨hl1, hl2⟩ := id hl
        refine J_aloadr_0 Y qX9_run_141 ?_
        refine J_getR Y qX9_run_142 fX9_28 (by decide) ?_
        refine J_iload_4 Y qX9_run_145 ?_
        refine J_aloadr_0 Y qX9_run_147 ?_
        refine J_getR Y qX9_run_148 fX9_31 (by decide) ?_
        refine J_iload_4 Y qX9_run_151 ?_
        refine J_ialoadN (kx := i) Y qX9_run_153 rfl (by decide) rfl (by omega) (by decide) ?_
        rw [e47]
        refine J_aloadr_0 Y qX9_run_154 ?_
        refine J_getI Y qX9_run_155 fX9_111 (by decide) ?_
        rw [e91]
        refine J_icmp_ge Y qX9_run_158 (by omega) (by omega) (by omega) (by omega) (fun h158 => ?_) (fun h158 => ?_)
        · refine J_aloadr_0 Y qX9_run_165 ?_
          refine J_getR Y qX9_run_166 fX9_28 (by decide) ?_
          refine J_iload_4 Y qX9_run_169 ?_
          refine J_ialoadN (kx := i) Y qX9_run_171 rfl (by decide) rfl (by omega) (by decide) ?_
          try rw [e46]
          refine J_eqv (w := vi v) (congrArg vi (show _ = v by
            rw [hv]
            unfold lst
            first
              | rw [if_pos (by omega)]
              | rw [if_neg (by omega)])) ?_
          refine J_iastoreN (kx := i) Y qX9_run_172 rfl (by decide) rfl (by omega) (by decide) ?_
          refine J_iinc_4 Y qX9_run_173 rfl ?_
          refine J_goto Y qX9_run_176 ?_
          exact ih (i + 1) _ (by omega) (by omega) (let_step (by omega) h3 hv) ((Sm_up (Or.inl (by decide))).tr h4)
        · refine J_iconst Y qX9_run_161 ?_
          refine J_goto Y qX9_run_162 ?_
          try rw [e46]
          refine J_eqv (w := vi v) (congrArg vi (show _ = v by
            rw [hv]
            unfold lst
            first
              | rw [if_pos (by omega)]
              | rw [if_neg (by omega)])) ?_
          refine J_iastoreN (kx := i) Y qX9_run_172 rfl (by decide) rfl (by omega) (by decide) ?_
          refine J_iinc_4 Y qX9_run_173 rfl ?_
          refine J_goto Y qX9_run_176 ?_
          exact ih (i + 1) _ (by omega) (by omega) (let_step (by omega) h3 hv) ((Sm_up (Or.inl (by decide))).tr h4)
      · have ti : tdF k i i = (k : Int) := by unfold tdF; rw [if_neg (by omega)]
        have e46 : N 46 0 i = -1 := by
          rw [(h3.rl i (by omega)).1]
          by_cases q : A 5 i 6 = -1
          · rw [rnG_5n (Or.inr (Or.inl q))]; exact q
          · have : ¬ (k : Int) < A 5 i 7 - A 8 0 9 + 1 := fun z => hl ⟨q, z⟩
            exact rnG_5y (by omega) q (by rw [ti]; omega) (by omega)
        have hn2 : ¬ lst A i (k + 1) := fun z => hl ⟨z.1, by have := z.2; omega⟩
        refine J_aloadr_0 Y qX9_run_141 ?_
        refine J_getR Y qX9_run_142 fX9_28 (by decide) ?_
        refine J_iload_4 Y qX9_run_145 ?_
        refine J_aloadr_0 Y qX9_run_147 ?_
        refine J_getR Y qX9_run_148 fX9_31 (by decide) ?_
        refine J_iload_4 Y qX9_run_151 ?_
        refine J_ialoadN (kx := i) Y qX9_run_153 rfl (by decide) rfl (by omega) (by decide) ?_
        refine J_aloadr_0 Y qX9_run_154 ?_
        refine J_getI Y qX9_run_155 fX9_111 (by decide) ?_
        refine J_icmp_ge_any Y qX9_run_158 ?_ ?_
        · refine J_aloadr_0 Y qX9_run_165 ?_
          refine J_getR Y qX9_run_166 fX9_28 (by decide) ?_
          refine J_iload_4 Y qX9_run_169 ?_
          refine J_ialoadN (kx := i) Y qX9_run_171 rfl (by decide) rfl (by omega) (by decide) ?_
          try rw [e46]
          refine J_eqv (w := vi v) (congrArg vi (show _ = v by rw [hv, if_neg hn2])) ?_
          refine J_iastoreN (kx := i) Y qX9_run_172 rfl (by decide) rfl (by omega) (by decide) ?_
          refine J_iinc_4 Y qX9_run_173 rfl ?_
          refine J_goto Y qX9_run_176 ?_
          exact ih (i + 1) _ (by omega) (by omega) (let_step (by omega) h3 hv) ((Sm_up (Or.inl (by decide))).tr h4)
        · refine J_iconst Y qX9_run_161 ?_
          refine J_goto Y qX9_run_162 ?_
          try rw [e46]
          refine J_eqv (w := vi v) (congrArg vi (show _ = v by rw [hv, if_neg hn2])) ?_
          refine J_iastoreN (kx := i) Y qX9_run_172 rfl (by decide) rfl (by omega) (by decide) ?_
          refine J_iinc_4 Y qX9_run_173 rfl ?_
          refine J_goto Y qX9_run_176 ?_
          exact ih (i + 1) _ (by omega) (by omega) (let_step (by omega) h3 hv) ((Sm_up (Or.inl (by decide))).tr h4)

theorem lp_mrun {l : Launch} {G : Gx} {E : Fx} {M : Mem} {A : Mem} {m c da : Nat} (hI : Inv m A) (hm : m < 512) (da0 : 1 ≤ da) (da1 : da ≤ 100) (hc : A 0 0 2 = (c : Int)) (c14 : c ≤ 14) (X : OkM l G E cX9_run RX9 5 4 (some .int) (QR (f_run A (da : Int)) M)) : ∀ (n i : Nat), ∀ (N : Mem) (x4 : Option Value), i ≤ da → da < i + n → MR (rnG A c (tdF i 0) (tdF i 0) i) N → Sm N M → J G E 32 [some (rf G 9 0), some (vi (da : Int)), some (vi (pdT A c (tdF i 0))), some (vi (i : Int)), x4] [] N := by
  have Y := X.ok
  intro n
  induction n with
  | zero => intro i N x4 h1 h2 h3 h4; exfalso; omega
  | succ n ih =>
    intro i N x4 h1 h2 h3 h4
    refine J_iload_3 Y qX9_run_32 ?_
    refine J_iload_1 Y qX9_run_33 ?_
    refine J_icmp_ge Y qX9_run_34 (by omega) (by omega) (by omega) (by omega) (fun h34 => ?_) (fun h34 => ?_)
    · obtain rfl : i = da := by omega
      refine J_iload_2 Y qX9_run_185 ?_
      have hF : f_run A (i : Int) = (pdT A c (tdF i 0), up (runM A (i : Int) c) 8 0 9 (A 8 0 9 + (i : Int))) := by
        unfold f_run
        rw [hc, Int.toNat_natCast, if_neg (by omega), if_neg (by omega), tdF_const, pdT_f]
      rw [tdF_const] at h3
      exact J_iret X qX9_run_186 (QR_e hF rfl (MR_run (fun s hs => (hI.lets hs).1) c14 h3) h4)
    · refine J_iconst Y qX9_run_37 ?_
      refine J_istore_4 Y qX9_run_38 rfl ?_
      refine lp_mrun1 hI hm (by omega) da1 hc c14 (fun N1 g3 g4 => ?_) X (c + 1) 0 N (by omega) (by omega) h3 h4
      refine J_aloadr_0 Y qX9_run_119 ?_
      refine J_dup Y qX9_run_120 rfl ?_
      refine J_getI Y qX9_run_121 fX9_111 (by decide) ?_
      rw [show N1 9 0 1 = A 8 0 9 + (i : Int) from by rw [g3.r0.1, rnG_89]]
      refine J_iconst Y qX9_run_124 ?_
      refine J_iadd Y qX9_run_125 ?_
      rw [show A 8 0 9 + (i : Int) + 1 = A 8 0 9 + ((i + 1 : Nat) : Int) by omega]
      refine J_putI Y qX9_run_126 fX9_111w (by decide) ?_
      refine J_iconst Y qX9_run_129 ?_
      refine J_istore_4 Y qX9_run_130 rfl ?_
      refine lp_mrun2 hI hm (by omega) da1 hc c14 (fun N2 p3 p4 => ?_) X (c + 1) 0 (up N1 9 0 1 (A 8 0 9 + ((i + 1 : Nat) : Int))) (by omega) (by omega) ?_ ((Sm_up (Or.inr rfl)).tr g4)
      · refine J_iinc_3 Y qX9_run_179 rfl ?_
        refine J_goto Y qX9_run_182 ?_
        rw [rnG_te] at p3
        rw [pdT_c, show (i : Int) + 1 = ((i + 1 : Nat) : Int) by omega]
        exact ih (i + 1) N2 _ (by omega) (by omega) p3 p4
      · have h := MR_day (v := A 8 0 9 + ((i + 1 : Nat) : Int)) g3
        rw [rnG_dd, rnG_c] at h
        exact h

theorem r_run (l : Launch) (G : Gx) (M : Mem) {A : Mem} {n : Nat} {a : Int} (a1 : -2147483648 ≤ a) (a2 : a < 2147483648) (hI : Inv n A) (hn : n < 512) (hM : MR A M)  : Ct l G 4 yX9_run cX9_run 5 ((Option.some Jvm.ClassFile.FieldType.int)) [rf G 9 0, vi a] M (QR (f_run A a) M) := by
  refine Ct.of rfl (Nat.le_of_ble_eq_true rfl) rfl (fun E X => ?_)
  have Y := X.ok
  obtain ⟨m1, m2, m3, m4, m5, m6⟩ := hM.r0
  obtain ⟨c1, c2⟩ := hI.count
  obtain ⟨d1, d2⟩ := hI.day
  refine J_iload_1 Y qX9_run_0 ?_
  refine J_if_ge Y qX9_run_1 (by omega) (by omega) (fun h1 => ?_) (fun h1 => ?_)
  · refine J_iload_1 Y qX9_run_11 ?_
    refine J_iconst Y qX9_run_12 ?_
    refine J_bipush Y qX9_run_13 (by decide) ?_
    refine J_cS3B Y qX9_run_15 mX9_93 iyX9_in rfl (by decide) rfl (Nat.le_of_ble_eq_true rfl) (m_in _ _ _ (by omega) (by omega) (by omega) (by omega) (by omega) (by omega)) (fun h15 => ?_) (fun h15 => ?_)
    · refine J_ne1 Y qX9_run_18 ?_
      refine J_iconst Y qX9_run_28 ?_
      refine J_istore_2 Y qX9_run_29 rfl ?_
      refine J_iconst Y qX9_run_30 ?_
      refine J_istore_3 Y qX9_run_31 rfl ?_
      obtain ⟨c, hc⟩ := nat_of c1
      obtain ⟨da, rfl⟩ := nat_of (show 0 ≤ a by omega)
      have z0 : rnG A c (tdF 0 0) (tdF 0 0) ((0 : Nat) : Int) = A := by
        rw [tdF_const]
        exact rnG_0 (fun s hs h6 => ((hI.lets (s := s) (by omega)).2.2.2 h6).1)
      have p0 : pdT A c (tdF 0 0) = 0 := by
        rw [tdF_const]
        have : ∀ q, q ≤ c → sumN (fun s => A 5 s 8 * tmS A s 0) q = 0 := by
          intro q
          induction q with
          | zero => intro _; rfl
          | succ q ihq =>
            intro hq
            have h6 := (hI.lets (s := q) (by omega)).2.2.2
            rw [sumN, ihq (by omega), show tmS A q 0 = 0 from by
              unfold tmS
              split
              · rfl
              · next h => have := (h6 h).1; omega]
            simp
        exact this c (Nat.le_refl c)
      have h := lp_mrun hI hn (by omega) (by omega) hc (by omega) X (da + 1) 0 M none (by omega) (by omega) (by rw [z0]; exact hM) Sm.rfl'
      rw [p0] at h
      exact h
    · refine J_ne0 Y qX9_run_18 ?_
      refine J_aloadr_0 Y qX9_run_21 ?_
      refine J_bipush Y qX9_run_22 (by decide) ?_
      refine J_cV1F Y qX9_run_24 mX9_97 iyX9_refuse (by decide) rfl (by decide) rfl (Nat.le_of_ble_eq_true rfl) (m_refuse _ _ _ 7 (by decide) rfl) ?_
      exact J_iret X qX9_run_27 (QR_e (by
        unfold f_run
        try simp only [Int.toNat_natCast]
        repeat (first | rewrite [if_pos trivial] | rewrite [if_pos (by omega)] | rewrite [if_neg (by omega)])
        exact rfl) (by first | rfl | (dsimp only; omega)) (by first | exact hM | exact MR_rfs hM (by decide)) (by first | exact Sm.rfl' | exact Sm_up (Or.inl (by decide))))
  · refine J_aloadr_0 Y qX9_run_4 ?_
    refine J_bipush Y qX9_run_5 (by decide) ?_
    refine J_cV1F Y qX9_run_7 mX9_97 iyX9_refuse (by decide) rfl (by decide) rfl (Nat.le_of_ble_eq_true rfl) (m_refuse _ _ _ 4 (by decide) rfl) ?_
    exact J_iret X qX9_run_10 (QR_e (by
      unfold f_run
      try simp only [Int.toNat_natCast]
      repeat (first | rewrite [if_pos trivial] | rewrite [if_pos (by omega)] | rewrite [if_neg (by omega)])
      exact rfl) (by first | rfl | (dsimp only; omega)) (by first | exact hM | exact MR_rfs hM (by decide)) (by first | exact Sm.rfl' | exact Sm_up (Or.inl (by decide))))


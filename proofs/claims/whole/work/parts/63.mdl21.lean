/-! ===== the reference: one test is read ===== -/
theorem t_112 {l : Launch} {G : Gx} {E : Fx} {M : Mem} {T : Nat → Int} {n v : Int} {R : Nat → Int} {q : Nat} (hQ : TQ T n) (hT : ∀ k : Nat, (k : Int) < n → M 58 0 k = T k) (hn : M 9 0 22 = n) (hq : q ≤ 166) {P : Mem → Prop} {p f cc : Int} (p0 : 0 ≤ p) (p1 : p ≤ n) (hP : ∀ R2 : Nat → Int, (∀ k, k ≠ q + 2 → k ≠ q + 3 → R2 k = R k) → P (rdS M R2 (p, 1) 0)) (X : OkM l G E cX9_test RX9 3 6 none (RV P)) : J G E 112 [some (rf G 9 0), some (vi (q : Int)), some (vi cc)] [] (rdS M R (p, f) v) := by
  have Y := X.ok
  refine J_aloadr_0 Y qX9_test_112 ?_
  refine J_iconst Y qX9_test_113 ?_
  refine J_putZ Y qX9_test_114 fX9_136w (Or.inr rfl) (by decide) ?_
  rw [rdS_u24]
  refine J_aloadr_0 Y qX9_test_117 ?_
  refine J_cV0W Y qX9_test_118 mX9_157 iyX9_digits (by decide) rfl (by decide) rfl (Nat.le_of_ble_eq_true rfl) (m_digits (s := (p, 1)) _ _ _ hQ hT hn ⟨p0, p1, Or.inr rfl⟩) ?_
  rw [show dgF T n (p, 1) = ((p, 1), 0) from rfl]
  refine J_aloadr_0 Y qX9_test_121 ?_
  refine J_getR Y qX9_test_122 fX9_62 (by decide) ?_
  refine J_iload_1 Y qX9_test_125 ?_
  refine J_iconst Y qX9_test_126 ?_
  refine J_iadd Y qX9_test_127 ?_
  rw [show (q : Int) + 2 = ((q + 2 : Nat) : Int) by omega]
  refine J_iload_2 Y qX9_test_128 ?_
  refine J_iastoreN (kx := (q + 2)) Y qX9_test_129 rfl (by decide) rfl (by omega) (by decide) ?_
  rw [rdS_u57]
  refine J_aloadr_0 Y qX9_test_130 ?_
  refine J_getR Y qX9_test_131 fX9_62 (by decide) ?_
  refine J_iload_1 Y qX9_test_134 ?_
  refine J_iconst Y qX9_test_135 ?_
  refine J_iadd Y qX9_test_136 ?_
  rw [show (q : Int) + 3 = ((q + 3 : Nat) : Int) by omega]
  refine J_aloadr_0 Y qX9_test_137 ?_
  refine J_getI Y qX9_test_138 fX9_148 (by decide) ?_
  rw [rdS_25]
  refine J_iastoreN (kx := (q + 3)) Y qX9_test_141 rfl (by decide) rfl (by omega) (by decide) ?_
  rw [rdS_u57]
  exact J_vret X qX9_test_142 ⟨rfl, hP _ (fun k h1 h2 => by rw [if_neg h2, if_neg h1])⟩

theorem t_69 {l : Launch} {G : Gx} {E : Fx} {M : Mem} {T : Nat → Int} {n v : Int} {R : Nat → Int} {q : Nat} (hQ : TQ T n) (hT : ∀ k : Nat, (k : Int) < n → M 58 0 k = T k) (hn : M 9 0 22 = n) (hq : q ≤ 166) {P : Mem → Prop} {p : Int} (p0 : 0 ≤ p) (p1 : p ≤ n) (hP : ∀ R2 : Nat → Int, (∀ k, k ≠ q + 2 → k ≠ q + 3 → R2 k = R k) → P (rdS M R2 (p, 1) 0)) (X : OkM l G E cX9_test RX9 3 6 none (RV P)) {x2 : Option Value} : J G E 69 [some (rf G 9 0), some (vi (q : Int)), x2] [] (rdS M R (p, 1) v) := by
  have Y := X.ok
  refine J_aloadr_0 Y qX9_test_69 ?_
  refine J_cV0P Y qX9_test_70 mX9_140 iyX9_here (by decide) rfl (by decide) rfl (Nat.le_of_ble_eq_true rfl) (m_hereP (p := p) (f := 1) _ _ _ hQ hT hn ⟨p0, p1, Or.inr rfl⟩) ?_
  refine J_istore_2 Y qX9_test_73 rfl ?_
  refine J_aloadr_0 Y qX9_test_74 ?_
  refine J_getI Y qX9_test_75 fX9_136 (by decide) ?_
  rw [show rdS M R (p, 1) v 9 0 24 = 1 from rdS_24]
  refine J_ne1 Y qX9_test_78 ?_
  exact t_112 hQ hT hn hq p0 p1 hP X

theorem t_46f {l : Launch} {G : Gx} {E : Fx} {M : Mem} {T : Nat → Int} {n v : Int} {R : Nat → Int} {q : Nat} (hQ : TQ T n) (hT : ∀ k : Nat, (k : Int) < n → M 58 0 k = T k) (hn : M 9 0 22 = n) (hq : q ≤ 166) {P : Mem → Prop} {p : Int} (p0 : 0 ≤ p) (p1 : p ≤ n) (hP : ∀ R2 : Nat → Int, (∀ k, k ≠ q + 1 → k ≠ q + 2 → k ≠ q + 3 → R2 k = R k) → P (rdS M R2 (p, 1) 0)) (X : OkM l G E cX9_test RX9 3 6 none (RV P)) {x2 : Option Value} : J G E 46 [some (rf G 9 0), some (vi (q : Int)), x2] [] (rdS M R (p, 1) v) := by
  have Y := X.ok
  refine J_aloadr_0 Y qX9_test_46 ?_
  refine J_getR Y qX9_test_47 fX9_62 (by decide) ?_
  refine J_iload_1 Y qX9_test_50 ?_
  refine J_iconst Y qX9_test_51 ?_
  refine J_iadd Y qX9_test_52 ?_
  rw [show (q : Int) + 1 = ((q + 1 : Nat) : Int) by omega]
  refine J_aloadr_0 Y qX9_test_53 ?_
  refine J_getI Y qX9_test_54 fX9_136 (by decide) ?_
  rw [show rdS M R (p, 1) v 9 0 24 = 1 from rdS_24]
  refine J_eq1 Y qX9_test_57 ?_
  refine J_iconst Y qX9_test_60 ?_
  refine J_goto Y qX9_test_61 ?_
  refine J_iastoreN (kx := (q + 1)) Y qX9_test_68 rfl (by decide) rfl (by omega) (by decide) ?_
  rw [rdS_u57]
  exact t_69 hQ hT hn hq p0 p1 (fun R2 h => hP R2 (fun k h1 h2 h3 => by rw [h k h2 h3, if_neg h1])) X

theorem t_46t {l : Launch} {G : Gx} {E : Fx} {M : Mem} {T : Nat → Int} {n v : Int} {R : Nat → Int} {q : Nat} (hQ : TQ T n) (hT : ∀ k : Nat, (k : Int) < n → M 58 0 k = T k) (hn : M 9 0 22 = n) (hq : q ≤ 166) {P : Mem → Prop} {p b q1 : Int} (hD : tsD T n p b q1) (hb : R q = b) (q0 : 0 ≤ q1) (q9 : q1 ≤ n) (hP : ∀ (R2 : Nat → Int) (s2 : Int × Int) (v2 : Int), (∀ k, k < q ∨ q + 4 ≤ k → R2 k = R k) → Sok n s2 → (tstP T n p).1 = s2.1 → ((s2.2 = 1 ∧ (tstP T n p).2 = none) ∨ (s2.2 = 0 ∧ (tstP T n p).2 = some (R2 q, R2 (q + 1), R2 (q + 2), R2 (q + 3)))) → P (rdS M R2 s2 v2)) (X : OkM l G E cX9_test RX9 3 6 none (RV P)) {x2 : Option Value} : J G E 46 [some (rf G 9 0), some (vi (q : Int)), x2] [] (rdS M R (q1, 0) v) := by
  have Y := X.ok
  obtain ⟨n0, n1, n2⟩ := id hQ
  obtain ⟨f1, f2⟩ := fldF_rng (ahd T n q1) (ahd T n (q1 + 1))
  obtain ⟨f, hf⟩ := nat_of f1
  refine J_aloadr_0 Y qX9_test_46 ?_
  refine J_getR Y qX9_test_47 fX9_62 (by decide) ?_
  refine J_iload_1 Y qX9_test_50 ?_
  refine J_iconst Y qX9_test_51 ?_
  refine J_iadd Y qX9_test_52 ?_
  rw [show (q : Int) + 1 = ((q + 1 : Nat) : Int) by omega]
  refine J_aloadr_0 Y qX9_test_53 ?_
  refine J_getI Y qX9_test_54 fX9_136 (by decide) ?_
  rw [show rdS M R (q1, 0) v 9 0 24 = 0 from rdS_24]
  refine J_eq0 Y qX9_test_57 ?_
  refine J_aloadr_0 Y qX9_test_64 ?_
  refine J_cV0I Y qX9_test_65 mX9_154 iyX9_field (by decide) rfl (by decide) rfl (Nat.le_of_ble_eq_true rfl) (m_field _ _ _ hQ hT hn (by omega) (by omega)) (fun z65 M2 h65 => ?_)
  obtain ⟨rfl, z2, z3, z4⟩ := h65
  obtain ⟨w1, w2, w3⟩ := eatW_rng n2 (show 5 + (fldF (ahd T n q1) (ahd T n (q1 + 1))).toNat < 10 by omega) q0 q9
  simp only [hf, Int.toNat_natCast] at w1 w2 w3 z2 ⊢
  generalize e2 : eatW T n (5 + f) q1 = u at w1 w2 w3 z2 ⊢
  obtain ⟨zz2, q2⟩ := u
  simp only at w1 w2 w3 z2 ⊢
  skip
  refine J_iastoreN (kx := (q + 1)) Y qX9_test_68 rfl (by decide) rfl (by omega) (by decide) ?_
  rw [rdS_u57]
  rcases w1 with rfl | rfl
  · rw [show (1 : Int) - 0 = 1 from rfl]
    exact t_69 hQ hT hn hq (by omega) w3 (fun R2 h => hP R2 (q2, 1) 0 (fun k hk => by rw [h k (by omega) (by omega), if_neg (by omega)]) ⟨by show 0 ≤ q2; omega, w3, Or.inr rfl⟩ (by rw [tst_2 hD hf e2 rfl]) (Or.inl ⟨rfl, by rw [tst_2 hD hf e2 rfl]⟩)) X
  · rw [show (1 : Int) - 1 = 0 from rfl]
    have hz := z2 rfl
    obtain ⟨a1, a2, a3⟩ := ahd_rng n2 (show 0 ≤ q2 by omega)
    refine J_aloadr_0 Y qX9_test_69 ?_
    refine J_cV0P Y qX9_test_70 mX9_140 iyX9_here (by decide) rfl (by decide) rfl (Nat.le_of_ble_eq_true rfl) (m_hereP (p := q2) (f := 0) _ _ _ hQ hT hn ⟨by show 0 ≤ q2; omega, w3, Or.inl rfl⟩) ?_
    refine J_istore_2 Y qX9_test_73 rfl ?_
    refine J_aloadr_0 Y qX9_test_74 ?_
    refine J_getI Y qX9_test_75 fX9_136 (by decide) ?_
    rw [show rdS M (fun c => if c = q + 1 then z65 else R c) (q2, 0) v 9 0 24 = 0 from rdS_24]
    refine J_ne0 Y qX9_test_78 ?_
    refine J_iload_2 Y qX9_test_81 ?_
    refine J_bipush Y qX9_test_82 (by decide) ?_
    refine J_icmp_eq Y qX9_test_84 (by omega) (by omega) (by omega) (by omega) (fun h84 => ?_) (fun h84 => ?_)
    · refine J_aloadr_0 Y qX9_test_99 ?_
      refine J_dup Y qX9_test_100 rfl ?_
      refine J_getI Y qX9_test_101 fX9_133 (by decide) ?_
      rw [show rdS M (fun c => if c = q + 1 then z65 else R c) (q2, 0) v 9 0 23 = q2 from rdS_23]
      refine J_iconst Y qX9_test_104 ?_
      refine J_iadd Y qX9_test_105 ?_
      refine J_putI Y qX9_test_106 fX9_133w (by decide) ?_
      rw [rdS_u23]
      refine J_goto Y qX9_test_109 ?_
      have hlt := a3 (by omega)
      have hs3 : Sok n (q2 + 1, 0) := ⟨by show 0 ≤ q2 + 1; omega, by show q2 + 1 ≤ n; omega, Or.inl rfl⟩
      refine J_aloadr_0 Y qX9_test_117 ?_
      refine J_cV0W Y qX9_test_118 mX9_157 iyX9_digits (by decide) rfl (by decide) rfl (Nat.le_of_ble_eq_true rfl) (m_digits (s := (q2 + 1, 0)) _ _ _ hQ hT hn hs3) ?_
      obtain ⟨g1, g2, g3, g4⟩ := numF_rng n2 4 (q2 + 1) 0 (by omega) (by omega) (by omega)
      have hdg : dgF T n (q2 + 1, 0) = (((numF T n 4 (q2 + 1) 0).1, if (numF T n 4 (q2 + 1) 0).1 = q2 + 1 then 1 else 0), (numF T n 4 (q2 + 1) 0).2) := rfl
      rw [hdg]
      generalize e3 : numF T n 4 (q2 + 1) 0 = u3 at g1 g2 g3 g4 ⊢
      obtain ⟨q3, v3⟩ := u3
      simp only at g1 g2 g3 g4 ⊢
      refine J_aloadr_0 Y qX9_test_121 ?_
      refine J_getR Y qX9_test_122 fX9_62 (by decide) ?_
      refine J_iload_1 Y qX9_test_125 ?_
      refine J_iconst Y qX9_test_126 ?_
      refine J_iadd Y qX9_test_127 ?_
      rw [show (q : Int) + 2 = ((q + 2 : Nat) : Int) by omega]
      refine J_iload_2 Y qX9_test_128 ?_
      refine J_iastoreN (kx := (q + 2)) Y qX9_test_129 rfl (by decide) rfl (by omega) (by decide) ?_
      rw [rdS_u57]
      refine J_aloadr_0 Y qX9_test_130 ?_
      refine J_getR Y qX9_test_131 fX9_62 (by decide) ?_
      refine J_iload_1 Y qX9_test_134 ?_
      refine J_iconst Y qX9_test_135 ?_
      refine J_iadd Y qX9_test_136 ?_
      rw [show (q : Int) + 3 = ((q + 3 : Nat) : Int) by omega]
      refine J_aloadr_0 Y qX9_test_137 ?_
      refine J_getI Y qX9_test_138 fX9_148 (by decide) ?_
      rw [rdS_25]
      refine J_iastoreN (kx := (q + 3)) Y qX9_test_141 rfl (by decide) rfl (by omega) (by decide) ?_
      rw [rdS_u57]
      have ht := tst_4 hD hf e2 (by decide) (by omega) e3
      exact J_vret X qX9_test_142 ⟨rfl, hP _ (q3, if q3 = q2 + 1 then 1 else 0) v3 (fun k hk => by rw [if_neg (by omega), if_neg (by omega), if_neg (by omega)]) ⟨by show 0 ≤ q3; omega, g2, by dsimp only; split <;> simp⟩ (by rw [ht]; split <;> rfl) (by
        rw [ht]
        by_cases e : q3 = q2 + 1
        · left; rw [if_pos e, if_pos e]; exact ⟨rfl, rfl⟩
        · right
          rw [if_neg e, if_neg e]
          refine ⟨rfl, ?_⟩
          simp [hb, hz, hf])⟩
    · refine J_iload_2 Y qX9_test_87 ?_
      refine J_bipush Y qX9_test_88 (by decide) ?_
      refine J_icmp_eq Y qX9_test_90 (by omega) (by omega) (by omega) (by omega) (fun h90 => ?_) (fun h90 => ?_)
      · refine J_aloadr_0 Y qX9_test_99 ?_
        refine J_dup Y qX9_test_100 rfl ?_
        refine J_getI Y qX9_test_101 fX9_133 (by decide) ?_
        rw [show rdS M (fun c => if c = q + 1 then z65 else R c) (q2, 0) v 9 0 23 = q2 from rdS_23]
        refine J_iconst Y qX9_test_104 ?_
        refine J_iadd Y qX9_test_105 ?_
        refine J_putI Y qX9_test_106 fX9_133w (by decide) ?_
        rw [rdS_u23]
        refine J_goto Y qX9_test_109 ?_
        have hlt := a3 (by omega)
        have hs3 : Sok n (q2 + 1, 0) := ⟨by show 0 ≤ q2 + 1; omega, by show q2 + 1 ≤ n; omega, Or.inl rfl⟩
        refine J_aloadr_0 Y qX9_test_117 ?_
        refine J_cV0W Y qX9_test_118 mX9_157 iyX9_digits (by decide) rfl (by decide) rfl (Nat.le_of_ble_eq_true rfl) (m_digits (s := (q2 + 1, 0)) _ _ _ hQ hT hn hs3) ?_
        obtain ⟨g1, g2, g3, g4⟩ := numF_rng n2 4 (q2 + 1) 0 (by omega) (by omega) (by omega)
        have hdg : dgF T n (q2 + 1, 0) = (((numF T n 4 (q2 + 1) 0).1, if (numF T n 4 (q2 + 1) 0).1 = q2 + 1 then 1 else 0), (numF T n 4 (q2 + 1) 0).2) := rfl
        rw [hdg]
        generalize e3 : numF T n 4 (q2 + 1) 0 = u3 at g1 g2 g3 g4 ⊢
        obtain ⟨q3, v3⟩ := u3
        simp only at g1 g2 g3 g4 ⊢
        refine J_aloadr_0 Y qX9_test_121 ?_
        refine J_getR Y qX9_test_122 fX9_62 (by decide) ?_
        refine J_iload_1 Y qX9_test_125 ?_
        refine J_iconst Y qX9_test_126 ?_
        refine J_iadd Y qX9_test_127 ?_
        rw [show (q : Int) + 2 = ((q + 2 : Nat) : Int) by omega]
        refine J_iload_2 Y qX9_test_128 ?_
        refine J_iastoreN (kx := (q + 2)) Y qX9_test_129 rfl (by decide) rfl (by omega) (by decide) ?_
        rw [rdS_u57]
        refine J_aloadr_0 Y qX9_test_130 ?_
        refine J_getR Y qX9_test_131 fX9_62 (by decide) ?_
        refine J_iload_1 Y qX9_test_134 ?_
        refine J_iconst Y qX9_test_135 ?_
        refine J_iadd Y qX9_test_136 ?_
        rw [show (q : Int) + 3 = ((q + 3 : Nat) : Int) by omega]
        refine J_aloadr_0 Y qX9_test_137 ?_
        refine J_getI Y qX9_test_138 fX9_148 (by decide) ?_
        rw [rdS_25]
        refine J_iastoreN (kx := (q + 3)) Y qX9_test_141 rfl (by decide) rfl (by omega) (by decide) ?_
        rw [rdS_u57]
        have ht := tst_4 hD hf e2 (by decide) (by omega) e3
        exact J_vret X qX9_test_142 ⟨rfl, hP _ (q3, if q3 = q2 + 1 then 1 else 0) v3 (fun k hk => by rw [if_neg (by omega), if_neg (by omega), if_neg (by omega)]) ⟨by show 0 ≤ q3; omega, g2, by dsimp only; split <;> simp⟩ (by rw [ht]; split <;> rfl) (by
          rw [ht]
          by_cases e : q3 = q2 + 1
          · left; rw [if_pos e, if_pos e]; exact ⟨rfl, rfl⟩
          · right
            rw [if_neg e, if_neg e]
            refine ⟨rfl, ?_⟩
            simp [hb, hz, hf])⟩
      · refine J_iload_2 Y qX9_test_93 ?_
        refine J_bipush Y qX9_test_94 (by decide) ?_
        refine J_icmp_ne Y qX9_test_96 (by omega) (by omega) (by omega) (by omega) (fun h96 => ?_) (fun h96 => ?_)
        · exact t_112 hQ hT hn hq (by omega) w3 (fun R2 h => hP R2 (q2, 1) 0 (fun k hk => by rw [h k (by omega) (by omega), if_neg (by omega)]) ⟨by show 0 ≤ q2; omega, w3, Or.inr rfl⟩ (by rw [tst_3 hD hf e2 (by decide) (by omega)]) (Or.inl ⟨rfl, by rw [tst_3 hD hf e2 (by decide) (by omega)]⟩)) X
        · refine J_aloadr_0 Y qX9_test_99 ?_
          refine J_dup Y qX9_test_100 rfl ?_
          refine J_getI Y qX9_test_101 fX9_133 (by decide) ?_
          rw [show rdS M (fun c => if c = q + 1 then z65 else R c) (q2, 0) v 9 0 23 = q2 from rdS_23]
          refine J_iconst Y qX9_test_104 ?_
          refine J_iadd Y qX9_test_105 ?_
          refine J_putI Y qX9_test_106 fX9_133w (by decide) ?_
          rw [rdS_u23]
          refine J_goto Y qX9_test_109 ?_
          have hlt := a3 (by omega)
          have hs3 : Sok n (q2 + 1, 0) := ⟨by show 0 ≤ q2 + 1; omega, by show q2 + 1 ≤ n; omega, Or.inl rfl⟩
          refine J_aloadr_0 Y qX9_test_117 ?_
          refine J_cV0W Y qX9_test_118 mX9_157 iyX9_digits (by decide) rfl (by decide) rfl (Nat.le_of_ble_eq_true rfl) (m_digits (s := (q2 + 1, 0)) _ _ _ hQ hT hn hs3) ?_
          obtain ⟨g1, g2, g3, g4⟩ := numF_rng n2 4 (q2 + 1) 0 (by omega) (by omega) (by omega)
          have hdg : dgF T n (q2 + 1, 0) = (((numF T n 4 (q2 + 1) 0).1, if (numF T n 4 (q2 + 1) 0).1 = q2 + 1 then 1 else 0), (numF T n 4 (q2 + 1) 0).2) := rfl
          rw [hdg]
          generalize e3 : numF T n 4 (q2 + 1) 0 = u3 at g1 g2 g3 g4 ⊢
          obtain ⟨q3, v3⟩ := u3
          simp only at g1 g2 g3 g4 ⊢
          refine J_aloadr_0 Y qX9_test_121 ?_
          refine J_getR Y qX9_test_122 fX9_62 (by decide) ?_
          refine J_iload_1 Y qX9_test_125 ?_
          refine J_iconst Y qX9_test_126 ?_
          refine J_iadd Y qX9_test_127 ?_
          rw [show (q : Int) + 2 = ((q + 2 : Nat) : Int) by omega]
          refine J_iload_2 Y qX9_test_128 ?_
          refine J_iastoreN (kx := (q + 2)) Y qX9_test_129 rfl (by decide) rfl (by omega) (by decide) ?_
          rw [rdS_u57]
          refine J_aloadr_0 Y qX9_test_130 ?_
          refine J_getR Y qX9_test_131 fX9_62 (by decide) ?_
          refine J_iload_1 Y qX9_test_134 ?_
          refine J_iconst Y qX9_test_135 ?_
          refine J_iadd Y qX9_test_136 ?_
          rw [show (q : Int) + 3 = ((q + 3 : Nat) : Int) by omega]
          refine J_aloadr_0 Y qX9_test_137 ?_
          refine J_getI Y qX9_test_138 fX9_148 (by decide) ?_
          rw [rdS_25]
          refine J_iastoreN (kx := (q + 3)) Y qX9_test_141 rfl (by decide) rfl (by omega) (by decide) ?_
          rw [rdS_u57]
          have ht := tst_4 hD hf e2 (by decide) (by omega) e3
          exact J_vret X qX9_test_142 ⟨rfl, hP _ (q3, if q3 = q2 + 1 then 1 else 0) v3 (fun k hk => by rw [if_neg (by omega), if_neg (by omega), if_neg (by omega)]) ⟨by show 0 ≤ q3; omega, g2, by dsimp only; split <;> simp⟩ (by rw [ht]; split <;> rfl) (by
            rw [ht]
            by_cases e : q3 = q2 + 1
            · left; rw [if_pos e, if_pos e]; exact ⟨rfl, rfl⟩
            · right
              rw [if_neg e, if_neg e]
              refine ⟨rfl, ?_⟩
              simp [hb, hz, hf])⟩

def MtsP (T : Nat → Int) (n : Int) (s : Int × Int) (q : Nat) (R : Nat → Int) (M M2 : Mem) : Prop := ∃ (R2 : Nat → Int) (s2 : Int × Int) (v2 : Int), M2 = rdS M R2 s2 v2 ∧ (∀ k, k < q ∨ q + 4 ≤ k → R2 k = R k) ∧ Sok n s2 ∧ (s.2 = 1 → s2 = (s.1, 1)) ∧ (s.2 = 0 → (tstP T n s.1).1 = s2.1 ∧ ((s2.2 = 1 ∧ (tstP T n s.1).2 = none) ∨ (s2.2 = 0 ∧ (tstP T n s.1).2 = some (R2 q, R2 (q + 1), R2 (q + 2), R2 (q + 3)))))
theorem m_test (l : Launch) (G : Gx) (M : Mem) {T : Nat → Int} {n v : Int} {R : Nat → Int} {s : Int × Int} {q : Nat} (hQ : TQ T n) (hT : ∀ k : Nat, (k : Int) < n → M 58 0 k = T k) (hn : M 9 0 22 = n) (hs : Sok n s) (hq : q ≤ 166) : Ct l G 6 yX9_test cX9_test 3 ((Option.none : Option Jvm.ClassFile.FieldType)) [rf G 9 0, vi (q : Nat)] (rdS M R s v) (RV (MtsP T n s q R M)) := by
  refine Ct.of rfl (Nat.le_of_ble_eq_true rfl) rfl (fun E X => ?_)
  have Y := X.ok
  obtain ⟨n0, n1, n2⟩ := id hQ
  obtain ⟨p, f⟩ := s
  obtain ⟨s0, s1, s2⟩ := id hs
  simp only at s0 s1 s2
  obtain ⟨a1, a2, a3⟩ := ahd_rng n2 s0
  refine J_aloadr_0 Y qX9_test_0 ?_
  refine J_getR Y qX9_test_1 fX9_62 (by decide) ?_
  refine J_iload_1 Y qX9_test_4 ?_
  refine J_iconst Y qX9_test_5 ?_
  refine J_iastoreN (kx := q) Y qX9_test_6 rfl (by decide) rfl (by omega) (by decide) ?_
  rw [rdS_u57]
  rcases s2 with rfl | rfl
  · refine J_aloadr_0 Y qX9_test_7 ?_
    refine J_getI Y qX9_test_8 fX9_136 (by decide) ?_
    rw [show rdS M (fun c => if c = q then 0 else R c) (p, 0) v 9 0 24 = 0 from rdS_24]
    refine J_ne0 Y qX9_test_11 ?_
    refine J_aloadr_0 Y qX9_test_14 ?_
    refine J_cV0P Y qX9_test_15 mX9_140 iyX9_here (by decide) rfl (by decide) rfl (Nat.le_of_ble_eq_true rfl) (m_hereP (p := p) (f := 0) _ _ _ hQ hT hn hs) ?_
    refine J_bipush Y qX9_test_18 (by decide) ?_
    refine J_icmp_ne Y qX9_test_20 (by omega) (by omega) (by omega) (by omega) (fun h20 => ?_) (fun h20 => ?_)
    · first
        | (exact t_46t (p := p) (b := 0) (q1 := p) hQ hT hn hq (Or.inr ⟨h20, rfl, rfl⟩) (by simp) s0 s1 (fun R2 s2 v2 k1 k2 k3 k4 => ⟨R2, s2, v2, rfl, fun k hk => by rw [k1 k hk, if_neg (by omega)], k2, fun z => absurd z (show ¬ (0 : Int) = 1 by decide), fun _ => ⟨k3, k4⟩⟩) X)
        | (rw [rdS_u57]
           rcases w1 with rfl | rfl
           · rw [show (1 : Int) - 0 = 1 from rfl]
             exact t_46f (p := q1) hQ hT hn hq (by omega) w3 (fun R2 k1 => ⟨R2, (q1, 1), 0, rfl, fun k hk => by rw [k1 k (by omega) (by omega) (by omega), if_neg (by omega), if_neg (by omega)], ⟨by show 0 ≤ q1; omega, w3, Or.inr rfl⟩, fun z => absurd z (show ¬ (0 : Int) = 1 by decide), fun _ => ⟨by show (tstP T n p).1 = q1; rw [tst_1 (by omega) e1 rfl], Or.inl ⟨rfl, by show (tstP T n p).2 = none; rw [tst_1 (by omega) e1 rfl]⟩⟩⟩) X
           · rw [show (1 : Int) - 1 = 0 from rfl]
             exact t_46t (p := p) (b := 1) (q1 := q1) hQ hT hn hq (Or.inl ⟨by omega, rfl, 1, by decide, e1⟩) (by simp) (by omega) w3 (fun R2 s2 v2 k1 k2 k3 k4 => ⟨R2, s2, v2, rfl, fun k hk => by rw [k1 k hk, if_neg (by omega), if_neg (by omega)], k2, fun z => absurd z (show ¬ (0 : Int) = 1 by decide), fun _ => ⟨k3, k4⟩⟩) X)
    · refine J_aloadr_0 Y qX9_test_23 ?_
      refine J_bipush Y qX9_test_24 (by decide) ?_
      refine J_bipush Y qX9_test_26 (by decide) ?_
      refine J_bipush Y qX9_test_28 (by decide) ?_
      refine J_cV3W Y qX9_test_30 mX9_151 iyX9_eats3 (by decide) rfl (by decide) rfl (Nat.le_of_ble_eq_true rfl) (m_eats3 _ _ _ hQ hT hn hs (by decide) (by decide) (by decide) (by decide) (by decide) (by decide)) ?_
      refine J_aloadr_0 Y qX9_test_33 ?_
      refine J_bipush Y qX9_test_34 (by decide) ?_
      refine J_cV1W Y qX9_test_36 mX9_144 iyX9_eats (by decide) rfl (by decide) rfl (Nat.le_of_ble_eq_true rfl) (m_eats _ _ _ hQ hT hn (eS_ok hQ _ _ hs (by decide)) (by decide) (by decide)) ?_
      have hw := eS_wd (T := T) (n := n) (p := p) (i := 4) (by decide)
      rw [show e1 T n 32 (eS T n [110, 111, 116] (p, 0)) = eS T n (wdL.getD 4 []) (p, 0) from rfl, hw]
      obtain ⟨w1, w2, w3⟩ := eatW_rng (i := 4) n2 (by decide) s0 s1
      generalize e1 : eatW T n 4 p = u at w1 w2 w3 ⊢
      obtain ⟨z1, q1⟩ := u
      simp only at w1 w2 w3 ⊢
      refine J_aloadr_0 Y qX9_test_39 ?_
      refine J_getR Y qX9_test_40 fX9_62 (by decide) ?_
      refine J_iload_1 Y qX9_test_43 ?_
      refine J_iconst Y qX9_test_44 ?_
      refine J_iastoreN (kx := q) Y qX9_test_45 rfl (by decide) rfl (by omega) (by decide) ?_
      first
        | (exact t_46t (p := p) (b := 0) (q1 := p) hQ hT hn hq (Or.inr ⟨h20, rfl, rfl⟩) (by simp) s0 s1 (fun R2 s2 v2 k1 k2 k3 k4 => ⟨R2, s2, v2, rfl, fun k hk => by rw [k1 k hk, if_neg (by omega)], k2, fun z => absurd z (show ¬ (0 : Int) = 1 by decide), fun _ => ⟨k3, k4⟩⟩) X)
        | (rw [rdS_u57]
           rcases w1 with rfl | rfl
           · rw [show (1 : Int) - 0 = 1 from rfl]
             exact t_46f (p := q1) hQ hT hn hq (by omega) w3 (fun R2 k1 => ⟨R2, (q1, 1), 0, rfl, fun k hk => by rw [k1 k (by omega) (by omega) (by omega), if_neg (by omega), if_neg (by omega)], ⟨by show 0 ≤ q1; omega, w3, Or.inr rfl⟩, fun z => absurd z (show ¬ (0 : Int) = 1 by decide), fun _ => ⟨by show (tstP T n p).1 = q1; rw [tst_1 (by omega) e1 rfl], Or.inl ⟨rfl, by show (tstP T n p).2 = none; rw [tst_1 (by omega) e1 rfl]⟩⟩⟩) X
           · rw [show (1 : Int) - 1 = 0 from rfl]
             exact t_46t (p := p) (b := 1) (q1 := q1) hQ hT hn hq (Or.inl ⟨by omega, rfl, 1, by decide, e1⟩) (by simp) (by omega) w3 (fun R2 s2 v2 k1 k2 k3 k4 => ⟨R2, s2, v2, rfl, fun k hk => by rw [k1 k hk, if_neg (by omega), if_neg (by omega)], k2, fun z => absurd z (show ¬ (0 : Int) = 1 by decide), fun _ => ⟨k3, k4⟩⟩) X)
  · refine J_aloadr_0 Y qX9_test_7 ?_
    refine J_getI Y qX9_test_8 fX9_136 (by decide) ?_
    rw [show rdS M (fun c => if c = q then 0 else R c) (p, 1) v 9 0 24 = 1 from rdS_24]
    refine J_ne1 Y qX9_test_11 ?_
    exact t_46f (p := p) hQ hT hn hq s0 s1 (fun R2 k1 => ⟨R2, (p, 1), 0, rfl, fun k hk => by rw [k1 k (by omega) (by omega) (by omega), if_neg (by omega)], ⟨s0, s1, Or.inr rfl⟩, fun _ => rfl, fun z => absurd z (show ¬ (1 : Int) = 0 by decide)⟩) X


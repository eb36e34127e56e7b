/-! ===== the reference: a rule is read ===== -/
theorem tss_e {T : Nat → Int} {n p : Int} {m i : Nat} (h : n ≤ p) (h2 : p ≤ n) : tssP T n m i p = (p, some []) := by
  cases m with
  | zero => rw [tssP, if_pos (by omega)]
  | succ m => rw [tssP, if_pos h]
theorem tss_0 {T : Nat → Int} {n p : Int} {i : Nat} (h : ¬ n ≤ p) : tssP T n 0 i p = (p, none) := by rw [tssP, if_neg (by omega)]
theorem tss_w {T : Nat → Int} {n p q1 : Int} {m i : Nat} (h : ¬ n ≤ p) (e : eatW T n (if i = 0 then 2 else 3) p = (0, q1)) : tssP T n (m + 1) i p = (q1, none) := by
  rw [tssP, if_neg h]
  simp [e]
theorem tss_n {T : Nat → Int} {n p q1 : Int} {m i : Nat} (h : ¬ n ≤ p) (e : eatW T n (if i = 0 then 2 else 3) p = (1, q1)) (h2 : (tstP T n q1).2 = none) : tssP T n (m + 1) i p = ((tstP T n q1).1, none) := by
  rw [tssP, if_neg h]
  simp only [e]
  generalize tstP T n q1 = u at h2 ⊢
  obtain ⟨u1, u2⟩ := u
  simp only at h2
  subst h2
  simp
theorem tss_s {T : Nat → Int} {n p q1 : Int} {m i : Nat} {t : Int × Int × Int × Int} (h : ¬ n ≤ p) (e : eatW T n (if i = 0 then 2 else 3) p = (1, q1)) (h2 : (tstP T n q1).2 = some t) : tssP T n (m + 1) i p = ((tssP T n m (i + 1) (tstP T n q1).1).1, (tssP T n m (i + 1) (tstP T n q1).1).2.map (t :: ·)) := by
  rw [tssP, if_neg h]
  simp only [e]
  generalize tstP T n q1 = u at h2 ⊢
  obtain ⟨u1, u2⟩ := u
  simp only at h2
  subst h2
  simp only
  generalize tssP T n m (i + 1) u1 = w
  obtain ⟨w1, w2⟩ := w
  cases w2 with
  | none => simp
  | some l => simp
/-- how the reading of tests ends -/
def TsQ (T : Nat → Int) (n : Int) (m i : Nat) (p : Int) (B : Nat) (R R2 : Nat → Int) (s2 : Int × Int) : Prop := (∀ k, k < B + 4 ∨ B + 17 ≤ k → R2 k = R k) ∧ Sok n s2 ∧ (tssP T n m i p).1 = s2.1 ∧ ((s2.2 = 1 ∧ (tssP T n m i p).2 = none) ∨ (s2.2 = 0 ∧ ∃ l, (tssP T n m i p).2 = some l ∧ l.length ≤ m ∧ R2 (B + 4) = (i : Int) + l.length ∧ (∀ k, B + 5 ≤ k → k < B + 5 + 4 * i → R2 k = R k) ∧ ∀ j, j < l.length → l[j]? = some (R2 (B + 5 + 4 * (i + j)), R2 (B + 5 + 4 * (i + j) + 1), R2 (B + 5 + 4 * (i + j) + 2), R2 (B + 5 + 4 * (i + j) + 3))))
theorem TsQ_bad {T : Nat → Int} {n : Int} {m i B : Nat} {p q : Int} {R R2 : Nat → Int} (h : ∀ k, k < B + 4 ∨ B + 17 ≤ k → R2 k = R k) (hs : Sok n (q, 1)) (ht : tssP T n m i p = (q, none)) : TsQ T n m i p B R R2 (q, 1) := ⟨h, hs, by rw [ht], Or.inl ⟨rfl, by rw [ht]⟩⟩
theorem TsQ_end {T : Nat → Int} {n : Int} {m i B : Nat} {p : Int} {R : Nat → Int} (hs : Sok n (p, 0)) (h4 : R (B + 4) = (i : Int)) (ht : tssP T n m i p = (p, some [])) : TsQ T n m i p B R R (p, 0) := ⟨fun _ _ => rfl, hs, by rw [ht], Or.inr ⟨rfl, [], by rw [ht], Nat.zero_le m, by simp [h4], fun _ _ _ => rfl, fun j hj => by simp at hj⟩⟩
theorem TsQ_cons {T : Nat → Int} {n p q1 : Int} {m i B : Nat} {R R1 R2 : Nat → Int} {s2 : Int × Int} {t : Int × Int × Int × Int} (him : i + (m + 1) = 3) (h : ¬ n ≤ p) (e : eatW T n (if i = 0 then 2 else 3) p = (1, q1)) (h2 : (tstP T n q1).2 = some t) (hR : ∀ k, k < B + 4 ∨ B + 17 ≤ k → R1 k = R k) (hR3 : ∀ k, B + 5 ≤ k → k < B + 5 + 4 * i → R1 k = R k) (ht : t = (R1 (B + 5 + 4 * i), R1 (B + 5 + 4 * i + 1), R1 (B + 5 + 4 * i + 2), R1 (B + 5 + 4 * i + 3))) (hN : TsQ T n m (i + 1) (tstP T n q1).1 B R1 R2 s2) : TsQ T n (m + 1) i p B R R2 s2 := by
  obtain ⟨g1, g2, g3, g4⟩ := hN
  refine ⟨fun k hk => by rw [g1 k hk, hR k hk], g2, by rw [tss_s h e h2]; exact g3, ?_⟩
  rcases g4 with ⟨a, b⟩ | ⟨a, l, b, c, d, f, g⟩
  · left; exact ⟨a, by rw [tss_s h e h2, b]; rfl⟩
  · right
    refine ⟨a, t :: l, by rw [tss_s h e h2, b]; rfl, by rw [List.length_cons]; omega, by rw [d, List.length_cons]; omega, fun k h1 h3 => by rw [f k h1 (by omega), hR3 k h1 h3], fun j hj => ?_⟩
    cases j with
    | zero =>
      rw [List.getElem?_cons_zero, ht]
      simp only [Nat.add_zero]
      rw [f _ (by omega) (by omega), f _ (by omega) (by omega), f _ (by omega) (by omega), f _ (by omega) (by omega)]
    | succ j =>
      rw [List.getElem?_cons_succ, show i + (j + 1) = i + 1 + j by omega]
      exact g j (by rw [List.length_cons] at hj; omega)
theorem hd_eq {T : Nat → Int} {n : Int} : eS T n (wdL.getD (if ahd T n 0 = 116 then 1 else 0) []) (0, 0) = ((eatW T n (if ahd T n 0 = 98 then 0 else 1) 0).2, 1 - (eatW T n (if ahd T n 0 = 98 then 0 else 1) 0).1) := by
  by_cases e : ahd T n 0 = 116
  · rw [if_pos e, if_neg (by omega)]
    exact eS_wd (by decide)
  · rw [if_neg e]
    by_cases e2 : ahd T n 0 = 98
    · rw [if_pos e2]
      exact eS_wd (by decide)
    · rw [if_neg e2, ← eS_wd (by decide)]
      have k1 : eS T n (wdL.getD 0 []) (0, 0) = (0, 1) := by
        rw [show eS T n (wdL.getD 0 []) (0, 0) = eS T n [97, 110, 32] (e1 T n 98 (0, 0)) from rfl, show e1 T n 98 (0, 0) = (0, 1) by simp [e1, e2], eS_1]
      have k2 : eS T n (wdL.getD 1 []) (0, 0) = (0, 1) := by
        rw [show eS T n (wdL.getD 1 []) (0, 0) = eS T n [97, 120, 32] (e1 T n 116 (0, 0)) from rfl, show e1 T n 116 (0, 0) = (0, 1) by simp [e1, e], eS_1]
      rw [k1, k2]
/-- how the reading of a rule ends -/
def RdQ (T : Nat → Int) (n : Int) (B : Nat) (R R2 : Nat → Int) (s2 : Int × Int) : Prop := (∀ k, k < B + 2 ∨ B + 17 ≤ k → R2 k = R k) ∧ Sok n s2 ∧ (rulP T n).1 = s2.1 ∧ ((s2.2 = 1 ∧ (rulP T n).2 = none) ∨ (s2.2 = 0 ∧ ∃ w : Int × Int × List (Int × Int × Int × Int), (rulP T n).2 = some w ∧ w.2.2.length ≤ 3 ∧ R2 (B + 2) = 1 - w.1 ∧ R2 (B + 3) = w.2.1 ∧ R2 (B + 4) = w.2.2.length ∧ ∀ j, j < w.2.2.length → w.2.2[j]? = some (R2 (B + 5 + 4 * j), R2 (B + 5 + 4 * j + 1), R2 (B + 5 + 4 * j + 2), R2 (B + 5 + 4 * j + 3))))
section RUL
variable {T : Nat → Int} {n q1 q2 v2 : Int} {B : Nat} {R R1 R2 : Nat → Int} {s2 : Int × Int}
theorem RdQ_w (e : eatW T n (if ahd T n 0 = 98 then 0 else 1) 0 = (0, q1)) (hR : ∀ k, k < B + 2 ∨ B + 17 ≤ k → R2 k = R k) (hs : Sok n (q1, 1)) : RdQ T n B R R2 (q1, 1) := by
  have h : rulP T n = (q1, none) := by simp [rulP, e]
  exact ⟨hR, hs, by rw [h], Or.inl ⟨rfl, by rw [h]⟩⟩
theorem RdQ_d (e : eatW T n (if ahd T n 0 = 98 then 0 else 1) 0 = (1, q1)) (e2 : numF T n 4 q1 0 = (q1, v2)) (hR : ∀ k, k < B + 2 ∨ B + 17 ≤ k → R2 k = R k) (hs : Sok n (q1, 1)) : RdQ T n B R R2 (q1, 1) := by
  have h : rulP T n = (q1, none) := by simp [rulP, e, e2]
  exact ⟨hR, hs, by rw [h], Or.inl ⟨rfl, by rw [h]⟩⟩
theorem RdQ_t (e : eatW T n (if ahd T n 0 = 98 then 0 else 1) 0 = (1, q1)) (e2 : numF T n 4 q1 0 = (q2, v2)) (hne : ¬ q2 = q1) (hR : ∀ k, k < B + 2 ∨ B + 17 ≤ k → R1 k = R k) (r2 : R1 (B + 2) = if ahd T n 0 = 116 then 1 else 0) (r3 : R1 (B + 3) = v2) (hN : TsQ T n 3 0 q2 B R1 R2 s2) : RdQ T n B R R2 s2 := by
  obtain ⟨g1, g2, g3, g4⟩ := hN
  have hc : ahd T n 0 = 98 ∨ ahd T n 0 = 116 := by
    by_cases c : ahd T n 0 = 98
    · exact Or.inl c
    · rw [if_neg c] at e
      right
      by_cases c2 : ahd T n 0 = 116
      · exact c2
      · have k := eS_wd (T := T) (n := n) (p := 0) (i := 1) (by decide)
        rw [show eS T n (wdL.getD 1 []) (0, 0) = eS T n [97, 120, 32] (e1 T n 116 (0, 0)) from rfl, show e1 T n 116 (0, 0) = (0, 1) by simp [e1, c2], eS_1, e] at k
        simp at k
  have h : rulP T n = ((tssP T n 3 0 q2).1, (tssP T n 3 0 q2).2.map (fun l => (if ahd T n 0 = 98 then 1 else 0, v2, l))) := by
    unfold rulP
    simp only [e, e2, hne, if_false]
    generalize tssP T n 3 0 q2 = w
    obtain ⟨w1, w2⟩ := w
    cases w2 with
    | none => simp
    | some l => simp
  refine ⟨fun k hk => by rw [g1 k (by omega), hR k hk], g2, by rw [h]; exact g3, ?_⟩
  rcases g4 with ⟨a, b⟩ | ⟨a, l, b, c, d, f, g⟩
  · left; exact ⟨a, by rw [h, b]; rfl⟩
  · right
    refine ⟨a, (if ahd T n 0 = 98 then 1 else 0, v2, l), by rw [h, b]; rfl, c, ?_, by rw [g1 _ (by omega)]; exact r3, by simpa using d, fun j hj => ?_⟩
    · rw [g1 _ (by omega), r2]
      rcases hc with hc | hc <;> rw [hc] <;> rfl
    · have := g j hj
      rw [Nat.zero_add] at this
      exact this
end RUL
theorem r_103f {l : Launch} {G : Gx} {E : Fx} {M : Mem} {r : Nat} {P : Mem → Prop} {R : Nat → Int} {p v : Int} (hP : P (rdS M R (p, 1) v)) (X : OkM l G E cX9_reads RX9 3 7 none (RV P)) {x2 : Option Value} : J G E 103 [some (rf G 9 0), some (vi ((17 * r : Nat) : Int)), x2] [] (rdS M R (p, 1) v) := by
  have Y := X.ok
  refine J_aloadr_0 Y qX9_reads_103 ?_
  refine J_getI Y qX9_reads_104 fX9_136 (by decide) ?_
  rw [show rdS M R (p, 1) v 9 0 24 = 1 from rdS_24]
  refine J_ne1 Y qX9_reads_107 ?_
  exact J_vret X qX9_reads_212 ⟨rfl, hP⟩

theorem r_103 {l : Launch} {G : Gx} {E : Fx} {M : Mem} {T : Nat → Int} {n : Int} {r : Nat} (hQ : TQ T n) (hT : ∀ k : Nat, (k : Int) < n → M 58 0 k = T k) (hn : M 9 0 22 = n) (hr : r < 10) {P : Mem → Prop} (X : OkM l G E cX9_reads RX9 3 7 none (RV P)) : ∀ (m i : Nat) (p : Int) (R : Nat → Int) (v : Int) (x2 : Option Value), i + m = 3 → 0 ≤ p → p ≤ n → R (17 * r + 4) = (i : Int) → (∀ (R2 : Nat → Int) (s2 : Int × Int) (v2 : Int), TsQ T n m i p (17 * r) R R2 s2 → P (rdS M R2 s2 v2)) → J G E 103 [some (rf G 9 0), some (vi ((17 * r : Nat) : Int)), x2] [] (rdS M R (p, 0) v) := by
  have Y := X.ok
  obtain ⟨n0, n1, n2⟩ := id hQ
  intro m
  induction m with
  | zero =>
    intro i p R v x2 h3 h1 h2 h4 hP
    refine J_aloadr_0 Y qX9_reads_103 ?_
    refine J_getI Y qX9_reads_104 fX9_136 (by decide) ?_
    obtain rfl : i = 3 := by omega
    rw [show rdS M R (p, 0) v 9 0 24 = 0 from rdS_24]
    refine J_ne0 Y qX9_reads_107 ?_
    refine J_aloadr_0 Y qX9_reads_110 ?_
    refine J_getI Y qX9_reads_111 fX9_133 (by decide) ?_
    rw [rdS_23]
    refine J_aloadr_0 Y qX9_reads_114 ?_
    refine J_getI Y qX9_reads_115 fX9_130 (by decide) ?_
    rw [rdS_o (by omega) (by omega), hn]
    refine J_icmp_ge Y qX9_reads_118 (by omega) (by omega) (by omega) (by omega) (fun h118 => ?_) (fun h118 => ?_)
    · have hs0 : Sok n (p, 0) := ⟨h1, h2, Or.inl rfl⟩
      exact J_vret X qX9_reads_212 ⟨rfl, hP R (p, 0) v (TsQ_end hs0 (by rw [h4]) (tss_e (by omega) h2))⟩
    · refine J_aloadr_0 Y qX9_reads_121 ?_
      refine J_getR Y qX9_reads_122 fX9_62 (by decide) ?_
      refine J_iload_1 Y qX9_reads_125 ?_
      refine J_iconst Y qX9_reads_126 ?_
      refine J_iadd Y qX9_reads_127 ?_
      rw [show ((17 * r : Nat) : Int) + 4 = ((17 * r + 4 : Nat) : Int) by omega]
      refine J_ialoadN (kx := (17 * r + 4)) Y qX9_reads_128 rfl (by decide) rfl (by omega) (by decide) ?_
      rw [rdS_57, h4]
      refine J_istore_2 Y qX9_reads_129 rfl ?_
      refine J_iload_2 Y qX9_reads_130 ?_
      refine J_iconst Y qX9_reads_131 ?_
      have hs1 : Sok n (p, 1) := ⟨h1, h2, Or.inr rfl⟩
      refine J_icmp_ne Y qX9_reads_132 (by omega) (by omega) (by omega) (by omega) (fun h132 => ?_) (fun h132 => ?_)
      · exfalso; omega
      · refine J_aloadr_0 Y qX9_reads_135 ?_
        refine J_iconst Y qX9_reads_136 ?_
        refine J_putZ Y qX9_reads_137 fX9_136w (Or.inr rfl) (by decide) ?_
        rw [rdS_u24]
        change J G E _ _ _ (rdS M R (p, 1) v)
        refine J_aloadr_0 Y qX9_reads_140 ?_
        refine J_bipush Y qX9_reads_141 (by decide) ?_
        refine J_cV1W Y qX9_reads_143 mX9_144 iyX9_eats (by decide) rfl (by decide) rfl (Nat.le_of_ble_eq_true rfl) (m_eats (s := (p, 1)) _ _ _ hQ hT hn hs1 (by decide) (by decide)) ?_
        rw [e1_1]
        refine J_iload_2 Y qX9_reads_146 ?_
        refine J_if_ne Y qX9_reads_147 (by omega) (by omega) (fun h147 => ?_) (fun h147 => ?_)
        · refine J_aloadr_0 Y qX9_reads_165 ?_
          refine J_bipush Y qX9_reads_166 (by decide) ?_
          refine J_bipush Y qX9_reads_168 (by decide) ?_
          refine J_bipush Y qX9_reads_170 (by decide) ?_
          refine J_cV3W Y qX9_reads_172 mX9_151 iyX9_eats3 (by decide) rfl (by decide) rfl (Nat.le_of_ble_eq_true rfl) (m_eats3 (s := (p, 1)) _ _ _ hQ hT hn hs1 (by decide) (by decide) (by decide) (by decide) (by decide) (by decide)) ?_
          rw [eS_1]
          refine J_aloadr_0 Y qX9_reads_175 ?_
          refine J_bipush Y qX9_reads_176 (by decide) ?_
          refine J_cV1W Y qX9_reads_178 mX9_144 iyX9_eats (by decide) rfl (by decide) rfl (Nat.le_of_ble_eq_true rfl) (m_eats (s := (p, 1)) _ _ _ hQ hT hn hs1 (by decide) (by decide)) ?_
          rw [e1_1]
          refine J_iload_2 Y qX9_reads_181 ?_
          refine J_iconst Y qX9_reads_182 ?_
          refine J_icmp_ge Y qX9_reads_183 (by omega) (by omega) (by omega) (by omega) (fun h183 => ?_) (fun h183 => ?_)
          · refine J_aloadr_0 Y qX9_reads_197 ?_
            refine J_getR Y qX9_reads_198 fX9_62 (by decide) ?_
            refine J_iload_1 Y qX9_reads_201 ?_
            refine J_iconst Y qX9_reads_202 ?_
            refine J_iadd Y qX9_reads_203 ?_
            rw [show ((17 * r : Nat) : Int) + 4 = ((17 * r + 4 : Nat) : Int) by omega]
            refine J_dup2 Y qX9_reads_204 rfl rfl ?_
            refine J_ialoadN (kx := (17 * r + 4)) Y qX9_reads_205 rfl (by decide) rfl (by omega) (by decide) ?_
            rw [rdS_57, h4]
            refine J_iconst Y qX9_reads_206 ?_
            refine J_iadd Y qX9_reads_207 ?_
            refine J_iastoreN (kx := (17 * r + 4)) Y qX9_reads_208 rfl (by decide) rfl (by omega) (by decide) ?_
            refine J_goto Y qX9_reads_209 ?_
            rw [rdS_u57]
            exact r_103f (hP (fun c => if c = 17 * r + 4 then ((3 : Nat) : Int) + 1 else R c) (p, 1) v (TsQ_bad (fun k hk => by rw [if_neg (by omega)]) hs1 (tss_0 (by omega)))) X
          · exfalso; omega
        · exfalso; omega

  | succ m ih =>
    intro i p R v x2 h3 h1 h2 h4 hP
    refine J_aloadr_0 Y qX9_reads_103 ?_
    refine J_getI Y qX9_reads_104 fX9_136 (by decide) ?_
    rw [show rdS M R (p, 0) v 9 0 24 = 0 from rdS_24]
    refine J_ne0 Y qX9_reads_107 ?_
    refine J_aloadr_0 Y qX9_reads_110 ?_
    refine J_getI Y qX9_reads_111 fX9_133 (by decide) ?_
    rw [rdS_23]
    refine J_aloadr_0 Y qX9_reads_114 ?_
    refine J_getI Y qX9_reads_115 fX9_130 (by decide) ?_
    rw [rdS_o (by omega) (by omega), hn]
    refine J_icmp_ge Y qX9_reads_118 (by omega) (by omega) (by omega) (by omega) (fun h118 => ?_) (fun h118 => ?_)
    · have hs0 : Sok n (p, 0) := ⟨h1, h2, Or.inl rfl⟩
      exact J_vret X qX9_reads_212 ⟨rfl, hP R (p, 0) v (TsQ_end hs0 h4 (tss_e (by omega) h2))⟩
    · have hs1 : Sok n (p, 0) := ⟨h1, h2, Or.inl rfl⟩
      have hs2 : Sok n (e1 T n 32 (p, 0)) := e1_ok hQ hs1 (by decide)
      refine J_aloadr_0 Y qX9_reads_121 ?_
      refine J_getR Y qX9_reads_122 fX9_62 (by decide) ?_
      refine J_iload_1 Y qX9_reads_125 ?_
      refine J_iconst Y qX9_reads_126 ?_
      refine J_iadd Y qX9_reads_127 ?_
      rw [show ((17 * r : Nat) : Int) + 4 = ((17 * r + 4 : Nat) : Int) by omega]
      refine J_ialoadN (kx := (17 * r + 4)) Y qX9_reads_128 rfl (by decide) rfl (by omega) (by decide) ?_
      rw [rdS_57, h4]
      refine J_istore_2 Y qX9_reads_129 rfl ?_
      refine J_iload_2 Y qX9_reads_130 ?_
      refine J_iconst Y qX9_reads_131 ?_
      refine J_icmp_ne Y qX9_reads_132 (by omega) (by omega) (by omega) (by omega) (fun h132 => ?_) (fun h132 => ?_)
      · refine J_aloadr_0 Y qX9_reads_140 ?_
        refine J_bipush Y qX9_reads_141 (by decide) ?_
        refine J_cV1W Y qX9_reads_143 mX9_144 iyX9_eats (by decide) rfl (by decide) rfl (Nat.le_of_ble_eq_true rfl) (m_eats (s := (p, 0)) _ _ _ hQ hT hn hs1 (by decide) (by decide)) ?_
        refine J_iload_2 Y qX9_reads_146 ?_
        refine J_if_ne Y qX9_reads_147 (by omega) (by omega) (fun h147 => ?_) (fun h147 => ?_)
        · have hs8 : Sok n (eS T n [97, 110, 100] (e1 T n 32 (p, 0))) := eS_ok hQ _ _ hs2 (by decide)
          refine J_aloadr_0 Y qX9_reads_165 ?_
          refine J_bipush Y qX9_reads_166 (by decide) ?_
          refine J_bipush Y qX9_reads_168 (by decide) ?_
          refine J_bipush Y qX9_reads_170 (by decide) ?_
          refine J_cV3W Y qX9_reads_172 mX9_151 iyX9_eats3 (by decide) rfl (by decide) rfl (Nat.le_of_ble_eq_true rfl) (m_eats3 (s := (e1 T n 32 (p, 0))) _ _ _ hQ hT hn hs2 (by decide) (by decide) (by decide) (by decide) (by decide) (by decide)) ?_
          refine J_aloadr_0 Y qX9_reads_175 ?_
          refine J_bipush Y qX9_reads_176 (by decide) ?_
          refine J_cV1W Y qX9_reads_178 mX9_144 iyX9_eats (by decide) rfl (by decide) rfl (Nat.le_of_ble_eq_true rfl) (m_eats (s := _) _ _ _ hQ hT hn hs8 (by decide) (by decide)) ?_
          have hw := eS_wd (T := T) (n := n) (p := p) (i := if i = 0 then 2 else 3) (by split <;> decide)
          obtain ⟨w1, w2, w3⟩ := eatW_rng (i := if i = 0 then 2 else 3) n2 (by split <;> decide) h1 h2
          first
            | rw [show e1 T n 32 (e1 T n 102 (e1 T n 105 (e1 T n 32 (p, 0)))) = eS T n (wdL.getD (if i = 0 then 2 else 3) []) (p, 0) from (by rw [if_pos (by omega)]; rfl)]
            | rw [show e1 T n 32 (eS T n [97, 110, 100] (e1 T n 32 (p, 0))) = eS T n (wdL.getD (if i = 0 then 2 else 3) []) (p, 0) from (by rw [if_neg (by omega)]; rfl)]
          rw [hw]
          generalize ee : eatW T n (if i = 0 then 2 else 3) p = u at w1 w2 w3 ⊢
          obtain ⟨z1, q1⟩ := u
          simp only at w1 w2 w3 ⊢
          have hs3 : Sok n (q1, 1 - z1) := ⟨by show 0 ≤ q1; omega, w3, by show 1 - z1 = 0 ∨ 1 - z1 = 1; omega⟩
          refine J_iload_2 Y qX9_reads_181 ?_
          refine J_iconst Y qX9_reads_182 ?_
          refine J_icmp_ge Y qX9_reads_183 (by omega) (by omega) (by omega) (by omega) (fun h183 => ?_) (fun h183 => ?_)
          · exfalso; omega
          · refine J_aloadr_0 Y qX9_reads_186 ?_
            refine J_iload_1 Y qX9_reads_187 ?_
            refine J_iconst Y qX9_reads_188 ?_
            refine J_iadd Y qX9_reads_189 ?_
            refine J_iconst Y qX9_reads_190 ?_
            refine J_iload_2 Y qX9_reads_191 ?_
            refine J_imul Y qX9_reads_192 ?_
            refine J_iadd Y qX9_reads_193 ?_
            rw [show ((17 * r : Nat) : Int) + 5 + 4 * (i : Int) = ((17 * r + 5 + 4 * i : Nat) : Int) by omega]
            refine J_cV1V Y qX9_reads_194 mX9_163 iyX9_test (by decide) rfl (by decide) rfl (Nat.le_of_ble_eq_true rfl) (m_test (s := (q1, 1 - z1)) _ _ _ hQ hT hn hs3 (by omega)) (fun M2 h194 => ?_)
            obtain ⟨R3, s3, v3, rfl, k1, k2, k3, k4⟩ := h194
            refine J_aloadr_0 Y qX9_reads_197 ?_
            refine J_getR Y qX9_reads_198 fX9_62 (by decide) ?_
            refine J_iload_1 Y qX9_reads_201 ?_
            refine J_iconst Y qX9_reads_202 ?_
            refine J_iadd Y qX9_reads_203 ?_
            rw [show ((17 * r : Nat) : Int) + 4 = ((17 * r + 4 : Nat) : Int) by omega]
            refine J_dup2 Y qX9_reads_204 rfl rfl ?_
            refine J_ialoadN (kx := (17 * r + 4)) Y qX9_reads_205 rfl (by decide) rfl (by omega) (by decide) ?_
            rw [rdS_57]
            refine J_iconst Y qX9_reads_206 ?_
            refine J_iadd Y qX9_reads_207 ?_
            refine J_iastoreN (kx := (17 * r + 4)) Y qX9_reads_208 rfl (by decide) rfl (by omega) (by decide) ?_
            refine J_goto Y qX9_reads_209 ?_
            rw [rdS_u57, show R3 (17 * r + 4) = (i : Int) by rw [k1 _ (by omega), h4], show (i : Int) + 1 = ((i + 1 : Nat) : Int) by omega]
            obtain ⟨sp, sf⟩ := s3
            rcases w1 with rfl | rfl
            · obtain ⟨rfl, rfl⟩ := Prod.mk.inj (k3 rfl)
              exact r_103f (hP (fun c => if c = 17 * r + 4 then ((i + 1 : Nat) : Int) else R3 c) (sp, 1) v3 (TsQ_bad (fun k hk => by rw [if_neg (by omega), k1 k (by omega)]) k2 (tss_w (by omega) ee))) X
            · obtain ⟨t1, t2⟩ := k4 rfl
              simp only at t1 t2
              rcases t2 with ⟨rfl, t2⟩ | ⟨rfl, t2⟩
              · exact r_103f (hP (fun c => if c = 17 * r + 4 then ((i + 1 : Nat) : Int) else R3 c) (sp, 1) v3 (TsQ_bad (fun k hk => by rw [if_neg (by omega), k1 k (by omega)]) k2 (by rw [tss_n (by omega) ee t2, t1]))) X
              · refine ih (i + 1) sp (fun c => if c = 17 * r + 4 then ((i + 1 : Nat) : Int) else R3 c) v3 _ (by omega) k2.1 k2.2.1 (by rw [if_pos rfl]) (fun R4 s4 v4 hN => hP R4 s4 v4 (TsQ_cons (R1 := (fun c => if c = 17 * r + 4 then ((i + 1 : Nat) : Int) else R3 c)) (by omega) (by omega) ee t2 (fun k hk => by rw [if_neg (by omega), k1 k (by omega)]) (fun k g1 g2 => by rw [if_neg (by omega), k1 k (by omega)]) (by rw [if_neg (by omega), if_neg (by omega), if_neg (by omega), if_neg (by omega)]) (by rw [t1]; exact hN)))
        · have hs6 : Sok n (e1 T n 105 (e1 T n 32 (p, 0))) := e1_ok hQ hs2 (by decide)
          have hs8 : Sok n (e1 T n 102 (e1 T n 105 (e1 T n 32 (p, 0)))) := e1_ok hQ hs6 (by decide)
          refine J_aloadr_0 Y qX9_reads_150 ?_
          refine J_bipush Y qX9_reads_151 (by decide) ?_
          refine J_cV1W Y qX9_reads_153 mX9_144 iyX9_eats (by decide) rfl (by decide) rfl (Nat.le_of_ble_eq_true rfl) (m_eats (s := (e1 T n 32 (p, 0))) _ _ _ hQ hT hn hs2 (by decide) (by decide)) ?_
          refine J_aloadr_0 Y qX9_reads_156 ?_
          refine J_bipush Y qX9_reads_157 (by decide) ?_
          refine J_cV1W Y qX9_reads_159 mX9_144 iyX9_eats (by decide) rfl (by decide) rfl (Nat.le_of_ble_eq_true rfl) (m_eats (s := (e1 T n 105 (e1 T n 32 (p, 0)))) _ _ _ hQ hT hn hs6 (by decide) (by decide)) ?_
          refine J_goto Y qX9_reads_162 ?_
          refine J_aloadr_0 Y qX9_reads_175 ?_
          refine J_bipush Y qX9_reads_176 (by decide) ?_
          refine J_cV1W Y qX9_reads_178 mX9_144 iyX9_eats (by decide) rfl (by decide) rfl (Nat.le_of_ble_eq_true rfl) (m_eats (s := _) _ _ _ hQ hT hn hs8 (by decide) (by decide)) ?_
          have hw := eS_wd (T := T) (n := n) (p := p) (i := if i = 0 then 2 else 3) (by split <;> decide)
          obtain ⟨w1, w2, w3⟩ := eatW_rng (i := if i = 0 then 2 else 3) n2 (by split <;> decide) h1 h2
          first
            | rw [show e1 T n 32 (e1 T n 102 (e1 T n 105 (e1 T n 32 (p, 0)))) = eS T n (wdL.getD (if i = 0 then 2 else 3) []) (p, 0) from (by rw [if_pos (by omega)]; rfl)]
            | rw [show e1 T n 32 (eS T n [97, 110, 100] (e1 T n 32 (p, 0))) = eS T n (wdL.getD (if i = 0 then 2 else 3) []) (p, 0) from (by rw [if_neg (by omega)]; rfl)]
          rw [hw]
          generalize ee : eatW T n (if i = 0 then 2 else 3) p = u at w1 w2 w3 ⊢
          obtain ⟨z1, q1⟩ := u
          simp only at w1 w2 w3 ⊢
          have hs3 : Sok n (q1, 1 - z1) := ⟨by show 0 ≤ q1; omega, w3, by show 1 - z1 = 0 ∨ 1 - z1 = 1; omega⟩
          refine J_iload_2 Y qX9_reads_181 ?_
          refine J_iconst Y qX9_reads_182 ?_
          refine J_icmp_ge Y qX9_reads_183 (by omega) (by omega) (by omega) (by omega) (fun h183 => ?_) (fun h183 => ?_)
          · exfalso; omega
          · refine J_aloadr_0 Y qX9_reads_186 ?_
            refine J_iload_1 Y qX9_reads_187 ?_
            refine J_iconst Y qX9_reads_188 ?_
            refine J_iadd Y qX9_reads_189 ?_
            refine J_iconst Y qX9_reads_190 ?_
            refine J_iload_2 Y qX9_reads_191 ?_
            refine J_imul Y qX9_reads_192 ?_
            refine J_iadd Y qX9_reads_193 ?_
            rw [show ((17 * r : Nat) : Int) + 5 + 4 * (i : Int) = ((17 * r + 5 + 4 * i : Nat) : Int) by omega]
            refine J_cV1V Y qX9_reads_194 mX9_163 iyX9_test (by decide) rfl (by decide) rfl (Nat.le_of_ble_eq_true rfl) (m_test (s := (q1, 1 - z1)) _ _ _ hQ hT hn hs3 (by omega)) (fun M2 h194 => ?_)
            obtain ⟨R3, s3, v3, rfl, k1, k2, k3, k4⟩ := h194
            refine J_aloadr_0 Y qX9_reads_197 ?_
            refine J_getR Y qX9_reads_198 fX9_62 (by decide) ?_
            refine J_iload_1 Y qX9_reads_201 ?_
            refine J_iconst Y qX9_reads_202 ?_
            refine J_iadd Y qX9_reads_203 ?_
            rw [show ((17 * r : Nat) : Int) + 4 = ((17 * r + 4 : Nat) : Int) by omega]
            refine J_dup2 Y qX9_reads_204 rfl rfl ?_
            refine J_ialoadN (kx := (17 * r + 4)) Y qX9_reads_205 rfl (by decide) rfl (by omega) (by decide) ?_
            rw [rdS_57]
            refine J_iconst Y qX9_reads_206 ?_
            refine J_iadd Y qX9_reads_207 ?_
            refine J_iastoreN (kx := (17 * r + 4)) Y qX9_reads_208 rfl (by decide) rfl (by omega) (by decide) ?_
            refine J_goto Y qX9_reads_209 ?_
            rw [rdS_u57, show R3 (17 * r + 4) = (i : Int) by rw [k1 _ (by omega), h4], show (i : Int) + 1 = ((i + 1 : Nat) : Int) by omega]
            obtain ⟨sp, sf⟩ := s3
            rcases w1 with rfl | rfl
            · obtain ⟨rfl, rfl⟩ := Prod.mk.inj (k3 rfl)
              exact r_103f (hP (fun c => if c = 17 * r + 4 then ((i + 1 : Nat) : Int) else R3 c) (sp, 1) v3 (TsQ_bad (fun k hk => by rw [if_neg (by omega), k1 k (by omega)]) k2 (tss_w (by omega) ee))) X
            · obtain ⟨t1, t2⟩ := k4 rfl
              simp only at t1 t2
              rcases t2 with ⟨rfl, t2⟩ | ⟨rfl, t2⟩
              · exact r_103f (hP (fun c => if c = 17 * r + 4 then ((i + 1 : Nat) : Int) else R3 c) (sp, 1) v3 (TsQ_bad (fun k hk => by rw [if_neg (by omega), k1 k (by omega)]) k2 (by rw [tss_n (by omega) ee t2, t1]))) X
              · refine ih (i + 1) sp (fun c => if c = 17 * r + 4 then ((i + 1 : Nat) : Int) else R3 c) v3 _ (by omega) k2.1 k2.2.1 (by rw [if_pos rfl]) (fun R4 s4 v4 hN => hP R4 s4 v4 (TsQ_cons (R1 := (fun c => if c = 17 * r + 4 then ((i + 1 : Nat) : Int) else R3 c)) (by omega) (by omega) ee t2 (fun k hk => by rw [if_neg (by omega), k1 k (by omega)]) (fun k g1 g2 => by rw [if_neg (by omega), k1 k (by omega)]) (by rw [if_neg (by omega), if_neg (by omega), if_neg (by omega), if_neg (by omega)]) (by rw [t1]; exact hN)))
      · exfalso; omega

def MrdP (T : Nat → Int) (n : Int) (r : Nat) (M M2 : Mem) : Prop := ∃ (R : Nat → Int) (s : Int × Int) (v : Int), M2 = rdS M R s v ∧ RdQ T n (17 * r) (M 57 0) R s
theorem m_reads (l : Launch) (G : Gx) (M : Mem) {T : Nat → Int} {n : Int} {r : Nat} (hQ : TQ T n) (hT : ∀ k : Nat, (k : Int) < n → M 58 0 k = T k) (hn : M 9 0 22 = n) (hr : r < 10) (h19 : M 9 0 19 = (r : Int)) : Ct l G 7 yX9_reads cX9_reads 3 ((Option.none : Option Jvm.ClassFile.FieldType)) [rf G 9 0] M (RV (MrdP T n r M)) := by
  refine Ct.of rfl (Nat.le_of_ble_eq_true rfl) rfl (fun E X => ?_)
  have Y := X.ok
  obtain ⟨n0, n1, n2⟩ := id hQ
  obtain ⟨a1, a2, a3⟩ := ahd_rng n2 (show (0 : Int) ≤ 0 by omega)
  have hs0 : Sok n (0, 0) := ⟨Int.le_refl 0, n0, Or.inl rfl⟩
  obtain ⟨b0, hb0⟩ : ∃ b : Int, b = if ahd T n 0 = 116 then 1 else 0 := ⟨_, rfl⟩
  refine J_bipush Y qX9_reads_0 (by decide) ?_
  refine J_aloadr_0 Y qX9_reads_2 ?_
  refine J_getI Y qX9_reads_3 fX9_160 (by decide) ?_
  rw [h19]
  refine J_imul Y qX9_reads_6 ?_
  rw [show (17 : Int) * (r : Int) = ((17 * r : Nat) : Int) by omega]
  refine J_istore_1 Y qX9_reads_7 rfl ?_
  rw [show M = rdS M (M 57 0) (M 9 0 23, M 9 0 24) (M 9 0 25) from (rdS_self M).symm]
  refine J_aloadr_0 Y qX9_reads_8 ?_
  refine J_iconst Y qX9_reads_9 ?_
  refine J_putI Y qX9_reads_10 fX9_133w (by decide) ?_
  rw [rdS_u23]
  refine J_aloadr_0 Y qX9_reads_13 ?_
  refine J_iconst Y qX9_reads_14 ?_
  refine J_putZ Y qX9_reads_15 fX9_136w (Or.inl rfl) (by decide) ?_
  rw [rdS_u24]
  change J G E _ _ _ (rdS M (M 57 0) (0, 0) (M 9 0 25))
  refine J_aloadr_0 Y qX9_reads_18 ?_
  refine J_getR Y qX9_reads_19 fX9_62 (by decide) ?_
  refine J_iload_1 Y qX9_reads_22 ?_
  refine J_iconst Y qX9_reads_23 ?_
  refine J_iadd Y qX9_reads_24 ?_
  rw [show ((17 * r : Nat) : Int) + 2 = ((17 * r + 2 : Nat) : Int) by omega]
  refine J_aloadr_0 Y qX9_reads_25 ?_
  refine J_cV0P Y qX9_reads_26 mX9_140 iyX9_here (by decide) rfl (by decide) rfl (Nat.le_of_ble_eq_true rfl) (m_hereP (p := 0) (f := 0) _ _ _ hQ hT hn hs0) ?_
  refine J_bipush Y qX9_reads_29 (by decide) ?_
  refine J_icmp_ne Y qX9_reads_31 (by omega) (by omega) (by omega) (by omega) (fun h31 => ?_) (fun h31 => ?_)
  · refine J_iconst Y qX9_reads_38 ?_
    refine J_eqv (w := vi b0) (congrArg vi (show _ = b0 by rw [hb0]; first | rw [if_pos (by omega)] | rw [if_neg (by omega)])) ?_
    refine J_iastoreN (kx := (17 * r + 2)) Y qX9_reads_39 rfl (by decide) rfl (by omega) (by decide) ?_
    rw [rdS_u57]
    refine J_aloadr_0 Y qX9_reads_40 ?_
    refine J_cV0P Y qX9_reads_41 mX9_140 iyX9_here (by decide) rfl (by decide) rfl (Nat.le_of_ble_eq_true rfl) (m_hereP (p := 0) (f := 0) _ _ _ hQ hT hn hs0) ?_
    refine J_bipush Y qX9_reads_44 (by decide) ?_
    try clear h31
    refine J_icmp_ne Y qX9_reads_46 (by omega) (by omega) (by omega) (by omega) (fun h46 => ?_) (fun h46 => ?_)
    · refine J_aloadr_0 Y qX9_reads_62 ?_
      refine J_bipush Y qX9_reads_63 (by decide) ?_
      refine J_bipush Y qX9_reads_65 (by decide) ?_
      refine J_bipush Y qX9_reads_67 (by decide) ?_
      refine J_cV3W Y qX9_reads_69 mX9_151 iyX9_eats3 (by decide) rfl (by decide) rfl (Nat.le_of_ble_eq_true rfl) (m_eats3 (s := (0, 0)) _ _ _ hQ hT hn hs0 (by decide) (by decide) (by decide) (by decide) (by decide) (by decide)) ?_
      refine J_aloadr_0 Y qX9_reads_72 ?_
      refine J_bipush Y qX9_reads_73 (by decide) ?_
      refine J_cV1W Y qX9_reads_75 mX9_144 iyX9_eats (by decide) rfl (by decide) rfl (Nat.le_of_ble_eq_true rfl) (m_eats (s := _) _ _ _ hQ hT hn (eS_ok hQ _ _ hs0 (by decide)) (by decide) (by decide)) ?_
      obtain ⟨w1, w2, w3⟩ := eatW_rng (i := if ahd T n 0 = 98 then 0 else 1) n2 (by split <;> decide) (show (0 : Int) ≤ 0 by omega) n0
      first
        | rw [show e1 T n 32 (eS T n [116, 97, 120] (0, 0)) = eS T n (wdL.getD (if ahd T n 0 = 116 then 1 else 0) []) (0, 0) from (by rw [if_pos (by omega)]; rfl)]
        | rw [show e1 T n 32 (eS T n [98, 97, 110] (0, 0)) = eS T n (wdL.getD (if ahd T n 0 = 116 then 1 else 0) []) (0, 0) from (by rw [if_neg (by omega)]; rfl)]
      rw [hd_eq]
      generalize ee : eatW T n (if ahd T n 0 = 98 then 0 else 1) 0 = u at w1 w2 w3 ⊢
      obtain ⟨z1, q1⟩ := u
      simp only at w1 w2 w3 ⊢
      have hs3 : Sok n (q1, 1 - z1) := ⟨w2, w3, by show 1 - z1 = 0 ∨ 1 - z1 = 1; omega⟩
      refine J_aloadr_0 Y qX9_reads_78 ?_
      refine J_cV0W Y qX9_reads_79 mX9_157 iyX9_digits (by decide) rfl (by decide) rfl (Nat.le_of_ble_eq_true rfl) (m_digits (s := (q1, 1 - z1)) _ _ _ hQ hT hn hs3) ?_
      refine J_aloadr_0 Y qX9_reads_82 ?_
      refine J_getR Y qX9_reads_83 fX9_62 (by decide) ?_
      refine J_iload_1 Y qX9_reads_86 ?_
      refine J_iconst Y qX9_reads_87 ?_
      skip
      refine J_iadd Y qX9_reads_88 ?_
      rw [show ((17 * r : Nat) : Int) + 3 = ((17 * r + 3 : Nat) : Int) by omega]
      refine J_aloadr_0 Y qX9_reads_89 ?_
      refine J_getI Y qX9_reads_90 fX9_148 (by decide) ?_
      rw [rdS_25]
      refine J_iastoreN (kx := (17 * r + 3)) Y qX9_reads_93 rfl (by decide) rfl (by omega) (by decide) ?_
      rw [rdS_u57]
      refine J_aloadr_0 Y qX9_reads_94 ?_
      refine J_getR Y qX9_reads_95 fX9_62 (by decide) ?_
      refine J_iload_1 Y qX9_reads_98 ?_
      refine J_iconst Y qX9_reads_99 ?_
      refine J_iadd Y qX9_reads_100 ?_
      rw [show ((17 * r : Nat) : Int) + 4 = ((17 * r + 4 : Nat) : Int) by omega]
      refine J_iconst Y qX9_reads_101 ?_
      refine J_iastoreN (kx := (17 * r + 4)) Y qX9_reads_102 rfl (by decide) rfl (by omega) (by decide) ?_
      rw [rdS_u57]
      rcases w1 with rfl | rfl
      · rw [show dgF T n (q1, 1 - 0) = ((q1, 1), 0) from rfl]
        exact r_103f (r := r) ⟨_, _, _, rfl, RdQ_w (R := M 57 0) ee (fun k hk => by rw [if_neg (by omega), if_neg (by omega), if_neg (by omega)]) ⟨w2, w3, Or.inr rfl⟩⟩ X
      · have hdg : dgF T n (q1, 1 - 1) = (((numF T n 4 q1 0).1, if (numF T n 4 q1 0).1 = q1 then 1 else 0), (numF T n 4 q1 0).2) := rfl
        obtain ⟨g1, g2, g3, g4⟩ := numF_rng n2 4 q1 0 w2 w3 (by omega)
        rw [hdg]
        generalize e3 : numF T n 4 q1 0 = u3 at g1 g2 g3 g4 ⊢
        obtain ⟨q2, v2⟩ := u3
        simp only at g1 g2 g3 g4 ⊢
        by_cases e : q2 = q1
        · subst e
          rw [if_pos rfl]
          exact r_103f (r := r) ⟨_, _, _, rfl, RdQ_d (R := M 57 0) ee e3 (fun k hk => by rw [if_neg (by omega), if_neg (by omega), if_neg (by omega)]) ⟨w2, w3, Or.inr rfl⟩⟩ X
        · rw [if_neg e]
          exact r_103 hQ hT hn hr X 3 0 q2 _ _ _ (by omega) (by omega) g2 (by rw [if_pos rfl]; rfl) (fun R2 s2 v9 hN => ⟨R2, s2, v9, rfl, RdQ_t ee e3 e (fun k hk => by rw [if_neg (by omega), if_neg (by omega), if_neg (by omega)]) (by rw [if_neg (by omega), if_neg (by omega), if_pos rfl]; exact hb0) (by rw [if_neg (by omega), if_pos rfl]) hN⟩)
    · refine J_aloadr_0 Y qX9_reads_49 ?_
      refine J_bipush Y qX9_reads_50 (by decide) ?_
      refine J_bipush Y qX9_reads_52 (by decide) ?_
      refine J_bipush Y qX9_reads_54 (by decide) ?_
      refine J_cV3W Y qX9_reads_56 mX9_151 iyX9_eats3 (by decide) rfl (by decide) rfl (Nat.le_of_ble_eq_true rfl) (m_eats3 (s := (0, 0)) _ _ _ hQ hT hn hs0 (by decide) (by decide) (by decide) (by decide) (by decide) (by decide)) ?_
      refine J_goto Y qX9_reads_59 ?_
      refine J_aloadr_0 Y qX9_reads_72 ?_
      refine J_bipush Y qX9_reads_73 (by decide) ?_
      refine J_cV1W Y qX9_reads_75 mX9_144 iyX9_eats (by decide) rfl (by decide) rfl (Nat.le_of_ble_eq_true rfl) (m_eats (s := _) _ _ _ hQ hT hn (eS_ok hQ _ _ hs0 (by decide)) (by decide) (by decide)) ?_
      obtain ⟨w1, w2, w3⟩ := eatW_rng (i := if ahd T n 0 = 98 then 0 else 1) n2 (by split <;> decide) (show (0 : Int) ≤ 0 by omega) n0
      first
        | rw [show e1 T n 32 (eS T n [116, 97, 120] (0, 0)) = eS T n (wdL.getD (if ahd T n 0 = 116 then 1 else 0) []) (0, 0) from (by rw [if_pos (by omega)]; rfl)]
        | rw [show e1 T n 32 (eS T n [98, 97, 110] (0, 0)) = eS T n (wdL.getD (if ahd T n 0 = 116 then 1 else 0) []) (0, 0) from (by rw [if_neg (by omega)]; rfl)]
      rw [hd_eq]
      generalize ee : eatW T n (if ahd T n 0 = 98 then 0 else 1) 0 = u at w1 w2 w3 ⊢
      obtain ⟨z1, q1⟩ := u
      simp only at w1 w2 w3 ⊢
      have hs3 : Sok n (q1, 1 - z1) := ⟨w2, w3, by show 1 - z1 = 0 ∨ 1 - z1 = 1; omega⟩
      refine J_aloadr_0 Y qX9_reads_78 ?_
      refine J_cV0W Y qX9_reads_79 mX9_157 iyX9_digits (by decide) rfl (by decide) rfl (Nat.le_of_ble_eq_true rfl) (m_digits (s := (q1, 1 - z1)) _ _ _ hQ hT hn hs3) ?_
      refine J_aloadr_0 Y qX9_reads_82 ?_
      refine J_getR Y qX9_reads_83 fX9_62 (by decide) ?_
      refine J_iload_1 Y qX9_reads_86 ?_
      refine J_iconst Y qX9_reads_87 ?_
      skip
      refine J_iadd Y qX9_reads_88 ?_
      rw [show ((17 * r : Nat) : Int) + 3 = ((17 * r + 3 : Nat) : Int) by omega]
      refine J_aloadr_0 Y qX9_reads_89 ?_
      refine J_getI Y qX9_reads_90 fX9_148 (by decide) ?_
      rw [rdS_25]
      refine J_iastoreN (kx := (17 * r + 3)) Y qX9_reads_93 rfl (by decide) rfl (by omega) (by decide) ?_
      rw [rdS_u57]
      refine J_aloadr_0 Y qX9_reads_94 ?_
      refine J_getR Y qX9_reads_95 fX9_62 (by decide) ?_
      refine J_iload_1 Y qX9_reads_98 ?_
      refine J_iconst Y qX9_reads_99 ?_
      refine J_iadd Y qX9_reads_100 ?_
      rw [show ((17 * r : Nat) : Int) + 4 = ((17 * r + 4 : Nat) : Int) by omega]
      refine J_iconst Y qX9_reads_101 ?_
      refine J_iastoreN (kx := (17 * r + 4)) Y qX9_reads_102 rfl (by decide) rfl (by omega) (by decide) ?_
      rw [rdS_u57]
      rcases w1 with rfl | rfl
      · rw [show dgF T n (q1, 1 - 0) = ((q1, 1), 0) from rfl]
        exact r_103f (r := r) ⟨_, _, _, rfl, RdQ_w (R := M 57 0) ee (fun k hk => by rw [if_neg (by omega), if_neg (by omega), if_neg (by omega)]) ⟨w2, w3, Or.inr rfl⟩⟩ X
      · have hdg : dgF T n (q1, 1 - 1) = (((numF T n 4 q1 0).1, if (numF T n 4 q1 0).1 = q1 then 1 else 0), (numF T n 4 q1 0).2) := rfl
        obtain ⟨g1, g2, g3, g4⟩ := numF_rng n2 4 q1 0 w2 w3 (by omega)
        rw [hdg]
        generalize e3 : numF T n 4 q1 0 = u3 at g1 g2 g3 g4 ⊢
        obtain ⟨q2, v2⟩ := u3
        simp only at g1 g2 g3 g4 ⊢
        by_cases e : q2 = q1
        · subst e
          rw [if_pos rfl]
          exact r_103f (r := r) ⟨_, _, _, rfl, RdQ_d (R := M 57 0) ee e3 (fun k hk => by rw [if_neg (by omega), if_neg (by omega), if_neg (by omega)]) ⟨w2, w3, Or.inr rfl⟩⟩ X
        · rw [if_neg e]
          exact r_103 hQ hT hn hr X 3 0 q2 _ _ _ (by omega) (by omega) g2 (by rw [if_pos rfl]; rfl) (fun R2 s2 v9 hN => ⟨R2, s2, v9, rfl, RdQ_t ee e3 e (fun k hk => by rw [if_neg (by omega), if_neg (by omega), if_neg (by omega)]) (by rw [if_neg (by omega), if_neg (by omega), if_pos rfl]; exact hb0) (by rw [if_neg (by omega), if_pos rfl]) hN⟩)
  · refine J_iconst Y qX9_reads_34 ?_
    refine J_goto Y qX9_reads_35 ?_
    refine J_eqv (w := vi b0) (congrArg vi (show _ = b0 by rw [hb0]; first | rw [if_pos (by omega)] | rw [if_neg (by omega)])) ?_
    refine J_iastoreN (kx := (17 * r + 2)) Y qX9_reads_39 rfl (by decide) rfl (by omega) (by decide) ?_
    rw [rdS_u57]
    refine J_aloadr_0 Y qX9_reads_40 ?_
    refine J_cV0P Y qX9_reads_41 mX9_140 iyX9_here (by decide) rfl (by decide) rfl (Nat.le_of_ble_eq_true rfl) (m_hereP (p := 0) (f := 0) _ _ _ hQ hT hn hs0) ?_
    refine J_bipush Y qX9_reads_44 (by decide) ?_
    try clear h31
    refine J_icmp_ne Y qX9_reads_46 (by omega) (by omega) (by omega) (by omega) (fun h46 => ?_) (fun h46 => ?_)
    · refine J_aloadr_0 Y qX9_reads_62 ?_
      refine J_bipush Y qX9_reads_63 (by decide) ?_
      refine J_bipush Y qX9_reads_65 (by decide) ?_
      refine J_bipush Y qX9_reads_67 (by decide) ?_
      refine J_cV3W Y qX9_reads_69 mX9_151 iyX9_eats3 (by decide) rfl (by decide) rfl (Nat.le_of_ble_eq_true rfl) (m_eats3 (s := (0, 0)) _ _ _ hQ hT hn hs0 (by decide) (by decide) (by decide) (by decide) (by decide) (by decide)) ?_
      refine J_aloadr_0 Y qX9_reads_72 ?_
      refine J_bipush Y qX9_reads_73 (by decide) ?_
      refine J_cV1W Y qX9_reads_75 mX9_144 iyX9_eats (by decide) rfl (by decide) rfl (Nat.le_of_ble_eq_true rfl) (m_eats (s := _) _ _ _ hQ hT hn (eS_ok hQ _ _ hs0 (by decide)) (by decide) (by decide)) ?_
      obtain ⟨w1, w2, w3⟩ := eatW_rng (i := if ahd T n 0 = 98 then 0 else 1) n2 (by split <;> decide) (show (0 : Int) ≤ 0 by omega) n0
      first
        | rw [show e1 T n 32 (eS T n [116, 97, 120] (0, 0)) = eS T n (wdL.getD (if ahd T n 0 = 116 then 1 else 0) []) (0, 0) from (by rw [if_pos (by omega)]; rfl)]
        | rw [show e1 T n 32 (eS T n [98, 97, 110] (0, 0)) = eS T n (wdL.getD (if ahd T n 0 = 116 then 1 else 0) []) (0, 0) from (by rw [if_neg (by omega)]; rfl)]
      rw [hd_eq]
      generalize ee : eatW T n (if ahd T n 0 = 98 then 0 else 1) 0 = u at w1 w2 w3 ⊢
      obtain ⟨z1, q1⟩ := u
      simp only at w1 w2 w3 ⊢
      have hs3 : Sok n (q1, 1 - z1) := ⟨w2, w3, by show 1 - z1 = 0 ∨ 1 - z1 = 1; omega⟩
      refine J_aloadr_0 Y qX9_reads_78 ?_
      refine J_cV0W Y qX9_reads_79 mX9_157 iyX9_digits (by decide) rfl (by decide) rfl (Nat.le_of_ble_eq_true rfl) (m_digits (s := (q1, 1 - z1)) _ _ _ hQ hT hn hs3) ?_
      refine J_aloadr_0 Y qX9_reads_82 ?_
      refine J_getR Y qX9_reads_83 fX9_62 (by decide) ?_
      refine J_iload_1 Y qX9_reads_86 ?_
      refine J_iconst Y qX9_reads_87 ?_
      skip
      refine J_iadd Y qX9_reads_88 ?_
      rw [show ((17 * r : Nat) : Int) + 3 = ((17 * r + 3 : Nat) : Int) by omega]
      refine J_aloadr_0 Y qX9_reads_89 ?_
      refine J_getI Y qX9_reads_90 fX9_148 (by decide) ?_
      rw [rdS_25]
      refine J_iastoreN (kx := (17 * r + 3)) Y qX9_reads_93 rfl (by decide) rfl (by omega) (by decide) ?_
      rw [rdS_u57]
      refine J_aloadr_0 Y qX9_reads_94 ?_
      refine J_getR Y qX9_reads_95 fX9_62 (by decide) ?_
      refine J_iload_1 Y qX9_reads_98 ?_
      refine J_iconst Y qX9_reads_99 ?_
      refine J_iadd Y qX9_reads_100 ?_
      rw [show ((17 * r : Nat) : Int) + 4 = ((17 * r + 4 : Nat) : Int) by omega]
      refine J_iconst Y qX9_reads_101 ?_
      refine J_iastoreN (kx := (17 * r + 4)) Y qX9_reads_102 rfl (by decide) rfl (by omega) (by decide) ?_
      rw [rdS_u57]
      rcases w1 with rfl | rfl
      · rw [show dgF T n (q1, 1 - 0) = ((q1, 1), 0) from rfl]
        exact r_103f (r := r) ⟨_, _, _, rfl, RdQ_w (R := M 57 0) ee (fun k hk => by rw [if_neg (by omega), if_neg (by omega), if_neg (by omega)]) ⟨w2, w3, Or.inr rfl⟩⟩ X
      · have hdg : dgF T n (q1, 1 - 1) = (((numF T n 4 q1 0).1, if (numF T n 4 q1 0).1 = q1 then 1 else 0), (numF T n 4 q1 0).2) := rfl
        obtain ⟨g1, g2, g3, g4⟩ := numF_rng n2 4 q1 0 w2 w3 (by omega)
        rw [hdg]
        generalize e3 : numF T n 4 q1 0 = u3 at g1 g2 g3 g4 ⊢
        obtain ⟨q2, v2⟩ := u3
        simp only at g1 g2 g3 g4 ⊢
        by_cases e : q2 = q1
        · subst e
          rw [if_pos rfl]
          exact r_103f (r := r) ⟨_, _, _, rfl, RdQ_d (R := M 57 0) ee e3 (fun k hk => by rw [if_neg (by omega), if_neg (by omega), if_neg (by omega)]) ⟨w2, w3, Or.inr rfl⟩⟩ X
        · rw [if_neg e]
          exact r_103 hQ hT hn hr X 3 0 q2 _ _ _ (by omega) (by omega) g2 (by rw [if_pos rfl]; rfl) (fun R2 s2 v9 hN => ⟨R2, s2, v9, rfl, RdQ_t ee e3 e (fun k hk => by rw [if_neg (by omega), if_neg (by omega), if_neg (by omega)]) (by rw [if_neg (by omega), if_neg (by omega), if_pos rfl]; exact hb0) (by rw [if_neg (by omega), if_pos rfl]) hN⟩)
    · refine J_aloadr_0 Y qX9_reads_49 ?_
      refine J_bipush Y qX9_reads_50 (by decide) ?_
      refine J_bipush Y qX9_reads_52 (by decide) ?_
      refine J_bipush Y qX9_reads_54 (by decide) ?_
      refine J_cV3W Y qX9_reads_56 mX9_151 iyX9_eats3 (by decide) rfl (by decide) rfl (Nat.le_of_ble_eq_true rfl) (m_eats3 (s := (0, 0)) _ _ _ hQ hT hn hs0 (by decide) (by decide) (by decide) (by decide) (by decide) (by decide)) ?_
      refine J_goto Y qX9_reads_59 ?_
      refine J_aloadr_0 Y qX9_reads_72 ?_
      refine J_bipush Y qX9_reads_73 (by decide) ?_
      refine J_cV1W Y qX9_reads_75 mX9_144 iyX9_eats (by decide) rfl (by decide) rfl (Nat.le_of_ble_eq_true rfl) (m_eats (s := _) _ _ _ hQ hT hn (eS_ok hQ _ _ hs0 (by decide)) (by decide) (by decide)) ?_
      obtain ⟨w1, w2, w3⟩ := eatW_rng (i := if ahd T n 0 = 98 then 0 else 1) n2 (by split <;> decide) (show (0 : Int) ≤ 0 by omega) n0
      first
        | rw [show e1 T n 32 (eS T n [116, 97, 120] (0, 0)) = eS T n (wdL.getD (if ahd T n 0 = 116 then 1 else 0) []) (0, 0) from (by rw [if_pos (by omega)]; rfl)]
        | rw [show e1 T n 32 (eS T n [98, 97, 110] (0, 0)) = eS T n (wdL.getD (if ahd T n 0 = 116 then 1 else 0) []) (0, 0) from (by rw [if_neg (by omega)]; rfl)]
      rw [hd_eq]
      generalize ee : eatW T n (if ahd T n 0 = 98 then 0 else 1) 0 = u at w1 w2 w3 ⊢
      obtain ⟨z1, q1⟩ := u
      simp only at w1 w2 w3 ⊢
      have hs3 : Sok n (q1, 1 - z1) := ⟨w2, w3, by show 1 - z1 = 0 ∨ 1 - z1 = 1; omega⟩
      refine J_aloadr_0 Y qX9_reads_78 ?_
      refine J_cV0W Y qX9_reads_79 mX9_157 iyX9_digits (by decide) rfl (by decide) rfl (Nat.le_of_ble_eq_true rfl) (m_digits (s := (q1, 1 - z1)) _ _ _ hQ hT hn hs3) ?_
      refine J_aloadr_0 Y qX9_reads_82 ?_
      refine J_getR Y qX9_reads_83 fX9_62 (by decide) ?_
      refine J_iload_1 Y qX9_reads_86 ?_
      refine J_iconst Y qX9_reads_87 ?_
      skip
      refine J_iadd Y qX9_reads_88 ?_
      rw [show ((17 * r : Nat) : Int) + 3 = ((17 * r + 3 : Nat) : Int) by omega]
      refine J_aloadr_0 Y qX9_reads_89 ?_
      refine J_getI Y qX9_reads_90 fX9_148 (by decide) ?_
      rw [rdS_25]
      refine J_iastoreN (kx := (17 * r + 3)) Y qX9_reads_93 rfl (by decide) rfl (by omega) (by decide) ?_
      rw [rdS_u57]
      refine J_aloadr_0 Y qX9_reads_94 ?_
      refine J_getR Y qX9_reads_95 fX9_62 (by decide) ?_
      refine J_iload_1 Y qX9_reads_98 ?_
      refine J_iconst Y qX9_reads_99 ?_
      refine J_iadd Y qX9_reads_100 ?_
      rw [show ((17 * r : Nat) : Int) + 4 = ((17 * r + 4 : Nat) : Int) by omega]
      refine J_iconst Y qX9_reads_101 ?_
      refine J_iastoreN (kx := (17 * r + 4)) Y qX9_reads_102 rfl (by decide) rfl (by omega) (by decide) ?_
      rw [rdS_u57]
      rcases w1 with rfl | rfl
      · rw [show dgF T n (q1, 1 - 0) = ((q1, 1), 0) from rfl]
        exact r_103f (r := r) ⟨_, _, _, rfl, RdQ_w (R := M 57 0) ee (fun k hk => by rw [if_neg (by omega), if_neg (by omega), if_neg (by omega)]) ⟨w2, w3, Or.inr rfl⟩⟩ X
      · have hdg : dgF T n (q1, 1 - 1) = (((numF T n 4 q1 0).1, if (numF T n 4 q1 0).1 = q1 then 1 else 0), (numF T n 4 q1 0).2) := rfl
        obtain ⟨g1, g2, g3, g4⟩ := numF_rng n2 4 q1 0 w2 w3 (by omega)
        rw [hdg]
        generalize e3 : numF T n 4 q1 0 = u3 at g1 g2 g3 g4 ⊢
        obtain ⟨q2, v2⟩ := u3
        simp only at g1 g2 g3 g4 ⊢
        by_cases e : q2 = q1
        · subst e
          rw [if_pos rfl]
          exact r_103f (r := r) ⟨_, _, _, rfl, RdQ_d (R := M 57 0) ee e3 (fun k hk => by rw [if_neg (by omega), if_neg (by omega), if_neg (by omega)]) ⟨w2, w3, Or.inr rfl⟩⟩ X
        · rw [if_neg e]
          exact r_103 hQ hT hn hr X 3 0 q2 _ _ _ (by omega) (by omega) g2 (by rw [if_pos rfl]; rfl) (fun R2 s2 v9 hN => ⟨R2, s2, v9, rfl, RdQ_t ee e3 e (fun k hk => by rw [if_neg (by omega), if_neg (by omega), if_neg (by omega)]) (by rw [if_neg (by omega), if_neg (by omega), if_pos rfl]; exact hb0) (by rw [if_neg (by omega), if_pos rfl]) hN⟩)


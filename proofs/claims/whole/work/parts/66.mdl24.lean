/-! ===== the reference: fire, the pure part ===== -/
theorem Fire_ex {m : Nat} {A : Mem} (hI : Inv m A) {c fr op : Nat} (hc : A 0 0 2 = (c : Int)) (c14 : c ≤ 14) (hfr : fr < c) : ∃ D, Fire A fr op D := by
  have hz : ∀ s, s < c → 1 ≤ A 5 s 3 ∧ A 5 s 3 ≤ 9 := fun s hs => (hI.shopS (s := s) (by omega)).2.2.2
  have hB : ∀ s, s < c → IvB A s := fun s hs => hI.bes (by omega)
  have go : ∀ g j D W, j + g = c → SpI A fr op c D W j → ∃ D, Fire A fr op D := by
    intro g
    induction g with
    | zero =>
      intro j D W hj h
      obtain rfl : j = c := by omega
      exact ⟨D, SpI_end hc c14 c14 h (SpI_full h)⟩
    | succ g ih =>
      intro j D W hj h
      by_cases e : snB W D c = -1
      · exact ⟨D, SpI_end hc c14 (by omega) h (fun s hs => snB_no W D c e s hs)⟩
      · have hr := snB_rng W D c
        obtain ⟨x, hx⟩ := nat_of (show 0 ≤ snB W D c by omega)
        exact ih (j + 1) _ _ (by omega) (SpI_step hc hz hB hfr h hx).2.2
  exact go c 0 (fun s => if s = fr then 0 else -1) (2 ^ fr) (by omega) (SpI_0 hfr (by simp) (fun s _ hs => by simp [hs]))
theorem fireD_ok {m : Nat} {A : Mem} (hI : Inv m A) {c fr op : Nat} (hc : A 0 0 2 = (c : Int)) (c14 : c ≤ 14) (hfr : fr < c) : Fire A fr op (fireD A fr op) := Classical.epsilon_spec (p := Fire A fr op) (Fire_ex hI hc c14 hfr)
def rkD (D : Nat → Int) (c s : Nat) : Int := ctN (fun t => decide (D t ≠ -1 ∧ D t < D s)) c
theorem ctN_le {p q : Nat → Bool} : ∀ n : Nat, (∀ s, s < n → p s = true → q s = true) → ctN p n ≤ ctN q n
  | 0, _ => Int.le_refl _
  | n + 1, h => by
    have ih := ctN_le n (fun s hs => h s (by omega))
    simp only [ctN]
    cases hp : p n with
    | false => simp; split <;> omega
    | true => rw [h n (by omega) hp]; omega
theorem ctN_lt {p q : Nat → Bool} {x : Nat} (hp : p x = false) (hq : q x = true) : ∀ n : Nat, x < n → (∀ s, s < n → p s = true → q s = true) → ctN p n + 1 ≤ ctN q n
  | 0, hx, _ => by omega
  | n + 1, hx, h => by
    simp only [ctN]
    by_cases e : x = n
    · subst e
      have := ctN_le x (fun s hs => h s (by omega))
      rw [hp, hq]; simp; omega
    · have ih := ctN_lt hp hq n (by omega) (fun s hs => h s (by omega))
      cases hp2 : p n with
      | false => simp; split <;> omega
      | true => rw [h n (by omega) hp2]; simp; omega
theorem rk_lt {D : Nat → Int} {c s t : Nat} (ht : t < c) (h1 : D t ≠ -1) (h2 : D t < D s) : rkD D c t + 1 ≤ rkD D c s := by
  unfold rkD
  refine ctN_lt (x := t) (by simp) (by simp [h1, h2]) c ht (fun u hu hp => ?_)
  simp only [decide_eq_true_eq] at hp ⊢
  exact ⟨hp.1, by omega⟩
/-- what holds while the reference spreads the fire -/
def BfR (A : Mem) (fr op c : Nat) (D : Nat → Int) (k a0 b0 : Nat) (B : Nat → Int) : Prop :=
  (∀ s, s < c → 0 ≤ B s ∧ (B s = 1000000 ∨ (B s < 1000000 ∧ D s ≠ -1 ∧ D s ≤ B s))) ∧
  (∀ s, s < c → D s ≠ -1 → rkD D c s ≤ k → B s = D s) ∧
  (∀ t s, t < c → s < c → (t < a0 ∨ (t = a0 ∧ s < b0)) → D t ≠ -1 → rkD D c t ≤ k → areB A t s → op.testBit s = false → D s = D t + A 5 s 3 → B s = D s)
section BF
variable {A : Mem} {fr op c : Nat} {D : Nat → Int}
theorem BfR_0 (hc : A 0 0 2 = (c : Int)) (hF : Fire A fr op D) (hz : ∀ s, s < c → 1 ≤ A 5 s 3) (hfr : fr < c) {B : Nat → Int} (hB : ∀ s, s < c → B s = if s = fr then 0 else 1000000) : BfR A fr op c D 0 0 0 B := by
  obtain ⟨f1, f2, f3, f4⟩ := hF
  refine ⟨fun s hs => ?_, fun s hs hd hr => ?_, fun t s ht hs h => by omega⟩
  · rw [hB s hs]
    by_cases e : s = fr
    · rw [if_pos e]; subst e; exact ⟨Int.le_refl _, Or.inr ⟨by decide, by omega, by omega⟩⟩
    · rw [if_neg e]; exact ⟨by decide, Or.inl rfl⟩
  · by_cases e : s = fr
    · rw [hB s hs, if_pos e]; subst e; omega
    · obtain ⟨t, ht, h3, h4, h5, h6⟩ := f3 s (by omega) e hd
      have := f2 t ht
      have := hz s hs
      have := rk_lt (D := D) (c := c) (s := s) (t := t) (by omega) h3 (by omega)
      have := ctN_rng (fun u => decide (D u ≠ -1 ∧ D u < D t)) c
      unfold rkD at *
      omega
theorem BfR_step (hc : A 0 0 2 = (c : Int)) (hF : Fire A fr op D) (hz : ∀ s, s < c → 1 ≤ A 5 s 3 ∧ A 5 s 3 ≤ 9) {k a b : Nat} {B B2 : Nat → Int} (ha : a < c) (hb : b < c) (h : BfR A fr op c D k a b B) (h2 : (B2 = B ∧ ¬ (B a < 1000000 ∧ a ≠ b ∧ op.testBit b = false ∧ B a + A 5 b 3 < B b ∧ areB A a b)) ∨ (B2 = (fun q => if q = b then B a + A 5 b 3 else B q) ∧ (B a < 1000000 ∧ a ≠ b ∧ op.testBit b = false ∧ B a + A 5 b 3 < B b ∧ areB A a b))) : BfR A fr op c D k a (b + 1) B2 := by
  obtain ⟨f1, f2, f3, f4⟩ := hF
  obtain ⟨g1, g2, g3⟩ := h
  have za := hz b hb
  have ga := g1 a ha
  have gb := g1 b hb
  rcases h2 with ⟨rfl, hn⟩ | ⟨rfl, h5, h6, h7, h8, h9⟩
  · refine ⟨g1, g2, fun t s ht hs hp hd hr hB ho he => ?_⟩
    by_cases e : t = a ∧ s = b
    · obtain ⟨rfl, rfl⟩ := e
      have h1 := g2 t ht hd hr
      have h3 := (f2 t (by omega)).2
      have h4 := f4 s t (by omega) (by omega) hd hB ho
      have : ¬ B2 t + A 5 s 3 < B2 s := fun z => hn ⟨by omega, hB.1, ho, z, hB⟩
      omega
    · exact g3 t s ht hs (by omega) hd hr hB ho he
  · have hda : D a ≠ -1 ∧ D a ≤ B a := by rcases ga.2 with q | q <;> omega
    have h4 := f4 b a (by omega) (by omega) hda.1 h9 h7
    have keep : ∀ s, s < c → B s = D s → (if s = b then B a + A 5 b 3 else B s) = D s := by
      intro s hs he
      by_cases e : s = b
      · subst e; omega
      · rw [if_neg e]; exact he
    refine ⟨fun s hs => ?_, fun s hs hd hr => keep s hs (g2 s hs hd hr), fun t s ht hs hp hd hr hB ho he => ?_⟩
    · dsimp only
      by_cases e : s = b
      · subst e
        rw [if_pos rfl]
        exact ⟨by omega, Or.inr ⟨by omega, h4.1, by omega⟩⟩
      · rw [if_neg e]; exact g1 s hs
    · by_cases e : t = a ∧ s = b
      · obtain ⟨rfl, rfl⟩ := e
        have h1 := g2 t ht hd hr
        show (if s = s then _ else _) = _
        rw [if_pos rfl]; omega
      · exact keep s hs (g3 t s ht hs (by omega) hd hr hB ho he)
theorem BfR_row {k a : Nat} {B : Nat → Int} (h : BfR A fr op c D k a c B) : BfR A fr op c D k (a + 1) 0 B := ⟨h.1, h.2.1, fun t s ht hs hp => h.2.2 t s ht hs (by omega)⟩
theorem BfR_round (hc : A 0 0 2 = (c : Int)) (hF : Fire A fr op D) (hz : ∀ s, s < c → 1 ≤ A 5 s 3) {k : Nat} {B : Nat → Int} (h : BfR A fr op c D k c 0 B) : BfR A fr op c D (k + 1) 0 0 B := by
  obtain ⟨f1, f2, f3, f4⟩ := hF
  obtain ⟨g1, g2, g3⟩ := h
  refine ⟨g1, fun s hs hd hr => ?_, fun t s ht hs hp => by omega⟩
  by_cases e : rkD D c s ≤ k
  · exact g2 s hs hd e
  · by_cases e2 : s = fr
    · have h0 : rkD D c s = 0 := by
        have : ∀ n, n ≤ c → ctN (fun u => decide (D u ≠ -1 ∧ D u < D s)) n = 0 := by
          intro n
          induction n with
          | zero => intro _; rfl
          | succ n ih =>
            intro hn
            have := f2 n (by omega)
            simp only [ctN]
            rw [ih (by omega), if_neg (by subst e2; simp; omega)]; rfl
        exact this c (Nat.le_refl c)
      omega
    · obtain ⟨t, ht, h3, h4, h5, h6⟩ := f3 s (by omega) e2 hd
      have := hz s hs
      have := rk_lt (D := D) (c := c) (s := s) (t := t) (by omega) h3 (by omega)
      exact g3 t s (by omega) hs (by omega) h3 (by omega) h4 h5 h6
theorem BfR_end {B : Nat → Int} (h : BfR A fr op c D c 0 0 B) : ∀ s, s < c → B s = if D s = -1 then 1000000 else D s := by
  intro s hs
  have hr := ctN_rng (fun u => decide (D u ≠ -1 ∧ D u < D s)) c
  have g := h.1 s hs
  by_cases e : D s = -1
  · rw [if_pos e]; rcases g.2 with q | q <;> omega
  · rw [if_neg e]; exact h.2.1 s hs e (by unfold rkD; omega)
end BF

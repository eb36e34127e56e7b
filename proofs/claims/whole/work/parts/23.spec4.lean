/-! ===== fire ===== -/
/-- D s: when s burns, -1 never -/
def Fire (M : Mem) (fr op : Nat) (D : Nat → Int) : Prop :=
  D fr = 0 ∧ (∀ s : Nat, (s : Int) < M 0 0 2 → -1 ≤ D s ∧ D s ≤ 126) ∧
  (∀ s : Nat, (s : Int) < M 0 0 2 → s ≠ fr → D s ≠ -1 → ∃ t : Nat, (t : Int) < M 0 0 2 ∧ D t ≠ -1 ∧ areB M t s ∧ op.testBit s = false ∧ D s = D t + M 5 s 3) ∧
  (∀ s t : Nat, (s : Int) < M 0 0 2 → (t : Int) < M 0 0 2 → D t ≠ -1 → areB M t s → op.testBit s = false → D s ≠ -1 ∧ D s ≤ D t + M 5 s 3)
theorem Fire_le {M : Mem} {fr op : Nat} {D E : Nat → Int} (hz : ∀ s : Nat, (s : Int) < M 0 0 2 → 1 ≤ M 5 s 3) (hD : Fire M fr op D) (hE : Fire M fr op E) : ∀ (k s : Nat), (s : Int) < M 0 0 2 → E s ≠ -1 → E s ≤ k → D s ≠ -1 ∧ D s ≤ E s := by
  intro k
  induction k with
  | zero =>
    intro s hs h1 h2
    by_cases e : s = fr
    · subst e
      have := hD.1
      have := hE.1
      omega
    · obtain ⟨t, ht, h3, h4, h5, h6⟩ := hE.2.2.1 s hs e h1
      have := hE.2.1 t ht
      have := hz s hs
      omega
  | succ k ih =>
    intro s hs h1 h2
    by_cases e : s = fr
    · subst e
      have := hD.1
      have := hE.1
      omega
    · obtain ⟨t, ht, h3, h4, h5, h6⟩ := hE.2.2.1 s hs e h1
      have hh := hz s hs
      obtain ⟨g1, g2⟩ := ih t ht h3 (by omega)
      obtain ⟨g3, g4⟩ := hD.2.2.2 s t hs ht g1 h4 h5
      exact ⟨g3, by omega⟩
theorem Fire_one {M : Mem} {fr op : Nat} {D E : Nat → Int} (hz : ∀ s : Nat, (s : Int) < M 0 0 2 → 1 ≤ M 5 s 3) (hD : Fire M fr op D) (hE : Fire M fr op E) : ∀ s : Nat, (s : Int) < M 0 0 2 → D s = E s := by
  intro s hs
  have r1 := hD.2.1 s hs
  have r2 := hE.2.1 s hs
  by_cases e1 : E s = -1
  · by_cases e2 : D s = -1
    · omega
    · have := Fire_le hz hE hD (D s).toNat s hs e2 (by omega)
      omega
  · have h1 := Fire_le hz hD hE (E s).toNat s hs e1 (by omega)
    have h2 := Fire_le hz hE hD (D s).toNat s hs h1.1 (by omega)
    omega
noncomputable def fireD (M : Mem) (fr op : Nat) : Nat → Int := Classical.epsilon (Fire M fr op)
theorem fireD_eq {M : Mem} {fr op : Nat} {D : Nat → Int} (hz : ∀ s : Nat, (s : Int) < M 0 0 2 → 1 ≤ M 5 s 3) (hD : Fire M fr op D) : ∀ s : Nat, (s : Int) < M 0 0 2 → D s = fireD M fr op s :=
  Fire_one hz hD (Classical.epsilon_spec (p := Fire M fr op) ⟨D, hD⟩)
/-- a set of the places below n -/
def setB (c : Nat → Bool) : Nat → Nat
  | 0 => 0
  | n + 1 => if c n = true then setB c n ||| 2 ^ n else setB c n
theorem setB_bit (c : Nat → Bool) (j : Nat) : ∀ n : Nat, (setB c n).testBit j = true ↔ (j < n ∧ c j = true)
  | 0 => by simp [setB]
  | n + 1 => by
    rw [setB]
    split
    · next h =>
      rw [Nat.testBit_or, Bool.or_eq_true, setB_bit c j n, Nat.testBit_two_pow]
      constructor
      · rintro (h1 | h1)
        · exact ⟨by omega, h1.2⟩
        · have : n = j := by simpa using h1
          subst this; exact ⟨by omega, h⟩
      · intro h1
        by_cases e : j = n
        · subst e; right; simp
        · left; exact ⟨by omega, h1.2⟩
    · next h =>
      rw [setB_bit c j n]
      constructor
      · intro h1; exact ⟨by omega, h1.2⟩
      · intro h1
        have : j ≠ n := fun e => h (by rw [← e]; exact h1.2)
        exact ⟨by omega, h1.2⟩
theorem setB_lt (c : Nat → Bool) : ∀ n : Nat, setB c n < 2 ^ n
  | 0 => by simp [setB]
  | n + 1 => by
    have := setB_lt c n
    rw [setB]
    split
    · exact Nat.or_lt_two_pow (by rw [Nat.pow_succ]; omega) (Nat.pow_lt_pow_right (by decide) (by omega))
    · rw [Nat.pow_succ]; omega
/-- of the places below n in w the one of the least D, the first of these; -1 -/
def snB (w : Nat) (D : Nat → Int) : Nat → Int
  | 0 => -1
  | n + 1 => if w.testBit n = true ∧ (snB w D n = -1 ∨ D n < D (snB w D n).toNat) then (n : Int) else snB w D n
theorem snB_rng (w : Nat) (D : Nat → Int) : ∀ n : Nat, -1 ≤ snB w D n ∧ snB w D n < n
  | 0 => by simp [snB]
  | n + 1 => by
    have := snB_rng w D n
    rw [snB]
    split <;> omega
theorem snB_no (w : Nat) (D : Nat → Int) : ∀ n : Nat, snB w D n = -1 → ∀ j, j < n → w.testBit j = false
  | 0, _, j, hj => by omega
  | n + 1, h, j, hj => by
    rw [snB] at h
    split at h
    · omega
    · next e =>
      by_cases ej : j = n
      · subst ej
        cases hb : w.testBit j with
        | false => rfl
        | true => exact absurd ⟨hb, Or.inl h⟩ e
      · exact snB_no w D n h j (by omega)
theorem snB_yes (w : Nat) (D : Nat → Int) : ∀ n : Nat, snB w D n ≠ -1 → w.testBit (snB w D n).toNat = true ∧ ∀ j, j < n → w.testBit j = true → D (snB w D n).toNat ≤ D j
  | 0, h => by simp [snB] at h
  | n + 1, h => by
    rw [snB] at h ⊢
    split
    · next e =>
      rw [Int.toNat_natCast]
      refine ⟨e.1, fun j hj hb => ?_⟩
      by_cases ej : j = n
      · subst ej; exact Int.le_refl _
      · rcases e.2 with e2 | e2
        · have := snB_no w D n e2 j (by omega)
          rw [this] at hb; cases hb
        · have hq : snB w D n ≠ -1 := by
            intro q
            have := snB_no w D n q j (by omega)
            rw [this] at hb; cases hb
          have := (snB_yes w D n hq).2 j (by omega) hb
          omega
    · next e =>
      rw [if_neg e] at h
      obtain ⟨a, b⟩ := snB_yes w D n h
      refine ⟨a, fun j hj hb => ?_⟩
      by_cases ej : j = n
      · subst ej
        have : ¬ (snB w D j = -1 ∨ D j < D (snB w D j).toNat) := fun q => e ⟨hb, q⟩
        omega
      · exact b j (by omega) hb
def losV (M : Mem) (D : Nat → Int) (mi : Int) (n : Nat) : Int := sumN (fun s => if D s ≠ -1 ∧ D s ≤ mi then M 5 s 2 else 0) n
def worV (M : Mem) (set n : Nat) : Int := sumN (fun s => if set.testBit s = true then M 5 s 2 else 0) n
noncomputable def costV (M : Mem) (fr : Nat) (mi : Int) (set : Nat) : Int := losV M (fireD M fr set) mi (M 0 0 2).toNat + worV M set (M 0 0 2).toNat / 2
/-- scratch of the fire -/
def scr (M : Mem) (g : Nat → Int) (c k : Int) : Mem := up (up (upR M 11 0 g) 0 0 3 c) 0 0 4 k
theorem scr_ne {M : Mem} {g : Nat → Int} {c k : Int} {a b e : Nat} (h : a ≠ 11) (h2 : a ≠ 0 ∨ e = 2) : scr M g c k a b e = M a b e := by
  unfold scr
  rw [up_ne (by omega), up_ne (by omega), upR_ne (by omega)]
theorem bit_div (n m : Nat) : n / 2 ^ m % 2 = 1 ↔ n.testBit m = true := by rw [Nat.testBit_eq_decide_div_mod_eq]; simp
theorem andn_bit (a b j : Nat) : (a ^^^ (a &&& b)).testBit j = (a.testBit j && !b.testBit j) := by
  rw [Nat.testBit_xor, Nat.testBit_and]
  cases a.testBit j <;> cases b.testBit j <;> rfl

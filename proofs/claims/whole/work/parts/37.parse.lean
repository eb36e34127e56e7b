/-! ===== what a tape says ===== -/
def ahd (T : Nat → Int) (n p : Int) : Int := if p < n then T p.toNat else -1
def Tp (M : Mem) : Prop := 0 ≤ M 6 0 1 ∧ M 6 0 1 ≤ 80 ∧ 0 ≤ M 6 0 2 ∧ M 6 0 2 ≤ M 6 0 1 ∧ ∀ k : Nat, (k : Int) < M 6 0 1 → 0 ≤ M 29 0 k ∧ M 29 0 k ≤ 255
theorem ahd_rng {T : Nat → Int} {n p : Int} (hT : ∀ k : Nat, (k : Int) < n → 0 ≤ T k ∧ T k ≤ 255) (h0 : 0 ≤ p) : -1 ≤ ahd T n p ∧ ahd T n p ≤ 255 ∧ (ahd T n p ≠ -1 → p < n) := by
  unfold ahd
  by_cases h : p < n
  · rw [if_pos h]
    have := hT p.toNat (by omega)
    omega
  · rw [if_neg h]
    omega
/-- a word, sign by sign: whether it is there, and the place behind what was there -/
def eatF (T : Nat → Int) (n : Int) (g : Nat → Int) : Nat → Nat → Int → Int × Int
  | 0, _, p => (1, p)
  | m + 1, j, p => if ahd T n p = g j then eatF T n g m (j + 1) (p + 1) else (0, p)
abbrev isDg (c : Int) : Prop := 48 ≤ c ∧ c ≤ 57
def numF (T : Nat → Int) (n : Int) : Nat → Int → Int → Int × Int
  | 0, p, v => (p, v)
  | m + 1, p, v => if isDg (ahd T n p) then numF T n m (p + 1) (10 * v + ahd T n p - 48) else (p, v)
def fldF (c e : Int) : Int := if c = 97 then 2 else if c = 112 then 3 else if c = 115 then (if e = 116 then 0 else 1) else 4
def eatW (T : Nat → Int) (n : Int) (i : Nat) (p : Int) : Int × Int := eatF T n (sC i) (sN i) 0 p
/-- one test: the place, and what it says (denied, field, sign, bound) -/
def tstP (T : Nat → Int) (n p : Int) : Int × Option (Int × Int × Int × Int) :=
  let b : Int := if ahd T n p = 110 then 1 else 0
  let e1 := if ahd T n p = 110 then eatW T n 4 p else (1, p)
  if e1.1 = 0 then (e1.2, none) else
  let f := fldF (ahd T n e1.2) (ahd T n (e1.2 + 1))
  let e2 := eatW T n (5 + f.toNat) e1.2
  if e2.1 = 0 then (e2.2, none) else
  let s := ahd T n e2.2
  if s ≠ 60 ∧ s ≠ 61 ∧ s ≠ 62 then (e2.2, none) else
  let e3 := numF T n 4 (e2.2 + 1) 0
  if e3.1 = e2.2 + 1 then (e3.1, none) else (e3.1, some (b, f, s, e3.2))
def tssP (T : Nat → Int) (n : Int) : Nat → Nat → Int → Int × Option (List (Int × Int × Int × Int))
  | 0, _, p => (p, if p = n then some [] else none)
  | m + 1, i, p =>
    if n ≤ p then (p, some []) else
    let e1 := eatW T n (if i = 0 then 2 else 3) p
    if e1.1 = 0 then (e1.2, none) else
    match tstP T n e1.2 with
    | (q, none) => (q, none)
    | (q, some t) => match tssP T n m (i + 1) q with
      | (q2, none) => (q2, none)
      | (q2, some l) => (q2, some (t :: l))
def rulP (T : Nat → Int) (n : Int) : Int × Option (Int × Int × List (Int × Int × Int × Int)) :=
  let e1 := eatW T n (if ahd T n 0 = 98 then 0 else 1) 0
  if e1.1 = 0 then (e1.2, none) else
  let e2 := numF T n 4 e1.2 0
  if e2.1 = e1.2 then (e2.1, none) else
  match tssP T n 3 0 e2.1 with
  | (q, none) => (q, none)
  | (q, some l) => (q, some (if ahd T n 0 = 98 then 1 else 0, e2.2, l))
section PARSE
variable {T : Nat → Int} {n : Int}
theorem eatF_rng (hT : ∀ k : Nat, (k : Int) < n → 0 ≤ T k ∧ T k ≤ 255) {g : Nat → Int} : ∀ (m j : Nat) (p : Int), 0 ≤ p → p ≤ n → (∀ j, j < 6 → 0 ≤ g j) → j + m ≤ 6 → (((eatF T n g m j p).1 = 0 ∨ (eatF T n g m j p).1 = 1) ∧ p ≤ (eatF T n g m j p).2 ∧ (eatF T n g m j p).2 ≤ n)
  | 0, j, p, h0, hn, hg, hj => ⟨Or.inr rfl, Int.le_refl _, hn⟩
  | m + 1, j, p, h0, hn, hg, hj => by
    obtain ⟨a1, a2, a3⟩ := ahd_rng hT h0
    have gj := hg j (by omega)
    rw [eatF]
    by_cases h : ahd T n p = g j
    · rw [if_pos h]
      obtain ⟨b1, b2, b3⟩ := eatF_rng hT m (j + 1) (p + 1) (by omega) (by have := a3 (by omega); omega) hg (by omega)
      exact ⟨b1, by omega, b3⟩
    · rw [if_neg h]
      exact ⟨Or.inl rfl, Int.le_refl _, hn⟩
theorem eatW_rng {i : Nat} {p : Int} (hT : ∀ k : Nat, (k : Int) < n → 0 ≤ T k ∧ T k ≤ 255) (hi : i < 10) (h0 : 0 ≤ p) (hn : p ≤ n) : ((eatW T n i p).1 = 0 ∨ (eatW T n i p).1 = 1) ∧ p ≤ (eatW T n i p).2 ∧ (eatW T n i p).2 ≤ n :=
  eatF_rng hT (sN i) 0 p h0 hn (fun j hj => (sC_rng i hi j hj).1) (by have := sN_rng i hi; omega)
theorem numF_rng (hT : ∀ k : Nat, (k : Int) < n → 0 ≤ T k ∧ T k ≤ 255) : ∀ (m : Nat) (p v : Int), 0 ≤ p → p ≤ n → 0 ≤ v → p ≤ (numF T n m p v).1 ∧ (numF T n m p v).1 ≤ n ∧ 0 ≤ (numF T n m p v).2 ∧ (numF T n m p v).2 + 1 ≤ (v + 1) * 10 ^ m
  | 0, p, v, h0, hn, hv => ⟨Int.le_refl _, hn, hv, by simp only [numF]; omega⟩
  | m + 1, p, v, h0, hn, hv => by
    obtain ⟨a1, a2, a3⟩ := ahd_rng hT h0
    rw [numF]
    by_cases h : isDg (ahd T n p)
    · rw [if_pos h]
      obtain ⟨d1, d2⟩ := h
      obtain ⟨b1, b2, b3, b4⟩ := numF_rng hT m (p + 1) (10 * v + ahd T n p - 48) (by omega) (by have := a3 (by omega); omega) (by omega)
      refine ⟨by omega, b2, b3, Int.le_trans b4 ?_⟩
      have hm : (0 : Int) ≤ 10 ^ m := Int.le_of_lt (Int.pow_pos (by decide))
      rw [Int.pow_succ', ← Int.mul_assoc]
      exact Int.mul_le_mul_of_nonneg_right (by omega) hm
    · rw [if_neg h]
      refine ⟨Int.le_refl _, hn, hv, ?_⟩
      have hm : (1 : Int) ≤ 10 ^ (m + 1) := Int.pow_pos (by decide)
      have := Int.mul_le_mul_of_nonneg_left hm (show 0 ≤ v + 1 by omega)
      omega
end PARSE
theorem fldF_rng (c e : Int) : 0 ≤ fldF c e ∧ fldF c e ≤ 4 := by unfold fldF; split <;> (try split) <;> (try split) <;> (try split) <;> omega

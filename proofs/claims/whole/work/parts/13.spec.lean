/-! ===== words for what the methods do ===== -/
def sumN (g : Nat → Int) : Nat → Int
  | 0 => 0
  | n + 1 => sumN g n + g n
/-- the places from i on, below n, each takes what stood behind it -/
def shf (g : Nat → Int) (i n : Nat) : Nat → Int := fun j => if i ≤ j ∧ j + 1 < n then g (j + 1) else g j
/-- a row of which all is given to o -/
def giv (M : Mem) (f s o : Nat) : Mem := up (upR M f s (fun p => if p < 10 then 0 else M f s p)) f s o 5040
/-- the first place below n with some part; -1 -/
def fstP (g : Nat → Int) : Nat → Int
  | 0 => -1
  | n + 1 => if fstP g n = -1 ∧ 0 < g n then (n : Int) else fstP g n
def shr (g : Nat → Int) (sum : Int) (p : Nat) : Int := if 0 < g p then sum * g p / 5040 else 0
theorem up_eq {M : Mem} {f i k : Nat} {z : Int} (h : M f i k = z) : up M f i k z = M := by
  funext a b c
  simp only [up]
  split
  · next e => obtain ⟨rfl, rfl, rfl⟩ := e; exact h.symm
  · rfl
theorem upR_self (M : Mem) (f i : Nat) : upR M f i (M f i) = M := by
  funext a b c
  simp only [upR]
  split
  · next e => obtain ⟨rfl, rfl⟩ := e; rfl
  · rfl
theorem upR_up (M : Mem) (f i k : Nat) (g : Nat → Int) (z : Int) : up (upR M f i g) f i k z = upR M f i (fun c => if c = k then z else g c) := by
  funext a b c
  simp only [up, upR]
  grind
theorem upR_cong {M : Mem} {f i : Nat} {g h : Nat → Int} (e : ∀ k, g k = h k) : upR M f i g = upR M f i h := by rw [show g = h from funext e]
theorem up_comm {M : Mem} {f i k f2 i2 k2 : Nat} {z z2 : Int} (h : ¬ (f = f2 ∧ i = i2 ∧ k = k2)) : up (up M f i k z) f2 i2 k2 z2 = up (up M f2 i2 k2 z2) f i k z := by
  funext a b c
  simp only [up]
  grind
theorem sumN_le {g : Nat → Int} {c : Int} : ∀ n : Nat, (∀ i, i < n → g i ≤ c) → sumN g n ≤ n * c
  | 0, _ => by simp [sumN]
  | n + 1, h => by
    have ih := sumN_le n (fun i hi => h i (by omega))
    have h1 := h n (by omega)
    simp only [sumN]
    have e : ((n + 1 : Nat) : Int) * c = n * c + c := by rw [Int.natCast_add, Int.add_mul]; simp
    omega
theorem sumN_ge {g : Nat → Int} {c : Int} : ∀ n : Nat, (∀ i, i < n → c ≤ g i) → n * c ≤ sumN g n
  | 0, _ => by simp [sumN]
  | n + 1, h => by
    have ih := sumN_ge n (fun i hi => h i (by omega))
    have h1 := h n (by omega)
    simp only [sumN]
    have e : ((n + 1 : Nat) : Int) * c = n * c + c := by rw [Int.natCast_add, Int.add_mul]; simp
    omega
theorem sumN_cong {g h : Nat → Int} : ∀ n : Nat, (∀ i, i < n → g i = h i) → sumN g n = sumN h n
  | 0, _ => rfl
  | n + 1, e => by simp only [sumN]; rw [sumN_cong n (fun i hi => e i (by omega)), e n (by omega)]
theorem fstP_rng (g : Nat → Int) : ∀ n : Nat, -1 ≤ fstP g n ∧ fstP g n < n ∧ (fstP g n = -1 → ∀ i, i < n → g i ≤ 0)
  | 0 => ⟨by simp [fstP], by simp [fstP], fun _ i hi => by omega⟩
  | n + 1 => by
    obtain ⟨a, b, c⟩ := fstP_rng g n
    simp only [fstP]
    split
    · next e => exact ⟨by omega, by omega, fun h => by omega⟩
    · next e =>
      refine ⟨a, by omega, fun h i hi => ?_⟩
      by_cases hin : i < n
      · exact c h i hin
      · have : i = n := by omega
        subst this
        omega
theorem shr_rng {g : Nat → Int} {sum : Int} {p : Nat} (h1 : 0 ≤ sum) (h2 : sum ≤ 99999) (h3 : 0 ≤ g p) (h4 : g p ≤ 5040) : 0 ≤ shr g sum p ∧ shr g sum p ≤ 99999 := by
  have h5 : 0 ≤ sum * g p := Int.mul_nonneg h1 h3
  have h6 : sum * g p ≤ 99999 * 5040 := Int.mul_le_mul h2 h4 h3 (by omega)
  unfold shr
  split <;> omega

/-! ===== bounds of what is lost ===== -/
theorem Inv_scr {m : Nat} {M : Mem} (h : Inv m M) (g : Nat → Int) (c k : Int) : Inv m (scr M g c k) := h
theorem sumN_bd {g : Nat → Int} {n : Nat} (hn : n ≤ 14) (h : ∀ i, i < n → 0 ≤ g i ∧ g i ≤ 9999) : 0 ≤ sumN g n ∧ sumN g n ≤ 139986 := by
  have h1 := sumN_le (g := g) (c := 9999) n (fun i hi => (h i hi).2)
  have h2 := sumN_ge (g := g) (c := 0) n (fun i hi => (h i hi).1)
  omega
section BD
variable {m : Nat} {M : Mem} (hI : Inv m M) {k : Nat} (hk : M 0 0 2 = (k : Int)) (k14 : k ≤ 14)
theorem losV_rng (hI : Inv m M) (hk : M 0 0 2 = (k : Int)) (k14 : k ≤ 14) (D : Nat → Int) (mi : Int) {i : Nat} (hi : i ≤ k) : 0 ≤ losV M D mi i ∧ losV M D mi i ≤ 139986 := by
  refine sumN_bd (by omega) (fun s hs => ?_)
  have := hI.shopS (s := s) (by omega)
  split <;> have := this.2.2.1 <;> omega
theorem worV_rng (hI : Inv m M) (hk : M 0 0 2 = (k : Int)) (k14 : k ≤ 14) (set : Nat) {i : Nat} (hi : i ≤ k) : 0 ≤ worV M set i ∧ worV M set i ≤ 139986 := by
  refine sumN_bd (by omega) (fun s hs => ?_)
  have := hI.shopS (s := s) (by omega)
  split <;> have := this.2.2.1 <;> omega
theorem costV_rng (hI : Inv m M) (hk : M 0 0 2 = (k : Int)) (k14 : k ≤ 14) (fr : Nat) (mi : Int) (set : Nat) : 0 ≤ costV M fr mi set ∧ costV M fr mi set < 1000000 := by
  unfold costV
  rw [hk, Int.toNat_natCast]
  have h1 := losV_rng hI hk k14 (fireD M fr set) mi (Nat.le_refl k)
  have h2 := worV_rng hI hk k14 set (Nat.le_refl k)
  omega
theorem wgh_rng (hI : Inv m M) (hk : M 0 0 2 = (k : Int)) (k14 : k ≤ 14) (fr : Nat) (mi : Int) (set : Nat) {acc : Int × Int} (h : 0 ≤ acc.2 ∧ acc.2 ≤ 2147483647) : 0 ≤ (wgh M fr mi acc set).2 ∧ (wgh M fr mi acc set).2 ≤ 2147483647 := by
  have := costV_rng hI hk k14 fr mi set
  unfold wgh
  split
  · exact h
  · split
    · show 0 ≤ costV M fr mi set ∧ costV M fr mi set ≤ 2147483647
      omega
    · exact h
theorem wF1_rng (hI : Inv m M) (hk : M 0 0 2 = (k : Int)) (k14 : k ≤ 14) (fr : Nat) (mi : Int) {acc : Int × Int} (h : 0 ≤ acc.2 ∧ acc.2 ≤ 2147483647) : ∀ i : Nat, 0 ≤ (wF1 M fr mi acc i).2 ∧ (wF1 M fr mi acc i).2 ≤ 2147483647
  | 0 => h
  | i + 1 => wgh_rng hI hk k14 fr mi _ (wF1_rng hI hk k14 fr mi h i)
theorem wF2_rng (hI : Inv m M) (hk : M 0 0 2 = (k : Int)) (k14 : k ≤ 14) (fr : Nat) (mi : Int) (hh : Nat) {acc : Int × Int} (h : 0 ≤ acc.2 ∧ acc.2 ≤ 2147483647) : ∀ i : Nat, 0 ≤ (wF2 M fr mi hh acc i).2 ∧ (wF2 M fr mi hh acc i).2 ≤ 2147483647
  | 0 => h
  | i + 1 => wgh_rng hI hk k14 fr mi _ (wF2_rng hI hk k14 fr mi hh h i)
theorem wF3_rng (hI : Inv m M) (hk : M 0 0 2 = (k : Int)) (k14 : k ≤ 14) (fr : Nat) (mi : Int) {acc : Int × Int} (h : 0 ≤ acc.2 ∧ acc.2 ≤ 2147483647) : ∀ i : Nat, 0 ≤ (wF3 M fr mi acc i).2 ∧ (wF3 M fr mi acc i).2 ≤ 2147483647
  | 0 => h
  | i + 1 => wF2_rng hI hk k14 fr mi i (wF3_rng hI hk k14 fr mi h i) i
theorem wgh_first (hI : Inv m M) (hk : M 0 0 2 = (k : Int)) (k14 : k ≤ 14) (fr : Nat) (mi : Int) (acc : Int × Int) (h : 1000000 ≤ acc.2) : wgh M fr mi acc 0 = (0, costV M fr mi 0) := by
  have := costV_rng hI hk k14 fr mi 0
  unfold wgh
  rw [if_neg (by simp), if_pos (by omega)]
  rfl
theorem stpV_first (hI : Inv m M) (hk : M 0 0 2 = (k : Int)) (k14 : k ≤ 14) (fr : Nat) (mi kk : Int) (acc acc2 : Int × Int) (h : 1000000 ≤ acc.2) (h2 : 1000000 ≤ acc2.2) : stpV M fr mi kk acc = stpV M fr mi kk acc2 := by
  unfold stpV
  rw [wgh_first hI hk k14 fr mi acc h, wgh_first hI hk k14 fr mi acc2 h2]
end BD
theorem Inv.haz {m : Nat} {M : Mem} (hI : Inv m M) : ∀ s : Nat, (s : Int) < M 0 0 2 → 1 ≤ M 5 s 3 := fun s hs => (hI.shopS hs).2.2.2.1
theorem or_pow_lt {a b : Nat} (ha : a < 14) (hb : b < 14) : 2 ^ a ||| 2 ^ b < 2 ^ 14 := Nat.or_lt_two_pow (Nat.pow_lt_pow_right (by decide) ha) (Nat.pow_lt_pow_right (by decide) hb)
theorem pow_lt14 {a : Nat} (ha : a < 14) : 2 ^ a < 16384 := Nat.pow_lt_pow_right (a := 2) (n := 14) (by decide) ha

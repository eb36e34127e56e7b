/-! ===== the reference: sold ===== -/
/-- the purses when the first t debts are paid -/
def pqS (P L D : Nat → Int) : Nat → Nat → Int
  | 0 => P
  | t + 1 => fun p => if (p : Int) = L t then pqS P L D t p + D t else pqS P L D t p
/-- the world when the first t debts of a shop are paid and gone -/
def gwS (A : Mem) (s k t : Nat) : Mem := up (upR (upR (upR A 18 0 (pqS (A 18 0) (A 27 s) (A 28 s) t)) 27 s (fun j => A 27 s (j + t))) 28 s (fun j => A 28 s (j + t))) 5 s 11 ((k : Int) - t)
/-- the same but for pawns beyond the count -/
def AE (a2 a : Mem) : Prop := ∀ x y z : Nat, ¬ ((x = 27 ∨ x = 28) ∧ a 5 y 11 ≤ z) → a2 x y z = a x y z
theorem MR_AE {a a2 N : Mem} (h : MR a N) (e : AE a2 a) : MR a2 N := by
  have ex : ∀ x, x ≠ 27 → x ≠ 28 → a2 x = a x := fun x h1 h2 => funext fun y => funext fun z => e x y z (by omega)
  refine ⟨?_, ?_, ?_, ?_, ?_, ?_, ?_, ?_, ?_, ?_, ?_, ?_, ?_⟩
  · have q := h.r0; unfold MR0 at q ⊢; rw [ex 8 (by decide) (by decide), ex 0 (by decide) (by decide), ex 4 (by decide) (by decide), ex 6 (by decide) (by decide), ex 1 (by decide) (by decide)]; exact q
  · have q := h.rr; unfold MRr at q ⊢; rw [ex 34 (by decide) (by decide)]; exact q
  · have q := h.rs; unfold MRs at q ⊢; rw [ex 0 (by decide) (by decide), ex 5 (by decide) (by decide)]; exact q
  · have q := h.rp; unfold MRp at q ⊢; rw [ex 25 (by decide) (by decide), ex 26 (by decide) (by decide)]; exact q
  · have q := h.rl; unfold MRl at q ⊢; rw [ex 5 (by decide) (by decide)]; exact q
  · have q := h.rq
    unfold MRq at q ⊢
    rw [ex 5 (by decide) (by decide)]
    intro s hs
    obtain ⟨q1, q2⟩ := q s hs
    refine ⟨q1, fun j hj => ?_⟩
    rw [e 27 s j (by omega), e 28 s j (by omega)]
    exact q2 j hj
  · have q := h.rh; unfold MRh at q ⊢; rw [ex 7 (by decide) (by decide), ex 30 (by decide) (by decide), ex 31 (by decide) (by decide)]; exact q
  · have q := h.rm; unfold MRm at q ⊢; rw [ex 18 (by decide) (by decide)]; exact q
  · have q := h.rt; unfold MRt at q ⊢; rw [ex 12 (by decide) (by decide)]; exact q
  · have q := h.ru; unfold MRu at q ⊢; rw [ex 4 (by decide) (by decide), ex 3 (by decide) (by decide), ex 19 (by decide) (by decide), ex 20 (by decide) (by decide), ex 21 (by decide) (by decide), ex 22 (by decide) (by decide)]; exact q
  · have q := h.rf; unfold MRf at q ⊢; rw [ex 6 (by decide) (by decide), ex 29 (by decide) (by decide)]; exact q
  · have q := h.rb; unfold MRb at q ⊢; rw [ex 1 (by decide) (by decide), ex 16 (by decide) (by decide), ex 17 (by decide) (by decide)]; exact q
  · have q := h.rw; unfold MRw at q ⊢; rw [ex 33 (by decide) (by decide)]; exact q
theorem MR_purse {a N : Mem} {p : Nat} {z : Int} (h : MR a N) : MR (up a 18 0 p z) (up N 55 0 p z) := by
  refine MR_18 h (fun x y z hx => up_ne (by omega)) (fun x y z hx => up_ne (by omega)) ?_
  intro q hq
  have := h.rm q hq
  simp only [up]
  grind
theorem gwS_0 (A : Mem) (s k : Nat) (hk : A 5 s 11 = (k : Int)) : gwS A s k 0 = A := by
  funext x y z
  simp only [gwS, pqS, up, upR]
  grind
theorem gwS_11 (A : Mem) (s k t : Nat) : gwS A s k t 5 s 11 = (k : Int) - t := by simp [gwS, up]
theorem gwS_27 (A : Mem) (s k t j : Nat) : gwS A s k t 27 s j = A 27 s (j + t) := by simp [gwS, up, upR]
theorem gwS_28 (A : Mem) (s k t j : Nat) : gwS A s k t 28 s j = A 28 s (j + t) := by simp [gwS, up, upR]
theorem gwS_ne {A : Mem} {s k t x y z : Nat} (h : x ≠ 18 ∧ x ≠ 27 ∧ x ≠ 28) (h2 : x ≠ 5 ∨ y ≠ s ∨ z ≠ 11) : gwS A s k t x y z = A x y z := by
  unfold gwS
  rw [up_ne (by omega), upR_ne (by omega), upR_ne (by omega), upR_ne (by omega)]
theorem gwS_step {A : Mem} {s k t ld : Nat} (ht : t < k) (hl : A 27 s t = (ld : Int)) : AE (gwS A s k (t + 1)) (drp (up (gwS A s k t) 18 0 ld (gwS A s k t 18 0 ld + A 28 s t)) s 0 (k - t)) := by
  intro x y z h
  have e5 : drp (up (gwS A s k t) 18 0 ld (gwS A s k t 18 0 ld + A 28 s t)) s 0 (k - t) 5 s 11 = ((k - t : Nat) : Int) - 1 := by simp [drp, up]
  by_cases h27 : x = 27 ∧ y = s
  · obtain ⟨rfl, rfl⟩ := h27
    rw [e5] at h
    rw [gwS_27, show drp (up (gwS A y k t) 18 0 ld (gwS A y k t 18 0 ld + A 28 y t)) y 0 (k - t) 27 y z = shf (gwS A y k t 27 y) 0 (k - t) z by simp [drp, drpS, up, upR]; rfl, shf, if_pos (by omega), gwS_27]
    congr 1; omega
  · by_cases h28 : x = 28 ∧ y = s
    · obtain ⟨rfl, rfl⟩ := h28
      rw [e5] at h
      rw [gwS_28, show drp (up (gwS A y k t) 18 0 ld (gwS A y k t 18 0 ld + A 28 y t)) y 0 (k - t) 28 y z = shf (gwS A y k t 28 y) 0 (k - t) z by simp [drp, drpS, up, upR]; rfl, shf, if_pos (by omega), gwS_28]
      congr 1; omega
    · by_cases h5 : x = 5 ∧ y = s ∧ z = 11
      · obtain ⟨rfl, rfl, rfl⟩ := h5
        rw [e5, gwS_11]; omega
      · have e1 : drp (up (gwS A s k t) 18 0 ld (gwS A s k t 18 0 ld + A 28 s t)) s 0 (k - t) x y z = up (gwS A s k t) 18 0 ld (gwS A s k t 18 0 ld + A 28 s t) x y z := by
          simp only [drp, drpS]
          rw [up_ne (by omega), upR_ne (by omega), upR_ne (by omega)]
        rw [e1]
        simp only [gwS, up, upR, pqS, hl]
        grind
theorem sumN_mono {g : Nat → Int} {i j : Nat} (hij : i ≤ j) (h : ∀ q, q < j → 0 ≤ g q) : sumN g i ≤ sumN g j := by
  induction j with
  | zero => obtain rfl : i = 0 := by omega
            exact Int.le_refl _
  | succ j ih =>
    by_cases e : i = j + 1
    · subst e; exact Int.le_refl _
    · have := ih (by omega) (fun q hq => h q (by omega))
      have := h j (by omega)
      simp only [sumN]; omega
/-- the class: while debts are paid in full -/
theorem pdS_pre {A : Mem} {s : Nat} {price : Int} {m : Nat} (hm : sumN (A 28 s) m ≤ price) (hL : ∀ j, j < m → 0 ≤ A 27 s j) (hD : ∀ j, j < m → 1 ≤ A 28 s j) : ∀ i, i ≤ m → pdS A s price i = (price - sumN (A 28 s) i, 0, upR (up A 5 s 11 0) 18 0 (pqS (A 18 0) (A 27 s) (A 28 s) i))
  | 0, _ => by
    simp only [pdS, sumN, pqS, Int.sub_zero]
    rw [show (A 18 0) = (up A 5 s 11 0) 18 0 from by funext c; rw [up_ne (by omega)], upR_self]
  | i + 1, hi => by
    have ih := pdS_pre hm hL hD i (by omega)
    have h1 := sumN_mono (g := A 28 s) (i := i + 1) (j := m) hi (fun q hq => by have := hD q hq; omega)
    have h2 : sumN (A 28 s) (i + 1) = sumN (A 28 s) i + A 28 s i := rfl
    have h3 := hL i (by omega)
    simp only [pdS, ih]
    rw [if_neg (by omega), h2]
    refine Prod.ext ?_ (Prod.ext rfl ?_)
    · show price - sumN (A 28 s) i - min (price - sumN (A 28 s) i) (A 28 s i) = _
      omega
    · show up _ 18 0 _ _ = _
      rw [show min (price - sumN (A 28 s) i) (A 28 s i) = A 28 s i by omega, upR_at, upR_up]
      refine upR_cong (fun c => ?_)
      simp only [pqS]
      by_cases e : c = (A 27 s i).toNat
      · rw [if_pos e, if_pos (by omega), e]
      · rw [if_neg e, if_neg (by omega)]
/-- one debt is paid in part, those behind it stay -/
def pqE (P L D : Nat → Int) (m : Nat) (left : Int) (p : Nat) : Int := if (p : Int) = L m then pqS P L D m p + left else pqS P L D m p
theorem pdS_post {A : Mem} {s : Nat} {price : Int} {m k : Nat} (h0 : 0 ≤ price) (hp : price ≤ 99999) (hmk : m < k) (hm : sumN (A 28 s) m ≤ price) (hm2 : price < sumN (A 28 s) (m + 1)) (hL : ∀ j, j < k → 0 ≤ A 27 s j) (hD : ∀ j, j < k → 1 ≤ A 28 s j) : ∀ j, m + 1 + j ≤ k → (pdS A s price (m + 1 + j)).1 = 0 ∧ (pdS A s price (m + 1 + j)).2.1 = j + 1 ∧ (∀ p, (pdS A s price (m + 1 + j)).2.2 18 0 p = pqE (A 18 0) (A 27 s) (A 28 s) m (price - sumN (A 28 s) m) p) ∧ (∀ q, q < j + 1 → (pdS A s price (m + 1 + j)).2.2 27 s q = A 27 s (m + q) ∧ (pdS A s price (m + 1 + j)).2.2 28 s q = A 28 s (m + q) - (if q = 0 then price - sumN (A 28 s) m else 0)) ∧ (∀ y z, y ≠ s → (pdS A s price (m + 1 + j)).2.2 27 y z = A 27 y z ∧ (pdS A s price (m + 1 + j)).2.2 28 y z = A 28 y z) ∧ (∀ y z, y ≠ 0 → (pdS A s price (m + 1 + j)).2.2 18 y z = A 18 y z)
  | 0, hj => by
    have pre := pdS_pre hm (fun j hj => hL j (by omega)) (fun j hj => hD j (by omega)) m (Nat.le_refl m)
    have h2 : sumN (A 28 s) (m + 1) = sumN (A 28 s) m + A 28 s m := rfl
    have hl := hL m hmk
    have hd := hD m hmk
    have emin : min (price - sumN (A 28 s) m) (A 28 s m) = price - sumN (A 28 s) m := by omega
    simp only [Nat.add_zero, pdS, pre, emin]
    rw [if_pos (by omega)]
    refine ⟨by show price - sumN (A 28 s) m - (price - sumN (A 28 s) m) = 0; omega, rfl, fun p => ?_, fun q hq => ?_, fun y z hy => ?_, fun y z hy => ?_⟩
    · simp only [addP, up, upR, pqE]
      by_cases e : p = (A 27 s m).toNat
      · subst e
        rw [if_pos (show (((A 27 s m).toNat : Nat) : Int) = A 27 s m by omega)]
        simp
      · rw [if_neg (show ¬ (p : Int) = A 27 s m by omega)]
        simp [e]
    · obtain rfl : q = 0 := by omega
      simp [addP, up, upR]
    · simp [addP, up, upR, hy]
    · simp [addP, up, upR, hy]
  | j + 1, hj => by
    obtain ⟨i1, i2, i3, i4, i5, i6⟩ := pdS_post h0 hp hmk hm hm2 hL hD j (by omega)
    have hd := hD (m + 1 + j) (by omega)
    have hl := hL (m + 1 + j) (by omega)
    rw [show m + 1 + (j + 1) = (m + 1 + j) + 1 by omega]
    simp only [pdS, i1, i2]
    rw [if_pos (by omega)]
    refine ⟨by show (0 : Int) - min 0 _ = 0; omega, rfl, fun p => ?_, fun q hq => ?_, fun y z hy => ?_, fun y z hy => ?_⟩
    · rw [← i3 p, show min (0 : Int) (A 28 s (m + 1 + j)) = 0 by omega]
      simp only [addP, up]
      grind
    · rw [show min (0 : Int) (A 28 s (m + 1 + j)) = 0 by omega]
      by_cases e : q = j + 1
      · subst e
        simp only [addP, up]
        rw [show m + (j + 1) = m + 1 + j by omega]
        simp
      · have := i4 q (by omega)
        simp only [addP, up]
        rw [if_neg (by omega), if_neg (by omega), if_neg (by omega), if_neg (by omega), if_neg (by omega), if_neg (by omega), if_neg (by omega)]
        rw [if_neg (by omega)]
        exact this
    · have := i5 y z hy
      simp only [addP, up]
      rw [if_neg (by omega), if_neg (by omega), if_neg (by omega), if_neg (by omega), if_neg (by omega), if_neg (by omega), if_neg (by omega), if_neg (by omega)]
      exact this
    · have := i6 y z hy
      simp only [addP, up]
      rw [if_neg (by omega), if_neg (by omega), if_neg (by omega), if_neg (by omega)]
      exact this
/-- the end: all debts are paid -/
theorem pdS_all {A : Mem} {s k : Nat} {price : Int} (hm : sumN (A 28 s) k ≤ price) (hL : ∀ j, j < k → 0 ≤ A 27 s j) (hD : ∀ j, j < k → 1 ≤ A 28 s j) : (pdS A s price k).1 = price - sumN (A 28 s) k ∧ AE (pdS A s price k).2.2 (gwS A s k k) := by
  have pre := pdS_pre hm hL hD k (Nat.le_refl k)
  rw [pre]
  refine ⟨rfl, fun x y z h => ?_⟩
  show upR (up A 5 s 11 0) 18 0 _ x y z = _
  by_cases e : (x = 27 ∨ x = 28) ∧ y = s
  · obtain ⟨e1, rfl⟩ := e
    rw [gwS_11] at h
    omega
  · simp only [gwS, up, upR]
    grind
/-- the end: debt m is paid in part -/
theorem pdS_some {A : Mem} {s k m ld : Nat} {price : Int} (h0 : 0 ≤ price) (hp : price ≤ 99999) (hmk : m < k) (hk : A 5 s 11 = (k : Int)) (hm : sumN (A 28 s) m ≤ price) (hm2 : price < sumN (A 28 s) (m + 1)) (hL : ∀ j, j < k → 0 ≤ A 27 s j) (hD : ∀ j, j < k → 1 ≤ A 28 s j) (hl : A 27 s m = (ld : Int)) : (pdS A s price k).1 = 0 ∧ AE (pdS A s price k).2.2 (up (up (gwS A s k m) 18 0 ld (gwS A s k m 18 0 ld + (price - sumN (A 28 s) m))) 28 s 0 (A 28 s m - (price - sumN (A 28 s) m))) := by
  obtain ⟨j, rfl⟩ : ∃ j, k = m + 1 + j := ⟨k - (m + 1), by omega⟩
  obtain ⟨i1, i2, i3, i4, i5, i6⟩ := pdS_post h0 hp hmk hm hm2 hL hD j (Nat.le_refl _)
  obtain ⟨f1, f2, f3, f4, f5⟩ := pdS_facts A s price h0 hp (m + 1 + j) hD
  refine ⟨i1, fun x y z h => ?_⟩
  have e5 : up (up (gwS A s (m + 1 + j) m) 18 0 ld (gwS A s (m + 1 + j) m 18 0 ld + (price - sumN (A 28 s) m))) 28 s 0 (A 28 s m - (price - sumN (A 28 s) m)) 5 s 11 = ((m + 1 + j : Nat) : Int) - m := by
    rw [up_ne (by omega), up_ne (by omega), gwS_11]
  by_cases c1 : x = 18
  · subst c1
    by_cases cy : y = 0
    · subst cy
      rw [i3 z, up_ne (by omega), pqE, hl]
      by_cases ez : z = ld
      · subst ez
        rw [if_pos rfl, up_same]
        simp [gwS, up, upR]
      · rw [if_neg (by omega), up_ne (by omega)]
        simp [gwS, up, upR]
    · rw [i6 y z cy, up_ne (by omega), up_ne (by omega)]
      simp [gwS, up, upR, cy]
  · by_cases c2 : (x = 27 ∨ x = 28) ∧ y = s
    · obtain ⟨c2, rfl⟩ := c2
      rw [e5] at h
      obtain ⟨q1, q2⟩ := i4 z (by omega)
      rcases c2 with rfl | rfl
      · rw [q1, up_ne (by omega), up_ne (by omega), gwS_27, Nat.add_comm]
      · rw [q2]
        by_cases ez : z = 0
        · subst ez; rw [up_same, if_pos rfl]; simp
        · rw [if_neg ez, up_ne (by omega), up_ne (by omega), gwS_28, Nat.add_comm]; omega
    · by_cases c3 : x = 27 ∨ x = 28
      · have := i5 y z (by omega)
        rw [up_ne (by omega), up_ne (by omega)]
        rcases c3 with rfl | rfl
        · rw [this.1]; simp [gwS, up, upR, show y ≠ s by omega]
        · rw [this.2]; simp [gwS, up, upR, show y ≠ s by omega]
      · by_cases c4 : x = 5 ∧ y = s ∧ z = 11
        · obtain ⟨rfl, rfl, rfl⟩ := c4
          rw [f3, e5, i2]; omega
        · rw [f5 x y z (by omega) (by omega) c1 (by omega), up_ne (by omega), up_ne (by omega), gwS_ne (by omega) (by omega)]

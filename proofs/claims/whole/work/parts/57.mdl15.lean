/-! ===== the reference: death, the pure part ===== -/
def dthG (A : Mem) (p k t1 t2 : Nat) : Mem := fun x y z =>
  if x = 25 ∧ 2 * y < t1 ∨ x = 26 ∧ 2 * y + 1 < t1 then pasR (A x y) (A 30 p) (A 31 p) k p z
  else if x = 27 ∧ y < t2 ∧ (z : Int) < A 5 y 11 ∧ A 27 y z = p then A 30 p 0
  else if x = 5 ∧ y < t2 ∧ (z = 6 ∨ z = 7 ∨ z = 8) ∧ A 5 y 6 = p then -1
  else A x y z
section DG
variable {A : Mem} {p k t1 t2 : Nat}
theorem dthG_o {x : Nat} (h : x ≠ 25 ∧ x ≠ 26 ∧ x ≠ 27 ∧ x ≠ 5) : dthG A p k t1 t2 x = A x := by
  funext y z
  unfold dthG
  rw [if_neg (by omega), if_neg (by omega), if_neg (by omega)]
theorem dthG_5 {y z : Nat} (h : z ≠ 6 ∧ z ≠ 7 ∧ z ≠ 8) : dthG A p k t1 t2 5 y z = A 5 y z := by
  unfold dthG
  rw [if_neg (by omega), if_neg (by omega), if_neg (by omega)]
theorem dthG_5n {y z : Nat} (h : t2 ≤ y ∨ A 5 y 6 ≠ p) : dthG A p k t1 t2 5 y z = A 5 y z := by
  unfold dthG
  rw [if_neg (by omega), if_neg (by omega), if_neg (by omega)]
theorem dthG_5y {y z : Nat} (h : y < t2) (h2 : A 5 y 6 = p) (hz : z = 6 ∨ z = 7 ∨ z = 8) : dthG A p k t1 t2 5 y z = -1 := by
  unfold dthG
  rw [if_neg (by omega), if_neg (by omega), if_pos ⟨rfl, h, hz, h2⟩]
theorem dthG_25n {y : Nat} (h : t1 ≤ 2 * y) : dthG A p k t1 t2 25 y = A 25 y := by
  funext z
  unfold dthG
  rw [if_neg (by omega), if_neg (by omega), if_neg (by omega)]
theorem dthG_26n {y : Nat} (h : t1 ≤ 2 * y + 1) : dthG A p k t1 t2 26 y = A 26 y := by
  funext z
  unfold dthG
  rw [if_neg (by omega), if_neg (by omega), if_neg (by omega)]
theorem dthG_25y {y z : Nat} (h : 2 * y < t1) : dthG A p k t1 t2 25 y z = pasR (A 25 y) (A 30 p) (A 31 p) k p z := by
  unfold dthG
  rw [if_pos (Or.inl ⟨rfl, h⟩)]
theorem dthG_26y {y z : Nat} (h : 2 * y + 1 < t1) : dthG A p k t1 t2 26 y z = pasR (A 26 y) (A 30 p) (A 31 p) k p z := by
  unfold dthG
  rw [if_pos (Or.inr ⟨rfl, h⟩)]
theorem dthG_27n {y z : Nat} (h : t2 ≤ y ∨ A 5 y 11 ≤ z ∨ A 27 y z ≠ p) : dthG A p k t1 t2 27 y z = A 27 y z := by
  unfold dthG
  rw [if_neg (by omega), if_neg (by omega), if_neg (by omega)]
theorem dthG_27y {y z : Nat} (h : y < t2) (h2 : (z : Int) < A 5 y 11) (h3 : A 27 y z = p) : dthG A p k t1 t2 27 y z = A 30 p 0 := by
  unfold dthG
  rw [if_neg (by omega), if_pos ⟨rfl, h, h2, h3⟩]
end DG
theorem dthG_0 (A : Mem) (p k : Nat) : dthG A p k 0 0 = A := by
  funext x y z
  unfold dthG
  rw [if_neg (by omega), if_neg (by omega), if_neg (by omega)]
theorem dth_dthG {A : Mem} {p k : Nat} (hk : A 7 p 2 = (k : Int)) (h11 : ∀ s, s < 14 → 0 ≤ A 5 s 11) : ∀ c, c ≤ 14 → dth A p c = dthG A p k (2 * c) c
  | 0, _ => (dthG_0 A p k).symm
  | c + 1, hc => by
    rw [dth, dth_dthG hk h11 c (by omega)]
    have h0 := h11 c (by omega)
    have n7 : dthG A p k (2 * c) c 7 p 2 = (k : Int) := by rw [dthG_o (by omega)]; exact hk
    have n30 : dthG A p k (2 * c) c 30 p = A 30 p := by rw [dthG_o (by omega)]
    have n31 : dthG A p k (2 * c) c 31 p = A 31 p := by rw [dthG_o (by omega)]
    have n25 : dthG A p k (2 * c) c 25 c = A 25 c := dthG_25n (by omega)
    have n26 : dthG A p k (2 * c) c 26 c = A 26 c := dthG_26n (by omega)
    have n11 : dthG A p k (2 * c) c 5 c 11 = A 5 c 11 := dthG_5 (by omega)
    have n6 : dthG A p k (2 * c) c 5 c 6 = A 5 c 6 := dthG_5n (by omega)
    unfold dthS
    simp only [n7, n30, n31, n25, n26, n11, n6, Int.toNat_natCast]
    have key : ∀ x y z, psd (upR (upR (dthG A p k (2 * c) c) 25 c (pasR (A 25 c) (A 30 p) (A 31 p) k p)) 26 c (pasR (A 26 c) (A 30 p) (A 31 p) k p)) c (A 5 c 11).toNat p (A 30 p 0) x y z = if x = 5 ∧ y = c then A 5 c z else dthG A p k (2 * (c + 1)) (c + 1) x y z := by
      intro x y z
      unfold psd
      by_cases e25 : x = 25 ∧ y = c
      · obtain ⟨rfl, rfl⟩ := e25
        rw [upR_ne (by omega), upR_ne (by omega), upR_at, if_neg (by omega), dthG_25y (by omega)]
      · by_cases e26 : x = 26 ∧ y = c
        · obtain ⟨rfl, rfl⟩ := e26
          rw [upR_ne (by omega), upR_at, if_neg (by omega), dthG_26y (by omega)]
        · by_cases e27 : x = 27 ∧ y = c
          · obtain ⟨rfl, rfl⟩ := e27
            refine Eq.trans ?_ (if_neg (by omega)).symm
            rw [upR_at, upR_ne (by omega), upR_ne (by omega), dthG_27n (Or.inl (Nat.le_refl _))]
            by_cases e : z < (A 5 y 11).toNat ∧ A 27 y z = p
            · rw [if_pos e, dthG_27y (by omega) (by omega) e.2]
            · rw [if_neg e, dthG_27n (by omega)]
          · rw [upR_ne e27, upR_ne e26, upR_ne e25]
            by_cases e5 : x = 5 ∧ y = c
            · obtain ⟨rfl, rfl⟩ := e5
              rw [if_pos ⟨rfl, rfl⟩, dthG_5n (by omega)]
            · rw [if_neg e5]
              unfold dthG
              have g1 : (x = 25 ∧ 2 * y < 2 * c ∨ x = 26 ∧ 2 * y + 1 < 2 * c) ↔ (x = 25 ∧ 2 * y < 2 * (c + 1) ∨ x = 26 ∧ 2 * y + 1 < 2 * (c + 1)) := by omega
              have g2 : (x = 27 ∧ y < c ∧ (z : Int) < A 5 y 11 ∧ A 27 y z = p) ↔ (x = 27 ∧ y < c + 1 ∧ (z : Int) < A 5 y 11 ∧ A 27 y z = p) := by omega
              have g3 : (x = 5 ∧ y < c ∧ (z = 6 ∨ z = 7 ∨ z = 8) ∧ A 5 y 6 = p) ↔ (x = 5 ∧ y < c + 1 ∧ (z = 6 ∨ z = 7 ∨ z = 8) ∧ A 5 y 6 = p) := by omega
              simp only [g1, g2, g3]
    funext x y z
    split
    · next e =>
      unfold lett
      by_cases e6 : x = 5 ∧ y = c ∧ (z = 6 ∨ z = 7 ∨ z = 8)
      · obtain ⟨rfl, rfl, e6⟩ := e6
        rw [dthG_5y (by omega) e e6]
        simp only [up]
        rcases e6 with rfl | rfl | rfl <;> simp
      · rw [up_ne (by omega), up_ne (by omega), up_ne (by omega), key]
        split
        · next e5 =>
          obtain ⟨rfl, rfl⟩ := e5
          rw [dthG_5 (by omega)]
        · rfl
    · next e =>
      rw [key]
      split
      · next e5 =>
        obtain ⟨rfl, rfl⟩ := e5
        rw [dthG_5n (Or.inr e)]
      · rfl
theorem dst_zero {g hs ws : Nat → Int} {est all : Int} {dead : Nat} : ∀ n, (∀ j, j < n → hs j ≠ dead) → ∀ c, dst (fun c => if c = dead then 0 else g c) hs ws est all n c = if c = dead then 0 else dst g hs ws est all n c
  | 0, _, c => rfl
  | n + 1, h, c => by
    have ih := dst_zero (g := g) (ws := ws) (est := est) (all := all) n (fun j hj => h j (by omega)) c
    have hn := h n (by omega)
    simp only [dst]
    rw [ih]
    by_cases e : c = dead
    · subst e
      rw [if_pos rfl, if_pos rfl, if_neg (by omega)]
    · rw [if_neg e, if_neg e]
def drS (M : Mem) (at0 : Nat) (g hs ws : Nat → Int) (est all : Int) (i : Nat) : Mem := upR M 45 0 (fun q => if at0 ≤ q ∧ q < at0 + 10 then dst g hs ws est all i (q - at0) else M 45 0 q)
theorem drS_at {M : Mem} {at0 : Nat} {g hs ws : Nat → Int} {est all : Int} {i z : Nat} (hz : z < 10) : drS M at0 g hs ws est all i 45 0 (at0 + z) = dst g hs ws est all i z := by
  rw [drS, upR_at, if_pos (by omega)]
  congr 1; omega
theorem drS_o {M : Mem} {at0 : Nat} {g hs ws : Nat → Int} {est all : Int} {i x y z : Nat} (h : x ≠ 45) : drS M at0 g hs ws est all i x y z = M x y z := by
  unfold drS; rw [upR_ne (by omega)]
theorem drS_0 {M : Mem} {at0 p : Nat} {g hs ws : Nat → Int} {est all : Int} (hp : p < 10) (hg : ∀ z, z < 10 → M 45 0 (at0 + z) = g z) : up M 45 0 (at0 + p) 0 = drS M at0 (fun c => if c = p then 0 else g c) hs ws est all 0 := by
  funext x y z
  by_cases e : x = 45 ∧ y = 0
  · obtain ⟨rfl, rfl⟩ := e
    rw [drS, upR_at]
    by_cases h : at0 ≤ z ∧ z < at0 + 10
    · have := hg (z - at0) (by omega)
      rw [show at0 + (z - at0) = z by omega] at this
      rw [if_pos h, dst, ← this]
      by_cases h2 : z = at0 + p
      · subst h2; rw [up_same, if_pos (by omega)]
      · rw [up_ne (by omega), if_neg (by omega)]
    · rw [if_neg h, up_ne (by omega)]
  · rw [up_ne (by omega), drS, upR_ne e]
theorem drS_s {M : Mem} {at0 hq i : Nat} {g hs ws : Nat → Int} {est all : Int} (h10 : hq < 10) (hh : hs i = (hq : Int)) : up (drS M at0 g hs ws est all i) 45 0 (at0 + hq) (drS M at0 g hs ws est all i 45 0 (at0 + hq) + est * ws i / all) = drS M at0 g hs ws est all (i + 1) := by
  rw [drS_at h10]
  funext x y z
  by_cases e : x = 45 ∧ y = 0
  · obtain ⟨rfl, rfl⟩ := e
    by_cases h : at0 ≤ z ∧ z < at0 + 10
    · obtain ⟨w, rfl⟩ : ∃ w, z = at0 + w := ⟨z - at0, by omega⟩
      rw [drS_at (i := i + 1) (by omega)]
      show _ = if (w : Int) = hs i then dst g hs ws est all i w + est * ws i / all else dst g hs ws est all i w
      rw [hh]
      by_cases h2 : w = hq
      · subst h2
        rw [up_same, if_pos rfl]
      · rw [up_ne (by omega), drS_at (by omega), if_neg (by omega)]
    · rw [up_ne (by omega), drS, upR_at, if_neg h, drS, upR_at, if_neg h]
  · rw [up_ne (by omega), drS, upR_ne e, drS, upR_ne e]
/-- what a row is behind it -/
theorem drS_end {M : Mem} {at0 p k h0 : Nat} {g hs ws : Nat → Int} (hp : p < 10) (h10 : h0 < 10) (hh : hs 0 = (h0 : Int)) (hne : ∀ j, j < k → hs j ≠ p) (k1 : 1 ≤ k) {left : Int} (hl : left = g p - sumN (fun h => g p * ws h / sumN ws k) k) {z : Nat} (hz : z < 10) : up (drS M at0 (fun c => if c = p then 0 else g c) hs ws (g p) (sumN ws k) k) 45 0 (at0 + h0) (drS M at0 (fun c => if c = p then 0 else g c) hs ws (g p) (sumN ws k) k 45 0 (at0 + h0) + left) 45 0 (at0 + z) = pasR g hs ws k p z := by
  have hne0 := hne 0 (by omega)
  rw [drS_at h10]
  unfold pasR
  rw [hh, ← hl]
  by_cases e : z = h0
  · subst e
    rw [up_same, dst_zero k hne, if_neg (by omega), if_neg (by omega), if_pos rfl]
  · rw [up_ne (by omega), drS_at hz, dst_zero k hne]
    by_cases e2 : z = p
    · rw [if_pos e2, if_pos e2]
    · rw [if_neg e2, if_neg e2, if_neg (by omega)]
theorem MR_drow {A N N2 : Mem} {p k t : Nat} (h : MR (dthG A p k t 0) N) (ht : t < 28) (hN : ∀ x y z, ¬ (x = 45 ∧ y = 0 ∧ 10 * t ≤ z ∧ z < 10 * t + 10) → N2 x y z = N x y z) (hz : ∀ z, z < 10 → N2 45 0 (10 * t + z) = pasR (A (25 + t % 2) (t / 2)) (A 30 p) (A 31 p) k p z) : MR (dthG A p k (t + 1) 0) N2 := by
  have ex : ∀ x, x ≠ 25 ∧ x ≠ 26 → dthG A p k (t + 1) 0 x = dthG A p k t 0 x := by
    intro x hx
    funext y z
    unfold dthG
    have g1 : (x = 25 ∧ 2 * y < t + 1 ∨ x = 26 ∧ 2 * y + 1 < t + 1) ↔ (x = 25 ∧ 2 * y < t ∨ x = 26 ∧ 2 * y + 1 < t) := by omega
    simp only [g1]
  have eN : ∀ x, x ≠ 45 → N2 x = N x := fun x hx => funext fun y => funext fun z => hN x y z (by omega)
  refine ⟨?_, ?_, ?_, ?_, ?_, ?_, ?_, ?_, ?_, ?_, ?_, ?_, ?_⟩
  · have q := h.r0; unfold MR0 at q ⊢; rw [ex 8 (by decide), ex 0 (by decide), ex 4 (by decide), ex 6 (by decide), ex 1 (by decide), eN 9 (by decide)]; exact q
  · have q := h.rr; unfold MRr at q ⊢; rw [ex 34 (by decide), eN 40 (by decide)]; exact q
  · have q := h.rs; unfold MRs at q ⊢; rw [ex 0 (by decide), ex 5 (by decide), eN 41 (by decide), eN 42 (by decide), eN 43 (by decide), eN 44 (by decide)]; exact q
  · intro s hs q hq
    obtain ⟨g1, g2⟩ := h.rp s hs q hq
    constructor
    · by_cases e : 2 * s = t
      · subst e
        rw [show 20 * s + q = 10 * (2 * s) + q by omega, hz q hq, dthG_25y (by omega), show 2 * s % 2 = 0 by omega, show 2 * s / 2 = s by omega]
      · rw [hN _ _ _ (by omega), g1]
        by_cases e2 : 2 * s < t
        · rw [dthG_25y e2, dthG_25y (by omega)]
        · rw [dthG_25n (by omega), dthG_25n (by omega)]
    · by_cases e : 2 * s + 1 = t
      · subst e
        rw [show 20 * s + 10 + q = 10 * (2 * s + 1) + q by omega, hz q hq, dthG_26y (by omega), show (2 * s + 1) % 2 = 1 by omega, show (2 * s + 1) / 2 = s by omega]
      · rw [hN _ _ _ (by omega), g2]
        by_cases e2 : 2 * s + 1 < t
        · rw [dthG_26y e2, dthG_26y (by omega)]
        · rw [dthG_26n (by omega), dthG_26n (by omega)]
  · have q := h.rl; unfold MRl at q ⊢; rw [ex 5 (by decide), eN 46 (by decide), eN 47 (by decide), eN 48 (by decide)]; exact q
  · have q := h.rq; unfold MRq at q ⊢; rw [ex 5 (by decide), ex 27 (by decide), ex 28 (by decide), eN 49 (by decide), eN 50 (by decide), eN 51 (by decide)]; exact q
  · have q := h.rh; unfold MRh at q ⊢; rw [ex 7 (by decide), ex 30 (by decide), ex 31 (by decide), eN 52 (by decide), eN 53 (by decide), eN 54 (by decide)]; exact q
  · have q := h.rm; unfold MRm at q ⊢; rw [ex 18 (by decide), eN 55 (by decide)]; exact q
  · have q := h.rt; unfold MRt at q ⊢; rw [ex 12 (by decide), eN 56 (by decide)]; exact q
  · have q := h.ru; unfold MRu at q ⊢; rw [ex 4 (by decide), ex 3 (by decide), ex 19 (by decide), ex 20 (by decide), ex 21 (by decide), ex 22 (by decide), eN 57 (by decide)]; exact q
  · have q := h.rf; unfold MRf at q ⊢; rw [ex 6 (by decide), ex 29 (by decide), eN 58 (by decide)]; exact q
  · have q := h.rb; unfold MRb at q ⊢; rw [ex 1 (by decide), ex 16 (by decide), ex 17 (by decide), eN 61 (by decide), eN 62 (by decide)]; exact q
  · have q := h.rw; unfold MRw at q ⊢; rw [ex 33 (by decide), eN 64 (by decide)]; exact q
def dpS (N : Mem) (s p : Nat) (h0 : Int) (i : Nat) : Mem := upR N 50 0 (fun q => if 8 * s ≤ q ∧ q < 8 * s + i ∧ N 50 0 q = p then h0 else N 50 0 q)
theorem MR_dlet {A N : Mem} {p k t s kp : Nat} {v : Int} (h : MR (dthG A p k t s) N) (hs : s < 14) (hkp : A 5 s 11 = (kp : Int)) (h8 : ∀ q, q < 14 → A 5 q 11 ≤ 8) (hv : v = if A 5 s 6 = p then -1 else A 5 s 6) : MR (dthG A p k t (s + 1)) (dpS (up N 46 0 s v) s p (A 30 p 0) kp) := by
  have ex : ∀ x, x ≠ 27 ∧ x ≠ 5 → dthG A p k t (s + 1) x = dthG A p k t s x := by
    intro x hx
    funext y z
    unfold dthG
    rw [if_neg (show ¬ (x = 27 ∧ _) by omega), if_neg (show ¬ (x = 27 ∧ _) by omega), if_neg (show ¬ (x = 5 ∧ _) by omega), if_neg (show ¬ (x = 5 ∧ _) by omega)]
  have e5 : ∀ y z, y ≠ s → dthG A p k t (s + 1) 5 y z = dthG A p k t s 5 y z := by
    intro y z hy
    unfold dthG
    have g1 : (y < s + 1) ↔ (y < s) := by omega
    simp only [g1]
  have e27 : ∀ y z, y ≠ s → dthG A p k t (s + 1) 27 y z = dthG A p k t s 27 y z := by
    intro y z hy
    unfold dthG
    have g1 : (y < s + 1) ↔ (y < s) := by omega
    simp only [g1]
  have eN : ∀ x, x ≠ 46 → x ≠ 50 → dpS (up N 46 0 s v) s p (A 30 p 0) kp x = N x := fun x h1 h2 => funext fun y => funext fun z => by unfold dpS; rw [upR_ne (by omega), up_ne (by omega)]
  refine ⟨?_, ?_, ?_, ?_, ?_, ?_, ?_, ?_, ?_, ?_, ?_, ?_, ?_⟩
  · have q := h.r0; unfold MR0 at q ⊢; rw [ex 8 (by decide), ex 0 (by decide), ex 4 (by decide), ex 6 (by decide), ex 1 (by decide), eN 9 (by decide) (by decide)]; exact q
  · have q := h.rr; unfold MRr at q ⊢; rw [ex 34 (by decide), eN 40 (by decide) (by decide)]; exact q
  · intro u hu
    have q := h.rs u (by rw [ex 0 (by decide)] at hu; exact hu)
    rw [dthG_5 (by omega), dthG_5 (by omega), dthG_5 (by omega), dthG_5 (by omega)] at q
    rw [dthG_5 (by omega), dthG_5 (by omega), dthG_5 (by omega), dthG_5 (by omega), eN 41 (by decide) (by decide), eN 42 (by decide) (by decide), eN 43 (by decide) (by decide), eN 44 (by decide) (by decide)]
    exact q
  · have q := h.rp; unfold MRp at q ⊢; rw [ex 25 (by decide), ex 26 (by decide), eN 45 (by decide) (by decide)]; exact q
  · intro u hu
    have q := h.rl u hu
    rw [eN 47 (by decide) (by decide), eN 48 (by decide) (by decide), show dpS (up N 46 0 s v) s p (A 30 p 0) kp 46 0 u = up N 46 0 s v 46 0 u from upR_ne (by omega)]
    by_cases e : u = s
    · subst e
      rw [up_same, hv]
      rw [dthG_5n (by omega), dthG_5n (by omega), dthG_5n (by omega)] at q
      by_cases e6 : A 5 u 6 = p
      · rw [if_pos e6, dthG_5y (by omega) e6 (by omega)]
        exact ⟨rfl, fun hh => absurd rfl hh⟩
      · rw [if_neg e6, dthG_5n (Or.inr e6), dthG_5n (Or.inr e6), dthG_5n (Or.inr e6)]
        exact ⟨rfl, q.2⟩
    · rw [up_ne (by omega), e5 u 6 e, e5 u 7 e, e5 u 8 e]
      exact q
  · intro u hu
    obtain ⟨q1, q2⟩ := h.rq u hu
    have hu8 := h8 u hu
    rw [dthG_5 (by omega)] at q1
    simp only [dthG_5 (show (11 : Nat) ≠ 6 ∧ 11 ≠ 7 ∧ 11 ≠ 8 by decide), ex 28 (by decide)] at q2 ⊢
    rw [eN 49 (by decide) (by decide), eN 51 (by decide) (by decide)]
    refine ⟨q1, fun j hj => ?_⟩
    obtain ⟨g1, g2⟩ := q2 j hj
    refine ⟨?_, g2⟩
    have e50 : dpS (up N 46 0 s v) s p (A 30 p 0) kp 50 0 (8 * u + j) = if 8 * s ≤ 8 * u + j ∧ 8 * u + j < 8 * s + kp ∧ N 50 0 (8 * u + j) = p then A 30 p 0 else N 50 0 (8 * u + j) := by
      simp [dpS, upR, up]
    rw [e50]
    by_cases e : u = s
    · subst e
      rw [dthG_27n (by omega)] at g1
      rw [g1]
      by_cases e2 : A 27 u j = p
      · rw [if_pos ⟨by omega, by omega, e2⟩, dthG_27y (by omega) hj e2]
      · rw [if_neg (fun hh => e2 hh.2.2), dthG_27n (by omega)]
    · have hs8 := h8 s hs
      rw [if_neg (by omega), e27 u j e]
      exact g1
  · have q := h.rh; unfold MRh at q ⊢; rw [ex 7 (by decide), ex 30 (by decide), ex 31 (by decide), eN 52 (by decide) (by decide), eN 53 (by decide) (by decide), eN 54 (by decide) (by decide)]; exact q
  · have q := h.rm; unfold MRm at q ⊢; rw [ex 18 (by decide), eN 55 (by decide) (by decide)]; exact q
  · have q := h.rt; unfold MRt at q ⊢; rw [ex 12 (by decide), eN 56 (by decide) (by decide)]; exact q
  · have q := h.ru; unfold MRu at q ⊢; rw [ex 4 (by decide), ex 3 (by decide), ex 19 (by decide), ex 20 (by decide), ex 21 (by decide), ex 22 (by decide), eN 57 (by decide) (by decide)]; exact q
  · have q := h.rf; unfold MRf at q ⊢; rw [ex 6 (by decide), ex 29 (by decide), eN 58 (by decide) (by decide)]; exact q
  · have q := h.rb; unfold MRb at q ⊢; rw [ex 1 (by decide), ex 16 (by decide), ex 17 (by decide), eN 61 (by decide) (by decide), eN 62 (by decide) (by decide)]; exact q
  · have q := h.rw; unfold MRw at q ⊢; rw [ex 33 (by decide), eN 64 (by decide) (by decide)]; exact q
theorem dpS_s (N : Mem) (s p : Nat) (h0 : Int) (i : Nat) : up (dpS N s p h0 i) 50 0 (8 * s + i) (if N 50 0 (8 * s + i) = p then h0 else N 50 0 (8 * s + i)) = dpS N s p h0 (i + 1) := by
  funext x y z
  simp only [dpS, up, upR]
  grind
theorem dpS_0 (N : Mem) (s p : Nat) (h0 : Int) : dpS N s p h0 0 = N := by
  funext x y z
  simp only [dpS, upR]
  grind
theorem sumN_two (f g : Nat → Int) : ∀ c, sumN (fun t => if t % 2 = 0 then f (t / 2) else g (t / 2)) (2 * c) = sumN (fun s => f s + g s) c
  | 0 => rfl
  | c + 1 => by
    rw [show 2 * (c + 1) = 2 * c + 1 + 1 by omega, sumN, sumN, sumN_two f g c, sumN]
    simp only [show 2 * c % 2 = 0 by omega, show (2 * c + 1) % 2 = 1 by omega, show 2 * c / 2 = c by omega, show (2 * c + 1) / 2 = c by omega]
    simp
    omega

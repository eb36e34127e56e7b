/-! ===== what always holds ===== -/
def IvS (M : Mem) (s : Nat) : Prop := (0 ≤ M 5 s 0 ∧ M 5 s 0 ≤ 4) ∧ (0 ≤ M 5 s 1 ∧ M 5 s 1 ≤ 5) ∧ (1 ≤ M 5 s 2 ∧ M 5 s 2 ≤ 9999) ∧ 1 ≤ M 5 s 3 ∧ M 5 s 3 ≤ 9
def IvL (M : Mem) (s : Nat) : Prop := -1 ≤ M 5 s 6 ∧ M 5 s 6 ≤ 9 ∧ (M 5 s 6 = -1 → M 5 s 7 = -1 ∧ M 5 s 8 = -1) ∧ (M 5 s 6 ≠ -1 → M 8 0 9 ≤ M 5 s 7 ∧ M 5 s 7 ≤ 100000 ∧ 0 ≤ M 5 s 8 ∧ M 5 s 8 ≤ 999)
def IvP (M : Mem) (s : Nat) : Prop := 0 ≤ M 5 s 11 ∧ M 5 s 11 ≤ 8 ∧ ∀ j : Nat, (j : Int) < M 5 s 11 → (0 ≤ M 27 s j ∧ M 27 s j ≤ 9) ∧ 1 ≤ M 28 s j ∧ M 28 s j ≤ 9999
def IvR (M : Mem) (f s : Nat) : Prop := (∀ p : Nat, p < 10 → 0 ≤ M f s p) ∧ sumN (M f s) 10 = 5040
def IvN (M : Mem) (s : Nat) : Prop := M 5 s 6 = -1 ∧ M 5 s 7 = -1 ∧ M 5 s 8 = -1 ∧ M 5 s 11 = 0 ∧ M 5 s 12 = 0 ∧ ∀ p : Nat, p < 10 → M 25 s p = 0 ∧ M 26 s p = 0
def IvH (M : Mem) (p : Nat) : Prop := 0 ≤ M 7 p 2 ∧ M 7 p 2 ≤ 4 ∧ ∀ j : Nat, (j : Int) < M 7 p 2 → (0 ≤ M 30 p j ∧ M 30 p j ≤ 9) ∧ M 30 p j ≠ p ∧ 1 ≤ M 31 p j ∧ M 31 p j ≤ 9
def IvQ (M : Mem) (r : Nat) : Prop := (M 3 r 0 = 0 ∨ M 3 r 0 = 1) ∧ (0 ≤ M 3 r 1 ∧ M 3 r 1 ≤ 9999) ∧ (0 ≤ M 3 r 2 ∧ M 3 r 2 ≤ 100000) ∧ (0 ≤ M 3 r 3 ∧ M 3 r 3 ≤ 100000) ∧ (0 ≤ M 3 r 8 ∧ M 3 r 8 ≤ 3) ∧ ∀ j : Nat, (j : Int) < M 3 r 8 → (0 ≤ M 19 r j ∧ M 19 r j ≤ 4) ∧ (M 20 r j = 60 ∨ M 20 r j = 61 ∨ M 20 r j = 62) ∧ (0 ≤ M 21 r j ∧ M 21 r j ≤ 9999) ∧ (M 22 r j = 0 ∨ M 22 r j = 1)
/-- beside one another: under one arch, or next on one street -/
def areB (M : Mem) (s t : Nat) : Prop := s ≠ t ∧ (M 5 s 1 = M 5 t 1 ∨ (M 5 s 0 = M 5 t 0 ∧ ∀ u : Nat, (s < u ∧ u < t ∨ t < u ∧ u < s) → M 5 u 0 ≠ M 5 s 0))
def IvB (M : Mem) (s : Nat) : Prop := 0 ≤ M 5 s 12 ∧ ∀ t : Nat, (M 5 s 12).toNat.testBit t = true ↔ ((s : Int) < M 0 0 2 ∧ (t : Int) < M 0 0 2 ∧ areB M s t)
def IvT (M : Mem) (a : Nat) : Prop := 0 ≤ M 13 0 a ∧ ∀ t : Nat, (M 13 0 a).toNat.testBit t = true ↔ ∃ s : Nat, (s : Int) < M 0 0 2 ∧ M 5 s 1 = a ∧ M 5 s 0 = t
def Inv (n : Nat) (M : Mem) : Prop :=
  (0 ≤ M 0 0 2 ∧ M 0 0 2 ≤ 14) ∧ (∀ s : Nat, (s : Int) < M 0 0 2 → IvS M s ∧ IvR M 25 s ∧ IvR M 26 s) ∧ (∀ s : Nat, s < 14 → IvL M s ∧ IvP M s ∧ IvB M s ∧ (M 0 0 2 ≤ s → IvN M s)) ∧ (∀ p : Nat, p < 10 → IvH M p) ∧ (0 ≤ M 8 0 9 ∧ M 8 0 9 ≤ 100 * n) ∧ (∀ a : Nat, a < 6 → (1 ≤ M 12 0 a ∧ M 12 0 a ≤ 9) ∧ IvT M a) ∧ (0 ≤ M 1 0 6 ∧ M 1 0 6 ≤ 6) ∧ (0 ≤ M 4 0 2 ∧ M 4 0 2 ≤ 10) ∧ (∀ r : Nat, (r : Int) < M 4 0 2 → IvQ M r) ∧ (0 ≤ M 6 0 1 ∧ M 6 0 1 ≤ 80) ∧ (∀ k : Nat, (k : Int) < M 6 0 1 → 0 ≤ M 29 0 k ∧ M 29 0 k ≤ 255) ∧ (M 8 0 8 = 0 ∨ M 8 0 8 = 1)
section INV
variable {n : Nat} {M : Mem} (h : Inv n M)
theorem Inv.count (h : Inv n M) : 0 ≤ M 0 0 2 ∧ M 0 0 2 ≤ 14 := h.1
theorem Inv.shopS (h : Inv n M) {s : Nat} (hs : (s : Int) < M 0 0 2) : IvS M s := (h.2.1 s hs).1
theorem Inv.rowR (h : Inv n M) {s : Nat} (hs : (s : Int) < M 0 0 2) : IvR M 25 s ∧ IvR M 26 s := (h.2.1 s hs).2
theorem Inv.lets (h : Inv n M) {s : Nat} (hs : s < 14) : IvL M s := (h.2.2.1 s hs).1
theorem Inv.pawns (h : Inv n M) {s : Nat} (hs : s < 14) : IvP M s := (h.2.2.1 s hs).2.1
theorem Inv.bes (h : Inv n M) {s : Nat} (hs : s < 14) : IvB M s := (h.2.2.1 s hs).2.2.1
theorem Inv.fresh (h : Inv n M) {s : Nat} (hs : s < 14) (h2 : M 0 0 2 ≤ s) : IvN M s := (h.2.2.1 s hs).2.2.2 h2
theorem Inv.heirs (h : Inv n M) {p : Nat} (hp : p < 10) : IvH M p := h.2.2.2.1 p hp
theorem Inv.day (h : Inv n M) : 0 ≤ M 8 0 9 ∧ M 8 0 9 ≤ 100 * n := h.2.2.2.2.1
theorem Inv.arch (h : Inv n M) {a : Nat} (ha : a < 6) : (1 ≤ M 12 0 a ∧ M 12 0 a ≤ 9) ∧ IvT M a := h.2.2.2.2.2.1 a ha
theorem Inv.size (h : Inv n M) : 0 ≤ M 1 0 6 ∧ M 1 0 6 ≤ 6 := h.2.2.2.2.2.2.1
theorem Inv.rules (h : Inv n M) : 0 ≤ M 4 0 2 ∧ M 4 0 2 ≤ 10 := h.2.2.2.2.2.2.2.1
theorem Inv.rule (h : Inv n M) {r : Nat} (hr : (r : Int) < M 4 0 2) : IvQ M r := h.2.2.2.2.2.2.2.2.1 r hr
theorem Inv.tape (h : Inv n M) : 0 ≤ M 6 0 1 ∧ M 6 0 1 ≤ 80 := h.2.2.2.2.2.2.2.2.2.1
theorem Inv.byt (h : Inv n M) {k : Nat} (hk : (k : Int) < M 6 0 1) : 0 ≤ M 29 0 k ∧ M 29 0 k ≤ 255 := h.2.2.2.2.2.2.2.2.2.2.1 k hk
theorem Inv.laid (h : Inv n M) : M 8 0 8 = 0 ∨ M 8 0 8 = 1 := h.2.2.2.2.2.2.2.2.2.2.2
end INV
theorem sumN_part {g : Nat → Int} : ∀ (n : Nat), (∀ i, i < n → 0 ≤ g i) → ∀ p, p < n → g p ≤ sumN g n
  | 0, _, p, hp => by omega
  | n + 1, h, p, hp => by
    simp only [sumN]
    have h0 := h n (by omega)
    by_cases e : p = n
    · subst e
      have := sumN_ge (g := g) (c := 0) p (fun i hi => h i (by omega))
      omega
    · have := sumN_part n (fun i hi => h i (by omega)) p (by omega)
      omega
theorem IvR.rng {M : Mem} {f s : Nat} (h : IvR M f s) {p : Nat} (hp : p < 10) : 0 ≤ M f s p ∧ M f s p ≤ 5040 := ⟨h.1 p hp, by have := sumN_part 10 h.1 p hp; rw [h.2] at this; exact this⟩
theorem Inv.part {n : Nat} {M : Mem} (h : Inv n M) {s p : Nat} (hs : (s : Int) < M 0 0 2) (hp : p < 10) : (0 ≤ M 25 s p ∧ M 25 s p ≤ 5040) ∧ 0 ≤ M 26 s p ∧ M 26 s p ≤ 5040 := ⟨(h.rowR hs).1.rng hp, (h.rowR hs).2.rng hp⟩
theorem RF_i {p : Int × Mem} {z : Int} {M : Mem} (h : p = (z, M)) : RF p.1 p.2 (some (vi z)) M := by rw [h]; exact ⟨rfl, rfl⟩
theorem nat_of {z : Int} (h : 0 ≤ z) : ∃ k : Nat, z = (k : Int) := Int.eq_ofNat_of_zero_le h
/-! ===== what each call answers, and the world behind it ===== -/
def f_look (M : Mem) (a b : Int) : Int × Mem :=
  if a < 0 ∨ M 0 0 2 ≤ a then (-3, rfs M 3) else if b < 0 ∨ 8 < b then (-7, rfs M 7)
  else (if b = 0 then M 5 a.toNat 0 else if b = 1 then M 5 a.toNat 1 else if b = 2 then M 5 a.toNat 2 else if b = 3 then M 5 a.toNat 3 else if b = 4 then M 5 a.toNat 6 else if b = 5 then M 5 a.toNat 7 else if b = 6 then M 5 a.toNat 8 else if b = 7 then M 5 a.toNat 11 else sumN (M 28 a.toNat) (M 5 a.toNat 11).toNat, M)
def f_has (M : Mem) (a b c : Int) : Int × Mem :=
  if a < 0 ∨ M 0 0 2 ≤ a ∨ c < 0 ∨ 9 < c then (-3, rfs M 3) else if b ≠ 0 ∧ b ≠ 1 then (-5, rfs M 5) else (M (25 + b.toNat) a.toNat c.toNat, M)
def f_sale (M : Mem) (a b c : Int) : Int × Mem :=
  if a < 0 ∨ M 0 0 2 ≤ a % 100 ∨ b < 0 ∨ 99 < b then (-3, rfs M 3) else if 1 < a / 100 then (-5, rfs M 5)
  else if c < 1 ∨ 5040 < c ∨ b / 10 = b % 10 then (-7, rfs M 7)
  else
    let f := 25 + (a / 100).toNat
    let s := (a % 100).toNat
    let g := (b / 10).toNat
    let t := (b % 10).toNat
    let n := min c (M f s g)
    (n, up (up M f s g (M f s g - n)) f s t (M f s t + n))
def isH (M : Mem) (p : Nat) (h : Int) : Prop := ∃ j : Nat, j < (M 7 p 2).toNat ∧ M 30 p j = h
/-- h is among the first n of a row -/
def isAm (g : Nat → Int) (h : Int) : Nat → Bool
  | 0 => false
  | n + 1 => isAm g h n || decide (g n = h)
theorem isAm_iff {g : Nat → Int} {h : Int} : ∀ n : Nat, isAm g h n = true ↔ ∃ j : Nat, j < n ∧ g j = h
  | 0 => by simp [isAm]
  | n + 1 => by
    simp only [isAm, Bool.or_eq_true, decide_eq_true_eq, isAm_iff n]
    constructor
    · rintro (⟨j, h1, h2⟩ | h1)
      · exact ⟨j, by omega, h2⟩
      · exact ⟨n, by omega, h1⟩
    · rintro ⟨j, h1, h2⟩
      by_cases e : j = n
      · subst e; exact Or.inr h2
      · exact Or.inl ⟨j, by omega, h2⟩
def f_heir (M : Mem) (a b c : Int) : Int × Mem :=
  if a < 0 ∨ 9 < a ∨ b < 0 ∨ 9 < b then (-3, rfs M 3)
  else if c < 1 ∨ 9 < c ∨ b = a then (-7, rfs M 7)
  else if isAm (M 30 a.toNat) b (M 7 a.toNat 2).toNat = true then (-7, rfs M 7)
  else if 4 ≤ M 7 a.toNat 2 then (-8, rfs M 8)
  else (M 7 a.toNat 2 + 1, addH M a.toNat (M 7 a.toNat 2).toNat b c)
def f_disown (M : Mem) (a : Int) : Int × Mem := if a < 0 ∨ 9 < a then (-3, rfs M 3) else (M 7 a.toNat 2, up M 7 a.toNat 2 0)
def f_let (M : Mem) (a b c e : Int) : Int × Mem :=
  if a < 0 ∨ M 0 0 2 ≤ a ∨ b < 0 ∨ 99 < b then (-3, rfs M 3)
  else if c < M 8 0 9 ∨ 100000 < c ∨ e < 0 ∨ 999 < e ∨ M 5 a.toNat 6 ≠ -1 ∨ M 26 a.toNat (b / 10).toNat = 0 then (-7, rfs M 7)
  else (1, lett M a.toNat (b % 10) c e)
def f_pawn (M : Mem) (a b c : Int) : Int × Mem :=
  if a < 0 ∨ M 0 0 2 ≤ a ∨ b < 0 ∨ 9 < b then (-3, rfs M 3)
  else if c < 1 ∨ 9999 < c ∨ M 5 a.toNat 2 < sumN (M 28 a.toNat) (M 5 a.toNat 11).toNat + c then (-7, rfs M 7)
  else if 8 ≤ M 5 a.toNat 11 then (-8, rfs M 8)
  else (M 5 a.toNat 11 + 1, addP M a.toNat (M 5 a.toNat 11).toNat b c)
def f_pawned (M : Mem) (a b c : Int) : Int × Mem :=
  if (a < 0 ∨ M 0 0 2 ≤ a) ∨ b < 0 ∨ M 5 a.toNat 11 ≤ b then (-3, rfs M 3)
  else if c < 0 ∨ 1 < c then (-7, rfs M 7) else (if c = 0 then M 27 a.toNat b.toNat else M 28 a.toNat b.toNat, M)
def f_pay (M : Mem) (a b : Int) : Int × Mem :=
  if (a < 0 ∨ M 0 0 2 ≤ a) ∨ b < 0 ∨ M 5 a.toNat 11 ≤ b then (-3, rfs M 3)
  else (M 28 a.toNat b.toNat, drp M a.toNat b.toNat (M 5 a.toNat 11).toNat)
def f_purse (M : Mem) (a : Int) : Int × Mem := if a < 0 ∨ 9 < a then (0, rfs M 3) else (M 18 0 a.toNat, M)
def f_wipe (M : Mem) : Int × Mem := (M 6 0 1, up M 6 0 1 0)
def f_takes (M : Mem) (a b : Int) : Int × Mem := if a < 0 ∨ 5 < a then (-3, rfs M 3) else if b < 1 ∨ 9 < b then (-7, rfs M 7) else (M 12 0 a.toNat, up M 12 0 a.toNat b)
def f_planned (M : Mem) (a b : Int) : Int × Mem := if M 1 0 6 = 0 then (-2, rfs M 2) else if a < 0 ∨ M 1 0 6 ≤ a then (-3, rfs M 3) else (if b = 0 then M 16 0 a.toNat else M 17 0 a.toNat, M)
def f_lay (M : Mem) (a b : Int) : Int × Mem := if a < 0 ∨ M 0 0 2 ≤ a then (-3, rfs M 3) else if b ≠ 0 ∧ b ≠ 1 then (-5, rfs M 5) else (10, up (upR M 33 0 (fun k => if k < 10 then M (25 + b.toNat) a.toNat k else M 33 0 k)) 8 0 8 1)
def f_tear (M : Mem) : Int × Mem := (M 8 0 8, up M 8 0 8 0)
def f_row (M : Mem) (a : Int) : Int × Mem := if M 8 0 8 = 0 then (-2, rfs M 2) else if a < 0 ∨ 9 < a then (-3, rfs M 3) else (M 33 0 a.toNat, M)
def f_copy (M : Mem) (a b c : Int) : Int × Mem := if M 8 0 8 = 0 then (-2, rfs M 2) else if c < 0 then (-4, rfs M 4) else if a < 0 ∨ 10 < a + c ∨ b < 0 ∨ 10 < b + c then (-6, rfs M 6) else (c, upR M 33 0 (va_cpy (M 33 0) (M 33 0) a.toNat b.toNat c.toNat))
def f_status (M : Mem) (a : Int) : Int × Mem := if a < -8 ∨ -2 < a then (-7, rfs M 7) else (M 34 0 (-a).toNat, M)
def ctN (c : Nat → Bool) : Nat → Int
  | 0 => 0
  | n + 1 => ctN c n + if c n then 1 else 0
def f_count (M : Mem) (a : Int) : Int × Mem :=
  if a < 0 ∨ 5 < a then (-7, rfs M 7)
  else (if a = 0 then M 8 0 9 else if a = 1 then M 0 0 2 else if a = 2 then M 4 0 2 else if a = 3 then M 6 0 1 else if a = 4 then ctN (fun s => decide (M 5 s 6 ≠ -1)) (M 0 0 2).toNat else sumN (fun s => M 5 s 11) (M 0 0 2).toNat, M)
/-- the bytes that are fed: place 0 the highest of the n -/
def fdB (z : Int) (n j : Nat) : Int := z / 2 ^ (8 * (n - 1 - j)) % 256
def fdM (M : Mem) (z : Int) (l n t : Nat) : Mem := up (upR M 29 0 (fun k => if l ≤ k ∧ k < l + t then fdB z n (k - l) else M 29 0 k)) 6 0 1 ((l : Int) + t)
def f_feed (M : Mem) (a b : Int) : Int × Mem :=
  if b < 0 then (-4, rfs M 4) else if 4 < b then (-7, rfs M 7) else if 80 < M 6 0 1 + b then (-8, rfs M 8)
  else (M 6 0 1 + b, fdM M a (M 6 0 1).toNat b.toNat b.toNat)
/-- the richest other one of a row, below n: its place and what it has -/
def ric (g : Nat → Int) (p : Nat) : Nat → Int × Int
  | 0 => (-1, 0)
  | n + 1 => if n ≠ p ∧ (ric g p n).2 < g n then ((n : Int), g n) else ric g p n
def f_first (M : Mem) (a b : Int) : Int × Mem :=
  if a < 0 ∨ M 0 0 2 ≤ a ∨ b < 0 ∨ 9 < b then (-3, rfs M 3) else if M 26 a.toNat b.toNat = 0 then (-7, rfs M 7)
  else (if (ric (M 26 a.toNat) b.toNat 10).1 ≠ -1 then (ric (M 26 a.toNat) b.toNat 10).1 else (ric (M 25 a.toNat) b.toNat 10).1, M)
theorem ric_rng (g : Nat → Int) (p : Nat) : ∀ n : Nat, -1 ≤ (ric g p n).1 ∧ (ric g p n).1 < n
  | 0 => by simp [ric]
  | n + 1 => by
    have := ric_rng g p n
    simp only [ric]
    split <;> simp <;> omega

/-! ===== rules ===== -/
def soB (sg x y : Int) : Bool := if sg = 60 then decide (x < y) else if sg = 62 then decide (y < x) else decide (x = y)
def allN (c : Nat → Bool) : Nat → Bool
  | 0 => true
  | n + 1 => allN c n && c n
/-- test t of rule r, of the facts that are told -/
def tsB (M : Mem) (r t : Nat) : Bool := soB (M 20 r t) (M 24 0 (M 19 r t).toNat) (M 21 r t) != decide (M 22 r t = 1)
def hlB (M : Mem) (day : Int) (r : Nat) : Bool := decide (M 3 r 2 ≤ day ∧ day < M 3 r 3) && allN (tsB M r) (M 3 r 8).toNat
theorem allN_iff {c : Nat → Bool} : ∀ n : Nat, allN c n = true ↔ ∀ t, t < n → c t = true
  | 0 => by simp [allN]
  | n + 1 => by
    simp only [allN, Bool.and_eq_true, allN_iff n]
    constructor
    · intro h t ht
      by_cases e : t = n
      · subst e; exact h.2
      · exact h.1 t (by omega)
    · intro h
      exact ⟨fun t ht => h t (by omega), h n (by omega)⟩
/-- the least below n; -1 -/
def fstB (c : Nat → Bool) : Nat → Int
  | 0 => -1
  | n + 1 => if fstB c n = -1 ∧ c n = true then (n : Int) else fstB c n
theorem fstB_no {c : Nat → Bool} : ∀ n : Nat, (∀ j, j < n → c j = false) → fstB c n = -1
  | 0, _ => rfl
  | n + 1, h => by
    rw [fstB, fstB_no n (fun j hj => h j (by omega)), if_neg (by rw [h n (by omega)]; simp)]
theorem fstB_at {c : Nat → Bool} {i : Nat} (h : ∀ j, j < i → c j = false) (hi : c i = true) : ∀ n : Nat, i < n → fstB c n = (i : Int)
  | 0, h2 => by omega
  | n + 1, h2 => by
    by_cases e : n = i
    · subst e
      rw [fstB, fstB_no n h, if_pos ⟨rfl, hi⟩]
    · rw [fstB, fstB_at h hi n (by omega), if_neg (by omega)]
theorem fstB_rng (c : Nat → Bool) : ∀ n : Nat, -1 ≤ fstB c n ∧ fstB c n < n
  | 0 => by simp [fstB]
  | n + 1 => by
    have := fstB_rng c n
    rw [fstB]
    split <;> omega
def cBan (M : Mem) (day : Int) (r : Nat) : Bool := decide (M 3 r 0 = 1) && (decide (M 3 r 1 = M 24 0 4 ∨ M 3 r 1 = 99) && hlB M day r)
def cTx0 (M : Mem) (day : Int) (r : Nat) : Bool := decide (M 3 r 0 = 0) && hlB M day r
def cTax (M : Mem) (day : Int) (r : Nat) : Bool := decide (M 3 r 0 = 0) && (decide (M 3 r 1 ≠ 0) && hlB M day r)
def taxV (M : Mem) (day : Int) : Nat → Int
  | 0 => 0
  | n + 1 => if cTx0 M day n = true then M 3 n 1 else taxV M day n
def quaV (M : Mem) (day : Int) (n : Nat) : Int := if fstB (cBan M day) n = -1 ∨ fstB (cTax M day) n = -1 then -1 else 10 * fstB (cBan M day) n + fstB (cTax M day) n
/-- the facts that are told -/
def staM (M : Mem) (p s g : Nat) : Mem := up (up (up (up (up M 24 0 0 (M 5 s 0)) 24 0 1 s) 24 0 2 (M 5 s 1)) 24 0 3 p) 24 0 4 g
theorem staM_ne {M : Mem} {p s g a b c : Nat} (h : a ≠ 24) : staM M p s g a b c = M a b c := by
  unfold staM
  rw [up_ne (by omega), up_ne (by omega), up_ne (by omega), up_ne (by omega), up_ne (by omega)]
def f_may (M : Mem) (a b c : Int) : Int × Mem :=
  if a < 0 ∨ 9 < a ∨ b < 0 ∨ M 0 0 2 ≤ b ∨ c < 0 ∨ 9 < c then (-3, rfs M 3)
  else if M 26 b.toNat a.toNat = 0 ∧ M 5 b.toNat 6 ≠ a then (0, M)
  else (if fstB (cBan (staM M a.toNat b.toNat c.toNat) (M 8 0 9)) (M 4 0 2).toNat = -1 then 1 else 2, staM M a.toNat b.toNat c.toNat)
def f_why (M : Mem) (a b c : Int) : Int × Mem :=
  if a < 0 ∨ 99 < a ∨ b < 0 ∨ M 0 0 2 ≤ b then (-3, rfs M 3)
  else if c < 0 ∨ 2 < c then (-7, rfs M 7)
  else
    let N := staM M (a / 10).toNat b.toNat (a % 10).toNat
    (if c = 0 then fstB (cBan N (M 8 0 9)) (M 4 0 2).toNat else if c = 1 then taxV N (M 8 0 9) (M 4 0 2).toNat else quaV N (M 8 0 9) (M 4 0 2).toNat, N)
theorem staM_Q {M : Mem} {p s g r : Nat} (h : IvQ M r) : IvQ (staM M p s g) r := by
  unfold IvQ at h ⊢
  simp only [staM_ne (M := M) (p := p) (s := s) (g := g) (a := 3) (by decide), staM_ne (M := M) (p := p) (s := s) (g := g) (a := 19) (by decide), staM_ne (M := M) (p := p) (s := s) (g := g) (a := 20) (by decide), staM_ne (M := M) (p := p) (s := s) (g := g) (a := 21) (by decide), staM_ne (M := M) (p := p) (s := s) (g := g) (a := 22) (by decide)]
  exact h
theorem staM_f {M : Mem} {p s g : Nat} (h0 : 0 ≤ M 5 s 0 ∧ M 5 s 0 ≤ 4) (h1 : 0 ≤ M 5 s 1 ∧ M 5 s 1 ≤ 5) (hs : s < 14) (hp : p < 10) (hg : g < 10) : ∀ j : Nat, j < 5 → 0 ≤ staM M p s g 24 0 j ∧ staM M p s g 24 0 j ≤ 13 := by
  intro j hj
  rcases (show j = 0 ∨ j = 1 ∨ j = 2 ∨ j = 3 ∨ j = 4 by omega) with rfl | rfl | rfl | rfl | rfl <;> simp [staM, up] <;> omega

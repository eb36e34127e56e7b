/-! ===== a new shop ===== -/
def bsM (M : Mem) (β : Nat → Nat) : Mem := fun a b c => if a = 5 ∧ c = 12 ∧ b < 14 then (β b : Int) else M a b c
theorem bsM_ne {M : Mem} {β : Nat → Nat} {a b c : Nat} (h : ¬ (a = 5 ∧ c = 12)) : bsM M β a b c = M a b c := by simp only [bsM]; rw [if_neg (fun z => h ⟨z.1, z.2.1⟩)]
theorem bsM_at (M : Mem) (β : Nat → Nat) {b : Nat} (h : b < 14) : bsM M β 5 b 12 = (β b : Int) := by simp [bsM, h]
theorem bsM_up (M : Mem) (β : Nat → Nat) {s : Nat} (x : Nat) (h : s < 14) : up (bsM M β) 5 s 12 (x : Int) = bsM M (fun u => if u = s then x else β u) := by
  funext a b c
  simp only [bsM, up]
  grind
theorem bsM_self (M : Mem) (h : ∀ u, u < 14 → 0 ≤ M 5 u 12) : bsM M (fun u => (M 5 u 12).toNat) = M := by
  funext a b c
  simp only [bsM]
  split
  · next e => obtain ⟨rfl, rfl, e3⟩ := e; exact Int.toNat_of_nonneg (h b e3)
  · rfl
/-- under one arch with s -/
def arE (M : Mem) (s u : Nat) : Bool := decide (M 5 u 1 = M 5 s 1)
def btJ (M : Mem) (s i u : Nat) : Nat := if u = s then setB (arE M s) i else if u < i ∧ arE M s u = true then (M 5 u 12).toNat ||| 2 ^ s else (M 5 u 12).toNat
/-- the last below i on the street of s; -1 -/
def lsS (M : Mem) (s : Nat) : Nat → Int
  | 0 => -1
  | i + 1 => if M 5 i 0 = M 5 s 0 then (i : Int) else lsS M s i
theorem lsS_rng (M : Mem) (s : Nat) : ∀ i : Nat, -1 ≤ lsS M s i ∧ lsS M s i < i
  | 0 => by simp [lsS]
  | i + 1 => by
    have := lsS_rng M s i
    rw [lsS]
    split <;> omega
theorem lsS_iff (M : Mem) (s : Nat) : ∀ (i u : Nat), u < i → (lsS M s i = (u : Int) ↔ (M 5 u 0 = M 5 s 0 ∧ ∀ v, u < v → v < i → M 5 v 0 ≠ M 5 s 0))
  | 0, u, h => by omega
  | i + 1, u, h => by
    rw [lsS]
    split
    · next e =>
      constructor
      · intro q
        have : u = i := by omega
        subst this
        exact ⟨e, fun v h1 h2 => by omega⟩
      · rintro ⟨q1, q2⟩
        by_cases eu : u = i
        · omega
        · exact absurd e (q2 i (by omega) (by omega))
    · next e =>
      by_cases eu : u = i
      · subst eu
        have := lsS_rng M s u
        constructor
        · intro q; omega
        · rintro ⟨q1, q2⟩; exact absurd q1 e
      · rw [lsS_iff M s i u (by omega)]
        constructor
        · rintro ⟨q1, q2⟩
          refine ⟨q1, fun v h1 h2 => ?_⟩
          by_cases ev : v = i
          · subst ev; exact e
          · exact q2 v h1 (by omega)
        · rintro ⟨q1, q2⟩
          exact ⟨q1, fun v h1 h2 => q2 v h1 (by omega)⟩
def btE (M : Mem) (s u : Nat) : Nat := if lsS M s s = -1 then btJ M s s u else if u = s then btJ M s s s ||| 2 ^ (lsS M s s).toNat else if u = (lsS M s s).toNat then btJ M s s u ||| 2 ^ s else btJ M s s u
theorem areB_symm {M : Mem} {s t : Nat} (h : areB M s t) : areB M t s := by
  obtain ⟨h1, h2⟩ := h
  refine ⟨fun e => h1 e.symm, ?_⟩
  rcases h2 with h2 | ⟨h2, h3⟩
  · exact Or.inl h2.symm
  · refine Or.inr ⟨h2.symm, fun u hu => ?_⟩
    rw [← h2]
    exact h3 u (hu.elim Or.inr Or.inl)
theorem areB_last {M : Mem} {s u : Nat} (hu : u < s) : areB M u s ↔ (arE M s u = true ∨ lsS M s s = (u : Int)) := by
  rw [lsS_iff M s s u hu]
  simp only [areB, arE, decide_eq_true_eq]
  constructor
  · rintro ⟨h1, h2 | ⟨h2, h3⟩⟩
    · exact Or.inl h2
    · exact Or.inr ⟨h2, fun v h4 h5 => by rw [← h2]; exact h3 v (Or.inl ⟨h4, h5⟩)⟩
  · rintro (h2 | ⟨h2, h3⟩)
    · exact ⟨by omega, Or.inl h2⟩
    · exact ⟨by omega, Or.inr ⟨h2, fun v hv => by
        rw [h2]
        rcases hv with hv | hv
        · exact h3 v hv.1 hv.2
        · omega⟩⟩
/-- who is beside whom, with the new one -/
theorem btE_bit {M : Mem} {s : Nat} (hs : M 5 s 12 = 0) (hB : ∀ u, u < s → ∀ t, (M 5 u 12).toNat.testBit t = true ↔ (t < s ∧ areB M u t)) : ∀ u, u ≤ s → ∀ t, (btE M s u).testBit t = true ↔ (t ≤ s ∧ areB M u t) := by
  intro u hu t
  have rr := lsS_rng M s s
  have jS : ∀ t, (btJ M s s s).testBit t = true ↔ (t < s ∧ arE M s t = true) := fun t => by rw [btJ, if_pos rfl, setB_bit]
  by_cases e : u = s
  · subst e
    have key : (btE M u u).testBit t = true ↔ (t < u ∧ (arE M u t = true ∨ lsS M u u = (t : Int))) := by
      unfold btE
      split
      · next h =>
        rw [jS]
        constructor
        · rintro ⟨a, b⟩; exact ⟨a, Or.inl b⟩
        · rintro ⟨a, b | b⟩
          · exact ⟨a, b⟩
          · omega
      · next h =>
        rw [if_pos rfl, Nat.testBit_or, Bool.or_eq_true, jS, Nat.testBit_two_pow]
        constructor
        · rintro (⟨a, b⟩ | a)
          · exact ⟨a, Or.inl b⟩
          · have : (lsS M u u).toNat = t := by simpa using a
            exact ⟨by omega, Or.inr (by omega)⟩
        · rintro ⟨a, b | b⟩
          · exact Or.inl ⟨a, b⟩
          · right; simp; omega
    rw [key]
    constructor
    · rintro ⟨a, b⟩
      exact ⟨by omega, areB_symm ((areB_last a).mpr b)⟩
    · rintro ⟨a, b⟩
      have : t ≠ u := fun q => b.1 q.symm
      exact ⟨by omega, (areB_last (by omega)).mp (areB_symm b)⟩
  · have hlt : u < s := by omega
    have key : (btE M s u).testBit t = true ↔ ((t < s ∧ areB M u t) ∨ (t = s ∧ (arE M s u = true ∨ lsS M s s = (u : Int)))) := by
      have jU : (btJ M s s u).testBit t = true ↔ ((t < s ∧ areB M u t) ∨ (t = s ∧ arE M s u = true)) := by
        rw [btJ, if_neg e]
        split
        · next h =>
          rw [Nat.testBit_or, Bool.or_eq_true, hB u hlt, Nat.testBit_two_pow]
          constructor
          · rintro (a | a)
            · exact Or.inl a
            · have : s = t := by simpa using a
              exact Or.inr ⟨this.symm, h.2⟩
          · rintro (a | ⟨a, b⟩)
            · exact Or.inl a
            · right; simp; omega
        · next h =>
          rw [hB u hlt]
          constructor
          · intro a; exact Or.inl a
          · rintro (a | ⟨a, b⟩)
            · exact a
            · exact absurd ⟨hlt, b⟩ h
      unfold btE
      split
      · next h =>
        rw [jU]
        constructor
        · rintro (a | ⟨a, b⟩)
          · exact Or.inl a
          · exact Or.inr ⟨a, Or.inl b⟩
        · rintro (a | ⟨a, b | b⟩)
          · exact Or.inl a
          · exact Or.inr ⟨a, b⟩
          · omega
      · next h =>
        split
        · next h2 =>
          rw [Nat.testBit_or, Bool.or_eq_true, jU, Nat.testBit_two_pow]
          constructor
          · rintro ((a | ⟨a, b⟩) | a)
            · exact Or.inl a
            · exact Or.inr ⟨a, Or.inl b⟩
            · have : s = t := by simpa using a
              exact Or.inr ⟨this.symm, Or.inr (by omega)⟩
          · rintro (a | ⟨a, b⟩)
            · exact Or.inl (Or.inl a)
            · right; simp; omega
        · next h2 =>
          rw [jU]
          constructor
          · rintro (a | ⟨a, b⟩)
            · exact Or.inl a
            · exact Or.inr ⟨a, Or.inl b⟩
          · rintro (a | ⟨a, b | b⟩)
            · exact Or.inl a
            · exact Or.inr ⟨a, b⟩
            · omega
    rw [key]
    constructor
    · rintro (⟨a, b⟩ | ⟨a, b⟩)
      · exact ⟨by omega, b⟩
      · subst a; exact ⟨Nat.le_refl _, (areB_last hlt).mpr b⟩
    · rintro ⟨a, b⟩
      by_cases et : t = s
      · subst et; exact Or.inr ⟨rfl, (areB_last hlt).mp b⟩
      · exact Or.inl ⟨by omega, b⟩
def shpM (M : Mem) (s : Nat) (st ar w h : Int) (p : Nat) : Mem := up (up (giv (giv (up (up M 5 s 0 st) 5 s 1 ar) 25 s p) 26 s p) 5 s 2 w) 5 s 3 h
def f_shop (M : Mem) (a b c : Int) : Int × Mem :=
  if a < 0 ∨ 499 < a ∨ 5 < a / 10 % 10 then (-3, rfs M 3) else if b < 1 ∨ 9999 < b ∨ c < 1 ∨ 9 < c then (-7, rfs M 7)
  else if 14 ≤ M 0 0 2 then (-8, rfs M 8) else (M 0 0 2, up (shpM M (M 0 0 2).toNat (a / 100) (a / 10 % 10) b c (a % 10).toNat) 0 0 2 (M 0 0 2 + 1))
/-- the same but for who is beside whom and the arches' streets -/
def Der (M2 M : Mem) : Prop := ∀ a b c : Nat, ¬ (a = 5 ∧ c = 12) → a ≠ 13 → M2 a b c = M a b c
theorem shpM_o {M : Mem} {s p u k : Nat} {st ar w h : Int} (hu : u ≠ s) : shpM M s st ar w h p 5 u k = M 5 u k := by
  simp only [shpM, giv]
  rw [up_ne (by omega), up_ne (by omega), up_ne (by omega), upR_ne (by omega), up_ne (by omega), upR_ne (by omega), up_ne (by omega), up_ne (by omega)]
theorem shpM_f {M : Mem} {s p a b c : Nat} {st ar w h : Int} (ha : a ≠ 5 ∧ a ≠ 25 ∧ a ≠ 26) : shpM M s st ar w h p a b c = M a b c := by
  simp only [shpM, giv]
  rw [up_ne (by omega), up_ne (by omega), up_ne (by omega), upR_ne (by omega), up_ne (by omega), upR_ne (by omega), up_ne (by omega), up_ne (by omega)]
theorem shpM_k {M : Mem} {s p k : Nat} {st ar w h : Int} (hk : 4 ≤ k) : shpM M s st ar w h p 5 s k = M 5 s k := by
  simp only [shpM, giv]
  rw [up_ne (by omega), up_ne (by omega), up_ne (by omega), upR_ne (by omega), up_ne (by omega), upR_ne (by omega), up_ne (by omega), up_ne (by omega)]
theorem shpM_0 (M : Mem) (s p : Nat) (st ar w h : Int) : shpM M s st ar w h p 5 s 0 = st := by simp [shpM, giv, up, upR]
theorem shpM_1 (M : Mem) (s p : Nat) (st ar w h : Int) : shpM M s st ar w h p 5 s 1 = ar := by simp [shpM, giv, up, upR]
theorem areB_cong {M N : Mem} {s u t : Nat} (hu : u < s) (ht : t < s) (h0 : ∀ v, v < s → N 5 v 0 = M 5 v 0) (h1 : ∀ v, v < s → N 5 v 1 = M 5 v 1) : areB N u t ↔ areB M u t := by
  simp only [areB]
  rw [h0 u hu, h0 t ht, h1 u hu, h1 t ht]
  constructor
  · rintro ⟨a, b | ⟨b, c⟩⟩
    · exact ⟨a, Or.inl b⟩
    · exact ⟨a, Or.inr ⟨b, fun v hv => by rw [← h0 v (by omega)]; exact c v hv⟩⟩
  · rintro ⟨a, b | ⟨b, c⟩⟩
    · exact ⟨a, Or.inl b⟩
    · exact ⟨a, Or.inr ⟨b, fun v hv => by rw [h0 v (by omega)]; exact c v hv⟩⟩
/-- the world behind shop() -/
def shpE (N : Mem) (s a x t : Nat) : Mem := up (up (bsM N (btE N s)) 0 0 2 ((s : Int) + 1)) 13 0 a ((x ||| 2 ^ t : Nat) : Int)
theorem shpE_B {m : Nat} {M N : Mem} {s a x t : Nat} (hI : Inv m M) (hs : M 0 0 2 = (s : Int)) (s14 : s < 14) (ho : ∀ u k, u ≠ s → N 5 u k = M 5 u k) (h12 : N 5 s 12 = M 5 s 12) : ∀ u, u < 14 → IvB (shpE N s a x t) u := by
  intro u hu
  have f0 : (hI.fresh s14 (by omega)).2.2.2.2.1 = (hI.fresh s14 (by omega)).2.2.2.2.1 := rfl
  have z12 : N 5 s 12 = 0 := by rw [h12]; exact (hI.fresh s14 (by omega)).2.2.2.2.1
  have hbit := btE_bit (M := N) (s := s) z12 (fun v hv t2 => by
    rw [ho v 12 (by omega), (hI.bes (s := v) (by omega)).2 t2]
    constructor
    · rintro ⟨_, b, c⟩
      exact ⟨by omega, (areB_cong hv (by omega) (fun w hw => ho w 0 (by omega)) (fun w hw => ho w 1 (by omega))).mpr c⟩
    · rintro ⟨b, c⟩
      exact ⟨by omega, by omega, (areB_cong hv b (fun w hw => ho w 0 (by omega)) (fun w hw => ho w 1 (by omega))).mp c⟩)
  have e1 : shpE N s a x t 5 u 12 = (btE N s u : Int) := by
    rw [shpE, up_ne (by omega), up_ne (by omega), bsM_at N _ hu]
  have e2 : shpE N s a x t 0 0 2 = (s : Int) + 1 := by simp [shpE, up]
  unfold IvB
  rw [e1, e2]
  refine ⟨by omega, fun t2 => ?_⟩
  rw [Int.toNat_natCast]
  by_cases hus : u ≤ s
  · rw [hbit u hus t2]
    constructor
    · rintro ⟨b, c⟩; exact ⟨by omega, by omega, c⟩
    · rintro ⟨_, b, c⟩; exact ⟨by omega, c⟩
  · have : btE N s u = 0 := by
      have rr := lsS_rng N s s
      have j0 : btJ N s s u = 0 := by
        rw [btJ, if_neg (by omega), if_neg (by omega), ho u 12 (by omega), (hI.fresh hu (by omega)).2.2.2.2.1]
        rfl
      unfold btE
      split
      · exact j0
      · rw [if_neg (by omega), if_neg (by omega)]; exact j0
    rw [this]
    constructor
    · intro q; simp at q
    · rintro ⟨q, _⟩; omega
theorem shpE_T {m : Nat} {M N : Mem} {s a x t : Nat} (hI : Inv m M) (hs : M 0 0 2 = (s : Int)) (s14 : s < 14) (ho : ∀ u k, u ≠ s → N 5 u k = M 5 u k) (h0 : N 5 s 0 = (t : Int)) (h1 : N 5 s 1 = (a : Int)) (h13 : ∀ b, N 13 0 b = M 13 0 b) (hx : M 13 0 a = (x : Int)) : ∀ b, b < 6 → IvT (shpE N s a x t) b := by
  intro b hb
  have e2 : shpE N s a x t 0 0 2 = (s : Int) + 1 := by simp [shpE, up]
  have e5 : ∀ u k, k ≠ 12 → shpE N s a x t 5 u k = N 5 u k := fun u k hk => by rw [shpE, up_ne (by omega), up_ne (by omega), bsM_ne (by omega)]
  obtain ⟨q1, q2⟩ := (hI.arch hb).2
  unfold IvT
  rw [e2]
  simp only [e5 _ 1 (by decide), e5 _ 0 (by decide)]
  by_cases e : b = a
  · subst e
    rw [show shpE N s b x t 13 0 b = ((x ||| 2 ^ t : Nat) : Int) by simp [shpE, up]]
    refine ⟨by omega, fun t2 => ?_⟩
    rw [hx, Int.toNat_natCast] at q2
    rw [Int.toNat_natCast, Nat.testBit_or, Bool.or_eq_true, q2 t2, Nat.testBit_two_pow]
    constructor
    · rintro (⟨u, u1, u2, u3⟩ | u)
      · exact ⟨u, by omega, by rw [ho u 1 (by omega)]; exact u2, by rw [ho u 0 (by omega)]; exact u3⟩
      · have : t = t2 := by simpa using u
        subst this
        exact ⟨s, by omega, h1, h0⟩
    · rintro ⟨u, u1, u2, u3⟩
      by_cases eu : u = s
      · subst eu
        right
        rw [h0] at u3
        simp; omega
      · left
        exact ⟨u, by omega, by rw [← ho u 1 eu]; exact u2, by rw [← ho u 0 eu]; exact u3⟩
  · rw [show shpE N s a x t 13 0 b = M 13 0 b by rw [shpE, up_ne (by omega), up_ne (by omega), bsM_ne (by omega), h13]]
    refine ⟨q1, fun t2 => ?_⟩
    rw [q2 t2]
    constructor
    · rintro ⟨u, u1, u2, u3⟩
      exact ⟨u, by omega, by rw [ho u 1 (by omega)]; exact u2, by rw [ho u 0 (by omega)]; exact u3⟩
    · rintro ⟨u, u1, u2, u3⟩
      by_cases eu : u = s
      · subst eu
        rw [h1] at u2
        omega
      · exact ⟨u, by omega, by rw [← ho u 1 eu]; exact u2, by rw [← ho u 0 eu]; exact u3⟩
theorem shpE_Der (N : Mem) (s a x t : Nat) : Der (shpE N s a x t) (up N 0 0 2 ((s : Int) + 1)) := by
  intro b c e h1 h2
  rw [shpE, up_ne (by omega)]
  simp only [up]
  split
  · rfl
  · rw [bsM_ne h1]

/-! ===== the spread of a fire, shop by shop in the order of the minutes ===== -/
/-- those that the one that burns sets on fire -/
def caC (M : Mem) (D : Nat → Int) (b op s : Nat) : Bool := (M 5 b 12).toNat.testBit s && !op.testBit s && decide (D s = -1)
def caD (M : Mem) (D : Nat → Int) (b op i : Nat) : Nat → Int := fun s => if s < i ∧ caC M D b op s = true then D b + M 5 s 3 else D s
def SpI (M : Mem) (fr op n : Nat) (D : Nat → Int) (W j : Nat) : Prop :=
  D fr = 0 ∧ (∀ s, s < n → -1 ≤ D s ∧ D s ≤ 9 * j) ∧ (∀ s, W.testBit s = true → s < n ∧ D s ≠ -1) ∧
  (∀ t w, t < n → D t ≠ -1 → W.testBit t = false → W.testBit w = true → D t ≤ D w) ∧
  (∀ s t, s < n → t < n → D t ≠ -1 → W.testBit t = false → areB M t s → op.testBit s = false → D s ≠ -1 ∧ D s ≤ D t + M 5 s 3) ∧
  (∀ s, s < n → s ≠ fr → D s ≠ -1 → ∃ t, t < n ∧ D t ≠ -1 ∧ W.testBit t = false ∧ areB M t s ∧ op.testBit s = false ∧ D s = D t + M 5 s 3) ∧
  ctN (fun s => decide (D s ≠ -1) && !W.testBit s) n = j
theorem ctN_cong {p q : Nat → Bool} : ∀ n : Nat, (∀ s, s < n → p s = q s) → ctN p n = ctN q n
  | 0, _ => rfl
  | n + 1, h => by simp only [ctN]; rw [ctN_cong n (fun s hs => h s (by omega)), h n (by omega)]
theorem ctN_more {p q : Nat → Bool} {x : Nat} (hp : p x = false) (hq : q x = true) : ∀ n : Nat, x < n → (∀ s, s < n → s ≠ x → p s = q s) → ctN q n = ctN p n + 1
  | 0, hx, _ => by omega
  | n + 1, hx, h => by
    simp only [ctN]
    by_cases e : x = n
    · subst e
      rw [hp, hq, ctN_cong x (fun s hs => (h s (by omega) (by omega)).symm)]
      simp
    · rw [ctN_more hp hq n (by omega) (fun s hs hne => h s (by omega) hne), h n (by omega) (fun z => e z.symm)]
      omega
theorem ctN_full {p : Nat → Bool} : ∀ n : Nat, ctN p n = n → ∀ s, s < n → p s = true
  | 0, _, s, hs => by omega
  | n + 1, h, s, hs => by
    simp only [ctN] at h
    have r := ctN_rng p n
    have hn : p n = true := by
      cases hb : p n with
      | true => rfl
      | false => rw [hb] at h; simp at h; omega
    rw [hn] at h
    simp only [if_true] at h
    by_cases e : s = n
    · subst e; exact hn
    · exact ctN_full n (by omega) s (by omega)
theorem SpI_0 {M : Mem} {fr op n : Nat} {D : Nat → Int} (hfr : fr < n) (h0 : D fr = 0) (hD : ∀ s, s < n → s ≠ fr → D s = -1) : SpI M fr op n D (2 ^ fr) 0 := by
  have bit : ∀ s, (2 ^ fr).testBit s = true ↔ fr = s := fun s => by rw [Nat.testBit_two_pow]; simp
  have no : ∀ t, t < n → D t ≠ -1 → (2 ^ fr).testBit t = false → False := by
    intro t ht h1 h2
    by_cases e : t = fr
    · subst e
      rw [(bit t).mpr rfl] at h2
      cases h2
    · exact h1 (hD t ht e)
  refine ⟨h0, fun s hs => ?_, fun s hs => ?_, fun t w ht h1 h2 h3 => (no t ht h1 h2).elim, fun s t hs ht h1 h2 _ _ => (no t ht h1 h2).elim, fun s hs hne h1 => absurd (hD s hs hne) h1, ?_⟩
  · by_cases e : s = fr
    · subst e; omega
    · have := hD s hs e; omega
  · have := (bit s).mp hs
    subst this
    exact ⟨hfr, by omega⟩
  · have : ∀ m, m ≤ n → ctN (fun s => decide (D s ≠ -1) && !(2 ^ fr).testBit s) m = 0 := by
      intro m
      induction m with
      | zero => intro _; rfl
      | succ m ih =>
        intro hm
        simp only [ctN]
        rw [ih (by omega), if_neg ?_]
        · rfl
        · intro hc
          rw [Bool.and_eq_true, decide_eq_true_eq] at hc
          exact no m (by omega) hc.1 (by simpa using hc.2)
    exact this n (Nat.le_refl n)
theorem SpI_end {M : Mem} {fr op n : Nat} {D : Nat → Int} {W j : Nat} (hc : M 0 0 2 = (n : Int)) (hn : n ≤ 14) (hj : j ≤ 14) (h : SpI M fr op n D W j) (hW : ∀ s, s < n → W.testBit s = false) : Fire M fr op D := by
  obtain ⟨h1, h2, h3, h4, h5, h6, h7⟩ := h
  refine ⟨h1, fun s hs => ⟨(h2 s (by omega)).1, by have := (h2 s (by omega)).2; omega⟩, fun s hs hne hd => ?_, fun s t hs ht hd hb ho => h5 s t (by omega) (by omega) hd (hW t (by omega)) hb ho⟩
  obtain ⟨t, a, b, c, d, e, f⟩ := h6 s (by omega) hne hd
  exact ⟨t, by omega, b, d, e, f⟩
theorem SpI_step {M : Mem} {fr op n : Nat} {D : Nat → Int} {W j x : Nat} (hc : M 0 0 2 = (n : Int)) (hz : ∀ s, s < n → 1 ≤ M 5 s 3 ∧ M 5 s 3 ≤ 9) (hB : ∀ s, s < n → IvB M s) (hfr : fr < n) (h : SpI M fr op n D W j) (hx : snB W D n = (x : Int)) :
    x < n ∧ D x ≠ -1 ∧ SpI M fr op n (caD M D x op n) ((W ^^^ (W &&& 2 ^ x)) ||| setB (caC M D x op) n) (j + 1) := by
  obtain ⟨h1, h2, h3, h4, h5, h6, h7⟩ := h
  have hr := snB_rng W D n
  have hxn : x < n := by omega
  obtain ⟨y1, y2⟩ := snB_yes W D n (by omega)
  rw [hx, Int.toNat_natCast] at y1 y2
  have hDx := (h3 x y1).2
  have cc : ∀ s, caC M D x op s = true ↔ ((s < n ∧ areB M x s) ∧ op.testBit s = false ∧ D s = -1) := by
    intro s
    have := (hB x hxn).2 s
    simp only [caC, Bool.and_eq_true, decide_eq_true_eq, this, Bool.not_eq_true']
    constructor
    · rintro ⟨⟨⟨a, b, c⟩, d⟩, e⟩
      exact ⟨⟨by omega, c⟩, d, e⟩
    · rintro ⟨⟨a, b⟩, c, d⟩
      exact ⟨⟨⟨by omega, by omega, b⟩, c⟩, d⟩
  have nW : ∀ s, ((W ^^^ (W &&& 2 ^ x)) ||| setB (caC M D x op) n).testBit s = true ↔ ((W.testBit s = true ∧ s ≠ x) ∨ (s < n ∧ caC M D x op s = true)) := by
    intro s
    rw [Nat.testBit_or, Bool.or_eq_true, setB_bit, andn_bit, Bool.and_eq_true, Nat.testBit_two_pow]
    constructor
    · rintro (⟨a, b⟩ | a)
      · left; exact ⟨a, fun e => by subst e; simp at b⟩
      · right; exact a
    · rintro (⟨a, b⟩ | a)
      · left; exact ⟨a, by simp; omega⟩
      · right; exact a
  have nD : ∀ s, s < n → (caC M D x op s = true → caD M D x op n s = D x + M 5 s 3) ∧ (¬ caC M D x op s = true → caD M D x op n s = D s) := by
    intro s hs
    refine ⟨fun q => ?_, fun q => ?_⟩
    · simp only [caD]; rw [if_pos ⟨hs, q⟩]
    · simp only [caD]; rw [if_neg (fun z => q z.2)]
  have old : ∀ s, s < n → D s ≠ -1 → ¬ caC M D x op s = true := fun s hs hd q => hd ((cc s).mp q).2.2
  have oldD : ∀ s, s < n → D s ≠ -1 → caD M D x op n s = D s := fun s hs hd => (nD s hs).2 (old s hs hd)
  have fW : ∀ s, s < n → (((W ^^^ (W &&& 2 ^ x)) ||| setB (caC M D x op) n).testBit s = false ↔ ((W.testBit s = false ∨ s = x) ∧ ¬ caC M D x op s = true)) := by
    intro s hs
    rw [← Bool.not_eq_true, nW]
    constructor
    · intro q
      refine ⟨?_, fun z => q (Or.inr ⟨hs, z⟩)⟩
      by_cases e : s = x
      · exact Or.inr e
      · left
        cases hb : W.testBit s with
        | false => rfl
        | true => exact absurd (Or.inl ⟨hb, e⟩) q
    · rintro ⟨a, b⟩ (⟨c, d⟩ | ⟨c, d⟩)
      · rcases a with a | a
        · rw [a] at c; cases c
        · exact d a
      · exact b d
  -- done ones: those that were, and x
  have dn : ∀ t, t < n → caD M D x op n t ≠ -1 → ((W ^^^ (W &&& 2 ^ x)) ||| setB (caC M D x op) n).testBit t = false → D t ≠ -1 ∧ caD M D x op n t = D t ∧ (W.testBit t = false ∨ t = x) := by
    intro t ht hd hw
    obtain ⟨a, b⟩ := (fW t ht).mp hw
    have e := (nD t ht).2 b
    rw [e] at hd
    exact ⟨hd, e, a⟩
  have bx := h2 x hxn
  refine ⟨hxn, hDx, ?_, ?_, ?_, ?_, ?_, ?_, ?_⟩
  · rw [oldD fr hfr (by omega)]; exact h1
  · intro s hs
    have hh := hz s hs
    by_cases q : caC M D x op s = true
    · rw [(nD s hs).1 q]; omega
    · rw [(nD s hs).2 q]
      have := h2 s hs
      omega
  · intro s hs
    rcases (nW s).mp hs with ⟨a, b⟩ | ⟨a, b⟩
    · have := h3 s a
      exact ⟨this.1, by rw [oldD s this.1 this.2]; exact this.2⟩
    · have hh := hz s a
      exact ⟨a, by rw [(nD s a).1 b]; omega⟩
  · intro t w ht hd hwt hww
    obtain ⟨d1, d2, d3⟩ := dn t ht hd hwt
    rw [d2]
    rcases (nW w).mp hww with ⟨a, b⟩ | ⟨a, b⟩
    · have hw3 := h3 w a
      rw [oldD w hw3.1 hw3.2]
      rcases d3 with d3 | d3
      · exact h4 t w ht d1 d3 a
      · subst d3; exact y2 w hw3.1 a
    · have hh := hz w a
      rw [(nD w a).1 b]
      rcases d3 with d3 | d3
      · have := h4 t x ht d1 d3 y1
        omega
      · subst d3; omega
  · intro s t hs ht hd hwt hb ho
    obtain ⟨d1, d2, d3⟩ := dn t ht hd hwt
    have hh := hz s hs
    rw [d2]
    by_cases q : caC M D x op s = true
    · rw [(nD s hs).1 q]
      have hs1 := ((cc s).mp q).2.2
      rcases d3 with d3 | d3
      · exact absurd hs1 (h5 s t hs ht d1 d3 hb ho).1
      · subst d3; exact ⟨by omega, Int.le_refl _⟩
    · rw [(nD s hs).2 q]
      rcases d3 with d3 | d3
      · exact h5 s t hs ht d1 d3 hb ho
      · subst d3
        have hs1 : D s ≠ -1 := fun z => q ((cc s).mpr ⟨⟨hs, hb⟩, ho, z⟩)
        refine ⟨hs1, ?_⟩
        cases hw : W.testBit s with
        | false =>
          have := h4 s t hs hs1 hw y1
          omega
        | true =>
          by_cases e : s = fr
          · subst e; omega
          · obtain ⟨u, u1, u2, u3, u4, u5, u6⟩ := h6 s hs e hs1
            have := h4 u t u1 u2 u3 y1
            omega
  · intro s hs hne hd
    by_cases q : caC M D x op s = true
    · obtain ⟨⟨a, b⟩, c, d⟩ := (cc s).mp q
      refine ⟨x, hxn, by rw [oldD x hxn hDx]; exact hDx, (fW x hxn).mpr ⟨Or.inr rfl, old x hxn hDx⟩, b, c, ?_⟩
      rw [(nD s hs).1 q, oldD x hxn hDx]
    · rw [(nD s hs).2 q] at hd ⊢
      obtain ⟨u, u1, u2, u3, u4, u5, u6⟩ := h6 s hs hne hd
      exact ⟨u, u1, by rw [oldD u u1 u2]; exact u2, (fW u u1).mpr ⟨Or.inl u3, old u u1 u2⟩, u4, u5, by rw [oldD u u1 u2]; exact u6⟩
  · rw [show ((j + 1 : Nat) : Int) = (j : Int) + 1 by omega, ← h7]
    refine ctN_more (x := x) ?_ ?_ n hxn (fun s hs hsx => ?_)
    · simp [y1]
    · rw [oldD x hxn hDx, (fW x hxn).mpr ⟨Or.inr rfl, old x hxn hDx⟩]
      simp [hDx]
    · by_cases q : caC M D x op s = true
      · have hs1 := ((cc s).mp q).2.2
        rw [(nW s).mpr (Or.inr ⟨hs, q⟩)]
        simp [hs1]
      · rw [(nD s hs).2 q]
        congr 2
        cases hb : W.testBit s with
        | true => exact ((nW s).mpr (Or.inl ⟨hb, hsx⟩)).symm
        | false => exact ((fW s hs).mpr ⟨Or.inl hb, q⟩).symm
theorem SpI_full {M : Mem} {fr op n : Nat} {D : Nat → Int} {W : Nat} (h : SpI M fr op n D W n) : ∀ s, s < n → W.testBit s = false := by
  intro s hs
  have := ctN_full n h.2.2.2.2.2.2 s hs
  simp only [Bool.and_eq_true] at this
  simpa using this.2
theorem caD_0 (M : Mem) (D : Nat → Int) (b op : Nat) : caD M D b op 0 = D := by funext s; simp [caD]

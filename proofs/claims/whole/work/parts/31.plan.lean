/-! ===== the order of the least days ===== -/
/-- arches and the days on which they begin, in an order: an arch's days M 12, its streets M 13 -/
def endD (M : Mem) (x : Nat × Int) : Int := x.2 + M 12 0 x.1
def daysL (M : Mem) : List (Nat × Int) → Int
  | [] => 0
  | x :: l => max (endD M x) (daysL M l)
theorem daysL_app (M : Mem) (l : List (Nat × Int)) (x : Nat × Int) (h : 0 ≤ endD M x) : daysL M (l ++ [x]) = max (daysL M l) (endD M x) := by
  induction l with
  | nil => simp only [List.nil_append, daysL]; omega
  | cons y l ih => simp only [List.cons_append, daysL, ih]; omega
theorem daysL_nn (M : Mem) (l : List (Nat × Int)) : 0 ≤ daysL M l := by
  induction l with
  | nil => simp [daysL]
  | cons y l ih => simp only [daysL]; omega
theorem daysL_ge (M : Mem) {l : List (Nat × Int)} {x : Nat × Int} (h : x ∈ l) : endD M x ≤ daysL M l := by
  induction l with
  | nil => cases h
  | cons y l ih =>
    simp only [daysL]
    rcases List.mem_cons.mp h with h | h
    · subst h; omega
    · have := ih h; omega
/-- those under repair on a day; none of them on one of its streets -/
def bsyN (M : Mem) (day : Int) : List (Nat × Int) → Int
  | [] => 0
  | x :: l => bsyN M day l + if day < endD M x then 1 else 0
def freeB (M : Mem) (a : Nat) (day : Int) (l : List (Nat × Int)) : Bool := l.all (fun x => decide (endD M x ≤ day) || decide ((M 13 0 x.1).toNat &&& (M 13 0 a).toNat = 0))
def canB (M : Mem) (l : List (Nat × Int)) (a : Nat) (day : Int) : Bool := freeB M a day l && decide (bsyN M day l < 2)
def dayS (M : Mem) (l : List (Nat × Int)) (a : Nat) : Nat → Int → Int
  | 0, day => day
  | n + 1, day => if canB M l a day = true then day else dayS M l a n (day + 1)
def lastB (l : List (Nat × Int)) : Int := match l.getLast? with
  | none => 0
  | some x => x.2
def fdy (M : Mem) (l : List (Nat × Int)) (a : Nat) : Int := dayS M l a (daysL M l - lastB l).toNat (lastB l)
def addA (M : Mem) (l : List (Nat × Int)) (a : Nat) : List (Nat × Int) := l ++ [(a, fdy M l a)]
def extS (M : Mem) (l : List (Nat × Int)) (p : List Nat) : List (Nat × Int) := p.foldl (addA M) l
/-- the best so far: its days, its arches and days -/
abbrev Bst : Type := Int × List (Nat × Int)
def updB (M : Mem) (b : Bst) (l : List (Nat × Int)) : Bst := if daysL M l < b.1 then (daysL M l, l) else b
/-- the orders of a set of r arches, by numbers -/
def prm : Nat → Nat → List (List Nat)
  | 0, _ => [[]]
  | r + 1, rest => (List.range 6).flatMap (fun a => if rest.testBit a = true then (prm r (rest ^^^ (rest &&& 2 ^ a))).map (a :: ·) else [])
def tryF (M : Mem) (r : Nat) (l : List (Nat × Int)) (rest : Nat) (b : Bst) : Bst := (prm r rest).foldl (fun b p => updB M b (extS M l p)) b
def tryL (M : Mem) (r : Nat) (l : List (Nat × Int)) (rest : Nat) (b : Bst) : Nat → Bst
  | 0 => b
  | i + 1 => if rest.testBit i = true then tryF M r (addA M l i) (rest ^^^ (rest &&& 2 ^ i)) (tryL M r l rest b i) else tryL M r l rest b i
theorem tryL_eq (M : Mem) (r : Nat) (l : List (Nat × Int)) (rest : Nat) (b : Bst) : ∀ i : Nat, ((List.range i).flatMap (fun a => if rest.testBit a = true then (prm r (rest ^^^ (rest &&& 2 ^ a))).map (a :: ·) else [])).foldl (fun b p => updB M b (extS M l p)) b = tryL M r l rest b i
  | 0 => rfl
  | i + 1 => by
    rw [List.range_succ, List.flatMap_append, List.foldl_append, tryL_eq M r l rest b i, tryL]
    simp only [List.flatMap_cons, List.flatMap_nil, List.append_nil]
    split
    · rw [List.foldl_map]; rfl
    · rfl
theorem tryF_succ (M : Mem) (r : Nat) (l : List (Nat × Int)) (rest : Nat) (b : Bst) : tryF M (r + 1) l rest b = tryL M r l rest b 6 := by
  rw [tryF, prm]
  exact tryL_eq M r l rest b 6
/-- the days of an order begin in their order, within its days -/
def okL (M : Mem) (l : List (Nat × Int)) : Prop := (∀ x ∈ l, x.1 < 6 ∧ 0 ≤ x.2 ∧ x.2 ≤ lastB l) ∧ lastB l ≤ daysL M l
theorem lastB_app (l : List (Nat × Int)) (x : Nat × Int) : lastB (l ++ [x]) = x.2 := by simp [lastB]
theorem dayS_rng (M : Mem) (l : List (Nat × Int)) (a : Nat) : ∀ (n : Nat) (day : Int), day ≤ dayS M l a n day ∧ dayS M l a n day ≤ day + n
  | 0, day => by simp [dayS]
  | n + 1, day => by
    have := dayS_rng M l a n (day + 1)
    rw [dayS]
    split <;> omega
theorem fdy_rng {M : Mem} {l : List (Nat × Int)} (h : okL M l) (a : Nat) : lastB l ≤ fdy M l a ∧ fdy M l a ≤ daysL M l := by
  have := dayS_rng M l a (daysL M l - lastB l).toNat (lastB l)
  have := h.2
  unfold fdy
  omega
theorem lastB_nn {M : Mem} {l : List (Nat × Int)} (h : okL M l) : 0 ≤ lastB l := by
  unfold lastB
  cases hx : l.getLast? with
  | none => exact Int.le_refl 0
  | some x => exact (h.1 x (List.mem_of_getLast? hx)).2.1
theorem okL_add {M : Mem} {l : List (Nat × Int)} (h : okL M l) {a : Nat} (ha : a < 6) (hd : ∀ a, a < 6 → 1 ≤ M 12 0 a ∧ M 12 0 a ≤ 9) : okL M (addA M l a) ∧ daysL M (addA M l a) = max (daysL M l) (fdy M l a + M 12 0 a) ∧ daysL M (addA M l a) ≤ daysL M l + 9 := by
  have f := fdy_rng h a
  have hn := lastB_nn h
  have hda := hd a ha
  have e : daysL M (addA M l a) = max (daysL M l) (fdy M l a + M 12 0 a) := daysL_app M l (a, fdy M l a) (by simp only [endD]; omega)
  refine ⟨⟨fun x hx => ?_, ?_⟩, e, by omega⟩
  · rw [addA, lastB_app]
    rcases List.mem_append.mp hx with hx | hx
    · have := h.1 x hx
      exact ⟨this.1, this.2.1, by show x.2 ≤ fdy M l a; omega⟩
    · rw [List.mem_singleton] at hx
      subst hx
      exact ⟨ha, by show 0 ≤ fdy M l a; omega, Int.le_refl _⟩
  · rw [e, addA, lastB_app]
    show fdy M l a ≤ _
    omega
theorem extS_ge {M : Mem} (hd : ∀ a, a < 6 → 1 ≤ M 12 0 a ∧ M 12 0 a ≤ 9) : ∀ (p : List Nat) (l : List (Nat × Int)), okL M l → (∀ a ∈ p, a < 6) → daysL M l ≤ daysL M (extS M l p)
  | [], l, _, _ => Int.le_refl _
  | a :: p, l, h, hp => by
    obtain ⟨h1, h2, h3⟩ := okL_add h (hp a List.mem_cons_self) hd
    have := extS_ge hd p (addA M l a) h1 (fun b hb => hp b (List.mem_cons_of_mem _ hb))
    show daysL M l ≤ daysL M (extS M (addA M l a) p)
    omega
theorem prm_lt : ∀ (r rest : Nat), ∀ p ∈ prm r rest, ∀ a ∈ p, a < 6
  | 0, rest, p, hp, a, ha => by
    rw [prm, List.mem_singleton] at hp
    subst hp
    cases ha
  | r + 1, rest, p, hp, a, ha => by
    rw [prm] at hp
    obtain ⟨b, hb, hp2⟩ := List.mem_flatMap.mp hp
    split at hp2
    · obtain ⟨p2, hp3, rfl⟩ := List.mem_map.mp hp2
      rcases List.mem_cons.mp ha with ha | ha
      · subst ha; exact List.mem_range.mp hb
      · exact prm_lt r _ p2 hp3 a ha
    · cases hp2
theorem tryF_cut {M : Mem} (hd : ∀ a, a < 6 → 1 ≤ M 12 0 a ∧ M 12 0 a ≤ 9) {r : Nat} {l : List (Nat × Int)} {rest : Nat} {b : Bst} (h : okL M l) (hb : b.1 ≤ daysL M l) : tryF M r l rest b = b := by
  have : ∀ ps : List (List Nat), (∀ p ∈ ps, ∀ a ∈ p, a < 6) → ps.foldl (fun b p => updB M b (extS M l p)) b = b := by
    intro ps
    induction ps with
    | nil => intro _; rfl
    | cons p ps ih =>
      intro hp
      have h1 := extS_ge hd p l h (hp p List.mem_cons_self)
      rw [List.foldl_cons, updB, if_neg (by omega)]
      exact ih (fun q hq => hp q (List.mem_cons_of_mem _ hq))
  exact this _ (prm_lt r rest)
/-- the planner's rows hold an order; the best one -/
def holdL (o b : Nat → Int) (l : List (Nat × Int)) : Prop := ∀ (i : Nat) (x : Nat × Int), l[i]? = some x → o i = (x.1 : Int) ∧ b i = x.2
def plM (M : Mem) (o b bo bb : Nat → Int) (bd : Int) : Mem := upR (upR (upR (upR (up M 1 0 7 bd) 14 0 o) 15 0 b) 16 0 bo) 17 0 bb
theorem plM_ne {M : Mem} {o b bo bb : Nat → Int} {bd : Int} {x y z : Nat} (h : x ≠ 14 ∧ x ≠ 15 ∧ x ≠ 16 ∧ x ≠ 17) (h2 : x ≠ 1 ∨ z ≠ 7) : plM M o b bo bb bd x y z = M x y z := by
  unfold plM
  rw [upR_ne (by omega), upR_ne (by omega), upR_ne (by omega), upR_ne (by omega), up_ne (by omega)]
theorem plM_14 (M : Mem) (o b bo bb : Nat → Int) (bd : Int) (k : Nat) : plM M o b bo bb bd 14 0 k = o k := by simp [plM, upR]
theorem plM_15 (M : Mem) (o b bo bb : Nat → Int) (bd : Int) (k : Nat) : plM M o b bo bb bd 15 0 k = b k := by simp [plM, upR]
theorem plM_16 (M : Mem) (o b bo bb : Nat → Int) (bd : Int) (k : Nat) : plM M o b bo bb bd 16 0 k = bo k := by simp [plM, upR]
theorem plM_17 (M : Mem) (o b bo bb : Nat → Int) (bd : Int) (k : Nat) : plM M o b bo bb bd 17 0 k = bb k := by simp [plM, upR]
theorem plM_bd (M : Mem) (o b bo bb : Nat → Int) (bd : Int) : plM M o b bo bb bd 1 0 7 = bd := by simp [plM, upR, up]
theorem plM_u14 (M : Mem) (o b bo bb : Nat → Int) (bd : Int) (k : Nat) (z : Int) : up (plM M o b bo bb bd) 14 0 k z = plM M (fun c => if c = k then z else o c) b bo bb bd := by
  funext x y c
  simp only [plM, up, upR]
  grind
theorem plM_u15 (M : Mem) (o b bo bb : Nat → Int) (bd : Int) (k : Nat) (z : Int) : up (plM M o b bo bb bd) 15 0 k z = plM M o (fun c => if c = k then z else b c) bo bb bd := by
  funext x y c
  simp only [plM, up, upR]
  grind
theorem plM_ubd (M : Mem) (o b bo bb : Nat → Int) (bd z : Int) : up (plM M o b bo bb bd) 1 0 7 z = plM M o b bo bb z := by
  funext x y c
  simp only [plM, up, upR]
  grind
theorem plM_r16 (M : Mem) (o b bo bb : Nat → Int) (bd : Int) (g : Nat → Int) : upR (plM M o b bo bb bd) 16 0 g = plM M o b g bb bd := by
  funext x y c
  simp only [plM, up, upR]
  grind
theorem plM_r17 (M : Mem) (o b bo bb : Nat → Int) (bd : Int) (g : Nat → Int) : upR (plM M o b bo bb bd) 17 0 g = plM M o b bo g bd := by
  funext x y c
  simp only [plM, up, upR]
  grind

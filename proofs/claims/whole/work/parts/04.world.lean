/-! ===== the world: whole numbers by family, index and place ===== -/
def vi (z : Int) : Value := .int (Int32.ofInt z)
def vl (z : Int) : Value := .long (Int64.ofInt z)
abbrev Mem : Type := Nat → Nat → Nat → Int
def up (M : Mem) (f i k : Nat) (z : Int) : Mem := fun a b c => if a = f ∧ b = i ∧ c = k then z else M a b c
/-- numbers of a world: class numbers and slots, the array kinds' numbers, addresses by family and index, the texts' addresses -/
abbrev Gx : Type := va_G × (Nat → ClassId) × (Nat → Nat → Nat) × (Nat → Nat) × (Nat → Nat)
def ad (G : Gx) (f i : Nat) : Nat := G.2.2.1 f i
def rf (G : Gx) (f i : Nat) : Value := .ref (ad G f i)
def cy (G : Gx) (k : Nat) : ClassId := G.2.1 k
/-- how many of a family there are -/
def cnt (f : Nat) : Nat := if f = 3 ∨ f = 7 ∨ f = 19 ∨ f = 20 ∨ f = 21 ∨ f = 22 ∨ f = 30 ∨ f = 31 then 10 else if f = 5 ∨ f = 25 ∨ f = 26 ∨ f = 27 ∨ f = 28 then 14 else if f ≤ 34 then 1 else if 40 ≤ f ∧ f ≤ 65 then 1 else 0
/-- the kind of a family: 0 an object (its number, its fields: 0 a number, f + 1 the cell of family f), 1 ints, 2 longs, 3 booleans, 4 5 6 cells of a family -/
def kd (f : Nat) : Nat × Nat × List Nat := match f with
  | 0 => (0, 0, [11, 12, 0, 0, 0])
  | 1 => (0, 1, [13, 14, 15, 16, 17, 18, 0, 0])
  | 2 => (0, 2, [19])
  | 3 => (0, 3, [0, 0, 0, 0, 20, 21, 22, 23, 0])
  | 4 => (0, 4, [24, 25, 0])
  | 5 => (0, 5, [0, 0, 0, 0, 26, 27, 0, 0, 0, 28, 29, 0, 0])
  | 6 => (0, 6, [30, 0, 0, 0])
  | 7 => (0, 7, [31, 32, 0])
  | 8 => (0, 8, [1, 33, 3, 7, 5, 2, 34, 35, 0, 0])
  | 9 => (0, 9, [41, 0, 0, 42, 43, 44, 45, 46, 47, 48, 49, 50, 51, 52, 53, 54, 55, 56, 57, 0, 58, 59, 0, 0, 0, 0, 60, 61, 62, 63, 0, 0, 64, 0, 0, 0, 65, 66])
  | 10 => (5, 14, [5])
  | 11 => (1, 14, [])
  | 12 => (1, 6, [])
  | 13 => (1, 6, [])
  | 14 => (1, 6, [])
  | 15 => (1, 6, [])
  | 16 => (1, 6, [])
  | 17 => (1, 6, [])
  | 18 => (2, 10, [])
  | 19 => (1, 3, [])
  | 20 => (1, 3, [])
  | 21 => (1, 3, [])
  | 22 => (3, 3, [])
  | 23 => (4, 10, [3])
  | 24 => (1, 5, [])
  | 25 => (1, 10, [])
  | 26 => (1, 10, [])
  | 27 => (1, 8, [])
  | 28 => (1, 8, [])
  | 29 => (1, 80, [])
  | 30 => (1, 4, [])
  | 31 => (1, 4, [])
  | 32 => (6, 10, [7])
  | 33 => (1, 10, [])
  | 34 => (1, 9, [])
  | 40 => (1, 9, [])
  | 41 => (1, 14, [])
  | 42 => (1, 14, [])
  | 43 => (1, 14, [])
  | 44 => (1, 14, [])
  | 45 => (1, 280, [])
  | 46 => (1, 14, [])
  | 47 => (1, 14, [])
  | 48 => (1, 14, [])
  | 49 => (1, 14, [])
  | 50 => (1, 112, [])
  | 51 => (1, 112, [])
  | 52 => (1, 10, [])
  | 53 => (1, 40, [])
  | 54 => (1, 40, [])
  | 55 => (2, 10, [])
  | 56 => (1, 6, [])
  | 57 => (1, 170, [])
  | 58 => (1, 80, [])
  | 59 => (1, 6, [])
  | 60 => (1, 6, [])
  | 61 => (1, 6, [])
  | 62 => (1, 6, [])
  | 63 => (1, 14, [])
  | 64 => (1, 10, [])
  | 65 => (1, 10, [])
  | _ => (1, 0, [])
/-- the fields of an object of a family -/
def objF (G : Gx) (M : Mem) (f i : Nat) : List Value := (kd f).2.2.mapIdx (fun j d => if d = 0 then vi (M f i j) else rf G (d - 1) i)
def cellOf (G : Gx) (M : Mem) (f i : Nat) : va_E :=
  if (kd f).1 = 0 then .inr ((kd f).2.1, objF G M f i)
  else if (kd f).1 = 1 then .inl (cy G 0, (kd f).2.1, .inl (fun p => Int32.ofInt (M f i p)))
  else if (kd f).1 = 2 then .inl (cy G 1, (kd f).2.1, .inr (.inl (fun p => Int64.ofInt (M f i p))))
  else if (kd f).1 = 3 then .inl (cy G 2, (kd f).2.1, .inl (fun p => Int32.ofInt (M f i p)))
  else .inl (cy G ((kd f).1 - 1), (kd f).2.1, .inr (.inr (.inr (.inr (fun p => some (ad G ((kd f).2.2.getD 0 0) p))))))
/-- the heap holds the numbers M -/
def HW (G : Gx) (M : Mem) (H : Heap) : Prop := ∀ f i : Nat, i < cnt f → va_at G.1 vwCl (ad G f i, cellOf G M f i) H
def GOk (G : Gx) : Prop := ∀ f i f2 i2 : Nat, i < cnt f → i2 < cnt f2 → ad G f i = ad G f2 i2 → f = f2 ∧ i = i2
def Ar (G : Gx) : Nat → Prop := fun q => ∃ f i : Nat, i < cnt f ∧ q = ad G f i
def tysG (G : Gx) : List (ClassId × FieldType) := [(cy G 0, .int), (cy G 1, .long), (cy G 2, .boolean), (cy G 3, .object "BazaarBook$Rule"), (cy G 4, .object "BazaarBook$Shop"), (cy G 5, .object "BazaarBook$Will")]
theorem up_same (M : Mem) (f i k : Nat) (z : Int) : up M f i k z f i k = z := by simp [up]
theorem up_ne {M : Mem} {f i k : Nat} {z : Int} {a b c : Nat} (h : ¬ (a = f ∧ b = i ∧ c = k)) : up M f i k z a b c = M a b c := by simp only [up, if_neg h]
theorem cellOf_cong {G : Gx} {M M2 : Mem} {f i : Nat} (h : ∀ k, M f i k = M2 f i k) : cellOf G M f i = cellOf G M2 f i := by
  simp only [cellOf, objF, h]
theorem cellOf_up_ne {G : Gx} {M : Mem} {f i k f2 i2 : Nat} {z : Int} (h : ¬ (f2 = f ∧ i2 = i)) : cellOf G (up M f i k z) f2 i2 = cellOf G M f2 i2 := cellOf_cong (fun j => up_ne (fun q => h ⟨q.1, q.2.1⟩))
theorem cellOf_obj (G : Gx) (M : Mem) {f : Nat} (i : Nat) {ci : Nat} {fl : List Nat} (h : kd f = (0, ci, fl)) : cellOf G M f i = .inr (ci, objF G M f i) := by
  simp [cellOf, h]
theorem objF_int (G : Gx) (M : Mem) {f : Nat} (i : Nat) {ci : Nat} {fl : List Nat} (h : kd f = (0, ci, fl)) {j : Nat} (hj : fl[j]? = some 0) : (objF G M f i)[j]? = some (vi (M f i j)) := by
  simp [objF, h, List.getElem?_mapIdx, hj]
theorem objF_ref (G : Gx) (M : Mem) {f : Nat} (i : Nat) {ci : Nat} {fl : List Nat} (h : kd f = (0, ci, fl)) {j d : Nat} (hj : fl[j]? = some (d + 1)) : (objF G M f i)[j]? = some (rf G d i) := by
  simp [objF, h, List.getElem?_mapIdx, hj]
theorem objF_set (G : Gx) (M : Mem) {f : Nat} (i : Nat) {ci : Nat} {fl : List Nat} (h : kd f = (0, ci, fl)) {j : Nat} (hj : fl[j]? = some 0) (z : Int) : (objF G M f i).set j (vi z) = objF G (up M f i j z) f i := by
  apply List.ext_getElem?
  intro k
  have hl : j < fl.length := (List.getElem?_eq_some_iff.mp hj).1
  by_cases hk : k = j
  · subst hk
    rw [List.getElem?_set_self (by simpa [objF, h] using hl)]
    simp only [objF, h, List.getElem?_mapIdx, hj, up_same, Option.map_some, if_true]
  · rw [List.getElem?_set_ne (fun q => hk q.symm)]
    simp only [objF, h, List.getElem?_mapIdx]
    rw [up_ne (fun q => hk q.2.2)]
theorem objF_len (G : Gx) (M : Mem) {f : Nat} (i : Nat) {ci : Nat} {fl : List Nat} (h : kd f = (0, ci, fl)) : (objF G M f i).length = fl.length := by simp [objF, h]
theorem cellOf_i (G : Gx) (M : Mem) {f : Nat} (i : Nat) {n : Nat} {x : List Nat} (h : kd f = (1, n, x)) : cellOf G M f i = .inl (cy G 0, n, .inl (fun p => Int32.ofInt (M f i p))) := by
  simp [cellOf, h]
theorem cellOf_l (G : Gx) (M : Mem) {f : Nat} (i : Nat) {n : Nat} {x : List Nat} (h : kd f = (2, n, x)) : cellOf G M f i = .inl (cy G 1, n, .inr (.inl (fun p => Int64.ofInt (M f i p)))) := by
  simp [cellOf, h]
theorem cellOf_z (G : Gx) (M : Mem) {f : Nat} (i : Nat) {n : Nat} {x : List Nat} (h : kd f = (3, n, x)) : cellOf G M f i = .inl (cy G 2, n, .inl (fun p => Int32.ofInt (M f i p))) := by
  simp [cellOf, h]
theorem cellOf_r (G : Gx) (M : Mem) {f : Nat} (i : Nat) {t n g : Nat} (h : kd f = (t + 4, n, [g])) : cellOf G M f i = .inl (cy G (t + 3), n, .inr (.inr (.inr (.inr (fun p => some (ad G g p)))))) := by
  simp [cellOf, h]
/-- writing one number of one cell -/
theorem HW_put {G : Gx} {M : Mem} {H H1 : Heap} {f i k : Nat} {z : Int} (hg : GOk G) (h : HW G M H) (hi : i < cnt f) (h1 : va_at G.1 vwCl (ad G f i, cellOf G (up M f i k z) f i) H1) (ho : ∀ q : Nat, q ≠ ad G f i → H1[q]? = H[q]?) : HW G (up M f i k z) H1 := by
  intro f2 i2 h2
  by_cases hq : f2 = f ∧ i2 = i
  · obtain ⟨rfl, rfl⟩ := hq
    exact h1
  · rw [cellOf_up_ne hq]
    exact (h f2 i2 h2).kept (ho _ (fun e => hq (hg f2 i2 f i h2 hi e)))
theorem HW_one {G : Gx} {M : Mem} {H : Heap} {f i : Nat} (h : HW G M H) (hi : i < cnt f) {e : va_E} (he : cellOf G M f i = e) : va_P G.1 vwCl [(ad G f i, e)] H := by
  intro k q hk
  cases k with
  | zero =>
    simp only [List.getElem?_cons_zero, Option.some.injEq] at hk
    subst hk; subst he
    exact h f i hi
  | succ k => simp at hk
theorem HW_Ar {G : Gx} {f i : Nat} (hi : i < cnt f) : Ar G (ad G f i) := ⟨f, i, hi, rfl⟩
theorem one_D {G : Gx} {f i : Nat} (hi : i < cnt f) {e : va_E} : va_D (Ar G) [(ad G f i, e)] := by
  refine ⟨fun a b p q h1 h2 _ => ?_, fun k q hk => ?_⟩
  · have e1 : a < 1 := (List.getElem?_eq_some_iff.mp h1).1
    have e2 : b < 1 := (List.getElem?_eq_some_iff.mp h2).1
    omega
  · cases k with
    | zero =>
      simp only [List.getElem?_cons_zero, Option.some.injEq] at hk
      subst hk
      exact HW_Ar hi
    | succ k => simp at hk

/-! ===== what plan() answers ===== -/
def lkO (l : List (Nat × Int)) (i : Nat) : Int := match l[i]? with
  | some x => (x.1 : Int)
  | none => 0
def lkB (l : List (Nat × Int)) (i : Nat) : Int := match l[i]? with
  | some x => x.2
  | none => 0
def popN (s : Nat) : Nat := (ctN (fun a => s.testBit a) 6).toNat
def plnB (M : Mem) (s : Nat) : Bst := tryF M (popN s) [] s (1000000, [])
def plnM (M : Mem) (s : Nat) : Mem := upR (upR (up M 1 0 6 (popN s)) 16 0 (lkO (plnB M s).2)) 17 0 (lkB (plnB M s).2)
def f_plan (M : Mem) (a : Int) : Int × Mem := if a < 0 ∨ 63 < a then (-3, rfs M 3) else if a = 0 then (-7, rfs M 7) else ((plnB M a.toNat).1, plnM M a.toNat)
/-- the same but for the planner's scratch -/
def PlE (M2 N : Mem) : Prop := ∀ x y k : Nat, ¬ (x = 1 ∧ k = 7) → x ≠ 14 → x ≠ 15 → ¬ ((x = 16 ∨ x = 17) ∧ N 1 0 6 ≤ k) → M2 x y k = N x y k
theorem prm_len : ∀ (r rest : Nat), ∀ p ∈ prm r rest, p.length = r
  | 0, rest, p, hp => by
    rw [prm, List.mem_singleton] at hp
    subst hp; rfl
  | r + 1, rest, p, hp => by
    rw [prm] at hp
    obtain ⟨b, hb, hp2⟩ := List.mem_flatMap.mp hp
    split at hp2
    · obtain ⟨p2, hp3, rfl⟩ := List.mem_map.mp hp2
      rw [List.length_cons, prm_len r _ p2 hp3]
    · cases hp2
theorem extS_len (M : Mem) : ∀ (p : List Nat) (l : List (Nat × Int)), (extS M l p).length = l.length + p.length
  | [], l => rfl
  | a :: p, l => by
    show (extS M (addA M l a) p).length = _
    rw [extS_len M p]
    simp only [addA, List.length_append, List.length_cons, List.length_nil]
    omega
theorem extS_le {M : Mem} (hd : ∀ a, a < 6 → 1 ≤ M 12 0 a ∧ M 12 0 a ≤ 9) : ∀ (p : List Nat) (l : List (Nat × Int)), okL M l → (∀ a ∈ p, a < 6) → daysL M (extS M l p) ≤ daysL M l + 9 * p.length
  | [], l, _, _ => by show daysL M l ≤ _; simp
  | a :: p, l, h, hp => by
    obtain ⟨h1, h2, h3⟩ := okL_add h (hp a List.mem_cons_self) hd
    have := extS_le hd p (addA M l a) h1 (fun b hb => hp b (List.mem_cons_of_mem _ hb))
    show daysL M (extS M (addA M l a) p) ≤ _
    rw [List.length_cons]
    omega
theorem okL_nil (M : Mem) : okL M [] := ⟨fun x hx => absurd hx List.not_mem_nil, by simp [lastB, daysL]⟩
theorem fold_len {M : Mem} {l : List (Nat × Int)} {r : Nat} : ∀ (ps : List (List Nat)) (b : Bst), (∀ p ∈ ps, p.length = r) → b.2.length = l.length + r → (ps.foldl (fun b p => updB M b (extS M l p)) b).2.length = l.length + r
  | [], b, _, hb => hb
  | p :: ps, b, h, hb => by
    rw [List.foldl_cons]
    refine fold_len ps _ (fun q hq => h q (List.mem_cons_of_mem _ hq)) ?_
    unfold updB
    split
    · show (extS M l p).length = _
      rw [extS_len, h p List.mem_cons_self]
    · exact hb
theorem prm_ne : ∀ s : Fin 64, prm (popN s.val) s.val ≠ [] := by decide +kernel
theorem plnB_len {M : Mem} (hd : ∀ a, a < 6 → 1 ≤ M 12 0 a ∧ M 12 0 a ≤ 9) {s : Nat} (hs : s < 64) : (plnB M s).2.length = popN s := by
  unfold plnB tryF
  have h1 := prm_ne ⟨s, hs⟩
  have h2 := prm_len (popN s) s
  have h3 := prm_lt (popN s) s
  have hp6 : popN s ≤ 6 := by
    have := ctN_rng (fun a => s.testBit a) 6
    unfold popN
    omega
  simp only at h1
  cases hp : prm (popN s) s with
  | nil => exact absurd hp h1
  | cons p ps =>
    rw [hp] at h2 h3
    have e1 := extS_le hd p [] (okL_nil M) (h3 p List.mem_cons_self)
    have e2 := h2 p List.mem_cons_self
    have e3 : daysL M [] = 0 := rfl
    rw [List.foldl_cons, updB, if_pos (by show daysL M (extS M [] p) < 1000000; omega)]
    have := fold_len (M := M) (l := []) (r := popN s) ps (daysL M (extS M [] p), extS M [] p) (fun q hq => h2 q (List.mem_cons_of_mem _ hq)) (by show (extS M [] p).length = _; rw [extS_len, e2])
    rw [this]
    simp
theorem plM_PlE {M : Mem} {s : Nat} {o b bo bb : Nat → Int} {bd : Int} (hl : (plnB M s).2.length = popN s) (h : holdL bo bb (plnB M s).2) : PlE (plM (up M 1 0 6 (popN s)) o b bo bb bd) (plnM M s) := by
  have key : ∀ k : Nat, k < popN s → bo k = lkO (plnB M s).2 k ∧ bb k = lkB (plnB M s).2 k := by
    intro k hk
    obtain ⟨x, hx⟩ : ∃ x, (plnB M s).2[k]? = some x := ⟨_, List.getElem?_eq_getElem (show k < (plnB M s).2.length by omega)⟩
    have := h k x hx
    simp only [lkO, lkB, hx]
    exact this
  have e6 : plnM M s 1 0 6 = (popN s : Int) := by simp [plnM, up, upR]
  intro x y k h1 h2 h3 h4
  rw [e6] at h4
  by_cases e : x = 16 ∧ y = 0
  · obtain ⟨rfl, rfl⟩ := e
    have := key k (by omega)
    rw [plM_16, this.1]
    simp [plnM, upR]
  · by_cases e2 : x = 17 ∧ y = 0
    · obtain ⟨rfl, rfl⟩ := e2
      have := key k (by omega)
      rw [plM_17, this.2]
      simp [plnM, upR]
    · unfold plM plnM
      rw [upR_ne e2, upR_ne e, upR_ne (by omega), upR_ne (by omega), upR_ne e2, upR_ne e]
      exact up_ne (by omega)
section CONG
variable {N M : Mem} (h12 : ∀ a, N 12 0 a = M 12 0 a) (h13 : ∀ a, N 13 0 a = M 13 0 a)
theorem endD_cong (h12 : ∀ a, N 12 0 a = M 12 0 a) (x : Nat × Int) : endD N x = endD M x := by simp only [endD, h12]
theorem daysL_cong (h12 : ∀ a, N 12 0 a = M 12 0 a) (l : List (Nat × Int)) : daysL N l = daysL M l := by
  induction l with
  | nil => rfl
  | cons x l ih => simp only [daysL, endD_cong h12, ih]
theorem bsyN_cong (h12 : ∀ a, N 12 0 a = M 12 0 a) (day : Int) (l : List (Nat × Int)) : bsyN N day l = bsyN M day l := by
  induction l with
  | nil => rfl
  | cons x l ih => simp only [bsyN, endD_cong h12, ih]
theorem canB_cong (h12 : ∀ a, N 12 0 a = M 12 0 a) (h13 : ∀ a, N 13 0 a = M 13 0 a) (l : List (Nat × Int)) (a : Nat) (day : Int) : canB N l a day = canB M l a day := by
  simp only [canB, freeB, bsyN_cong h12, endD_cong h12, h13]
theorem dayS_cong (h12 : ∀ a, N 12 0 a = M 12 0 a) (h13 : ∀ a, N 13 0 a = M 13 0 a) (l : List (Nat × Int)) (a : Nat) : ∀ (n : Nat) (day : Int), dayS N l a n day = dayS M l a n day
  | 0, day => rfl
  | n + 1, day => by simp only [dayS, canB_cong h12 h13, dayS_cong h12 h13 l a n]
theorem addA_cong (h12 : ∀ a, N 12 0 a = M 12 0 a) (h13 : ∀ a, N 13 0 a = M 13 0 a) (l : List (Nat × Int)) (a : Nat) : addA N l a = addA M l a := by
  simp only [addA, fdy, daysL_cong h12, dayS_cong h12 h13]
theorem extS_cong (h12 : ∀ a, N 12 0 a = M 12 0 a) (h13 : ∀ a, N 13 0 a = M 13 0 a) (p : List Nat) (l : List (Nat × Int)) : extS N l p = extS M l p := by
  unfold extS
  rw [show addA N = addA M from funext (fun l => funext (fun a => addA_cong h12 h13 l a))]
theorem tryF_cong (h12 : ∀ a, N 12 0 a = M 12 0 a) (h13 : ∀ a, N 13 0 a = M 13 0 a) (r : Nat) (l : List (Nat × Int)) (rest : Nat) (b : Bst) : tryF N r l rest b = tryF M r l rest b := by
  unfold tryF
  congr 1
  funext b p
  simp only [updB, extS_cong h12 h13, daysL_cong h12]
end CONG

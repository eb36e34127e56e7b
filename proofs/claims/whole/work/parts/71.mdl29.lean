/-! ===== the reference: the next order ===== -/
def swp (p : List Nat) (a b : Nat) : List Nat := (p.set a (p.getD b 0)).set b (p.getD a 0)
def nxI (p : List Nat) : Nat → Option Nat
  | 0 => none
  | j + 1 => if p.getD (j + 1) 0 < p.getD j 0 then nxI p j else some j
def nxK (p : List Nat) (v : Nat) : Nat → Nat
  | 0 => 0
  | k + 1 => if p.getD (k + 1) 0 < v then nxK p v k else k + 1
def nxR : Nat → List Nat → Nat → Nat → List Nat
  | 0, p, _, _ => p
  | f + 1, p, a, b => if a < b then nxR f (swp p a b) (a + 1) (b - 1) else p
def nxP (p : List Nat) : Option (List Nat) := match nxI p (p.length - 1) with
  | none => none
  | some i => some (nxR 3 (swp p i (nxK p (p.getD i 0) (p.length - 1))) (i + 1) (p.length - 1))
def ascL (s : Nat) : Nat → List Nat
  | 0 => []
  | i + 1 => if s.testBit i = true then ascL s i ++ [i] else ascL s i
def chnB : List (List Nat) → Bool
  | [] => true
  | [p] => nxP p == none
  | p :: q :: r => (nxP p == some q) && chnB (q :: r)
theorem chn_ok : ∀ s : Fin 64, chnB (prm (popN s.val) s.val) = true := by decide +kernel
theorem chn_hd : ∀ s : Fin 64, (prm (popN s.val) s.val).head? = some (ascL s.val 6) := by decide +kernel
/-- a row holds an order, place by place -/
def hoG (o : Nat → Int) (p : List Nat) : Prop := ∀ i, i < p.length → o i = ((p.getD i 0 : Nat) : Int)
theorem hoG_P {o : Nat → Int} {p : List Nat} (h : hoG o p) : hoP o p := by
  intro i a hi
  have hl := (List.getElem?_eq_some_iff.mp hi).1
  rw [h i hl, List.getD_eq_getElem?_getD, hi]; rfl
def swO (o : Nat → Int) (a b : Nat) : Nat → Int := fun c => if c = b then o a else if c = a then o b else o c
theorem swp_len (p : List Nat) (a b : Nat) : (swp p a b).length = p.length := by simp [swp]
theorem hoG_swp {o : Nat → Int} {p : List Nat} {a b : Nat} (h : hoG o p) (ha : a < p.length) (hb : b < p.length) : hoG (swO o a b) (swp p a b) := by
  intro i hi
  rw [swp_len] at hi
  unfold swO swp
  rw [List.getD_eq_getElem?_getD]
  by_cases e1 : i = b
  · subst e1
    rw [if_pos rfl, h a ha, List.getElem?_set_self (by simpa using hb)]; rfl
  · rw [if_neg e1, List.getElem?_set_ne (fun z => e1 z.symm)]
    by_cases e2 : i = a
    · subst e2
      rw [if_pos rfl, h b hb, List.getElem?_set_self (by simpa using ha)]; rfl
    · rw [if_neg e2, List.getElem?_set_ne (fun z => e2 z.symm), h i hi, List.getD_eq_getElem?_getD]
theorem m_swap (l : Launch) (G : Gx) (M : Mem) {n : Int} {o b bo bb : Nat → Int} {i k : Nat} (hi : i < 6) (hk : k < 6) : Ct l G 1 yX9_swap cX9_swap 4 ((Option.none : Option Jvm.ClassFile.FieldType)) [rf G 9 0, vi (i : Nat), vi (k : Nat)] (plW M n o b bo bb) (VF (plW M n (swO o i k) b bo bb)) := by
  refine Ct.of rfl (Nat.le_of_ble_eq_true rfl) rfl (fun E X => ?_)
  have Y := X.ok
  refine J_aloadr_0 Y qX9_swap_0 ?_
  refine J_getR Y qX9_swap_1 fX9_68 (by decide) ?_
  refine J_iload_1 Y qX9_swap_4 ?_
  refine J_ialoadN (kx := i) Y qX9_swap_5 rfl (by decide) rfl (by omega) (by decide) ?_
  rw [plW_59]
  refine J_istore_3 Y qX9_swap_6 rfl ?_
  refine J_aloadr_0 Y qX9_swap_7 ?_
  refine J_getR Y qX9_swap_8 fX9_68 (by decide) ?_
  refine J_iload_1 Y qX9_swap_11 ?_
  refine J_aloadr_0 Y qX9_swap_12 ?_
  refine J_getR Y qX9_swap_13 fX9_68 (by decide) ?_
  refine J_iload_2 Y qX9_swap_16 ?_
  refine J_ialoadN (kx := k) Y qX9_swap_17 rfl (by decide) rfl (by omega) (by decide) ?_
  rw [plW_59]
  refine J_iastoreN (kx := i) Y qX9_swap_18 rfl (by decide) rfl (by omega) (by decide) ?_
  rw [plW_u59]
  refine J_aloadr_0 Y qX9_swap_19 ?_
  refine J_getR Y qX9_swap_20 fX9_68 (by decide) ?_
  refine J_iload_2 Y qX9_swap_23 ?_
  refine J_iload_3 Y qX9_swap_24 ?_
  refine J_iastoreN (kx := k) Y qX9_swap_25 rfl (by decide) rfl (by omega) (by decide) ?_
  rw [plW_u59]
  exact J_vret X qX9_swap_26 ⟨rfl, rfl⟩

theorem lp_mt3 {l : Launch} {G : Gx} {E : Fx} {M : Mem} {b bo bb : Nat → Int} {n : Nat} (n1 : 1 ≤ n) (n6 : n ≤ 6) {P : Option Value → Mem → Prop} {z1 z2 : Int} {tg : List Nat} (hP : ∀ o2 : Nat → Int, hoG o2 tg → P (some (vi 1)) (plW M (n : Int) o2 b bo bb)) (X : OkM l G E cX9_turns RX9 5 2 (some .boolean) P) : ∀ (f : Nat) (q : List Nat) (o : Nat → Int) (a c : Nat), a + c ≤ 12 → c < n → hoG o q → q.length = n → c ≤ a + 2 * f → nxR f q a c = tg → J G E 86 [some (rf G 9 0), some (vi z1), some (vi z2), some (vi (a : Int)), some (vi (c : Int))] [] (plW M (n : Int) o b bo bb) := by
  have Y := X.ok
  intro f
  induction f with
  | zero =>
    intro q o a c h0 h1 h2 h3 h4 h5
    refine J_iload_3 Y qX9_turns_86 ?_
    refine J_iload_4 Y qX9_turns_87 ?_
    refine J_icmp_ge Y qX9_turns_89 (by omega) (by omega) (by omega) (by omega) (fun h89 => ?_) (fun h89 => ?_)
    · refine J_iconst Y qX9_turns_108 ?_
      exact J_zret X qX9_turns_109 (Or.inr rfl) (hP o (h5 ▸ h2))
    · exfalso; omega

  | succ f ih =>
    intro q o a c h0 h1 h2 h3 h4 h5
    refine J_iload_3 Y qX9_turns_86 ?_
    refine J_iload_4 Y qX9_turns_87 ?_
    refine J_icmp_ge Y qX9_turns_89 (by omega) (by omega) (by omega) (by omega) (fun h89 => ?_) (fun h89 => ?_)
    · refine J_iconst Y qX9_turns_108 ?_
      rw [nxR, if_neg (by omega)] at h5
      exact J_zret X qX9_turns_109 (Or.inr rfl) (hP o (h5 ▸ h2))
    · skip
      refine J_aloadr_0 Y qX9_turns_92 ?_
      refine J_iload_3 Y qX9_turns_93 ?_
      refine J_iload_4 Y qX9_turns_94 ?_
      refine J_cV2W Y qX9_turns_96 mX9_193 iyX9_swap (by decide) rfl (by decide) rfl (Nat.le_of_ble_eq_true rfl) (m_swap _ _ _ (by omega) (by omega)) ?_
      refine J_iinc_3 Y qX9_turns_99 rfl ?_
      refine J_iinc_4 Y qX9_turns_102 rfl ?_
      refine J_goto Y qX9_turns_105 ?_
      rw [show (a : Int) + 1 = ((a + 1 : Nat) : Int) by omega, show (c : Int) + -1 = ((c - 1 : Nat) : Int) by omega]
      exact ih (swp q a c) (swO o a c) (a + 1) (c - 1) (by omega) (by omega) (hoG_swp h2 (by omega) (by omega)) (by rw [swp_len]; exact h3) (by omega) (by rw [← h5, nxR, if_pos (by omega)])

theorem lp_mt2 {l : Launch} {G : Gx} {E : Fx} {M : Mem} {b bo bb : Nat → Int} {n : Nat} (n1 : 1 ≤ n) (n6 : n ≤ 6) {P : Option Value → Mem → Prop} {o : Nat → Int} {p : List Nat} (hn : p.length = n) (ho : hoG o p) (hpa : ∀ a ∈ p, a < 6) {i : Nat} (hi : i + 1 < n) (hle : p.getD i 0 ≤ p.getD (i + 1) 0) {x3 x4 : Option Value} (hP : ∀ o2 : Nat → Int, hoG o2 (nxR 3 (swp p i (nxK p (p.getD i 0) (n - 1))) (i + 1) (n - 1)) → P (some (vi 1)) (plW M (n : Int) o2 b bo bb)) (X : OkM l G E cX9_turns RX9 5 2 (some .boolean) P) : ∀ (k : Nat), i + 1 ≤ k → k < n → nxK p (p.getD i 0) k = nxK p (p.getD i 0) (n - 1) → J G E 47 [some (rf G 9 0), some (vi (i : Int)), some (vi (k : Int)), x3, x4] [] (plW M (n : Int) o b bo bb) := by
  have Y := X.ok
  have o1 := ho
  have rg : ∀ j, j < n → 0 ≤ o j ∧ o j ≤ 5 := fun j hj => by
    rw [ho j (by omega)]
    have := hpa (p.getD j 0) (by rw [List.getD_eq_getElem?_getD, List.getElem?_eq_getElem (by omega)]; exact List.getElem_mem _)
    omega
  intro k
  induction k with
  | zero => intro h1 h2 h3; exfalso; omega
  | succ k ih =>
    intro h1 h2 h3
    refine J_aloadr_0 Y qX9_turns_47 ?_
    refine J_getR Y qX9_turns_48 fX9_68 (by decide) ?_
    refine J_iload_2 Y qX9_turns_51 ?_
    refine J_ialoadN (kx := (k + 1)) Y qX9_turns_52 rfl (by decide) rfl (by omega) (by decide) ?_
    have r1 := rg (k + 1) (by omega)
    have r2 := rg i (by omega)
    rw [plW_59]
    refine J_aloadr_0 Y qX9_turns_53 ?_
    refine J_getR Y qX9_turns_54 fX9_68 (by decide) ?_
    refine J_iload_1 Y qX9_turns_57 ?_
    refine J_ialoadN (kx := i) Y qX9_turns_58 rfl (by decide) rfl (by omega) (by decide) ?_
    rw [plW_59]
    refine J_icmp_ge Y qX9_turns_59 (by omega) (by omega) (by omega) (by omega) (fun h59 => ?_) (fun h59 => ?_)
    · have hkk : nxK p (p.getD i 0) (n - 1) = k + 1 := by
        rw [← h3, nxK, if_neg (by rw [ho (k + 1) (by omega), ho i (by omega)] at h59; omega)]
      refine J_aloadr_0 Y qX9_turns_68 ?_
      refine J_iload_1 Y qX9_turns_69 ?_
      refine J_iload_2 Y qX9_turns_70 ?_
      refine J_cV2W Y qX9_turns_71 mX9_193 iyX9_swap (by decide) rfl (by decide) rfl (Nat.le_of_ble_eq_true rfl) (m_swap _ _ _ (by omega) (by omega)) ?_
      refine J_iload_1 Y qX9_turns_74 ?_
      refine J_iconst Y qX9_turns_75 ?_
      refine J_iadd Y qX9_turns_76 ?_
      rw [show (i : Int) + 1 = ((i + 1 : Nat) : Int) by omega]
      refine J_istore_3 Y qX9_turns_77 rfl ?_
      refine J_aloadr_0 Y qX9_turns_78 ?_
      refine J_getI Y qX9_turns_79 fX9_186 (by decide) ?_
      rw [plW_30]
      refine J_iconst Y qX9_turns_82 ?_
      refine J_isub Y qX9_turns_83 ?_
      rw [show (n : Int) - 1 = ((n - 1 : Nat) : Int) by omega]
      refine J_istore_4 Y qX9_turns_84 rfl ?_
      exact lp_mt3 n1 n6 (tg := nxR 3 (swp p i (nxK p (p.getD i 0) (n - 1))) (i + 1) (n - 1)) hP X 3 (swp p i (k + 1)) (swO o i (k + 1)) (i + 1) (n - 1) (by omega) (by omega) (hoG_swp ho (by omega) (by omega)) (by rw [swp_len]; exact hn) (by omega) (by rw [hkk])
    · refine J_iinc_2 Y qX9_turns_62 rfl ?_
      refine J_goto Y qX9_turns_65 ?_
      rw [show ((k + 1 : Nat) : Int) + -1 = (k : Int) by omega]
      exact ih (by
        by_cases e : k = i
        · subst e; exfalso
          rw [ho k (by omega), ho (k + 1) (by omega)] at h59
          omega
        · omega) (by omega) (by rw [← h3, nxK, if_pos (by rw [ho (k + 1) (by omega), ho i (by omega)] at h59; omega)])

theorem lp_mt1 {l : Launch} {G : Gx} {E : Fx} {M : Mem} {b bo bb : Nat → Int} {n : Nat} (n1 : 1 ≤ n) (n6 : n ≤ 6) {P : Option Value → Mem → Prop} {o : Nat → Int} {p : List Nat} (hn : p.length = n) (ho : hoG o p) (hpa : ∀ a ∈ p, a < 6) {x2 x3 x4 : Option Value} (hP1 : nxI p (n - 1) = none → P (some (vi 0)) (plW M (n : Int) o b bo bb)) (hP2 : ∀ i, nxI p (n - 1) = some i → ∀ o2 : Nat → Int, hoG o2 (nxR 3 (swp p i (nxK p (p.getD i 0) (n - 1))) (i + 1) (n - 1)) → P (some (vi 1)) (plW M (n : Int) o2 b bo bb)) (X : OkM l G E cX9_turns RX9 5 2 (some .boolean) P) : ∀ (j : Nat), j + 1 ≤ n → nxI p j = nxI p (n - 1) → J G E 7 [some (rf G 9 0), some (vi ((j : Int) - 1)), x2, x3, x4] [] (plW M (n : Int) o b bo bb) := by
  have Y := X.ok
  have o1 := ho
  have rg : ∀ j, j < n → 0 ≤ o j ∧ o j ≤ 5 := fun j hj => by
    rw [ho j (by omega)]
    have := hpa (p.getD j 0) (by rw [List.getD_eq_getElem?_getD, List.getElem?_eq_getElem (by omega)]; exact List.getElem_mem _)
    omega
  intro j
  induction j with
  | zero =>
    intro h1 h2
    refine J_iload_1 Y qX9_turns_7 ?_
    refine J_if_lt Y qX9_turns_8 (by omega) (by omega) (fun h8 => ?_) (fun h8 => ?_)
    · refine J_iload_1 Y qX9_turns_34 ?_
      refine J_if_ge Y qX9_turns_35 (by omega) (by omega) (fun h35 => ?_) (fun h35 => ?_)
      · exfalso; omega
      · refine J_iconst Y qX9_turns_38 ?_
        exact J_zret X qX9_turns_39 (Or.inl rfl) (hP1 h2.symm)
    · exfalso; omega

  | succ j ih =>
    intro h1 h2
    rw [show ((j + 1 : Nat) : Int) - 1 = (j : Int) by omega]
    refine J_iload_1 Y qX9_turns_7 ?_
    refine J_if_lt Y qX9_turns_8 (by omega) (by omega) (fun h8 => ?_) (fun h8 => ?_)
    · exfalso; omega
    · have r1 := rg j (by omega)
      have r2 := rg (j + 1) (by omega)
      have e1 := ho j (by omega)
      have e2 := ho (j + 1) (by omega)
      refine J_aloadr_0 Y qX9_turns_11 ?_
      refine J_getR Y qX9_turns_12 fX9_68 (by decide) ?_
      refine J_iload_1 Y qX9_turns_15 ?_
      refine J_ialoadN (kx := j) Y qX9_turns_16 rfl (by decide) rfl (by omega) (by decide) ?_
      rw [plW_59]
      refine J_aloadr_0 Y qX9_turns_17 ?_
      refine J_getR Y qX9_turns_18 fX9_68 (by decide) ?_
      refine J_iload_1 Y qX9_turns_21 ?_
      refine J_iconst Y qX9_turns_22 ?_
      refine J_iadd Y qX9_turns_23 ?_
      rw [show (j : Int) + 1 = ((j + 1 : Nat) : Int) by omega]
      refine J_ialoadN (kx := (j + 1)) Y qX9_turns_24 rfl (by decide) rfl (by omega) (by decide) ?_
      rw [plW_59]
      refine J_icmp_le Y qX9_turns_25 (by omega) (by omega) (by omega) (by omega) (fun h25 => ?_) (fun h25 => ?_)
      · have hI9 : nxI p (n - 1) = some j := by rw [← h2, nxI, if_neg (by omega)]
        refine J_iload_1 Y qX9_turns_34 ?_
        refine J_if_ge Y qX9_turns_35 (by omega) (by omega) (fun h35 => ?_) (fun h35 => ?_)
        · refine J_aloadr_0 Y qX9_turns_40 ?_
          refine J_getI Y qX9_turns_41 fX9_186 (by decide) ?_
          rw [plW_30]
          refine J_iconst Y qX9_turns_44 ?_
          refine J_isub Y qX9_turns_45 ?_
          rw [show (n : Int) - 1 = ((n - 1 : Nat) : Int) by omega]
          refine J_istore_2 Y qX9_turns_46 rfl ?_
          exact lp_mt2 n1 n6 hn ho hpa (by omega) (by omega) (hP2 j hI9) X (n - 1) (by omega) (by omega) rfl
        · exfalso; omega
      · refine J_iinc_1 Y qX9_turns_28 rfl ?_
        refine J_goto Y qX9_turns_31 ?_
        rw [show (j : Int) + -1 = (j : Int) - 1 by omega]
        exact ih (by omega) (by rw [← h2, nxI, if_pos (by omega)])

theorem m_turns (l : Launch) (G : Gx) (M : Mem) {n : Nat} (n1 : 1 ≤ n) (n6 : n ≤ 6) {b bo bb : Nat → Int} {o : Nat → Int} {p : List Nat} (hn : p.length = n) (ho : hoG o p) (hpa : ∀ a ∈ p, a < 6) : Ct l G 2 yX9_turns cX9_turns 5 ((Option.some Jvm.ClassFile.FieldType.boolean)) [rf G 9 0] (plW M (n : Int) o b bo bb) (RI (fun z M2 => ∃ o2 : Nat → Int, M2 = plW M (n : Int) o2 b bo bb ∧ ((z = 0 ∧ nxP p = none) ∨ (z = 1 ∧ ∃ q, nxP p = some q ∧ hoG o2 q)))) := by
  refine Ct.of rfl (Nat.le_of_ble_eq_true rfl) rfl (fun E X => ?_)
  have Y := X.ok
  refine J_aloadr_0 Y qX9_turns_0 ?_
  refine J_getI Y qX9_turns_1 fX9_186 (by decide) ?_
  rw [plW_30]
  refine J_iconst Y qX9_turns_4 ?_
  refine J_isub Y qX9_turns_5 ?_
  rw [show (n : Int) - 2 = ((n - 1 : Nat) : Int) - 1 by omega]
  refine J_istore_1 Y qX9_turns_6 rfl ?_
  refine lp_mt1 n1 n6 hn ho hpa (fun h => ⟨0, rfl, o, rfl, Or.inl ⟨rfl, by unfold nxP; rw [hn, h]⟩⟩) (fun i h o2 g => ⟨1, rfl, o2, rfl, Or.inr ⟨rfl, _, by unfold nxP; rw [hn, h], g⟩⟩) X (n - 1) (by omega) rfl


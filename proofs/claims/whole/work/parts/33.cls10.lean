/-! ===== the class: all orders ===== -/
def TOh (M : Mem) (r : Nat) (o b bo bb : Nat → Int) (l9 : List (Nat × Int)) (rest pl : Nat) (best : Bst) : Prop := holdL o b l9 ∧ okL M l9 ∧ (∀ a, a < 6 → 1 ≤ M 12 0 a ∧ M 12 0 a ≤ 9) ∧ (∀ a, a < 6 → 0 ≤ M 13 0 a ∧ M 13 0 a < 32) ∧ daysL M l9 ≤ 9 * pl ∧ l9.length = pl ∧ pl + r ≤ 6 ∧ rest < 64 ∧ ctN (fun a => rest.testBit a) 6 = r ∧ holdL bo bb best.2 ∧ 0 ≤ best.1 ∧ best.1 ≤ 2147483647
def TOq (M : Mem) (l9 : List (Nat × Int)) (res : Bst) : Mem → Prop := fun M2 => ∃ o2 b2 bo2 bb2 : Nat → Int, M2 = plM M o2 b2 bo2 bb2 res.1 ∧ holdL o2 b2 l9 ∧ holdL bo2 bb2 res.2
def TO (l : Launch) (G : Gx) (r : Nat) : Prop := ∀ (M : Mem) (o b bo bb : Nat → Int) (l9 : List (Nat × Int)) (rest pl : Nat) (best : Bst), TOh M r o b bo bb l9 rest pl best → Ct l G (3 * r + 4) yX1_tryOrders cX1_tryOrders 5 none [rf G 1 0, vi (pl : Int), vi (rest : Int), vi (daysL M l9)] (plM M o b bo bb best.1) (RV (TOq M l9 (tryF M r l9 rest best)))
theorem updB_rng (M : Mem) (b : Bst) (l : List (Nat × Int)) (h : 0 ≤ b.1) : 0 ≤ (updB M b l).1 ∧ (updB M b l).1 ≤ b.1 := by
  have := daysL_nn M l
  unfold updB
  split
  · exact ⟨this, by show daysL M l ≤ b.1; omega⟩
  · exact ⟨h, Int.le_refl _⟩
theorem tryF_rng (M : Mem) (r : Nat) (l : List (Nat × Int)) (rest : Nat) (b : Bst) (h : 0 ≤ b.1) : 0 ≤ (tryF M r l rest b).1 ∧ (tryF M r l rest b).1 ≤ b.1 := by
  unfold tryF
  generalize prm r rest = ps
  induction ps generalizing b with
  | nil => exact ⟨h, Int.le_refl _⟩
  | cons p ps ih =>
    have h1 := updB_rng M b (extS M l p) h
    have := ih (updB M b (extS M l p)) h1.1
    rw [List.foldl_cons]
    omega
theorem tryL_rng (M : Mem) (r : Nat) (l : List (Nat × Int)) (rest : Nat) (b : Bst) (h : 0 ≤ b.1) : ∀ i : Nat, 0 ≤ (tryL M r l rest b i).1 ∧ (tryL M r l rest b i).1 ≤ b.1
  | 0 => ⟨h, Int.le_refl _⟩
  | i + 1 => by
    have h1 := tryL_rng M r l rest b h i
    rw [tryL]
    split
    · have := tryF_rng M r (addA M l i) (rest ^^^ (rest &&& 2 ^ i)) (tryL M r l rest b i) h1.1
      omega
    · exact h1
theorem pop_0 : ∀ s : Fin 64, ctN (fun a => s.val.testBit a) 6 = 0 → s.val = 0 := by decide +kernel
theorem pop_s : ∀ (s : Fin 64) (a : Fin 6), s.val.testBit a.val = true → (s.val ^^^ (s.val &&& 2 ^ a.val)) < 64 ∧ ctN (fun x => (s.val ^^^ (s.val &&& 2 ^ a.val)).testBit x) 6 + 1 = ctN (fun x => s.val.testBit x) 6 := by decide +kernel
theorem holdL_pre {o b : Nat → Int} {l : List (Nat × Int)} {x : Nat × Int} (h : holdL o b (l ++ [x])) : holdL o b l := fun i y hy => h i y (by rw [List.getElem?_append_left (List.getElem?_eq_some_iff.mp hy).1]; exact hy)
theorem holdL_add {o b : Nat → Int} {l : List (Nat × Int)} {a : Nat} {d : Int} {pl : Nat} (h : holdL o b l) (hp : l.length = pl) : holdL (fun c => if c = pl then (a : Int) else o c) (fun c => if c = pl then d else b c) (l ++ [(a, d)]) := by
  intro i y hy
  rcases Nat.lt_or_ge i l.length with q | q
  · rw [List.getElem?_append_left q] at hy
    have := h i y hy
    simp only [if_neg (show ¬ i = pl by omega)]
    exact this
  · rw [List.getElem?_append_right q] at hy
    by_cases e : i = pl
    · subst e
      rw [hp, Nat.sub_self] at hy
      simp only [List.getElem?_cons_zero, Option.some.injEq] at hy
      subst hy
      simp
    · have : i - l.length ≠ 0 := by omega
      cases hq : i - l.length with
      | zero => omega
      | succ k => rw [hq] at hy; simp at hy
theorem holdL_cpy {o b bo bb : Nat → Int} {l : List (Nat × Int)} (h : holdL o b l) (hl : l.length ≤ 6) : holdL (va_cpy o bo 0 0 6) (va_cpy b bb 0 0 6) l := by
  intro i x hx
  have hi : i < 6 := by have := (List.getElem?_eq_some_iff.mp hx).1; omega
  have := h i x hx
  simp only [va_cpy]
  rw [if_pos (by omega), if_pos (by omega)]
  simpa using this

theorem c_tryNext (l : Launch) (G : Gx) (M : Mem) {r : Nat} (hTO : TO l G r) {o b bo bb : Nat → Int} {l9 : List (Nat × Int)} {a rest pl : Nat} {best : Bst} (ha : a < 6) (hh : holdL o b l9) (hok : okL M l9) (hd : ∀ a, a < 6 → 1 ≤ M 12 0 a ∧ M 12 0 a ≤ 9) (hT : ∀ a, a < 6 → 0 ≤ M 13 0 a ∧ M 13 0 a < 32) (hdl : daysL M l9 ≤ 9 * pl) (hpl : l9.length = pl) (pr6 : pl + (r + 1) ≤ 6) (hrest : rest < 64) (hpop : ctN (fun a => rest.testBit a) 6 = r) (hbest : holdL bo bb best.2) (b1 : 0 ≤ best.1) (b2 : best.1 ≤ 2147483647) : Ct l G (3 * r + 5) yX1_tryNext cX1_tryNext 6 ((Option.none : Option Jvm.ClassFile.FieldType)) [rf G 1 0, vi (a : Nat), vi (pl : Nat), vi (rest : Nat), vi (daysL M l9)] (plM M o b bo bb best.1) (RV (TOq M l9 (tryF M r (addA M l9 a) rest best))) := by
  refine Ct.of rfl (Nat.le_of_ble_eq_true rfl) rfl (fun E X => ?_)
  have Y := X.ok
  have hl := lau_eq X
  subst hl
  obtain ⟨k1, k2, k3⟩ := okL_add hok ha hd
  have fr := fdy_rng hok a
  have ln := lastB_nn hok
  have hda := hd a ha
  have hdn := daysL_nn M l9
  refine J_aloadr_0 Y qX1_tryNext_0 ?_
  refine J_iload_1 Y qX1_tryNext_1 ?_
  refine J_iload_2 Y qX1_tryNext_2 ?_
  refine J_iload_4 Y qX1_tryNext_3 ?_
  refine J_cV3P Y qX1_tryNext_5 mX1_66 iyX1_firstDayFor (by decide) rfl (by omega) rfl (Nat.le_of_ble_eq_true rfl) (c_firstDayFor _ _ _ hh hok hd hT (by omega) hpl (by omega) ha) ?_
  refine J_istore_5 Y qX1_tryNext_8 rfl ?_
  refine J_aloadr_0 Y qX1_tryNext_10 ?_
  refine J_getR Y qX1_tryNext_11 fX1_18 (by decide) ?_
  refine J_iload_2 Y qX1_tryNext_14 ?_
  refine J_iload_1 Y qX1_tryNext_15 ?_
  refine J_iastoreN (kx := pl) Y qX1_tryNext_16 rfl (by decide) rfl (by omega) (by decide) ?_
  rw [plM_u14]
  refine J_aloadr_0 Y qX1_tryNext_17 ?_
  refine J_getR Y qX1_tryNext_18 fX1_21 (by decide) ?_
  refine J_iload_2 Y qX1_tryNext_21 ?_
  refine J_iload_5 Y qX1_tryNext_22 ?_
  refine J_iastoreN (kx := pl) Y qX1_tryNext_24 rfl (by decide) rfl (by omega) (by decide) ?_
  rw [plM_u15]
  refine J_aloadr_0 Y qX1_tryNext_25 ?_
  refine J_iload_2 Y qX1_tryNext_26 ?_
  refine J_iconst Y qX1_tryNext_27 ?_
  refine J_iadd Y qX1_tryNext_28 ?_
  refine J_iload_3 Y qX1_tryNext_29 ?_
  refine J_iload_4 Y qX1_tryNext_30 ?_
  refine J_iload_5 Y qX1_tryNext_32 ?_
  refine J_aloadr_0 Y qX1_tryNext_34 ?_
  refine J_getR Y qX1_tryNext_35 fX1_9 (by decide) ?_
  refine J_iload_1 Y qX1_tryNext_38 ?_
  refine J_ialoadN (kx := a) Y qX1_tryNext_39 rfl (by decide) rfl (by omega) (by decide) ?_
  rw [plM_ne (by decide) (Or.inl (by decide))]
  refine J_iadd Y qX1_tryNext_40 ?_
  refine J_max Y qX1_tryNext_41 mX1_70 pmX1_70 iyJ9_max_7cf53 rfl (by omega) (Nat.le_of_ble_eq_true rfl) (by omega) (by omega) (by omega) (by omega) ?_
  rw [← k2, show (pl : Int) + 1 = ((pl + 1 : Nat) : Int) by omega]
  refine J_cV3V Y qX1_tryNext_44 mX1_50 iyX1_tryOrders (by decide) rfl (by omega) rfl (Nat.le_of_ble_eq_true rfl) (hTO M _ _ _ _ (addA M l9 a) rest (pl + 1) best ⟨holdL_add hh hpl, k1, hd, hT, by omega, by simp [addA, hpl], by omega, hrest, hpop, hbest, b1, b2⟩) (fun M2 h44 => ?_)
  obtain ⟨o2, b2, bo2, bb2, rfl, g1, g2⟩ := h44
  exact J_vret X qX1_tryNext_47 ⟨rfl, o2, b2, bo2, bb2, rfl, holdL_pre g1, g2⟩

theorem lp_tryOrders {l : Launch} {G : Gx} {E : Fx} {M : Mem} {r : Nat} (hTO : TO l G r) {o0 b0 bo0 bb0 : Nat → Int} {l9 : List (Nat × Int)} {rest pl : Nat} {best : Bst} (H : TOh M (r + 1) o0 b0 bo0 bb0 l9 rest pl best) (X : OkM l G E cX1_tryOrders RX1 5 (3 * (r + 1) + 4) none (RV (TOq M l9 (tryF M (r + 1) l9 rest best)))) : ∀ (n i : Nat) (o b bo bb : Nat → Int), i ≤ 6 → 6 < i + n → holdL o b l9 → holdL bo bb (tryL M r l9 rest best i).2 → J G E 28 [some (rf G 1 0), some (vi (pl : Int)), some (vi (rest : Int)), some (vi (daysL M l9)), some (vi (i : Int))] [] (plM M o b bo bb (tryL M r l9 rest best i).1) := by
  have Y := X.ok
  obtain ⟨H1, H2, H3, H4, H5, H6, H7, H8, H9, H10, H11, H12⟩ := H
  have hl := lau_eq X
  subst hl
  intro n
  induction n with
  | zero => intro i o b bo bb h1 h2; exfalso; omega
  | succ n ih =>
    intro i o b bo bb h1 h2 q1 q2
    have rr := tryL_rng M r l9 rest best H11 i
    refine J_iload_4 Y qX1_tryOrders_28 ?_
    refine J_bipush Y qX1_tryOrders_30 (by decide) ?_
    refine J_icmp_ge Y qX1_tryOrders_32 (by omega) (by omega) (by omega) (by omega) (fun h32 => ?_) (fun h32 => ?_)
    · obtain rfl : i = 6 := by omega
      exact J_vret X qX1_tryOrders_66 ⟨rfl, o, b, bo, bb, by rw [tryF_succ], q1, by rw [tryF_succ]; exact q2⟩
    · refine J_iload_2 Y qX1_tryOrders_35 ?_
      refine J_iload_4 Y qX1_tryOrders_36 ?_
      refine J_cS2B Y qX1_tryOrders_38 mX1_58 iyX8_isIn rfl (by omega) rfl (Nat.le_of_ble_eq_true rfl) (c_isIn _ _ _ (by omega) (by omega)) (fun h38 => ?_) (fun h38 => ?_)
      · refine J_eq1 Y qX1_tryOrders_41 ?_
        obtain ⟨v1, v2⟩ := pop_s ⟨rest, H8⟩ ⟨i, by omega⟩ h38
        simp only at v1 v2
        refine J_aloadr_0 Y qX1_tryOrders_44 ?_
        refine J_iload_4 Y qX1_tryOrders_45 ?_
        refine J_iload_1 Y qX1_tryOrders_47 ?_
        refine J_iload_2 Y qX1_tryOrders_48 ?_
        refine J_iconst Y qX1_tryOrders_49 ?_
        refine J_iload_4 Y qX1_tryOrders_50 ?_
        refine J_shl1 Y i qX1_tryOrders_52 rfl (by omega) ?_
        refine J_iconst Y qX1_tryOrders_53 ?_
        refine J_xorm1 Y qX1_tryOrders_54 ?_
        refine J_andn Y qX1_tryOrders_55 ?_
        refine J_iload_3 Y qX1_tryOrders_56 ?_
        refine J_cV4V Y qX1_tryOrders_57 mX1_62 iyX1_tryNext (by decide) rfl (by omega) rfl (Nat.le_of_ble_eq_true rfl) (c_tryNext _ G M hTO (by omega) q1 H2 H3 H4 H5 H6 H7 v1 (by omega) q2 rr.1 (by omega)) (fun M2 h57 => ?_)
        obtain ⟨o2, b2, bo2, bb2, rfl, g1, g2⟩ := h57
        refine J_iinc_4 Y qX1_tryOrders_60 rfl ?_
        refine J_goto Y qX1_tryOrders_63 ?_
        first
          | (have ih9 := ih (i + 1) o2 b2 bo2 bb2 (by omega) (by omega) g1
             rw [tryL, if_pos h38] at ih9
             exact ih9 g2)
          | (have ih9 := ih (i + 1) o b bo bb (by omega) (by omega) q1
             rw [tryL, if_neg h38] at ih9
             exact ih9 q2)
      · refine J_eq0 Y qX1_tryOrders_41 ?_
        refine J_iinc_4 Y qX1_tryOrders_60 rfl ?_
        refine J_goto Y qX1_tryOrders_63 ?_
        first
          | (have ih9 := ih (i + 1) o2 b2 bo2 bb2 (by omega) (by omega) g1
             rw [tryL, if_pos h38] at ih9
             exact ih9 g2)
          | (have ih9 := ih (i + 1) o b bo bb (by omega) (by omega) q1
             rw [tryL, if_neg h38] at ih9
             exact ih9 q2)

theorem TO_all (l : Launch) (G : Gx) : ∀ r : Nat, TO l G r := by
  intro r
  induction r with
  | zero =>
    intro M o b bo bb l9 rest pl best H
    obtain ⟨H1, H2, H3, H4, H5, H6, H7, H8, H9, H10, H11, H12⟩ := id H
    have hdn := daysL_nn M l9
    have hr0 := pop_0 ⟨rest, H8⟩ (by simpa using H9)
    simp only at hr0
    refine Ct.of rfl (Nat.le_of_ble_eq_true rfl) rfl (fun E X => ?_)
    have Y := X.ok
    refine J_iload_3 Y qX1_tryOrders_0 ?_
    refine J_aloadr_0 Y qX1_tryOrders_1 ?_
    refine J_getI Y qX1_tryOrders_2 fX1_34 (by decide) ?_
    rw [plM_bd]
    refine J_icmp_lt Y qX1_tryOrders_5 (by omega) (by omega) (by omega) (by omega) (fun h5 => ?_) (fun h5 => ?_)
    · refine J_iload_2 Y qX1_tryOrders_9 ?_
      refine J_if_eq Y qX1_tryOrders_10 (by omega) (by omega) (fun h10 => ?_) (fun h10 => ?_)
      · refine J_aloadr_0 Y qX1_tryOrders_19 ?_
        refine J_iload_3 Y qX1_tryOrders_20 ?_
        refine J_cV1W Y qX1_tryOrders_21 mX1_54 iyX1_keepOrder (by decide) rfl (by omega) rfl (Nat.le_of_ble_eq_true rfl) (c_keepOrder _ _ _) ?_
        have e9 : tryF M 0 l9 rest best = (daysL M l9, l9) := by
          show updB M best (extS M l9 []) = _
          show updB M best l9 = _
          rw [updB, if_pos (by omega)]
        exact J_vret X qX1_tryOrders_24 ⟨rfl, o, b, _, _, by rw [e9], H1, by rw [e9]; exact holdL_cpy H1 (show l9.length ≤ 6 by omega)⟩
      · exfalso; omega
    · exact J_vret X qX1_tryOrders_8 ⟨rfl, o, b, bo, bb, by rw [tryF_cut H3 H2 (by omega)], H1, by rw [tryF_cut H3 H2 (by omega)]; exact H10⟩
  | succ r ih =>
    intro M o b bo bb l9 rest pl best H
    obtain ⟨H1, H2, H3, H4, H5, H6, H7, H8, H9, H10, H11, H12⟩ := id H
    have hdn := daysL_nn M l9
    have hr0 : rest ≠ 0 := fun e => by
      subst e
      have : ctN (fun a => (0 : Nat).testBit a) 6 = 0 := by decide
      omega
    refine Ct.of rfl (Nat.le_of_ble_eq_true rfl) rfl (fun E X => ?_)
    have Y := X.ok
    refine J_iload_3 Y qX1_tryOrders_0 ?_
    refine J_aloadr_0 Y qX1_tryOrders_1 ?_
    refine J_getI Y qX1_tryOrders_2 fX1_34 (by decide) ?_
    rw [plM_bd]
    refine J_icmp_lt Y qX1_tryOrders_5 (by omega) (by omega) (by omega) (by omega) (fun h5 => ?_) (fun h5 => ?_)
    · refine J_iload_2 Y qX1_tryOrders_9 ?_
      refine J_if_eq Y qX1_tryOrders_10 (by omega) (by omega) (fun h10 => ?_) (fun h10 => ?_)
      · exfalso; omega
      · refine J_iload_1 Y qX1_tryOrders_13 ?_
        refine J_bipush Y qX1_tryOrders_14 (by decide) ?_
        refine J_icmp_lt Y qX1_tryOrders_16 (by omega) (by omega) (by omega) (by omega) (fun h16 => ?_) (fun h16 => ?_)
        · refine J_iconst Y qX1_tryOrders_25 ?_
          refine J_istore_4 Y qX1_tryOrders_26 rfl ?_
          exact lp_tryOrders ih H X 7 0 o b bo bb (by omega) (by omega) H1 H10
        · exfalso; omega
    · exact J_vret X qX1_tryOrders_8 ⟨rfl, o, b, bo, bb, by rw [tryF_cut H3 H2 (by omega)], H1, by rw [tryF_cut H3 H2 (by omega)]; exact H10⟩


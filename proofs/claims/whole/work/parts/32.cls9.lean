/-! ===== the class: the planner ===== -/
theorem bsyN_app (M : Mem) (day : Int) (l : List (Nat × Int)) (x : Nat × Int) : bsyN M day (l ++ [x]) = bsyN M day l + if day < endD M x then 1 else 0 := by
  induction l with
  | nil => simp [bsyN]
  | cons y l ih => simp only [List.cons_append, bsyN, ih]; omega
theorem bsyN_rng (M : Mem) (day : Int) (l : List (Nat × Int)) : 0 ≤ bsyN M day l ∧ bsyN M day l ≤ l.length := by
  induction l with
  | nil => simp [bsyN]
  | cons y l ih => simp only [bsyN, List.length_cons]; split <;> omega
theorem take_s {l : List (Nat × Int)} {i : Nat} {x : Nat × Int} (h : l[i]? = some x) : l.take (i + 1) = l.take i ++ [x] := by
  rw [List.take_add_one, h]; rfl
theorem take_all (l : List (Nat × Int)) : l.take l.length = l := List.take_length

theorem lp_canBegin {l : Launch} {G : Gx} {E : Fx} {d : Nat} {M : Mem} {o b bo bb : Nat → Int} {bd : Int} {l9 : List (Nat × Int)} (hh : holdL o b l9) (hok : okL M l9) (hd : ∀ a, a < 6 → 1 ≤ M 12 0 a ∧ M 12 0 a ≤ 9) (hT : ∀ a, a < 6 → 0 ≤ M 13 0 a ∧ M 13 0 a < 32) (hdl : daysL M l9 ≤ 100) {pl : Nat} (hpl : l9.length = pl) (pl6 : pl ≤ 6) {a : Nat} {day : Int} (ha : a < 6) (y1 : 0 ≤ day) (y2 : day ≤ 200) (X : OkM l G E cX1_canBegin RX1 7 d (some .boolean) (RB (plM M o b bo bb bd) (canB M l9 a day = true))) : ∀ (n i : Nat), ∀ x6 : Option Value, i ≤ pl → pl < i + n → freeB M a day (l9.take i) = true → J G E 6 [some (rf G 1 0), some (vi (a : Int)), some (vi (pl : Int)), some (vi day), some (vi (bsyN M day (l9.take i))), some (vi (i : Int)), x6] [] (plM M o b bo bb bd) := by
  have Y := X.ok
  intro n
  induction n with
  | zero => intro i x6 h1 h2; exfalso; omega
  | succ n ih =>
    intro i x6 h1 h2 h3
    have hb8 := bsyN_rng M day (l9.take i)
    have hl8 : (l9.take i).length ≤ 6 := by rw [List.length_take]; omega
    refine J_iload_5 Y qX1_canBegin_6 ?_
    refine J_iload_2 Y qX1_canBegin_8 ?_
    refine J_icmp_ge Y qX1_canBegin_9 (by omega) (by omega) (by omega) (by omega) (fun h9 => ?_) (fun h9 => ?_)
    · obtain rfl : i = pl := by omega
      rw [← hpl, take_all] at h3
      have hb9 := bsyN_rng M day l9
      rw [show l9.take i = l9 from by rw [← hpl]; exact take_all l9]
      refine J_iload_4 Y qX1_canBegin_68 ?_
      refine J_iconst Y qX1_canBegin_70 ?_
      refine J_icmp_ge Y qX1_canBegin_71 (by omega) (by omega) (by omega) (by omega) (fun h71 => ?_) (fun h71 => ?_)
      · refine J_iconst Y qX1_canBegin_78 ?_
        exact J_zret_f X qX1_canBegin_79 rfl (fun hz => by rw [canB, Bool.and_eq_true, decide_eq_true_eq] at hz; omega)
      · refine J_iconst Y qX1_canBegin_74 ?_
        refine J_goto Y qX1_canBegin_75 ?_
        exact J_zret_t X qX1_canBegin_79 rfl (by rw [canB, Bool.and_eq_true, decide_eq_true_eq]; exact ⟨h3, by omega⟩)
    · obtain ⟨x, hx⟩ : ∃ x, l9[i]? = some x := ⟨_, List.getElem?_eq_getElem (show i < l9.length by omega)⟩
      obtain ⟨z1, z2⟩ := hh i x hx
      obtain ⟨x1, x2, x3⟩ := hok.1 x (List.mem_of_getElem? hx)
      have xd := hd x.1 x1
      have xe := daysL_ge M (List.mem_of_getElem? hx)
      have xT := hT x.1 x1
      have aT := hT a ha
      obtain ⟨u1, hu1⟩ := nat_of xT.1
      obtain ⟨u2, hu2⟩ := nat_of aT.1
      have hts := take_s hx
      have hle : u1 &&& u2 ≤ u1 := Nat.and_le_left
      have ee : endD M x = x.2 + M 12 0 x.1 := rfl
      refine J_aloadr_0 Y qX1_canBegin_12 ?_
      refine J_getR Y qX1_canBegin_13 fX1_18 (by decide) ?_
      refine J_iload_5 Y qX1_canBegin_16 ?_
      refine J_ialoadN (kx := i) Y qX1_canBegin_18 rfl (by decide) rfl (by omega) (by decide) ?_
      rw [plM_14, z1]
      refine J_istore_6 Y qX1_canBegin_19 rfl ?_
      refine J_aloadr_0 Y qX1_canBegin_21 ?_
      refine J_getR Y qX1_canBegin_22 fX1_21 (by decide) ?_
      refine J_iload_5 Y qX1_canBegin_25 ?_
      refine J_ialoadN (kx := i) Y qX1_canBegin_27 rfl (by decide) rfl (by omega) (by decide) ?_
      rw [plM_15, z2]
      refine J_aloadr_0 Y qX1_canBegin_28 ?_
      refine J_getR Y qX1_canBegin_29 fX1_9 (by decide) ?_
      refine J_iload_6 Y qX1_canBegin_32 ?_
      refine J_ialoadN (kx := x.1) Y qX1_canBegin_34 rfl (by decide) rfl (by omega) (by decide) ?_
      rw [plM_ne (by decide) (Or.inl (by decide))]
      refine J_iadd Y qX1_canBegin_35 ?_
      refine J_iload_3 Y qX1_canBegin_36 ?_
      refine J_icmp_le Y qX1_canBegin_37 (by omega) (by omega) (by omega) (by omega) (fun h37 => ?_) (fun h37 => ?_)
      · refine J_iinc_5 Y qX1_canBegin_62 rfl ?_
        refine J_goto Y qX1_canBegin_65 ?_
        have ih9 := fun x6 => ih (i + 1) x6 (by omega) (by omega)
        rw [hts, bsyN_app] at ih9
        have hfr : freeB M a day (l9.take i ++ [x]) = true := by
          rw [freeB, List.all_append, Bool.and_eq_true]
          refine ⟨h3, ?_⟩
          simp only [List.all_cons, List.all_nil, Bool.and_true, Bool.or_eq_true, decide_eq_true_eq, hu1, hu2, Int.toNat_natCast]
          omega
        first
          | (rw [if_pos (by omega)] at ih9; exact ih9 _ hfr)
          | (rw [if_neg (by omega), Int.add_zero] at ih9; exact ih9 _ hfr)
      · refine J_iinc_4 Y qX1_canBegin_40 rfl ?_
        refine J_aloadr_0 Y qX1_canBegin_43 ?_
        refine J_getR Y qX1_canBegin_44 fX1_15 (by decide) ?_
        refine J_iload_6 Y qX1_canBegin_47 ?_
        refine J_ialoadN (kx := x.1) Y qX1_canBegin_49 rfl (by decide) rfl (by omega) (by decide) ?_
        rw [plM_ne (by decide) (Or.inl (by decide)), hu1]
        refine J_aloadr_0 Y qX1_canBegin_50 ?_
        refine J_getR Y qX1_canBegin_51 fX1_15 (by decide) ?_
        refine J_iload_1 Y qX1_canBegin_54 ?_
        refine J_ialoadN (kx := a) Y qX1_canBegin_55 rfl (by decide) rfl (by omega) (by decide) ?_
        rw [plM_ne (by decide) (Or.inl (by decide)), hu2]
        refine J_andN Y qX1_canBegin_56 ?_
        refine J_if_eq Y qX1_canBegin_57 (by omega) (by omega) (fun h57 => ?_) (fun h57 => ?_)
        · refine J_iinc_5 Y qX1_canBegin_62 rfl ?_
          refine J_goto Y qX1_canBegin_65 ?_
          have ih9 := fun x6 => ih (i + 1) x6 (by omega) (by omega)
          rw [hts, bsyN_app] at ih9
          have hfr : freeB M a day (l9.take i ++ [x]) = true := by
            rw [freeB, List.all_append, Bool.and_eq_true]
            refine ⟨h3, ?_⟩
            simp only [List.all_cons, List.all_nil, Bool.and_true, Bool.or_eq_true, decide_eq_true_eq, hu1, hu2, Int.toNat_natCast]
            omega
          first
            | (rw [if_pos (by omega)] at ih9; exact ih9 _ hfr)
            | (rw [if_neg (by omega), Int.add_zero] at ih9; exact ih9 _ hfr)
        · refine J_iconst Y qX1_canBegin_60 ?_
          exact J_zret_f X qX1_canBegin_61 rfl (fun hz => by
            rw [canB, Bool.and_eq_true, freeB, List.all_eq_true] at hz
            have := hz.1 x (List.mem_of_getElem? hx)
            simp only [Bool.or_eq_true, decide_eq_true_eq, hu1, hu2, Int.toNat_natCast] at this
            omega)

theorem c_canBegin (l : Launch) (G : Gx) (M : Mem) {o b bo bb : Nat → Int} {bd : Int} {l9 : List (Nat × Int)} (hh : holdL o b l9) (hok : okL M l9) (hd : ∀ a, a < 6 → 1 ≤ M 12 0 a ∧ M 12 0 a ≤ 9) (hT : ∀ a, a < 6 → 0 ≤ M 13 0 a ∧ M 13 0 a < 32) (hdl : daysL M l9 ≤ 100) {pl : Nat} (hpl : l9.length = pl) (pl6 : pl ≤ 6) {a : Nat} {day : Int} (ha : a < 6) (y1 : 0 ≤ day) (y2 : day ≤ 200) : Ct l G 1 yX1_canBegin cX1_canBegin 7 ((Option.some Jvm.ClassFile.FieldType.boolean)) [rf G 1 0, vi (a : Nat), vi (pl : Nat), vi day] (plM M o b bo bb bd) (RB (plM M o b bo bb bd) (canB M l9 a day = true)) := by
  refine Ct.of rfl (Nat.le_of_ble_eq_true rfl) rfl (fun E X => ?_)
  have Y := X.ok
  refine J_iconst Y qX1_canBegin_0 ?_
  refine J_istore_4 Y qX1_canBegin_1 rfl ?_
  refine J_iconst Y qX1_canBegin_3 ?_
  refine J_istore_5 Y qX1_canBegin_4 rfl ?_
  exact lp_canBegin hh hok hd hT hdl hpl pl6 ha y1 y2 X (pl + 1) 0 none (by omega) (by omega) rfl

theorem lp_firstDayFor {l : Launch} {G : Gx} {E : Fx} {M : Mem} {o b bo bb : Nat → Int} {bd : Int} {l9 : List (Nat × Int)} (hh : holdL o b l9) (hok : okL M l9) (hd : ∀ a, a < 6 → 1 ≤ M 12 0 a ∧ M 12 0 a ≤ 9) (hT : ∀ a, a < 6 → 0 ≤ M 13 0 a ∧ M 13 0 a < 32) (hdl : daysL M l9 ≤ 100) {pl : Nat} (hpl : l9.length = pl) (pl6 : pl ≤ 6) {a : Nat} (ha : a < 6) {e4 : Int} (X : OkM l G E cX1_firstDayFor RX1 6 2 (some .int) (RP (plM M o b bo bb bd) (fdy M l9 a))) : ∀ (n : Nat) (day : Int), 0 ≤ day → day + n = daysL M l9 → dayS M l9 a n day = fdy M l9 a → J G E 22 [some (rf G 1 0), some (vi (a : Int)), some (vi (pl : Int)), some (vi (daysL M l9)), some (vi e4), some (vi day)] [] (plM M o b bo bb bd) := by
  have Y := X.ok
  intro n
  induction n with
  | zero =>
    intro day h1 h2 h3
    refine J_iload_5 Y qX1_firstDayFor_22 ?_
    refine J_iload_3 Y qX1_firstDayFor_24 ?_
    refine J_icmp_ge Y qX1_firstDayFor_25 (by omega) (by omega) (by omega) (by omega) (fun h25 => ?_) (fun h25 => ?_)
    · refine J_iload_3 Y qX1_firstDayFor_48 ?_
      exact J_iret X qX1_firstDayFor_49 (RP_i (by rw [← h3]; simp only [dayS]; omega))
    · exfalso; omega
  | succ n ih =>
    intro day h1 h2 h3
    refine J_iload_5 Y qX1_firstDayFor_22 ?_
    refine J_iload_3 Y qX1_firstDayFor_24 ?_
    refine J_icmp_ge Y qX1_firstDayFor_25 (by omega) (by omega) (by omega) (by omega) (fun h25 => ?_) (fun h25 => ?_)
    · refine J_iload_3 Y qX1_firstDayFor_48 ?_
      exact J_iret X qX1_firstDayFor_49 (RP_i (by rw [← h3]; simp only [dayS]; omega))
    · refine J_aloadr_0 Y qX1_firstDayFor_28 ?_
      refine J_iload_1 Y qX1_firstDayFor_29 ?_
      refine J_iload_2 Y qX1_firstDayFor_30 ?_
      refine J_iload_5 Y qX1_firstDayFor_31 ?_
      refine J_cV3B Y qX1_firstDayFor_33 mX1_82 iyX1_canBegin (by decide) rfl (by decide) rfl (Nat.le_of_ble_eq_true rfl) (c_canBegin _ _ _ hh hok hd hT hdl hpl pl6 ha (by omega) (by omega)) (fun h33 => ?_) (fun h33 => ?_)
      · refine J_eq1 Y qX1_firstDayFor_36 ?_
        refine J_iload_5 Y qX1_firstDayFor_39 ?_
        exact J_iret X qX1_firstDayFor_41 (RP_i (by rw [← h3]; first | (rw [dayS, if_pos h33])))
      · refine J_eq0 Y qX1_firstDayFor_36 ?_
        refine J_iinc_5 Y qX1_firstDayFor_42 rfl ?_
        refine J_goto Y qX1_firstDayFor_45 ?_
        exact ih (day + 1) (by omega) (by omega) (by rw [← h3, dayS, if_neg h33])

theorem c_firstDayFor (l : Launch) (G : Gx) (M : Mem) {o b bo bb : Nat → Int} {bd : Int} {l9 : List (Nat × Int)} (hh : holdL o b l9) (hok : okL M l9) (hd : ∀ a, a < 6 → 1 ≤ M 12 0 a ∧ M 12 0 a ≤ 9) (hT : ∀ a, a < 6 → 0 ≤ M 13 0 a ∧ M 13 0 a < 32) (hdl : daysL M l9 ≤ 100) {pl : Nat} (hpl : l9.length = pl) (pl6 : pl ≤ 6) {a : Nat} (ha : a < 6) : Ct l G 2 yX1_firstDayFor cX1_firstDayFor 6 ((Option.some Jvm.ClassFile.FieldType.int)) [rf G 1 0, vi (a : Nat), vi (pl : Nat), vi (daysL M l9)] (plM M o b bo bb bd) (RP (plM M o b bo bb bd) (fdy M l9 a)) := by
  refine Ct.of rfl (Nat.le_of_ble_eq_true rfl) rfl (fun E X => ?_)
  have Y := X.ok
  have ln := lastB_nn hok
  have ld := hok.2
  refine J_iload_2 Y qX1_firstDayFor_0 ?_
  refine J_if_ne Y qX1_firstDayFor_1 (by omega) (by omega) (fun h1 => ?_) (fun h1 => ?_)
  · refine J_aloadr_0 Y qX1_firstDayFor_8 ?_
    refine J_getR Y qX1_firstDayFor_9 fX1_21 (by decide) ?_
    refine J_iload_2 Y qX1_firstDayFor_12 ?_
    refine J_iconst Y qX1_firstDayFor_13 ?_
    refine J_isub Y qX1_firstDayFor_14 ?_
    obtain ⟨x, hx⟩ : ∃ x, l9[pl - 1]? = some x := ⟨_, List.getElem?_eq_getElem (show pl - 1 < l9.length by omega)⟩
    rw [show (pl : Int) - 1 = ((pl - 1 : Nat) : Int) by omega]
    refine J_ialoadN (kx := (pl - 1)) Y qX1_firstDayFor_15 rfl (by decide) rfl (by omega) (by decide) ?_
    first
      | rw [show (0 : Int) = lastB l9 from by rw [List.eq_nil_of_length_eq_zero (show l9.length = 0 by omega)]; rfl]
      | rw [plM_15, (hh (pl - 1) x hx).2, show x.2 = lastB l9 from by rw [lastB, List.getLast?_eq_getElem?, hpl, hx]]
    refine J_istore_4 Y qX1_firstDayFor_16 rfl ?_
    refine J_iload_4 Y qX1_firstDayFor_18 ?_
    refine J_istore_5 Y qX1_firstDayFor_20 rfl ?_
    exact lp_firstDayFor hh hok hd hT hdl hpl pl6 ha X (daysL M l9 - lastB l9).toNat (lastB l9) (by omega) (by omega) rfl
  · refine J_iconst Y qX1_firstDayFor_4 ?_
    refine J_goto Y qX1_firstDayFor_5 ?_
    first
      | rw [show (0 : Int) = lastB l9 from by rw [List.eq_nil_of_length_eq_zero (show l9.length = 0 by omega)]; rfl]
      | rw [plM_15, (hh (pl - 1) x hx).2, show x.2 = lastB l9 from by rw [lastB, List.getLast?_eq_getElem?, hpl, hx]]
    refine J_istore_4 Y qX1_firstDayFor_16 rfl ?_
    refine J_iload_4 Y qX1_firstDayFor_18 ?_
    refine J_istore_5 Y qX1_firstDayFor_20 rfl ?_
    exact lp_firstDayFor hh hok hd hT hdl hpl pl6 ha X (daysL M l9 - lastB l9).toNat (lastB l9) (by omega) (by omega) rfl

theorem c_keepOrder (l : Launch) (G : Gx) (M : Mem) {o b bo bb : Nat → Int} {bd days : Int} : Ct l G 3 yX1_keepOrder cX1_keepOrder 2 ((Option.none : Option Jvm.ClassFile.FieldType)) [rf G 1 0, vi days] (plM M o b bo bb bd) (VF (plM M o b (va_cpy o bo 0 0 6) (va_cpy b bb 0 0 6) days)) := by
  refine Ct.of rfl (Nat.le_of_ble_eq_true rfl) rfl (fun E X => ?_)
  have Y := X.ok
  refine J_aloadr_0 Y qX1_keepOrder_0 ?_
  refine J_iload_1 Y qX1_keepOrder_1 ?_
  refine J_putI Y qX1_keepOrder_2 fX1_34w (by decide) ?_
  rw [plM_ubd]
  refine J_aloadr_0 Y qX1_keepOrder_5 ?_
  refine J_getR Y qX1_keepOrder_6 fX1_18 (by decide) ?_
  refine J_iconst Y qX1_keepOrder_9 ?_
  refine J_aloadr_0 Y qX1_keepOrder_10 ?_
  refine J_getR Y qX1_keepOrder_11 fX1_24 (by decide) ?_
  refine J_iconst Y qX1_keepOrder_14 ?_
  refine J_bipush Y qX1_keepOrder_15 (by decide) ?_
  refine J_acopy Y qX1_keepOrder_17 acpX1_76 acw rfl rfl (by decide) (by decide) rfl (by decide) (Nat.le_of_ble_eq_true rfl) (by decide) (by decide) (by decide) (by decide) (by decide) (by decide) (by decide) ?_
  rw [show plM M o b bo bb days 14 0 = o from funext (fun k => plM_14 M o b bo bb days k), show plM M o b bo bb days 16 0 = bo from funext (fun k => plM_16 M o b bo bb days k), plM_r16]
  refine J_aloadr_0 Y qX1_keepOrder_20 ?_
  refine J_getR Y qX1_keepOrder_21 fX1_21 (by decide) ?_
  refine J_iconst Y qX1_keepOrder_24 ?_
  refine J_aloadr_0 Y qX1_keepOrder_25 ?_
  refine J_getR Y qX1_keepOrder_26 fX1_27 (by decide) ?_
  refine J_iconst Y qX1_keepOrder_29 ?_
  refine J_bipush Y qX1_keepOrder_30 (by decide) ?_
  refine J_acopy Y qX1_keepOrder_32 acpX1_76 acw rfl rfl (by decide) (by decide) rfl (by decide) (Nat.le_of_ble_eq_true rfl) (by decide) (by decide) (by decide) (by decide) (by decide) (by decide) (by decide) ?_
  rw [show ∀ g, plM M o b g bb days 15 0 = b from fun g => funext (fun k => plM_15 M o b g bb days k), show ∀ g, plM M o b g bb days 17 0 = bb from fun g => funext (fun k => plM_17 M o b g bb days k), plM_r17]
  exact J_vret X qX1_keepOrder_35 ⟨rfl, rfl⟩

section LDCW
variable {G : Gx} {E : Fx} {cc : ByteArray} {own : String} {nL d pc pc2 : Nat} {L : List (Option Value)} {st : List Value} {M : Mem}
theorem J_ldcw (X : Ok G E cc own nL d) {ix : Nat} {n : Int} (q : Ins cc pc 3 pc2 (.ldc_w ix)) (hn : Cond.constant own ix (Int32.ofInt n) ∈ lw_k) (k : J G E pc2 L (vi n :: st) M) : J G E pc L st M := by
  obtain ⟨p, l, e, R, s, m, args, below, meth, c, cells, slots, Q⟩ := E
  obtain ⟨hx, hb, hml, hown, hK, hR, hce, hsl⟩ := X
  obtain ⟨q1, rfl⟩ := q
  intro H locs ls hw hs hl
  exact lv_ldcw hx hb hown (hK.wk hn args) q1 (k H locs ls hw hs hl)
end LDCW
def ush (a : Int) (k : Nat) : Int := a % 4294967296 / 2 ^ k
def anI (a b : Int) : Int := (Int32.ofInt a &&& Int32.ofInt b).toInt
def bcI (x : Int) : Int :=
  let x1 := x - anI (ush x 1) 1431655765
  let x2 := anI x1 858993459 + anI (ush x1 2) 858993459
  let x3 := anI (x2 + ush x2 4) 252645135
  let x4 := x3 + ush x3 8
  let x5 := x4 + ush x4 16
  anI x5 63
theorem bcI_ok : ∀ s : Fin 64, bcI (s.val : Int) = ctN (fun a => s.val.testBit a) 6 := by decide +kernel
theorem c_bitCount (l : Launch) (G : Gx) (M : Mem) {s : Nat} (hs : s < 64) : Ct l G 1 yJ6_bitCount_0f7a4 cJ6_bitCount_0f7a4 1 (some .int) [vi (s : Int)] M (RP M (ctN (fun a => s.testBit a) 6)) := by
  refine Ct.of rfl (Nat.le_of_ble_eq_true rfl) rfl (fun E X => ?_)
  have Y := X.ok
  refine J_iload_0 Y qJ6_bitCount_0f7a4_0 ?_
  refine J_iload_0 Y qJ6_bitCount_0f7a4_1 ?_
  refine J_iconst Y qJ6_bitCount_0f7a4_2 ?_
  refine J_iushr Y 1 qJ6_bitCount_0f7a4_3 rfl (by decide) ?_
  refine J_ldcw Y qJ6_bitCount_0f7a4_4 kJ6_265 ?_
  refine J_andG Y qJ6_bitCount_0f7a4_7 ?_
  refine J_isub Y qJ6_bitCount_0f7a4_8 ?_
  refine J_istore_0 Y qJ6_bitCount_0f7a4_9 ?_
  refine J_iload_0 Y qJ6_bitCount_0f7a4_10 ?_
  refine J_ldcw Y qJ6_bitCount_0f7a4_11 kJ6_266 ?_
  refine J_andG Y qJ6_bitCount_0f7a4_14 ?_
  refine J_iload_0 Y qJ6_bitCount_0f7a4_15 ?_
  refine J_iconst Y qJ6_bitCount_0f7a4_16 ?_
  refine J_iushr Y 2 qJ6_bitCount_0f7a4_17 rfl (by decide) ?_
  refine J_ldcw Y qJ6_bitCount_0f7a4_18 kJ6_266 ?_
  refine J_andG Y qJ6_bitCount_0f7a4_21 ?_
  refine J_iadd Y qJ6_bitCount_0f7a4_22 ?_
  refine J_istore_0 Y qJ6_bitCount_0f7a4_23 ?_
  refine J_iload_0 Y qJ6_bitCount_0f7a4_24 ?_
  refine J_iload_0 Y qJ6_bitCount_0f7a4_25 ?_
  refine J_iconst Y qJ6_bitCount_0f7a4_26 ?_
  refine J_iushr Y 4 qJ6_bitCount_0f7a4_27 rfl (by decide) ?_
  refine J_iadd Y qJ6_bitCount_0f7a4_28 ?_
  refine J_ldcw Y qJ6_bitCount_0f7a4_29 kJ6_267 ?_
  refine J_andG Y qJ6_bitCount_0f7a4_32 ?_
  refine J_istore_0 Y qJ6_bitCount_0f7a4_33 ?_
  refine J_iload_0 Y qJ6_bitCount_0f7a4_34 ?_
  refine J_iload_0 Y qJ6_bitCount_0f7a4_35 ?_
  refine J_bipush Y qJ6_bitCount_0f7a4_36 (by decide) ?_
  refine J_iushr Y 8 qJ6_bitCount_0f7a4_38 rfl (by decide) ?_
  refine J_iadd Y qJ6_bitCount_0f7a4_39 ?_
  refine J_istore_0 Y qJ6_bitCount_0f7a4_40 ?_
  refine J_iload_0 Y qJ6_bitCount_0f7a4_41 ?_
  refine J_iload_0 Y qJ6_bitCount_0f7a4_42 ?_
  refine J_bipush Y qJ6_bitCount_0f7a4_43 (by decide) ?_
  refine J_iushr Y 16 qJ6_bitCount_0f7a4_45 rfl (by decide) ?_
  refine J_iadd Y qJ6_bitCount_0f7a4_46 ?_
  refine J_istore_0 Y qJ6_bitCount_0f7a4_47 ?_
  refine J_iload_0 Y qJ6_bitCount_0f7a4_48 ?_
  refine J_bipush Y qJ6_bitCount_0f7a4_49 (by decide) ?_
  refine J_andG Y qJ6_bitCount_0f7a4_51 ?_
  exact J_iret X qJ6_bitCount_0f7a4_52 (RP_i (bcI_ok ⟨s, hs⟩))


/-! ===== the class: what is lost, what is opened ===== -/
theorem lp_lossBy {l : Launch} {G : Gx} {E : Fx} {M : Mem} {m k fr op : Nat} {mi : Int} (hI : Inv m M) (hk : M 0 0 2 = (k : Int)) (k14 : k ≤ 14) (hfr : fr < k) (hop : op < 16384) (mi1 : 0 ≤ mi) (mi2 : mi ≤ 999) {D : Nat → Int} (hF : Fire M fr op D) (X : OkM l G E cX0_lossBy RX0 6 4 (some .int) (RI (fun z M2 => (∃ D, M2 = upR M 11 0 D) ∧ z = losV M (fireD M fr op) mi k))) : ∀ (n i : Nat), i ≤ k → k < i + n → J G E 12 [some (rf G 0 0), some (vi (fr : Int)), some (vi mi), some (vi (op : Int)), some (vi (losV M D mi i)), some (vi (i : Int))] [] (upR M 11 0 D) := by
  have Y := X.ok
  intro n
  induction n with
  | zero => intro i h1 h2; exfalso; omega
  | succ n ih =>
    intro i h1 h2
    refine J_iload_5 Y qX0_lossBy_12 ?_
    refine J_aloadr_0 Y qX0_lossBy_14 ?_
    refine J_getI Y qX0_lossBy_15 fX0_21 (by decide) ?_
    rw [show (upR M 11 0 D) 0 0 2 = M 0 0 2 from upR_ne (by omega)]
    refine J_icmp_ge Y qX0_lossBy_18 (by omega) (by omega) (by omega) (by omega) (fun h18 => ?_) (fun h18 => ?_)
    · obtain rfl : i = k := by omega
      refine J_iload_4 Y qX0_lossBy_64 ?_
      exact J_iret X qX0_lossBy_66 ⟨_, rfl, ⟨D, rfl⟩, sumN_cong i (fun s hs => by rw [fireD_eq hI.haz hF s (by omega)])⟩
    · have hDi := hF.2.1 i (by omega)
      refine J_aloadr_0 Y qX0_lossBy_21 ?_
      refine J_getR Y qX0_lossBy_22 fX0_17 (by decide) ?_
      refine J_iload_5 Y qX0_lossBy_25 ?_
      refine J_ialoadN (kx := i) Y qX0_lossBy_27 rfl (by decide) rfl (by omega) (by decide) ?_
      rw [upR_at]
      refine J_iconst Y qX0_lossBy_28 ?_
      refine J_icmp_eq Y qX0_lossBy_29 (by omega) (by omega) (by omega) (by omega) (fun h29 => ?_) (fun h29 => ?_)
      · refine J_iinc_5 Y qX0_lossBy_58 rfl ?_
        refine J_goto Y qX0_lossBy_61 ?_
        have ih9 := ih (i + 1) (by omega) (by omega)
        rw [show losV M D mi (i + 1) = losV M D mi i + (if D i ≠ -1 ∧ D i ≤ mi then M 5 i 2 else 0) from rfl] at ih9
        first
          | (rw [if_pos (by omega)] at ih9; exact ih9)
          | (rw [if_neg (by omega), Int.add_zero] at ih9; exact ih9)
      · refine J_aloadr_0 Y qX0_lossBy_32 ?_
        refine J_getR Y qX0_lossBy_33 fX0_17 (by decide) ?_
        refine J_iload_5 Y qX0_lossBy_36 ?_
        refine J_ialoadN (kx := i) Y qX0_lossBy_38 rfl (by decide) rfl (by omega) (by decide) ?_
        rw [upR_at]
        refine J_iload_2 Y qX0_lossBy_39 ?_
        refine J_icmp_gt Y qX0_lossBy_40 (by omega) (by omega) (by omega) (by omega) (fun h40 => ?_) (fun h40 => ?_)
        · refine J_iinc_5 Y qX0_lossBy_58 rfl ?_
          refine J_goto Y qX0_lossBy_61 ?_
          have ih9 := ih (i + 1) (by omega) (by omega)
          rw [show losV M D mi (i + 1) = losV M D mi i + (if D i ≠ -1 ∧ D i ≤ mi then M 5 i 2 else 0) from rfl] at ih9
          first
            | (rw [if_pos (by omega)] at ih9; exact ih9)
            | (rw [if_neg (by omega), Int.add_zero] at ih9; exact ih9)
        · refine J_iload_4 Y qX0_lossBy_43 ?_
          refine J_aloadr_0 Y qX0_lossBy_45 ?_
          refine J_getR Y qX0_lossBy_46 fX0_11 (by decide) ?_
          refine J_iload_5 Y qX0_lossBy_49 ?_
          refine J_aaloadN (kx := i) Y qX0_lossBy_51 rfl (fun _ => rfl) (by decide) rfl (by omega) (by decide) ?_
          refine J_getI Y qX0_lossBy_52 fX0_76 (by show _ < 14; omega) ?_
          rw [show (upR M 11 0 D) 5 i 2 = M 5 i 2 from upR_ne (by omega)]
          refine J_iadd Y qX0_lossBy_55 ?_
          refine J_istore_4 Y qX0_lossBy_56 rfl ?_
          refine J_iinc_5 Y qX0_lossBy_58 rfl ?_
          refine J_goto Y qX0_lossBy_61 ?_
          have ih9 := ih (i + 1) (by omega) (by omega)
          rw [show losV M D mi (i + 1) = losV M D mi i + (if D i ≠ -1 ∧ D i ≤ mi then M 5 i 2 else 0) from rfl] at ih9
          first
            | (rw [if_pos (by omega)] at ih9; exact ih9)
            | (rw [if_neg (by omega), Int.add_zero] at ih9; exact ih9)

theorem c_lossBy (l : Launch) (G : Gx) (M : Mem) {m k fr op : Nat} {mi : Int} (hI : Inv m M) (hk : M 0 0 2 = (k : Int)) (k14 : k ≤ 14) (hfr : fr < k) (hop : op < 16384) (mi1 : 0 ≤ mi) (mi2 : mi ≤ 999) : Ct l G 4 yX0_lossBy cX0_lossBy 6 ((Option.some Jvm.ClassFile.FieldType.int)) [rf G 0 0, vi (fr : Nat), vi mi, vi (op : Nat)] M (RI (fun z M2 => (∃ D, M2 = upR M 11 0 D) ∧ z = losV M (fireD M fr op) mi k)) := by
  refine Ct.of rfl (Nat.le_of_ble_eq_true rfl) rfl (fun E X => ?_)
  have Y := X.ok
  refine J_aloadr_0 Y qX0_lossBy_0 ?_
  refine J_iload_1 Y qX0_lossBy_1 ?_
  refine J_iload_3 Y qX0_lossBy_2 ?_
  refine J_cV2V Y qX0_lossBy_3 mX0_73 iyX0_spread (by decide) rfl (by decide) rfl (Nat.le_of_ble_eq_true rfl) (c_spread _ _ _ hI hk k14 hfr hop) (fun M2 h3 => ?_)
  obtain ⟨D, rfl, hF⟩ := h3
  refine J_iconst Y qX0_lossBy_6 ?_
  refine J_istore_4 Y qX0_lossBy_7 rfl ?_
  refine J_iconst Y qX0_lossBy_9 ?_
  refine J_istore_5 Y qX0_lossBy_10 rfl ?_
  exact lp_lossBy hI hk k14 hfr hop mi1 mi2 hF X (k + 1) 0 (by omega) (by omega)

theorem lp_worthOf {l : Launch} {G : Gx} {E : Fx} {M : Mem} {k set : Nat} (hk : M 0 0 2 = (k : Int)) (k14 : k ≤ 14) (hset : set < 16384) (X : OkM l G E cX0_worthOf RX0 4 2 (some .int) (RP M (worV M set k))) : ∀ (n i : Nat), i ≤ k → k < i + n → J G E 4 [some (rf G 0 0), some (vi (set : Int)), some (vi (worV M set i)), some (vi (i : Int))] [] M := by
  have Y := X.ok
  intro n
  induction n with
  | zero => intro i h1 h2; exfalso; omega
  | succ n ih =>
    intro i h1 h2
    refine J_iload_3 Y qX0_worthOf_4 ?_
    refine J_aloadr_0 Y qX0_worthOf_5 ?_
    refine J_getI Y qX0_worthOf_6 fX0_21 (by decide) ?_
    refine J_icmp_ge Y qX0_worthOf_9 (by omega) (by omega) (by omega) (by omega) (fun h9 => ?_) (fun h9 => ?_)
    · obtain rfl : i = k := by omega
      refine J_iload_2 Y qX0_worthOf_38 ?_
      exact J_iret X qX0_worthOf_39 (RP_i rfl)
    · refine J_iload_1 Y qX0_worthOf_12 ?_
      refine J_iload_3 Y qX0_worthOf_13 ?_
      refine J_cS2B Y qX0_worthOf_14 mX0_66 iyX8_isIn rfl (by decide) rfl (Nat.le_of_ble_eq_true rfl) (c_isIn _ _ _ (by omega) (by omega)) (fun h14 => ?_) (fun h14 => ?_)
      · refine J_eq1 Y qX0_worthOf_17 ?_
        refine J_iload_2 Y qX0_worthOf_20 ?_
        refine J_aloadr_0 Y qX0_worthOf_21 ?_
        refine J_getR Y qX0_worthOf_22 fX0_11 (by decide) ?_
        refine J_iload_3 Y qX0_worthOf_25 ?_
        refine J_aaloadN (kx := i) Y qX0_worthOf_26 rfl (fun _ => rfl) (by decide) rfl (by omega) (by decide) ?_
        refine J_getI Y qX0_worthOf_27 fX0_76 (by show _ < 14; omega) ?_
        refine J_iadd Y qX0_worthOf_30 ?_
        refine J_istore_2 Y qX0_worthOf_31 rfl ?_
        refine J_iinc_3 Y qX0_worthOf_32 rfl ?_
        refine J_goto Y qX0_worthOf_35 ?_
        have ih9 := ih (i + 1) (by omega) (by omega)
        rw [show worV M set (i + 1) = worV M set i + (if set.testBit i = true then M 5 i 2 else 0) from rfl] at ih9
        first
          | (rw [if_pos h14] at ih9; exact ih9)
          | (rw [if_neg h14, Int.add_zero] at ih9; exact ih9)
      · refine J_eq0 Y qX0_worthOf_17 ?_
        refine J_iinc_3 Y qX0_worthOf_32 rfl ?_
        refine J_goto Y qX0_worthOf_35 ?_
        have ih9 := ih (i + 1) (by omega) (by omega)
        rw [show worV M set (i + 1) = worV M set i + (if set.testBit i = true then M 5 i 2 else 0) from rfl] at ih9
        first
          | (rw [if_pos h14] at ih9; exact ih9)
          | (rw [if_neg h14, Int.add_zero] at ih9; exact ih9)

theorem c_worthOf (l : Launch) (G : Gx) (M : Mem) {k set : Nat} (hk : M 0 0 2 = (k : Int)) (k14 : k ≤ 14) (hset : set < 16384) : Ct l G 2 yX0_worthOf cX0_worthOf 4 ((Option.some Jvm.ClassFile.FieldType.int)) [rf G 0 0, vi (set : Nat)] M (RP M (worV M set k)) := by
  refine Ct.of rfl (Nat.le_of_ble_eq_true rfl) rfl (fun E X => ?_)
  have Y := X.ok
  refine J_iconst Y qX0_worthOf_0 ?_
  refine J_istore_2 Y qX0_worthOf_1 rfl ?_
  refine J_iconst Y qX0_worthOf_2 ?_
  refine J_istore_3 Y qX0_worthOf_3 rfl ?_
  exact lp_worthOf hk k14 hset X (k + 1) 0 (by omega) (by omega)

theorem c_weigh (l : Launch) (G : Gx) (M : Mem) {m k fr set : Nat} {mi : Int} {g : Nat → Int} {acc : Int × Int} (hI : Inv m M) (hk : M 0 0 2 = (k : Int)) (k14 : k ≤ 14) (hfr : fr < k) (hset : set < 16384) (mi1 : 0 ≤ mi) (mi2 : mi ≤ 999) (ac : 0 ≤ acc.2 ∧ acc.2 ≤ 2147483647) : Ct l G 5 yX0_weigh cX0_weigh 5 ((Option.none : Option Jvm.ClassFile.FieldType)) [rf G 0 0, vi (set : Nat), vi (fr : Nat), vi mi] (scr M g acc.1 acc.2) (RV (fun M2 => ∃ g2, M2 = scr M g2 (wgh M fr mi acc set).1 (wgh M fr mi acc set).2)) := by
  refine Ct.of rfl (Nat.le_of_ble_eq_true rfl) rfl (fun E X => ?_)
  have Y := X.ok
  have r1 := losV_rng hI hk k14 (fireD M fr set) mi (Nat.le_refl k)
  have r2 := worV_rng hI hk k14 set (Nat.le_refl k)
  refine J_iload_1 Y qX0_weigh_0 ?_
  refine J_iload_2 Y qX0_weigh_1 ?_
  refine J_cS2B Y qX0_weigh_2 mX0_66 iyX8_isIn rfl (by decide) rfl (Nat.le_of_ble_eq_true rfl) (c_isIn _ _ _ (by omega) (by omega)) (fun h2 => ?_) (fun h2 => ?_)
  · refine J_eq1 Y qX0_weigh_5 ?_
    exact J_vret X qX0_weigh_8 ⟨rfl, g, by rw [wgh, if_pos h2]⟩
  · refine J_eq0 Y qX0_weigh_5 ?_
    refine J_aloadr_0 Y qX0_weigh_9 ?_
    refine J_iload_2 Y qX0_weigh_10 ?_
    refine J_iload_3 Y qX0_weigh_11 ?_
    refine J_iload_1 Y qX0_weigh_12 ?_
    refine J_cV3I Y qX0_weigh_13 mX0_84 iyX0_lossBy (by decide) rfl (by decide) rfl (Nat.le_of_ble_eq_true rfl) (c_lossBy (M := (scr M g acc.1 acc.2)) _ _ (Inv_scr hI _ _ _) (by rw [scr_02]; exact hk) k14 hfr hset mi1 mi2) (fun z13 M2 h13 => ?_)
    obtain ⟨⟨D, rfl⟩, rfl⟩ := h13
    rw [scr_row, losV_scr, fireD_scr]
    refine J_aloadr_0 Y qX0_weigh_16 ?_
    refine J_iload_1 Y qX0_weigh_17 ?_
    refine J_cV1P Y qX0_weigh_18 mX0_88 iyX0_worthOf (by decide) rfl (by decide) rfl (Nat.le_of_ble_eq_true rfl) (c_worthOf _ _ _ (by rw [scr_02]; exact hk) k14 hset) ?_
    rw [worV_scr]
    refine J_iconst Y qX0_weigh_21 ?_
    refine J_idiv Y qX0_weigh_22 (by omega) (by omega) (by omega) (by omega) ?_
    refine J_iadd Y qX0_weigh_23 ?_
    refine J_istore_4 Y qX0_weigh_24 rfl ?_
    refine J_iload_4 Y qX0_weigh_26 ?_
    refine J_aloadr_0 Y qX0_weigh_28 ?_
    refine J_getI Y qX0_weigh_29 fX0_28 (by decide) ?_
    rw [show scr M D acc.1 acc.2 0 0 4 = acc.2 from by simp [scr, up]]
    refine J_icmp_ge Y qX0_weigh_32 (by omega) (by omega) (by omega) (by omega) (fun h32 => ?_) (fun h32 => ?_)
    · first
        | exact J_vret X qX0_weigh_46 ⟨rfl, D, by rw [wgh, if_neg h2, if_pos (by rw [costV, hk, Int.toNat_natCast]; omega), costV, hk, Int.toNat_natCast, scr_put]⟩
        | exact J_vret X qX0_weigh_46 ⟨rfl, D, by rw [wgh, if_neg h2, if_neg (by rw [costV, hk, Int.toNat_natCast]; omega)]⟩
    · refine J_aloadr_0 Y qX0_weigh_35 ?_
      refine J_iload_4 Y qX0_weigh_36 ?_
      refine J_putI Y qX0_weigh_38 fX0_28w (by decide) ?_
      refine J_aloadr_0 Y qX0_weigh_41 ?_
      refine J_iload_1 Y qX0_weigh_42 ?_
      refine J_putI Y qX0_weigh_43 fX0_25w (by decide) ?_
      first
        | exact J_vret X qX0_weigh_46 ⟨rfl, D, by rw [wgh, if_neg h2, if_pos (by rw [costV, hk, Int.toNat_natCast]; omega), costV, hk, Int.toNat_natCast, scr_put]⟩
        | exact J_vret X qX0_weigh_46 ⟨rfl, D, by rw [wgh, if_neg h2, if_neg (by rw [costV, hk, Int.toNat_natCast]; omega)]⟩

theorem lp_cheap1 {l : Launch} {G : Gx} {E : Fx} {M : Mem} {m k fr : Nat} {mi kk : Int} (hI : Inv m M) (hk : M 0 0 2 = (k : Int)) (k14 : k ≤ 14) (hfr : fr < k) (mi1 : 0 ≤ mi) (mi2 : mi ≤ 999) (kk1 : 0 ≤ kk) (kk2 : kk ≤ 2) {acc : Int × Int} (ac : 0 ≤ acc.2 ∧ acc.2 ≤ 2147483647) (hm : 1 ≤ kk) {x5 : Option Value} (K : ∀ (g : Nat → Int) (x4 : Option Value), J G E 46 [some (rf G 0 0), some (vi (fr : Int)), some (vi mi), some (vi kk), x4, x5] [] (scr M g (wF1 M fr mi acc k).1 (wF1 M fr mi acc k).2)) (X : OkM l G E cX0_cheapestSet RX0 6 6 (some .int) (RI (fun z M2 => z = (stpV M fr mi kk (M 0 0 3, 1000000)).1 ∧ Scr M2 M))) : ∀ (n i : Nat), ∀ g : Nat → Int, i ≤ k → k < i + n → J G E 16 [some (rf G 0 0), some (vi (fr : Int)), some (vi mi), some (vi kk), some (vi (i : Int)), x5] [] (scr M g (wF1 M fr mi acc i).1 (wF1 M fr mi acc i).2) := by
  have Y := X.ok
  intro n
  induction n with
  | zero => intro i g h1 h2; exfalso; omega
  | succ n ih =>
    intro i g h1 h2
    refine J_iload_4 Y qX0_cheapestSet_16 ?_
    refine J_aloadr_0 Y qX0_cheapestSet_18 ?_
    refine J_getI Y qX0_cheapestSet_19 fX0_21 (by decide) ?_
    rw [scr_02]
    refine J_icmp_ge Y qX0_cheapestSet_22 (by omega) (by omega) (by omega) (by omega) (fun h22 => ?_) (fun h22 => ?_)
    · obtain rfl : i = k := by omega
      exact K g _
    · refine J_iload_3 Y qX0_cheapestSet_25 ?_
      refine J_iconst Y qX0_cheapestSet_26 ?_
      refine J_icmp_lt Y qX0_cheapestSet_27 (by omega) (by omega) (by omega) (by omega) (fun h27 => ?_) (fun h27 => ?_)
      · exfalso; omega
      · refine J_aloadr_0 Y qX0_cheapestSet_30 ?_
        refine J_iconst Y qX0_cheapestSet_31 ?_
        refine J_iload_4 Y qX0_cheapestSet_32 ?_
        refine J_shl1 Y i qX0_cheapestSet_34 rfl (by omega) ?_
        refine J_iload_1 Y qX0_cheapestSet_35 ?_
        refine J_iload_2 Y qX0_cheapestSet_36 ?_
        refine J_cV3V Y qX0_cheapestSet_37 mX0_80 iyX0_weigh (by decide) rfl (by decide) rfl (Nat.le_of_ble_eq_true rfl) (c_weigh (set := 2 ^ i) _ _ _ hI hk k14 hfr (pow_lt14 (by omega)) mi1 mi2 (wF1_rng hI hk k14 fr mi ac i)) (fun M2 h37 => ?_)
        obtain ⟨g2, rfl⟩ := h37
        refine J_iinc_4 Y qX0_cheapestSet_40 rfl ?_
        refine J_goto Y qX0_cheapestSet_43 ?_
        exact ih (i + 1) _ (by omega) (by omega)

theorem lp_cheap2 {l : Launch} {G : Gx} {E : Fx} {M : Mem} {m k fr : Nat} {mi kk : Int} (hI : Inv m M) (hk : M 0 0 2 = (k : Int)) (k14 : k ≤ 14) (hfr : fr < k) (mi1 : 0 ≤ mi) (mi2 : mi ≤ 999) (kk1 : 0 ≤ kk) (kk2 : kk ≤ 2) {acc : Int × Int} (ac : 0 ≤ acc.2 ∧ acc.2 ≤ 2147483647) {hi : Nat} (hhi : hi < k) (K : ∀ (g : Nat → Int) (x5 : Option Value), J G E 94 [some (rf G 0 0), some (vi (fr : Int)), some (vi mi), some (vi kk), some (vi (hi : Int)), x5] [] (scr M g (wF2 M fr mi hi acc hi).1 (wF2 M fr mi hi acc hi).2)) (X : OkM l G E cX0_cheapestSet RX0 6 6 (some .int) (RI (fun z M2 => z = (stpV M fr mi kk (M 0 0 3, 1000000)).1 ∧ Scr M2 M))) : ∀ (n i : Nat), ∀ g : Nat → Int, i ≤ hi → hi < i + n → J G E 66 [some (rf G 0 0), some (vi (fr : Int)), some (vi mi), some (vi kk), some (vi (hi : Int)), some (vi (i : Int))] [] (scr M g (wF2 M fr mi hi acc i).1 (wF2 M fr mi hi acc i).2) := by
  have Y := X.ok
  intro n
  induction n with
  | zero => intro i g h1 h2; exfalso; omega
  | succ n ih =>
    intro i g h1 h2
    refine J_iload_5 Y qX0_cheapestSet_66 ?_
    refine J_iload_4 Y qX0_cheapestSet_68 ?_
    refine J_icmp_ge Y qX0_cheapestSet_70 (by omega) (by omega) (by omega) (by omega) (fun h70 => ?_) (fun h70 => ?_)
    · obtain rfl : i = hi := by omega
      exact K g _
    · refine J_aloadr_0 Y qX0_cheapestSet_73 ?_
      refine J_iconst Y qX0_cheapestSet_74 ?_
      refine J_iload_4 Y qX0_cheapestSet_75 ?_
      refine J_shl1 Y hi qX0_cheapestSet_77 rfl (by omega) ?_
      refine J_iconst Y qX0_cheapestSet_78 ?_
      refine J_iload_5 Y qX0_cheapestSet_79 ?_
      refine J_shl1 Y i qX0_cheapestSet_81 rfl (by omega) ?_
      refine J_orN Y qX0_cheapestSet_82 ?_
      refine J_iload_1 Y qX0_cheapestSet_83 ?_
      refine J_iload_2 Y qX0_cheapestSet_84 ?_
      refine J_cV3V Y qX0_cheapestSet_85 mX0_80 iyX0_weigh (by decide) rfl (by decide) rfl (Nat.le_of_ble_eq_true rfl) (c_weigh (set := 2 ^ hi ||| 2 ^ i) _ _ _ hI hk k14 hfr (or_pow_lt (by omega) (by omega)) mi1 mi2 (wF2_rng hI hk k14 fr mi hi ac i)) (fun M2 h85 => ?_)
      obtain ⟨g2, rfl⟩ := h85
      refine J_iinc_5 Y qX0_cheapestSet_88 rfl ?_
      refine J_goto Y qX0_cheapestSet_91 ?_
      exact ih (i + 1) _ (by omega) (by omega)

theorem lp_cheap3 {l : Launch} {G : Gx} {E : Fx} {M : Mem} {m k fr : Nat} {mi kk : Int} (hI : Inv m M) (hk : M 0 0 2 = (k : Int)) (k14 : k ≤ 14) (hfr : fr < k) (mi1 : 0 ≤ mi) (mi2 : mi ≤ 999) (kk1 : 0 ≤ kk) (kk2 : kk ≤ 2) {acc : Int × Int} (ac : 0 ≤ acc.2 ∧ acc.2 ≤ 2147483647) (hm : 2 ≤ kk) (K : ∀ (g : Nat → Int) (x4 x5 : Option Value), J G E 100 [some (rf G 0 0), some (vi (fr : Int)), some (vi mi), some (vi kk), x4, x5] [] (scr M g (wF3 M fr mi acc k).1 (wF3 M fr mi acc k).2)) (X : OkM l G E cX0_cheapestSet RX0 6 6 (some .int) (RI (fun z M2 => z = (stpV M fr mi kk (M 0 0 3, 1000000)).1 ∧ Scr M2 M))) : ∀ (n i : Nat), ∀ (g : Nat → Int) (x5 : Option Value), i ≤ k → k < i + n → J G E 49 [some (rf G 0 0), some (vi (fr : Int)), some (vi mi), some (vi kk), some (vi (i : Int)), x5] [] (scr M g (wF3 M fr mi acc i).1 (wF3 M fr mi acc i).2) := by
  have Y := X.ok
  intro n
  induction n with
  | zero => intro i g x5 h1 h2; exfalso; omega
  | succ n ih =>
    intro i g x5 h1 h2
    refine J_iload_4 Y qX0_cheapestSet_49 ?_
    refine J_aloadr_0 Y qX0_cheapestSet_51 ?_
    refine J_getI Y qX0_cheapestSet_52 fX0_21 (by decide) ?_
    rw [scr_02]
    refine J_icmp_ge Y qX0_cheapestSet_55 (by omega) (by omega) (by omega) (by omega) (fun h55 => ?_) (fun h55 => ?_)
    · obtain rfl : i = k := by omega
      exact K g _ _
    · refine J_iload_3 Y qX0_cheapestSet_58 ?_
      refine J_iconst Y qX0_cheapestSet_59 ?_
      refine J_icmp_lt Y qX0_cheapestSet_60 (by omega) (by omega) (by omega) (by omega) (fun h60 => ?_) (fun h60 => ?_)
      · exfalso; omega
      · refine J_iconst Y qX0_cheapestSet_63 ?_
        refine J_istore_5 Y qX0_cheapestSet_64 rfl ?_
        refine lp_cheap2 hI hk k14 hfr mi1 mi2 kk1 kk2 (acc := wF3 M fr mi acc i) (wF3_rng hI hk k14 fr mi ac i) (hi := i) (by omega) (fun g2 x => ?_) X (i + 1) 0 g (by omega) (by omega)
        refine J_iinc_4 Y qX0_cheapestSet_94 rfl ?_
        refine J_goto Y qX0_cheapestSet_97 ?_
        exact ih (i + 1) _ _ (by omega) (by omega)

theorem cheap_end {l : Launch} {G : Gx} {E : Fx} {M : Mem} {fr : Nat} {mi kk : Int} {R B : Int × Int} (X : OkM l G E cX0_cheapestSet RX0 6 6 (some .int) (RI (fun z M2 => z = R.1 ∧ Scr M2 M))) (hB : B = R) (g : Nat → Int) (x4 x5 : Option Value) : J G E 100 [some (rf G 0 0), some (vi (fr : Int)), some (vi mi), some (vi kk), x4, x5] [] (scr M g B.1 B.2) := by
    have Y := X.ok
    refine J_aloadr_0 Y qX0_cheapestSet_100 ?_
    refine J_getI Y qX0_cheapestSet_101 fX0_25 (by decide) ?_
    rw [show scr M g B.1 B.2 0 0 3 = B.1 from by simp [scr, up]]
    exact J_iret X qX0_cheapestSet_104 ⟨_, rfl, hB ▸ rfl, _, _, _, rfl⟩

theorem cheap_mid {l : Launch} {G : Gx} {E : Fx} {M : Mem} {m k fr : Nat} {mi kk : Int} (hI : Inv m M) (hk : M 0 0 2 = (k : Int)) (k14 : k ≤ 14) (hfr : fr < k) (mi1 : 0 ≤ mi) (mi2 : mi ≤ 999) (kk1 : 0 ≤ kk) (kk2 : kk ≤ 2) {A B : Int × Int} (hA : 0 ≤ A.2 ∧ A.2 ≤ 2147483647) (hB : B = if 2 ≤ kk then wF3 M fr mi A k else A) (hBR : B = stpV M fr mi kk (M 0 0 3, 1000000)) (X : OkM l G E cX0_cheapestSet RX0 6 6 (some .int) (RI (fun z M2 => z = (stpV M fr mi kk (M 0 0 3, 1000000)).1 ∧ Scr M2 M))) (g : Nat → Int) (x4 x5 : Option Value) : J G E 46 [some (rf G 0 0), some (vi (fr : Int)), some (vi mi), some (vi kk), x4, x5] [] (scr M g A.1 A.2) := by
    have Y := X.ok
    refine J_iconst Y qX0_cheapestSet_46 ?_
    refine J_istore_4 Y qX0_cheapestSet_47 rfl ?_
    by_cases h2k : 2 ≤ kk
    · refine lp_cheap3 hI hk k14 hfr mi1 mi2 kk1 kk2 hA h2k (fun g x4 x5 => cheap_end (B := wF3 M fr mi A k) X (by rw [← hBR, hB, if_pos h2k]) g x4 x5) X k 1 g x5 (by omega) (by omega)
    · have e9 : B = A := by rw [hB, if_neg h2k]
      refine J_iload_4 Y qX0_cheapestSet_49 ?_
      refine J_aloadr_0 Y qX0_cheapestSet_51 ?_
      refine J_getI Y qX0_cheapestSet_52 fX0_21 (by decide) ?_
      rw [scr_02]
      refine J_icmp_ge Y qX0_cheapestSet_55 (by omega) (by omega) (by omega) (by omega) (fun h55 => ?_) (fun h55 => ?_)
      · exact cheap_end (B := A) X (by rw [← hBR, e9]) g _ x5
      · refine J_iload_3 Y qX0_cheapestSet_58 ?_
        refine J_iconst Y qX0_cheapestSet_59 ?_
        refine J_icmp_lt Y qX0_cheapestSet_60 (by omega) (by omega) (by omega) (by omega) (fun h60 => ?_) (fun h60 => ?_)
        · exact cheap_end (B := A) X (by rw [← hBR, e9]) g _ x5
        · exfalso; omega

theorem c_cheapestSet (l : Launch) (G : Gx) (M : Mem) {m k fr : Nat} {mi kk : Int} (hI : Inv m M) (hk : M 0 0 2 = (k : Int)) (k14 : k ≤ 14) (hfr : fr < k) (mi1 : 0 ≤ mi) (mi2 : mi ≤ 999) (kk1 : 0 ≤ kk) (kk2 : kk ≤ 2) : Ct l G 6 yX0_cheapestSet cX0_cheapestSet 6 ((Option.some Jvm.ClassFile.FieldType.int)) [rf G 0 0, vi (fr : Nat), vi mi, vi kk] M (RI (fun z M2 => z = (stpV M fr mi kk (M 0 0 3, 1000000)).1 ∧ Scr M2 M)) := by
  refine Ct.of rfl (Nat.le_of_ble_eq_true rfl) rfl (fun E X => ?_)
  have Y := X.ok
  refine J_aloadr_0 Y qX0_cheapestSet_0 ?_
  refine J_ldc Y qX0_cheapestSet_1 kX0_79 ?_
  refine J_putI Y qX0_cheapestSet_3 fX0_28w (by decide) ?_
  rw [show up M 0 0 4 1000000 = scr M (M 11 0) (M 0 0 3) 1000000 from by rw [scr, upR_self, up_eq rfl]]
  refine J_aloadr_0 Y qX0_cheapestSet_6 ?_
  refine J_iconst Y qX0_cheapestSet_7 ?_
  refine J_iload_1 Y qX0_cheapestSet_8 ?_
  refine J_iload_2 Y qX0_cheapestSet_9 ?_
  refine J_cV3V Y qX0_cheapestSet_10 mX0_80 iyX0_weigh (by decide) rfl (by decide) rfl (Nat.le_of_ble_eq_true rfl) (c_weigh (set := 0) _ _ _ hI hk k14 hfr (by decide) mi1 mi2 (acc := (M 0 0 3, 1000000)) (show (0 : Int) ≤ 1000000 ∧ (1000000 : Int) ≤ 2147483647 by decide)) (fun M2 h10 => ?_)
  obtain ⟨g2, rfl⟩ := h10
  refine J_iconst Y qX0_cheapestSet_13 ?_
  refine J_istore_4 Y qX0_cheapestSet_14 rfl ?_
  have ha := wgh_rng hI hk k14 fr mi 0 (acc := (M 0 0 3, 1000000)) (show (0 : Int) ≤ 1000000 ∧ (1000000 : Int) ≤ 2147483647 by decide)
  have hst : stpV M fr mi kk (M 0 0 3, 1000000) = if 2 ≤ kk then wF3 M fr mi (if 1 ≤ kk then wF1 M fr mi (wgh M fr mi (M 0 0 3, 1000000) 0) k else wgh M fr mi (M 0 0 3, 1000000) 0) k else (if 1 ≤ kk then wF1 M fr mi (wgh M fr mi (M 0 0 3, 1000000) 0) k else wgh M fr mi (M 0 0 3, 1000000) 0) := by
    simp only [stpV, hk, Int.toNat_natCast]
  by_cases h1k : 1 ≤ kk
  · refine lp_cheap1 hI hk k14 hfr mi1 mi2 kk1 kk2 ha h1k (fun g x4 => cheap_mid hI hk k14 hfr mi1 mi2 kk1 kk2 (wF1_rng hI hk k14 fr mi ha k) rfl (by rw [hst, if_pos h1k]) X g x4 none) X (k + 1) 0 g2 (by omega) (by omega)
  · refine J_iload_4 Y qX0_cheapestSet_16 ?_
    refine J_aloadr_0 Y qX0_cheapestSet_18 ?_
    refine J_getI Y qX0_cheapestSet_19 fX0_21 (by decide) ?_
    rw [scr_02]
    refine J_icmp_ge Y qX0_cheapestSet_22 (by omega) (by omega) (by omega) (by omega) (fun h22 => ?_) (fun h22 => ?_)
    · exact cheap_mid hI hk k14 hfr mi1 mi2 kk1 kk2 ha rfl (by rw [hst, if_neg h1k]) X g2 _ none
    · refine J_iload_3 Y qX0_cheapestSet_25 ?_
      refine J_iconst Y qX0_cheapestSet_26 ?_
      refine J_icmp_lt Y qX0_cheapestSet_27 (by omega) (by omega) (by omega) (by omega) (fun h27 => ?_) (fun h27 => ?_)
      · exact cheap_mid hI hk k14 hfr mi1 mi2 kk1 kk2 ha rfl (by rw [hst, if_neg h1k]) X g2 _ none
      · exfalso; omega

theorem k_burns (l : Launch) (G : Gx) (M : Mem) {n : Nat} {a b c : Int} (a1 : -2147483648 ≤ a) (a2 : a < 2147483648) (b1 : -2147483648 ≤ b) (b2 : b < 2147483648) (c1 : -2147483648 ≤ c) (c2 : c < 2147483648) (hI : Inv n M) (hn : n < 512)  : Ct l G 5 yX8_burns cX8_burns 4 ((Option.some Jvm.ClassFile.FieldType.int)) [rf G 8 0, vi a, vi b, vi c] M (RS (f_burns M a b c)) := by
  refine Ct.of rfl (Nat.le_of_ble_eq_true rfl) rfl (fun E X => ?_)
  have Y := X.ok
  obtain ⟨c1, c2⟩ := hI.count
  obtain ⟨d1, d2⟩ := hI.day
  obtain ⟨k, hk⟩ := nat_of c1
  refine J_aloadr_0 Y qX8_burns_0 ?_
  refine J_iload_1 Y qX8_burns_1 ?_
  refine J_cV1B Y qX8_burns_2 mX8_101 iyX8_isNoShop (by decide) rfl (by decide) rfl (Nat.le_of_ble_eq_true rfl) (c_isNoShop _ _ _ (by omega) (by omega) (by omega) (by omega)) (fun h2 => ?_) (fun h2 => ?_)
  · refine J_ne1 Y qX8_burns_5 ?_
    refine J_aloadr_0 Y qX8_burns_24 ?_
    refine J_bipush Y qX8_burns_25 (by decide) ?_
    refine J_cV1F Y qX8_burns_27 mX8_66 iyX8_refused (by decide) rfl (by decide) rfl (Nat.le_of_ble_eq_true rfl) (c_refused (w := 3) _ _ _ (by decide) (by decide)) ?_
    exact J_iret X qX8_burns_30 (RS_i (by
      unfold f_burns
      try simp only [hk, Int.toNat_natCast]
      repeat (first | rw [if_pos (by omega)] | rw [if_neg (by omega)] | rw [if_pos h_in] | rw [if_neg h_in])
      try rfl) (Scr_rf _))
  · refine J_ne0 Y qX8_burns_5 ?_
    refine J_aloadr_0 Y qX8_burns_8 ?_
    refine J_iload_2 Y qX8_burns_9 ?_
    refine J_cV1B Y qX8_burns_10 mX8_101 iyX8_isNoShop (by decide) rfl (by decide) rfl (Nat.le_of_ble_eq_true rfl) (c_isNoShop _ _ _ (by omega) (by omega) (by omega) (by omega)) (fun h10 => ?_) (fun h10 => ?_)
    · refine J_ne1 Y qX8_burns_13 ?_
      refine J_aloadr_0 Y qX8_burns_24 ?_
      refine J_bipush Y qX8_burns_25 (by decide) ?_
      refine J_cV1F Y qX8_burns_27 mX8_66 iyX8_refused (by decide) rfl (by decide) rfl (Nat.le_of_ble_eq_true rfl) (c_refused (w := 3) _ _ _ (by decide) (by decide)) ?_
      exact J_iret X qX8_burns_30 (RS_i (by
        unfold f_burns
        try simp only [hk, Int.toNat_natCast]
        repeat (first | rw [if_pos (by omega)] | rw [if_neg (by omega)] | rw [if_pos h_in] | rw [if_neg h_in])
        try rfl) (Scr_rf _))
    · refine J_ne0 Y qX8_burns_13 ?_
      refine J_aloadr_0 Y qX8_burns_16 ?_
      refine J_iload_3 Y qX8_burns_17 ?_
      refine J_cV1B Y qX8_burns_18 mX8_277 iyX8_isNoShopSet (by decide) rfl (by decide) rfl (Nat.le_of_ble_eq_true rfl) (c_isNoShopSet _ _ _ hk (by omega) (by omega) (by omega)) (fun h18 => ?_) (fun h18 => ?_)
      · refine J_eq1 Y qX8_burns_21 ?_
        refine J_aloadr_0 Y qX8_burns_24 ?_
        refine J_bipush Y qX8_burns_25 (by decide) ?_
        refine J_cV1F Y qX8_burns_27 mX8_66 iyX8_refused (by decide) rfl (by decide) rfl (Nat.le_of_ble_eq_true rfl) (c_refused (w := 3) _ _ _ (by decide) (by decide)) ?_
        exact J_iret X qX8_burns_30 (RS_i (by
          unfold f_burns
          try simp only [hk, Int.toNat_natCast]
          repeat (first | rw [if_pos (by omega)] | rw [if_neg (by omega)] | rw [if_pos h_in] | rw [if_neg h_in])
          try rfl) (Scr_rf _))
      · refine J_eq0 Y qX8_burns_21 ?_
        obtain ⟨fr, rfl⟩ := nat_of (show 0 ≤ a by omega)
        obtain ⟨s, rfl⟩ := nat_of (show 0 ≤ b by omega)
        obtain ⟨op, rfl⟩ := nat_of (show 0 ≤ c by omega)
        have pw : 2 ^ k ≤ 2 ^ 14 := Nat.pow_le_pow_right (by decide) (by omega)
        obtain ⟨u, hu⟩ : ∃ u, 2 ^ k = u := ⟨_, rfl⟩
        rw [hu] at pw h18
        refine J_iload_3 Y qX8_burns_31 ?_
        refine J_iload_1 Y qX8_burns_32 ?_
        refine J_cS2B Y qX8_burns_33 mX8_280 iyX8_isIn rfl (by decide) rfl (Nat.le_of_ble_eq_true rfl) (c_isIn _ _ _ (by omega) (by omega)) (fun h_in => ?_) (fun h_in => ?_)
        · refine J_eq1 Y qX8_burns_36 ?_
          refine J_aloadr_0 Y qX8_burns_39 ?_
          refine J_bipush Y qX8_burns_40 (by decide) ?_
          refine J_cV1F Y qX8_burns_42 mX8_66 iyX8_refused (by decide) rfl (by decide) rfl (Nat.le_of_ble_eq_true rfl) (c_refused (w := 7) _ _ _ (by decide) (by decide)) ?_
          exact J_iret X qX8_burns_45 (RS_i (by
            unfold f_burns
            try simp only [hk, Int.toNat_natCast]
            repeat (first | rw [if_pos (by omega)] | rw [if_neg (by omega)] | rw [if_pos h_in] | rw [if_neg h_in])
            try rfl) (Scr_rf _))
        · refine J_eq0 Y qX8_burns_36 ?_
          refine J_aloadr_0 Y qX8_burns_46 ?_
          refine J_getR Y qX8_burns_47 fX8_10 (by decide) ?_
          refine J_iload_1 Y qX8_burns_50 ?_
          refine J_iload_3 Y qX8_burns_51 ?_
          refine J_cV2V Y qX8_burns_52 mX8_283 iyX0_spread (by decide) rfl (by decide) rfl (Nat.le_of_ble_eq_true rfl) (c_spread _ _ _ hI hk (by omega) (by omega) (by omega)) (fun M2 h52 => ?_)
          obtain ⟨D, rfl, hF⟩ := h52
          refine J_aloadr_0 Y qX8_burns_55 ?_
          refine J_getR Y qX8_burns_56 fX8_10 (by decide) ?_
          refine J_getR Y qX8_burns_59 fX8_286 (by decide) ?_
          refine J_iload_2 Y qX8_burns_62 ?_
          refine J_ialoadN (kx := s) Y qX8_burns_63 rfl (by decide) rfl (by omega) (by decide) ?_
          rw [upR_at, fireD_eq hI.haz hF s (by omega)]
          exact J_iret X qX8_burns_64 (RS_i (by
            unfold f_burns
            try simp only [hk, Int.toNat_natCast]
            repeat (first | rw [if_pos (by omega)] | rw [if_neg (by omega)] | rw [if_pos h_in] | rw [if_neg h_in])
            try rfl) (Scr_row _ _))

theorem k_lost (l : Launch) (G : Gx) (M : Mem) {n : Nat} {a b c : Int} (a1 : -2147483648 ≤ a) (a2 : a < 2147483648) (b1 : -2147483648 ≤ b) (b2 : b < 2147483648) (c1 : -2147483648 ≤ c) (c2 : c < 2147483648) (hI : Inv n M) (hn : n < 512)  : Ct l G 6 yX8_lost cX8_lost 4 ((Option.some Jvm.ClassFile.FieldType.int)) [rf G 8 0, vi a, vi b, vi c] M (RS (f_lost M a b c)) := by
  refine Ct.of rfl (Nat.le_of_ble_eq_true rfl) rfl (fun E X => ?_)
  have Y := X.ok
  obtain ⟨c1, c2⟩ := hI.count
  obtain ⟨d1, d2⟩ := hI.day
  obtain ⟨k, hk⟩ := nat_of c1
  refine J_aloadr_0 Y qX8_lost_0 ?_
  refine J_iload_1 Y qX8_lost_1 ?_
  refine J_cV1B Y qX8_lost_2 mX8_101 iyX8_isNoShop (by decide) rfl (by decide) rfl (Nat.le_of_ble_eq_true rfl) (c_isNoShop _ _ _ (by omega) (by omega) (by omega) (by omega)) (fun h2 => ?_) (fun h2 => ?_)
  · refine J_ne1 Y qX8_lost_5 ?_
    refine J_aloadr_0 Y qX8_lost_16 ?_
    refine J_bipush Y qX8_lost_17 (by decide) ?_
    refine J_cV1F Y qX8_lost_19 mX8_66 iyX8_refused (by decide) rfl (by decide) rfl (Nat.le_of_ble_eq_true rfl) (c_refused (w := 3) _ _ _ (by decide) (by decide)) ?_
    exact J_iret X qX8_lost_22 (RS_i (by
      unfold f_lost
      try simp only [hk, Int.toNat_natCast]
      repeat (first | rw [if_pos (by omega)] | rw [if_neg (by omega)] | rw [if_pos h_in] | rw [if_neg h_in])
      try rfl) (Scr_rf _))
  · refine J_ne0 Y qX8_lost_5 ?_
    refine J_aloadr_0 Y qX8_lost_8 ?_
    refine J_iload_3 Y qX8_lost_9 ?_
    refine J_cV1B Y qX8_lost_10 mX8_277 iyX8_isNoShopSet (by decide) rfl (by decide) rfl (Nat.le_of_ble_eq_true rfl) (c_isNoShopSet _ _ _ hk (by omega) (by omega) (by omega)) (fun h10 => ?_) (fun h10 => ?_)
    · refine J_eq1 Y qX8_lost_13 ?_
      refine J_aloadr_0 Y qX8_lost_16 ?_
      refine J_bipush Y qX8_lost_17 (by decide) ?_
      refine J_cV1F Y qX8_lost_19 mX8_66 iyX8_refused (by decide) rfl (by decide) rfl (Nat.le_of_ble_eq_true rfl) (c_refused (w := 3) _ _ _ (by decide) (by decide)) ?_
      exact J_iret X qX8_lost_22 (RS_i (by
        unfold f_lost
        try simp only [hk, Int.toNat_natCast]
        repeat (first | rw [if_pos (by omega)] | rw [if_neg (by omega)] | rw [if_pos h_in] | rw [if_neg h_in])
        try rfl) (Scr_rf _))
    · refine J_eq0 Y qX8_lost_13 ?_
      obtain ⟨fr, rfl⟩ := nat_of (show 0 ≤ a by omega)
      obtain ⟨op, rfl⟩ := nat_of (show 0 ≤ c by omega)
      have pw : 2 ^ k ≤ 2 ^ 14 := Nat.pow_le_pow_right (by decide) (by omega)
      obtain ⟨u, hu⟩ : ∃ u, 2 ^ k = u := ⟨_, rfl⟩
      rw [hu] at pw h10
      refine J_iload_3 Y qX8_lost_23 ?_
      refine J_iload_1 Y qX8_lost_24 ?_
      refine J_cS2B Y qX8_lost_25 mX8_280 iyX8_isIn rfl (by decide) rfl (Nat.le_of_ble_eq_true rfl) (c_isIn _ _ _ (by omega) (by omega)) (fun h_in => ?_) (fun h_in => ?_)
      · refine J_ne1 Y qX8_lost_28 ?_
        refine J_aloadr_0 Y qX8_lost_42 ?_
        refine J_bipush Y qX8_lost_43 (by decide) ?_
        refine J_cV1F Y qX8_lost_45 mX8_66 iyX8_refused (by decide) rfl (by decide) rfl (Nat.le_of_ble_eq_true rfl) (c_refused (w := 7) _ _ _ (by decide) (by decide)) ?_
        exact J_iret X qX8_lost_48 (RS_i (by
          unfold f_lost
          try simp only [hk, Int.toNat_natCast]
          repeat (first | rw [if_pos (by omega)] | rw [if_neg (by omega)] | rw [if_pos h_in] | rw [if_neg h_in])
          try rfl) (Scr_rf _))
      · refine J_ne0 Y qX8_lost_28 ?_
        refine J_iload_2 Y qX8_lost_31 ?_
        refine J_iconst Y qX8_lost_32 ?_
        refine J_sipush Y qX8_lost_33 (by decide) ?_
        refine J_cS3B Y qX8_lost_36 mX8_70 iyX8_isOutside rfl (by decide) rfl (Nat.le_of_ble_eq_true rfl) (c_isOutside _ _ _ (by omega) (by omega) (by omega) (by omega) (by omega) (by omega)) (fun h36 => ?_) (fun h36 => ?_)
        · refine J_eq1 Y qX8_lost_39 ?_
          refine J_aloadr_0 Y qX8_lost_42 ?_
          refine J_bipush Y qX8_lost_43 (by decide) ?_
          refine J_cV1F Y qX8_lost_45 mX8_66 iyX8_refused (by decide) rfl (by decide) rfl (Nat.le_of_ble_eq_true rfl) (c_refused (w := 7) _ _ _ (by decide) (by decide)) ?_
          exact J_iret X qX8_lost_48 (RS_i (by
            unfold f_lost
            try simp only [hk, Int.toNat_natCast]
            repeat (first | rw [if_pos (by omega)] | rw [if_neg (by omega)] | rw [if_pos h_in] | rw [if_neg h_in])
            try rfl) (Scr_rf _))
        · refine J_eq0 Y qX8_lost_39 ?_
          refine J_aloadr_0 Y qX8_lost_49 ?_
          refine J_getR Y qX8_lost_50 fX8_10 (by decide) ?_
          refine J_iload_1 Y qX8_lost_53 ?_
          refine J_iload_2 Y qX8_lost_54 ?_
          refine J_iload_3 Y qX8_lost_55 ?_
          refine J_cV3I Y qX8_lost_56 mX8_289 iyX0_lossBy (by decide) rfl (by decide) rfl (Nat.le_of_ble_eq_true rfl) (c_lossBy _ _ _ hI hk (by omega) (by omega) (by omega) (by omega) (by omega)) (fun z56 M2 h56 => ?_)
          obtain ⟨⟨D, rfl⟩, rfl⟩ := h56
          exact J_iret X qX8_lost_59 (RS_i (by
            unfold f_lost
            try simp only [hk, Int.toNat_natCast]
            repeat (first | rw [if_pos (by omega)] | rw [if_neg (by omega)] | rw [if_pos h_in] | rw [if_neg h_in])
            try rfl) (Scr_row _ _))

theorem k_stop (l : Launch) (G : Gx) (M : Mem) {n : Nat} {a b c : Int} (a1 : -2147483648 ≤ a) (a2 : a < 2147483648) (b1 : -2147483648 ≤ b) (b2 : b < 2147483648) (c1 : -2147483648 ≤ c) (c2 : c < 2147483648) (hI : Inv n M) (hn : n < 512)  : Ct l G 8 yX8_stop cX8_stop 4 ((Option.some Jvm.ClassFile.FieldType.int)) [rf G 8 0, vi a, vi b, vi c] M (RS (f_stop M a b c)) := by
  refine Ct.of rfl (Nat.le_of_ble_eq_true rfl) rfl (fun E X => ?_)
  have Y := X.ok
  obtain ⟨c1, c2⟩ := hI.count
  obtain ⟨d1, d2⟩ := hI.day
  obtain ⟨k, hk⟩ := nat_of c1
  refine J_aloadr_0 Y qX8_stop_0 ?_
  refine J_iload_1 Y qX8_stop_1 ?_
  refine J_cV1B Y qX8_stop_2 mX8_101 iyX8_isNoShop (by decide) rfl (by decide) rfl (Nat.le_of_ble_eq_true rfl) (c_isNoShop _ _ _ (by omega) (by omega) (by omega) (by omega)) (fun h2 => ?_) (fun h2 => ?_)
  · refine J_eq1 Y qX8_stop_5 ?_
    refine J_aloadr_0 Y qX8_stop_8 ?_
    refine J_bipush Y qX8_stop_9 (by decide) ?_
    refine J_cV1F Y qX8_stop_11 mX8_66 iyX8_refused (by decide) rfl (by decide) rfl (Nat.le_of_ble_eq_true rfl) (c_refused (w := 3) _ _ _ (by decide) (by decide)) ?_
    exact J_iret X qX8_stop_14 (RS_i (by
      unfold f_stop
      try simp only [hk, Int.toNat_natCast]
      repeat (first | rw [if_pos (by omega)] | rw [if_neg (by omega)] | rw [if_pos h_in] | rw [if_neg h_in])
      try rfl) (Scr_rf _))
  · refine J_eq0 Y qX8_stop_5 ?_
    obtain ⟨fr, rfl⟩ := nat_of (show 0 ≤ a by omega)
    refine J_iload_2 Y qX8_stop_15 ?_
    refine J_iconst Y qX8_stop_16 ?_
    refine J_sipush Y qX8_stop_17 (by decide) ?_
    refine J_cS3B Y qX8_stop_20 mX8_70 iyX8_isOutside rfl (by decide) rfl (Nat.le_of_ble_eq_true rfl) (c_isOutside _ _ _ (by omega) (by omega) (by omega) (by omega) (by omega) (by omega)) (fun h20 => ?_) (fun h20 => ?_)
    · refine J_ne1 Y qX8_stop_23 ?_
      refine J_aloadr_0 Y qX8_stop_35 ?_
      refine J_bipush Y qX8_stop_36 (by decide) ?_
      refine J_cV1F Y qX8_stop_38 mX8_66 iyX8_refused (by decide) rfl (by decide) rfl (Nat.le_of_ble_eq_true rfl) (c_refused (w := 7) _ _ _ (by decide) (by decide)) ?_
      exact J_iret X qX8_stop_41 (RS_i (by
        unfold f_stop
        try simp only [hk, Int.toNat_natCast]
        repeat (first | rw [if_pos (by omega)] | rw [if_neg (by omega)] | rw [if_pos h_in] | rw [if_neg h_in])
        try rfl) (Scr_rf _))
    · refine J_ne0 Y qX8_stop_23 ?_
      refine J_iload_3 Y qX8_stop_26 ?_
      refine J_iconst Y qX8_stop_27 ?_
      refine J_iconst Y qX8_stop_28 ?_
      refine J_cS3B Y qX8_stop_29 mX8_70 iyX8_isOutside rfl (by decide) rfl (Nat.le_of_ble_eq_true rfl) (c_isOutside _ _ _ (by omega) (by omega) (by omega) (by omega) (by omega) (by omega)) (fun h29 => ?_) (fun h29 => ?_)
      · refine J_eq1 Y qX8_stop_32 ?_
        refine J_aloadr_0 Y qX8_stop_35 ?_
        refine J_bipush Y qX8_stop_36 (by decide) ?_
        refine J_cV1F Y qX8_stop_38 mX8_66 iyX8_refused (by decide) rfl (by decide) rfl (Nat.le_of_ble_eq_true rfl) (c_refused (w := 7) _ _ _ (by decide) (by decide)) ?_
        exact J_iret X qX8_stop_41 (RS_i (by
          unfold f_stop
          try simp only [hk, Int.toNat_natCast]
          repeat (first | rw [if_pos (by omega)] | rw [if_neg (by omega)] | rw [if_pos h_in] | rw [if_neg h_in])
          try rfl) (Scr_rf _))
      · refine J_eq0 Y qX8_stop_32 ?_
        refine J_aloadr_0 Y qX8_stop_42 ?_
        refine J_getR Y qX8_stop_43 fX8_10 (by decide) ?_
        refine J_iload_1 Y qX8_stop_46 ?_
        refine J_iload_2 Y qX8_stop_47 ?_
        refine J_iload_3 Y qX8_stop_48 ?_
        refine J_cV3I Y qX8_stop_49 mX8_293 iyX0_cheapestSet (by decide) rfl (by decide) rfl (Nat.le_of_ble_eq_true rfl) (c_cheapestSet _ _ _ hI hk (by omega) (by omega) (by omega) (by omega) (by omega) (by omega)) (fun z49 M2 h49 => ?_)
        obtain ⟨rfl, hsc⟩ := h49
        rw [stpV_first hI hk (by omega) fr b c _ (0, 1000000) (show (1000000 : Int) ≤ 1000000 by decide) (show (1000000 : Int) ≤ 1000000 by decide)]
        exact J_iret X qX8_stop_52 (RS_i (by
          unfold f_stop
          try simp only [hk, Int.toNat_natCast]
          repeat (first | rw [if_pos (by omega)] | rw [if_neg (by omega)] | rw [if_pos h_in] | rw [if_neg h_in])
          try rfl) hsc)


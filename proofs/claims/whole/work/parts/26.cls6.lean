/-! ===== the class: fire ===== -/
theorem c_isIn (l : Launch) (G : Gx) (M : Mem) {n m : Nat} (hn : n < 2147483648) (hm : m < 31) : Ct l G 1 yX8_isIn cX8_isIn 2 ((Option.some Jvm.ClassFile.FieldType.boolean)) [vi (n : Nat), vi (m : Nat)] M (RB M (n.testBit m = true)) := by
  refine Ct.of rfl (Nat.le_of_ble_eq_true rfl) rfl (fun E X => ?_)
  have Y := X.ok
  refine J_iload_0 Y qX8_isIn_0 ?_
  refine J_iload_1 Y qX8_isIn_1 ?_
  refine J_ishr Y m qX8_isIn_2 rfl (by omega) (by omega) (by omega) ?_
  refine J_iconst Y qX8_isIn_3 ?_
  refine J_mask Y 1 qX8_isIn_4 (by decide) (by decide +kernel) ?_
  obtain ⟨b, hb⟩ : ∃ b, n / 2 ^ m % 2 = b := ⟨_, rfl⟩
  have hb2 := Nat.mod_lt (n / 2 ^ m) (show 0 < 2 by decide)
  have hbd := bit_div n m
  rw [hb] at hb2 hbd
  rw [show (n : Int) / 2 ^ m % 2 ^ 1 = (b : Int) from by rw [← hb]; simp]
  refine J_iconst Y qX8_isIn_5 ?_
  refine J_icmp_ne Y qX8_isIn_6 (by omega) (by omega) (by omega) (by omega) (fun h6 => ?_) (fun h6 => ?_)
  · refine J_iconst Y qX8_isIn_13 ?_
    exact J_zret_f X qX8_isIn_14 rfl (fun z => absurd (hbd.mpr z) (by omega))
  · refine J_iconst Y qX8_isIn_9 ?_
    refine J_goto Y qX8_isIn_10 ?_
    exact J_zret_t X qX8_isIn_14 rfl (hbd.mp (by omega))

theorem c_isNoShopSet (l : Launch) (G : Gx) (M : Mem) {k : Nat} {x : Int} (hk : M 0 0 2 = (k : Int)) (k14 : k ≤ 14) (x1 : -2147483648 ≤ x) (x2 : x < 2147483648) : Ct l G 2 yX8_isNoShopSet cX8_isNoShopSet 2 ((Option.some Jvm.ClassFile.FieldType.boolean)) [rf G 8 0, vi x] M (RB M (x < 0 ∨ ((2 ^ k : Nat) : Int) ≤ x)) := by
  refine Ct.of rfl (Nat.le_of_ble_eq_true rfl) rfl (fun E X => ?_)
  have Y := X.ok
  have pw : 2 ^ k ≤ 2 ^ 14 := Nat.pow_le_pow_right (by decide) k14
  obtain ⟨u, hu⟩ : ∃ u, 2 ^ k = u := ⟨_, rfl⟩
  rw [hu] at pw
  rw [hu] at X
  refine J_iload_1 Y qX8_isNoShopSet_0 ?_
  refine J_iconst Y qX8_isNoShopSet_1 ?_
  refine J_iconst Y qX8_isNoShopSet_2 ?_
  refine J_aloadr_0 Y qX8_isNoShopSet_3 ?_
  refine J_getR Y qX8_isNoShopSet_4 fX8_10 (by decide) ?_
  refine J_getI Y qX8_isNoShopSet_7 fX8_74 (by decide) ?_
  rw [hk]
  refine J_shl1 Y k qX8_isNoShopSet_10 rfl (by omega) ?_
  rw [hu]
  refine J_iconst Y qX8_isNoShopSet_11 ?_
  refine J_isub Y qX8_isNoShopSet_12 ?_
  refine J_cS3B Y qX8_isNoShopSet_13 mX8_70 iyX8_isOutside rfl (by decide) rfl (Nat.le_of_ble_eq_true rfl) (c_isOutside _ _ _ (by omega) (by omega) (by omega) (by omega) (by omega) (by omega)) (fun h13 => ?_) (fun h13 => ?_)
  · exact J_zret_t X qX8_isNoShopSet_16 rfl (by omega)
  · exact J_zret_f X qX8_isNoShopSet_16 rfl (by omega)

theorem lp_soonest {l : Launch} {G : Gx} {E : Fx} {M : Mem} {D : Nat → Int} {w k : Nat} (hk : M 0 0 2 = (k : Int)) (k14 : k ≤ 14) (hw : w < 2147483648) (hD : ∀ s, s < k → -1 ≤ D s ∧ D s ≤ 1000) (X : OkM l G E cX0_soonest RX0 4 2 (some .int) (RP (upR M 11 0 D) (snB w D k))) : ∀ (n i : Nat), i ≤ k → k < i + n → J G E 4 [some (rf G 0 0), some (vi (w : Int)), some (vi (snB w D i)), some (vi (i : Int))] [] (upR M 11 0 D) := by
  have Y := X.ok
  intro n
  induction n with
  | zero => intro i h1 h2; exfalso; omega
  | succ n ih =>
    intro i h1 h2
    have rr := snB_rng w D i
    refine J_iload_3 Y qX0_soonest_4 ?_
    refine J_aloadr_0 Y qX0_soonest_5 ?_
    refine J_getI Y qX0_soonest_6 fX0_21 (by decide) ?_
    rw [show (upR M 11 0 D) 0 0 2 = M 0 0 2 from upR_ne (by omega)]
    refine J_icmp_ge Y qX0_soonest_9 (by omega) (by omega) (by omega) (by omega) (fun h9 => ?_) (fun h9 => ?_)
    · obtain rfl : i = k := by omega
      refine J_iload_2 Y qX0_soonest_48 ?_
      exact J_iret X qX0_soonest_49 (RP_i rfl)
    · have hDi := hD i (by omega)
      refine J_iload_1 Y qX0_soonest_12 ?_
      refine J_iload_3 Y qX0_soonest_13 ?_
      refine J_cS2B Y qX0_soonest_14 mX0_66 iyX8_isIn rfl (by decide) rfl (Nat.le_of_ble_eq_true rfl) (c_isIn _ _ _ (by omega) (by omega)) (fun h14 => ?_) (fun h14 => ?_)
      · refine J_eq1 Y qX0_soonest_17 ?_
        refine J_iload_2 Y qX0_soonest_20 ?_
        refine J_iconst Y qX0_soonest_21 ?_
        refine J_icmp_eq Y qX0_soonest_22 (by omega) (by omega) (by omega) (by omega) (fun h22 => ?_) (fun h22 => ?_)
        · refine J_iload_3 Y qX0_soonest_40 ?_
          refine J_istore_2 Y qX0_soonest_41 rfl ?_
          refine J_iinc_3 Y qX0_soonest_42 rfl ?_
          refine J_goto Y qX0_soonest_45 ?_
          have ih9 := ih (i + 1) (by omega) (by omega)
          rw [snB] at ih9
          first
            | (rw [if_pos ⟨h14, by omega⟩] at ih9; exact ih9)
            | (rw [if_neg (fun z => absurd z.2 (by omega))] at ih9; exact ih9)
            | (rw [if_neg (fun z => h14 z.1)] at ih9; exact ih9)
        · refine J_aloadr_0 Y qX0_soonest_25 ?_
          refine J_getR Y qX0_soonest_26 fX0_17 (by decide) ?_
          refine J_iload_3 Y qX0_soonest_29 ?_
          refine J_ialoadN (kx := i) Y qX0_soonest_30 rfl (by decide) rfl (by omega) (by decide) ?_
          refine J_aloadr_0 Y qX0_soonest_31 ?_
          refine J_getR Y qX0_soonest_32 fX0_17 (by decide) ?_
          refine J_iload_2 Y qX0_soonest_35 ?_
          refine J_iaload Y qX0_soonest_36 rfl (by decide) (by omega) (by omega) (by decide) ?_
          rw [upR_at, upR_at]
          have hDj := hD (snB w D i).toNat (by omega)
          refine J_icmp_ge Y qX0_soonest_37 (by omega) (by omega) (by omega) (by omega) (fun h37 => ?_) (fun h37 => ?_)
          · refine J_iinc_3 Y qX0_soonest_42 rfl ?_
            refine J_goto Y qX0_soonest_45 ?_
            have ih9 := ih (i + 1) (by omega) (by omega)
            rw [snB] at ih9
            first
              | (rw [if_pos ⟨h14, by omega⟩] at ih9; exact ih9)
              | (rw [if_neg (fun z => absurd z.2 (by omega))] at ih9; exact ih9)
              | (rw [if_neg (fun z => h14 z.1)] at ih9; exact ih9)
          · refine J_iload_3 Y qX0_soonest_40 ?_
            refine J_istore_2 Y qX0_soonest_41 rfl ?_
            refine J_iinc_3 Y qX0_soonest_42 rfl ?_
            refine J_goto Y qX0_soonest_45 ?_
            have ih9 := ih (i + 1) (by omega) (by omega)
            rw [snB] at ih9
            first
              | (rw [if_pos ⟨h14, by omega⟩] at ih9; exact ih9)
              | (rw [if_neg (fun z => absurd z.2 (by omega))] at ih9; exact ih9)
              | (rw [if_neg (fun z => h14 z.1)] at ih9; exact ih9)
      · refine J_eq0 Y qX0_soonest_17 ?_
        refine J_iinc_3 Y qX0_soonest_42 rfl ?_
        refine J_goto Y qX0_soonest_45 ?_
        have ih9 := ih (i + 1) (by omega) (by omega)
        rw [snB] at ih9
        first
          | (rw [if_pos ⟨h14, by omega⟩] at ih9; exact ih9)
          | (rw [if_neg (fun z => absurd z.2 (by omega))] at ih9; exact ih9)
          | (rw [if_neg (fun z => h14 z.1)] at ih9; exact ih9)

theorem c_soonest (l : Launch) (G : Gx) (M : Mem) {D : Nat → Int} {w k : Nat} (hk : M 0 0 2 = (k : Int)) (k14 : k ≤ 14) (hw : w < 2147483648) (hD : ∀ s, s < k → -1 ≤ D s ∧ D s ≤ 1000) : Ct l G 2 yX0_soonest cX0_soonest 4 ((Option.some Jvm.ClassFile.FieldType.int)) [rf G 0 0, vi (w : Nat)] (upR M 11 0 D) (RP (upR M 11 0 D) (snB w D k)) := by
  refine Ct.of rfl (Nat.le_of_ble_eq_true rfl) rfl (fun E X => ?_)
  have Y := X.ok
  refine J_iconst Y qX0_soonest_0 ?_
  refine J_istore_2 Y qX0_soonest_1 rfl ?_
  refine J_iconst Y qX0_soonest_2 ?_
  refine J_istore_3 Y qX0_soonest_3 rfl ?_
  exact lp_soonest hk k14 hw hD X (k + 1) 0 (by omega) (by omega)

theorem lp_catchFrom {l : Launch} {G : Gx} {E : Fx} {M : Mem} {D : Nat → Int} {b op k bb : Nat} (hk : M 0 0 2 = (k : Int)) (k14 : k ≤ 14) (hb : b < k) (hop : op < 16384) (hbb : M 5 b 12 = (bb : Int)) (bb1 : bb < 16384) (hDb : D b ≠ -1) (hD : ∀ s, s < k → -1 ≤ D s ∧ D s ≤ 1000) (X : OkM l G E cX0_catchFrom RX0 5 2 (some .int) (RF ((setB (caC M D b op) k : Nat) : Int) (upR M 11 0 (caD M D b op k)))) : ∀ (n i : Nat), i ≤ k → k < i + n → J G E 5 [some (rf G 0 0), some (vi (b : Int)), some (vi (op : Int)), some (vi ((setB (caC M D b op) i : Nat) : Int)), some (vi (i : Int))] [] (upR M 11 0 (caD M D b op i)) := by
  have Y := X.ok
  intro n
  induction n with
  | zero => intro i h1 h2; exfalso; omega
  | succ n ih =>
    intro i h1 h2
    refine J_iload_4 Y qX0_catchFrom_5 ?_
    refine J_aloadr_0 Y qX0_catchFrom_7 ?_
    refine J_getI Y qX0_catchFrom_8 fX0_21 (by decide) ?_
    rw [show (upR M 11 0 (caD M D b op i)) 0 0 2 = M 0 0 2 from upR_ne (by omega)]
    refine J_icmp_ge Y qX0_catchFrom_11 (by omega) (by omega) (by omega) (by omega) (fun h11 => ?_) (fun h11 => ?_)
    · obtain rfl : i = k := by omega
      refine J_iload_3 Y qX0_catchFrom_83 ?_
      exact J_iret X qX0_catchFrom_84 ⟨rfl, rfl⟩
    · have hDi := hD i (by omega)
      have hDi9 : caD M D b op i i = D i := by simp [caD]
      have hDb9 : caD M D b op i b = D b := by
        simp only [caD]
        rw [if_neg (fun z => by have := z.2; simp only [caC, Bool.and_eq_true, decide_eq_true_eq] at this; exact hDb this.2)]
      have hlt : bb ^^^ (bb &&& op) < 2 ^ 14 := Nat.xor_lt_two_pow bb1 (Nat.lt_of_le_of_lt Nat.and_le_left bb1)
      have hbit := andn_bit bb op i
      have hci : caC M D b op i = ((bb.testBit i && !op.testBit i) && decide (D i = -1)) := by simp only [caC, hbb, Int.toNat_natCast]
      rw [← hbit] at hci
      refine J_aloadr_0 Y qX0_catchFrom_14 ?_
      refine J_getR Y qX0_catchFrom_15 fX0_11 (by decide) ?_
      refine J_iload_1 Y qX0_catchFrom_18 ?_
      refine J_aaloadN (kx := b) Y qX0_catchFrom_19 rfl (fun _ => rfl) (by decide) rfl (by omega) (by decide) ?_
      refine J_getI Y qX0_catchFrom_20 fX0_42 (by show _ < 14; omega) ?_
      rw [show (upR M 11 0 (caD M D b op i)) 5 b 12 = (bb : Int) from by rw [upR_ne (by omega)]; exact hbb]
      refine J_iload_2 Y qX0_catchFrom_23 ?_
      refine J_iconst Y qX0_catchFrom_24 ?_
      refine J_xorm1 Y qX0_catchFrom_25 ?_
      refine J_andn Y qX0_catchFrom_26 ?_
      refine J_iload_4 Y qX0_catchFrom_27 ?_
      refine J_cS2B Y qX0_catchFrom_29 mX0_66 iyX8_isIn rfl (by decide) rfl (Nat.le_of_ble_eq_true rfl) (c_isIn _ _ _ (by omega) (by omega)) (fun h29 => ?_) (fun h29 => ?_)
      · refine J_eq1 Y qX0_catchFrom_32 ?_
        refine J_aloadr_0 Y qX0_catchFrom_35 ?_
        refine J_getR Y qX0_catchFrom_36 fX0_17 (by decide) ?_
        refine J_iload_4 Y qX0_catchFrom_39 ?_
        refine J_ialoadN (kx := i) Y qX0_catchFrom_41 rfl (by decide) rfl (by omega) (by decide) ?_
        rw [upR_at, hDi9]
        refine J_iconst Y qX0_catchFrom_42 ?_
        refine J_icmp_ne Y qX0_catchFrom_43 (by omega) (by omega) (by omega) (by omega) (fun h43 => ?_) (fun h43 => ?_)
        · refine J_iinc_4 Y qX0_catchFrom_77 rfl ?_
          refine J_goto Y qX0_catchFrom_80 ?_
          have ih9 := ih (i + 1) (by omega) (by omega)
          rw [setB] at ih9
          first
            | (rw [if_pos hc9] at ih9; exact ih9)
            | (have hc9 : ¬ caC M D b op i = true := by rw [hci]; simp; omega
               rw [if_neg hc9] at ih9
               rw [show caD M D b op i = caD M D b op (i + 1) from by
                 funext c
                 simp only [caD]
                 by_cases e : c = i
                 · subst e; rw [if_neg (by omega), if_neg (fun z => hc9 z.2)]
                 · have : (c < i) ↔ (c < i + 1) := by omega
                   simp only [this]]
               exact ih9)
            | (have hc9 : ¬ caC M D b op i = true := by rw [hci]; simp [ts_nt9 h29]
               rw [if_neg hc9] at ih9
               rw [show caD M D b op i = caD M D b op (i + 1) from by
                 funext c
                 simp only [caD]
                 by_cases e : c = i
                 · subst e; rw [if_neg (by omega), if_neg (fun z => hc9 z.2)]
                 · have : (c < i) ↔ (c < i + 1) := by omega
                   simp only [this]]
               exact ih9)
        · refine J_aloadr_0 Y qX0_catchFrom_46 ?_
          refine J_getR Y qX0_catchFrom_47 fX0_17 (by decide) ?_
          refine J_iload_4 Y qX0_catchFrom_50 ?_
          refine J_aloadr_0 Y qX0_catchFrom_52 ?_
          refine J_getR Y qX0_catchFrom_53 fX0_17 (by decide) ?_
          refine J_iload_1 Y qX0_catchFrom_56 ?_
          refine J_ialoadN (kx := b) Y qX0_catchFrom_57 rfl (by decide) rfl (by omega) (by decide) ?_
          rw [upR_at, hDb9]
          refine J_aloadr_0 Y qX0_catchFrom_58 ?_
          refine J_getR Y qX0_catchFrom_59 fX0_11 (by decide) ?_
          refine J_iload_4 Y qX0_catchFrom_62 ?_
          refine J_aaloadN (kx := i) Y qX0_catchFrom_64 rfl (fun _ => rfl) (by decide) rfl (by omega) (by decide) ?_
          refine J_getI Y qX0_catchFrom_65 fX0_70 (by show _ < 14; omega) ?_
          rw [show (upR M 11 0 (caD M D b op i)) 5 i 3 = M 5 i 3 from upR_ne (by omega)]
          refine J_iadd Y qX0_catchFrom_68 ?_
          refine J_iastoreN (kx := i) Y qX0_catchFrom_69 rfl (by decide) rfl (by omega) (by decide) ?_
          have hc9 : caC M D b op i = true := by rw [hci, h29]; simp; omega
          rw [upR_up, show (fun c => if c = i then D b + M 5 i 3 else caD M D b op i c) = caD M D b op (i + 1) from by
            funext c
            simp only [caD]
            by_cases e : c = i
            · subst e; rw [if_pos rfl, if_pos ⟨by omega, hc9⟩]
            · rw [if_neg e]
              have : (c < i) ↔ (c < i + 1) := by omega
              simp only [this]]
          refine J_iload_3 Y qX0_catchFrom_70 ?_
          refine J_iconst Y qX0_catchFrom_71 ?_
          refine J_iload_4 Y qX0_catchFrom_72 ?_
          refine J_shl1 Y i qX0_catchFrom_74 rfl (by omega) ?_
          refine J_orN Y qX0_catchFrom_75 ?_
          refine J_istore_3 Y qX0_catchFrom_76 rfl ?_
          refine J_iinc_4 Y qX0_catchFrom_77 rfl ?_
          refine J_goto Y qX0_catchFrom_80 ?_
          have ih9 := ih (i + 1) (by omega) (by omega)
          rw [setB] at ih9
          first
            | (rw [if_pos hc9] at ih9; exact ih9)
            | (have hc9 : ¬ caC M D b op i = true := by rw [hci]; simp; omega
               rw [if_neg hc9] at ih9
               rw [show caD M D b op i = caD M D b op (i + 1) from by
                 funext c
                 simp only [caD]
                 by_cases e : c = i
                 · subst e; rw [if_neg (by omega), if_neg (fun z => hc9 z.2)]
                 · have : (c < i) ↔ (c < i + 1) := by omega
                   simp only [this]]
               exact ih9)
            | (have hc9 : ¬ caC M D b op i = true := by rw [hci]; simp [ts_nt9 h29]
               rw [if_neg hc9] at ih9
               rw [show caD M D b op i = caD M D b op (i + 1) from by
                 funext c
                 simp only [caD]
                 by_cases e : c = i
                 · subst e; rw [if_neg (by omega), if_neg (fun z => hc9 z.2)]
                 · have : (c < i) ↔ (c < i + 1) := by omega
                   simp only [this]]
               exact ih9)
      · refine J_eq0 Y qX0_catchFrom_32 ?_
        refine J_iinc_4 Y qX0_catchFrom_77 rfl ?_
        refine J_goto Y qX0_catchFrom_80 ?_
        have ih9 := ih (i + 1) (by omega) (by omega)
        rw [setB] at ih9
        first
          | (rw [if_pos hc9] at ih9; exact ih9)
          | (have hc9 : ¬ caC M D b op i = true := by rw [hci]; simp; omega
             rw [if_neg hc9] at ih9
             rw [show caD M D b op i = caD M D b op (i + 1) from by
               funext c
               simp only [caD]
               by_cases e : c = i
               · subst e; rw [if_neg (by omega), if_neg (fun z => hc9 z.2)]
               · have : (c < i) ↔ (c < i + 1) := by omega
                 simp only [this]]
             exact ih9)
          | (have hc9 : ¬ caC M D b op i = true := by rw [hci]; simp [ts_nt9 h29]
             rw [if_neg hc9] at ih9
             rw [show caD M D b op i = caD M D b op (i + 1) from by
               funext c
               simp only [caD]
               by_cases e : c = i
               · subst e; rw [if_neg (by omega), if_neg (fun z => hc9 z.2)]
               · have : (c < i) ↔ (c < i + 1) := by omega
                 simp only [this]]
             exact ih9)

theorem c_catchFrom (l : Launch) (G : Gx) (M : Mem) {D : Nat → Int} {b op k bb : Nat} (hk : M 0 0 2 = (k : Int)) (k14 : k ≤ 14) (hb : b < k) (hop : op < 16384) (hbb : M 5 b 12 = (bb : Int)) (bb1 : bb < 16384) (hDb : D b ≠ -1) (hD : ∀ s, s < k → -1 ≤ D s ∧ D s ≤ 1000) : Ct l G 2 yX0_catchFrom cX0_catchFrom 5 ((Option.some Jvm.ClassFile.FieldType.int)) [rf G 0 0, vi (b : Nat), vi (op : Nat)] (upR M 11 0 D) (RF ((setB (caC M D b op) k : Nat) : Int) (upR M 11 0 (caD M D b op k))) := by
  refine Ct.of rfl (Nat.le_of_ble_eq_true rfl) rfl (fun E X => ?_)
  have Y := X.ok
  refine J_iconst Y qX0_catchFrom_0 ?_
  refine J_istore_3 Y qX0_catchFrom_1 rfl ?_
  refine J_iconst Y qX0_catchFrom_2 ?_
  refine J_istore_4 Y qX0_catchFrom_3 rfl ?_
  have h := lp_catchFrom hk k14 hb hop hbb bb1 hDb hD X (k + 1) 0 (by omega) (by omega)
  rw [caD_0] at h
  exact h

theorem lp_spread {l : Launch} {G : Gx} {E : Fx} {M : Mem} {m k fr op : Nat} (hI : Inv m M) (hk : M 0 0 2 = (k : Int)) (k14 : k ≤ 14) (hfr : fr < k) (hop : op < 16384) (X : OkM l G E cX0_spread RX0 6 3 (none) (RV (fun M2 => ∃ D, M2 = upR M 11 0 D ∧ Fire M fr op D))) : ∀ (n i : Nat), ∀ (D : Nat → Int) (W : Nat) (x5 : Option Value), i ≤ k → k < i + n → SpI M fr op k D W i → W < 2 ^ 14 → J G E 22 [some (rf G 0 0), some (vi (fr : Int)), some (vi (op : Int)), some (vi (W : Int)), some (vi (i : Int)), x5] [] (upR M 11 0 D) := by
  have Y := X.ok
  intro n
  induction n with
  | zero => intro i D W x5 h1 h2; exfalso; omega
  | succ n ih =>
    intro i D W x5 h1 h2 hS hW
    have rr0 := snB_rng W D k
    refine J_iload_4 Y qX0_spread_22 ?_
    refine J_aloadr_0 Y qX0_spread_24 ?_
    refine J_getI Y qX0_spread_25 fX0_21 (by decide) ?_
    rw [show (upR M 11 0 D) 0 0 2 = M 0 0 2 from upR_ne (by omega)]
    refine J_icmp_ge Y qX0_spread_28 (by omega) (by omega) (by omega) (by omega) (fun h28 => ?_) (fun h28 => ?_)
    · obtain rfl : i = k := by omega
      exact J_vret X qX0_spread_68 ⟨rfl, D, rfl, SpI_end hk k14 (by omega) hS (SpI_full hS)⟩
    · refine J_aloadr_0 Y qX0_spread_31 ?_
      refine J_iload_3 Y qX0_spread_32 ?_
      refine J_cV1P Y qX0_spread_33 mX0_58 iyX0_soonest (by decide) rfl (by decide) rfl (Nat.le_of_ble_eq_true rfl) (c_soonest _ _ _ hk k14 (by omega) (fun s hs => by have := hS.2.1 s hs; omega)) ?_
      refine J_istore_5 Y qX0_spread_36 rfl ?_
      refine J_iload_5 Y qX0_spread_38 ?_
      refine J_iconst Y qX0_spread_40 ?_
      refine J_icmp_ne Y qX0_spread_41 (by omega) (by omega) (by omega) (by omega) (fun h41 => ?_) (fun h41 => ?_)
      · have rr := snB_rng W D k
        obtain ⟨x, hx⟩ := nat_of (show 0 ≤ snB W D k by omega)
        obtain ⟨x1, x2, hS9⟩ := SpI_step hk (fun s hs => by have := hI.shopS (s := s) (by omega); exact this.2.2.2) (fun s hs => hI.bes (by omega)) hfr hS hx
        have hB := hI.bes (s := x) (by omega)
        obtain ⟨bb, hbb⟩ := nat_of hB.1
        have bb1 : bb < 2 ^ 14 := by
          apply Nat.lt_of_not_le
          intro hge
          obtain ⟨j, j1, j2⟩ := Nat.exists_ge_and_testBit_of_ge_two_pow hge
          have := (hB.2 j).mp (by rw [hbb]; exact j2)
          omega
        have hW9 : ((W ^^^ (W &&& 2 ^ x)) ||| setB (caC M D x op) k) < 2 ^ 14 := Nat.or_lt_two_pow (Nat.xor_lt_two_pow hW (Nat.lt_of_le_of_lt Nat.and_le_left hW)) (Nat.lt_of_lt_of_le (setB_lt _ k) (Nat.pow_le_pow_right (by decide) k14))
        rw [hx]
        refine J_iload_3 Y qX0_spread_45 ?_
        refine J_iconst Y qX0_spread_46 ?_
        refine J_iload_5 Y qX0_spread_47 ?_
        refine J_shl1 Y x qX0_spread_49 rfl (by omega) ?_
        refine J_iconst Y qX0_spread_50 ?_
        refine J_xorm1 Y qX0_spread_51 ?_
        refine J_andn Y qX0_spread_52 ?_
        refine J_aloadr_0 Y qX0_spread_53 ?_
        refine J_iload_5 Y qX0_spread_54 ?_
        refine J_iload_2 Y qX0_spread_56 ?_
        refine J_cV2F Y qX0_spread_57 mX0_62 iyX0_catchFrom (by decide) rfl (by decide) rfl (Nat.le_of_ble_eq_true rfl) (c_catchFrom _ _ _ hk k14 x1 hop hbb bb1 x2 (fun s hs => by have := hS.2.1 s hs; omega)) ?_
        refine J_orN Y qX0_spread_60 ?_
        refine J_istore_3 Y qX0_spread_61 rfl ?_
        refine J_iinc_4 Y qX0_spread_62 rfl ?_
        refine J_goto Y qX0_spread_65 ?_
        exact ih (i + 1) _ _ _ (by omega) (by omega) hS9 hW9
      · exact J_vret X qX0_spread_44 ⟨rfl, D, rfl, SpI_end hk k14 (by omega) hS (snB_no W D k h41)⟩

theorem c_spread (l : Launch) (G : Gx) (M : Mem) {m k fr op : Nat} (hI : Inv m M) (hk : M 0 0 2 = (k : Int)) (k14 : k ≤ 14) (hfr : fr < k) (hop : op < 16384) : Ct l G 3 yX0_spread cX0_spread 6 ((Option.none : Option Jvm.ClassFile.FieldType)) [rf G 0 0, vi (fr : Nat), vi (op : Nat)] M (RV (fun M2 => ∃ D, M2 = upR M 11 0 D ∧ Fire M fr op D)) := by
  refine Ct.of rfl (Nat.le_of_ble_eq_true rfl) rfl (fun E X => ?_)
  have Y := X.ok
  refine J_aloadr_0 Y qX0_spread_0 ?_
  refine J_getR Y qX0_spread_1 fX0_17 (by decide) ?_
  refine J_iconst Y qX0_spread_4 ?_
  refine J_cS2W Y qX0_spread_5 mX0_52 iyJ7_fill_53178 rfl (by decide) rfl (Nat.le_of_ble_eq_true rfl) (c_fill11 _ _ _) ?_
  refine J_aloadr_0 Y qX0_spread_8 ?_
  refine J_getR Y qX0_spread_9 fX0_17 (by decide) ?_
  refine J_iload_1 Y qX0_spread_12 ?_
  refine J_iconst Y qX0_spread_13 ?_
  refine J_iastoreN (kx := fr) Y qX0_spread_14 rfl (by decide) rfl (by omega) (by decide) ?_
  refine J_iconst Y qX0_spread_15 ?_
  refine J_iload_1 Y qX0_spread_16 ?_
  refine J_shl1 Y fr qX0_spread_17 rfl (by omega) ?_
  refine J_istore_3 Y qX0_spread_18 rfl ?_
  refine J_iconst Y qX0_spread_19 ?_
  refine J_istore_4 Y qX0_spread_20 rfl ?_
  rw [filN, upR_up]
  exact lp_spread hI hk k14 hfr hop X (k + 1) 0 _ _ none (by omega) (by omega) (SpI_0 hfr (by simp) (fun s hs hne => by rw [if_neg hne, if_pos (by omega)])) (Nat.pow_lt_pow_right (by decide) (by omega))


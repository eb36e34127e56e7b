/-! ===== the class: helpers ===== -/
theorem c_isOutside (l : Launch) (G : Gx) (M : Mem) {x lo hi : Int} (x1 : -2147483648 ≤ x) (x2 : x < 2147483648) (lo1 : -2147483648 ≤ lo) (lo2 : lo < 2147483648) (hi1 : -2147483648 ≤ hi) (hi2 : hi < 2147483648) : Ct l G 1 yX8_isOutside cX8_isOutside 3 ((Option.some Jvm.ClassFile.FieldType.boolean)) [vi x, vi lo, vi hi] M (RB M (x < lo ∨ hi < x)) := by
  refine Ct.of rfl (Nat.le_of_ble_eq_true rfl) rfl (fun E X => ?_)
  have Y := X.ok
  refine J_iload_0 Y qX8_isOutside_0 ?_
  refine J_iload_1 Y qX8_isOutside_1 ?_
  refine J_icmp_lt Y qX8_isOutside_2 (by omega) (by omega) (by omega) (by omega) (fun h2 => ?_) (fun h2 => ?_)
  · refine J_iconst Y qX8_isOutside_10 ?_
    refine J_goto Y qX8_isOutside_11 ?_
    exact J_zret_t X qX8_isOutside_15 rfl (by omega)
  · refine J_iload_0 Y qX8_isOutside_5 ?_
    refine J_iload_2 Y qX8_isOutside_6 ?_
    refine J_icmp_le Y qX8_isOutside_7 (by omega) (by omega) (by omega) (by omega) (fun h7 => ?_) (fun h7 => ?_)
    · refine J_iconst Y qX8_isOutside_14 ?_
      exact J_zret_f X qX8_isOutside_15 rfl (by omega)
    · refine J_iconst Y qX8_isOutside_10 ?_
      refine J_goto Y qX8_isOutside_11 ?_
      exact J_zret_t X qX8_isOutside_15 rfl (by omega)

/-- a refusal, counted -/
def rfs (M : Mem) (w : Nat) : Mem := up M 34 0 w (M 34 0 w + 1)

theorem c_refused (l : Launch) (G : Gx) (M : Mem) {w : Nat} (w1 : 2 ≤ w) (w2 : w ≤ 8) : Ct l G 2 yX8_refused cX8_refused 2 ((Option.some Jvm.ClassFile.FieldType.int)) [rf G 8 0, vi (-(w : Int))] M (RF (-(w : Int)) (rfs M w)) := by
  refine Ct.of rfl (Nat.le_of_ble_eq_true rfl) rfl (fun E X => ?_)
  have Y := X.ok
  refine J_iload_1 Y qX8_refused_0 ?_
  refine J_bipush Y qX8_refused_1 (by decide) ?_
  refine J_bipush Y qX8_refused_3 (by decide) ?_
  refine J_cS3B Y qX8_refused_5 mX8_70 iyX8_isOutside rfl (by decide) rfl (Nat.le_of_ble_eq_true rfl) (c_isOutside _ _ _ (by omega) (by omega) (by omega) (by omega) (by omega) (by omega)) (fun h5 => ?_) (fun h5 => ?_)
  · exfalso; omega
  · refine J_ne0 Y qX8_refused_8 ?_
    refine J_aloadr_0 Y qX8_refused_11 ?_
    refine J_getR Y qX8_refused_12 fX8_54 (by decide) ?_
    refine J_iload_1 Y qX8_refused_15 ?_
    refine J_ineg Y qX8_refused_16 ?_
    rw [Int.neg_neg]
    refine J_dup2 Y qX8_refused_17 rfl rfl ?_
    refine J_ialoadN (kx := w) Y qX8_refused_18 rfl (by decide) rfl (by omega) (by decide) ?_
    refine J_iconst Y qX8_refused_19 ?_
    refine J_iadd Y qX8_refused_20 ?_
    refine J_iastoreN (kx := w) Y qX8_refused_21 rfl (by decide) rfl (by omega) (by decide) ?_
    refine J_iload_1 Y qX8_refused_22 ?_
    exact J_iret X qX8_refused_23 ⟨rfl, rfl⟩

theorem c_isNoPerson (l : Launch) (G : Gx) (M : Mem) {x : Int} (x1 : -2147483648 ≤ x) (x2 : x < 2147483648) : Ct l G 2 yX8_isNoPerson cX8_isNoPerson 1 ((Option.some Jvm.ClassFile.FieldType.boolean)) [vi x] M (RB M (x < 0 ∨ 9 < x)) := by
  refine Ct.of rfl (Nat.le_of_ble_eq_true rfl) rfl (fun E X => ?_)
  have Y := X.ok
  refine J_iload_0 Y qX8_isNoPerson_0 ?_
  refine J_iconst Y qX8_isNoPerson_1 ?_
  refine J_bipush Y qX8_isNoPerson_2 (by decide) ?_
  refine J_cS3B Y qX8_isNoPerson_4 mX8_70 iyX8_isOutside rfl (by decide) rfl (Nat.le_of_ble_eq_true rfl) (c_isOutside _ _ _ (by omega) (by omega) (by omega) (by omega) (by omega) (by omega)) (fun h4 => ?_) (fun h4 => ?_)
  · exact J_zret_t X qX8_isNoPerson_7 rfl (by omega)
  · exact J_zret_f X qX8_isNoPerson_7 rfl (by omega)

theorem c_isNoPair (l : Launch) (G : Gx) (M : Mem) {x : Int} (x1 : -2147483648 ≤ x) (x2 : x < 2147483648) : Ct l G 2 yX8_isNoPair cX8_isNoPair 1 ((Option.some Jvm.ClassFile.FieldType.boolean)) [vi x] M (RB M (x < 0 ∨ 99 < x)) := by
  refine Ct.of rfl (Nat.le_of_ble_eq_true rfl) rfl (fun E X => ?_)
  have Y := X.ok
  refine J_iload_0 Y qX8_isNoPair_0 ?_
  refine J_iconst Y qX8_isNoPair_1 ?_
  refine J_bipush Y qX8_isNoPair_2 (by decide) ?_
  refine J_cS3B Y qX8_isNoPair_4 mX8_70 iyX8_isOutside rfl (by decide) rfl (Nat.le_of_ble_eq_true rfl) (c_isOutside _ _ _ (by omega) (by omega) (by omega) (by omega) (by omega) (by omega)) (fun h4 => ?_) (fun h4 => ?_)
  · exact J_zret_t X qX8_isNoPair_7 rfl (by omega)
  · exact J_zret_f X qX8_isNoPair_7 rfl (by omega)

theorem c_isNoKind (l : Launch) (G : Gx) (M : Mem) {x : Int} (x1 : -2147483648 ≤ x) (x2 : x < 2147483648) : Ct l G 1 yX8_isNoKind cX8_isNoKind 1 ((Option.some Jvm.ClassFile.FieldType.boolean)) [vi x] M (RB M (x ≠ 0 ∧ x ≠ 1)) := by
  refine Ct.of rfl (Nat.le_of_ble_eq_true rfl) rfl (fun E X => ?_)
  have Y := X.ok
  refine J_iload_0 Y qX8_isNoKind_0 ?_
  refine J_if_eq Y qX8_isNoKind_1 (by omega) (by omega) (fun h1 => ?_) (fun h1 => ?_)
  · refine J_iconst Y qX8_isNoKind_13 ?_
    exact J_zret_f X qX8_isNoKind_14 rfl (by omega)
  · refine J_iload_0 Y qX8_isNoKind_4 ?_
    refine J_iconst Y qX8_isNoKind_5 ?_
    refine J_icmp_eq Y qX8_isNoKind_6 (by omega) (by omega) (by omega) (by omega) (fun h6 => ?_) (fun h6 => ?_)
    · refine J_iconst Y qX8_isNoKind_13 ?_
      exact J_zret_f X qX8_isNoKind_14 rfl (by omega)
    · refine J_iconst Y qX8_isNoKind_9 ?_
      refine J_goto Y qX8_isNoKind_10 ?_
      exact J_zret_t X qX8_isNoKind_14 rfl (by omega)

theorem c_isNoShop (l : Launch) (G : Gx) (M : Mem) {x : Int} (x1 : -2147483648 ≤ x) (x2 : x < 2147483648) (n1 : 0 ≤ M 0 0 2) (n2 : M 0 0 2 ≤ 14) : Ct l G 2 yX8_isNoShop cX8_isNoShop 2 ((Option.some Jvm.ClassFile.FieldType.boolean)) [rf G 8 0, vi x] M (RB M (x < 0 ∨ M 0 0 2 ≤ x)) := by
  refine Ct.of rfl (Nat.le_of_ble_eq_true rfl) rfl (fun E X => ?_)
  have Y := X.ok
  refine J_iload_1 Y qX8_isNoShop_0 ?_
  refine J_iconst Y qX8_isNoShop_1 ?_
  refine J_aloadr_0 Y qX8_isNoShop_2 ?_
  refine J_getR Y qX8_isNoShop_3 fX8_10 (by decide) ?_
  refine J_getI Y qX8_isNoShop_6 fX8_74 (by decide) ?_
  refine J_iconst Y qX8_isNoShop_9 ?_
  refine J_isub Y qX8_isNoShop_10 ?_
  refine J_cS3B Y qX8_isNoShop_11 mX8_70 iyX8_isOutside rfl (by decide) rfl (Nat.le_of_ble_eq_true rfl) (c_isOutside _ _ _ (by omega) (by omega) (by omega) (by omega) (by omega) (by omega)) (fun h11 => ?_) (fun h11 => ?_)
  · exact J_zret_t X qX8_isNoShop_14 rfl (by omega)
  · exact J_zret_f X qX8_isNoShop_14 rfl (by omega)

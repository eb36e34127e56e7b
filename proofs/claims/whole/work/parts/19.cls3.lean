/-! ===== the class: purses, deaths, sales, rents, repairs ===== -/
theorem c_purseAdd (l : Launch) (G : Gx) (M : Mem) {p : Nat} {z : Int} (hp : p < 10) : Ct l G 1 yX2_add cX2_add 4 ((Option.none : Option Jvm.ClassFile.FieldType)) [rf G 2 0, vi (p : Nat), vl z] M (VF (up M 18 0 p (M 18 0 p + z))) := by
  refine Ct.of rfl (Nat.le_of_ble_eq_true rfl) rfl (fun E X => ?_)
  have Y := X.ok
  refine J_aloadr_0 Y qX2_add_0 ?_
  refine J_getR Y qX2_add_1 fX2_9 (by decide) ?_
  refine J_iload_1 Y qX2_add_4 ?_
  refine J_dup2 Y qX2_add_5 rfl rfl ?_
  refine J_laloadN (kx := p) Y qX2_add_6 rfl (by decide) rfl (by omega) (by decide) ?_
  refine J_lload_2 Y qX2_add_7 ?_
  refine J_ladd Y qX2_add_8 ?_
  refine J_lastoreN (kx := p) Y qX2_add_9 rfl (by decide) rfl (by omega) (by decide) ?_
  exact J_vret X qX2_add_10 ⟨rfl, rfl⟩

theorem lp_part25 {l : Launch} {G : Gx} {E : Fx} {M : Mem} {s : Nat} {sum times : Int} (hs : s < 14) (hr : ∀ j, j < 10 → 0 ≤ M 25 s j ∧ M 25 s j ≤ 5040) (s1 : 0 ≤ sum) (s2 : sum ≤ 99999) (t1 : -1 ≤ times) (t2 : times ≤ 100) (X : OkM l G E cX2_part RX2 8 2 (none) (VF (prt M 25 s sum times))) : ∀ (n i : Nat), ∀ x7 : Option Value, i ≤ 10 → 10 < i + n → J G E 9 [some (rf G 2 0), some (vi sum), some (rf G 25 s), some (vi times), some (vi (sum - sumN (shr (M 25 s) sum) i)), some (vi (fstP (M 25 s) i)), some (vi (i : Int)), x7] [] (prtS M 25 s sum times i) := by
  have Y := X.ok
  intro n
  induction n with
  | zero => intro i x7 h1 h2; exfalso; omega
  | succ n ih =>
    intro i x7 h1 h2
    have rr := fstP_rng (M 25 s) i
    refine J_iload_6 Y qX2_part_9 ?_
    refine J_bipush Y qX2_part_11 (by decide) ?_
    refine J_icmp_ge Y qX2_part_13 (by omega) (by omega) (by omega) (by omega) (fun h13 => ?_) (fun h13 => ?_)
    · obtain rfl : i = 10 := by omega
      have u1 := sumN_le (g := shr (M 25 s) sum) (c := 99999) 10 (fun j hj => (shr_rng s1 s2 (hr j hj).1 (hr j hj).2).2)
      have u2 := sumN_ge (g := shr (M 25 s) sum) (c := 0) 10 (fun j hj => (shr_rng s1 s2 (hr j hj).1 (hr j hj).2).1)
      refine J_iload_5 Y qX2_part_75 ?_
      refine J_iconst Y qX2_part_77 ?_
      refine J_icmp_eq Y qX2_part_78 (by omega) (by omega) (by omega) (by omega) (fun h78 => ?_) (fun h78 => ?_)
      · first
          | exact J_vret X qX2_part_93 ⟨rfl, by rw [prt, if_pos (by omega)]⟩
          | exact J_vret X qX2_part_93 ⟨rfl, by rw [prt, if_neg (by omega), hfo]; rfl⟩
      · obtain ⟨fo, hfo⟩ := nat_of (show 0 ≤ fstP (M 25 s) 10 by omega)
        rw [hfo]
        refine J_aloadr_0 Y qX2_part_81 ?_
        refine J_iload_5 Y qX2_part_82 ?_
        refine J_iload_4 Y qX2_part_84 ?_
        refine J_i2l Y qX2_part_86 (by omega) (by omega) ?_
        refine J_iload_3 Y qX2_part_87 ?_
        refine J_i2l Y qX2_part_88 (by omega) (by omega) ?_
        refine J_lmul Y qX2_part_89 ?_
        refine J_cV2W Y qX2_part_90 mX2_15 iyX2_add (by decide) rfl (by decide) rfl (Nat.le_of_ble_eq_true rfl) (c_purseAdd _ _ _ (by omega)) ?_
        first
          | exact J_vret X qX2_part_93 ⟨rfl, by rw [prt, if_pos (by omega)]⟩
          | exact J_vret X qX2_part_93 ⟨rfl, by rw [prt, if_neg (by omega), hfo]; rfl⟩
    · have hri := hr i (by omega)
      refine J_aloadr_2 Y qX2_part_16 ?_
      refine J_iload_6 Y qX2_part_17 ?_
      refine J_ialoadN (kx := i) Y qX2_part_19 rfl (by show _ < 14; omega) rfl (by omega) (by decide) ?_
      rw [show prtS M 25 s sum times i 25 s i = M 25 s i from prtS_ne (by decide)]
      refine J_if_le Y qX2_part_20 (by omega) (by omega) (fun h20 => ?_) (fun h20 => ?_)
      · refine J_iinc_6 Y qX2_part_69 rfl ?_
        refine J_goto Y qX2_part_72 ?_
        have ih9 := fun x => ih (i + 1) x (by omega) (by omega)
        first
          | (have e1 : fstP (M 25 s) (i + 1) = (i : Int) := by rw [fstP, if_pos (by omega)]
             have e2 : sumN (shr (M 25 s) sum) (i + 1) = sumN (shr (M 25 s) sum) i + sum * M 25 s i / 5040 := by rw [sumN]; congr 1; rw [shr, if_pos (by omega)]
             rw [e1, e2, ← Int.sub_sub] at ih9
             exact ih9 _)
          | (have e1 : fstP (M 25 s) (i + 1) = fstP (M 25 s) i := by rw [fstP, if_neg (by omega)]
             have e2 : sumN (shr (M 25 s) sum) (i + 1) = sumN (shr (M 25 s) sum) i + sum * M 25 s i / 5040 := by rw [sumN]; congr 1; rw [shr, if_pos (by omega)]
             rw [e1, e2, ← Int.sub_sub] at ih9
             exact ih9 _)
          | (have e1 : fstP (M 25 s) (i + 1) = fstP (M 25 s) i := by rw [fstP, if_neg (by omega)]
             have e2 : sumN (shr (M 25 s) sum) (i + 1) = sumN (shr (M 25 s) sum) i := by rw [sumN, shr, if_neg (by omega), Int.add_zero]
             rw [e1, e2, ← prtS_f (by omega)] at ih9
             exact ih9 _)
      · refine J_iload_1 Y qX2_part_23 ?_
        refine J_aloadr_2 Y qX2_part_24 ?_
        refine J_iload_6 Y qX2_part_25 ?_
        refine J_ialoadN (kx := i) Y qX2_part_27 rfl (by show _ < 14; omega) rfl (by omega) (by decide) ?_
        rw [show prtS M 25 s sum times i 25 s i = M 25 s i from prtS_ne (by decide)]
        have m1 : 0 ≤ sum * M 25 s i := Int.mul_nonneg s1 (by omega)
        have m2 : sum * M 25 s i ≤ 99999 * 5040 := Int.mul_le_mul s2 (by omega) (by omega) (by omega)
        refine J_imul Y qX2_part_28 ?_
        refine J_sipush Y qX2_part_29 (by decide) ?_
        refine J_idiv Y qX2_part_32 (by omega) (by omega) (by omega) (by omega) ?_
        refine J_istore_7 Y qX2_part_33 rfl ?_
        refine J_aloadr_0 Y qX2_part_35 ?_
        refine J_iload_6 Y qX2_part_36 ?_
        refine J_iload_7 Y qX2_part_38 ?_
        refine J_i2l Y qX2_part_40 (by omega) (by omega) ?_
        refine J_iload_3 Y qX2_part_41 ?_
        refine J_i2l Y qX2_part_42 (by omega) (by omega) ?_
        refine J_lmul Y qX2_part_43 ?_
        refine J_cV2W Y qX2_part_44 mX2_15 iyX2_add (by decide) rfl (by decide) rfl (Nat.le_of_ble_eq_true rfl) (c_purseAdd _ _ _ (by omega)) ?_
        rw [prtS_t (by omega)]
        refine J_iload_4 Y qX2_part_47 ?_
        refine J_iload_7 Y qX2_part_49 ?_
        refine J_isub Y qX2_part_51 ?_
        refine J_istore_4 Y qX2_part_52 rfl ?_
        refine J_iload_5 Y qX2_part_54 ?_
        refine J_iconst Y qX2_part_56 ?_
        refine J_icmp_ne Y qX2_part_57 (by omega) (by omega) (by omega) (by omega) (fun h57 => ?_) (fun h57 => ?_)
        · refine J_iload_5 Y qX2_part_65 ?_
          refine J_istore_5 Y qX2_part_67 rfl ?_
          refine J_iinc_6 Y qX2_part_69 rfl ?_
          refine J_goto Y qX2_part_72 ?_
          have ih9 := fun x => ih (i + 1) x (by omega) (by omega)
          first
            | (have e1 : fstP (M 25 s) (i + 1) = (i : Int) := by rw [fstP, if_pos (by omega)]
               have e2 : sumN (shr (M 25 s) sum) (i + 1) = sumN (shr (M 25 s) sum) i + sum * M 25 s i / 5040 := by rw [sumN]; congr 1; rw [shr, if_pos (by omega)]
               rw [e1, e2, ← Int.sub_sub] at ih9
               exact ih9 _)
            | (have e1 : fstP (M 25 s) (i + 1) = fstP (M 25 s) i := by rw [fstP, if_neg (by omega)]
               have e2 : sumN (shr (M 25 s) sum) (i + 1) = sumN (shr (M 25 s) sum) i + sum * M 25 s i / 5040 := by rw [sumN]; congr 1; rw [shr, if_pos (by omega)]
               rw [e1, e2, ← Int.sub_sub] at ih9
               exact ih9 _)
            | (have e1 : fstP (M 25 s) (i + 1) = fstP (M 25 s) i := by rw [fstP, if_neg (by omega)]
               have e2 : sumN (shr (M 25 s) sum) (i + 1) = sumN (shr (M 25 s) sum) i := by rw [sumN, shr, if_neg (by omega), Int.add_zero]
               rw [e1, e2, ← prtS_f (by omega)] at ih9
               exact ih9 _)
        · refine J_iload_6 Y qX2_part_60 ?_
          refine J_goto Y qX2_part_62 ?_
          refine J_istore_5 Y qX2_part_67 rfl ?_
          refine J_iinc_6 Y qX2_part_69 rfl ?_
          refine J_goto Y qX2_part_72 ?_
          have ih9 := fun x => ih (i + 1) x (by omega) (by omega)
          first
            | (have e1 : fstP (M 25 s) (i + 1) = (i : Int) := by rw [fstP, if_pos (by omega)]
               have e2 : sumN (shr (M 25 s) sum) (i + 1) = sumN (shr (M 25 s) sum) i + sum * M 25 s i / 5040 := by rw [sumN]; congr 1; rw [shr, if_pos (by omega)]
               rw [e1, e2, ← Int.sub_sub] at ih9
               exact ih9 _)
            | (have e1 : fstP (M 25 s) (i + 1) = fstP (M 25 s) i := by rw [fstP, if_neg (by omega)]
               have e2 : sumN (shr (M 25 s) sum) (i + 1) = sumN (shr (M 25 s) sum) i + sum * M 25 s i / 5040 := by rw [sumN]; congr 1; rw [shr, if_pos (by omega)]
               rw [e1, e2, ← Int.sub_sub] at ih9
               exact ih9 _)
            | (have e1 : fstP (M 25 s) (i + 1) = fstP (M 25 s) i := by rw [fstP, if_neg (by omega)]
               have e2 : sumN (shr (M 25 s) sum) (i + 1) = sumN (shr (M 25 s) sum) i := by rw [sumN, shr, if_neg (by omega), Int.add_zero]
               rw [e1, e2, ← prtS_f (by omega)] at ih9
               exact ih9 _)

theorem c_part25 (l : Launch) (G : Gx) (M : Mem) {s : Nat} {sum times : Int} (hs : s < 14) (hr : ∀ j, j < 10 → 0 ≤ M 25 s j ∧ M 25 s j ≤ 5040) (s1 : 0 ≤ sum) (s2 : sum ≤ 99999) (t1 : -1 ≤ times) (t2 : times ≤ 100) : Ct l G 2 yX2_part cX2_part 8 ((Option.none : Option Jvm.ClassFile.FieldType)) [rf G 2 0, vi sum, rf G 25 s, vi times] M (VF (prt M 25 s sum times)) := by
  refine Ct.of rfl (Nat.le_of_ble_eq_true rfl) rfl (fun E X => ?_)
  have Y := X.ok
  refine J_iload_1 Y qX2_part_0 ?_
  refine J_istore_4 Y qX2_part_1 rfl ?_
  refine J_iconst Y qX2_part_3 ?_
  refine J_istore_5 Y qX2_part_4 rfl ?_
  refine J_iconst Y qX2_part_6 ?_
  refine J_istore_6 Y qX2_part_7 rfl ?_
  have h := lp_part25 hs hr s1 s2 t1 t2 X 11 0 none (by omega) (by omega)
  rw [prtS_0, show sumN (shr (M 25 s) sum) 0 = 0 from rfl, Int.sub_zero] at h
  exact h

theorem lp_part26 {l : Launch} {G : Gx} {E : Fx} {M : Mem} {s : Nat} {sum times : Int} (hs : s < 14) (hr : ∀ j, j < 10 → 0 ≤ M 26 s j ∧ M 26 s j ≤ 5040) (s1 : 0 ≤ sum) (s2 : sum ≤ 99999) (t1 : -1 ≤ times) (t2 : times ≤ 100) (X : OkM l G E cX2_part RX2 8 2 (none) (VF (prt M 26 s sum times))) : ∀ (n i : Nat), ∀ x7 : Option Value, i ≤ 10 → 10 < i + n → J G E 9 [some (rf G 2 0), some (vi sum), some (rf G 26 s), some (vi times), some (vi (sum - sumN (shr (M 26 s) sum) i)), some (vi (fstP (M 26 s) i)), some (vi (i : Int)), x7] [] (prtS M 26 s sum times i) := by
  have Y := X.ok
  intro n
  induction n with
  | zero => intro i x7 h1 h2; exfalso; omega
  | succ n ih =>
    intro i x7 h1 h2
    have rr := fstP_rng (M 26 s) i
    refine J_iload_6 Y qX2_part_9 ?_
    refine J_bipush Y qX2_part_11 (by decide) ?_
    refine J_icmp_ge Y qX2_part_13 (by omega) (by omega) (by omega) (by omega) (fun h13 => ?_) (fun h13 => ?_)
    · obtain rfl : i = 10 := by omega
      have u1 := sumN_le (g := shr (M 26 s) sum) (c := 99999) 10 (fun j hj => (shr_rng s1 s2 (hr j hj).1 (hr j hj).2).2)
      have u2 := sumN_ge (g := shr (M 26 s) sum) (c := 0) 10 (fun j hj => (shr_rng s1 s2 (hr j hj).1 (hr j hj).2).1)
      refine J_iload_5 Y qX2_part_75 ?_
      refine J_iconst Y qX2_part_77 ?_
      refine J_icmp_eq Y qX2_part_78 (by omega) (by omega) (by omega) (by omega) (fun h78 => ?_) (fun h78 => ?_)
      · first
          | exact J_vret X qX2_part_93 ⟨rfl, by rw [prt, if_pos (by omega)]⟩
          | exact J_vret X qX2_part_93 ⟨rfl, by rw [prt, if_neg (by omega), hfo]; rfl⟩
      · obtain ⟨fo, hfo⟩ := nat_of (show 0 ≤ fstP (M 26 s) 10 by omega)
        rw [hfo]
        refine J_aloadr_0 Y qX2_part_81 ?_
        refine J_iload_5 Y qX2_part_82 ?_
        refine J_iload_4 Y qX2_part_84 ?_
        refine J_i2l Y qX2_part_86 (by omega) (by omega) ?_
        refine J_iload_3 Y qX2_part_87 ?_
        refine J_i2l Y qX2_part_88 (by omega) (by omega) ?_
        refine J_lmul Y qX2_part_89 ?_
        refine J_cV2W Y qX2_part_90 mX2_15 iyX2_add (by decide) rfl (by decide) rfl (Nat.le_of_ble_eq_true rfl) (c_purseAdd _ _ _ (by omega)) ?_
        first
          | exact J_vret X qX2_part_93 ⟨rfl, by rw [prt, if_pos (by omega)]⟩
          | exact J_vret X qX2_part_93 ⟨rfl, by rw [prt, if_neg (by omega), hfo]; rfl⟩
    · have hri := hr i (by omega)
      refine J_aloadr_2 Y qX2_part_16 ?_
      refine J_iload_6 Y qX2_part_17 ?_
      refine J_ialoadN (kx := i) Y qX2_part_19 rfl (by show _ < 14; omega) rfl (by omega) (by decide) ?_
      rw [show prtS M 26 s sum times i 26 s i = M 26 s i from prtS_ne (by decide)]
      refine J_if_le Y qX2_part_20 (by omega) (by omega) (fun h20 => ?_) (fun h20 => ?_)
      · refine J_iinc_6 Y qX2_part_69 rfl ?_
        refine J_goto Y qX2_part_72 ?_
        have ih9 := fun x => ih (i + 1) x (by omega) (by omega)
        first
          | (have e1 : fstP (M 26 s) (i + 1) = (i : Int) := by rw [fstP, if_pos (by omega)]
             have e2 : sumN (shr (M 26 s) sum) (i + 1) = sumN (shr (M 26 s) sum) i + sum * M 26 s i / 5040 := by rw [sumN]; congr 1; rw [shr, if_pos (by omega)]
             rw [e1, e2, ← Int.sub_sub] at ih9
             exact ih9 _)
          | (have e1 : fstP (M 26 s) (i + 1) = fstP (M 26 s) i := by rw [fstP, if_neg (by omega)]
             have e2 : sumN (shr (M 26 s) sum) (i + 1) = sumN (shr (M 26 s) sum) i + sum * M 26 s i / 5040 := by rw [sumN]; congr 1; rw [shr, if_pos (by omega)]
             rw [e1, e2, ← Int.sub_sub] at ih9
             exact ih9 _)
          | (have e1 : fstP (M 26 s) (i + 1) = fstP (M 26 s) i := by rw [fstP, if_neg (by omega)]
             have e2 : sumN (shr (M 26 s) sum) (i + 1) = sumN (shr (M 26 s) sum) i := by rw [sumN, shr, if_neg (by omega), Int.add_zero]
             rw [e1, e2, ← prtS_f (by omega)] at ih9
             exact ih9 _)
      · refine J_iload_1 Y qX2_part_23 ?_
        refine J_aloadr_2 Y qX2_part_24 ?_
        refine J_iload_6 Y qX2_part_25 ?_
        refine J_ialoadN (kx := i) Y qX2_part_27 rfl (by show _ < 14; omega) rfl (by omega) (by decide) ?_
        rw [show prtS M 26 s sum times i 26 s i = M 26 s i from prtS_ne (by decide)]
        have m1 : 0 ≤ sum * M 26 s i := Int.mul_nonneg s1 (by omega)
        have m2 : sum * M 26 s i ≤ 99999 * 5040 := Int.mul_le_mul s2 (by omega) (by omega) (by omega)
        refine J_imul Y qX2_part_28 ?_
        refine J_sipush Y qX2_part_29 (by decide) ?_
        refine J_idiv Y qX2_part_32 (by omega) (by omega) (by omega) (by omega) ?_
        refine J_istore_7 Y qX2_part_33 rfl ?_
        refine J_aloadr_0 Y qX2_part_35 ?_
        refine J_iload_6 Y qX2_part_36 ?_
        refine J_iload_7 Y qX2_part_38 ?_
        refine J_i2l Y qX2_part_40 (by omega) (by omega) ?_
        refine J_iload_3 Y qX2_part_41 ?_
        refine J_i2l Y qX2_part_42 (by omega) (by omega) ?_
        refine J_lmul Y qX2_part_43 ?_
        refine J_cV2W Y qX2_part_44 mX2_15 iyX2_add (by decide) rfl (by decide) rfl (Nat.le_of_ble_eq_true rfl) (c_purseAdd _ _ _ (by omega)) ?_
        rw [prtS_t (by omega)]
        refine J_iload_4 Y qX2_part_47 ?_
        refine J_iload_7 Y qX2_part_49 ?_
        refine J_isub Y qX2_part_51 ?_
        refine J_istore_4 Y qX2_part_52 rfl ?_
        refine J_iload_5 Y qX2_part_54 ?_
        refine J_iconst Y qX2_part_56 ?_
        refine J_icmp_ne Y qX2_part_57 (by omega) (by omega) (by omega) (by omega) (fun h57 => ?_) (fun h57 => ?_)
        · refine J_iload_5 Y qX2_part_65 ?_
          refine J_istore_5 Y qX2_part_67 rfl ?_
          refine J_iinc_6 Y qX2_part_69 rfl ?_
          refine J_goto Y qX2_part_72 ?_
          have ih9 := fun x => ih (i + 1) x (by omega) (by omega)
          first
            | (have e1 : fstP (M 26 s) (i + 1) = (i : Int) := by rw [fstP, if_pos (by omega)]
               have e2 : sumN (shr (M 26 s) sum) (i + 1) = sumN (shr (M 26 s) sum) i + sum * M 26 s i / 5040 := by rw [sumN]; congr 1; rw [shr, if_pos (by omega)]
               rw [e1, e2, ← Int.sub_sub] at ih9
               exact ih9 _)
            | (have e1 : fstP (M 26 s) (i + 1) = fstP (M 26 s) i := by rw [fstP, if_neg (by omega)]
               have e2 : sumN (shr (M 26 s) sum) (i + 1) = sumN (shr (M 26 s) sum) i + sum * M 26 s i / 5040 := by rw [sumN]; congr 1; rw [shr, if_pos (by omega)]
               rw [e1, e2, ← Int.sub_sub] at ih9
               exact ih9 _)
            | (have e1 : fstP (M 26 s) (i + 1) = fstP (M 26 s) i := by rw [fstP, if_neg (by omega)]
               have e2 : sumN (shr (M 26 s) sum) (i + 1) = sumN (shr (M 26 s) sum) i := by rw [sumN, shr, if_neg (by omega), Int.add_zero]
               rw [e1, e2, ← prtS_f (by omega)] at ih9
               exact ih9 _)
        · refine J_iload_6 Y qX2_part_60 ?_
          refine J_goto Y qX2_part_62 ?_
          refine J_istore_5 Y qX2_part_67 rfl ?_
          refine J_iinc_6 Y qX2_part_69 rfl ?_
          refine J_goto Y qX2_part_72 ?_
          have ih9 := fun x => ih (i + 1) x (by omega) (by omega)
          first
            | (have e1 : fstP (M 26 s) (i + 1) = (i : Int) := by rw [fstP, if_pos (by omega)]
               have e2 : sumN (shr (M 26 s) sum) (i + 1) = sumN (shr (M 26 s) sum) i + sum * M 26 s i / 5040 := by rw [sumN]; congr 1; rw [shr, if_pos (by omega)]
               rw [e1, e2, ← Int.sub_sub] at ih9
               exact ih9 _)
            | (have e1 : fstP (M 26 s) (i + 1) = fstP (M 26 s) i := by rw [fstP, if_neg (by omega)]
               have e2 : sumN (shr (M 26 s) sum) (i + 1) = sumN (shr (M 26 s) sum) i + sum * M 26 s i / 5040 := by rw [sumN]; congr 1; rw [shr, if_pos (by omega)]
               rw [e1, e2, ← Int.sub_sub] at ih9
               exact ih9 _)
            | (have e1 : fstP (M 26 s) (i + 1) = fstP (M 26 s) i := by rw [fstP, if_neg (by omega)]
               have e2 : sumN (shr (M 26 s) sum) (i + 1) = sumN (shr (M 26 s) sum) i := by rw [sumN, shr, if_neg (by omega), Int.add_zero]
               rw [e1, e2, ← prtS_f (by omega)] at ih9
               exact ih9 _)

theorem c_part26 (l : Launch) (G : Gx) (M : Mem) {s : Nat} {sum times : Int} (hs : s < 14) (hr : ∀ j, j < 10 → 0 ≤ M 26 s j ∧ M 26 s j ≤ 5040) (s1 : 0 ≤ sum) (s2 : sum ≤ 99999) (t1 : -1 ≤ times) (t2 : times ≤ 100) : Ct l G 2 yX2_part cX2_part 8 ((Option.none : Option Jvm.ClassFile.FieldType)) [rf G 2 0, vi sum, rf G 26 s, vi times] M (VF (prt M 26 s sum times)) := by
  refine Ct.of rfl (Nat.le_of_ble_eq_true rfl) rfl (fun E X => ?_)
  have Y := X.ok
  refine J_iload_1 Y qX2_part_0 ?_
  refine J_istore_4 Y qX2_part_1 rfl ?_
  refine J_iconst Y qX2_part_3 ?_
  refine J_istore_5 Y qX2_part_4 rfl ?_
  refine J_iconst Y qX2_part_6 ?_
  refine J_istore_6 Y qX2_part_7 rfl ?_
  have h := lp_part26 hs hr s1 s2 t1 t2 X 11 0 none (by omega) (by omega)
  rw [prtS_0, show sumN (shr (M 26 s) sum) 0 = 0 from rfl, Int.sub_zero] at h
  exact h

theorem lp_passOn25 {l : Launch} {G : Gx} {E : Fx} {M : Mem} {s w k p : Nat} (hs : s < 14) (hw : w < 10) (hk : M 7 w 2 = (k : Int)) (k1 : 1 ≤ k) (k4 : k ≤ 4) (hp : p < 10) (hh : ∀ j, j < k → (0 ≤ M 30 w j ∧ M 30 w j ≤ 9) ∧ 1 ≤ M 31 w j ∧ M 31 w j ≤ 9) (e1 : 0 ≤ M 25 s p) (e2 : M 25 s p ≤ 5040) (al1 : 1 ≤ sumN (M 31 w) k) (al2 : sumN (M 31 w) k ≤ 36) (X : OkM l G E cX7_passOn RX7 8 2 (some .int) (RF (M 25 s p) (upR M 25 s (pasR (M 25 s) (M 30 w) (M 31 w) k p)))) : ∀ (n i : Nat), ∀ x7 : Option Value, i ≤ k → k < i + n → J G E 23 [some (rf G 7 w), some (vi (p : Int)), some (rf G 25 s), some (vi (sumN (M 31 w) k)), some (vi (M 25 s p)), some (vi (M 25 s p - sumN (fun h => M 25 s p * M 31 w h / sumN (M 31 w) k) i)), some (vi (i : Int)), x7] [] (upR M 25 s (dst (M 25 s) (M 30 w) (M 31 w) (M 25 s p) (sumN (M 31 w) k) i)) := by
  have Y := X.ok
  intro n
  induction n with
  | zero => intro i x7 h1 h2; exfalso; omega
  | succ n ih =>
    intro i x7 h1 h2
    refine J_iload_6 Y qX7_passOn_23 ?_
    refine J_aloadr_0 Y qX7_passOn_25 ?_
    refine J_getI Y qX7_passOn_26 fX7_18 (by show _ < 10; omega) ?_
    rw [show upR M 25 s (dst (M 25 s) (M 30 w) (M 31 w) (M 25 s p) (sumN (M 31 w) k) i) 7 w 2 = M 7 w 2 from upR_ne (by omega)]
    refine J_icmp_ge Y qX7_passOn_29 (by omega) (by omega) (by omega) (by omega) (fun h29 => ?_) (fun h29 => ?_)
    · obtain rfl : i = k := by omega
      refine J_aloadr_2 Y qX7_passOn_73 ?_
      refine J_aloadr_0 Y qX7_passOn_74 ?_
      refine J_getR Y qX7_passOn_75 fX7_9 (by show _ < 10; omega) ?_
      refine J_iconst Y qX7_passOn_78 ?_
      refine J_ialoadN (kx := 0) Y qX7_passOn_79 rfl (by show _ < 10; omega) rfl (by decide) (by decide) ?_
      rw [show upR M 25 s (dst (M 25 s) (M 30 w) (M 31 w) (M 25 s p) (sumN (M 31 w) i) i) 30 w 0 = M 30 w 0 from upR_ne (by omega)]
      have hh0 := hh 0 (by omega)
      obtain ⟨hq, hq9⟩ := nat_of (show 0 ≤ M 30 w 0 by omega)
      rw [hq9]
      refine J_dup2 Y qX7_passOn_80 rfl rfl ?_
      refine J_ialoadN (kx := hq) Y qX7_passOn_81 rfl (by show _ < 14; omega) rfl (by omega) (by decide) ?_
      refine J_iload_5 Y qX7_passOn_82 ?_
      refine J_iadd Y qX7_passOn_84 ?_
      refine J_iastoreN (kx := hq) Y qX7_passOn_85 rfl (by show _ < 14; omega) rfl (by omega) (by decide) ?_
      rw [upR_at, upR_up]
      refine J_aloadr_2 Y qX7_passOn_86 ?_
      refine J_iload_1 Y qX7_passOn_87 ?_
      refine J_iconst Y qX7_passOn_88 ?_
      refine J_iastoreN (kx := p) Y qX7_passOn_89 rfl (by show _ < 14; omega) rfl (by omega) (by decide) ?_
      rw [upR_up]
      refine J_iload_4 Y qX7_passOn_90 ?_
      exact J_iret X qX7_passOn_92 ⟨rfl, upR_cong (fun c => by
        simp only [pasR, hq9]
        by_cases e : c = p
        · rw [if_pos e, if_pos e]
        · rw [if_neg e, if_neg e]
          by_cases e2 : c = hq
          · subst e2; simp
          · rw [if_neg e2, if_neg (by omega)])⟩
    · refine J_iload_4 Y qX7_passOn_32 ?_
      refine J_aloadr_0 Y qX7_passOn_34 ?_
      refine J_getR Y qX7_passOn_35 fX7_15 (by show _ < 10; omega) ?_
      refine J_iload_6 Y qX7_passOn_38 ?_
      refine J_ialoadN (kx := i) Y qX7_passOn_40 rfl (by show _ < 10; omega) rfl (by omega) (by decide) ?_
      rw [show upR M 25 s (dst (M 25 s) (M 30 w) (M 31 w) (M 25 s p) (sumN (M 31 w) k) i) 31 w i = M 31 w i from upR_ne (by omega)]
      have hhi := hh i (by omega)
      have m1 : 0 ≤ M 25 s p * M 31 w i := Int.mul_nonneg e1 (by omega)
      have m2 : M 25 s p * M 31 w i ≤ 5040 * 9 := Int.mul_le_mul e2 (by omega) (by omega) (by omega)
      refine J_imul Y qX7_passOn_41 ?_
      refine J_iload_3 Y qX7_passOn_42 ?_
      refine J_idiv Y qX7_passOn_43 (by omega) (by omega) (by omega) (by omega) ?_
      refine J_istore_7 Y qX7_passOn_44 rfl ?_
      refine J_aloadr_2 Y qX7_passOn_46 ?_
      refine J_aloadr_0 Y qX7_passOn_47 ?_
      refine J_getR Y qX7_passOn_48 fX7_9 (by show _ < 10; omega) ?_
      refine J_iload_6 Y qX7_passOn_51 ?_
      refine J_ialoadN (kx := i) Y qX7_passOn_53 rfl (by show _ < 10; omega) rfl (by omega) (by decide) ?_
      rw [show upR M 25 s (dst (M 25 s) (M 30 w) (M 31 w) (M 25 s p) (sumN (M 31 w) k) i) 30 w i = M 30 w i from upR_ne (by omega)]
      obtain ⟨hq, hq9⟩ := nat_of (show 0 ≤ M 30 w i by omega)
      rw [hq9]
      refine J_dup2 Y qX7_passOn_54 rfl rfl ?_
      refine J_ialoadN (kx := hq) Y qX7_passOn_55 rfl (by show _ < 14; omega) rfl (by omega) (by decide) ?_
      refine J_iload_7 Y qX7_passOn_56 ?_
      refine J_iadd Y qX7_passOn_58 ?_
      refine J_iastoreN (kx := hq) Y qX7_passOn_59 rfl (by show _ < 14; omega) rfl (by omega) (by decide) ?_
      rw [upR_at, upR_up, show (fun c => if c = hq then dst (M 25 s) (M 30 w) (M 31 w) (M 25 s p) (sumN (M 31 w) k) i hq + M 25 s p * M 31 w i / sumN (M 31 w) k else dst (M 25 s) (M 30 w) (M 31 w) (M 25 s p) (sumN (M 31 w) k) i c) = dst (M 25 s) (M 30 w) (M 31 w) (M 25 s p) (sumN (M 31 w) k) (i + 1) from by
        funext c
        simp only [dst, hq9]
        by_cases e : c = hq
        · subst e; simp
        · rw [if_neg e, if_neg (by omega)]]
      refine J_iload_5 Y qX7_passOn_60 ?_
      refine J_iload_7 Y qX7_passOn_62 ?_
      refine J_isub Y qX7_passOn_64 ?_
      refine J_istore_5 Y qX7_passOn_65 rfl ?_
      refine J_iinc_6 Y qX7_passOn_67 rfl ?_
      refine J_goto Y qX7_passOn_70 ?_
      have ih9 := fun x => ih (i + 1) x (by omega) (by omega)
      rw [show sumN (fun h => M 25 s p * M 31 w h / sumN (M 31 w) k) (i + 1) = sumN (fun h => M 25 s p * M 31 w h / sumN (M 31 w) k) i + M 25 s p * M 31 w i / sumN (M 31 w) k from rfl, ← Int.sub_sub] at ih9
      exact ih9 _

theorem c_passOn25 (l : Launch) (G : Gx) (M : Mem) {s w k p : Nat} (hs : s < 14) (hw : w < 10) (hk : M 7 w 2 = (k : Int)) (k1 : 1 ≤ k) (k4 : k ≤ 4) (hp : p < 10) (hh : ∀ j, j < k → (0 ≤ M 30 w j ∧ M 30 w j ≤ 9) ∧ 1 ≤ M 31 w j ∧ M 31 w j ≤ 9) (e1 : 0 ≤ M 25 s p) (e2 : M 25 s p ≤ 5040) : Ct l G 2 yX7_passOn cX7_passOn 8 ((Option.some Jvm.ClassFile.FieldType.int)) [rf G 7 w, vi (p : Nat), rf G 25 s] M (RF (M 25 s p) (upR M 25 s (pasR (M 25 s) (M 30 w) (M 31 w) k p))) := by
  refine Ct.of rfl (Nat.le_of_ble_eq_true rfl) rfl (fun E X => ?_)
  have Y := X.ok
  have b1 := sumN_le (g := M 31 w) (c := 9) k (fun j hj => (hh j hj).2.2)
  have b2 := sumN_ge (g := M 31 w) (c := 1) k (fun j hj => (hh j hj).2.1)
  refine J_aloadr_0 Y qX7_passOn_0 ?_
  refine J_cV0P Y qX7_passOn_1 mX7_22 iyX7_allWeights (by show _ < 10; omega) rfl (by decide) rfl (Nat.le_of_ble_eq_true rfl) (c_allWeights _ _ _ hw hk k4) ?_
  refine J_istore_3 Y qX7_passOn_4 rfl ?_
  refine J_iload_3 Y qX7_passOn_5 ?_
  refine J_if_ne Y qX7_passOn_6 (by omega) (by omega) (fun h6 => ?_) (fun h6 => ?_)
  · refine J_aloadr_2 Y qX7_passOn_11 ?_
    refine J_iload_1 Y qX7_passOn_12 ?_
    refine J_ialoadN (kx := p) Y qX7_passOn_13 rfl (by show _ < 14; omega) rfl (by omega) (by decide) ?_
    refine J_istore_4 Y qX7_passOn_14 rfl ?_
    refine J_iload_4 Y qX7_passOn_16 ?_
    refine J_istore_5 Y qX7_passOn_18 rfl ?_
    refine J_iconst Y qX7_passOn_20 ?_
    refine J_istore_6 Y qX7_passOn_21 rfl ?_
    have h := lp_passOn25 hs hw hk k1 k4 hp hh e1 e2 (by omega) (by omega) X (k + 1) 0 none (by omega) (by omega)
    rw [show sumN (fun h => M 25 s p * M 31 w h / sumN (M 31 w) k) 0 = 0 from rfl, Int.sub_zero, show dst (M 25 s) (M 30 w) (M 31 w) (M 25 s p) (sumN (M 31 w) k) 0 = M 25 s from rfl, upR_self] at h
    exact h
  · exfalso; omega

theorem lp_passOn26 {l : Launch} {G : Gx} {E : Fx} {M : Mem} {s w k p : Nat} (hs : s < 14) (hw : w < 10) (hk : M 7 w 2 = (k : Int)) (k1 : 1 ≤ k) (k4 : k ≤ 4) (hp : p < 10) (hh : ∀ j, j < k → (0 ≤ M 30 w j ∧ M 30 w j ≤ 9) ∧ 1 ≤ M 31 w j ∧ M 31 w j ≤ 9) (e1 : 0 ≤ M 26 s p) (e2 : M 26 s p ≤ 5040) (al1 : 1 ≤ sumN (M 31 w) k) (al2 : sumN (M 31 w) k ≤ 36) (X : OkM l G E cX7_passOn RX7 8 2 (some .int) (RF (M 26 s p) (upR M 26 s (pasR (M 26 s) (M 30 w) (M 31 w) k p)))) : ∀ (n i : Nat), ∀ x7 : Option Value, i ≤ k → k < i + n → J G E 23 [some (rf G 7 w), some (vi (p : Int)), some (rf G 26 s), some (vi (sumN (M 31 w) k)), some (vi (M 26 s p)), some (vi (M 26 s p - sumN (fun h => M 26 s p * M 31 w h / sumN (M 31 w) k) i)), some (vi (i : Int)), x7] [] (upR M 26 s (dst (M 26 s) (M 30 w) (M 31 w) (M 26 s p) (sumN (M 31 w) k) i)) := by
  have Y := X.ok
  intro n
  induction n with
  | zero => intro i x7 h1 h2; exfalso; omega
  | succ n ih =>
    intro i x7 h1 h2
    refine J_iload_6 Y qX7_passOn_23 ?_
    refine J_aloadr_0 Y qX7_passOn_25 ?_
    refine J_getI Y qX7_passOn_26 fX7_18 (by show _ < 10; omega) ?_
    rw [show upR M 26 s (dst (M 26 s) (M 30 w) (M 31 w) (M 26 s p) (sumN (M 31 w) k) i) 7 w 2 = M 7 w 2 from upR_ne (by omega)]
    refine J_icmp_ge Y qX7_passOn_29 (by omega) (by omega) (by omega) (by omega) (fun h29 => ?_) (fun h29 => ?_)
    · obtain rfl : i = k := by omega
      refine J_aloadr_2 Y qX7_passOn_73 ?_
      refine J_aloadr_0 Y qX7_passOn_74 ?_
      refine J_getR Y qX7_passOn_75 fX7_9 (by show _ < 10; omega) ?_
      refine J_iconst Y qX7_passOn_78 ?_
      refine J_ialoadN (kx := 0) Y qX7_passOn_79 rfl (by show _ < 10; omega) rfl (by decide) (by decide) ?_
      rw [show upR M 26 s (dst (M 26 s) (M 30 w) (M 31 w) (M 26 s p) (sumN (M 31 w) i) i) 30 w 0 = M 30 w 0 from upR_ne (by omega)]
      have hh0 := hh 0 (by omega)
      obtain ⟨hq, hq9⟩ := nat_of (show 0 ≤ M 30 w 0 by omega)
      rw [hq9]
      refine J_dup2 Y qX7_passOn_80 rfl rfl ?_
      refine J_ialoadN (kx := hq) Y qX7_passOn_81 rfl (by show _ < 14; omega) rfl (by omega) (by decide) ?_
      refine J_iload_5 Y qX7_passOn_82 ?_
      refine J_iadd Y qX7_passOn_84 ?_
      refine J_iastoreN (kx := hq) Y qX7_passOn_85 rfl (by show _ < 14; omega) rfl (by omega) (by decide) ?_
      rw [upR_at, upR_up]
      refine J_aloadr_2 Y qX7_passOn_86 ?_
      refine J_iload_1 Y qX7_passOn_87 ?_
      refine J_iconst Y qX7_passOn_88 ?_
      refine J_iastoreN (kx := p) Y qX7_passOn_89 rfl (by show _ < 14; omega) rfl (by omega) (by decide) ?_
      rw [upR_up]
      refine J_iload_4 Y qX7_passOn_90 ?_
      exact J_iret X qX7_passOn_92 ⟨rfl, upR_cong (fun c => by
        simp only [pasR, hq9]
        by_cases e : c = p
        · rw [if_pos e, if_pos e]
        · rw [if_neg e, if_neg e]
          by_cases e2 : c = hq
          · subst e2; simp
          · rw [if_neg e2, if_neg (by omega)])⟩
    · refine J_iload_4 Y qX7_passOn_32 ?_
      refine J_aloadr_0 Y qX7_passOn_34 ?_
      refine J_getR Y qX7_passOn_35 fX7_15 (by show _ < 10; omega) ?_
      refine J_iload_6 Y qX7_passOn_38 ?_
      refine J_ialoadN (kx := i) Y qX7_passOn_40 rfl (by show _ < 10; omega) rfl (by omega) (by decide) ?_
      rw [show upR M 26 s (dst (M 26 s) (M 30 w) (M 31 w) (M 26 s p) (sumN (M 31 w) k) i) 31 w i = M 31 w i from upR_ne (by omega)]
      have hhi := hh i (by omega)
      have m1 : 0 ≤ M 26 s p * M 31 w i := Int.mul_nonneg e1 (by omega)
      have m2 : M 26 s p * M 31 w i ≤ 5040 * 9 := Int.mul_le_mul e2 (by omega) (by omega) (by omega)
      refine J_imul Y qX7_passOn_41 ?_
      refine J_iload_3 Y qX7_passOn_42 ?_
      refine J_idiv Y qX7_passOn_43 (by omega) (by omega) (by omega) (by omega) ?_
      refine J_istore_7 Y qX7_passOn_44 rfl ?_
      refine J_aloadr_2 Y qX7_passOn_46 ?_
      refine J_aloadr_0 Y qX7_passOn_47 ?_
      refine J_getR Y qX7_passOn_48 fX7_9 (by show _ < 10; omega) ?_
      refine J_iload_6 Y qX7_passOn_51 ?_
      refine J_ialoadN (kx := i) Y qX7_passOn_53 rfl (by show _ < 10; omega) rfl (by omega) (by decide) ?_
      rw [show upR M 26 s (dst (M 26 s) (M 30 w) (M 31 w) (M 26 s p) (sumN (M 31 w) k) i) 30 w i = M 30 w i from upR_ne (by omega)]
      obtain ⟨hq, hq9⟩ := nat_of (show 0 ≤ M 30 w i by omega)
      rw [hq9]
      refine J_dup2 Y qX7_passOn_54 rfl rfl ?_
      refine J_ialoadN (kx := hq) Y qX7_passOn_55 rfl (by show _ < 14; omega) rfl (by omega) (by decide) ?_
      refine J_iload_7 Y qX7_passOn_56 ?_
      refine J_iadd Y qX7_passOn_58 ?_
      refine J_iastoreN (kx := hq) Y qX7_passOn_59 rfl (by show _ < 14; omega) rfl (by omega) (by decide) ?_
      rw [upR_at, upR_up, show (fun c => if c = hq then dst (M 26 s) (M 30 w) (M 31 w) (M 26 s p) (sumN (M 31 w) k) i hq + M 26 s p * M 31 w i / sumN (M 31 w) k else dst (M 26 s) (M 30 w) (M 31 w) (M 26 s p) (sumN (M 31 w) k) i c) = dst (M 26 s) (M 30 w) (M 31 w) (M 26 s p) (sumN (M 31 w) k) (i + 1) from by
        funext c
        simp only [dst, hq9]
        by_cases e : c = hq
        · subst e; simp
        · rw [if_neg e, if_neg (by omega)]]
      refine J_iload_5 Y qX7_passOn_60 ?_
      refine J_iload_7 Y qX7_passOn_62 ?_
      refine J_isub Y qX7_passOn_64 ?_
      refine J_istore_5 Y qX7_passOn_65 rfl ?_
      refine J_iinc_6 Y qX7_passOn_67 rfl ?_
      refine J_goto Y qX7_passOn_70 ?_
      have ih9 := fun x => ih (i + 1) x (by omega) (by omega)
      rw [show sumN (fun h => M 26 s p * M 31 w h / sumN (M 31 w) k) (i + 1) = sumN (fun h => M 26 s p * M 31 w h / sumN (M 31 w) k) i + M 26 s p * M 31 w i / sumN (M 31 w) k from rfl, ← Int.sub_sub] at ih9
      exact ih9 _

theorem c_passOn26 (l : Launch) (G : Gx) (M : Mem) {s w k p : Nat} (hs : s < 14) (hw : w < 10) (hk : M 7 w 2 = (k : Int)) (k1 : 1 ≤ k) (k4 : k ≤ 4) (hp : p < 10) (hh : ∀ j, j < k → (0 ≤ M 30 w j ∧ M 30 w j ≤ 9) ∧ 1 ≤ M 31 w j ∧ M 31 w j ≤ 9) (e1 : 0 ≤ M 26 s p) (e2 : M 26 s p ≤ 5040) : Ct l G 2 yX7_passOn cX7_passOn 8 ((Option.some Jvm.ClassFile.FieldType.int)) [rf G 7 w, vi (p : Nat), rf G 26 s] M (RF (M 26 s p) (upR M 26 s (pasR (M 26 s) (M 30 w) (M 31 w) k p))) := by
  refine Ct.of rfl (Nat.le_of_ble_eq_true rfl) rfl (fun E X => ?_)
  have Y := X.ok
  have b1 := sumN_le (g := M 31 w) (c := 9) k (fun j hj => (hh j hj).2.2)
  have b2 := sumN_ge (g := M 31 w) (c := 1) k (fun j hj => (hh j hj).2.1)
  refine J_aloadr_0 Y qX7_passOn_0 ?_
  refine J_cV0P Y qX7_passOn_1 mX7_22 iyX7_allWeights (by show _ < 10; omega) rfl (by decide) rfl (Nat.le_of_ble_eq_true rfl) (c_allWeights _ _ _ hw hk k4) ?_
  refine J_istore_3 Y qX7_passOn_4 rfl ?_
  refine J_iload_3 Y qX7_passOn_5 ?_
  refine J_if_ne Y qX7_passOn_6 (by omega) (by omega) (fun h6 => ?_) (fun h6 => ?_)
  · refine J_aloadr_2 Y qX7_passOn_11 ?_
    refine J_iload_1 Y qX7_passOn_12 ?_
    refine J_ialoadN (kx := p) Y qX7_passOn_13 rfl (by show _ < 14; omega) rfl (by omega) (by decide) ?_
    refine J_istore_4 Y qX7_passOn_14 rfl ?_
    refine J_iload_4 Y qX7_passOn_16 ?_
    refine J_istore_5 Y qX7_passOn_18 rfl ?_
    refine J_iconst Y qX7_passOn_20 ?_
    refine J_istore_6 Y qX7_passOn_21 rfl ?_
    have h := lp_passOn26 hs hw hk k1 k4 hp hh e1 e2 (by omega) (by omega) X (k + 1) 0 none (by omega) (by omega)
    rw [show sumN (fun h => M 26 s p * M 31 w h / sumN (M 31 w) k) 0 = 0 from rfl, Int.sub_zero, show dst (M 26 s) (M 30 w) (M 31 w) (M 26 s p) (sumN (M 31 w) k) 0 = M 26 s from rfl, upR_self] at h
    exact h
  · exfalso; omega


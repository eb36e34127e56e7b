/-! ===== the class: rules as they hold ===== -/
theorem c_isSo (l : Launch) (G : Gx) (M : Mem) {r t : Nat} {x : Int} (hr : r < 10) (ht : t < 3) (s1 : M 20 r t = 60 ∨ M 20 r t = 61 ∨ M 20 r t = 62) (b1 : 0 ≤ M 21 r t) (b2 : M 21 r t ≤ 9999) (x1 : 0 ≤ x) (x2 : x ≤ 9999) : Ct l G 1 yX3_isSo cX3_isSo 3 ((Option.some Jvm.ClassFile.FieldType.boolean)) [rf G 3 r, vi (t : Nat), vi x] M (RB M (soB (M 20 r t) x (M 21 r t) = true)) := by
  refine Ct.of rfl (Nat.le_of_ble_eq_true rfl) rfl (fun E X => ?_)
  have Y := X.ok
  refine J_aloadr_0 Y qX3_isSo_0 ?_
  refine J_getR Y qX3_isSo_1 fX3_29 (by show _ < 10; omega) ?_
  refine J_iload_1 Y qX3_isSo_4 ?_
  refine J_ialoadN (kx := t) Y qX3_isSo_5 rfl (by show _ < 10; omega) rfl (by omega) (by decide) ?_
  rcases s1 with hsg | hsg | hsg
  · rw [hsg]
    refine J_lsw (off := 26) (tg := 32) Y qX3_isSo_6 (by decide) (by decide) (by decide) (by decide) (by decide) ?_
    refine J_iload_2 Y qX3_isSo_32 ?_
    refine J_aloadr_0 Y qX3_isSo_33 ?_
    refine J_getR Y qX3_isSo_34 fX3_32 (by show _ < 10; omega) ?_
    refine J_iload_1 Y qX3_isSo_37 ?_
    refine J_ialoadN (kx := t) Y qX3_isSo_38 rfl (by show _ < 10; omega) rfl (by omega) (by decide) ?_
    refine J_icmp_ge Y qX3_isSo_39 (by omega) (by omega) (by omega) (by omega) (fun h39 => ?_) (fun h39 => ?_)
    · refine J_iconst Y qX3_isSo_46 ?_
      exact J_zret_f X qX3_isSo_47 rfl (by simp [soB, hsg]; omega)
    · refine J_iconst Y qX3_isSo_42 ?_
      refine J_goto Y qX3_isSo_43 ?_
      exact J_zret_t X qX3_isSo_47 rfl (by simp [soB, hsg]; omega)
  · rw [hsg]
    refine J_lsw (off := 58) (tg := 64) Y qX3_isSo_6 (by decide) (by decide) (by decide) (by decide) (by decide) ?_
    refine J_iload_2 Y qX3_isSo_64 ?_
    refine J_aloadr_0 Y qX3_isSo_65 ?_
    refine J_getR Y qX3_isSo_66 fX3_32 (by show _ < 10; omega) ?_
    refine J_iload_1 Y qX3_isSo_69 ?_
    refine J_ialoadN (kx := t) Y qX3_isSo_70 rfl (by show _ < 10; omega) rfl (by omega) (by decide) ?_
    refine J_icmp_ne Y qX3_isSo_71 (by omega) (by omega) (by omega) (by omega) (fun h71 => ?_) (fun h71 => ?_)
    · refine J_iconst Y qX3_isSo_78 ?_
      exact J_zret_f X qX3_isSo_79 rfl (by simp [soB, hsg]; omega)
    · refine J_iconst Y qX3_isSo_74 ?_
      refine J_goto Y qX3_isSo_75 ?_
      exact J_zret_t X qX3_isSo_79 rfl (by simp [soB, hsg]; omega)
  · rw [hsg]
    refine J_lsw (off := 42) (tg := 48) Y qX3_isSo_6 (by decide) (by decide) (by decide) (by decide) (by decide) ?_
    refine J_iload_2 Y qX3_isSo_48 ?_
    refine J_aloadr_0 Y qX3_isSo_49 ?_
    refine J_getR Y qX3_isSo_50 fX3_32 (by show _ < 10; omega) ?_
    refine J_iload_1 Y qX3_isSo_53 ?_
    refine J_ialoadN (kx := t) Y qX3_isSo_54 rfl (by show _ < 10; omega) rfl (by omega) (by decide) ?_
    refine J_icmp_le Y qX3_isSo_55 (by omega) (by omega) (by omega) (by omega) (fun h55 => ?_) (fun h55 => ?_)
    · refine J_iconst Y qX3_isSo_62 ?_
      exact J_zret_f X qX3_isSo_63 rfl (by simp [soB, hsg]; omega)
    · refine J_iconst Y qX3_isSo_58 ?_
      refine J_goto Y qX3_isSo_59 ?_
      exact J_zret_t X qX3_isSo_63 rfl (by simp [soB, hsg]; omega)

theorem ts_nt9 {x : Bool} (h : ¬ x = true) : x = false := by simpa using h
theorem lp_holds {l : Launch} {G : Gx} {E : Fx} {M : Mem} {r k : Nat} {day : Int} (hr : r < 10) (hQ : IvQ M r) (hk : M 3 r 8 = (k : Int)) (hf : ∀ j, j < 5 → 0 ≤ M 24 0 j ∧ M 24 0 j ≤ 13) (d1 : 0 ≤ day) (d2 : day ≤ 100000) (hd : M 3 r 2 ≤ day ∧ day < M 3 r 3) (X : OkM l G E cX3_holds RX3 4 2 (some .boolean) (RB M (hlB M day r = true))) : ∀ (n i : Nat), i ≤ k → k < i + n → (∀ j, j < i → tsB M r j = true) → J G E 20 [some (rf G 3 r), some (vi day), some (rf G 24 0), some (vi (i : Int))] [] M := by
  have Y := X.ok
  obtain ⟨q1, q2, q3, q4, q5, q6⟩ := hQ
  intro n
  induction n with
  | zero => intro i h1 h2 h3; exfalso; omega
  | succ n ih =>
    intro i h1 h2 h3
    refine J_iload_3 Y qX3_holds_20 ?_
    refine J_aloadr_0 Y qX3_holds_21 ?_
    refine J_getI Y qX3_holds_22 fX3_39 (by show _ < 10; omega) ?_
    refine J_icmp_ge Y qX3_holds_25 (by omega) (by omega) (by omega) (by omega) (fun h25 => ?_) (fun h25 => ?_)
    · refine J_iconst Y qX3_holds_58 ?_
      exact J_zret_t X qX3_holds_59 rfl (by rw [hlB, Bool.and_eq_true, hk, Int.toNat_natCast, allN_iff]; exact ⟨decide_eq_true hd, fun j hj => h3 j (by omega)⟩)
    · obtain ⟨u1, u2, u3, u4⟩ := q6 i (by omega)
      obtain ⟨fl, hfl⟩ := nat_of u1.1
      have hfi := hf fl (by omega)
      refine J_aloadr_0 Y qX3_holds_28 ?_
      refine J_iload_3 Y qX3_holds_29 ?_
      refine J_aloadr_2 Y qX3_holds_30 ?_
      refine J_aloadr_0 Y qX3_holds_31 ?_
      refine J_getR Y qX3_holds_32 fX3_25 (by show _ < 10; omega) ?_
      refine J_iload_3 Y qX3_holds_35 ?_
      refine J_ialoadN (kx := i) Y qX3_holds_36 rfl (by show _ < 10; omega) rfl (by omega) (by decide) ?_
      rw [hfl]
      refine J_ialoadN (kx := fl) Y qX3_holds_37 rfl (by decide) rfl (by omega) (by decide) ?_
      refine J_cV2B Y qX3_holds_38 mX3_42 iyX3_isSo (by show _ < 10; omega) rfl (by decide) rfl (Nat.le_of_ble_eq_true rfl) (c_isSo _ _ _ hr (by omega) u2 u3.1 u3.2 (by omega) (by omega)) (fun h38 => ?_) (fun h38 => ?_)
      · refine J_aloadr_0 Y qX3_holds_41 ?_
        refine J_getR Y qX3_holds_42 fX3_35 (by show _ < 10; omega) ?_
        refine J_iload_3 Y qX3_holds_45 ?_
        refine J_baloadN (kx := i) Y qX3_holds_46 rfl (by show _ < 10; omega) rfl (by omega) (by decide) ?_
        refine J_icmp_ne Y qX3_holds_47 (by omega) (by omega) (by omega) (by omega) (fun h47 => ?_) (fun h47 => ?_)
        · refine J_iinc_3 Y qX3_holds_52 rfl ?_
          refine J_goto Y qX3_holds_55 ?_
          exact ih (i + 1) (by omega) (by omega) (fun j hj => by
            by_cases e : j = i
            · subst e
              simp only [tsB, bne_iff_ne, ne_eq]
              rw [show (M 24 0 (M 19 r j).toNat) = M 24 0 fl by rw [hfl]; rfl]
              first | (rw [h38]; rcases u4 with u4 | u4 <;> simp [u4] <;> omega) | (rw [ts_nt9 h38]; rcases u4 with u4 | u4 <;> simp [u4] <;> omega)
            · exact h3 j (by omega))
        · refine J_iconst Y qX3_holds_50 ?_
          exact J_zret_f X qX3_holds_51 rfl (fun hz => by
            rw [hlB, Bool.and_eq_true, hk, Int.toNat_natCast, allN_iff] at hz
            have z9 := hz.2 i (by omega)
            simp only [tsB, bne_iff_ne, ne_eq] at z9
            rw [show (M 24 0 (M 19 r i).toNat) = M 24 0 fl by rw [hfl]; rfl] at z9
            first | (rw [h38] at z9; rcases u4 with u4 | u4 <;> simp [u4] at z9 <;> omega) | (rw [ts_nt9 h38] at z9; rcases u4 with u4 | u4 <;> simp [u4] at z9 <;> omega))
      · refine J_aloadr_0 Y qX3_holds_41 ?_
        refine J_getR Y qX3_holds_42 fX3_35 (by show _ < 10; omega) ?_
        refine J_iload_3 Y qX3_holds_45 ?_
        refine J_baloadN (kx := i) Y qX3_holds_46 rfl (by show _ < 10; omega) rfl (by omega) (by decide) ?_
        refine J_icmp_ne Y qX3_holds_47 (by omega) (by omega) (by omega) (by omega) (fun h47 => ?_) (fun h47 => ?_)
        · refine J_iinc_3 Y qX3_holds_52 rfl ?_
          refine J_goto Y qX3_holds_55 ?_
          exact ih (i + 1) (by omega) (by omega) (fun j hj => by
            by_cases e : j = i
            · subst e
              simp only [tsB, bne_iff_ne, ne_eq]
              rw [show (M 24 0 (M 19 r j).toNat) = M 24 0 fl by rw [hfl]; rfl]
              first | (rw [h38]; rcases u4 with u4 | u4 <;> simp [u4] <;> omega) | (rw [ts_nt9 h38]; rcases u4 with u4 | u4 <;> simp [u4] <;> omega)
            · exact h3 j (by omega))
        · refine J_iconst Y qX3_holds_50 ?_
          exact J_zret_f X qX3_holds_51 rfl (fun hz => by
            rw [hlB, Bool.and_eq_true, hk, Int.toNat_natCast, allN_iff] at hz
            have z9 := hz.2 i (by omega)
            simp only [tsB, bne_iff_ne, ne_eq] at z9
            rw [show (M 24 0 (M 19 r i).toNat) = M 24 0 fl by rw [hfl]; rfl] at z9
            first | (rw [h38] at z9; rcases u4 with u4 | u4 <;> simp [u4] at z9 <;> omega) | (rw [ts_nt9 h38] at z9; rcases u4 with u4 | u4 <;> simp [u4] at z9 <;> omega))

theorem c_holds (l : Launch) (G : Gx) (M : Mem) {r k : Nat} {day : Int} (hr : r < 10) (hQ : IvQ M r) (hk : M 3 r 8 = (k : Int)) (hf : ∀ j, j < 5 → 0 ≤ M 24 0 j ∧ M 24 0 j ≤ 13) (d1 : 0 ≤ day) (d2 : day ≤ 100000) : Ct l G 2 yX3_holds cX3_holds 4 ((Option.some Jvm.ClassFile.FieldType.boolean)) [rf G 3 r, vi day, rf G 24 0] M (RB M (hlB M day r = true)) := by
  refine Ct.of rfl (Nat.le_of_ble_eq_true rfl) rfl (fun E X => ?_)
  have Y := X.ok
  have hQ2 := hQ
  obtain ⟨q1, q2, q3, q4, q5, q6⟩ := hQ
  refine J_iload_1 Y qX3_holds_0 ?_
  refine J_aloadr_0 Y qX3_holds_1 ?_
  refine J_getI Y qX3_holds_2 fX3_19 (by show _ < 10; omega) ?_
  refine J_icmp_lt Y qX3_holds_5 (by omega) (by omega) (by omega) (by omega) (fun h5 => ?_) (fun h5 => ?_)
  · refine J_iconst Y qX3_holds_16 ?_
    exact J_zret_f X qX3_holds_17 rfl (fun hz => by
      rw [hlB, Bool.and_eq_true, decide_eq_true_eq] at hz
      omega)
  · refine J_iload_1 Y qX3_holds_8 ?_
    refine J_aloadr_0 Y qX3_holds_9 ?_
    refine J_getI Y qX3_holds_10 fX3_22 (by show _ < 10; omega) ?_
    refine J_icmp_lt Y qX3_holds_13 (by omega) (by omega) (by omega) (by omega) (fun h13 => ?_) (fun h13 => ?_)
    · refine J_iconst Y qX3_holds_18 ?_
      refine J_istore_3 Y qX3_holds_19 rfl ?_
      exact lp_holds hr hQ2 hk hf d1 d2 (by omega) X (k + 1) 0 (by omega) (by omega) (fun j hj => by omega)
    · refine J_iconst Y qX3_holds_16 ?_
      exact J_zret_f X qX3_holds_17 rfl (fun hz => by
        rw [hlB, Bool.and_eq_true, decide_eq_true_eq] at hz
        omega)

theorem lp_leastBan {l : Launch} {G : Gx} {E : Fx} {M : Mem} {k : Nat} {day : Int} (hk : M 4 0 2 = (k : Int)) (k10 : k ≤ 10) (hQ : ∀ r, r < k → IvQ M r) (hf : ∀ j, j < 5 → 0 ≤ M 24 0 j ∧ M 24 0 j ≤ 13) (d1 : 0 ≤ day) (d2 : day ≤ 100000) (X : OkM l G E cX4_leastBan RX4 5 3 (some .int) (RP M (fstB (cBan M day) k))) : ∀ (n i : Nat), ∀ x3 x4 : Option Value, i ≤ k → k < i + n → (∀ j, j < i → cBan M day j = false) → J G E 2 [some (rf G 4 0), some (vi day), some (vi (i : Int)), x3, x4] [] M := by
  have Y := X.ok
  intro n
  induction n with
  | zero => intro i x3 x4 h1 h2 h3; exfalso; omega
  | succ n ih =>
    intro i x3 x4 h1 h2 h3
    refine J_iload_2 Y qX4_leastBan_2 ?_
    refine J_aloadr_0 Y qX4_leastBan_3 ?_
    refine J_getI Y qX4_leastBan_4 fX4_21 (by decide) ?_
    refine J_icmp_ge Y qX4_leastBan_7 (by omega) (by omega) (by omega) (by omega) (fun h7 => ?_) (fun h7 => ?_)
    · refine J_iconst Y qX4_leastBan_78 ?_
      exact J_iret X qX4_leastBan_79 (RP_i (fstB_no k (fun j hj => h3 j (by omega))).symm)
    · have hQi := hQ i (by omega)
      have hQi2 := hQi
      obtain ⟨q1, q2, q3, q4, q5, q6⟩ := hQi2
      obtain ⟨ki, hki⟩ := nat_of q5.1
      have hf4 := hf 4 (by omega)
      refine J_aloadr_0 Y qX4_leastBan_10 ?_
      refine J_getR Y qX4_leastBan_11 fX4_11 (by decide) ?_
      refine J_iload_2 Y qX4_leastBan_14 ?_
      refine J_aaloadN (kx := i) Y qX4_leastBan_15 rfl (fun _ => rfl) (by decide) rfl (by omega) (by decide) ?_
      refine J_astore_3 Y qX4_leastBan_16 rfl ?_
      refine J_aloadr_3 Y qX4_leastBan_17 ?_
      refine J_getI Y qX4_leastBan_18 fX4_26 (by show _ < 10; omega) ?_
      refine J_aloadr_0 Y qX4_leastBan_21 ?_
      refine J_getR Y qX4_leastBan_22 fX4_17 (by decide) ?_
      refine J_iconst Y qX4_leastBan_25 ?_
      refine J_ialoadN (kx := 4) Y qX4_leastBan_26 rfl (by decide) rfl (by decide) (by decide) ?_
      refine J_icmp_eq Y qX4_leastBan_27 (by omega) (by omega) (by omega) (by omega) (fun h27 => ?_) (fun h27 => ?_)
      · refine J_iconst Y qX4_leastBan_39 ?_
        refine J_goto Y qX4_leastBan_40 ?_
        refine J_istore_4 Y qX4_leastBan_44 rfl ?_
        refine J_aloadr_3 Y qX4_leastBan_46 ?_
        refine J_getI Y qX4_leastBan_47 fX4_29 (by show _ < 10; omega) ?_
        refine J_if_eq Y qX4_leastBan_50 (by omega) (by omega) (fun h50 => ?_) (fun h50 => ?_)
        · refine J_iinc_2 Y qX4_leastBan_72 rfl ?_
          refine J_goto Y qX4_leastBan_75 ?_
          refine ih (i + 1) _ _ (by omega) (by omega) (fun j hj => ?_)
          by_cases e : j = i
          · subst e
            rw [cBan]
            first
              | (rw [decide_eq_false (by omega)]; rfl)
              | (rw [show decide _ = false from decide_eq_false (by omega), Bool.and_false])
              | (simp only [ts_nt9 h64, Bool.and_false])
              | (simp; omega)
          · exact h3 j (by omega)
        · refine J_iload_4 Y qX4_leastBan_53 ?_
          refine J_eq1 Y qX4_leastBan_55 ?_
          refine J_aloadr_3 Y qX4_leastBan_58 ?_
          refine J_iload_1 Y qX4_leastBan_59 ?_
          refine J_aloadr_0 Y qX4_leastBan_60 ?_
          refine J_getR Y qX4_leastBan_61 fX4_17 (by decide) ?_
          refine J_cV2B Y qX4_leastBan_64 mX4_33 iyX3_holds (by show _ < 10; omega) rfl (by decide) rfl (Nat.le_of_ble_eq_true rfl) (c_holds _ _ _ (by omega) hQi hki hf d1 d2) (fun h64 => ?_) (fun h64 => ?_)
          · refine J_eq1 Y qX4_leastBan_67 ?_
            refine J_iload_2 Y qX4_leastBan_70 ?_
            exact J_iret X qX4_leastBan_71 (RP_i (fstB_at h3 (by rw [cBan, h64]; simp; omega) k (by omega)).symm)
          · refine J_eq0 Y qX4_leastBan_67 ?_
            refine J_iinc_2 Y qX4_leastBan_72 rfl ?_
            refine J_goto Y qX4_leastBan_75 ?_
            refine ih (i + 1) _ _ (by omega) (by omega) (fun j hj => ?_)
            by_cases e : j = i
            · subst e
              rw [cBan]
              first
                | (rw [decide_eq_false (by omega)]; rfl)
                | (rw [show decide _ = false from decide_eq_false (by omega), Bool.and_false])
                | (simp only [ts_nt9 h64, Bool.and_false])
                | (simp; omega)
            · exact h3 j (by omega)
      · refine J_aloadr_3 Y qX4_leastBan_30 ?_
        refine J_getI Y qX4_leastBan_31 fX4_26 (by show _ < 10; omega) ?_
        refine J_bipush Y qX4_leastBan_34 (by decide) ?_
        refine J_icmp_ne Y qX4_leastBan_36 (by omega) (by omega) (by omega) (by omega) (fun h36 => ?_) (fun h36 => ?_)
        · refine J_iconst Y qX4_leastBan_43 ?_
          refine J_istore_4 Y qX4_leastBan_44 rfl ?_
          refine J_aloadr_3 Y qX4_leastBan_46 ?_
          refine J_getI Y qX4_leastBan_47 fX4_29 (by show _ < 10; omega) ?_
          refine J_if_eq Y qX4_leastBan_50 (by omega) (by omega) (fun h50 => ?_) (fun h50 => ?_)
          · refine J_iinc_2 Y qX4_leastBan_72 rfl ?_
            refine J_goto Y qX4_leastBan_75 ?_
            refine ih (i + 1) _ _ (by omega) (by omega) (fun j hj => ?_)
            by_cases e : j = i
            · subst e
              rw [cBan]
              first
                | (rw [decide_eq_false (by omega)]; rfl)
                | (rw [show decide _ = false from decide_eq_false (by omega), Bool.and_false])
                | (simp only [ts_nt9 h64, Bool.and_false])
                | (simp; omega)
            · exact h3 j (by omega)
          · refine J_iload_4 Y qX4_leastBan_53 ?_
            refine J_eq0 Y qX4_leastBan_55 ?_
            refine J_iinc_2 Y qX4_leastBan_72 rfl ?_
            refine J_goto Y qX4_leastBan_75 ?_
            refine ih (i + 1) _ _ (by omega) (by omega) (fun j hj => ?_)
            by_cases e : j = i
            · subst e
              rw [cBan]
              first
                | (rw [decide_eq_false (by omega)]; rfl)
                | (rw [show decide _ = false from decide_eq_false (by omega), Bool.and_false])
                | (simp only [ts_nt9 h64, Bool.and_false])
                | (simp; omega)
            · exact h3 j (by omega)
        · refine J_iconst Y qX4_leastBan_39 ?_
          refine J_goto Y qX4_leastBan_40 ?_
          refine J_istore_4 Y qX4_leastBan_44 rfl ?_
          refine J_aloadr_3 Y qX4_leastBan_46 ?_
          refine J_getI Y qX4_leastBan_47 fX4_29 (by show _ < 10; omega) ?_
          refine J_if_eq Y qX4_leastBan_50 (by omega) (by omega) (fun h50 => ?_) (fun h50 => ?_)
          · refine J_iinc_2 Y qX4_leastBan_72 rfl ?_
            refine J_goto Y qX4_leastBan_75 ?_
            refine ih (i + 1) _ _ (by omega) (by omega) (fun j hj => ?_)
            by_cases e : j = i
            · subst e
              rw [cBan]
              first
                | (rw [decide_eq_false (by omega)]; rfl)
                | (rw [show decide _ = false from decide_eq_false (by omega), Bool.and_false])
                | (simp only [ts_nt9 h64, Bool.and_false])
                | (simp; omega)
            · exact h3 j (by omega)
          · refine J_iload_4 Y qX4_leastBan_53 ?_
            refine J_eq1 Y qX4_leastBan_55 ?_
            refine J_aloadr_3 Y qX4_leastBan_58 ?_
            refine J_iload_1 Y qX4_leastBan_59 ?_
            refine J_aloadr_0 Y qX4_leastBan_60 ?_
            refine J_getR Y qX4_leastBan_61 fX4_17 (by decide) ?_
            refine J_cV2B Y qX4_leastBan_64 mX4_33 iyX3_holds (by show _ < 10; omega) rfl (by decide) rfl (Nat.le_of_ble_eq_true rfl) (c_holds _ _ _ (by omega) hQi hki hf d1 d2) (fun h64 => ?_) (fun h64 => ?_)
            · refine J_eq1 Y qX4_leastBan_67 ?_
              refine J_iload_2 Y qX4_leastBan_70 ?_
              exact J_iret X qX4_leastBan_71 (RP_i (fstB_at h3 (by rw [cBan, h64]; simp; omega) k (by omega)).symm)
            · refine J_eq0 Y qX4_leastBan_67 ?_
              refine J_iinc_2 Y qX4_leastBan_72 rfl ?_
              refine J_goto Y qX4_leastBan_75 ?_
              refine ih (i + 1) _ _ (by omega) (by omega) (fun j hj => ?_)
              by_cases e : j = i
              · subst e
                rw [cBan]
                first
                  | (rw [decide_eq_false (by omega)]; rfl)
                  | (rw [show decide _ = false from decide_eq_false (by omega), Bool.and_false])
                  | (simp only [ts_nt9 h64, Bool.and_false])
                  | (simp; omega)
              · exact h3 j (by omega)

theorem c_leastBan (l : Launch) (G : Gx) (M : Mem) {k : Nat} {day : Int} (hk : M 4 0 2 = (k : Int)) (k10 : k ≤ 10) (hQ : ∀ r, r < k → IvQ M r) (hf : ∀ j, j < 5 → 0 ≤ M 24 0 j ∧ M 24 0 j ≤ 13) (d1 : 0 ≤ day) (d2 : day ≤ 100000) : Ct l G 3 yX4_leastBan cX4_leastBan 5 ((Option.some Jvm.ClassFile.FieldType.int)) [rf G 4 0, vi day] M (RP M (fstB (cBan M day) k)) := by
  refine Ct.of rfl (Nat.le_of_ble_eq_true rfl) rfl (fun E X => ?_)
  have Y := X.ok
  refine J_iconst Y qX4_leastBan_0 ?_
  refine J_istore_2 Y qX4_leastBan_1 rfl ?_
  exact lp_leastBan hk k10 hQ hf d1 d2 X (k + 1) 0 none none (by omega) (by omega) (fun j hj => by omega)

theorem lp_leastTaxing {l : Launch} {G : Gx} {E : Fx} {M : Mem} {k : Nat} {day : Int} (hk : M 4 0 2 = (k : Int)) (k10 : k ≤ 10) (hQ : ∀ r, r < k → IvQ M r) (hf : ∀ j, j < 5 → 0 ≤ M 24 0 j ∧ M 24 0 j ≤ 13) (d1 : 0 ≤ day) (d2 : day ≤ 100000) (X : OkM l G E cX4_leastTaxing RX4 4 3 (some .int) (RP M (fstB (cTax M day) k))) : ∀ (n i : Nat), ∀ x3 : Option Value, i ≤ k → k < i + n → (∀ j, j < i → cTax M day j = false) → J G E 2 [some (rf G 4 0), some (vi day), some (vi (i : Int)), x3] [] M := by
  have Y := X.ok
  intro n
  induction n with
  | zero => intro i x3 h1 h2 h3; exfalso; omega
  | succ n ih =>
    intro i x3 h1 h2 h3
    refine J_iload_2 Y qX4_leastTaxing_2 ?_
    refine J_aloadr_0 Y qX4_leastTaxing_3 ?_
    refine J_getI Y qX4_leastTaxing_4 fX4_21 (by decide) ?_
    refine J_icmp_ge Y qX4_leastTaxing_7 (by omega) (by omega) (by omega) (by omega) (fun h7 => ?_) (fun h7 => ?_)
    · refine J_iconst Y qX4_leastTaxing_51 ?_
      exact J_iret X qX4_leastTaxing_52 (RP_i (fstB_no k (fun j hj => h3 j (by omega))).symm)
    · have hQi := hQ i (by omega)
      have hQi2 := hQi
      obtain ⟨q1, q2, q3, q4, q5, q6⟩ := hQi2
      obtain ⟨ki, hki⟩ := nat_of q5.1
      have hf4 := hf 4 (by omega)
      refine J_aloadr_0 Y qX4_leastTaxing_10 ?_
      refine J_getR Y qX4_leastTaxing_11 fX4_11 (by decide) ?_
      refine J_iload_2 Y qX4_leastTaxing_14 ?_
      refine J_aaloadN (kx := i) Y qX4_leastTaxing_15 rfl (fun _ => rfl) (by decide) rfl (by omega) (by decide) ?_
      refine J_astore_3 Y qX4_leastTaxing_16 rfl ?_
      refine J_aloadr_3 Y qX4_leastTaxing_17 ?_
      refine J_getI Y qX4_leastTaxing_18 fX4_29 (by show _ < 10; omega) ?_
      refine J_if_ne Y qX4_leastTaxing_21 (by omega) (by omega) (fun h21 => ?_) (fun h21 => ?_)
      · refine J_iinc_2 Y qX4_leastTaxing_45 rfl ?_
        refine J_goto Y qX4_leastTaxing_48 ?_
        refine ih (i + 1) _ (by omega) (by omega) (fun j hj => ?_)
        by_cases e : j = i
        · subst e
          rw [cTax]
          first
            | (rw [decide_eq_false (by omega)]; rfl)
            | (rw [show decide _ = false from decide_eq_false (by omega), Bool.and_false])
            | (simp only [ts_nt9 h37, Bool.and_false])
            | (simp; omega)
        · exact h3 j (by omega)
      · refine J_aloadr_3 Y qX4_leastTaxing_24 ?_
        refine J_getI Y qX4_leastTaxing_25 fX4_26 (by show _ < 10; omega) ?_
        refine J_if_eq Y qX4_leastTaxing_28 (by omega) (by omega) (fun h28 => ?_) (fun h28 => ?_)
        · refine J_iinc_2 Y qX4_leastTaxing_45 rfl ?_
          refine J_goto Y qX4_leastTaxing_48 ?_
          refine ih (i + 1) _ (by omega) (by omega) (fun j hj => ?_)
          by_cases e : j = i
          · subst e
            rw [cTax]
            first
              | (rw [decide_eq_false (by omega)]; rfl)
              | (rw [show decide _ = false from decide_eq_false (by omega), Bool.and_false])
              | (simp only [ts_nt9 h37, Bool.and_false])
              | (simp; omega)
          · exact h3 j (by omega)
        · refine J_aloadr_3 Y qX4_leastTaxing_31 ?_
          refine J_iload_1 Y qX4_leastTaxing_32 ?_
          refine J_aloadr_0 Y qX4_leastTaxing_33 ?_
          refine J_getR Y qX4_leastTaxing_34 fX4_17 (by decide) ?_
          refine J_cV2B Y qX4_leastTaxing_37 mX4_33 iyX3_holds (by show _ < 10; omega) rfl (by decide) rfl (Nat.le_of_ble_eq_true rfl) (c_holds _ _ _ (by omega) hQi hki hf d1 d2) (fun h37 => ?_) (fun h37 => ?_)
          · refine J_eq1 Y qX4_leastTaxing_40 ?_
            refine J_iload_2 Y qX4_leastTaxing_43 ?_
            exact J_iret X qX4_leastTaxing_44 (RP_i (fstB_at h3 (by rw [cTax, h37]; simp; omega) k (by omega)).symm)
          · refine J_eq0 Y qX4_leastTaxing_40 ?_
            refine J_iinc_2 Y qX4_leastTaxing_45 rfl ?_
            refine J_goto Y qX4_leastTaxing_48 ?_
            refine ih (i + 1) _ (by omega) (by omega) (fun j hj => ?_)
            by_cases e : j = i
            · subst e
              rw [cTax]
              first
                | (rw [decide_eq_false (by omega)]; rfl)
                | (rw [show decide _ = false from decide_eq_false (by omega), Bool.and_false])
                | (simp only [ts_nt9 h37, Bool.and_false])
                | (simp; omega)
            · exact h3 j (by omega)

theorem c_leastTaxing (l : Launch) (G : Gx) (M : Mem) {k : Nat} {day : Int} (hk : M 4 0 2 = (k : Int)) (k10 : k ≤ 10) (hQ : ∀ r, r < k → IvQ M r) (hf : ∀ j, j < 5 → 0 ≤ M 24 0 j ∧ M 24 0 j ≤ 13) (d1 : 0 ≤ day) (d2 : day ≤ 100000) : Ct l G 3 yX4_leastTaxing cX4_leastTaxing 4 ((Option.some Jvm.ClassFile.FieldType.int)) [rf G 4 0, vi day] M (RP M (fstB (cTax M day) k)) := by
  refine Ct.of rfl (Nat.le_of_ble_eq_true rfl) rfl (fun E X => ?_)
  have Y := X.ok
  refine J_iconst Y qX4_leastTaxing_0 ?_
  refine J_istore_2 Y qX4_leastTaxing_1 rfl ?_
  exact lp_leastTaxing hk k10 hQ hf d1 d2 X (k + 1) 0 none (by omega) (by omega) (fun j hj => by omega)

theorem lp_taxOn {l : Launch} {G : Gx} {E : Fx} {M : Mem} {k : Nat} {day : Int} (hk : M 4 0 2 = (k : Int)) (k10 : k ≤ 10) (hQ : ∀ r, r < k → IvQ M r) (hf : ∀ j, j < 5 → 0 ≤ M 24 0 j ∧ M 24 0 j ≤ 13) (d1 : 0 ≤ day) (d2 : day ≤ 100000) (X : OkM l G E cX4_taxOn RX4 3 3 (some .int) (RP M (taxV M day k))) : ∀ (n i : Nat), i ≤ k → i < n → taxV M day i = taxV M day k → J G E 7 [some (rf G 4 0), some (vi day), some (vi ((i : Int) - 1))] [] M := by
  have Y := X.ok
  intro n
  induction n with
  | zero => intro i h1 h2 h3; exfalso; omega
  | succ n ih =>
    intro i h1 h2 h3
    refine J_iload_2 Y qX4_taxOn_7 ?_
    refine J_if_lt Y qX4_taxOn_8 (by omega) (by omega) (fun h8 => ?_) (fun h8 => ?_)
    · obtain rfl : i = 0 := by omega
      refine J_iconst Y qX4_taxOn_56 ?_
      exact J_iret X qX4_taxOn_57 (RP_i h3)
    · obtain ⟨i, rfl⟩ : ∃ j, i = j + 1 := ⟨i - 1, by omega⟩
      rw [show ((i + 1 : Nat) : Int) - 1 = (i : Int) by omega]
      have hQi := hQ i (by omega)
      have hQi2 := hQi
      obtain ⟨q1, q2, q3, q4, q5, q6⟩ := hQi2
      obtain ⟨ki, hki⟩ := nat_of q5.1
      have hf4 := hf 4 (by omega)
      refine J_aloadr_0 Y qX4_taxOn_11 ?_
      refine J_getR Y qX4_taxOn_12 fX4_11 (by decide) ?_
      refine J_iload_2 Y qX4_taxOn_15 ?_
      refine J_aaloadN (kx := i) Y qX4_taxOn_16 rfl (fun _ => rfl) (by decide) rfl (by omega) (by decide) ?_
      refine J_getI Y qX4_taxOn_17 fX4_29 (by show _ < 10; omega) ?_
      refine J_if_ne Y qX4_taxOn_20 (by omega) (by omega) (fun h20 => ?_) (fun h20 => ?_)
      · refine J_iinc_2 Y qX4_taxOn_50 rfl ?_
        refine J_goto Y qX4_taxOn_53 ?_
        have ih9 := ih i (by omega) (by omega) (by
          rw [← h3, taxV, if_neg (by rw [cTx0]; first | (rw [decide_eq_false (by omega)]; simp; done) | (rw [ts_nt9 h34]; simp; done))])
        rw [show (i : Int) + -1 = (i : Int) - 1 by omega]
        exact ih9
      · refine J_aloadr_0 Y qX4_taxOn_23 ?_
        refine J_getR Y qX4_taxOn_24 fX4_11 (by decide) ?_
        refine J_iload_2 Y qX4_taxOn_27 ?_
        refine J_aaloadN (kx := i) Y qX4_taxOn_28 rfl (fun _ => rfl) (by decide) rfl (by omega) (by decide) ?_
        refine J_iload_1 Y qX4_taxOn_29 ?_
        refine J_aloadr_0 Y qX4_taxOn_30 ?_
        refine J_getR Y qX4_taxOn_31 fX4_17 (by decide) ?_
        refine J_cV2B Y qX4_taxOn_34 mX4_33 iyX3_holds (by show _ < 10; omega) rfl (by decide) rfl (Nat.le_of_ble_eq_true rfl) (c_holds _ _ _ (by omega) hQi hki hf d1 d2) (fun h34 => ?_) (fun h34 => ?_)
        · refine J_eq1 Y qX4_taxOn_37 ?_
          refine J_aloadr_0 Y qX4_taxOn_40 ?_
          refine J_getR Y qX4_taxOn_41 fX4_11 (by decide) ?_
          refine J_iload_2 Y qX4_taxOn_44 ?_
          refine J_aaloadN (kx := i) Y qX4_taxOn_45 rfl (fun _ => rfl) (by decide) rfl (by omega) (by decide) ?_
          refine J_getI Y qX4_taxOn_46 fX4_26 (by show _ < 10; omega) ?_
          exact J_iret X qX4_taxOn_49 (RP_i (by rw [← h3, taxV, if_pos (by rw [cTx0, h34]; simp; omega)]))
        · refine J_eq0 Y qX4_taxOn_37 ?_
          refine J_iinc_2 Y qX4_taxOn_50 rfl ?_
          refine J_goto Y qX4_taxOn_53 ?_
          have ih9 := ih i (by omega) (by omega) (by
            rw [← h3, taxV, if_neg (by rw [cTx0]; first | (rw [decide_eq_false (by omega)]; simp; done) | (rw [ts_nt9 h34]; simp; done))])
          rw [show (i : Int) + -1 = (i : Int) - 1 by omega]
          exact ih9

theorem c_taxOn (l : Launch) (G : Gx) (M : Mem) {k : Nat} {day : Int} (hk : M 4 0 2 = (k : Int)) (k10 : k ≤ 10) (hQ : ∀ r, r < k → IvQ M r) (hf : ∀ j, j < 5 → 0 ≤ M 24 0 j ∧ M 24 0 j ≤ 13) (d1 : 0 ≤ day) (d2 : day ≤ 100000) : Ct l G 3 yX4_taxOn cX4_taxOn 3 ((Option.some Jvm.ClassFile.FieldType.int)) [rf G 4 0, vi day] M (RP M (taxV M day k)) := by
  refine Ct.of rfl (Nat.le_of_ble_eq_true rfl) rfl (fun E X => ?_)
  have Y := X.ok
  refine J_aloadr_0 Y qX4_taxOn_0 ?_
  refine J_getI Y qX4_taxOn_1 fX4_21 (by decide) ?_
  refine J_iconst Y qX4_taxOn_4 ?_
  refine J_isub Y qX4_taxOn_5 ?_
  refine J_istore_2 Y qX4_taxOn_6 rfl ?_
  rw [hk]
  exact lp_taxOn hk k10 hQ hf d1 d2 X (k + 1) k (by omega) (by omega) rfl

theorem c_quarrelOn (l : Launch) (G : Gx) (M : Mem) {k : Nat} {day : Int} (hk : M 4 0 2 = (k : Int)) (k10 : k ≤ 10) (hQ : ∀ r, r < k → IvQ M r) (hf : ∀ j, j < 5 → 0 ≤ M 24 0 j ∧ M 24 0 j ≤ 13) (d1 : 0 ≤ day) (d2 : day ≤ 100000) : Ct l G 4 yX4_quarrelOn cX4_quarrelOn 4 ((Option.some Jvm.ClassFile.FieldType.int)) [rf G 4 0, vi day] M (RP M (quaV M day k)) := by
  refine Ct.of rfl (Nat.le_of_ble_eq_true rfl) rfl (fun E X => ?_)
  have Y := X.ok
  have r1 := fstB_rng (cBan M day) k
  have r2 := fstB_rng (cTax M day) k
  refine J_aloadr_0 Y qX4_quarrelOn_0 ?_
  refine J_iload_1 Y qX4_quarrelOn_1 ?_
  refine J_cV1P Y qX4_quarrelOn_2 mX4_37 iyX4_leastBan (by decide) rfl (by decide) rfl (Nat.le_of_ble_eq_true rfl) (c_leastBan _ _ _ hk k10 hQ hf d1 d2) ?_
  refine J_istore_2 Y qX4_quarrelOn_5 rfl ?_
  refine J_aloadr_0 Y qX4_quarrelOn_6 ?_
  refine J_iload_1 Y qX4_quarrelOn_7 ?_
  refine J_cV1P Y qX4_quarrelOn_8 mX4_41 iyX4_leastTaxing (by decide) rfl (by decide) rfl (Nat.le_of_ble_eq_true rfl) (c_leastTaxing _ _ _ hk k10 hQ hf d1 d2) ?_
  refine J_istore_3 Y qX4_quarrelOn_11 rfl ?_
  refine J_iload_2 Y qX4_quarrelOn_12 ?_
  refine J_iconst Y qX4_quarrelOn_13 ?_
  refine J_icmp_eq Y qX4_quarrelOn_14 (by omega) (by omega) (by omega) (by omega) (fun h14 => ?_) (fun h14 => ?_)
  · refine J_iconst Y qX4_quarrelOn_22 ?_
    refine J_goto Y qX4_quarrelOn_23 ?_
    exact J_iret X qX4_quarrelOn_32 (RP_i (by rw [quaV]; first | rw [if_pos (by omega)] | rw [if_neg (by omega)]))
  · refine J_iload_3 Y qX4_quarrelOn_17 ?_
    refine J_iconst Y qX4_quarrelOn_18 ?_
    refine J_icmp_ne Y qX4_quarrelOn_19 (by omega) (by omega) (by omega) (by omega) (fun h19 => ?_) (fun h19 => ?_)
    · refine J_bipush Y qX4_quarrelOn_26 (by decide) ?_
      refine J_iload_2 Y qX4_quarrelOn_28 ?_
      refine J_imul Y qX4_quarrelOn_29 ?_
      refine J_iload_3 Y qX4_quarrelOn_30 ?_
      refine J_iadd Y qX4_quarrelOn_31 ?_
      exact J_iret X qX4_quarrelOn_32 (RP_i (by rw [quaV]; first | rw [if_pos (by omega)] | rw [if_neg (by omega)]))
    · refine J_iconst Y qX4_quarrelOn_22 ?_
      refine J_goto Y qX4_quarrelOn_23 ?_
      exact J_iret X qX4_quarrelOn_32 (RP_i (by rw [quaV]; first | rw [if_pos (by omega)] | rw [if_neg (by omega)]))

theorem c_state (l : Launch) (G : Gx) (M : Mem) {p s g : Nat} (hs : s < 14) : Ct l G 1 yX8_state cX8_state 4 ((Option.none : Option Jvm.ClassFile.FieldType)) [rf G 8 0, vi (p : Nat), vi (s : Nat), vi (g : Nat)] M (VF (staM M p s g)) := by
  refine Ct.of rfl (Nat.le_of_ble_eq_true rfl) rfl (fun E X => ?_)
  have Y := X.ok
  refine J_aloadr_0 Y qX8_state_0 ?_
  refine J_getR Y qX8_state_1 fX8_39 (by decide) ?_
  refine J_getR Y qX8_state_4 fX8_313 (by decide) ?_
  refine J_iconst Y qX8_state_7 ?_
  refine J_aloadr_0 Y qX8_state_8 ?_
  refine J_getR Y qX8_state_9 fX8_10 (by decide) ?_
  refine J_getR Y qX8_state_12 fX8_77 (by decide) ?_
  refine J_iload_2 Y qX8_state_15 ?_
  refine J_aaloadN (kx := s) Y qX8_state_16 rfl (fun _ => rfl) (by decide) rfl (by omega) (by decide) ?_
  refine J_getI Y qX8_state_17 fX8_105 (by show _ < 14; omega) ?_
  refine J_iastoreN (kx := 0) Y qX8_state_20 rfl (by decide) rfl (by decide) (by decide) ?_
  refine J_aloadr_0 Y qX8_state_21 ?_
  refine J_getR Y qX8_state_22 fX8_39 (by decide) ?_
  refine J_getR Y qX8_state_25 fX8_313 (by decide) ?_
  refine J_iconst Y qX8_state_28 ?_
  refine J_iload_2 Y qX8_state_29 ?_
  refine J_iastoreN (kx := 1) Y qX8_state_30 rfl (by decide) rfl (by decide) (by decide) ?_
  refine J_aloadr_0 Y qX8_state_31 ?_
  refine J_getR Y qX8_state_32 fX8_39 (by decide) ?_
  refine J_getR Y qX8_state_35 fX8_313 (by decide) ?_
  refine J_iconst Y qX8_state_38 ?_
  refine J_aloadr_0 Y qX8_state_39 ?_
  refine J_getR Y qX8_state_40 fX8_10 (by decide) ?_
  refine J_getR Y qX8_state_43 fX8_77 (by decide) ?_
  refine J_iload_2 Y qX8_state_46 ?_
  refine J_aaloadN (kx := s) Y qX8_state_47 rfl (fun _ => rfl) (by decide) rfl (by omega) (by decide) ?_
  refine J_getI Y qX8_state_48 fX8_108 (by show _ < 14; omega) ?_
  rw [show up (up M 24 0 0 (M 5 s 0)) 24 0 1 (s : Int) 5 s 1 = M 5 s 1 from by rw [up_ne (by omega), up_ne (by omega)]]
  refine J_iastoreN (kx := 2) Y qX8_state_51 rfl (by decide) rfl (by decide) (by decide) ?_
  refine J_aloadr_0 Y qX8_state_52 ?_
  refine J_getR Y qX8_state_53 fX8_39 (by decide) ?_
  refine J_getR Y qX8_state_56 fX8_313 (by decide) ?_
  refine J_iconst Y qX8_state_59 ?_
  refine J_iload_1 Y qX8_state_60 ?_
  refine J_iastoreN (kx := 3) Y qX8_state_61 rfl (by decide) rfl (by decide) (by decide) ?_
  refine J_aloadr_0 Y qX8_state_62 ?_
  refine J_getR Y qX8_state_63 fX8_39 (by decide) ?_
  refine J_getR Y qX8_state_66 fX8_313 (by decide) ?_
  refine J_iconst Y qX8_state_69 ?_
  refine J_iload_3 Y qX8_state_70 ?_
  refine J_iastoreN (kx := 4) Y qX8_state_71 rfl (by decide) rfl (by decide) (by decide) ?_
  exact J_vret X qX8_state_72 ⟨rfl, rfl⟩

theorem k_may (l : Launch) (G : Gx) (M : Mem) {n : Nat} {a b c : Int} (a1 : -2147483648 ≤ a) (a2 : a < 2147483648) (b1 : -2147483648 ≤ b) (b2 : b < 2147483648) (c1 : -2147483648 ≤ c) (c2 : c < 2147483648) (hI : Inv n M) (hn : n < 512)  : Ct l G 4 yX8_may cX8_may 5 ((Option.some Jvm.ClassFile.FieldType.int)) [rf G 8 0, vi a, vi b, vi c] M (RF (f_may M a b c).1 (f_may M a b c).2) := by
  refine Ct.of rfl (Nat.le_of_ble_eq_true rfl) rfl (fun E X => ?_)
  have Y := X.ok
  obtain ⟨c1, c2⟩ := hI.count
  obtain ⟨d1, d2⟩ := hI.day
  refine J_iload_1 Y qX8_may_0 ?_
  refine J_cS1B Y qX8_may_1 mX8_127 iyX8_isNoPerson rfl (by decide) rfl (Nat.le_of_ble_eq_true rfl) (c_isNoPerson _ _ _ (by omega) (by omega)) (fun h1 => ?_) (fun h1 => ?_)
  · refine J_ne1 Y qX8_may_4 ?_
    refine J_aloadr_0 Y qX8_may_25 ?_
    refine J_bipush Y qX8_may_26 (by decide) ?_
    refine J_cV1F Y qX8_may_28 mX8_66 iyX8_refused (by decide) rfl (by decide) rfl (Nat.le_of_ble_eq_true rfl) (c_refused (w := 3) _ _ _ (by decide) (by decide)) ?_
    exact J_iret X qX8_may_31 (RF_i (by
      unfold f_may
      try simp only [Int.toNat_natCast, hk]
      repeat (first | rw [if_pos (by omega)] | rw [if_neg (by omega)])
      try rfl))
  · refine J_ne0 Y qX8_may_4 ?_
    refine J_aloadr_0 Y qX8_may_7 ?_
    refine J_iload_2 Y qX8_may_8 ?_
    refine J_cV1B Y qX8_may_9 mX8_101 iyX8_isNoShop (by decide) rfl (by decide) rfl (Nat.le_of_ble_eq_true rfl) (c_isNoShop _ _ _ (by omega) (by omega) (by omega) (by omega)) (fun h9 => ?_) (fun h9 => ?_)
    · refine J_ne1 Y qX8_may_12 ?_
      refine J_aloadr_0 Y qX8_may_25 ?_
      refine J_bipush Y qX8_may_26 (by decide) ?_
      refine J_cV1F Y qX8_may_28 mX8_66 iyX8_refused (by decide) rfl (by decide) rfl (Nat.le_of_ble_eq_true rfl) (c_refused (w := 3) _ _ _ (by decide) (by decide)) ?_
      exact J_iret X qX8_may_31 (RF_i (by
        unfold f_may
        try simp only [Int.toNat_natCast, hk]
        repeat (first | rw [if_pos (by omega)] | rw [if_neg (by omega)])
        try rfl))
    · refine J_ne0 Y qX8_may_12 ?_
      refine J_iload_3 Y qX8_may_15 ?_
      refine J_iconst Y qX8_may_16 ?_
      refine J_bipush Y qX8_may_17 (by decide) ?_
      refine J_cS3B Y qX8_may_19 mX8_70 iyX8_isOutside rfl (by decide) rfl (Nat.le_of_ble_eq_true rfl) (c_isOutside _ _ _ (by omega) (by omega) (by omega) (by omega) (by omega) (by omega)) (fun h19 => ?_) (fun h19 => ?_)
      · refine J_eq1 Y qX8_may_22 ?_
        refine J_aloadr_0 Y qX8_may_25 ?_
        refine J_bipush Y qX8_may_26 (by decide) ?_
        refine J_cV1F Y qX8_may_28 mX8_66 iyX8_refused (by decide) rfl (by decide) rfl (Nat.le_of_ble_eq_true rfl) (c_refused (w := 3) _ _ _ (by decide) (by decide)) ?_
        exact J_iret X qX8_may_31 (RF_i (by
          unfold f_may
          try simp only [Int.toNat_natCast, hk]
          repeat (first | rw [if_pos (by omega)] | rw [if_neg (by omega)])
          try rfl))
      · refine J_eq0 Y qX8_may_22 ?_
        obtain ⟨p, rfl⟩ := nat_of (show 0 ≤ a by omega)
        obtain ⟨s, rfl⟩ := nat_of (show 0 ≤ b by omega)
        obtain ⟨g, rfl⟩ := nat_of (show 0 ≤ c by omega)
        have pr := hI.part (s := s) (p := p) (by omega) (by omega)
        obtain ⟨l1, l2, l3, l4⟩ := hI.lets (s := s) (by omega)
        obtain ⟨e1, e2, e3⟩ := hI.shopS (s := s) (by omega)
        obtain ⟨ru1, ru2⟩ := hI.rules
        obtain ⟨k, hk⟩ := nat_of ru1
        have nk : staM M p s g 4 0 2 = (k : Int) := by rw [staM_ne (by omega)]; exact hk
        have nQ : ∀ r, r < k → IvQ (staM M p s g) r := fun r hr => staM_Q (hI.rule (by omega))
        have nf := staM_f (M := M) (p := p) (s := s) (g := g) e1 e2 (by omega) (by omega) (by omega)
        have rr := fstB_rng (cBan (staM M p s g) (M 8 0 9)) k
        refine J_aloadr_0 Y qX8_may_32 ?_
        refine J_getR Y qX8_may_33 fX8_10 (by decide) ?_
        refine J_getR Y qX8_may_36 fX8_77 (by decide) ?_
        refine J_iload_2 Y qX8_may_39 ?_
        refine J_aaloadN (kx := s) Y qX8_may_40 rfl (fun _ => rfl) (by decide) rfl (by omega) (by decide) ?_
        refine J_astore_4 Y qX8_may_41 rfl ?_
        refine J_aloadr_4 Y qX8_may_43 ?_
        refine J_getR Y qX8_may_45 fX8_160 (by show _ < 14; omega) ?_
        refine J_iload_1 Y qX8_may_48 ?_
        refine J_ialoadN (kx := p) Y qX8_may_49 rfl (by show _ < 14; omega) rfl (by omega) (by decide) ?_
        refine J_if_ne Y qX8_may_50 (by omega) (by omega) (fun h50 => ?_) (fun h50 => ?_)
        · refine J_aloadr_0 Y qX8_may_64 ?_
          refine J_iload_1 Y qX8_may_65 ?_
          refine J_iload_2 Y qX8_may_66 ?_
          refine J_iload_3 Y qX8_may_67 ?_
          refine J_cV3W Y qX8_may_68 mX8_239 iyX8_state (by decide) rfl (by decide) rfl (Nat.le_of_ble_eq_true rfl) (c_state _ _ _ (by omega)) ?_
          refine J_aloadr_0 Y qX8_may_71 ?_
          refine J_getR Y qX8_may_72 fX8_39 (by decide) ?_
          refine J_aloadr_0 Y qX8_may_75 ?_
          refine J_getI Y qX8_may_76 fX8_61 (by decide) ?_
          rw [show staM M p s g 8 0 9 = M 8 0 9 from staM_ne (by omega)]
          refine J_cV1P Y qX8_may_79 mX8_242 iyX4_leastBan (by decide) rfl (by decide) rfl (Nat.le_of_ble_eq_true rfl) (c_leastBan _ _ _ nk (by omega) nQ nf (by omega) (by omega)) ?_
          refine J_iconst Y qX8_may_82 ?_
          refine J_icmp_ne Y qX8_may_83 (by omega) (by omega) (by omega) (by omega) (fun h83 => ?_) (fun h83 => ?_)
          · refine J_iconst Y qX8_may_90 ?_
            exact J_iret X qX8_may_91 (RF_i (by
              unfold f_may
              try simp only [Int.toNat_natCast, hk]
              repeat (first | rw [if_pos (by omega)] | rw [if_neg (by omega)])
              try rfl))
          · refine J_iconst Y qX8_may_86 ?_
            refine J_goto Y qX8_may_87 ?_
            exact J_iret X qX8_may_91 (RF_i (by
              unfold f_may
              try simp only [Int.toNat_natCast, hk]
              repeat (first | rw [if_pos (by omega)] | rw [if_neg (by omega)])
              try rfl))
        · refine J_aloadr_4 Y qX8_may_53 ?_
          refine J_getI Y qX8_may_55 fX8_111 (by show _ < 14; omega) ?_
          refine J_iload_1 Y qX8_may_58 ?_
          refine J_icmp_eq Y qX8_may_59 (by omega) (by omega) (by omega) (by omega) (fun h59 => ?_) (fun h59 => ?_)
          · refine J_aloadr_0 Y qX8_may_64 ?_
            refine J_iload_1 Y qX8_may_65 ?_
            refine J_iload_2 Y qX8_may_66 ?_
            refine J_iload_3 Y qX8_may_67 ?_
            refine J_cV3W Y qX8_may_68 mX8_239 iyX8_state (by decide) rfl (by decide) rfl (Nat.le_of_ble_eq_true rfl) (c_state _ _ _ (by omega)) ?_
            refine J_aloadr_0 Y qX8_may_71 ?_
            refine J_getR Y qX8_may_72 fX8_39 (by decide) ?_
            refine J_aloadr_0 Y qX8_may_75 ?_
            refine J_getI Y qX8_may_76 fX8_61 (by decide) ?_
            rw [show staM M p s g 8 0 9 = M 8 0 9 from staM_ne (by omega)]
            refine J_cV1P Y qX8_may_79 mX8_242 iyX4_leastBan (by decide) rfl (by decide) rfl (Nat.le_of_ble_eq_true rfl) (c_leastBan _ _ _ nk (by omega) nQ nf (by omega) (by omega)) ?_
            refine J_iconst Y qX8_may_82 ?_
            refine J_icmp_ne Y qX8_may_83 (by omega) (by omega) (by omega) (by omega) (fun h83 => ?_) (fun h83 => ?_)
            · refine J_iconst Y qX8_may_90 ?_
              exact J_iret X qX8_may_91 (RF_i (by
                unfold f_may
                try simp only [Int.toNat_natCast, hk]
                repeat (first | rw [if_pos (by omega)] | rw [if_neg (by omega)])
                try rfl))
            · refine J_iconst Y qX8_may_86 ?_
              refine J_goto Y qX8_may_87 ?_
              exact J_iret X qX8_may_91 (RF_i (by
                unfold f_may
                try simp only [Int.toNat_natCast, hk]
                repeat (first | rw [if_pos (by omega)] | rw [if_neg (by omega)])
                try rfl))
          · refine J_iconst Y qX8_may_62 ?_
            exact J_iret X qX8_may_63 (RF_i (by
              unfold f_may
              try simp only [Int.toNat_natCast, hk]
              repeat (first | rw [if_pos (by omega)] | rw [if_neg (by omega)])
              try rfl))

theorem k_why (l : Launch) (G : Gx) (M : Mem) {n : Nat} {a b c : Int} (a1 : -2147483648 ≤ a) (a2 : a < 2147483648) (b1 : -2147483648 ≤ b) (b2 : b < 2147483648) (c1 : -2147483648 ≤ c) (c2 : c < 2147483648) (hI : Inv n M) (hn : n < 512)  : Ct l G 5 yX8_why cX8_why 4 ((Option.some Jvm.ClassFile.FieldType.int)) [rf G 8 0, vi a, vi b, vi c] M (RF (f_why M a b c).1 (f_why M a b c).2) := by
  refine Ct.of rfl (Nat.le_of_ble_eq_true rfl) rfl (fun E X => ?_)
  have Y := X.ok
  obtain ⟨c1, c2⟩ := hI.count
  obtain ⟨d1, d2⟩ := hI.day
  refine J_iload_1 Y qX8_why_0 ?_
  refine J_cS1B Y qX8_why_1 mX8_137 iyX8_isNoPair rfl (by decide) rfl (Nat.le_of_ble_eq_true rfl) (c_isNoPair _ _ _ (by omega) (by omega)) (fun h1 => ?_) (fun h1 => ?_)
  · refine J_ne1 Y qX8_why_4 ?_
    refine J_aloadr_0 Y qX8_why_15 ?_
    refine J_bipush Y qX8_why_16 (by decide) ?_
    refine J_cV1F Y qX8_why_18 mX8_66 iyX8_refused (by decide) rfl (by decide) rfl (Nat.le_of_ble_eq_true rfl) (c_refused (w := 3) _ _ _ (by decide) (by decide)) ?_
    exact J_iret X qX8_why_21 (RF_i (by
      unfold f_why
      try simp only [Int.toNat_natCast, hk, hp, hg]
      repeat (first | rw [if_pos (by omega)] | rw [if_neg (by omega)])
      try rfl))
  · refine J_ne0 Y qX8_why_4 ?_
    refine J_aloadr_0 Y qX8_why_7 ?_
    refine J_iload_2 Y qX8_why_8 ?_
    refine J_cV1B Y qX8_why_9 mX8_101 iyX8_isNoShop (by decide) rfl (by decide) rfl (Nat.le_of_ble_eq_true rfl) (c_isNoShop _ _ _ (by omega) (by omega) (by omega) (by omega)) (fun h9 => ?_) (fun h9 => ?_)
    · refine J_eq1 Y qX8_why_12 ?_
      refine J_aloadr_0 Y qX8_why_15 ?_
      refine J_bipush Y qX8_why_16 (by decide) ?_
      refine J_cV1F Y qX8_why_18 mX8_66 iyX8_refused (by decide) rfl (by decide) rfl (Nat.le_of_ble_eq_true rfl) (c_refused (w := 3) _ _ _ (by decide) (by decide)) ?_
      exact J_iret X qX8_why_21 (RF_i (by
        unfold f_why
        try simp only [Int.toNat_natCast, hk, hp, hg]
        repeat (first | rw [if_pos (by omega)] | rw [if_neg (by omega)])
        try rfl))
    · refine J_eq0 Y qX8_why_12 ?_
      refine J_iload_3 Y qX8_why_22 ?_
      refine J_iconst Y qX8_why_23 ?_
      refine J_iconst Y qX8_why_24 ?_
      refine J_cS3B Y qX8_why_25 mX8_70 iyX8_isOutside rfl (by decide) rfl (Nat.le_of_ble_eq_true rfl) (c_isOutside _ _ _ (by omega) (by omega) (by omega) (by omega) (by omega) (by omega)) (fun h25 => ?_) (fun h25 => ?_)
      · refine J_eq1 Y qX8_why_28 ?_
        refine J_aloadr_0 Y qX8_why_31 ?_
        refine J_bipush Y qX8_why_32 (by decide) ?_
        refine J_cV1F Y qX8_why_34 mX8_66 iyX8_refused (by decide) rfl (by decide) rfl (Nat.le_of_ble_eq_true rfl) (c_refused (w := 7) _ _ _ (by decide) (by decide)) ?_
        exact J_iret X qX8_why_37 (RF_i (by
          unfold f_why
          try simp only [Int.toNat_natCast, hk, hp, hg]
          repeat (first | rw [if_pos (by omega)] | rw [if_neg (by omega)])
          try rfl))
      · refine J_eq0 Y qX8_why_28 ?_
        obtain ⟨s, rfl⟩ := nat_of (show 0 ≤ b by omega)
        obtain ⟨p, hp⟩ := nat_of (show 0 ≤ a / 10 by omega)
        obtain ⟨g, hg⟩ := nat_of (show 0 ≤ a % 10 by omega)
        obtain ⟨e1, e2, e3⟩ := hI.shopS (s := s) (by omega)
        obtain ⟨ru1, ru2⟩ := hI.rules
        obtain ⟨k, hk⟩ := nat_of ru1
        have nk : staM M p s g 4 0 2 = (k : Int) := by rw [staM_ne (by omega)]; exact hk
        have nQ : ∀ r, r < k → IvQ (staM M p s g) r := fun r hr => staM_Q (hI.rule (by omega))
        have nf := staM_f (M := M) (p := p) (s := s) (g := g) e1 e2 (by omega) (by omega) (by omega)
        refine J_aloadr_0 Y qX8_why_38 ?_
        refine J_iload_1 Y qX8_why_39 ?_
        refine J_bipush Y qX8_why_40 (by decide) ?_
        refine J_idiv Y qX8_why_42 (by omega) (by omega) (by omega) (by omega) ?_
        refine J_iload_2 Y qX8_why_43 ?_
        refine J_iload_1 Y qX8_why_44 ?_
        refine J_bipush Y qX8_why_45 (by decide) ?_
        refine J_irem Y qX8_why_47 (by omega) (by omega) (by omega) (by omega) ?_
        rw [hp, hg]
        refine J_cV3W Y qX8_why_48 mX8_239 iyX8_state (by decide) rfl (by decide) rfl (Nat.le_of_ble_eq_true rfl) (c_state _ _ _ (by omega)) ?_
        refine J_iload_3 Y qX8_why_51 ?_
        refine J_if_ne Y qX8_why_52 (by omega) (by omega) (fun h52 => ?_) (fun h52 => ?_)
        · refine J_iload_3 Y qX8_why_67 ?_
          refine J_iconst Y qX8_why_68 ?_
          refine J_icmp_ne Y qX8_why_69 (by omega) (by omega) (by omega) (by omega) (fun h69 => ?_) (fun h69 => ?_)
          · refine J_aloadr_0 Y qX8_why_86 ?_
            refine J_getR Y qX8_why_87 fX8_39 (by decide) ?_
            refine J_aloadr_0 Y qX8_why_90 ?_
            refine J_getI Y qX8_why_91 fX8_61 (by decide) ?_
            rw [show staM M p s g 8 0 9 = M 8 0 9 from staM_ne (by omega)]
            refine J_cV1P Y qX8_why_94 mX8_248 iyX4_quarrelOn (by decide) rfl (by decide) rfl (Nat.le_of_ble_eq_true rfl) (c_quarrelOn _ _ _ nk (by omega) nQ nf (by omega) (by omega)) ?_
            exact J_iret X qX8_why_97 (RF_i (by
              unfold f_why
              try simp only [Int.toNat_natCast, hk, hp, hg]
              repeat (first | rw [if_pos (by omega)] | rw [if_neg (by omega)])
              try rfl))
          · refine J_aloadr_0 Y qX8_why_72 ?_
            refine J_getR Y qX8_why_73 fX8_39 (by decide) ?_
            refine J_aloadr_0 Y qX8_why_76 ?_
            refine J_getI Y qX8_why_77 fX8_61 (by decide) ?_
            rw [show staM M p s g 8 0 9 = M 8 0 9 from staM_ne (by omega)]
            refine J_cV1P Y qX8_why_80 mX8_245 iyX4_taxOn (by decide) rfl (by decide) rfl (Nat.le_of_ble_eq_true rfl) (c_taxOn _ _ _ nk (by omega) nQ nf (by omega) (by omega)) ?_
            refine J_goto Y qX8_why_83 ?_
            exact J_iret X qX8_why_97 (RF_i (by
              unfold f_why
              try simp only [Int.toNat_natCast, hk, hp, hg]
              repeat (first | rw [if_pos (by omega)] | rw [if_neg (by omega)])
              try rfl))
        · refine J_aloadr_0 Y qX8_why_55 ?_
          refine J_getR Y qX8_why_56 fX8_39 (by decide) ?_
          refine J_aloadr_0 Y qX8_why_59 ?_
          refine J_getI Y qX8_why_60 fX8_61 (by decide) ?_
          rw [show staM M p s g 8 0 9 = M 8 0 9 from staM_ne (by omega)]
          refine J_cV1P Y qX8_why_63 mX8_242 iyX4_leastBan (by decide) rfl (by decide) rfl (Nat.le_of_ble_eq_true rfl) (c_leastBan _ _ _ nk (by omega) nQ nf (by omega) (by omega)) ?_
          exact J_iret X qX8_why_66 (RF_i (by
            unfold f_why
            try simp only [Int.toNat_natCast, hk, hp, hg]
            repeat (first | rw [if_pos (by omega)] | rw [if_neg (by omega)])
            try rfl))


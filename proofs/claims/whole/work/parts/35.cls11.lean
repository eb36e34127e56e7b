/-! ===== the class: plan ===== -/
theorem c_leastDays (l : Launch) (G : Gx) (M : Mem) {s : Nat} (hs : s < 64) (hd : ∀ a, a < 6 → 1 ≤ M 12 0 a ∧ M 12 0 a ≤ 9) (hT : ∀ a, a < 6 → 0 ≤ M 13 0 a ∧ M 13 0 a < 32) : Ct l G 30 yX1_leastDays cX1_leastDays 2 ((Option.some Jvm.ClassFile.FieldType.int)) [rf G 1 0, vi (s : Nat)] M (RI (fun z M2 => z = (plnB M s).1 ∧ PlE M2 (plnM M s))) := by
  refine Ct.of rfl (Nat.le_of_ble_eq_true rfl) rfl (fun E X => ?_)
  have Y := X.ok
  have hl := lau_eq X
  subst hl
  have pr := ctN_rng (fun a => s.testBit a) 6
  have pe : ctN (fun a => s.testBit a) 6 = (popN s : Int) := by unfold popN; omega
  refine J_aloadr_0 Y qX1_leastDays_0 ?_
  refine J_iload_1 Y qX1_leastDays_1 ?_
  refine J_cS1P Y qX1_leastDays_2 mX1_43 iyJ6_bitCount_0f7a4 rfl (by decide) rfl (Nat.le_of_ble_eq_true rfl) (c_bitCount _ _ _ hs) ?_
  rw [pe]
  refine J_putI Y qX1_leastDays_5 fX1_30w (by decide) ?_
  refine J_aloadr_0 Y qX1_leastDays_8 ?_
  refine J_ldc Y qX1_leastDays_9 kX1_49 ?_
  refine J_putI Y qX1_leastDays_11 fX1_34w (by decide) ?_
  rw [show up (up M 1 0 6 (popN s)) 1 0 7 1000000 = plM (up M 1 0 6 (popN s)) (M 14 0) (M 15 0) (M 16 0) (M 17 0) 1000000 from by
    unfold plM
    rw [show M 14 0 = up (up M 1 0 6 (popN s)) 1 0 7 1000000 14 0 from rfl, upR_self, show M 15 0 = up (up M 1 0 6 (popN s)) 1 0 7 1000000 15 0 from rfl, upR_self, show M 16 0 = up (up M 1 0 6 (popN s)) 1 0 7 1000000 16 0 from rfl, upR_self, show M 17 0 = up (up M 1 0 6 (popN s)) 1 0 7 1000000 17 0 from rfl, upR_self]]
  refine J_aloadr_0 Y qX1_leastDays_14 ?_
  refine J_iconst Y qX1_leastDays_15 ?_
  refine J_iload_1 Y qX1_leastDays_16 ?_
  refine J_iconst Y qX1_leastDays_17 ?_
  refine J_cV3V Y qX1_leastDays_18 mX1_50 iyX1_tryOrders (by decide) rfl (by omega) rfl (Nat.le_of_ble_eq_true rfl) (TO_all _ G (popN s) (up M 1 0 6 (popN s)) (M 14 0) (M 15 0) (M 16 0) (M 17 0) [] s 0 (1000000, []) ⟨fun i x hx => by simp at hx, okL_nil _, hd, hT, by simp [daysL], rfl, by omega, hs, pe, fun i x hx => by simp at hx, by decide, by decide⟩) (fun M2 h18 => ?_)
  rw [tryF_cong (N := up M 1 0 6 (popN s)) (M := M) (fun a => rfl) (fun a => rfl)] at h18
  obtain ⟨o2, b2, bo2, bb2, rfl, g1, g2⟩ := h18
  refine J_aloadr_0 Y qX1_leastDays_21 ?_
  refine J_getI Y qX1_leastDays_22 fX1_34 (by decide) ?_
  rw [plM_bd]
  exact J_iret X qX1_leastDays_25 ⟨_, rfl, rfl, plM_PlE (plnB_len hd hs) g2⟩

theorem k_plan (l : Launch) (G : Gx) (M : Mem) {n : Nat} {a : Int} (a1 : -2147483648 ≤ a) (a2 : a < 2147483648) (hI : Inv n M) (hn : n < 512)  : Ct l G 31 yX8_plan cX8_plan 2 ((Option.some Jvm.ClassFile.FieldType.int)) [rf G 8 0, vi a] M (RI (fun z M2 => z = (f_plan M a).1 ∧ PlE M2 (f_plan M a).2)) := by
  refine Ct.of rfl (Nat.le_of_ble_eq_true rfl) rfl (fun E X => ?_)
  have Y := X.ok
  obtain ⟨c1, c2⟩ := hI.count
  obtain ⟨d1, d2⟩ := hI.day
  refine J_iload_1 Y qX8_plan_0 ?_
  refine J_iconst Y qX8_plan_1 ?_
  refine J_bipush Y qX8_plan_2 (by decide) ?_
  refine J_cS3B Y qX8_plan_4 mX8_70 iyX8_isOutside rfl (by decide) rfl (Nat.le_of_ble_eq_true rfl) (c_isOutside _ _ _ (by omega) (by omega) (by omega) (by omega) (by omega) (by omega)) (fun h4 => ?_) (fun h4 => ?_)
  · refine J_eq1 Y qX8_plan_7 ?_
    refine J_aloadr_0 Y qX8_plan_10 ?_
    refine J_bipush Y qX8_plan_11 (by decide) ?_
    refine J_cV1F Y qX8_plan_13 mX8_66 iyX8_refused (by decide) rfl (by decide) rfl (Nat.le_of_ble_eq_true rfl) (c_refused (w := 3) _ _ _ (by decide) (by decide)) ?_
    exact J_iret X qX8_plan_16 ⟨_, rfl, by unfold f_plan; first | rw [if_pos (by omega)]; rfl | rw [if_neg (by omega), if_pos (by omega)]; rfl, by unfold f_plan; first | (rw [if_pos (by omega)]; exact fun _ _ _ _ _ _ _ => rfl) | (rw [if_neg (by omega), if_pos (by omega)]; exact fun _ _ _ _ _ _ _ => rfl)⟩
  · refine J_eq0 Y qX8_plan_7 ?_
    refine J_iload_1 Y qX8_plan_17 ?_
    refine J_if_ne Y qX8_plan_18 (by omega) (by omega) (fun h18 => ?_) (fun h18 => ?_)
    · obtain ⟨s, rfl⟩ := nat_of (show 0 ≤ a by omega)
      have hT : ∀ a, a < 6 → 0 ≤ M 13 0 a ∧ M 13 0 a < 32 := fun a ha => by
        obtain ⟨t1, t2⟩ := (hI.arch ha).2
        refine ⟨t1, ?_⟩
        have : (M 13 0 a).toNat < 2 ^ 5 := by
          apply Nat.lt_of_not_le
          intro hge
          obtain ⟨j, j1, j2⟩ := Nat.exists_ge_and_testBit_of_ge_two_pow hge
          obtain ⟨u, u1, u2, u3⟩ := (t2 j).mp j2
          have := (hI.shopS u1).1
          omega
        omega
      refine J_aloadr_0 Y qX8_plan_28 ?_
      refine J_getR Y qX8_plan_29 fX8_46 (by decide) ?_
      refine J_iload_1 Y qX8_plan_32 ?_
      refine J_cV1I Y qX8_plan_33 mX8_265 iyX1_leastDays (by decide) rfl (by decide) rfl (Nat.le_of_ble_eq_true rfl) (c_leastDays _ _ _ (by omega) (fun a ha => (hI.arch ha).1) hT) (fun z33 M2 h33 => ?_)
      obtain ⟨rfl, hp⟩ := h33
      exact J_iret X qX8_plan_36 ⟨_, rfl, by rw [f_plan, if_neg (by omega), if_neg (by omega)]; rfl, by rw [f_plan, if_neg (by omega), if_neg (by omega)]; exact hp⟩
    · refine J_aloadr_0 Y qX8_plan_21 ?_
      refine J_bipush Y qX8_plan_22 (by decide) ?_
      refine J_cV1F Y qX8_plan_24 mX8_66 iyX8_refused (by decide) rfl (by decide) rfl (Nat.le_of_ble_eq_true rfl) (c_refused (w := 7) _ _ _ (by decide) (by decide)) ?_
      exact J_iret X qX8_plan_27 ⟨_, rfl, by unfold f_plan; first | rw [if_pos (by omega)]; rfl | rw [if_neg (by omega), if_pos (by omega)]; rfl, by unfold f_plan; first | (rw [if_pos (by omega)]; exact fun _ _ _ _ _ _ _ => rfl) | (rw [if_neg (by omega), if_pos (by omega)]; exact fun _ _ _ _ _ _ _ => rfl)⟩


/-! ===== the class: deaths, sales, rents, repairs ===== -/
theorem lp_death {l : Launch} {G : Gx} {E : Fx} {M : Mem} {m p k : Nat} (hI : Inv m M) (hp : p < 10) (hk : M 7 p 2 = (k : Int)) (k1 : 1 ≤ k) (k4 : k ≤ 4) (hh : ∀ j : Nat, (j : Int) < M 7 p 2 → (0 ≤ M 30 p j ∧ M 30 p j ≤ 9) ∧ M 30 p j ≠ p ∧ 1 ≤ M 31 p j ∧ M 31 p j ≤ 9) {c : Nat} (hc : M 0 0 2 = (c : Int)) (c14 : c ≤ 14) (X : OkM l G E cX8_death RX8 6 4 (some .int) (RF (sumN (fun s => M 25 s p + M 26 s p) c) (dth M p c))) : ∀ (n i : Nat), ∀ x5 : Option Value, i ≤ c → c < i + n → J G E 40 [some (rf G 8 0), some (vi (p : Int)), some (rf G 7 p), some (vi (sumN (fun s => M 25 s p + M 26 s p) i)), some (vi (i : Int)), x5] [] (dth M p i) := by
  have Y := X.ok
  intro n
  induction n with
  | zero => intro i x5 h1 h2; exfalso; omega
  | succ n ih =>
    intro i x5 h1 h2
    refine J_iload_4 Y qX8_death_40 ?_
    refine J_aloadr_0 Y qX8_death_42 ?_
    refine J_getR Y qX8_death_43 fX8_10 (by decide) ?_
    refine J_getI Y qX8_death_46 fX8_74 (by decide) ?_
    rw [show dth M p i 0 0 2 = M 0 0 2 from dth_ne i (by omega)]
    refine J_icmp_ge Y qX8_death_49 (by omega) (by omega) (by omega) (by omega) (fun h49 => ?_) (fun h49 => ?_)
    · obtain rfl : i = c := by omega
      refine J_iload_3 Y qX8_death_122 ?_
      exact J_iret X qX8_death_123 ⟨rfl, rfl⟩
    · obtain ⟨N, hN⟩ : ∃ N, N = dth M p i := ⟨_, rfl⟩
      rw [← hN]
      have n7 : N 7 p 2 = (k : Int) := by rw [hN, dth_ne i (by omega)]; exact hk
      have n30 : ∀ j, N 30 p j = M 30 p j := fun j => by rw [hN, dth_ne i (by omega)]
      have n31 : ∀ j, N 31 p j = M 31 p j := fun j => by rw [hN, dth_ne i (by omega)]
      have n25 : ∀ j, N 25 i j = M 25 i j := fun j => by rw [hN, dth_ne i (by omega)]
      have n26 : ∀ j, N 26 i j = M 26 i j := fun j => by rw [hN, dth_ne i (by omega)]
      have n27 : ∀ j, N 27 i j = M 27 i j := fun j => by rw [hN, dth_ne i (by omega)]
      have n5 : ∀ j, N 5 i j = M 5 i j := fun j => by rw [hN, dth_ne i (by omega)]
      obtain ⟨w1, w2, w3⟩ := hI.pawns (s := i) (by omega)
      obtain ⟨kp, hkp⟩ := nat_of w1
      obtain ⟨l1, l2, l3, l4⟩ := hI.lets (s := i) (by omega)
      have pr := hI.part (s := i) (p := p) (by omega) (by omega)
      have hh9 : ∀ j, j < k → (0 ≤ N 30 p j ∧ N 30 p j ≤ 9) ∧ 1 ≤ N 31 p j ∧ N 31 p j ≤ 9 := fun j hj => by
        rw [n30, n31]
        have := hh j (by omega)
        exact ⟨this.1, this.2.2⟩
      refine J_aloadr_0 Y qX8_death_52 ?_
      refine J_getR Y qX8_death_53 fX8_10 (by decide) ?_
      refine J_getR Y qX8_death_56 fX8_77 (by decide) ?_
      refine J_iload_4 Y qX8_death_59 ?_
      refine J_aaloadN (kx := i) Y qX8_death_61 rfl (fun _ => rfl) (by decide) rfl (by omega) (by decide) ?_
      refine J_astore_5 Y qX8_death_62 rfl ?_
      refine J_iload_3 Y qX8_death_64 ?_
      refine J_aloadr_2 Y qX8_death_65 ?_
      refine J_iload_1 Y qX8_death_66 ?_
      refine J_aloadr_5 Y qX8_death_67 ?_
      refine J_getR Y qX8_death_69 fX8_153 (by show _ < 14; omega) ?_
      refine J_cV2F Y qX8_death_72 mX8_156 iyX7_passOn (by show _ < 10; omega) rfl (by decide) rfl (Nat.le_of_ble_eq_true rfl) (c_passOn25 _ _ _ (by omega) hp n7 k1 k4 hp hh9 (by rw [n25]; omega) (by rw [n25]; omega)) ?_
      rw [n25]
      refine J_iadd Y qX8_death_75 ?_
      refine J_istore_3 Y qX8_death_76 rfl ?_
      refine J_iload_3 Y qX8_death_77 ?_
      refine J_aloadr_2 Y qX8_death_78 ?_
      refine J_iload_1 Y qX8_death_79 ?_
      refine J_aloadr_5 Y qX8_death_80 ?_
      refine J_getR Y qX8_death_82 fX8_160 (by show _ < 14; omega) ?_
      refine J_cV2F Y qX8_death_85 mX8_156 iyX7_passOn (by show _ < 10; omega) rfl (by decide) rfl (Nat.le_of_ble_eq_true rfl) (c_passOn26 (k := k) _ _ _ (by omega) hp (by rw [upR_ne (by omega)]; exact n7) k1 k4 hp (fun j hj => by rw [upR_ne (by omega), upR_ne (by omega)]; exact hh9 j hj) (by rw [upR_ne (by omega), n26]; omega) (by rw [upR_ne (by omega), n26]; omega)) ?_
      rw [show (upR N 25 i (pasR (N 25 i) (N 30 p) (N 31 p) k p)) 26 i p = M 26 i p from by rw [upR_ne (by omega)]; exact n26 p, show (upR N 25 i (pasR (N 25 i) (N 30 p) (N 31 p) k p)) 26 i = N 26 i from funext (fun c => upR_ne (by omega)), show (upR N 25 i (pasR (N 25 i) (N 30 p) (N 31 p) k p)) 30 p = N 30 p from funext (fun c => upR_ne (by omega)), show (upR N 25 i (pasR (N 25 i) (N 30 p) (N 31 p) k p)) 31 p = N 31 p from funext (fun c => upR_ne (by omega))]
      refine J_iadd Y qX8_death_88 ?_
      refine J_istore_3 Y qX8_death_89 rfl ?_
      refine J_aloadr_5 Y qX8_death_90 ?_
      refine J_iload_1 Y qX8_death_92 ?_
      refine J_aloadr_2 Y qX8_death_93 ?_
      refine J_getR Y qX8_death_94 fX8_163 (by show _ < 10; omega) ?_
      refine J_iconst Y qX8_death_97 ?_
      refine J_ialoadN (kx := 0) Y qX8_death_98 rfl (by show _ < 10; omega) rfl (by decide) (by decide) ?_
      rw [show (upR (upR N 25 i (pasR (N 25 i) (N 30 p) (N 31 p) k p)) 26 i (pasR (N 26 i) (N 30 p) (N 31 p) k p)) 30 p 0 = N 30 p 0 from by rw [upR_ne (by omega), upR_ne (by omega)]]
      refine J_cV2W Y qX8_death_99 mX8_166 iyX5_passDebts (by show _ < 14; omega) rfl (by decide) rfl (Nat.le_of_ble_eq_true rfl) (c_passDebts (k := kp) _ _ _ (by omega) (by rw [upR_ne (by omega), upR_ne (by omega), n5]; exact hkp) (by omega) (fun j hj => by rw [upR_ne (by omega), upR_ne (by omega), n27]; exact (w3 j (by omega)).1) (by omega) (by omega)) ?_
      refine J_aloadr_5 Y qX8_death_102 ?_
      refine J_getI Y qX8_death_104 fX8_111 (by show _ < 14; omega) ?_
      rw [show psd (upR (upR N 25 i (pasR (N 25 i) (N 30 p) (N 31 p) k p)) 26 i (pasR (N 26 i) (N 30 p) (N 31 p) k p)) i kp p (N 30 p 0) 5 i 6 = M 5 i 6 from by rw [psd, upR_ne (by omega), upR_ne (by omega), upR_ne (by omega)]; exact n5 6]
      refine J_iload_1 Y qX8_death_107 ?_
      refine J_icmp_ne Y qX8_death_108 (by omega) (by omega) (by omega) (by omega) (fun h108 => ?_) (fun h108 => ?_)
      · first
          | (refine J_iinc_4 Y qX8_death_116 rfl ?_
             refine J_goto Y qX8_death_119 ?_
             have ih9 := ih (i + 1) (some (rf G 5 i)) (by omega) (by omega)
             rw [show dth M p (i + 1) = dthS N p i by rw [dth, ← hN]] at ih9
             unfold dthS at ih9
             simp only [n7, Int.toNat_natCast, show N 5 i 11 = (kp : Int) by rw [n5]; exact hkp] at ih9
             rw [if_pos (by rw [n5]; omega)] at ih9
             rw [show sumN (fun s => M 25 s p + M 26 s p) (i + 1) = sumN (fun s => M 25 s p + M 26 s p) i + M 25 i p + M 26 i p by rw [sumN]; omega] at ih9
             exact ih9)
          | (refine J_iinc_4 Y qX8_death_116 rfl ?_
             refine J_goto Y qX8_death_119 ?_
             have ih9 := ih (i + 1) (some (rf G 5 i)) (by omega) (by omega)
             rw [show dth M p (i + 1) = dthS N p i by rw [dth, ← hN]] at ih9
             unfold dthS at ih9
             simp only [n7, Int.toNat_natCast, show N 5 i 11 = (kp : Int) by rw [n5]; exact hkp] at ih9
             rw [if_neg (by rw [n5]; omega)] at ih9
             rw [show sumN (fun s => M 25 s p + M 26 s p) (i + 1) = sumN (fun s => M 25 s p + M 26 s p) i + M 25 i p + M 26 i p by rw [sumN]; omega] at ih9
             exact ih9)
      · refine J_aloadr_5 Y qX8_death_111 ?_
        refine J_cV0W Y qX8_death_113 mX8_169 iyX5_endLet (by show _ < 14; omega) rfl (by decide) rfl (Nat.le_of_ble_eq_true rfl) (c_endLet _ _ _ (by omega)) ?_
        first
          | (refine J_iinc_4 Y qX8_death_116 rfl ?_
             refine J_goto Y qX8_death_119 ?_
             have ih9 := ih (i + 1) (some (rf G 5 i)) (by omega) (by omega)
             rw [show dth M p (i + 1) = dthS N p i by rw [dth, ← hN]] at ih9
             unfold dthS at ih9
             simp only [n7, Int.toNat_natCast, show N 5 i 11 = (kp : Int) by rw [n5]; exact hkp] at ih9
             rw [if_pos (by rw [n5]; omega)] at ih9
             rw [show sumN (fun s => M 25 s p + M 26 s p) (i + 1) = sumN (fun s => M 25 s p + M 26 s p) i + M 25 i p + M 26 i p by rw [sumN]; omega] at ih9
             exact ih9)
          | (refine J_iinc_4 Y qX8_death_116 rfl ?_
             refine J_goto Y qX8_death_119 ?_
             have ih9 := ih (i + 1) (some (rf G 5 i)) (by omega) (by omega)
             rw [show dth M p (i + 1) = dthS N p i by rw [dth, ← hN]] at ih9
             unfold dthS at ih9
             simp only [n7, Int.toNat_natCast, show N 5 i 11 = (kp : Int) by rw [n5]; exact hkp] at ih9
             rw [if_neg (by rw [n5]; omega)] at ih9
             rw [show sumN (fun s => M 25 s p + M 26 s p) (i + 1) = sumN (fun s => M 25 s p + M 26 s p) i + M 25 i p + M 26 i p by rw [sumN]; omega] at ih9
             exact ih9)

theorem k_death (l : Launch) (G : Gx) (M : Mem) {n : Nat} {a : Int} (a1 : -2147483648 ≤ a) (a2 : a < 2147483648) (hI : Inv n M) (hn : n < 512)  : Ct l G 4 yX8_death cX8_death 6 ((Option.some Jvm.ClassFile.FieldType.int)) [rf G 8 0, vi a] M (RF (f_death M a).1 (f_death M a).2) := by
  refine Ct.of rfl (Nat.le_of_ble_eq_true rfl) rfl (fun E X => ?_)
  have Y := X.ok
  obtain ⟨c1, c2⟩ := hI.count
  obtain ⟨d1, d2⟩ := hI.day
  refine J_iload_1 Y qX8_death_0 ?_
  refine J_cS1B Y qX8_death_1 mX8_127 iyX8_isNoPerson rfl (by decide) rfl (Nat.le_of_ble_eq_true rfl) (c_isNoPerson _ _ _ (by omega) (by omega)) (fun h1 => ?_) (fun h1 => ?_)
  · refine J_eq1 Y qX8_death_4 ?_
    refine J_aloadr_0 Y qX8_death_7 ?_
    refine J_bipush Y qX8_death_8 (by decide) ?_
    refine J_cV1F Y qX8_death_10 mX8_66 iyX8_refused (by decide) rfl (by decide) rfl (Nat.le_of_ble_eq_true rfl) (c_refused (w := 3) _ _ _ (by decide) (by decide)) ?_
    exact J_iret X qX8_death_13 (RF_i (by
      unfold f_death
      try simp only [Int.toNat_natCast]
      repeat (first | rw [if_pos (by omega)] | rw [if_neg (by omega)])
      try rfl))
  · refine J_eq0 Y qX8_death_4 ?_
    obtain ⟨p, rfl⟩ := nat_of (show 0 ≤ a by omega)
    obtain ⟨q1, q2, q3⟩ := hI.heirs (p := p) (by omega)
    obtain ⟨k, hk⟩ := nat_of q1
    refine J_aloadr_0 Y qX8_death_14 ?_
    refine J_getR Y qX8_death_15 fX8_18 (by decide) ?_
    refine J_iload_1 Y qX8_death_18 ?_
    refine J_aaloadN (kx := p) Y qX8_death_19 rfl (fun _ => rfl) (by decide) rfl (by omega) (by decide) ?_
    refine J_astore_2 Y qX8_death_20 rfl ?_
    refine J_aloadr_2 Y qX8_death_21 ?_
    refine J_getI Y qX8_death_22 fX8_149 (by show _ < 10; omega) ?_
    refine J_if_ne Y qX8_death_25 (by omega) (by omega) (fun h25 => ?_) (fun h25 => ?_)
    · refine J_iconst Y qX8_death_35 ?_
      refine J_istore_3 Y qX8_death_36 rfl ?_
      refine J_iconst Y qX8_death_37 ?_
      refine J_istore_4 Y qX8_death_38 rfl ?_
      obtain ⟨c, hc⟩ := nat_of c1
      have e8 : f_death M (p : Int) = (sumN (fun s => M 25 s p + M 26 s p) c, dth M p c) := by
        unfold f_death
        simp only [hc, Int.toNat_natCast]
        rw [if_neg (by omega), if_neg (by omega)]
      rw [e8] at X
      exact lp_death hI (by omega) hk (by omega) (by omega) q3 hc (by omega) X (c + 1) 0 none (by omega) (by omega)
    · refine J_aloadr_0 Y qX8_death_28 ?_
      refine J_bipush Y qX8_death_29 (by decide) ?_
      refine J_cV1F Y qX8_death_31 mX8_66 iyX8_refused (by decide) rfl (by decide) rfl (Nat.le_of_ble_eq_true rfl) (c_refused (w := 2) _ _ _ (by decide) (by decide)) ?_
      exact J_iret X qX8_death_34 (RF_i (by
        unfold f_death
        try simp only [Int.toNat_natCast]
        repeat (first | rw [if_pos (by omega)] | rw [if_neg (by omega)])
        try rfl))

theorem lp_payDebts {l : Launch} {G : Gx} {E : Fx} {M : Mem} {s k : Nat} {price : Int} (hs : s < 14) (hk : M 5 s 11 = (k : Int)) (k8 : k ≤ 8) (w3 : ∀ j : Nat, j < k → (0 ≤ M 27 s j ∧ M 27 s j ≤ 9) ∧ 1 ≤ M 28 s j ∧ M 28 s j ≤ 9999) (h0 : 0 ≤ price) (hp9 : price ≤ 99999) (X : OkM l G E cX5_payDebts RX5 7 3 (some .int) (RF (pdS M s price k).1 (pdS M s price k).2.2)) : ∀ (n i : Nat), ∀ x6 : Option Value, i ≤ k → k < i + n → J G E 16 [some (rf G 5 s), some (vi price), some (rf G 2 0), some (vi (pdS M s price i).1), some (vi (k : Int)), some (vi (i : Int)), x6] [] (pdS M s price i).2.2 := by
  have Y := X.ok
  intro n
  induction n with
  | zero => intro i x6 h1 h2; exfalso; omega
  | succ n ih =>
    intro i x6 h1 h2
    obtain ⟨⟨t1, t2⟩, t3, t4, t5, t6⟩ := pdS_facts M s price h0 hp9 i (fun j hj => (w3 j (by omega)).2.1)
    refine J_iload_5 Y qX5_payDebts_16 ?_
    refine J_iload_4 Y qX5_payDebts_18 ?_
    refine J_icmp_ge Y qX5_payDebts_20 (by omega) (by omega) (by omega) (by omega) (fun h20 => ?_) (fun h20 => ?_)
    · obtain rfl : i = k := by omega
      refine J_iload_3 Y qX5_payDebts_94 ?_
      exact J_iret X qX5_payDebts_95 ⟨rfl, rfl⟩
    · have wi := w3 i (by omega)
      obtain ⟨ld, hld⟩ := nat_of (show 0 ≤ M 27 s i by omega)
      refine J_iload_3 Y qX5_payDebts_23 ?_
      refine J_aloadr_0 Y qX5_payDebts_24 ?_
      refine J_getR Y qX5_payDebts_25 fX5_43 (by show _ < 14; omega) ?_
      refine J_iload_5 Y qX5_payDebts_28 ?_
      refine J_ialoadN (kx := i) Y qX5_payDebts_30 rfl (by show _ < 14; omega) rfl (by omega) (by decide) ?_
      rw [(t5 i (Nat.le_refl i)).2]
      refine J_min Y qX5_payDebts_31 mX5_60 pmX5_60 iyJ9_min_7cf53 rfl (by omega) (Nat.le_of_ble_eq_true rfl) (by omega) (by omega) (by omega) (by omega) ?_
      refine J_istore_6 Y qX5_payDebts_34 rfl ?_
      refine J_aloadr_2 Y qX5_payDebts_36 ?_
      refine J_aloadr_0 Y qX5_payDebts_37 ?_
      refine J_getR Y qX5_payDebts_38 fX5_40 (by show _ < 14; omega) ?_
      refine J_iload_5 Y qX5_payDebts_41 ?_
      refine J_ialoadN (kx := i) Y qX5_payDebts_43 rfl (by show _ < 14; omega) rfl (by omega) (by decide) ?_
      rw [(t5 i (Nat.le_refl i)).1, hld]
      refine J_iload_6 Y qX5_payDebts_44 ?_
      refine J_i2l Y qX5_payDebts_46 (by omega) (by omega) ?_
      refine J_cV2W Y qX5_payDebts_47 mX5_66 iyX2_add (by decide) rfl (by decide) rfl (Nat.le_of_ble_eq_true rfl) (c_purseAdd _ _ _ (by omega)) ?_
      refine J_iload_3 Y qX5_payDebts_50 ?_
      refine J_iload_6 Y qX5_payDebts_51 ?_
      refine J_isub Y qX5_payDebts_53 ?_
      refine J_istore_3 Y qX5_payDebts_54 rfl ?_
      refine J_iload_6 Y qX5_payDebts_55 ?_
      refine J_aloadr_0 Y qX5_payDebts_57 ?_
      refine J_getR Y qX5_payDebts_58 fX5_43 (by show _ < 14; omega) ?_
      refine J_iload_5 Y qX5_payDebts_61 ?_
      refine J_ialoadN (kx := i) Y qX5_payDebts_63 rfl (by show _ < 14; omega) rfl (by omega) (by decide) ?_
      rw [show up (pdS M s price i).2.2 18 0 ld ((pdS M s price i).2.2 18 0 ld + (min (pdS M s price i).1 (M 28 s i))) 28 s i = M 28 s i from by rw [up_ne (by omega)]; exact (t5 i (Nat.le_refl i)).2]
      refine J_icmp_ge Y qX5_payDebts_64 (by omega) (by omega) (by omega) (by omega) (fun h64 => ?_) (fun h64 => ?_)
      · refine J_iinc_5 Y qX5_payDebts_88 rfl ?_
        refine J_goto Y qX5_payDebts_91 ?_
        have ih9 := fun x => ih (i + 1) x (by omega) (by omega)
        simp only [pdS, show (M 27 s i).toNat = ld by omega] at ih9
        first
          | (rw [if_pos (by omega)] at ih9; exact ih9 _)
          | (rw [if_neg (by omega)] at ih9; exact ih9 _)
      · refine J_aloadr_0 Y qX5_payDebts_67 ?_
        refine J_aloadr_0 Y qX5_payDebts_68 ?_
        refine J_getR Y qX5_payDebts_69 fX5_40 (by show _ < 14; omega) ?_
        refine J_iload_5 Y qX5_payDebts_72 ?_
        refine J_ialoadN (kx := i) Y qX5_payDebts_74 rfl (by show _ < 14; omega) rfl (by omega) (by decide) ?_
        rw [show up (pdS M s price i).2.2 18 0 ld ((pdS M s price i).2.2 18 0 ld + (min (pdS M s price i).1 (M 28 s i))) 27 s i = M 27 s i from by rw [up_ne (by omega)]; exact (t5 i (Nat.le_refl i)).1]
        refine J_aloadr_0 Y qX5_payDebts_75 ?_
        refine J_getR Y qX5_payDebts_76 fX5_43 (by show _ < 14; omega) ?_
        refine J_iload_5 Y qX5_payDebts_79 ?_
        refine J_ialoadN (kx := i) Y qX5_payDebts_81 rfl (by show _ < 14; omega) rfl (by omega) (by decide) ?_
        rw [show up (pdS M s price i).2.2 18 0 ld ((pdS M s price i).2.2 18 0 ld + (min (pdS M s price i).1 (M 28 s i))) 28 s i = M 28 s i from by rw [up_ne (by omega)]; exact (t5 i (Nat.le_refl i)).2]
        refine J_iload_6 Y qX5_payDebts_82 ?_
        refine J_isub Y qX5_payDebts_84 ?_
        refine J_cV2W Y qX5_payDebts_85 mX5_72 iyX5_addPawn (by show _ < 14; omega) rfl (by decide) rfl (Nat.le_of_ble_eq_true rfl) (c_addPawn (k := (pdS M s price i).2.1) _ _ _ (by omega) (by rw [up_ne (by omega)]; exact t4) (by omega)) ?_
        refine J_iinc_5 Y qX5_payDebts_88 rfl ?_
        refine J_goto Y qX5_payDebts_91 ?_
        have ih9 := fun x => ih (i + 1) x (by omega) (by omega)
        simp only [pdS, show (M 27 s i).toNat = ld by omega] at ih9
        first
          | (rw [if_pos (by omega)] at ih9; exact ih9 _)
          | (rw [if_neg (by omega)] at ih9; exact ih9 _)

theorem c_payDebts (l : Launch) (G : Gx) (M : Mem) {s k : Nat} {price : Int} (hs : s < 14) (hk : M 5 s 11 = (k : Int)) (k8 : k ≤ 8) (w3 : ∀ j : Nat, j < k → (0 ≤ M 27 s j ∧ M 27 s j ≤ 9) ∧ 1 ≤ M 28 s j ∧ M 28 s j ≤ 9999) (h0 : 0 ≤ price) (hp9 : price ≤ 99999) : Ct l G 3 yX5_payDebts cX5_payDebts 7 ((Option.some Jvm.ClassFile.FieldType.int)) [rf G 5 s, vi price, rf G 2 0] M (RF (pdS M s price k).1 (pdS M s price k).2.2) := by
  refine Ct.of rfl (Nat.le_of_ble_eq_true rfl) rfl (fun E X => ?_)
  have Y := X.ok
  refine J_iload_1 Y qX5_payDebts_0 ?_
  refine J_istore_3 Y qX5_payDebts_1 rfl ?_
  refine J_aloadr_0 Y qX5_payDebts_2 ?_
  refine J_getI Y qX5_payDebts_3 fX5_46 (by show _ < 14; omega) ?_
  rw [hk]
  refine J_istore_4 Y qX5_payDebts_6 rfl ?_
  refine J_aloadr_0 Y qX5_payDebts_8 ?_
  refine J_iconst Y qX5_payDebts_9 ?_
  refine J_putI Y qX5_payDebts_10 fX5_46w (by show _ < 14; omega) ?_
  refine J_iconst Y qX5_payDebts_13 ?_
  refine J_istore_5 Y qX5_payDebts_14 rfl ?_
  exact lp_payDebts hs hk k8 w3 h0 hp9 X (k + 1) 0 none (by omega) (by omega)

theorem k_sold (l : Launch) (G : Gx) (M : Mem) {n : Nat} {a b c : Int} (a1 : -2147483648 ≤ a) (a2 : a < 2147483648) (b1 : -2147483648 ≤ b) (b2 : b < 2147483648) (c1 : -2147483648 ≤ c) (c2 : c < 2147483648) (hI : Inv n M) (hn : n < 512)  : Ct l G 4 yX8_sold cX8_sold 6 ((Option.some Jvm.ClassFile.FieldType.int)) [rf G 8 0, vi a, vi b, vi c] M (RF (f_sold M a b c).1 (f_sold M a b c).2) := by
  refine Ct.of rfl (Nat.le_of_ble_eq_true rfl) rfl (fun E X => ?_)
  have Y := X.ok
  obtain ⟨c1, c2⟩ := hI.count
  obtain ⟨d1, d2⟩ := hI.day
  refine J_aloadr_0 Y qX8_sold_0 ?_
  refine J_iload_1 Y qX8_sold_1 ?_
  refine J_cV1B Y qX8_sold_2 mX8_101 iyX8_isNoShop (by decide) rfl (by decide) rfl (Nat.le_of_ble_eq_true rfl) (c_isNoShop _ _ _ (by omega) (by omega) (by omega) (by omega)) (fun h2 => ?_) (fun h2 => ?_)
  · refine J_ne1 Y qX8_sold_5 ?_
    refine J_aloadr_0 Y qX8_sold_15 ?_
    refine J_bipush Y qX8_sold_16 (by decide) ?_
    refine J_cV1F Y qX8_sold_18 mX8_66 iyX8_refused (by decide) rfl (by decide) rfl (Nat.le_of_ble_eq_true rfl) (c_refused (w := 3) _ _ _ (by decide) (by decide)) ?_
    exact J_iret X qX8_sold_21 (RF_i (by
      unfold f_sold
      try simp only [Int.toNat_natCast, hk]
      repeat (first | rw [if_pos (by omega)] | rw [if_neg (by omega)])
      try (first | rfl | (rw [soldM, hk]; rfl))))
  · refine J_ne0 Y qX8_sold_5 ?_
    refine J_iload_2 Y qX8_sold_8 ?_
    refine J_cS1B Y qX8_sold_9 mX8_127 iyX8_isNoPerson rfl (by decide) rfl (Nat.le_of_ble_eq_true rfl) (c_isNoPerson _ _ _ (by omega) (by omega)) (fun h9 => ?_) (fun h9 => ?_)
    · refine J_eq1 Y qX8_sold_12 ?_
      refine J_aloadr_0 Y qX8_sold_15 ?_
      refine J_bipush Y qX8_sold_16 (by decide) ?_
      refine J_cV1F Y qX8_sold_18 mX8_66 iyX8_refused (by decide) rfl (by decide) rfl (Nat.le_of_ble_eq_true rfl) (c_refused (w := 3) _ _ _ (by decide) (by decide)) ?_
      exact J_iret X qX8_sold_21 (RF_i (by
        unfold f_sold
        try simp only [Int.toNat_natCast, hk]
        repeat (first | rw [if_pos (by omega)] | rw [if_neg (by omega)])
        try (first | rfl | (rw [soldM, hk]; rfl))))
    · refine J_eq0 Y qX8_sold_12 ?_
      refine J_iload_3 Y qX8_sold_22 ?_
      refine J_iconst Y qX8_sold_23 ?_
      refine J_ldc Y qX8_sold_24 kX8_196 ?_
      refine J_cS3B Y qX8_sold_26 mX8_70 iyX8_isOutside rfl (by decide) rfl (Nat.le_of_ble_eq_true rfl) (c_isOutside _ _ _ (by omega) (by omega) (by omega) (by omega) (by omega) (by omega)) (fun h26 => ?_) (fun h26 => ?_)
      · refine J_eq1 Y qX8_sold_29 ?_
        refine J_aloadr_0 Y qX8_sold_32 ?_
        refine J_bipush Y qX8_sold_33 (by decide) ?_
        refine J_cV1F Y qX8_sold_35 mX8_66 iyX8_refused (by decide) rfl (by decide) rfl (Nat.le_of_ble_eq_true rfl) (c_refused (w := 7) _ _ _ (by decide) (by decide)) ?_
        exact J_iret X qX8_sold_38 (RF_i (by
          unfold f_sold
          try simp only [Int.toNat_natCast, hk]
          repeat (first | rw [if_pos (by omega)] | rw [if_neg (by omega)])
          try (first | rfl | (rw [soldM, hk]; rfl))))
      · refine J_eq0 Y qX8_sold_29 ?_
        obtain ⟨s, rfl⟩ := nat_of (show 0 ≤ a by omega)
        obtain ⟨p1, p2, p3⟩ := hI.pawns (s := s) (by omega)
        obtain ⟨k, hk⟩ := nat_of p1
        obtain ⟨p, rfl⟩ := nat_of (show 0 ≤ b by omega)
        obtain ⟨⟨t1, t2⟩, t3, t4, t5, t6⟩ := pdS_facts M s c (by omega) (by omega) k (fun j hj => (p3 j (by omega)).2.1)
        have pr := fun j (hj : j < 10) => (hI.part (s := s) (p := j) (by omega) hj).2
        refine J_aloadr_0 Y qX8_sold_39 ?_
        refine J_getR Y qX8_sold_40 fX8_10 (by decide) ?_
        refine J_getR Y qX8_sold_43 fX8_77 (by decide) ?_
        refine J_iload_1 Y qX8_sold_46 ?_
        refine J_aaloadN (kx := s) Y qX8_sold_47 rfl (fun _ => rfl) (by decide) rfl (by omega) (by decide) ?_
        refine J_astore_4 Y qX8_sold_48 rfl ?_
        refine J_aloadr_4 Y qX8_sold_50 ?_
        refine J_iload_3 Y qX8_sold_52 ?_
        refine J_aloadr_0 Y qX8_sold_53 ?_
        refine J_getR Y qX8_sold_54 fX8_25 (by decide) ?_
        refine J_cV2F Y qX8_sold_57 mX8_197 iyX5_payDebts (by show _ < 14; omega) rfl (by decide) rfl (Nat.le_of_ble_eq_true rfl) (c_payDebts _ _ _ (by omega) hk (by omega) (fun j hj => p3 j (by omega)) (by omega) (by omega)) ?_
        refine J_istore_5 Y qX8_sold_60 rfl ?_
        refine J_aloadr_0 Y qX8_sold_62 ?_
        refine J_getR Y qX8_sold_63 fX8_25 (by decide) ?_
        refine J_iload_5 Y qX8_sold_66 ?_
        refine J_aloadr_4 Y qX8_sold_68 ?_
        refine J_getR Y qX8_sold_70 fX8_160 (by show _ < 14; omega) ?_
        refine J_iconst Y qX8_sold_73 ?_
        refine J_cV3W Y qX8_sold_74 mX8_201 iyX2_part (by decide) rfl (by decide) rfl (Nat.le_of_ble_eq_true rfl) (c_part26 _ _ _ (by omega) (fun j hj => by rw [t6 26 s j (by decide) (by decide) (by decide) (by omega)]; exact pr j hj) (by omega) (by omega) (by omega) (by omega)) ?_
        refine J_aloadr_4 Y qX8_sold_77 ?_
        refine J_getR Y qX8_sold_79 fX8_160 (by show _ < 14; omega) ?_
        refine J_iload_2 Y qX8_sold_82 ?_
        refine J_cS2W Y qX8_sold_83 mX8_205 iyX8_giveAll rfl (by decide) rfl (Nat.le_of_ble_eq_true rfl) (c_giveAll26 _ _ _ (by omega) (by omega)) ?_
        refine J_iload_5 Y qX8_sold_86 ?_
        exact J_iret X qX8_sold_88 (RF_i (by
          unfold f_sold
          try simp only [Int.toNat_natCast, hk]
          repeat (first | rw [if_pos (by omega)] | rw [if_neg (by omega)])
          try (first | rfl | (rw [soldM, hk]; rfl))))

theorem c_rentsOf (l : Launch) (G : Gx) (M : Mem) {s : Nat} {days : Int} (hs : s < 14) (l1 : -1 ≤ M 5 s 6) (l2 : M 5 s 6 ≤ 9) (l4 : M 5 s 6 ≠ -1 → M 8 0 9 ≤ M 5 s 7 ∧ M 5 s 7 ≤ 100000 ∧ 0 ≤ M 5 s 8 ∧ M 5 s 8 ≤ 999) (d1 : 0 ≤ M 8 0 9) (hr : ∀ j, j < 10 → 0 ≤ M 26 s j ∧ M 26 s j ≤ 5040) (y1 : 1 ≤ days) (y2 : days ≤ 100) : Ct l G 4 yX8_rentsOf cX8_rentsOf 6 ((Option.some Jvm.ClassFile.FieldType.int)) [rf G 8 0, rf G 5 s, vi days] M (RF (rntV M s days) (rntM M s days)) := by
  refine Ct.of rfl (Nat.le_of_ble_eq_true rfl) rfl (fun E X => ?_)
  have Y := X.ok
  refine J_aloadr_1 Y qX8_rentsOf_0 ?_
  refine J_cV0B Y qX8_rentsOf_1 mX8_173 iyX5_isLet (by show _ < 14; omega) rfl (by decide) rfl (Nat.le_of_ble_eq_true rfl) (c_isLet _ _ _ (by omega) (by omega) (by omega)) (fun h1 => ?_) (fun h1 => ?_)
  · refine J_ne1 Y qX8_rentsOf_4 ?_
    obtain ⟨g1, g2, g3, g4⟩ := l4 (by omega)
    obtain ⟨st, hst⟩ := nat_of (show 0 ≤ M 5 s 6 by omega)
    refine J_aloadr_1 Y qX8_rentsOf_9 ?_
    refine J_getI Y qX8_rentsOf_10 fX8_114 (by show _ < 14; omega) ?_
    refine J_aloadr_0 Y qX8_rentsOf_13 ?_
    refine J_getI Y qX8_rentsOf_14 fX8_61 (by decide) ?_
    refine J_isub Y qX8_rentsOf_17 ?_
    refine J_iconst Y qX8_rentsOf_18 ?_
    refine J_iadd Y qX8_rentsOf_19 ?_
    refine J_istore_3 Y qX8_rentsOf_20 rfl ?_
    refine J_iload_2 Y qX8_rentsOf_21 ?_
    refine J_iload_3 Y qX8_rentsOf_22 ?_
    refine J_min Y qX8_rentsOf_23 mX8_140 pmX8_140 iyJ9_min_7cf53 rfl (by omega) (Nat.le_of_ble_eq_true rfl) (by omega) (by omega) (by omega) (by omega) ?_
    refine J_istore_4 Y qX8_rentsOf_26 rfl ?_
    refine J_aloadr_0 Y qX8_rentsOf_28 ?_
    refine J_getR Y qX8_rentsOf_29 fX8_25 (by decide) ?_
    refine J_aloadr_1 Y qX8_rentsOf_32 ?_
    refine J_getI Y qX8_rentsOf_33 fX8_111 (by show _ < 14; omega) ?_
    rw [hst]
    refine J_aloadr_1 Y qX8_rentsOf_36 ?_
    refine J_getI Y qX8_rentsOf_37 fX8_117 (by show _ < 14; omega) ?_
    refine J_i2l Y qX8_rentsOf_40 (by omega) (by omega) ?_
    refine J_lneg Y qX8_rentsOf_41 ?_
    refine J_iload_4 Y qX8_rentsOf_42 ?_
    refine J_i2l Y qX8_rentsOf_44 (by omega) (by omega) ?_
    refine J_lmul Y qX8_rentsOf_45 ?_
    refine J_cV2W Y qX8_rentsOf_46 mX8_316 iyX2_add (by decide) rfl (by decide) rfl (Nat.le_of_ble_eq_true rfl) (c_purseAdd _ _ _ (by omega)) ?_
    refine J_aloadr_0 Y qX8_rentsOf_49 ?_
    refine J_getR Y qX8_rentsOf_50 fX8_25 (by decide) ?_
    refine J_aloadr_1 Y qX8_rentsOf_53 ?_
    refine J_getI Y qX8_rentsOf_54 fX8_117 (by show _ < 14; omega) ?_
    rw [show (up M 18 0 st (M 18 0 st + -(M 5 s 8) * min days (M 5 s 7 - M 8 0 9 + 1))) 5 s 8 = M 5 s 8 from up_ne (by omega)]
    refine J_aloadr_1 Y qX8_rentsOf_57 ?_
    refine J_getR Y qX8_rentsOf_58 fX8_160 (by show _ < 14; omega) ?_
    refine J_iload_4 Y qX8_rentsOf_61 ?_
    refine J_cV3W Y qX8_rentsOf_63 mX8_201 iyX2_part (by decide) rfl (by decide) rfl (Nat.le_of_ble_eq_true rfl) (c_part26 _ _ _ hs (fun j hj => by rw [up_ne (by omega)]; exact hr j hj) (by omega) (by omega) (by omega) (by omega)) ?_
    refine J_aloadr_1 Y qX8_rentsOf_66 ?_
    refine J_getI Y qX8_rentsOf_67 fX8_117 (by show _ < 14; omega) ?_
    rw [show (prt (up M 18 0 st (M 18 0 st + -(M 5 s 8) * min days (M 5 s 7 - M 8 0 9 + 1))) 26 s (M 5 s 8) (min days (M 5 s 7 - M 8 0 9 + 1))) 5 s 8 = M 5 s 8 from by rw [prt_ne (by omega), up_ne (by omega)]]
    refine J_iload_4 Y qX8_rentsOf_70 ?_
    refine J_imul Y qX8_rentsOf_72 ?_
    refine J_istore_5 Y qX8_rentsOf_73 rfl ?_
    refine J_iload_3 Y qX8_rentsOf_75 ?_
    refine J_iload_2 Y qX8_rentsOf_76 ?_
    refine J_icmp_gt Y qX8_rentsOf_77 (by omega) (by omega) (by omega) (by omega) (fun h77 => ?_) (fun h77 => ?_)
    · refine J_iload_5 Y qX8_rentsOf_84 ?_
      exact J_iret X qX8_rentsOf_86 ⟨by rw [rntV, if_neg (by omega)], by
        unfold rntM
        rw [if_neg (by omega)]
        simp only [hst, Int.toNat_natCast]
        first
          | rw [if_pos (by omega)]
          | rw [if_neg (by omega)]⟩
    · refine J_aloadr_1 Y qX8_rentsOf_80 ?_
      refine J_cV0W Y qX8_rentsOf_81 mX8_169 iyX5_endLet (by show _ < 14; omega) rfl (by decide) rfl (Nat.le_of_ble_eq_true rfl) (c_endLet _ _ _ (by omega)) ?_
      refine J_iload_5 Y qX8_rentsOf_84 ?_
      exact J_iret X qX8_rentsOf_86 ⟨by rw [rntV, if_neg (by omega)], by
        unfold rntM
        rw [if_neg (by omega)]
        simp only [hst, Int.toNat_natCast]
        first
          | rw [if_pos (by omega)]
          | rw [if_neg (by omega)]⟩
  · refine J_ne0 Y qX8_rentsOf_4 ?_
    refine J_iconst Y qX8_rentsOf_7 ?_
    exact J_iret X qX8_rentsOf_8 ⟨by rw [rntV, if_pos (by omega)], by rw [rntM, if_pos (by omega)]⟩

theorem lp_run {l : Launch} {G : Gx} {E : Fx} {M : Mem} {m : Nat} {a : Int} (hI : Inv m M) (hm : m < 512) (a1 : 1 ≤ a) (a2 : a ≤ 100) {c : Nat} (hc : M 0 0 2 = (c : Int)) (c14 : c ≤ 14) (X : OkM l G E cX8_run RX8 4 5 (some .int) (RF (sumN (fun s => rntV M s a) c) (up (runM M a c) 8 0 9 (M 8 0 9 + a)))) : ∀ (n i : Nat), i ≤ c → c < i + n → J G E 32 [some (rf G 8 0), some (vi a), some (vi (sumN (fun s => rntV M s a) i)), some (vi (i : Int))] [] (runM M a i) := by
  have Y := X.ok
  intro n
  induction n with
  | zero => intro i h1 h2; exfalso; omega
  | succ n ih =>
    intro i h1 h2
    refine J_iload_3 Y qX8_run_32 ?_
    refine J_aloadr_0 Y qX8_run_33 ?_
    refine J_getR Y qX8_run_34 fX8_10 (by decide) ?_
    refine J_getI Y qX8_run_37 fX8_74 (by decide) ?_
    rw [show (runM M a i) 0 0 2 = M 0 0 2 from runM_ne (by omega) i (by omega)]
    refine J_icmp_ge Y qX8_run_40 (by omega) (by omega) (by omega) (by omega) (fun h40 => ?_) (fun h40 => ?_)
    · obtain rfl : i = c := by omega
      refine J_aloadr_0 Y qX8_run_66 ?_
      refine J_dup Y qX8_run_67 rfl ?_
      refine J_getI Y qX8_run_68 fX8_61 (by decide) ?_
      rw [show (runM M a i) 8 0 9 = M 8 0 9 from runM_ne (by omega) i (by omega)]
      refine J_iload_1 Y qX8_run_71 ?_
      refine J_iadd Y qX8_run_72 ?_
      refine J_putI Y qX8_run_73 fX8_61w (by decide) ?_
      refine J_iload_2 Y qX8_run_76 ?_
      exact J_iret X qX8_run_77 ⟨rfl, rfl⟩
    · obtain ⟨l1, l2, l3, l4⟩ := hI.lets (s := i) (by omega)
      have pr := fun j (hj : j < 10) => (hI.part (s := i) (p := j) (by omega) hj).2
      obtain ⟨d1, d2⟩ := hI.day
      have r5 : ∀ j, (runM M a i) 5 i j = M 5 i j := fun j => runM_ne (by omega) i (by omega)
      have r8 : (runM M a i) 8 0 9 = M 8 0 9 := runM_ne (by omega) i (by omega)
      have r26 : ∀ j, (runM M a i) 26 i j = M 26 i j := fun j => runM_ne (by omega) i (by omega)
      refine J_iload_2 Y qX8_run_43 ?_
      refine J_aloadr_0 Y qX8_run_44 ?_
      refine J_aloadr_0 Y qX8_run_45 ?_
      refine J_getR Y qX8_run_46 fX8_10 (by decide) ?_
      refine J_getR Y qX8_run_49 fX8_77 (by decide) ?_
      refine J_iload_3 Y qX8_run_52 ?_
      refine J_aaloadN (kx := i) Y qX8_run_53 rfl (fun _ => rfl) (by decide) rfl (by omega) (by decide) ?_
      refine J_iload_1 Y qX8_run_54 ?_
      refine J_cV2F Y qX8_run_55 mX8_251 iyX8_rentsOf (by decide) rfl (by decide) rfl (Nat.le_of_ble_eq_true rfl) (c_rentsOf _ _ _ (by omega) (by rw [r5]; omega) (by rw [r5]; omega) (by simp only [r5, r8]; exact l4) (by rw [r8]; omega) (fun j hj => by rw [r26]; exact pr j hj) a1 a2) ?_
      rw [show rntV (runM M a i) i a = rntV M i a from by simp only [rntV, r5, r8]]
      refine J_iadd Y qX8_run_58 ?_
      refine J_istore_2 Y qX8_run_59 rfl ?_
      refine J_iinc_3 Y qX8_run_60 rfl ?_
      refine J_goto Y qX8_run_63 ?_
      have ih9 := ih (i + 1) (by omega) (by omega)
      rw [show runM M a (i + 1) = rntM (runM M a i) i a from rfl, show sumN (fun s => rntV M s a) (i + 1) = sumN (fun s => rntV M s a) i + rntV M i a from rfl] at ih9
      exact ih9

theorem k_run (l : Launch) (G : Gx) (M : Mem) {n : Nat} {a : Int} (a1 : -2147483648 ≤ a) (a2 : a < 2147483648) (hI : Inv n M) (hn : n < 512)  : Ct l G 5 yX8_run cX8_run 4 ((Option.some Jvm.ClassFile.FieldType.int)) [rf G 8 0, vi a] M (RF (f_run M a).1 (f_run M a).2) := by
  refine Ct.of rfl (Nat.le_of_ble_eq_true rfl) rfl (fun E X => ?_)
  have Y := X.ok
  obtain ⟨c1, c2⟩ := hI.count
  obtain ⟨d1, d2⟩ := hI.day
  refine J_iload_1 Y qX8_run_0 ?_
  refine J_if_ge Y qX8_run_1 (by omega) (by omega) (fun h1 => ?_) (fun h1 => ?_)
  · refine J_iload_1 Y qX8_run_11 ?_
    refine J_iconst Y qX8_run_12 ?_
    refine J_bipush Y qX8_run_13 (by decide) ?_
    refine J_cS3B Y qX8_run_15 mX8_70 iyX8_isOutside rfl (by decide) rfl (Nat.le_of_ble_eq_true rfl) (c_isOutside _ _ _ (by omega) (by omega) (by omega) (by omega) (by omega) (by omega)) (fun h15 => ?_) (fun h15 => ?_)
    · refine J_eq1 Y qX8_run_18 ?_
      refine J_aloadr_0 Y qX8_run_21 ?_
      refine J_bipush Y qX8_run_22 (by decide) ?_
      refine J_cV1F Y qX8_run_24 mX8_66 iyX8_refused (by decide) rfl (by decide) rfl (Nat.le_of_ble_eq_true rfl) (c_refused (w := 7) _ _ _ (by decide) (by decide)) ?_
      exact J_iret X qX8_run_27 (RF_i (by
        unfold f_run
        try simp only [Int.toNat_natCast]
        repeat (first | rw [if_pos (by omega)] | rw [if_neg (by omega)])
        try rfl))
    · refine J_eq0 Y qX8_run_18 ?_
      refine J_iconst Y qX8_run_28 ?_
      refine J_istore_2 Y qX8_run_29 rfl ?_
      refine J_iconst Y qX8_run_30 ?_
      refine J_istore_3 Y qX8_run_31 rfl ?_
      obtain ⟨c, hc⟩ := nat_of c1
      have e8 : f_run M a = (sumN (fun s => rntV M s a) c, up (runM M a c) 8 0 9 (M 8 0 9 + a)) := by
        unfold f_run
        simp only [hc, Int.toNat_natCast]
        rw [if_neg (by omega), if_neg (by omega)]
      rw [e8] at X
      exact lp_run hI hn (by omega) (by omega) hc (by omega) X (c + 1) 0 (by omega) (by omega)
  · refine J_aloadr_0 Y qX8_run_4 ?_
    refine J_bipush Y qX8_run_5 (by decide) ?_
    refine J_cV1F Y qX8_run_7 mX8_66 iyX8_refused (by decide) rfl (by decide) rfl (Nat.le_of_ble_eq_true rfl) (c_refused (w := 4) _ _ _ (by decide) (by decide)) ?_
    exact J_iret X qX8_run_10 (RF_i (by
      unfold f_run
      try simp only [Int.toNat_natCast]
      repeat (first | rw [if_pos (by omega)] | rw [if_neg (by omega)])
      try rfl))

theorem c_charge (l : Launch) (G : Gx) (M : Mem) {s : Nat} {cost : Int} (hs : s < 14) (h25 : ∀ j, j < 10 → 0 ≤ M 25 s j ∧ M 25 s j ≤ 5040) (h26 : ∀ j, j < 10 → 0 ≤ M 26 s j ∧ M 26 s j ≤ 5040) (y1 : 0 ≤ cost) (y2 : cost ≤ 99999) : Ct l G 3 yX8_charge cX8_charge 4 ((Option.none : Option Jvm.ClassFile.FieldType)) [rf G 8 0, rf G 5 s, vi cost] M (VF (chgM M s cost)) := by
  refine Ct.of rfl (Nat.le_of_ble_eq_true rfl) rfl (fun E X => ?_)
  have Y := X.ok
  refine J_iload_2 Y qX8_charge_0 ?_
  refine J_iconst Y qX8_charge_1 ?_
  refine J_imul Y qX8_charge_2 ?_
  refine J_iconst Y qX8_charge_3 ?_
  refine J_idiv Y qX8_charge_4 (by omega) (by omega) (by omega) (by omega) ?_
  refine J_istore_3 Y qX8_charge_5 rfl ?_
  refine J_aloadr_0 Y qX8_charge_6 ?_
  refine J_getR Y qX8_charge_7 fX8_25 (by decide) ?_
  refine J_iload_3 Y qX8_charge_10 ?_
  refine J_aloadr_1 Y qX8_charge_11 ?_
  refine J_getR Y qX8_charge_12 fX8_153 (by show _ < 14; omega) ?_
  refine J_iconst Y qX8_charge_15 ?_
  refine J_cV3W Y qX8_charge_16 mX8_201 iyX2_part (by decide) rfl (by decide) rfl (Nat.le_of_ble_eq_true rfl) (c_part25 _ _ _ hs h25 (by omega) (by omega) (by omega) (by omega)) ?_
  refine J_aloadr_0 Y qX8_charge_19 ?_
  refine J_getR Y qX8_charge_20 fX8_25 (by decide) ?_
  refine J_iload_2 Y qX8_charge_23 ?_
  refine J_iload_3 Y qX8_charge_24 ?_
  refine J_isub Y qX8_charge_25 ?_
  refine J_aloadr_1 Y qX8_charge_26 ?_
  refine J_getR Y qX8_charge_27 fX8_160 (by show _ < 14; omega) ?_
  refine J_iconst Y qX8_charge_30 ?_
  refine J_cV3W Y qX8_charge_31 mX8_201 iyX2_part (by decide) rfl (by decide) rfl (Nat.le_of_ble_eq_true rfl) (c_part26 _ _ _ hs (fun j hj => by rw [prt_ne (by omega)]; exact h26 j hj) (by omega) (by omega) (by omega) (by omega)) ?_
  exact J_vret X qX8_charge_34 ⟨rfl, rfl⟩

theorem lp_shopsUnder {l : Launch} {G : Gx} {E : Fx} {d : Nat} {M : Mem} {k m : Nat} {a : Int} (hI : Inv m M) (hk : M 0 0 2 = (k : Int)) (hk8 : k ≤ 14) (a1 : 0 ≤ a) (a2 : a ≤ 5) (X : OkM l G E cX0_shopsUnder RX0 4 d (some .int) (RP M (undN M a k))) : ∀ (n i : Nat), i ≤ k → k < i + n → J G E 4 [some (rf G 0 0), some (vi a), some (vi (undN M a i)), some (vi (i : Int))] [] M := by
  have Y := X.ok
  intro n
  induction n with
  | zero => intro i h1 h2; exfalso; omega
  | succ n ih =>
    intro i h1 h2
    refine J_iload_3 Y qX0_shopsUnder_4 ?_
    refine J_aloadr_0 Y qX0_shopsUnder_5 ?_
    refine J_getI Y qX0_shopsUnder_6 fX0_21 (by decide) ?_
    refine J_icmp_ge Y qX0_shopsUnder_9 (by omega) (by omega) (by omega) (by omega) (fun h9 => ?_) (fun h9 => ?_)
    · obtain rfl : i = k := by omega
      refine J_iload_2 Y qX0_shopsUnder_34 ?_
      exact J_iret X qX0_shopsUnder_35 (RP_i rfl)
    · obtain ⟨e1, e2, e3⟩ := hI.shopS (s := i) (by omega)
      refine J_aloadr_0 Y qX0_shopsUnder_12 ?_
      refine J_getR Y qX0_shopsUnder_13 fX0_11 (by decide) ?_
      refine J_iload_3 Y qX0_shopsUnder_16 ?_
      refine J_aaloadN (kx := i) Y qX0_shopsUnder_17 rfl (fun _ => rfl) (by decide) rfl (by omega) (by decide) ?_
      refine J_getI Y qX0_shopsUnder_18 fX0_35 (by show _ < 14; omega) ?_
      refine J_iload_1 Y qX0_shopsUnder_21 ?_
      refine J_icmp_ne Y qX0_shopsUnder_22 (by omega) (by omega) (by omega) (by omega) (fun h22 => ?_) (fun h22 => ?_)
      · refine J_iinc_3 Y qX0_shopsUnder_28 rfl ?_
        refine J_goto Y qX0_shopsUnder_31 ?_
        have ih9 := ih (i + 1) (by omega) (by omega)
        unfold undN at ih9 ⊢
        first
          | (rw [ctN, if_pos (by simpa using h22)] at ih9; exact ih9)
          | (rw [ctN, if_neg (by simpa using h22), Int.add_zero] at ih9; exact ih9)
      · refine J_iinc_2 Y qX0_shopsUnder_25 rfl ?_
        refine J_iinc_3 Y qX0_shopsUnder_28 rfl ?_
        refine J_goto Y qX0_shopsUnder_31 ?_
        have ih9 := ih (i + 1) (by omega) (by omega)
        unfold undN at ih9 ⊢
        first
          | (rw [ctN, if_pos (by simpa using h22)] at ih9; exact ih9)
          | (rw [ctN, if_neg (by simpa using h22), Int.add_zero] at ih9; exact ih9)

theorem c_shopsUnder (l : Launch) (G : Gx) (M : Mem) {k m : Nat} {a : Int} (hI : Inv m M) (hk : M 0 0 2 = (k : Int)) (hk8 : k ≤ 14) (a1 : 0 ≤ a) (a2 : a ≤ 5) : Ct l G 1 yX0_shopsUnder cX0_shopsUnder 4 ((Option.some Jvm.ClassFile.FieldType.int)) [rf G 0 0, vi a] M (RP M (undN M a k)) := by
  refine Ct.of rfl (Nat.le_of_ble_eq_true rfl) rfl (fun E X => ?_)
  have Y := X.ok
  refine J_iconst Y qX0_shopsUnder_0 ?_
  refine J_istore_2 Y qX0_shopsUnder_1 rfl ?_
  refine J_iconst Y qX0_shopsUnder_2 ?_
  refine J_istore_3 Y qX0_shopsUnder_3 rfl ?_
  exact lp_shopsUnder hI hk hk8 a1 a2 X (k + 1) 0 (by omega) (by omega)

theorem repM_rng {M : Mem} {a e lf : Int} (h0 : 0 ≤ lf) : ∀ i : Nat, 0 ≤ (repM M a e lf i).1 ∧ (repM M a e lf i).1 ≤ lf
  | 0 => ⟨h0, Int.le_refl _⟩
  | i + 1 => by
    simp only [repM]
    split
    · exact ⟨Int.le_refl _, h0⟩
    · exact repM_rng h0 i
theorem div_left {b u : Int} (hb : 0 ≤ b) (hu : 1 ≤ u) : 0 ≤ b / u ∧ 0 ≤ b - b / u * u ∧ b / u + (b - b / u * u) ≤ b := by
  have h1 : 0 ≤ b / u := Int.ediv_nonneg hb (by omega)
  have h2 : b / u * u ≤ b := Int.ediv_mul_le b (by omega)
  have h3 : b / u * 1 ≤ b / u * u := Int.mul_le_mul_of_nonneg_left hu h1
  omega

theorem lp_repair {l : Launch} {G : Gx} {E : Fx} {M : Mem} {m : Nat} {a b e lf u : Int} (hI : Inv m M) (a1 : 0 ≤ a) (a2 : a ≤ 5) (e1 : 0 ≤ e) (f1 : 0 ≤ lf) (ef : e + lf ≤ 99999) {c : Nat} (hc : M 0 0 2 = (c : Int)) (c14 : c ≤ 14) (X : OkM l G E cX8_repair RX8 7 4 (some .int) (RF u (repM M a e lf c).2)) : ∀ (n i : Nat), i ≤ c → c < i + n → J G E 69 [some (rf G 8 0), some (vi a), some (vi b), some (vi u), some (vi e), some (vi (repM M a e lf i).1), some (vi (i : Int))] [] (repM M a e lf i).2 := by
  have Y := X.ok
  intro n
  induction n with
  | zero => intro i h1 h2; exfalso; omega
  | succ n ih =>
    intro i h1 h2
    have rr := repM_rng (M := M) (a := a) (e := e) (lf := lf) f1 i
    refine J_iload_6 Y qX8_repair_69 ?_
    refine J_aloadr_0 Y qX8_repair_71 ?_
    refine J_getR Y qX8_repair_72 fX8_10 (by decide) ?_
    refine J_getI Y qX8_repair_75 fX8_74 (by decide) ?_
    rw [show (repM M a e lf i).2 0 0 2 = M 0 0 2 from repM_ne (by omega) i]
    refine J_icmp_ge Y qX8_repair_78 (by omega) (by omega) (by omega) (by omega) (fun h78 => ?_) (fun h78 => ?_)
    · obtain rfl : i = c := by omega
      refine J_iload_3 Y qX8_repair_126 ?_
      exact J_iret X qX8_repair_127 ⟨rfl, rfl⟩
    · obtain ⟨g1, g2, g3⟩ := hI.shopS (s := i) (by omega)
      have pr := fun j (hj : j < 10) => hI.part (s := i) (p := j) (by omega) hj
      refine J_aloadr_0 Y qX8_repair_81 ?_
      refine J_getR Y qX8_repair_82 fX8_10 (by decide) ?_
      refine J_getR Y qX8_repair_85 fX8_77 (by decide) ?_
      refine J_iload_6 Y qX8_repair_88 ?_
      refine J_aaloadN (kx := i) Y qX8_repair_90 rfl (fun _ => rfl) (by decide) rfl (by omega) (by decide) ?_
      refine J_getI Y qX8_repair_91 fX8_108 (by show _ < 14; omega) ?_
      rw [show (repM M a e lf i).2 5 i 1 = M 5 i 1 from repM_ne (by omega) i]
      refine J_iload_1 Y qX8_repair_94 ?_
      refine J_icmp_ne Y qX8_repair_95 (by omega) (by omega) (by omega) (by omega) (fun h95 => ?_) (fun h95 => ?_)
      · refine J_iinc_6 Y qX8_repair_120 rfl ?_
        refine J_goto Y qX8_repair_123 ?_
        have ih9 := ih (i + 1) (by omega) (by omega)
        simp only [repM] at ih9
        first
          | (rw [if_pos (by omega)] at ih9; exact ih9)
          | (rw [if_neg (by omega)] at ih9; exact ih9)
      · refine J_aloadr_0 Y qX8_repair_98 ?_
        refine J_aloadr_0 Y qX8_repair_99 ?_
        refine J_getR Y qX8_repair_100 fX8_10 (by decide) ?_
        refine J_getR Y qX8_repair_103 fX8_77 (by decide) ?_
        refine J_iload_6 Y qX8_repair_106 ?_
        refine J_aaloadN (kx := i) Y qX8_repair_108 rfl (fun _ => rfl) (by decide) rfl (by omega) (by decide) ?_
        refine J_iload_4 Y qX8_repair_109 ?_
        refine J_iload_5 Y qX8_repair_111 ?_
        refine J_iadd Y qX8_repair_113 ?_
        refine J_cV2W Y qX8_repair_114 mX8_258 iyX8_charge (by decide) rfl (by decide) rfl (Nat.le_of_ble_eq_true rfl) (c_charge _ _ _ (by omega) (fun j hj => by rw [repM_ne (by omega)]; exact (pr j hj).1) (fun j hj => by rw [repM_ne (by omega)]; exact (pr j hj).2) (by omega) (by omega)) ?_
        refine J_iconst Y qX8_repair_117 ?_
        refine J_istore_5 Y qX8_repair_118 rfl ?_
        refine J_iinc_6 Y qX8_repair_120 rfl ?_
        refine J_goto Y qX8_repair_123 ?_
        have ih9 := ih (i + 1) (by omega) (by omega)
        simp only [repM] at ih9
        first
          | (rw [if_pos (by omega)] at ih9; exact ih9)
          | (rw [if_neg (by omega)] at ih9; exact ih9)

theorem k_repair (l : Launch) (G : Gx) (M : Mem) {n : Nat} {a b : Int} (a1 : -2147483648 ≤ a) (a2 : a < 2147483648) (b1 : -2147483648 ≤ b) (b2 : b < 2147483648) (hI : Inv n M) (hn : n < 512)  : Ct l G 4 yX8_repair cX8_repair 7 ((Option.some Jvm.ClassFile.FieldType.int)) [rf G 8 0, vi a, vi b] M (RF (f_repair M a b).1 (f_repair M a b).2) := by
  refine Ct.of rfl (Nat.le_of_ble_eq_true rfl) rfl (fun E X => ?_)
  have Y := X.ok
  obtain ⟨c1, c2⟩ := hI.count
  obtain ⟨d1, d2⟩ := hI.day
  obtain ⟨c, hc⟩ := nat_of c1
  have ur := ctN_rng (fun s => decide (M 5 s 1 = a)) c
  rw [show ctN (fun s => decide (M 5 s 1 = a)) c = undN M a c from rfl] at ur
  refine J_iload_1 Y qX8_repair_0 ?_
  refine J_iconst Y qX8_repair_1 ?_
  refine J_iconst Y qX8_repair_2 ?_
  refine J_cS3B Y qX8_repair_3 mX8_70 iyX8_isOutside rfl (by decide) rfl (Nat.le_of_ble_eq_true rfl) (c_isOutside _ _ _ (by omega) (by omega) (by omega) (by omega) (by omega) (by omega)) (fun h3 => ?_) (fun h3 => ?_)
  · refine J_eq1 Y qX8_repair_6 ?_
    refine J_aloadr_0 Y qX8_repair_9 ?_
    refine J_bipush Y qX8_repair_10 (by decide) ?_
    refine J_cV1F Y qX8_repair_12 mX8_66 iyX8_refused (by decide) rfl (by decide) rfl (Nat.le_of_ble_eq_true rfl) (c_refused (w := 3) _ _ _ (by decide) (by decide)) ?_
    exact J_iret X qX8_repair_15 (RF_i (by
      unfold f_repair
      try simp only [Int.toNat_natCast, hc]
      repeat (first | rw [if_pos (by omega)] | rw [if_neg (by omega)])
      try rfl))
  · refine J_eq0 Y qX8_repair_6 ?_
    refine J_iload_2 Y qX8_repair_16 ?_
    refine J_iconst Y qX8_repair_17 ?_
    refine J_ldc Y qX8_repair_18 kX8_196 ?_
    refine J_cS3B Y qX8_repair_20 mX8_70 iyX8_isOutside rfl (by decide) rfl (Nat.le_of_ble_eq_true rfl) (c_isOutside _ _ _ (by omega) (by omega) (by omega) (by omega) (by omega) (by omega)) (fun h20 => ?_) (fun h20 => ?_)
    · refine J_eq1 Y qX8_repair_23 ?_
      refine J_aloadr_0 Y qX8_repair_26 ?_
      refine J_bipush Y qX8_repair_27 (by decide) ?_
      refine J_cV1F Y qX8_repair_29 mX8_66 iyX8_refused (by decide) rfl (by decide) rfl (Nat.le_of_ble_eq_true rfl) (c_refused (w := 7) _ _ _ (by decide) (by decide)) ?_
      exact J_iret X qX8_repair_32 (RF_i (by
        unfold f_repair
        try simp only [Int.toNat_natCast, hc]
        repeat (first | rw [if_pos (by omega)] | rw [if_neg (by omega)])
        try rfl))
    · refine J_eq0 Y qX8_repair_23 ?_
      refine J_aloadr_0 Y qX8_repair_33 ?_
      refine J_getR Y qX8_repair_34 fX8_10 (by decide) ?_
      refine J_iload_1 Y qX8_repair_37 ?_
      refine J_cV1P Y qX8_repair_38 mX8_255 iyX0_shopsUnder (by decide) rfl (by decide) rfl (Nat.le_of_ble_eq_true rfl) (c_shopsUnder _ _ _ hI hc (by omega) (by omega) (by omega)) ?_
      refine J_istore_3 Y qX8_repair_41 rfl ?_
      refine J_iload_3 Y qX8_repair_42 ?_
      refine J_if_ne Y qX8_repair_43 (by omega) (by omega) (fun h43 => ?_) (fun h43 => ?_)
      · have dl := div_left (b := b) (u := undN M a c) (by omega) (by omega)
        refine J_iload_2 Y qX8_repair_53 ?_
        refine J_iload_3 Y qX8_repair_54 ?_
        refine J_idiv Y qX8_repair_55 (by omega) (by omega) (by omega) (by omega) ?_
        refine J_istore_4 Y qX8_repair_56 rfl ?_
        refine J_iload_2 Y qX8_repair_58 ?_
        refine J_iload_4 Y qX8_repair_59 ?_
        refine J_iload_3 Y qX8_repair_61 ?_
        refine J_imul Y qX8_repair_62 ?_
        refine J_isub Y qX8_repair_63 ?_
        refine J_istore_5 Y qX8_repair_64 rfl ?_
        refine J_iconst Y qX8_repair_66 ?_
        refine J_istore_6 Y qX8_repair_67 rfl ?_
        have e8 : f_repair M a b = (undN M a c, (repM M a (b / undN M a c) (b - b / undN M a c * undN M a c) c).2) := by
          unfold f_repair
          simp only [hc, Int.toNat_natCast]
          rw [if_neg (by omega), if_neg (by omega), if_neg (by omega)]
        rw [e8] at X
        exact lp_repair hI (by omega) (by omega) dl.1 dl.2.1 (by omega) hc (by omega) X (c + 1) 0 (by omega) (by omega)
      · refine J_aloadr_0 Y qX8_repair_46 ?_
        refine J_bipush Y qX8_repair_47 (by decide) ?_
        refine J_cV1F Y qX8_repair_49 mX8_66 iyX8_refused (by decide) rfl (by decide) rfl (Nat.le_of_ble_eq_true rfl) (c_refused (w := 2) _ _ _ (by decide) (by decide)) ?_
        exact J_iret X qX8_repair_52 (RF_i (by
          unfold f_repair
          try simp only [Int.toNat_natCast, hc]
          repeat (first | rw [if_pos (by omega)] | rw [if_neg (by omega)])
          try rfl))


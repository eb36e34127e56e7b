/-! ===== the reference: what is lost ===== -/
theorem lp_mlost {l : Launch} {G : Gx} {E : Fx} {M : Mem} {A : Mem} {m c : Nat} (hI : Inv m A) (hM : MR A M) (hc : A 0 0 2 = (c : Int)) (c14 : c ≤ 14) {fr op : Nat} {mi : Int} (hfr : fr < c) (hop : op < 16384) (mi1 : 0 ≤ mi) (mi2 : mi ≤ 999) {B : Nat → Int} (hB : ∀ s, s < c → B s = if (fireD A fr op) s = -1 then 1000000 else (fireD A fr op) s) (X : OkM l G E cX9_lostBy RX9 6 3 (some .int) (RI (fun z M2 => z = (losV A (fireD A fr op) mi c) ∧ ∃ B : Nat → Int, M2 = upR M 63 0 B))) : ∀ (n i : Nat), i ≤ c → c < i + n → J G E 12 [some (rf G 9 0), some (vi (fr : Int)), some (vi mi), some (vi (op : Int)), some (vi ((losV A (fireD A fr op) mi i))), some (vi (i : Int))] [] (upR M 63 0 B) := by
  have Y := X.ok
  intro n
  induction n with
  | zero => intro i h1 h2; exfalso; omega
  | succ n ih =>
    intro i h1 h2
    refine J_iload_5 Y qX9_lostBy_12 ?_
    refine J_aloadr_0 Y qX9_lostBy_14 ?_
    refine J_getI Y qX9_lostBy_15 fX9_89 (by decide) ?_
    rw [upR_ne (by omega), hM.r0.2.1, hc]
    refine J_icmp_ge Y qX9_lostBy_18 (by omega) (by omega) (by omega) (by omega) (fun h18 => ?_) (fun h18 => ?_)
    · obtain rfl : i = c := by omega
      refine J_iload_4 Y qX9_lostBy_54 ?_
      exact J_iret X qX9_lostBy_56 ⟨_, rfl, rfl, B, rfl⟩
    · have bi := hB i (by omega)
      have si := hI.shopS (s := i) (by omega)
      unfold IvS at si
      have di := (fireD_ok (op := op) hI hc c14 hfr).2.1 i (by omega)
      have br : 0 ≤ B i ∧ B i ≤ 1000000 := by rw [bi]; split <;> omega
      refine J_iload_4 Y qX9_lostBy_21 ?_
      refine J_aloadr_0 Y qX9_lostBy_23 ?_
      refine J_getR Y qX9_lostBy_24 fX9_80 (by decide) ?_
      refine J_iload_5 Y qX9_lostBy_27 ?_
      refine J_ialoadN (kx := i) Y qX9_lostBy_29 rfl (by decide) rfl (by omega) (by decide) ?_
      rw [upR_at]
      refine J_iload_2 Y qX9_lostBy_30 ?_
      refine J_icmp_gt Y qX9_lostBy_31 (by omega) (by omega) (by omega) (by omega) (fun h31 => ?_) (fun h31 => ?_)
      · refine J_iconst Y qX9_lostBy_44 ?_
        refine J_iadd Y qX9_lostBy_45 ?_
        refine J_istore_4 Y qX9_lostBy_46 rfl ?_
        refine J_iinc_5 Y qX9_lostBy_48 rfl ?_
        refine J_goto Y qX9_lostBy_51 ?_
        have ih9 := ih (i + 1) (by omega) (by omega)
        unfold losV at ih9 ⊢
        rw [sumN] at ih9
        first
          | (rw [if_pos (by split at bi <;> omega)] at ih9; exact ih9)
          | (rw [if_neg (by split at bi <;> omega)] at ih9; exact ih9)
      · refine J_aloadr_0 Y qX9_lostBy_34 ?_
        refine J_getR Y qX9_lostBy_35 fX9_19 (by decide) ?_
        refine J_iload_5 Y qX9_lostBy_38 ?_
        refine J_ialoadN (kx := i) Y qX9_lostBy_40 rfl (by decide) rfl (by omega) (by decide) ?_
        rw [upR_ne (by omega), (hM.rs i (by omega)).2.2.1]
        refine J_goto Y qX9_lostBy_41 ?_
        refine J_iadd Y qX9_lostBy_45 ?_
        refine J_istore_4 Y qX9_lostBy_46 rfl ?_
        refine J_iinc_5 Y qX9_lostBy_48 rfl ?_
        refine J_goto Y qX9_lostBy_51 ?_
        have ih9 := ih (i + 1) (by omega) (by omega)
        unfold losV at ih9 ⊢
        rw [sumN] at ih9
        first
          | (rw [if_pos (by split at bi <;> omega)] at ih9; exact ih9)
          | (rw [if_neg (by split at bi <;> omega)] at ih9; exact ih9)

theorem m_lostBy (l : Launch) (G : Gx) (M : Mem) {A : Mem} {m c : Nat} (hI : Inv m A) (hM : MR A M) (hc : A 0 0 2 = (c : Int)) (c14 : c ≤ 14) {fr op : Nat} {mi : Int} (hfr : fr < c) (hop : op < 16384) (mi1 : 0 ≤ mi) (mi2 : mi ≤ 999) : Ct l G 3 yX9_lostBy cX9_lostBy 6 ((Option.some Jvm.ClassFile.FieldType.int)) [rf G 9 0, vi (fr : Nat), vi mi, vi (op : Nat)] M (RI (fun z M2 => z = (losV A (fireD A fr op) mi c) ∧ ∃ B : Nat → Int, M2 = upR M 63 0 B)) := by
  refine Ct.of rfl (Nat.le_of_ble_eq_true rfl) rfl (fun E X => ?_)
  have Y := X.ok
  refine J_aloadr_0 Y qX9_lostBy_0 ?_
  refine J_iload_1 Y qX9_lostBy_1 ?_
  refine J_iload_3 Y qX9_lostBy_2 ?_
  refine J_cV2V Y qX9_lostBy_3 mX9_210 iyX9_findFire (by decide) rfl (by decide) rfl (Nat.le_of_ble_eq_true rfl) (m_findFire (A := A) (c := c) _ _ _ hI (by exact hM) hc c14 hfr hop) (fun M2 h3 => ?_)
  obtain ⟨B, rfl, hB⟩ := h3
  refine J_iconst Y qX9_lostBy_6 ?_
  refine J_istore_4 Y qX9_lostBy_7 rfl ?_
  refine J_iconst Y qX9_lostBy_9 ?_
  refine J_istore_5 Y qX9_lostBy_10 rfl ?_
  exact lp_mlost hI hM hc c14 hfr hop mi1 mi2 hB X (c + 1) 0 (by omega) (by omega)

theorem m_areShops (l : Launch) (G : Gx) (M : Mem) {z : Int} (z1 : -2147483648 ≤ z) (z2 : z < 2147483648) {c : Nat} (hc : M 9 0 2 = (c : Int)) (c14 : c ≤ 14) : Ct l G 1 yX9_areShops cX9_areShops 2 ((Option.some Jvm.ClassFile.FieldType.boolean)) [rf G 9 0, vi z] M (RB M (0 ≤ z ∧ z < ((2 ^ c : Nat) : Int))) := by
  refine Ct.of rfl (Nat.le_of_ble_eq_true rfl) rfl (fun E X => ?_)
  have Y := X.ok
  have p14 : 2 ^ c ≤ 16384 := Nat.pow_le_pow_right (n := 2) (by decide) (show c ≤ 14 by omega)
  obtain ⟨pw, hpw⟩ : ∃ pw, 2 ^ c = pw := ⟨_, rfl⟩
  rw [hpw] at p14 X
  refine J_iload_1 Y qX9_areShops_0 ?_
  refine J_if_lt Y qX9_areShops_1 (by omega) (by omega) (fun h1 => ?_) (fun h1 => ?_)
  · refine J_iconst Y qX9_areShops_18 ?_
    exact J_zret_f X qX9_areShops_19 rfl (by omega)
  · refine J_iload_1 Y qX9_areShops_4 ?_
    refine J_iconst Y qX9_areShops_5 ?_
    refine J_aloadr_0 Y qX9_areShops_6 ?_
    refine J_getI Y qX9_areShops_7 fX9_89 (by decide) ?_
    rw [hc]
    refine J_shl1 Y c qX9_areShops_10 rfl (by omega) ?_
    rw [hpw]
    refine J_icmp_ge Y qX9_areShops_11 (by omega) (by omega) (by omega) (by omega) (fun h11 => ?_) (fun h11 => ?_)
    · refine J_iconst Y qX9_areShops_18 ?_
      exact J_zret_f X qX9_areShops_19 rfl (by omega)
    · refine J_iconst Y qX9_areShops_14 ?_
      refine J_goto Y qX9_areShops_15 ?_
      exact J_zret_t X qX9_areShops_19 rfl (by omega)

theorem r_burns (l : Launch) (G : Gx) (M : Mem) {A : Mem} {n : Nat} {a b c : Int} (a1 : -2147483648 ≤ a) (a2 : a < 2147483648) (b1 : -2147483648 ≤ b) (b2 : b < 2147483648) (c1 : -2147483648 ≤ c) (c2 : c < 2147483648) (hI : Inv n A) (hn : n < 512) (hM : MR A M)  : Ct l G 4 yX9_burns cX9_burns 4 ((Option.some Jvm.ClassFile.FieldType.int)) [rf G 9 0, vi a, vi b, vi c] M (QR (f_burns A a b c) M) := by
  refine Ct.of rfl (Nat.le_of_ble_eq_true rfl) rfl (fun E X => ?_)
  have Y := X.ok
  obtain ⟨m1, m2, m3, m4, m5, m6⟩ := hM.r0
  obtain ⟨c1, c2⟩ := hI.count
  obtain ⟨d1, d2⟩ := hI.day
  obtain ⟨k, hk⟩ := nat_of c1
  have p14 : 2 ^ k ≤ 16384 := Nat.pow_le_pow_right (n := 2) (by decide) (show k ≤ 14 by omega)
  refine J_aloadr_0 Y qX9_burns_0 ?_
  refine J_iload_1 Y qX9_burns_1 ?_
  refine J_cV1B Y qX9_burns_2 mX9_101 iyX9_isShop (by decide) rfl (by decide) rfl (Nat.le_of_ble_eq_true rfl) (m_isShop _ _ _ (by omega) (by omega) (by omega) (by omega)) (fun h2 => ?_) (fun h2 => ?_)
  · refine J_eq1 Y qX9_burns_5 ?_
    refine J_aloadr_0 Y qX9_burns_8 ?_
    refine J_iload_2 Y qX9_burns_9 ?_
    refine J_cV1B Y qX9_burns_10 mX9_101 iyX9_isShop (by decide) rfl (by decide) rfl (Nat.le_of_ble_eq_true rfl) (m_isShop _ _ _ (by omega) (by omega) (by omega) (by omega)) (fun h10 => ?_) (fun h10 => ?_)
    · refine J_eq1 Y qX9_burns_13 ?_
      refine J_aloadr_0 Y qX9_burns_16 ?_
      refine J_iload_3 Y qX9_burns_17 ?_
      refine J_cV1B Y qX9_burns_18 mX9_213 iyX9_areShops (by decide) rfl (by decide) rfl (Nat.le_of_ble_eq_true rfl) (m_areShops (c := k) _ _ _ (by omega) (by omega) (by omega) (by omega)) (fun h18 => ?_) (fun h18 => ?_)
      · refine J_ne1 Y qX9_burns_21 ?_
        obtain ⟨fr, rfl⟩ := nat_of (show 0 ≤ a by omega)
        obtain ⟨s, rfl⟩ := nat_of (show 0 ≤ b by omega)
        obtain ⟨op, rfl⟩ := nat_of (show 0 ≤ c by omega)
        refine J_iload_3 Y qX9_burns_31 ?_
        refine J_iload_1 Y qX9_burns_32 ?_
        refine J_ishr Y fr qX9_burns_33 rfl (by omega) (by omega) (by omega) ?_
        refine J_iconst Y qX9_burns_34 ?_
        refine J_mask Y 1 qX9_burns_35 (by decide) (by decide +kernel) ?_
        obtain ⟨bb, hbb⟩ : ∃ b, op / 2 ^ fr % 2 = b := ⟨_, rfl⟩
        have hb2 := Nat.mod_lt (op / 2 ^ fr) (show 0 < 2 by decide)
        have hbd := bit_div op fr
        rw [hbb] at hb2 hbd
        rw [show (op : Int) / 2 ^ fr % 2 ^ 1 = (bb : Int) from by rw [← hbb]; simp]
        refine J_iconst Y qX9_burns_36 ?_
        refine J_icmp_ne Y qX9_burns_37 (by omega) (by omega) (by omega) (by omega) (fun h37 => ?_) (fun h37 => ?_)
        · have tbf : ¬ op.testBit fr = true := fun z => by have := hbd.mpr z; omega
          obtain ⟨D, hD⟩ : ∃ D, D = fireD A fr op := ⟨_, rfl⟩
          refine J_aloadr_0 Y qX9_burns_47 ?_
          refine J_iload_1 Y qX9_burns_48 ?_
          refine J_iload_3 Y qX9_burns_49 ?_
          refine J_cV2V Y qX9_burns_50 mX9_210 iyX9_findFire (by decide) rfl (by decide) rfl (Nat.le_of_ble_eq_true rfl) (m_findFire (A := A) (c := k) _ _ _ hI hM hk (by omega) (by omega) (by omega)) (fun M2 h50 => ?_)
          obtain ⟨B, rfl, hB⟩ := h50
          have bs := hB s (by omega)
          have ds := (fireD_ok (op := op) hI hk (by omega) (show fr < k by omega)).2.1 s (by omega)
          have br : 0 ≤ B s ∧ B s ≤ 1000000 := by rw [bs]; split <;> omega
          refine J_aloadr_0 Y qX9_burns_53 ?_
          refine J_getR Y qX9_burns_54 fX9_80 (by decide) ?_
          refine J_iload_2 Y qX9_burns_57 ?_
          refine J_ialoadN (kx := s) Y qX9_burns_58 rfl (by decide) rfl (by omega) (by decide) ?_
          rw [upR_at]
          refine J_ldc Y qX9_burns_59 kX9_196 ?_
          refine J_icmp_ne Y qX9_burns_61 (by omega) (by omega) (by omega) (by omega) (fun h61 => ?_) (fun h61 => ?_)
          · refine J_aloadr_0 Y qX9_burns_68 ?_
            refine J_getR Y qX9_burns_69 fX9_80 (by decide) ?_
            refine J_iload_2 Y qX9_burns_72 ?_
            refine J_ialoadN (kx := s) Y qX9_burns_73 rfl (by decide) rfl (by omega) (by decide) ?_
            try rw [upR_at]
            exact J_iret X qX9_burns_74 (QR_e (by
              unfold f_burns
              try simp only [Int.toNat_natCast, hk]
              repeat (first | rewrite [if_pos trivial] | rewrite [if_pos (by omega)] | rewrite [if_neg (by omega)] | rewrite [if_pos tbt] | rewrite [if_neg tbf])
              exact rfl) (by first | rfl | (dsimp only; omega) | (dsimp only; rw [bs]; split <;> omega) | (dsimp only; rw [bs] at h61; split at h61 <;> omega)) (by first | exact hM | exact MR_rfs hM (by decide) | exact MR_63 hM) (by first | exact Sm.rfl' | exact Sm_up (Or.inl (by decide)) | exact Sm_63))
          · refine J_iconst Y qX9_burns_64 ?_
            refine J_goto Y qX9_burns_65 ?_
            try rw [upR_at]
            exact J_iret X qX9_burns_74 (QR_e (by
              unfold f_burns
              try simp only [Int.toNat_natCast, hk]
              repeat (first | rewrite [if_pos trivial] | rewrite [if_pos (by omega)] | rewrite [if_neg (by omega)] | rewrite [if_pos tbt] | rewrite [if_neg tbf])
              exact rfl) (by first | rfl | (dsimp only; omega) | (dsimp only; rw [bs]; split <;> omega) | (dsimp only; rw [bs] at h61; split at h61 <;> omega)) (by first | exact hM | exact MR_rfs hM (by decide) | exact MR_63 hM) (by first | exact Sm.rfl' | exact Sm_up (Or.inl (by decide)) | exact Sm_63))
        · have tbt : op.testBit fr = true := hbd.mp (by omega)
          refine J_aloadr_0 Y qX9_burns_40 ?_
          refine J_bipush Y qX9_burns_41 (by decide) ?_
          refine J_cV1F Y qX9_burns_43 mX9_97 iyX9_refuse (by decide) rfl (by decide) rfl (Nat.le_of_ble_eq_true rfl) (m_refuse _ _ _ 7 (by decide) rfl) ?_
          exact J_iret X qX9_burns_46 (QR_e (by
            unfold f_burns
            try simp only [Int.toNat_natCast, hk]
            repeat (first | rewrite [if_pos trivial] | rewrite [if_pos (by omega)] | rewrite [if_neg (by omega)] | rewrite [if_pos tbt] | rewrite [if_neg tbf])
            exact rfl) (by first | rfl | (dsimp only; omega) | (dsimp only; rw [bs]; split <;> omega) | (dsimp only; rw [bs] at h61; split at h61 <;> omega)) (by first | exact hM | exact MR_rfs hM (by decide) | exact MR_63 hM) (by first | exact Sm.rfl' | exact Sm_up (Or.inl (by decide)) | exact Sm_63))
      · refine J_ne0 Y qX9_burns_21 ?_
        refine J_aloadr_0 Y qX9_burns_24 ?_
        refine J_bipush Y qX9_burns_25 (by decide) ?_
        refine J_cV1F Y qX9_burns_27 mX9_97 iyX9_refuse (by decide) rfl (by decide) rfl (Nat.le_of_ble_eq_true rfl) (m_refuse _ _ _ 3 (by decide) rfl) ?_
        exact J_iret X qX9_burns_30 (QR_e (by
          unfold f_burns
          try simp only [Int.toNat_natCast, hk]
          repeat (first | rewrite [if_pos trivial] | rewrite [if_pos (by omega)] | rewrite [if_neg (by omega)] | rewrite [if_pos tbt] | rewrite [if_neg tbf])
          exact rfl) (by first | rfl | (dsimp only; omega) | (dsimp only; rw [bs]; split <;> omega) | (dsimp only; rw [bs] at h61; split at h61 <;> omega)) (by first | exact hM | exact MR_rfs hM (by decide) | exact MR_63 hM) (by first | exact Sm.rfl' | exact Sm_up (Or.inl (by decide)) | exact Sm_63))
    · refine J_eq0 Y qX9_burns_13 ?_
      refine J_aloadr_0 Y qX9_burns_24 ?_
      refine J_bipush Y qX9_burns_25 (by decide) ?_
      refine J_cV1F Y qX9_burns_27 mX9_97 iyX9_refuse (by decide) rfl (by decide) rfl (Nat.le_of_ble_eq_true rfl) (m_refuse _ _ _ 3 (by decide) rfl) ?_
      exact J_iret X qX9_burns_30 (QR_e (by
        unfold f_burns
        try simp only [Int.toNat_natCast, hk]
        repeat (first | rewrite [if_pos trivial] | rewrite [if_pos (by omega)] | rewrite [if_neg (by omega)] | rewrite [if_pos tbt] | rewrite [if_neg tbf])
        exact rfl) (by first | rfl | (dsimp only; omega) | (dsimp only; rw [bs]; split <;> omega) | (dsimp only; rw [bs] at h61; split at h61 <;> omega)) (by first | exact hM | exact MR_rfs hM (by decide) | exact MR_63 hM) (by first | exact Sm.rfl' | exact Sm_up (Or.inl (by decide)) | exact Sm_63))
  · refine J_eq0 Y qX9_burns_5 ?_
    refine J_aloadr_0 Y qX9_burns_24 ?_
    refine J_bipush Y qX9_burns_25 (by decide) ?_
    refine J_cV1F Y qX9_burns_27 mX9_97 iyX9_refuse (by decide) rfl (by decide) rfl (Nat.le_of_ble_eq_true rfl) (m_refuse _ _ _ 3 (by decide) rfl) ?_
    exact J_iret X qX9_burns_30 (QR_e (by
      unfold f_burns
      try simp only [Int.toNat_natCast, hk]
      repeat (first | rewrite [if_pos trivial] | rewrite [if_pos (by omega)] | rewrite [if_neg (by omega)] | rewrite [if_pos tbt] | rewrite [if_neg tbf])
      exact rfl) (by first | rfl | (dsimp only; omega) | (dsimp only; rw [bs]; split <;> omega) | (dsimp only; rw [bs] at h61; split at h61 <;> omega)) (by first | exact hM | exact MR_rfs hM (by decide) | exact MR_63 hM) (by first | exact Sm.rfl' | exact Sm_up (Or.inl (by decide)) | exact Sm_63))

theorem r_lost (l : Launch) (G : Gx) (M : Mem) {A : Mem} {n : Nat} {a b c : Int} (a1 : -2147483648 ≤ a) (a2 : a < 2147483648) (b1 : -2147483648 ≤ b) (b2 : b < 2147483648) (c1 : -2147483648 ≤ c) (c2 : c < 2147483648) (hI : Inv n A) (hn : n < 512) (hM : MR A M)  : Ct l G 5 yX9_lost cX9_lost 4 ((Option.some Jvm.ClassFile.FieldType.int)) [rf G 9 0, vi a, vi b, vi c] M (QR (f_lost A a b c) M) := by
  refine Ct.of rfl (Nat.le_of_ble_eq_true rfl) rfl (fun E X => ?_)
  have Y := X.ok
  obtain ⟨m1, m2, m3, m4, m5, m6⟩ := hM.r0
  obtain ⟨c1, c2⟩ := hI.count
  obtain ⟨d1, d2⟩ := hI.day
  obtain ⟨k, hk⟩ := nat_of c1
  have p14 : 2 ^ k ≤ 16384 := Nat.pow_le_pow_right (n := 2) (by decide) (show k ≤ 14 by omega)
  refine J_aloadr_0 Y qX9_lost_0 ?_
  refine J_iload_1 Y qX9_lost_1 ?_
  refine J_cV1B Y qX9_lost_2 mX9_101 iyX9_isShop (by decide) rfl (by decide) rfl (Nat.le_of_ble_eq_true rfl) (m_isShop _ _ _ (by omega) (by omega) (by omega) (by omega)) (fun h2 => ?_) (fun h2 => ?_)
  · refine J_eq1 Y qX9_lost_5 ?_
    refine J_aloadr_0 Y qX9_lost_8 ?_
    refine J_iload_3 Y qX9_lost_9 ?_
    refine J_cV1B Y qX9_lost_10 mX9_213 iyX9_areShops (by decide) rfl (by decide) rfl (Nat.le_of_ble_eq_true rfl) (m_areShops (c := k) _ _ _ (by omega) (by omega) (by omega) (by omega)) (fun h10 => ?_) (fun h10 => ?_)
    · refine J_ne1 Y qX9_lost_13 ?_
      obtain ⟨fr, rfl⟩ := nat_of (show 0 ≤ a by omega)
      obtain ⟨op, rfl⟩ := nat_of (show 0 ≤ c by omega)
      refine J_iload_3 Y qX9_lost_23 ?_
      refine J_iload_1 Y qX9_lost_24 ?_
      refine J_ishr Y fr qX9_lost_25 rfl (by omega) (by omega) (by omega) ?_
      refine J_iconst Y qX9_lost_26 ?_
      refine J_mask Y 1 qX9_lost_27 (by decide) (by decide +kernel) ?_
      obtain ⟨bb, hbb⟩ : ∃ b, op / 2 ^ fr % 2 = b := ⟨_, rfl⟩
      have hb2 := Nat.mod_lt (op / 2 ^ fr) (show 0 < 2 by decide)
      have hbd := bit_div op fr
      rw [hbb] at hb2 hbd
      rw [show (op : Int) / 2 ^ fr % 2 ^ 1 = (bb : Int) from by rw [← hbb]; simp]
      refine J_iconst Y qX9_lost_28 ?_
      refine J_icmp_eq Y qX9_lost_29 (by omega) (by omega) (by omega) (by omega) (fun h29 => ?_) (fun h29 => ?_)
      · refine J_aloadr_0 Y qX9_lost_43 ?_
        refine J_bipush Y qX9_lost_44 (by decide) ?_
        refine J_cV1F Y qX9_lost_46 mX9_97 iyX9_refuse (by decide) rfl (by decide) rfl (Nat.le_of_ble_eq_true rfl) (m_refuse _ _ _ 7 (by decide) rfl) ?_
        first
          | (have tbt : op.testBit fr = true := hbd.mp (by omega)
             exact J_iret X qX9_lost_49 (QR_e (by
               unfold f_lost
               try simp only [Int.toNat_natCast, hk]
               repeat (first | rewrite [if_pos trivial] | rewrite [if_pos (by omega)] | rewrite [if_neg (by omega)] | rewrite [if_pos tbt])
               exact rfl) (by first | rfl | (dsimp only; omega)) (by first | exact hM | exact MR_rfs hM (by decide)) (by first | exact Sm.rfl' | exact Sm_up (Or.inl (by decide)))))
          | (have tbf : ¬ op.testBit fr = true := fun z => by have := hbd.mpr z; omega
             exact J_iret X qX9_lost_49 (QR_e (by
               unfold f_lost
               try simp only [Int.toNat_natCast, hk]
               repeat (first | rewrite [if_pos trivial] | rewrite [if_pos (by omega)] | rewrite [if_neg (by omega)] | rewrite [if_neg tbf])
               exact rfl) (by first | rfl | (dsimp only; omega)) (by first | exact hM | exact MR_rfs hM (by decide)) (by first | exact Sm.rfl' | exact Sm_up (Or.inl (by decide)))))
      · refine J_iload_2 Y qX9_lost_32 ?_
        refine J_iconst Y qX9_lost_33 ?_
        refine J_sipush Y qX9_lost_34 (by decide) ?_
        refine J_cS3B Y qX9_lost_37 mX9_93 iyX9_in rfl (by decide) rfl (Nat.le_of_ble_eq_true rfl) (m_in _ _ _ (by omega) (by omega) (by omega) (by omega) (by omega) (by omega)) (fun h37 => ?_) (fun h37 => ?_)
        · refine J_ne1 Y qX9_lost_40 ?_
          have tbf : ¬ op.testBit fr = true := fun z => by have := hbd.mpr z; omega
          refine J_aloadr_0 Y qX9_lost_50 ?_
          refine J_iload_1 Y qX9_lost_51 ?_
          refine J_iload_2 Y qX9_lost_52 ?_
          refine J_iload_3 Y qX9_lost_53 ?_
          refine J_cV3I Y qX9_lost_54 mX9_216 iyX9_lostBy (by decide) rfl (by decide) rfl (Nat.le_of_ble_eq_true rfl) (m_lostBy (A := A) (c := k) _ _ _ hI hM hk (by omega) (by omega) (by omega) (by omega) (by omega)) (fun z M2 h54 => ?_)
          obtain ⟨rfl, B, rfl⟩ := h54
          exact J_iret X qX9_lost_57 (QR_e (by
            unfold f_lost
            try simp only [Int.toNat_natCast, hk]
            repeat (first | rewrite [if_pos trivial] | rewrite [if_pos (by omega)] | rewrite [if_neg (by omega)] | rewrite [if_neg tbf])
            exact rfl) (by first | rfl | (dsimp only; omega)) (by first | exact hM | exact MR_rfs hM (by decide) | exact MR_63 hM) (by first | exact Sm.rfl' | exact Sm_up (Or.inl (by decide)) | exact Sm_63))
        · refine J_ne0 Y qX9_lost_40 ?_
          refine J_aloadr_0 Y qX9_lost_43 ?_
          refine J_bipush Y qX9_lost_44 (by decide) ?_
          refine J_cV1F Y qX9_lost_46 mX9_97 iyX9_refuse (by decide) rfl (by decide) rfl (Nat.le_of_ble_eq_true rfl) (m_refuse _ _ _ 7 (by decide) rfl) ?_
          first
            | (have tbt : op.testBit fr = true := hbd.mp (by omega)
               exact J_iret X qX9_lost_49 (QR_e (by
                 unfold f_lost
                 try simp only [Int.toNat_natCast, hk]
                 repeat (first | rewrite [if_pos trivial] | rewrite [if_pos (by omega)] | rewrite [if_neg (by omega)] | rewrite [if_pos tbt])
                 exact rfl) (by first | rfl | (dsimp only; omega)) (by first | exact hM | exact MR_rfs hM (by decide)) (by first | exact Sm.rfl' | exact Sm_up (Or.inl (by decide)))))
            | (have tbf : ¬ op.testBit fr = true := fun z => by have := hbd.mpr z; omega
               exact J_iret X qX9_lost_49 (QR_e (by
                 unfold f_lost
                 try simp only [Int.toNat_natCast, hk]
                 repeat (first | rewrite [if_pos trivial] | rewrite [if_pos (by omega)] | rewrite [if_neg (by omega)] | rewrite [if_neg tbf])
                 exact rfl) (by first | rfl | (dsimp only; omega)) (by first | exact hM | exact MR_rfs hM (by decide)) (by first | exact Sm.rfl' | exact Sm_up (Or.inl (by decide)))))
    · refine J_ne0 Y qX9_lost_13 ?_
      refine J_aloadr_0 Y qX9_lost_16 ?_
      refine J_bipush Y qX9_lost_17 (by decide) ?_
      refine J_cV1F Y qX9_lost_19 mX9_97 iyX9_refuse (by decide) rfl (by decide) rfl (Nat.le_of_ble_eq_true rfl) (m_refuse _ _ _ 3 (by decide) rfl) ?_
      exact J_iret X qX9_lost_22 (QR_e (by
        unfold f_lost
        try simp only [Int.toNat_natCast, hk]
        repeat (first | rewrite [if_pos trivial] | rewrite [if_pos (by omega)] | rewrite [if_neg (by omega)] | rewrite [if_neg tbf])
        exact rfl) (by first | rfl | (dsimp only; omega)) (by first | exact hM | exact MR_rfs hM (by decide) | exact MR_63 hM) (by first | exact Sm.rfl' | exact Sm_up (Or.inl (by decide)) | exact Sm_63))
  · refine J_eq0 Y qX9_lost_5 ?_
    refine J_aloadr_0 Y qX9_lost_16 ?_
    refine J_bipush Y qX9_lost_17 (by decide) ?_
    refine J_cV1F Y qX9_lost_19 mX9_97 iyX9_refuse (by decide) rfl (by decide) rfl (Nat.le_of_ble_eq_true rfl) (m_refuse _ _ _ 3 (by decide) rfl) ?_
    exact J_iret X qX9_lost_22 (QR_e (by
      unfold f_lost
      try simp only [Int.toNat_natCast, hk]
      repeat (first | rewrite [if_pos trivial] | rewrite [if_pos (by omega)] | rewrite [if_neg (by omega)] | rewrite [if_neg tbf])
      exact rfl) (by first | rfl | (dsimp only; omega)) (by first | exact hM | exact MR_rfs hM (by decide) | exact MR_63 hM) (by first | exact Sm.rfl' | exact Sm_up (Or.inl (by decide)) | exact Sm_63))


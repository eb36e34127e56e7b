/-! ===== the class: public methods, second ===== -/
theorem k_pawned (l : Launch) (G : Gx) (M : Mem) {n : Nat} {a b c : Int} (a1 : -2147483648 ≤ a) (a2 : a < 2147483648) (b1 : -2147483648 ≤ b) (b2 : b < 2147483648) (c1 : -2147483648 ≤ c) (c2 : c < 2147483648) (hI : Inv n M) (hn : n < 512)  : Ct l G 4 yX8_pawned cX8_pawned 4 ((Option.some Jvm.ClassFile.FieldType.int)) [rf G 8 0, vi a, vi b, vi c] M (RF (f_pawned M a b c).1 (f_pawned M a b c).2) := by
  refine Ct.of rfl (Nat.le_of_ble_eq_true rfl) rfl (fun E X => ?_)
  have Y := X.ok
  obtain ⟨c1, c2⟩ := hI.count
  obtain ⟨d1, d2⟩ := hI.day
  refine J_aloadr_0 Y qX8_pawned_0 ?_
  refine J_iload_1 Y qX8_pawned_1 ?_
  refine J_iload_2 Y qX8_pawned_2 ?_
  refine J_cV2B Y qX8_pawned_3 mX8_183 iyX8_isNoPawn (by decide) rfl (by decide) rfl (Nat.le_of_ble_eq_true rfl) (c_isNoPawn _ _ _ (by omega) (by omega) (by omega) (by omega) hI) (fun h3 => ?_) (fun h3 => ?_)
  · refine J_eq1 Y qX8_pawned_6 ?_
    refine J_aloadr_0 Y qX8_pawned_9 ?_
    refine J_bipush Y qX8_pawned_10 (by decide) ?_
    refine J_cV1F Y qX8_pawned_12 mX8_66 iyX8_refused (by decide) rfl (by decide) rfl (Nat.le_of_ble_eq_true rfl) (c_refused (w := 3) _ _ _ (by decide) (by decide)) ?_
    exact J_iret X qX8_pawned_15 (RF_i (by
      unfold f_pawned
      try simp only [Int.toNat_natCast]
      repeat (first | rw [if_pos (by omega)] | rw [if_neg (by omega)])
      try rfl))
  · refine J_eq0 Y qX8_pawned_6 ?_
    obtain ⟨s, rfl⟩ := nat_of (show 0 ≤ a by omega)
    obtain ⟨p1, p2, p3⟩ := hI.pawns (s := s) (by omega)
    obtain ⟨k, hk⟩ := nat_of p1
    simp only [Int.toNat_natCast] at h3
    obtain ⟨j, rfl⟩ := nat_of (show 0 ≤ b by omega)
    refine J_iload_3 Y qX8_pawned_16 ?_
    refine J_iconst Y qX8_pawned_17 ?_
    refine J_iconst Y qX8_pawned_18 ?_
    refine J_cS3B Y qX8_pawned_19 mX8_70 iyX8_isOutside rfl (by decide) rfl (Nat.le_of_ble_eq_true rfl) (c_isOutside _ _ _ (by omega) (by omega) (by omega) (by omega) (by omega) (by omega)) (fun h19 => ?_) (fun h19 => ?_)
    · refine J_eq1 Y qX8_pawned_22 ?_
      refine J_aloadr_0 Y qX8_pawned_25 ?_
      refine J_bipush Y qX8_pawned_26 (by decide) ?_
      refine J_cV1F Y qX8_pawned_28 mX8_66 iyX8_refused (by decide) rfl (by decide) rfl (Nat.le_of_ble_eq_true rfl) (c_refused (w := 7) _ _ _ (by decide) (by decide)) ?_
      exact J_iret X qX8_pawned_31 (RF_i (by
        unfold f_pawned
        try simp only [Int.toNat_natCast]
        repeat (first | rw [if_pos (by omega)] | rw [if_neg (by omega)])
        try rfl))
    · refine J_eq0 Y qX8_pawned_22 ?_
      refine J_iload_3 Y qX8_pawned_32 ?_
      refine J_if_ne Y qX8_pawned_33 (by omega) (by omega) (fun h33 => ?_) (fun h33 => ?_)
      · refine J_aloadr_0 Y qX8_pawned_53 ?_
        refine J_getR Y qX8_pawned_54 fX8_10 (by decide) ?_
        refine J_getR Y qX8_pawned_57 fX8_77 (by decide) ?_
        refine J_iload_1 Y qX8_pawned_60 ?_
        refine J_aaloadN (kx := s) Y qX8_pawned_61 rfl (fun _ => rfl) (by decide) rfl (by omega) (by decide) ?_
        refine J_getR Y qX8_pawned_62 fX8_190 (by show _ < 14; omega) ?_
        refine J_iload_2 Y qX8_pawned_65 ?_
        refine J_ialoadN (kx := j) Y qX8_pawned_66 rfl (by show _ < 14; omega) rfl (by omega) (by decide) ?_
        exact J_iret X qX8_pawned_67 (RF_i (by
          unfold f_pawned
          try simp only [Int.toNat_natCast]
          repeat (first | rw [if_pos (by omega)] | rw [if_neg (by omega)])
          try rfl))
      · refine J_aloadr_0 Y qX8_pawned_36 ?_
        refine J_getR Y qX8_pawned_37 fX8_10 (by decide) ?_
        refine J_getR Y qX8_pawned_40 fX8_77 (by decide) ?_
        refine J_iload_1 Y qX8_pawned_43 ?_
        refine J_aaloadN (kx := s) Y qX8_pawned_44 rfl (fun _ => rfl) (by decide) rfl (by omega) (by decide) ?_
        refine J_getR Y qX8_pawned_45 fX8_187 (by show _ < 14; omega) ?_
        refine J_iload_2 Y qX8_pawned_48 ?_
        refine J_ialoadN (kx := j) Y qX8_pawned_49 rfl (by show _ < 14; omega) rfl (by omega) (by decide) ?_
        refine J_goto Y qX8_pawned_50 ?_
        exact J_iret X qX8_pawned_67 (RF_i (by
          unfold f_pawned
          try simp only [Int.toNat_natCast]
          repeat (first | rw [if_pos (by omega)] | rw [if_neg (by omega)])
          try rfl))

theorem k_pay (l : Launch) (G : Gx) (M : Mem) {n : Nat} {a b : Int} (a1 : -2147483648 ≤ a) (a2 : a < 2147483648) (b1 : -2147483648 ≤ b) (b2 : b < 2147483648) (hI : Inv n M) (hn : n < 512)  : Ct l G 4 yX8_pay cX8_pay 4 ((Option.some Jvm.ClassFile.FieldType.int)) [rf G 8 0, vi a, vi b] M (RF (f_pay M a b).1 (f_pay M a b).2) := by
  refine Ct.of rfl (Nat.le_of_ble_eq_true rfl) rfl (fun E X => ?_)
  have Y := X.ok
  obtain ⟨c1, c2⟩ := hI.count
  obtain ⟨d1, d2⟩ := hI.day
  refine J_aloadr_0 Y qX8_pay_0 ?_
  refine J_iload_1 Y qX8_pay_1 ?_
  refine J_iload_2 Y qX8_pay_2 ?_
  refine J_cV2B Y qX8_pay_3 mX8_183 iyX8_isNoPawn (by decide) rfl (by decide) rfl (Nat.le_of_ble_eq_true rfl) (c_isNoPawn _ _ _ (by omega) (by omega) (by omega) (by omega) hI) (fun h3 => ?_) (fun h3 => ?_)
  · refine J_eq1 Y qX8_pay_6 ?_
    refine J_aloadr_0 Y qX8_pay_9 ?_
    refine J_bipush Y qX8_pay_10 (by decide) ?_
    refine J_cV1F Y qX8_pay_12 mX8_66 iyX8_refused (by decide) rfl (by decide) rfl (Nat.le_of_ble_eq_true rfl) (c_refused (w := 3) _ _ _ (by decide) (by decide)) ?_
    exact J_iret X qX8_pay_15 (RF_i (by
      unfold f_pay
      try simp only [Int.toNat_natCast, hk]
      repeat (first | rw [if_pos (by omega)] | rw [if_neg (by omega)])
      try rfl))
  · refine J_eq0 Y qX8_pay_6 ?_
    obtain ⟨s, rfl⟩ := nat_of (show 0 ≤ a by omega)
    obtain ⟨p1, p2, p3⟩ := hI.pawns (s := s) (by omega)
    obtain ⟨k, hk⟩ := nat_of p1
    simp only [Int.toNat_natCast] at h3
    obtain ⟨j, rfl⟩ := nat_of (show 0 ≤ b by omega)
    refine J_aloadr_0 Y qX8_pay_16 ?_
    refine J_getR Y qX8_pay_17 fX8_10 (by decide) ?_
    refine J_getR Y qX8_pay_20 fX8_77 (by decide) ?_
    refine J_iload_1 Y qX8_pay_23 ?_
    refine J_aaloadN (kx := s) Y qX8_pay_24 rfl (fun _ => rfl) (by decide) rfl (by omega) (by decide) ?_
    refine J_getR Y qX8_pay_25 fX8_190 (by show _ < 14; omega) ?_
    refine J_iload_2 Y qX8_pay_28 ?_
    refine J_ialoadN (kx := j) Y qX8_pay_29 rfl (by show _ < 14; omega) rfl (by omega) (by decide) ?_
    refine J_istore_3 Y qX8_pay_30 rfl ?_
    refine J_aloadr_0 Y qX8_pay_31 ?_
    refine J_getR Y qX8_pay_32 fX8_10 (by decide) ?_
    refine J_getR Y qX8_pay_35 fX8_77 (by decide) ?_
    refine J_iload_1 Y qX8_pay_38 ?_
    refine J_aaloadN (kx := s) Y qX8_pay_39 rfl (fun _ => rfl) (by decide) rfl (by omega) (by decide) ?_
    refine J_iload_2 Y qX8_pay_40 ?_
    refine J_cV1W Y qX8_pay_41 mX8_193 iyX5_dropPawn (by show _ < 14; omega) rfl (by decide) rfl (Nat.le_of_ble_eq_true rfl) (c_dropPawn _ _ _ (by omega) hk (by omega) (by omega)) ?_
    refine J_iload_3 Y qX8_pay_44 ?_
    exact J_iret X qX8_pay_45 (RF_i (by
      unfold f_pay
      try simp only [Int.toNat_natCast, hk]
      repeat (first | rw [if_pos (by omega)] | rw [if_neg (by omega)])
      try rfl))

theorem lp_rich25 {l : Launch} {G : Gx} {E : Fx} {d : Nat} {M : Mem} {s p : Nat} (hs : s < 14) (hp : p < 10) (hr : ∀ j, j < 10 → 0 ≤ M 25 s j ∧ M 25 s j ≤ 5040) (X : OkM l G E cX8_richestOther RX8 5 d (some .int) (RP M (ric (M 25 s) p 10).1)) : ∀ (n i : Nat), i ≤ 10 → 10 < i + n → 0 ≤ (ric (M 25 s) p i).2 → (ric (M 25 s) p i).2 ≤ 5040 → J G E 7 [some (rf G 25 s), some (vi (p : Int)), some (vi (ric (M 25 s) p i).1), some (vi (ric (M 25 s) p i).2), some (vi (i : Int))] [] M := by
  have Y := X.ok
  intro n
  induction n with
  | zero => intro i h1 h2 h3 h4; exfalso; omega
  | succ n ih =>
    intro i h1 h2 h3 h4
    have rr := ric_rng (M 25 s) p i
    refine J_iload_4 Y qX8_richestOther_7 ?_
    refine J_bipush Y qX8_richestOther_9 (by decide) ?_
    refine J_icmp_ge Y qX8_richestOther_11 (by omega) (by omega) (by omega) (by omega) (fun h11 => ?_) (fun h11 => ?_)
    · obtain rfl : i = 10 := by omega
      refine J_iload_2 Y qX8_richestOther_42 ?_
      exact J_iret X qX8_richestOther_43 (RP_i rfl)
    · have hri := hr i (by omega)
      refine J_iload_4 Y qX8_richestOther_14 ?_
      refine J_iload_1 Y qX8_richestOther_16 ?_
      refine J_icmp_eq Y qX8_richestOther_17 (by omega) (by omega) (by omega) (by omega) (fun h17 => ?_) (fun h17 => ?_)
      · refine J_iinc_4 Y qX8_richestOther_36 rfl ?_
        refine J_goto Y qX8_richestOther_39 ?_
        first
          | (have e9 : ric (M 25 s) p (i + 1) = ((i : Int), M 25 s i) := by rw [ric, if_pos (by omega)]
             have ih9 := ih (i + 1) (by omega) (by omega)
             rw [e9] at ih9
             exact ih9 (by show 0 ≤ M 25 s i; omega) (by show M 25 s i ≤ 5040; omega))
          | (have e9 : ric (M 25 s) p (i + 1) = ric (M 25 s) p i := by rw [ric, if_neg (by omega)]
             have ih9 := ih (i + 1) (by omega) (by omega)
             rw [e9] at ih9
             exact ih9 h3 h4)
      · refine J_aloadr_0 Y qX8_richestOther_20 ?_
        refine J_iload_4 Y qX8_richestOther_21 ?_
        refine J_ialoadN (kx := i) Y qX8_richestOther_23 rfl (by show _ < 14; omega) rfl (by omega) (by decide) ?_
        refine J_iload_3 Y qX8_richestOther_24 ?_
        refine J_icmp_le Y qX8_richestOther_25 (by omega) (by omega) (by omega) (by omega) (fun h25 => ?_) (fun h25 => ?_)
        · refine J_iinc_4 Y qX8_richestOther_36 rfl ?_
          refine J_goto Y qX8_richestOther_39 ?_
          first
            | (have e9 : ric (M 25 s) p (i + 1) = ((i : Int), M 25 s i) := by rw [ric, if_pos (by omega)]
               have ih9 := ih (i + 1) (by omega) (by omega)
               rw [e9] at ih9
               exact ih9 (by show 0 ≤ M 25 s i; omega) (by show M 25 s i ≤ 5040; omega))
            | (have e9 : ric (M 25 s) p (i + 1) = ric (M 25 s) p i := by rw [ric, if_neg (by omega)]
               have ih9 := ih (i + 1) (by omega) (by omega)
               rw [e9] at ih9
               exact ih9 h3 h4)
        · refine J_iload_4 Y qX8_richestOther_28 ?_
          refine J_istore_2 Y qX8_richestOther_30 rfl ?_
          refine J_aloadr_0 Y qX8_richestOther_31 ?_
          refine J_iload_4 Y qX8_richestOther_32 ?_
          refine J_ialoadN (kx := i) Y qX8_richestOther_34 rfl (by show _ < 14; omega) rfl (by omega) (by decide) ?_
          refine J_istore_3 Y qX8_richestOther_35 rfl ?_
          refine J_iinc_4 Y qX8_richestOther_36 rfl ?_
          refine J_goto Y qX8_richestOther_39 ?_
          first
            | (have e9 : ric (M 25 s) p (i + 1) = ((i : Int), M 25 s i) := by rw [ric, if_pos (by omega)]
               have ih9 := ih (i + 1) (by omega) (by omega)
               rw [e9] at ih9
               exact ih9 (by show 0 ≤ M 25 s i; omega) (by show M 25 s i ≤ 5040; omega))
            | (have e9 : ric (M 25 s) p (i + 1) = ric (M 25 s) p i := by rw [ric, if_neg (by omega)]
               have ih9 := ih (i + 1) (by omega) (by omega)
               rw [e9] at ih9
               exact ih9 h3 h4)

theorem c_rich25 (l : Launch) (G : Gx) (M : Mem) {s p : Nat} (hs : s < 14) (hp : p < 10) (hr : ∀ j, j < 10 → 0 ≤ M 25 s j ∧ M 25 s j ≤ 5040) : Ct l G 1 yX8_richestOther cX8_richestOther 5 ((Option.some Jvm.ClassFile.FieldType.int)) [rf G 25 s, vi (p : Nat)] M (RP M (ric (M 25 s) p 10).1) := by
  refine Ct.of rfl (Nat.le_of_ble_eq_true rfl) rfl (fun E X => ?_)
  have Y := X.ok
  refine J_iconst Y qX8_richestOther_0 ?_
  refine J_istore_2 Y qX8_richestOther_1 rfl ?_
  refine J_iconst Y qX8_richestOther_2 ?_
  refine J_istore_3 Y qX8_richestOther_3 rfl ?_
  refine J_iconst Y qX8_richestOther_4 ?_
  refine J_istore_4 Y qX8_richestOther_5 rfl ?_
  exact lp_rich25 hs hp hr X 11 0 (by omega) (by omega) (by simp [ric]) (by simp [ric])

theorem lp_rich26 {l : Launch} {G : Gx} {E : Fx} {d : Nat} {M : Mem} {s p : Nat} (hs : s < 14) (hp : p < 10) (hr : ∀ j, j < 10 → 0 ≤ M 26 s j ∧ M 26 s j ≤ 5040) (X : OkM l G E cX8_richestOther RX8 5 d (some .int) (RP M (ric (M 26 s) p 10).1)) : ∀ (n i : Nat), i ≤ 10 → 10 < i + n → 0 ≤ (ric (M 26 s) p i).2 → (ric (M 26 s) p i).2 ≤ 5040 → J G E 7 [some (rf G 26 s), some (vi (p : Int)), some (vi (ric (M 26 s) p i).1), some (vi (ric (M 26 s) p i).2), some (vi (i : Int))] [] M := by
  have Y := X.ok
  intro n
  induction n with
  | zero => intro i h1 h2 h3 h4; exfalso; omega
  | succ n ih =>
    intro i h1 h2 h3 h4
    have rr := ric_rng (M 26 s) p i
    refine J_iload_4 Y qX8_richestOther_7 ?_
    refine J_bipush Y qX8_richestOther_9 (by decide) ?_
    refine J_icmp_ge Y qX8_richestOther_11 (by omega) (by omega) (by omega) (by omega) (fun h11 => ?_) (fun h11 => ?_)
    · obtain rfl : i = 10 := by omega
      refine J_iload_2 Y qX8_richestOther_42 ?_
      exact J_iret X qX8_richestOther_43 (RP_i rfl)
    · have hri := hr i (by omega)
      refine J_iload_4 Y qX8_richestOther_14 ?_
      refine J_iload_1 Y qX8_richestOther_16 ?_
      refine J_icmp_eq Y qX8_richestOther_17 (by omega) (by omega) (by omega) (by omega) (fun h17 => ?_) (fun h17 => ?_)
      · refine J_iinc_4 Y qX8_richestOther_36 rfl ?_
        refine J_goto Y qX8_richestOther_39 ?_
        first
          | (have e9 : ric (M 26 s) p (i + 1) = ((i : Int), M 26 s i) := by rw [ric, if_pos (by omega)]
             have ih9 := ih (i + 1) (by omega) (by omega)
             rw [e9] at ih9
             exact ih9 (by show 0 ≤ M 26 s i; omega) (by show M 26 s i ≤ 5040; omega))
          | (have e9 : ric (M 26 s) p (i + 1) = ric (M 26 s) p i := by rw [ric, if_neg (by omega)]
             have ih9 := ih (i + 1) (by omega) (by omega)
             rw [e9] at ih9
             exact ih9 h3 h4)
      · refine J_aloadr_0 Y qX8_richestOther_20 ?_
        refine J_iload_4 Y qX8_richestOther_21 ?_
        refine J_ialoadN (kx := i) Y qX8_richestOther_23 rfl (by show _ < 14; omega) rfl (by omega) (by decide) ?_
        refine J_iload_3 Y qX8_richestOther_24 ?_
        refine J_icmp_le Y qX8_richestOther_25 (by omega) (by omega) (by omega) (by omega) (fun h25 => ?_) (fun h25 => ?_)
        · refine J_iinc_4 Y qX8_richestOther_36 rfl ?_
          refine J_goto Y qX8_richestOther_39 ?_
          first
            | (have e9 : ric (M 26 s) p (i + 1) = ((i : Int), M 26 s i) := by rw [ric, if_pos (by omega)]
               have ih9 := ih (i + 1) (by omega) (by omega)
               rw [e9] at ih9
               exact ih9 (by show 0 ≤ M 26 s i; omega) (by show M 26 s i ≤ 5040; omega))
            | (have e9 : ric (M 26 s) p (i + 1) = ric (M 26 s) p i := by rw [ric, if_neg (by omega)]
               have ih9 := ih (i + 1) (by omega) (by omega)
               rw [e9] at ih9
               exact ih9 h3 h4)
        · refine J_iload_4 Y qX8_richestOther_28 ?_
          refine J_istore_2 Y qX8_richestOther_30 rfl ?_
          refine J_aloadr_0 Y qX8_richestOther_31 ?_
          refine J_iload_4 Y qX8_richestOther_32 ?_
          refine J_ialoadN (kx := i) Y qX8_richestOther_34 rfl (by show _ < 14; omega) rfl (by omega) (by decide) ?_
          refine J_istore_3 Y qX8_richestOther_35 rfl ?_
          refine J_iinc_4 Y qX8_richestOther_36 rfl ?_
          refine J_goto Y qX8_richestOther_39 ?_
          first
            | (have e9 : ric (M 26 s) p (i + 1) = ((i : Int), M 26 s i) := by rw [ric, if_pos (by omega)]
               have ih9 := ih (i + 1) (by omega) (by omega)
               rw [e9] at ih9
               exact ih9 (by show 0 ≤ M 26 s i; omega) (by show M 26 s i ≤ 5040; omega))
            | (have e9 : ric (M 26 s) p (i + 1) = ric (M 26 s) p i := by rw [ric, if_neg (by omega)]
               have ih9 := ih (i + 1) (by omega) (by omega)
               rw [e9] at ih9
               exact ih9 h3 h4)

theorem c_rich26 (l : Launch) (G : Gx) (M : Mem) {s p : Nat} (hs : s < 14) (hp : p < 10) (hr : ∀ j, j < 10 → 0 ≤ M 26 s j ∧ M 26 s j ≤ 5040) : Ct l G 1 yX8_richestOther cX8_richestOther 5 ((Option.some Jvm.ClassFile.FieldType.int)) [rf G 26 s, vi (p : Nat)] M (RP M (ric (M 26 s) p 10).1) := by
  refine Ct.of rfl (Nat.le_of_ble_eq_true rfl) rfl (fun E X => ?_)
  have Y := X.ok
  refine J_iconst Y qX8_richestOther_0 ?_
  refine J_istore_2 Y qX8_richestOther_1 rfl ?_
  refine J_iconst Y qX8_richestOther_2 ?_
  refine J_istore_3 Y qX8_richestOther_3 rfl ?_
  refine J_iconst Y qX8_richestOther_4 ?_
  refine J_istore_4 Y qX8_richestOther_5 rfl ?_
  exact lp_rich26 hs hp hr X 11 0 (by omega) (by omega) (by simp [ric]) (by simp [ric])

theorem k_first (l : Launch) (G : Gx) (M : Mem) {n : Nat} {a b : Int} (a1 : -2147483648 ≤ a) (a2 : a < 2147483648) (b1 : -2147483648 ≤ b) (b2 : b < 2147483648) (hI : Inv n M) (hn : n < 512)  : Ct l G 4 yX8_first cX8_first 5 ((Option.some Jvm.ClassFile.FieldType.int)) [rf G 8 0, vi a, vi b] M (RF (f_first M a b).1 (f_first M a b).2) := by
  refine Ct.of rfl (Nat.le_of_ble_eq_true rfl) rfl (fun E X => ?_)
  have Y := X.ok
  obtain ⟨c1, c2⟩ := hI.count
  obtain ⟨d1, d2⟩ := hI.day
  refine J_aloadr_0 Y qX8_first_0 ?_
  refine J_iload_1 Y qX8_first_1 ?_
  refine J_cV1B Y qX8_first_2 mX8_101 iyX8_isNoShop (by decide) rfl (by decide) rfl (Nat.le_of_ble_eq_true rfl) (c_isNoShop _ _ _ (by omega) (by omega) (by omega) (by omega)) (fun h2 => ?_) (fun h2 => ?_)
  · refine J_ne1 Y qX8_first_5 ?_
    refine J_aloadr_0 Y qX8_first_15 ?_
    refine J_bipush Y qX8_first_16 (by decide) ?_
    refine J_cV1F Y qX8_first_18 mX8_66 iyX8_refused (by decide) rfl (by decide) rfl (Nat.le_of_ble_eq_true rfl) (c_refused (w := 3) _ _ _ (by decide) (by decide)) ?_
    exact J_iret X qX8_first_21 (RF_i (by
      unfold f_first
      try simp only [Int.toNat_natCast]
      repeat (first | rw [if_pos (by omega)] | rw [if_neg (by omega)])
      try rfl))
  · refine J_ne0 Y qX8_first_5 ?_
    refine J_iload_2 Y qX8_first_8 ?_
    refine J_cS1B Y qX8_first_9 mX8_127 iyX8_isNoPerson rfl (by decide) rfl (Nat.le_of_ble_eq_true rfl) (c_isNoPerson _ _ _ (by omega) (by omega)) (fun h9 => ?_) (fun h9 => ?_)
    · refine J_eq1 Y qX8_first_12 ?_
      refine J_aloadr_0 Y qX8_first_15 ?_
      refine J_bipush Y qX8_first_16 (by decide) ?_
      refine J_cV1F Y qX8_first_18 mX8_66 iyX8_refused (by decide) rfl (by decide) rfl (Nat.le_of_ble_eq_true rfl) (c_refused (w := 3) _ _ _ (by decide) (by decide)) ?_
      exact J_iret X qX8_first_21 (RF_i (by
        unfold f_first
        try simp only [Int.toNat_natCast]
        repeat (first | rw [if_pos (by omega)] | rw [if_neg (by omega)])
        try rfl))
    · refine J_eq0 Y qX8_first_12 ?_
      obtain ⟨s, rfl⟩ := nat_of (show 0 ≤ a by omega)
      obtain ⟨p, rfl⟩ := nat_of (show 0 ≤ b by omega)
      have pr := fun j (hj : j < 10) => hI.part (s := s) (p := j) (by omega) hj
      have pp := pr p (by omega)
      have r1 := ric_rng (M 26 s) p 10
      have r2 := ric_rng (M 25 s) p 10
      refine J_aloadr_0 Y qX8_first_22 ?_
      refine J_getR Y qX8_first_23 fX8_10 (by decide) ?_
      refine J_getR Y qX8_first_26 fX8_77 (by decide) ?_
      refine J_iload_1 Y qX8_first_29 ?_
      refine J_aaloadN (kx := s) Y qX8_first_30 rfl (fun _ => rfl) (by decide) rfl (by omega) (by decide) ?_
      refine J_astore_3 Y qX8_first_31 rfl ?_
      refine J_aloadr_3 Y qX8_first_32 ?_
      refine J_getR Y qX8_first_33 fX8_160 (by show _ < 14; omega) ?_
      refine J_iload_2 Y qX8_first_36 ?_
      refine J_ialoadN (kx := p) Y qX8_first_37 rfl (by show _ < 14; omega) rfl (by omega) (by decide) ?_
      refine J_if_ne Y qX8_first_38 (by omega) (by omega) (fun h38 => ?_) (fun h38 => ?_)
      · refine J_aloadr_3 Y qX8_first_48 ?_
        refine J_getR Y qX8_first_49 fX8_160 (by show _ < 14; omega) ?_
        refine J_iload_2 Y qX8_first_52 ?_
        refine J_cS2P Y qX8_first_53 mX8_209 iyX8_richestOther rfl (by decide) rfl (Nat.le_of_ble_eq_true rfl) (c_rich26 _ _ _ (by omega) (by omega) (fun j hj => (pr j hj).2)) ?_
        refine J_istore_4 Y qX8_first_56 rfl ?_
        refine J_iload_4 Y qX8_first_58 ?_
        refine J_iconst Y qX8_first_60 ?_
        refine J_icmp_ne Y qX8_first_61 (by omega) (by omega) (by omega) (by omega) (fun h61 => ?_) (fun h61 => ?_)
        · refine J_iload_4 Y qX8_first_75 ?_
          exact J_iret X qX8_first_77 (RF_i (by
            unfold f_first
            try simp only [Int.toNat_natCast]
            repeat (first | rw [if_pos (by omega)] | rw [if_neg (by omega)])
            try rfl))
        · refine J_aloadr_3 Y qX8_first_64 ?_
          refine J_getR Y qX8_first_65 fX8_153 (by show _ < 14; omega) ?_
          refine J_iload_2 Y qX8_first_68 ?_
          refine J_cS2P Y qX8_first_69 mX8_209 iyX8_richestOther rfl (by decide) rfl (Nat.le_of_ble_eq_true rfl) (c_rich25 _ _ _ (by omega) (by omega) (fun j hj => (pr j hj).1)) ?_
          refine J_goto Y qX8_first_72 ?_
          exact J_iret X qX8_first_77 (RF_i (by
            unfold f_first
            try simp only [Int.toNat_natCast]
            repeat (first | rw [if_pos (by omega)] | rw [if_neg (by omega)])
            try rfl))
      · refine J_aloadr_0 Y qX8_first_41 ?_
        refine J_bipush Y qX8_first_42 (by decide) ?_
        refine J_cV1F Y qX8_first_44 mX8_66 iyX8_refused (by decide) rfl (by decide) rfl (Nat.le_of_ble_eq_true rfl) (c_refused (w := 7) _ _ _ (by decide) (by decide)) ?_
        exact J_iret X qX8_first_47 (RF_i (by
          unfold f_first
          try simp only [Int.toNat_natCast]
          repeat (first | rw [if_pos (by omega)] | rw [if_neg (by omega)])
          try rfl))

theorem k_purse (l : Launch) (G : Gx) (M : Mem) {n : Nat} {a : Int} (a1 : -2147483648 ≤ a) (a2 : a < 2147483648) (hI : Inv n M) (hn : n < 512)  : Ct l G 4 yX8_purse cX8_purse 2 ((Option.some Jvm.ClassFile.FieldType.long)) [rf G 8 0, vi a] M (RLF (f_purse M a).1 (f_purse M a).2) := by
  refine Ct.of rfl (Nat.le_of_ble_eq_true rfl) rfl (fun E X => ?_)
  have Y := X.ok
  obtain ⟨c1, c2⟩ := hI.count
  obtain ⟨d1, d2⟩ := hI.day
  refine J_iload_1 Y qX8_purse_0 ?_
  refine J_cS1B Y qX8_purse_1 mX8_127 iyX8_isNoPerson rfl (by decide) rfl (Nat.le_of_ble_eq_true rfl) (c_isNoPerson _ _ _ (by omega) (by omega)) (fun h1 => ?_) (fun h1 => ?_)
  · refine J_eq1 Y qX8_purse_4 ?_
    refine J_aloadr_0 Y qX8_purse_7 ?_
    refine J_bipush Y qX8_purse_8 (by decide) ?_
    refine J_cV1F Y qX8_purse_10 mX8_66 iyX8_refused (by decide) rfl (by decide) rfl (Nat.le_of_ble_eq_true rfl) (c_refused (w := 3) _ _ _ (by decide) (by decide)) ?_
    refine J_pop Y qX8_purse_13 rfl ?_
    refine J_lconst0 Y qX8_purse_14 ?_
    exact J_lret X qX8_purse_15 (RLF_i (by
      unfold f_purse
      try simp only [Int.toNat_natCast]
      repeat (first | rw [if_pos (by omega)] | rw [if_neg (by omega)])
      try rfl))
  · refine J_eq0 Y qX8_purse_4 ?_
    obtain ⟨p, rfl⟩ := nat_of (show 0 ≤ a by omega)
    refine J_aloadr_0 Y qX8_purse_16 ?_
    refine J_getR Y qX8_purse_17 fX8_25 (by decide) ?_
    refine J_getR Y qX8_purse_20 fX8_213 (by decide) ?_
    refine J_iload_1 Y qX8_purse_23 ?_
    refine J_laloadN (kx := p) Y qX8_purse_24 rfl (by decide) rfl (by omega) (by decide) ?_
    exact J_lret X qX8_purse_25 (RLF_i (by
      unfold f_purse
      try simp only [Int.toNat_natCast]
      repeat (first | rw [if_pos (by omega)] | rw [if_neg (by omega)])
      try rfl))

theorem k_wipe (l : Launch) (G : Gx) (M : Mem) {n : Nat}  (hI : Inv n M) (hn : n < 512)  : Ct l G 4 yX8_wipe cX8_wipe 2 ((Option.some Jvm.ClassFile.FieldType.int)) [rf G 8 0] M (RF (f_wipe M ).1 (f_wipe M ).2) := by
  refine Ct.of rfl (Nat.le_of_ble_eq_true rfl) rfl (fun E X => ?_)
  have Y := X.ok
  obtain ⟨c1, c2⟩ := hI.count
  obtain ⟨d1, d2⟩ := hI.day
  refine J_aloadr_0 Y qX8_wipe_0 ?_
  refine J_getR Y qX8_wipe_1 fX8_32 (by decide) ?_
  refine J_getI Y qX8_wipe_4 fX8_217 (by decide) ?_
  refine J_istore_1 Y qX8_wipe_7 rfl ?_
  refine J_aloadr_0 Y qX8_wipe_8 ?_
  refine J_getR Y qX8_wipe_9 fX8_32 (by decide) ?_
  refine J_iconst Y qX8_wipe_12 ?_
  refine J_putI Y qX8_wipe_13 fX8_217w (by decide) ?_
  refine J_iload_1 Y qX8_wipe_16 ?_
  exact J_iret X qX8_wipe_17 (RF_i (by
    unfold f_wipe
    try simp only [Int.toNat_natCast]
    repeat (first | rw [if_pos (by omega)] | rw [if_neg (by omega)])
    try rfl))

theorem k_takes (l : Launch) (G : Gx) (M : Mem) {n : Nat} {a b : Int} (a1 : -2147483648 ≤ a) (a2 : a < 2147483648) (b1 : -2147483648 ≤ b) (b2 : b < 2147483648) (hI : Inv n M) (hn : n < 512)  : Ct l G 4 yX8_takes cX8_takes 4 ((Option.some Jvm.ClassFile.FieldType.int)) [rf G 8 0, vi a, vi b] M (RF (f_takes M a b).1 (f_takes M a b).2) := by
  refine Ct.of rfl (Nat.le_of_ble_eq_true rfl) rfl (fun E X => ?_)
  have Y := X.ok
  obtain ⟨c1, c2⟩ := hI.count
  obtain ⟨d1, d2⟩ := hI.day
  refine J_iload_1 Y qX8_takes_0 ?_
  refine J_iconst Y qX8_takes_1 ?_
  refine J_iconst Y qX8_takes_2 ?_
  refine J_cS3B Y qX8_takes_3 mX8_70 iyX8_isOutside rfl (by decide) rfl (Nat.le_of_ble_eq_true rfl) (c_isOutside _ _ _ (by omega) (by omega) (by omega) (by omega) (by omega) (by omega)) (fun h3 => ?_) (fun h3 => ?_)
  · refine J_eq1 Y qX8_takes_6 ?_
    refine J_aloadr_0 Y qX8_takes_9 ?_
    refine J_bipush Y qX8_takes_10 (by decide) ?_
    refine J_cV1F Y qX8_takes_12 mX8_66 iyX8_refused (by decide) rfl (by decide) rfl (Nat.le_of_ble_eq_true rfl) (c_refused (w := 3) _ _ _ (by decide) (by decide)) ?_
    exact J_iret X qX8_takes_15 (RF_i (by
      unfold f_takes
      try simp only [Int.toNat_natCast]
      repeat (first | rw [if_pos (by omega)] | rw [if_neg (by omega)])
      try rfl))
  · refine J_eq0 Y qX8_takes_6 ?_
    refine J_iload_2 Y qX8_takes_16 ?_
    refine J_iconst Y qX8_takes_17 ?_
    refine J_bipush Y qX8_takes_18 (by decide) ?_
    refine J_cS3B Y qX8_takes_20 mX8_70 iyX8_isOutside rfl (by decide) rfl (Nat.le_of_ble_eq_true rfl) (c_isOutside _ _ _ (by omega) (by omega) (by omega) (by omega) (by omega) (by omega)) (fun h20 => ?_) (fun h20 => ?_)
    · refine J_eq1 Y qX8_takes_23 ?_
      refine J_aloadr_0 Y qX8_takes_26 ?_
      refine J_bipush Y qX8_takes_27 (by decide) ?_
      refine J_cV1F Y qX8_takes_29 mX8_66 iyX8_refused (by decide) rfl (by decide) rfl (Nat.le_of_ble_eq_true rfl) (c_refused (w := 7) _ _ _ (by decide) (by decide)) ?_
      exact J_iret X qX8_takes_32 (RF_i (by
        unfold f_takes
        try simp only [Int.toNat_natCast]
        repeat (first | rw [if_pos (by omega)] | rw [if_neg (by omega)])
        try rfl))
    · refine J_eq0 Y qX8_takes_23 ?_
      obtain ⟨p, rfl⟩ := nat_of (show 0 ≤ a by omega)
      refine J_aloadr_0 Y qX8_takes_33 ?_
      refine J_getR Y qX8_takes_34 fX8_46 (by decide) ?_
      refine J_getR Y qX8_takes_37 fX8_262 (by decide) ?_
      refine J_iload_1 Y qX8_takes_40 ?_
      refine J_ialoadN (kx := p) Y qX8_takes_41 rfl (by decide) rfl (by omega) (by decide) ?_
      refine J_istore_3 Y qX8_takes_42 rfl ?_
      refine J_aloadr_0 Y qX8_takes_43 ?_
      refine J_getR Y qX8_takes_44 fX8_46 (by decide) ?_
      refine J_getR Y qX8_takes_47 fX8_262 (by decide) ?_
      refine J_iload_1 Y qX8_takes_50 ?_
      refine J_iload_2 Y qX8_takes_51 ?_
      refine J_iastoreN (kx := p) Y qX8_takes_52 rfl (by decide) rfl (by omega) (by decide) ?_
      refine J_iload_3 Y qX8_takes_53 ?_
      exact J_iret X qX8_takes_54 (RF_i (by
        unfold f_takes
        try simp only [Int.toNat_natCast]
        repeat (first | rw [if_pos (by omega)] | rw [if_neg (by omega)])
        try rfl))

theorem k_planned (l : Launch) (G : Gx) (M : Mem) {n : Nat} {a b : Int} (a1 : -2147483648 ≤ a) (a2 : a < 2147483648) (b1 : -2147483648 ≤ b) (b2 : b < 2147483648) (hI : Inv n M) (hn : n < 512) (hb : b = 0 ∨ b = 1) : Ct l G 4 yX8_planned cX8_planned 3 ((Option.some Jvm.ClassFile.FieldType.int)) [rf G 8 0, vi a, vi b] M (RF (f_planned M a b).1 (f_planned M a b).2) := by
  refine Ct.of rfl (Nat.le_of_ble_eq_true rfl) rfl (fun E X => ?_)
  have Y := X.ok
  obtain ⟨c1, c2⟩ := hI.count
  obtain ⟨d1, d2⟩ := hI.day
  obtain ⟨z1, z2⟩ := hI.size
  refine J_aloadr_0 Y qX8_planned_0 ?_
  refine J_getR Y qX8_planned_1 fX8_46 (by decide) ?_
  refine J_getI Y qX8_planned_4 fX8_268 (by decide) ?_
  refine J_if_ne Y qX8_planned_7 (by omega) (by omega) (fun h7 => ?_) (fun h7 => ?_)
  · refine J_iload_1 Y qX8_planned_17 ?_
    refine J_iconst Y qX8_planned_18 ?_
    refine J_aloadr_0 Y qX8_planned_19 ?_
    refine J_getR Y qX8_planned_20 fX8_46 (by decide) ?_
    refine J_getI Y qX8_planned_23 fX8_268 (by decide) ?_
    refine J_iconst Y qX8_planned_26 ?_
    refine J_isub Y qX8_planned_27 ?_
    refine J_cS3B Y qX8_planned_28 mX8_70 iyX8_isOutside rfl (by decide) rfl (Nat.le_of_ble_eq_true rfl) (c_isOutside _ _ _ (by omega) (by omega) (by omega) (by omega) (by omega) (by omega)) (fun h28 => ?_) (fun h28 => ?_)
    · refine J_eq1 Y qX8_planned_31 ?_
      refine J_aloadr_0 Y qX8_planned_34 ?_
      refine J_bipush Y qX8_planned_35 (by decide) ?_
      refine J_cV1F Y qX8_planned_37 mX8_66 iyX8_refused (by decide) rfl (by decide) rfl (Nat.le_of_ble_eq_true rfl) (c_refused (w := 3) _ _ _ (by decide) (by decide)) ?_
      exact J_iret X qX8_planned_40 (RF_i (by
        unfold f_planned
        try simp only [Int.toNat_natCast]
        repeat (first | rw [if_pos (by omega)] | rw [if_neg (by omega)])
        try rfl))
    · refine J_eq0 Y qX8_planned_31 ?_
      obtain ⟨p, rfl⟩ := nat_of (show 0 ≤ a by omega)
      refine J_iload_2 Y qX8_planned_41 ?_
      refine J_if_eq Y qX8_planned_42 (by omega) (by omega) (fun h42 => ?_) (fun h42 => ?_)
      · refine J_aloadr_0 Y qX8_planned_57 ?_
        refine J_getR Y qX8_planned_58 fX8_46 (by decide) ?_
        refine J_getR Y qX8_planned_61 fX8_274 (by decide) ?_
        refine J_iload_1 Y qX8_planned_64 ?_
        refine J_ialoadN (kx := p) Y qX8_planned_65 rfl (by decide) rfl (by omega) (by decide) ?_
        exact J_iret X qX8_planned_66 (RF_i (by
          unfold f_planned
          try simp only [Int.toNat_natCast]
          repeat (first | rw [if_pos (by omega)] | rw [if_neg (by omega)])
          try rfl))
      · refine J_aloadr_0 Y qX8_planned_45 ?_
        refine J_getR Y qX8_planned_46 fX8_46 (by decide) ?_
        refine J_getR Y qX8_planned_49 fX8_271 (by decide) ?_
        refine J_iload_1 Y qX8_planned_52 ?_
        refine J_ialoadN (kx := p) Y qX8_planned_53 rfl (by decide) rfl (by omega) (by decide) ?_
        refine J_goto Y qX8_planned_54 ?_
        exact J_iret X qX8_planned_66 (RF_i (by
          unfold f_planned
          try simp only [Int.toNat_natCast]
          repeat (first | rw [if_pos (by omega)] | rw [if_neg (by omega)])
          try rfl))
  · refine J_aloadr_0 Y qX8_planned_10 ?_
    refine J_bipush Y qX8_planned_11 (by decide) ?_
    refine J_cV1F Y qX8_planned_13 mX8_66 iyX8_refused (by decide) rfl (by decide) rfl (Nat.le_of_ble_eq_true rfl) (c_refused (w := 2) _ _ _ (by decide) (by decide)) ?_
    exact J_iret X qX8_planned_16 (RF_i (by
      unfold f_planned
      try simp only [Int.toNat_natCast]
      repeat (first | rw [if_pos (by omega)] | rw [if_neg (by omega)])
      try rfl))

theorem lp_allLets {l : Launch} {G : Gx} {E : Fx} {M : Mem} {k m : Nat} (hI : Inv m M) (hk : M 0 0 2 = (k : Int)) (hk8 : k ≤ 14) (X : OkM l G E cX0_allLets RX0 3 2 (some .int) (RP M (ctN (fun s => decide (M 5 s 6 ≠ -1)) k))) : ∀ (n i : Nat), i ≤ k → k < i + n → J G E 4 [some (rf G 0 0), some (vi (ctN (fun s => decide (M 5 s 6 ≠ -1)) i)), some (vi (i : Int))] [] M := by
  have Y := X.ok
  intro n
  induction n with
  | zero => intro i h1 h2; exfalso; omega
  | succ n ih =>
    intro i h1 h2
    refine J_iload_2 Y qX0_allLets_4 ?_
    refine J_aloadr_0 Y qX0_allLets_5 ?_
    refine J_getI Y qX0_allLets_6 fX0_21 (by decide) ?_
    refine J_icmp_ge Y qX0_allLets_9 (by omega) (by omega) (by omega) (by omega) (fun h9 => ?_) (fun h9 => ?_)
    · obtain rfl : i = k := by omega
      refine J_iload_1 Y qX0_allLets_33 ?_
      exact J_iret X qX0_allLets_34 (RP_i rfl)
    · obtain ⟨l1, l2, l3, l4⟩ := hI.lets (s := i) (by omega)
      refine J_aloadr_0 Y qX0_allLets_12 ?_
      refine J_getR Y qX0_allLets_13 fX0_11 (by decide) ?_
      refine J_iload_2 Y qX0_allLets_16 ?_
      refine J_aaloadN (kx := i) Y qX0_allLets_17 rfl (fun _ => rfl) (by decide) rfl (by omega) (by decide) ?_
      refine J_cV0B Y qX0_allLets_18 mX0_45 iyX5_isLet (by show _ < 14; omega) rfl (by decide) rfl (Nat.le_of_ble_eq_true rfl) (c_isLet _ _ _ (by omega) (by omega) (by omega)) (fun h18 => ?_) (fun h18 => ?_)
      · refine J_eq1 Y qX0_allLets_21 ?_
        refine J_iinc_1 Y qX0_allLets_24 rfl ?_
        refine J_iinc_2 Y qX0_allLets_27 rfl ?_
        refine J_goto Y qX0_allLets_30 ?_
        have ih9 := ih (i + 1) (by omega) (by omega)
        first
          | (rw [ctN, if_pos (by simpa using h18)] at ih9; exact ih9)
          | (rw [ctN, if_neg (by simpa using h18), Int.add_zero] at ih9; exact ih9)
      · refine J_eq0 Y qX0_allLets_21 ?_
        refine J_iinc_2 Y qX0_allLets_27 rfl ?_
        refine J_goto Y qX0_allLets_30 ?_
        have ih9 := ih (i + 1) (by omega) (by omega)
        first
          | (rw [ctN, if_pos (by simpa using h18)] at ih9; exact ih9)
          | (rw [ctN, if_neg (by simpa using h18), Int.add_zero] at ih9; exact ih9)

theorem c_allLets (l : Launch) (G : Gx) (M : Mem) {k m : Nat} (hI : Inv m M) (hk : M 0 0 2 = (k : Int)) (hk8 : k ≤ 14) : Ct l G 2 yX0_allLets cX0_allLets 3 ((Option.some Jvm.ClassFile.FieldType.int)) [rf G 0 0] M (RP M (ctN (fun s => decide (M 5 s 6 ≠ -1)) k)) := by
  refine Ct.of rfl (Nat.le_of_ble_eq_true rfl) rfl (fun E X => ?_)
  have Y := X.ok
  refine J_iconst Y qX0_allLets_0 ?_
  refine J_istore_1 Y qX0_allLets_1 rfl ?_
  refine J_iconst Y qX0_allLets_2 ?_
  refine J_istore_2 Y qX0_allLets_3 rfl ?_
  exact lp_allLets hI hk hk8 X (k + 1) 0 (by omega) (by omega)

theorem lp_allPawns {l : Launch} {G : Gx} {E : Fx} {d : Nat} {M : Mem} {k m : Nat} (hI : Inv m M) (hk : M 0 0 2 = (k : Int)) (hk8 : k ≤ 14) (X : OkM l G E cX0_allPawns RX0 3 d (some .int) (RP M (sumN (fun s => M 5 s 11) k))) : ∀ (n i : Nat), i ≤ k → k < i + n → J G E 4 [some (rf G 0 0), some (vi (sumN (fun s => M 5 s 11) i)), some (vi (i : Int))] [] M := by
  have Y := X.ok
  intro n
  induction n with
  | zero => intro i h1 h2; exfalso; omega
  | succ n ih =>
    intro i h1 h2
    refine J_iload_2 Y qX0_allPawns_4 ?_
    refine J_aloadr_0 Y qX0_allPawns_5 ?_
    refine J_getI Y qX0_allPawns_6 fX0_21 (by decide) ?_
    refine J_icmp_ge Y qX0_allPawns_9 (by omega) (by omega) (by omega) (by omega) (fun h9 => ?_) (fun h9 => ?_)
    · obtain rfl : i = k := by omega
      refine J_iload_1 Y qX0_allPawns_30 ?_
      exact J_iret X qX0_allPawns_31 (RP_i rfl)
    · refine J_iload_1 Y qX0_allPawns_12 ?_
      refine J_aloadr_0 Y qX0_allPawns_13 ?_
      refine J_getR Y qX0_allPawns_14 fX0_11 (by decide) ?_
      refine J_iload_2 Y qX0_allPawns_17 ?_
      refine J_aaloadN (kx := i) Y qX0_allPawns_18 rfl (fun _ => rfl) (by decide) rfl (by omega) (by decide) ?_
      refine J_getI Y qX0_allPawns_19 fX0_49 (by show _ < 14; omega) ?_
      refine J_iadd Y qX0_allPawns_22 ?_
      refine J_istore_1 Y qX0_allPawns_23 rfl ?_
      refine J_iinc_2 Y qX0_allPawns_24 rfl ?_
      refine J_goto Y qX0_allPawns_27 ?_
      exact ih (i + 1) (by omega) (by omega)

theorem c_allPawns (l : Launch) (G : Gx) (M : Mem) {k m : Nat} (hI : Inv m M) (hk : M 0 0 2 = (k : Int)) (hk8 : k ≤ 14) : Ct l G 2 yX0_allPawns cX0_allPawns 3 ((Option.some Jvm.ClassFile.FieldType.int)) [rf G 0 0] M (RP M (sumN (fun s => M 5 s 11) k)) := by
  refine Ct.of rfl (Nat.le_of_ble_eq_true rfl) rfl (fun E X => ?_)
  have Y := X.ok
  refine J_iconst Y qX0_allPawns_0 ?_
  refine J_istore_1 Y qX0_allPawns_1 rfl ?_
  refine J_iconst Y qX0_allPawns_2 ?_
  refine J_istore_2 Y qX0_allPawns_3 rfl ?_
  exact lp_allPawns hI hk hk8 X (k + 1) 0 (by omega) (by omega)

theorem k_count (l : Launch) (G : Gx) (M : Mem) {n : Nat} {a : Int} (a1 : -2147483648 ≤ a) (a2 : a < 2147483648) (hI : Inv n M) (hn : n < 512)  : Ct l G 4 yX8_count cX8_count 2 ((Option.some Jvm.ClassFile.FieldType.int)) [rf G 8 0, vi a] M (RF (f_count M a).1 (f_count M a).2) := by
  refine Ct.of rfl (Nat.le_of_ble_eq_true rfl) rfl (fun E X => ?_)
  have Y := X.ok
  obtain ⟨c1, c2⟩ := hI.count
  obtain ⟨d1, d2⟩ := hI.day
  obtain ⟨k, hk⟩ := nat_of c1
  refine J_iload_1 Y qX8_count_0 ?_
  rcases (show a < 0 ∨ 5 < a ∨ a = 0 ∨ a = 1 ∨ a = 2 ∨ a = 3 ∨ a = 4 ∨ a = 5 by omega) with hb | hb | rfl | rfl | rfl | rfl | rfl | rfl
  · refine J_tswOut (tg := 85) Y qX8_count_1 (by omega) (by omega) (Or.inl hb) (by decide) ?_
    refine J_aloadr_0 Y qX8_count_85 ?_
    refine J_bipush Y qX8_count_86 (by decide) ?_
    refine J_cV1F Y qX8_count_88 mX8_66 iyX8_refused (by decide) rfl (by decide) rfl (Nat.le_of_ble_eq_true rfl) (c_refused (w := 7) _ _ _ (by decide) (by decide)) ?_
    exact J_iret X qX8_count_91 (RF_i (by
      unfold f_count
      try simp only [Int.toNat_natCast, hk]
      repeat (first | rw [if_pos (by omega)] | rw [if_neg (by omega)])
      try rfl))
  · refine J_tswOut (tg := 85) Y qX8_count_1 (by omega) (by omega) (Or.inr hb) (by decide) ?_
    refine J_aloadr_0 Y qX8_count_85 ?_
    refine J_bipush Y qX8_count_86 (by decide) ?_
    refine J_cV1F Y qX8_count_88 mX8_66 iyX8_refused (by decide) rfl (by decide) rfl (Nat.le_of_ble_eq_true rfl) (c_refused (w := 7) _ _ _ (by decide) (by decide)) ?_
    exact J_iret X qX8_count_91 (RF_i (by
      unfold f_count
      try simp only [Int.toNat_natCast, hk]
      repeat (first | rw [if_pos (by omega)] | rw [if_neg (by omega)])
      try rfl))
  · refine J_tswIn (tg := 40) Y qX8_count_1 (by decide) (by decide) (by decide) (by decide) rfl (by decide) ?_
    refine J_aloadr_0 Y qX8_count_40 ?_
    refine J_getI Y qX8_count_41 fX8_61 (by decide) ?_
    exact J_iret X qX8_count_44 (RF_i (by
      unfold f_count
      try simp only [Int.toNat_natCast, hk]
      repeat (first | rw [if_pos (by omega)] | rw [if_neg (by omega)])
      try rfl))
  · refine J_tswIn (tg := 45) Y qX8_count_1 (by decide) (by decide) (by decide) (by decide) rfl (by decide) ?_
    refine J_aloadr_0 Y qX8_count_45 ?_
    refine J_getR Y qX8_count_46 fX8_10 (by decide) ?_
    refine J_getI Y qX8_count_49 fX8_74 (by decide) ?_
    exact J_iret X qX8_count_52 (RF_i (by
      unfold f_count
      try simp only [Int.toNat_natCast, hk]
      repeat (first | rw [if_pos (by omega)] | rw [if_neg (by omega)])
      try rfl))
  · refine J_tswIn (tg := 53) Y qX8_count_1 (by decide) (by decide) (by decide) (by decide) rfl (by decide) ?_
    refine J_aloadr_0 Y qX8_count_53 ?_
    refine J_getR Y qX8_count_54 fX8_39 (by decide) ?_
    refine J_getI Y qX8_count_57 fX8_222 (by decide) ?_
    exact J_iret X qX8_count_60 (RF_i (by
      unfold f_count
      try simp only [Int.toNat_natCast, hk]
      repeat (first | rw [if_pos (by omega)] | rw [if_neg (by omega)])
      try rfl))
  · refine J_tswIn (tg := 61) Y qX8_count_1 (by decide) (by decide) (by decide) (by decide) rfl (by decide) ?_
    refine J_aloadr_0 Y qX8_count_61 ?_
    refine J_getR Y qX8_count_62 fX8_32 (by decide) ?_
    refine J_getI Y qX8_count_65 fX8_217 (by decide) ?_
    exact J_iret X qX8_count_68 (RF_i (by
      unfold f_count
      try simp only [Int.toNat_natCast, hk]
      repeat (first | rw [if_pos (by omega)] | rw [if_neg (by omega)])
      try rfl))
  · refine J_tswIn (tg := 69) Y qX8_count_1 (by decide) (by decide) (by decide) (by decide) rfl (by decide) ?_
    refine J_aloadr_0 Y qX8_count_69 ?_
    refine J_getR Y qX8_count_70 fX8_10 (by decide) ?_
    refine J_cV0P Y qX8_count_73 mX8_296 iyX0_allLets (by decide) rfl (by decide) rfl (Nat.le_of_ble_eq_true rfl) (c_allLets _ _ _ hI hk (by omega)) ?_
    exact J_iret X qX8_count_76 (RF_i (by
      unfold f_count
      try simp only [Int.toNat_natCast, hk]
      repeat (first | rw [if_pos (by omega)] | rw [if_neg (by omega)])
      try rfl))
  · refine J_tswIn (tg := 77) Y qX8_count_1 (by decide) (by decide) (by decide) (by decide) rfl (by decide) ?_
    refine J_aloadr_0 Y qX8_count_77 ?_
    refine J_getR Y qX8_count_78 fX8_10 (by decide) ?_
    refine J_cV0P Y qX8_count_81 mX8_299 iyX0_allPawns (by decide) rfl (by decide) rfl (Nat.le_of_ble_eq_true rfl) (c_allPawns _ _ _ hI hk (by omega)) ?_
    exact J_iret X qX8_count_84 (RF_i (by
      unfold f_count
      try simp only [Int.toNat_natCast, hk]
      repeat (first | rw [if_pos (by omega)] | rw [if_neg (by omega)])
      try rfl))

theorem k_lay (l : Launch) (G : Gx) (M : Mem) {n : Nat} {a b : Int} (a1 : -2147483648 ≤ a) (a2 : a < 2147483648) (b1 : -2147483648 ≤ b) (b2 : b < 2147483648) (hI : Inv n M) (hn : n < 512)  : Ct l G 4 yX8_lay cX8_lay 3 ((Option.some Jvm.ClassFile.FieldType.int)) [rf G 8 0, vi a, vi b] M (RF (f_lay M a b).1 (f_lay M a b).2) := by
  refine Ct.of rfl (Nat.le_of_ble_eq_true rfl) rfl (fun E X => ?_)
  have Y := X.ok
  obtain ⟨c1, c2⟩ := hI.count
  obtain ⟨d1, d2⟩ := hI.day
  refine J_aloadr_0 Y qX8_lay_0 ?_
  refine J_iload_1 Y qX8_lay_1 ?_
  refine J_cV1B Y qX8_lay_2 mX8_101 iyX8_isNoShop (by decide) rfl (by decide) rfl (Nat.le_of_ble_eq_true rfl) (c_isNoShop _ _ _ (by omega) (by omega) (by omega) (by omega)) (fun h2 => ?_) (fun h2 => ?_)
  · refine J_eq1 Y qX8_lay_5 ?_
    refine J_aloadr_0 Y qX8_lay_8 ?_
    refine J_bipush Y qX8_lay_9 (by decide) ?_
    refine J_cV1F Y qX8_lay_11 mX8_66 iyX8_refused (by decide) rfl (by decide) rfl (Nat.le_of_ble_eq_true rfl) (c_refused (w := 3) _ _ _ (by decide) (by decide)) ?_
    exact J_iret X qX8_lay_14 (RF_i (by
      unfold f_lay
      try simp only [Int.toNat_natCast]
      repeat (first | rw [if_pos (by omega)] | rw [if_neg (by omega)])
      try rfl))
  · refine J_eq0 Y qX8_lay_5 ?_
    refine J_iload_2 Y qX8_lay_15 ?_
    refine J_cS1B Y qX8_lay_16 mX8_130 iyX8_isNoKind rfl (by decide) rfl (Nat.le_of_ble_eq_true rfl) (c_isNoKind _ _ _ (by omega) (by omega)) (fun h16 => ?_) (fun h16 => ?_)
    · refine J_eq1 Y qX8_lay_19 ?_
      refine J_aloadr_0 Y qX8_lay_22 ?_
      refine J_bipush Y qX8_lay_23 (by decide) ?_
      refine J_cV1F Y qX8_lay_25 mX8_66 iyX8_refused (by decide) rfl (by decide) rfl (Nat.le_of_ble_eq_true rfl) (c_refused (w := 5) _ _ _ (by decide) (by decide)) ?_
      exact J_iret X qX8_lay_28 (RF_i (by
        unfold f_lay
        try simp only [Int.toNat_natCast]
        repeat (first | rw [if_pos (by omega)] | rw [if_neg (by omega)])
        try rfl))
    · refine J_eq0 Y qX8_lay_19 ?_
      obtain ⟨s, rfl⟩ := nat_of (show 0 ≤ a by omega)
      refine J_aloadr_0 Y qX8_lay_29 ?_
      refine J_getR Y qX8_lay_30 fX8_10 (by decide) ?_
      refine J_getR Y qX8_lay_33 fX8_77 (by decide) ?_
      refine J_iload_1 Y qX8_lay_36 ?_
      refine J_aaloadN (kx := s) Y qX8_lay_37 rfl (fun _ => rfl) (by decide) rfl (by omega) (by decide) ?_
      refine J_iload_2 Y qX8_lay_38 ?_
      rcases (show b = 0 ∨ b = 1 by omega) with rfl | rfl
      · refine J_cV1R Y qX8_lay_39 mX8_133 iyX5_partsOf (by show _ < 14; omega) rfl (by decide) rfl (Nat.le_of_ble_eq_true rfl) (c_partsOf0 _ _ _ (by omega)) ?_
        refine J_iconst Y qX8_lay_42 ?_
        refine J_aloadr_0 Y qX8_lay_43 ?_
        refine J_getR Y qX8_lay_44 fX8_50 (by decide) ?_
        refine J_iconst Y qX8_lay_47 ?_
        refine J_bipush Y qX8_lay_48 (by decide) ?_
        refine J_acopy Y qX8_lay_50 acpX8_302 acw rfl rfl (by show _ < 14; omega) (by decide) rfl (by decide) (Nat.le_of_ble_eq_true rfl) (by decide) (by decide) (by decide) (by decide) (by decide) (by decide) (by decide) ?_
        rw [show va_cpy (M 25 s) (M 33 0) (0 : Int).toNat (0 : Int).toNat (10 : Int).toNat = (fun k => if k < 10 then M 25 s k else M 33 0 k) from by funext k; simp [va_cpy]]
        refine J_aloadr_0 Y qX8_lay_53 ?_
        refine J_iconst Y qX8_lay_54 ?_
        refine J_putZ Y qX8_lay_55 fX8_57w (Or.inr rfl) (by decide) ?_
        refine J_bipush Y qX8_lay_58 (by decide) ?_
        exact J_iret X qX8_lay_60 (RF_i (by
          unfold f_lay
          try simp only [Int.toNat_natCast]
          repeat (first | rw [if_pos (by omega)] | rw [if_neg (by omega)])
          try rfl))
      · refine J_cV1R Y qX8_lay_39 mX8_133 iyX5_partsOf (by show _ < 14; omega) rfl (by decide) rfl (Nat.le_of_ble_eq_true rfl) (c_partsOf1 _ _ _ (by omega)) ?_
        refine J_iconst Y qX8_lay_42 ?_
        refine J_aloadr_0 Y qX8_lay_43 ?_
        refine J_getR Y qX8_lay_44 fX8_50 (by decide) ?_
        refine J_iconst Y qX8_lay_47 ?_
        refine J_bipush Y qX8_lay_48 (by decide) ?_
        refine J_acopy Y qX8_lay_50 acpX8_302 acw rfl rfl (by show _ < 14; omega) (by decide) rfl (by decide) (Nat.le_of_ble_eq_true rfl) (by decide) (by decide) (by decide) (by decide) (by decide) (by decide) (by decide) ?_
        rw [show va_cpy (M 26 s) (M 33 0) (0 : Int).toNat (0 : Int).toNat (10 : Int).toNat = (fun k => if k < 10 then M 26 s k else M 33 0 k) from by funext k; simp [va_cpy]]
        refine J_aloadr_0 Y qX8_lay_53 ?_
        refine J_iconst Y qX8_lay_54 ?_
        refine J_putZ Y qX8_lay_55 fX8_57w (Or.inr rfl) (by decide) ?_
        refine J_bipush Y qX8_lay_58 (by decide) ?_
        exact J_iret X qX8_lay_60 (RF_i (by
          unfold f_lay
          try simp only [Int.toNat_natCast]
          repeat (first | rw [if_pos (by omega)] | rw [if_neg (by omega)])
          try rfl))

theorem k_tear (l : Launch) (G : Gx) (M : Mem) {n : Nat}  (hI : Inv n M) (hn : n < 512)  : Ct l G 4 yX8_tear cX8_tear 2 ((Option.some Jvm.ClassFile.FieldType.int)) [rf G 8 0] M (RF (f_tear M ).1 (f_tear M ).2) := by
  refine Ct.of rfl (Nat.le_of_ble_eq_true rfl) rfl (fun E X => ?_)
  have Y := X.ok
  obtain ⟨c1, c2⟩ := hI.count
  obtain ⟨d1, d2⟩ := hI.day
  have hl := hI.laid
  refine J_aloadr_0 Y qX8_tear_0 ?_
  refine J_getI Y qX8_tear_1 fX8_57 (by decide) ?_
  refine J_if_eq Y qX8_tear_4 (by omega) (by omega) (fun h4 => ?_) (fun h4 => ?_)
  · refine J_iconst Y qX8_tear_11 ?_
    refine J_istore_1 Y qX8_tear_12 rfl ?_
    refine J_aloadr_0 Y qX8_tear_13 ?_
    refine J_iconst Y qX8_tear_14 ?_
    refine J_putZ Y qX8_tear_15 fX8_57w (Or.inl rfl) (by decide) ?_
    refine J_iload_1 Y qX8_tear_18 ?_
    exact J_iret X qX8_tear_19 (RF_i (by rw [f_tear]; congr 1 <;> omega))
  · refine J_iconst Y qX8_tear_7 ?_
    refine J_goto Y qX8_tear_8 ?_
    refine J_istore_1 Y qX8_tear_12 rfl ?_
    refine J_aloadr_0 Y qX8_tear_13 ?_
    refine J_iconst Y qX8_tear_14 ?_
    refine J_putZ Y qX8_tear_15 fX8_57w (Or.inl rfl) (by decide) ?_
    refine J_iload_1 Y qX8_tear_18 ?_
    exact J_iret X qX8_tear_19 (RF_i (by rw [f_tear]; congr 1 <;> omega))

theorem k_row (l : Launch) (G : Gx) (M : Mem) {n : Nat} {a : Int} (a1 : -2147483648 ≤ a) (a2 : a < 2147483648) (hI : Inv n M) (hn : n < 512)  : Ct l G 4 yX8_row cX8_row 2 ((Option.some Jvm.ClassFile.FieldType.int)) [rf G 8 0, vi a] M (RF (f_row M a).1 (f_row M a).2) := by
  refine Ct.of rfl (Nat.le_of_ble_eq_true rfl) rfl (fun E X => ?_)
  have Y := X.ok
  obtain ⟨c1, c2⟩ := hI.count
  obtain ⟨d1, d2⟩ := hI.day
  have hl := hI.laid
  refine J_aloadr_0 Y qX8_row_0 ?_
  refine J_getI Y qX8_row_1 fX8_57 (by decide) ?_
  refine J_if_ne Y qX8_row_4 (by omega) (by omega) (fun h4 => ?_) (fun h4 => ?_)
  · refine J_iload_1 Y qX8_row_14 ?_
    refine J_iconst Y qX8_row_15 ?_
    refine J_bipush Y qX8_row_16 (by decide) ?_
    refine J_cS3B Y qX8_row_18 mX8_70 iyX8_isOutside rfl (by decide) rfl (Nat.le_of_ble_eq_true rfl) (c_isOutside _ _ _ (by omega) (by omega) (by omega) (by omega) (by omega) (by omega)) (fun h18 => ?_) (fun h18 => ?_)
    · refine J_eq1 Y qX8_row_21 ?_
      refine J_aloadr_0 Y qX8_row_24 ?_
      refine J_bipush Y qX8_row_25 (by decide) ?_
      refine J_cV1F Y qX8_row_27 mX8_66 iyX8_refused (by decide) rfl (by decide) rfl (Nat.le_of_ble_eq_true rfl) (c_refused (w := 3) _ _ _ (by decide) (by decide)) ?_
      exact J_iret X qX8_row_30 (RF_i (by
        unfold f_row
        try simp only [Int.toNat_natCast]
        repeat (first | rw [if_pos (by omega)] | rw [if_neg (by omega)])
        try rfl))
    · refine J_eq0 Y qX8_row_21 ?_
      obtain ⟨p, rfl⟩ := nat_of (show 0 ≤ a by omega)
      refine J_aloadr_0 Y qX8_row_31 ?_
      refine J_getR Y qX8_row_32 fX8_50 (by decide) ?_
      refine J_iload_1 Y qX8_row_35 ?_
      refine J_ialoadN (kx := p) Y qX8_row_36 rfl (by decide) rfl (by omega) (by decide) ?_
      exact J_iret X qX8_row_37 (RF_i (by
        unfold f_row
        try simp only [Int.toNat_natCast]
        repeat (first | rw [if_pos (by omega)] | rw [if_neg (by omega)])
        try rfl))
  · refine J_aloadr_0 Y qX8_row_7 ?_
    refine J_bipush Y qX8_row_8 (by decide) ?_
    refine J_cV1F Y qX8_row_10 mX8_66 iyX8_refused (by decide) rfl (by decide) rfl (Nat.le_of_ble_eq_true rfl) (c_refused (w := 2) _ _ _ (by decide) (by decide)) ?_
    exact J_iret X qX8_row_13 (RF_i (by
      unfold f_row
      try simp only [Int.toNat_natCast]
      repeat (first | rw [if_pos (by omega)] | rw [if_neg (by omega)])
      try rfl))

theorem k_copy (l : Launch) (G : Gx) (M : Mem) {n : Nat} {a b c : Int} (a1 : -2147483648 ≤ a) (a2 : a < 2147483648) (b1 : -2147483648 ≤ b) (b2 : b < 2147483648) (c1 : -2147483648 ≤ c) (c2 : c < 2147483648) (hI : Inv n M) (hn : n < 512)  : Ct l G 4 yX8_copy cX8_copy 4 ((Option.some Jvm.ClassFile.FieldType.int)) [rf G 8 0, vi a, vi b, vi c] M (RF (f_copy M a b c).1 (f_copy M a b c).2) := by
  refine Ct.of rfl (Nat.le_of_ble_eq_true rfl) rfl (fun E X => ?_)
  have Y := X.ok
  obtain ⟨c1, c2⟩ := hI.count
  obtain ⟨d1, d2⟩ := hI.day
  have hl := hI.laid
  refine J_aloadr_0 Y qX8_copy_0 ?_
  refine J_getI Y qX8_copy_1 fX8_57 (by decide) ?_
  refine J_if_ne Y qX8_copy_4 (by omega) (by omega) (fun h4 => ?_) (fun h4 => ?_)
  · refine J_iload_3 Y qX8_copy_14 ?_
    refine J_if_ge Y qX8_copy_15 (by omega) (by omega) (fun h15 => ?_) (fun h15 => ?_)
    · refine J_iload_1 Y qX8_copy_25 ?_
      refine J_iconst Y qX8_copy_26 ?_
      refine J_bipush Y qX8_copy_27 (by decide) ?_
      refine J_iload_3 Y qX8_copy_29 ?_
      refine J_isub Y qX8_copy_30 ?_
      refine J_cS3B Y qX8_copy_31 mX8_70 iyX8_isOutside rfl (by decide) rfl (Nat.le_of_ble_eq_true rfl) (c_isOutside _ _ _ (by omega) (by omega) (by omega) (by omega) (by omega) (by omega)) (fun h31 => ?_) (fun h31 => ?_)
      · refine J_ne1 Y qX8_copy_34 ?_
        refine J_aloadr_0 Y qX8_copy_49 ?_
        refine J_bipush Y qX8_copy_50 (by decide) ?_
        refine J_cV1F Y qX8_copy_52 mX8_66 iyX8_refused (by decide) rfl (by decide) rfl (Nat.le_of_ble_eq_true rfl) (c_refused (w := 6) _ _ _ (by decide) (by decide)) ?_
        exact J_iret X qX8_copy_55 (RF_i (by
          unfold f_copy
          try simp only [Int.toNat_natCast]
          repeat (first | rw [if_pos (by omega)] | rw [if_neg (by omega)])
          try rfl))
      · refine J_ne0 Y qX8_copy_34 ?_
        refine J_iload_2 Y qX8_copy_37 ?_
        refine J_iconst Y qX8_copy_38 ?_
        refine J_bipush Y qX8_copy_39 (by decide) ?_
        refine J_iload_3 Y qX8_copy_41 ?_
        refine J_isub Y qX8_copy_42 ?_
        refine J_cS3B Y qX8_copy_43 mX8_70 iyX8_isOutside rfl (by decide) rfl (Nat.le_of_ble_eq_true rfl) (c_isOutside _ _ _ (by omega) (by omega) (by omega) (by omega) (by omega) (by omega)) (fun h43 => ?_) (fun h43 => ?_)
        · refine J_eq1 Y qX8_copy_46 ?_
          refine J_aloadr_0 Y qX8_copy_49 ?_
          refine J_bipush Y qX8_copy_50 (by decide) ?_
          refine J_cV1F Y qX8_copy_52 mX8_66 iyX8_refused (by decide) rfl (by decide) rfl (Nat.le_of_ble_eq_true rfl) (c_refused (w := 6) _ _ _ (by decide) (by decide)) ?_
          exact J_iret X qX8_copy_55 (RF_i (by
            unfold f_copy
            try simp only [Int.toNat_natCast]
            repeat (first | rw [if_pos (by omega)] | rw [if_neg (by omega)])
            try rfl))
        · refine J_eq0 Y qX8_copy_46 ?_
          refine J_aloadr_0 Y qX8_copy_56 ?_
          refine J_getR Y qX8_copy_57 fX8_50 (by decide) ?_
          refine J_iload_1 Y qX8_copy_60 ?_
          refine J_aloadr_0 Y qX8_copy_61 ?_
          refine J_getR Y qX8_copy_62 fX8_50 (by decide) ?_
          refine J_iload_2 Y qX8_copy_65 ?_
          refine J_iload_3 Y qX8_copy_66 ?_
          refine J_acopy Y qX8_copy_67 acpX8_302 acw rfl rfl (by decide) (by decide) rfl (by decide) (Nat.le_of_ble_eq_true rfl) (by omega) (by omega) (by omega) (by omega) (by omega) (by decide) (by decide) ?_
          refine J_iload_3 Y qX8_copy_70 ?_
          exact J_iret X qX8_copy_71 (RF_i (by
            unfold f_copy
            try simp only [Int.toNat_natCast]
            repeat (first | rw [if_pos (by omega)] | rw [if_neg (by omega)])
            try rfl))
    · refine J_aloadr_0 Y qX8_copy_18 ?_
      refine J_bipush Y qX8_copy_19 (by decide) ?_
      refine J_cV1F Y qX8_copy_21 mX8_66 iyX8_refused (by decide) rfl (by decide) rfl (Nat.le_of_ble_eq_true rfl) (c_refused (w := 4) _ _ _ (by decide) (by decide)) ?_
      exact J_iret X qX8_copy_24 (RF_i (by
        unfold f_copy
        try simp only [Int.toNat_natCast]
        repeat (first | rw [if_pos (by omega)] | rw [if_neg (by omega)])
        try rfl))
  · refine J_aloadr_0 Y qX8_copy_7 ?_
    refine J_bipush Y qX8_copy_8 (by decide) ?_
    refine J_cV1F Y qX8_copy_10 mX8_66 iyX8_refused (by decide) rfl (by decide) rfl (Nat.le_of_ble_eq_true rfl) (c_refused (w := 2) _ _ _ (by decide) (by decide)) ?_
    exact J_iret X qX8_copy_13 (RF_i (by
      unfold f_copy
      try simp only [Int.toNat_natCast]
      repeat (first | rw [if_pos (by omega)] | rw [if_neg (by omega)])
      try rfl))

theorem k_status (l : Launch) (G : Gx) (M : Mem) {n : Nat} {a : Int} (a1 : -2147483648 ≤ a) (a2 : a < 2147483648) (hI : Inv n M) (hn : n < 512)  : Ct l G 4 yX8_status cX8_status 2 ((Option.some Jvm.ClassFile.FieldType.int)) [rf G 8 0, vi a] M (RF (f_status M a).1 (f_status M a).2) := by
  refine Ct.of rfl (Nat.le_of_ble_eq_true rfl) rfl (fun E X => ?_)
  have Y := X.ok
  obtain ⟨c1, c2⟩ := hI.count
  obtain ⟨d1, d2⟩ := hI.day
  refine J_iload_1 Y qX8_status_0 ?_
  refine J_bipush Y qX8_status_1 (by decide) ?_
  refine J_bipush Y qX8_status_3 (by decide) ?_
  refine J_cS3B Y qX8_status_5 mX8_70 iyX8_isOutside rfl (by decide) rfl (Nat.le_of_ble_eq_true rfl) (c_isOutside _ _ _ (by omega) (by omega) (by omega) (by omega) (by omega) (by omega)) (fun h5 => ?_) (fun h5 => ?_)
  · refine J_eq1 Y qX8_status_8 ?_
    refine J_aloadr_0 Y qX8_status_11 ?_
    refine J_bipush Y qX8_status_12 (by decide) ?_
    refine J_cV1F Y qX8_status_14 mX8_66 iyX8_refused (by decide) rfl (by decide) rfl (Nat.le_of_ble_eq_true rfl) (c_refused (w := 7) _ _ _ (by decide) (by decide)) ?_
    exact J_iret X qX8_status_17 (RF_i (by
      unfold f_status
      try simp only [Int.toNat_natCast]
      repeat (first | rw [if_pos (by omega)] | rw [if_neg (by omega)])
      try rfl))
  · refine J_eq0 Y qX8_status_8 ?_
    refine J_aloadr_0 Y qX8_status_18 ?_
    refine J_getR Y qX8_status_19 fX8_54 (by decide) ?_
    refine J_iload_1 Y qX8_status_22 ?_
    refine J_ineg Y qX8_status_23 ?_
    refine J_iaload Y qX8_status_24 rfl (by decide) (by omega) (by omega) (by decide) ?_
    exact J_iret X qX8_status_25 (RF_i (by
      unfold f_status
      try simp only [Int.toNat_natCast]
      repeat (first | rw [if_pos (by omega)] | rw [if_neg (by omega)])
      try rfl))

theorem c_tapeAdd (l : Launch) (G : Gx) (M : Mem) {k : Nat} {v : Int} (hk : M 6 0 1 = (k : Int)) (hk8 : k < 80) : Ct l G 1 yX6_add cX6_add 2 ((Option.none : Option Jvm.ClassFile.FieldType)) [rf G 6 0, vi v] M (VF (up (up M 29 0 k v) 6 0 1 (k + 1))) := by
  refine Ct.of rfl (Nat.le_of_ble_eq_true rfl) rfl (fun E X => ?_)
  have Y := X.ok
  refine J_aloadr_0 Y qX6_add_0 ?_
  refine J_getI Y qX6_add_1 fX6_15 (by decide) ?_
  refine J_bipush Y qX6_add_4 (by decide) ?_
  refine J_icmp_ge Y qX6_add_6 (by omega) (by omega) (by omega) (by omega) (fun h6 => ?_) (fun h6 => ?_)
  · exfalso; omega
  · refine J_aloadr_0 Y qX6_add_9 ?_
    refine J_getR Y qX6_add_10 fX6_9 (by decide) ?_
    refine J_aloadr_0 Y qX6_add_13 ?_
    refine J_getI Y qX6_add_14 fX6_15 (by decide) ?_
    rw [hk]
    refine J_iload_1 Y qX6_add_17 ?_
    refine J_iastoreN (kx := k) Y qX6_add_18 rfl (by decide) rfl (by omega) (by decide) ?_
    refine J_aloadr_0 Y qX6_add_19 ?_
    refine J_dup Y qX6_add_20 rfl ?_
    refine J_getI Y qX6_add_21 fX6_15 (by decide) ?_
    rw [show up M 29 0 k v 6 0 1 = (k : Int) from by simp [up, hk]]
    refine J_iconst Y qX6_add_24 ?_
    refine J_iadd Y qX6_add_25 ?_
    refine J_putI Y qX6_add_26 fX6_15w (by decide) ?_
    exact J_vret X qX6_add_29 ⟨rfl, rfl⟩

theorem fdM_step (M : Mem) (z : Int) (l n t : Nat) : up (up (fdM M z l n t) 29 0 (l + t) (fdB z n t)) 6 0 1 (((l + t : Nat) : Int) + 1) = fdM M z l n (t + 1) := by
  funext a b c
  simp only [fdM, up, upR]
  grind
theorem fdM_0 (M : Mem) (z : Int) (l n : Nat) (h : M 6 0 1 = (l : Int)) : fdM M z l n 0 = M := by
  funext a b c
  simp only [fdM, up, upR]
  grind
theorem fd_byte (z : Int) (m : Nat) (hm : m ≤ 3) : z % 4294967296 / 2 ^ (8 * m) % 256 = z / 2 ^ (8 * m) % 256 := by
  rcases (show m = 0 ∨ m = 1 ∨ m = 2 ∨ m = 3 by omega) with rfl | rfl | rfl | rfl <;> simp <;> omega

theorem lp_feed {l : Launch} {G : Gx} {E : Fx} {M : Mem} {a : Int} {m k : Nat} (hI : Inv m M) (hk : k ≤ 4) {r : Nat} (hr : M 6 0 1 = (r : Int)) (hr8 : r + k ≤ 80) (X : OkM l G E cX8_feed RX8 4 4 (some .int) (RF ((r : Int) + k) (fdM M a r k k))) : ∀ (n i : Nat), i ≤ k → k < i + n → J G E 48 [some (rf G 8 0), some (vi a), some (vi (k : Int)), some (vi ((k : Int) - 1 - (i : Int)))] [] (fdM M a r k i) := by
  have Y := X.ok
  intro n
  induction n with
  | zero => intro i h1 h2; exfalso; omega
  | succ n ih =>
    intro i h1 h2
    refine J_iload_3 Y qX8_feed_48 ?_
    refine J_if_lt Y qX8_feed_49 (by omega) (by omega) (fun h49 => ?_) (fun h49 => ?_)
    · obtain rfl : i = k := by omega
      refine J_aloadr_0 Y qX8_feed_75 ?_
      refine J_getR Y qX8_feed_76 fX8_32 (by decide) ?_
      refine J_getI Y qX8_feed_79 fX8_217 (by decide) ?_
      rw [show fdM M a r i i 6 0 1 = (r : Int) + i from by simp [fdM, up]]
      exact J_iret X qX8_feed_82 ⟨rfl, rfl⟩
    · refine J_aloadr_0 Y qX8_feed_52 ?_
      refine J_getR Y qX8_feed_53 fX8_32 (by decide) ?_
      refine J_iload_1 Y qX8_feed_56 ?_
      refine J_bipush Y qX8_feed_57 (by decide) ?_
      refine J_iload_3 Y qX8_feed_59 ?_
      refine J_imul Y qX8_feed_60 ?_
      refine J_iushr Y (8 * (k - 1 - i)) qX8_feed_61 (by omega) (by omega) ?_
      refine J_sipush Y qX8_feed_62 (by decide) ?_
      refine J_mask Y 8 qX8_feed_65 (by decide) (by decide +kernel) ?_
      refine J_cV1W Y qX8_feed_66 mX8_220 iyX6_add (by decide) rfl (by decide) rfl (Nat.le_of_ble_eq_true rfl) (c_tapeAdd (k := r + i) _ _ _ (by simp [fdM, up]) (by omega)) ?_
      refine J_iinc_3 Y qX8_feed_69 rfl ?_
      refine J_goto Y qX8_feed_72 ?_
      have e9 := fdM_step M a r k i
      rw [show fdB a k i = a % 4294967296 / 2 ^ (8 * (k - 1 - i)) % 2 ^ 8 from (fd_byte a (k - 1 - i) (by omega)).symm] at e9
      rw [e9, show (k : Int) - 1 - (i : Int) + -1 = (k : Int) - 1 - ((i + 1 : Nat) : Int) by omega]
      exact ih (i + 1) (by omega) (by omega)

theorem k_feed (l : Launch) (G : Gx) (M : Mem) {n : Nat} {a b : Int} (a1 : -2147483648 ≤ a) (a2 : a < 2147483648) (b1 : -2147483648 ≤ b) (b2 : b < 2147483648) (hI : Inv n M) (hn : n < 512)  : Ct l G 4 yX8_feed cX8_feed 4 ((Option.some Jvm.ClassFile.FieldType.int)) [rf G 8 0, vi a, vi b] M (RF (f_feed M a b).1 (f_feed M a b).2) := by
  refine Ct.of rfl (Nat.le_of_ble_eq_true rfl) rfl (fun E X => ?_)
  have Y := X.ok
  obtain ⟨c1, c2⟩ := hI.count
  obtain ⟨d1, d2⟩ := hI.day
  obtain ⟨t1, t2⟩ := hI.tape
  obtain ⟨r, hr⟩ := nat_of t1
  refine J_iload_2 Y qX8_feed_0 ?_
  refine J_if_ge Y qX8_feed_1 (by omega) (by omega) (fun h1 => ?_) (fun h1 => ?_)
  · refine J_iload_2 Y qX8_feed_11 ?_
    refine J_iconst Y qX8_feed_12 ?_
    refine J_icmp_le Y qX8_feed_13 (by omega) (by omega) (by omega) (by omega) (fun h13 => ?_) (fun h13 => ?_)
    · refine J_aloadr_0 Y qX8_feed_23 ?_
      refine J_getR Y qX8_feed_24 fX8_32 (by decide) ?_
      refine J_getI Y qX8_feed_27 fX8_217 (by decide) ?_
      refine J_iload_2 Y qX8_feed_30 ?_
      refine J_iadd Y qX8_feed_31 ?_
      refine J_bipush Y qX8_feed_32 (by decide) ?_
      refine J_icmp_le Y qX8_feed_34 (by omega) (by omega) (by omega) (by omega) (fun h34 => ?_) (fun h34 => ?_)
      · refine J_iload_2 Y qX8_feed_44 ?_
        refine J_iconst Y qX8_feed_45 ?_
        refine J_isub Y qX8_feed_46 ?_
        refine J_istore_3 Y qX8_feed_47 rfl ?_
        obtain ⟨k, rfl⟩ := nat_of (show 0 ≤ b by omega)
        have e8 : f_feed M a (k : Int) = ((r : Int) + k, fdM M a r k k) := by
          unfold f_feed
          simp only [hr, Int.toNat_natCast]
          rw [if_neg (by omega), if_neg (by omega), if_neg (by omega)]
        rw [e8] at X
        have h := lp_feed hI (by omega) hr (by omega) X (k + 1) 0 (by omega) (by omega)
        rw [fdM_0 M a r k hr] at h
        simpa using h
      · refine J_aloadr_0 Y qX8_feed_37 ?_
        refine J_bipush Y qX8_feed_38 (by decide) ?_
        refine J_cV1F Y qX8_feed_40 mX8_66 iyX8_refused (by decide) rfl (by decide) rfl (Nat.le_of_ble_eq_true rfl) (c_refused (w := 8) _ _ _ (by decide) (by decide)) ?_
        exact J_iret X qX8_feed_43 (RF_i (by
          unfold f_feed
          try simp only [Int.toNat_natCast]
          repeat (first | rw [if_pos (by omega)] | rw [if_neg (by omega)])
          try rfl))
    · refine J_aloadr_0 Y qX8_feed_16 ?_
      refine J_bipush Y qX8_feed_17 (by decide) ?_
      refine J_cV1F Y qX8_feed_19 mX8_66 iyX8_refused (by decide) rfl (by decide) rfl (Nat.le_of_ble_eq_true rfl) (c_refused (w := 7) _ _ _ (by decide) (by decide)) ?_
      exact J_iret X qX8_feed_22 (RF_i (by
        unfold f_feed
        try simp only [Int.toNat_natCast]
        repeat (first | rw [if_pos (by omega)] | rw [if_neg (by omega)])
        try rfl))
  · refine J_aloadr_0 Y qX8_feed_4 ?_
    refine J_bipush Y qX8_feed_5 (by decide) ?_
    refine J_cV1F Y qX8_feed_7 mX8_66 iyX8_refused (by decide) rfl (by decide) rfl (Nat.le_of_ble_eq_true rfl) (c_refused (w := 4) _ _ _ (by decide) (by decide)) ?_
    exact J_iret X qX8_feed_10 (RF_i (by
      unfold f_feed
      try simp only [Int.toNat_natCast]
      repeat (first | rw [if_pos (by omega)] | rw [if_neg (by omega)])
      try rfl))


/-! ===== the class: the tape is read ===== -/
def TQ (T : Nat → Int) (n : Int) : Prop := 0 ≤ n ∧ n ≤ 80 ∧ ∀ k : Nat, (k : Int) < n → 0 ≤ T k ∧ T k ≤ 255
theorem up_twice {M : Mem} {f i k : Nat} {y z : Int} : up (up M f i k y) f i k z = up M f i k z := by funext a b c; grind [up]
theorem up_num {M : Mem} {q v w x : Int} : up (up (up (up M 6 0 2 q) 6 0 3 v) 6 0 3 w) 6 0 2 x = up (up M 6 0 2 x) 6 0 3 w := by funext a b c; grind [up]
section TLOAD
variable {G : Gx} {E : Fx} {cc : ByteArray} {own : String} {nL d pc pc2 : Nat} {L : List (Option Value)} {st : List Value} {M : Mem}
theorem J_aloadt_1 (X : Ok G E cc own nL d) {a0 : Option Value} {i : Nat} (q : Ins cc pc 1 pc2 (.aload_n 1)) (k : J G E pc2 (a0 :: some (tx G i) :: L) (tx G i :: st) M) : J G E pc (a0 :: some (tx G i) :: L) st M := J_aload_1 X q k
end TLOAD
theorem c_ahead (l : Launch) (G : Gx) (M : Mem) {T : Nat → Int} {n p : Int} (hQ : TQ T n) (hT : M 29 0 = T) (hn : M 6 0 1 = n) {k : Int} (hp : M 6 0 2 + k = p) (p0 : 0 ≤ p) (p1 : p ≤ 81) : Ct l G 1 yX6_ahead cX6_ahead 3 ((Option.some Jvm.ClassFile.FieldType.int)) [rf G 6 0, vi k] M (RP M (ahd T n p)) := by
  refine Ct.of rfl (Nat.le_of_ble_eq_true rfl) rfl (fun E X => ?_)
  have Y := X.ok
  obtain ⟨n0, n1, n2⟩ := hQ
  refine J_aloadr_0 Y qX6_ahead_0 ?_
  refine J_getI Y qX6_ahead_1 fX6_19 (by decide) ?_
  refine J_iload_1 Y qX6_ahead_4 ?_
  refine J_iadd Y qX6_ahead_5 ?_
  rw [hp]
  refine J_istore_2 Y qX6_ahead_6 rfl ?_
  refine J_iload_2 Y qX6_ahead_7 ?_
  refine J_if_lt Y qX6_ahead_8 (by omega) (by omega) (fun h8 => ?_) (fun h8 => ?_)
  · exfalso; omega
  · refine J_iload_2 Y qX6_ahead_11 ?_
    refine J_aloadr_0 Y qX6_ahead_12 ?_
    refine J_getI Y qX6_ahead_13 fX6_15 (by decide) ?_
    rw [hn]
    refine J_icmp_ge Y qX6_ahead_16 (by omega) (by omega) (by omega) (by omega) (fun h16 => ?_) (fun h16 => ?_)
    · refine J_iconst Y qX6_ahead_28 ?_
      exact J_iret X qX6_ahead_29 (RP_i (by unfold ahd; rw [← hT]; first | rw [if_pos (by omega)] | rw [if_neg (by omega)]))
    · refine J_aloadr_0 Y qX6_ahead_19 ?_
      refine J_getR Y qX6_ahead_20 fX6_9 (by decide) ?_
      refine J_iload_2 Y qX6_ahead_23 ?_
      refine J_iaload Y qX6_ahead_24 rfl (by decide) (by omega) (by omega) (by decide) ?_
      refine J_goto Y qX6_ahead_25 ?_
      exact J_iret X qX6_ahead_29 (RP_i (by unfold ahd; rw [← hT]; first | rw [if_pos (by omega)] | rw [if_neg (by omega)]))

theorem c_isDigit (l : Launch) (G : Gx) (M : Mem) {c : Int} (h1 : -1 ≤ c) (h2 : c ≤ 255) : Ct l G 1 yX6_isDigit cX6_isDigit 1 ((Option.some Jvm.ClassFile.FieldType.boolean)) [vi c] M (RB M (48 ≤ c ∧ c ≤ 57)) := by
  refine Ct.of rfl (Nat.le_of_ble_eq_true rfl) rfl (fun E X => ?_)
  have Y := X.ok
  refine J_iload_0 Y qX6_isDigit_0 ?_
  refine J_bipush Y qX6_isDigit_1 (by decide) ?_
  refine J_icmp_lt Y qX6_isDigit_3 (by omega) (by omega) (by omega) (by omega) (fun h3 => ?_) (fun h3 => ?_)
  · refine J_iconst Y qX6_isDigit_16 ?_
    exact J_zret_f X qX6_isDigit_17 rfl (by omega)
  · refine J_iload_0 Y qX6_isDigit_6 ?_
    refine J_bipush Y qX6_isDigit_7 (by decide) ?_
    refine J_icmp_gt Y qX6_isDigit_9 (by omega) (by omega) (by omega) (by omega) (fun h9 => ?_) (fun h9 => ?_)
    · refine J_iconst Y qX6_isDigit_16 ?_
      exact J_zret_f X qX6_isDigit_17 rfl (by omega)
    · refine J_iconst Y qX6_isDigit_12 ?_
      refine J_goto Y qX6_isDigit_13 ?_
      exact J_zret_t X qX6_isDigit_17 rfl (by omega)

theorem c_takeSign (l : Launch) (G : Gx) (M : Mem) {T : Nat → Int} {n p : Int} (hQ : TQ T n) (hT : M 29 0 = T) (hn : M 6 0 1 = n) (hp : M 6 0 2 = p) (p0 : 0 ≤ p) (p1 : p ≤ n) : Ct l G 2 yX6_takeSign cX6_takeSign 2 ((Option.some Jvm.ClassFile.FieldType.boolean)) [rf G 6 0] M (RI (fun z M2 => M2 = up M 6 0 2 (p + z) ∧ ((z = 1 ∧ (ahd T n p = 60 ∨ ahd T n p = 61 ∨ ahd T n p = 62)) ∨ (z = 0 ∧ ahd T n p ≠ 60 ∧ ahd T n p ≠ 61 ∧ ahd T n p ≠ 62)))) := by
  refine Ct.of rfl (Nat.le_of_ble_eq_true rfl) rfl (fun E X => ?_)
  have Y := X.ok
  have hQ2 := hQ
  obtain ⟨n0, n1, n2⟩ := hQ2
  obtain ⟨a1, a2, a3⟩ := ahd_rng n2 p0
  refine J_aloadr_0 Y qX6_takeSign_0 ?_
  refine J_iconst Y qX6_takeSign_1 ?_
  refine J_cV1P Y qX6_takeSign_2 mX6_32 iyX6_ahead (by decide) rfl (by decide) rfl (Nat.le_of_ble_eq_true rfl) (c_ahead _ _ _ (p := p) hQ hT hn (by omega) (by omega) (by omega)) ?_
  refine J_istore_1 Y qX6_takeSign_5 rfl ?_
  refine J_iload_1 Y qX6_takeSign_6 ?_
  refine J_bipush Y qX6_takeSign_7 (by decide) ?_
  refine J_icmp_eq Y qX6_takeSign_9 (by omega) (by omega) (by omega) (by omega) (fun h9 => ?_) (fun h9 => ?_)
  · refine J_aloadr_0 Y qX6_takeSign_26 ?_
    refine J_dup Y qX6_takeSign_27 rfl ?_
    refine J_getI Y qX6_takeSign_28 fX6_19 (by decide) ?_
    rw [hp]
    refine J_iconst Y qX6_takeSign_31 ?_
    refine J_iadd Y qX6_takeSign_32 ?_
    refine J_putI Y qX6_takeSign_33 fX6_19w (by decide) ?_
    refine J_iconst Y qX6_takeSign_36 ?_
    exact J_zret X qX6_takeSign_37 (Or.inr rfl) ⟨_, rfl, rfl, Or.inl ⟨rfl, by omega⟩⟩
  · refine J_iload_1 Y qX6_takeSign_12 ?_
    refine J_bipush Y qX6_takeSign_13 (by decide) ?_
    refine J_icmp_eq Y qX6_takeSign_15 (by omega) (by omega) (by omega) (by omega) (fun h15 => ?_) (fun h15 => ?_)
    · refine J_aloadr_0 Y qX6_takeSign_26 ?_
      refine J_dup Y qX6_takeSign_27 rfl ?_
      refine J_getI Y qX6_takeSign_28 fX6_19 (by decide) ?_
      rw [hp]
      refine J_iconst Y qX6_takeSign_31 ?_
      refine J_iadd Y qX6_takeSign_32 ?_
      refine J_putI Y qX6_takeSign_33 fX6_19w (by decide) ?_
      refine J_iconst Y qX6_takeSign_36 ?_
      exact J_zret X qX6_takeSign_37 (Or.inr rfl) ⟨_, rfl, rfl, Or.inl ⟨rfl, by omega⟩⟩
    · refine J_iload_1 Y qX6_takeSign_18 ?_
      refine J_bipush Y qX6_takeSign_19 (by decide) ?_
      refine J_icmp_eq Y qX6_takeSign_21 (by omega) (by omega) (by omega) (by omega) (fun h21 => ?_) (fun h21 => ?_)
      · refine J_aloadr_0 Y qX6_takeSign_26 ?_
        refine J_dup Y qX6_takeSign_27 rfl ?_
        refine J_getI Y qX6_takeSign_28 fX6_19 (by decide) ?_
        rw [hp]
        refine J_iconst Y qX6_takeSign_31 ?_
        refine J_iadd Y qX6_takeSign_32 ?_
        refine J_putI Y qX6_takeSign_33 fX6_19w (by decide) ?_
        refine J_iconst Y qX6_takeSign_36 ?_
        exact J_zret X qX6_takeSign_37 (Or.inr rfl) ⟨_, rfl, rfl, Or.inl ⟨rfl, by omega⟩⟩
      · refine J_iconst Y qX6_takeSign_24 ?_
        exact J_zret X qX6_takeSign_25 (Or.inl rfl) ⟨_, rfl, (by rw [Int.add_zero, up_eq hp]), Or.inr ⟨rfl, by omega⟩⟩

theorem lp_takeNumber {l : Launch} {G : Gx} {E : Fx} {M : Mem} {T : Nat → Int} {n p : Int} (hQ : TQ T n) (hT : M 29 0 = T) (hn : M 6 0 1 = n)  (p0 : 0 ≤ p) (X : OkM l G E cX6_takeNumber RX6 2 2 (some .boolean) (RI (fun z M2 => z = (if (numF T n 4 p 0).1 = p then 0 else 1) ∧ M2 = up (up M 6 0 2 (numF T n 4 p 0).1) 6 0 3 (numF T n 4 p 0).2))) : ∀ (m i : Nat) (q v : Int), i + m = 4 → q = p + i → 0 ≤ q → q ≤ n → 0 ≤ v → numF T n 4 p 0 = numF T n m q v → J G E 7 [some (rf G 6 0), some (vi (i : Int))] [] (up (up M 6 0 2 q) 6 0 3 v) := by
  have Y := X.ok
  have hQ2 := hQ
  obtain ⟨n0, n1, n2⟩ := hQ2
  intro m
  induction m with
  | zero =>
    intro i q v h1 h2 q0 q1 v0 hR
    refine J_iload_1 Y qX6_takeNumber_7 ?_
    refine J_iconst Y qX6_takeNumber_8 ?_
    refine J_icmp_ge Y qX6_takeNumber_9 (by omega) (by omega) (by omega) (by omega) (fun h9 => ?_) (fun h9 => ?_)
    · refine J_iload_1 Y qX6_takeNumber_59 ?_
      refine J_if_le Y qX6_takeNumber_60 (by omega) (by omega) (fun h60 => ?_) (fun h60 => ?_)
      · refine J_iconst Y qX6_takeNumber_67 ?_
        exact J_zret X qX6_takeNumber_68 (Or.inl rfl) ⟨_, rfl, by rw [hR, numF]; rw [if_pos (by show q = p; omega)], by rw [hR, numF]⟩
      · refine J_iconst Y qX6_takeNumber_63 ?_
        refine J_goto Y qX6_takeNumber_64 ?_
        exact J_zret X qX6_takeNumber_68 (Or.inr rfl) ⟨_, rfl, by rw [hR, numF]; rw [if_neg (by show ¬ q = p; omega)], by rw [hR, numF]⟩
    · exfalso; omega

  | succ m ih =>
    intro i q v h1 h2 q0 q1 v0 hR
    obtain ⟨a1, a2, a3⟩ := ahd_rng n2 q0
    refine J_iload_1 Y qX6_takeNumber_7 ?_
    refine J_iconst Y qX6_takeNumber_8 ?_
    refine J_icmp_ge Y qX6_takeNumber_9 (by omega) (by omega) (by omega) (by omega) (fun h9 => ?_) (fun h9 => ?_)
    · exfalso; omega
    · refine J_aloadr_0 Y qX6_takeNumber_12 ?_
      refine J_iconst Y qX6_takeNumber_13 ?_
      refine J_cV1P Y qX6_takeNumber_14 mX6_32 iyX6_ahead (by decide) rfl (by decide) rfl (Nat.le_of_ble_eq_true rfl) (c_ahead _ _ (up (up M 6 0 2 q) 6 0 3 v) (p := q) hQ hT hn (Int.add_zero q) (by omega) (by omega)) ?_
      refine J_cS1B Y qX6_takeNumber_17 mX6_110 iyX6_isDigit rfl (by decide) rfl (Nat.le_of_ble_eq_true rfl) (c_isDigit _ _ _ (by omega) (by omega)) (fun h17 => ?_) (fun h17 => ?_)
      · refine J_eq1 Y qX6_takeNumber_20 ?_
        refine J_aloadr_0 Y qX6_takeNumber_23 ?_
        refine J_bipush Y qX6_takeNumber_24 (by decide) ?_
        refine J_aloadr_0 Y qX6_takeNumber_26 ?_
        refine J_getI Y qX6_takeNumber_27 fX6_22 (by decide) ?_
        refine J_imul Y qX6_takeNumber_30 ?_
        refine J_aloadr_0 Y qX6_takeNumber_31 ?_
        refine J_iconst Y qX6_takeNumber_32 ?_
        refine J_cV1P Y qX6_takeNumber_33 mX6_32 iyX6_ahead (by decide) rfl (by decide) rfl (Nat.le_of_ble_eq_true rfl) (c_ahead _ _ (up (up M 6 0 2 q) 6 0 3 v) (p := q) hQ hT hn (Int.add_zero q) (by omega) (by omega)) ?_
        refine J_iadd Y qX6_takeNumber_36 ?_
        refine J_bipush Y qX6_takeNumber_37 (by decide) ?_
        refine J_isub Y qX6_takeNumber_39 ?_
        refine J_putI Y qX6_takeNumber_40 fX6_22w (by decide) ?_
        refine J_aloadr_0 Y qX6_takeNumber_43 ?_
        refine J_dup Y qX6_takeNumber_44 rfl ?_
        refine J_getI Y qX6_takeNumber_45 fX6_19 (by decide) ?_
        refine J_iconst Y qX6_takeNumber_48 ?_
        refine J_iadd Y qX6_takeNumber_49 ?_
        refine J_putI Y qX6_takeNumber_50 fX6_19w (by decide) ?_
        refine J_iinc_1 Y qX6_takeNumber_53 rfl ?_
        refine J_goto Y qX6_takeNumber_56 ?_
        have hc := ih (i + 1) (q + 1) (10 * v + ahd T n q - 48) (by omega) (by omega) (by omega) (by have := a3 (by omega); omega) (by omega) (by rw [hR, numF, if_pos ⟨by omega, by omega⟩])
        rw [up_num]
        exact hc
      · refine J_eq0 Y qX6_takeNumber_20 ?_
        refine J_iload_1 Y qX6_takeNumber_59 ?_
        refine J_if_le Y qX6_takeNumber_60 (by omega) (by omega) (fun h60 => ?_) (fun h60 => ?_)
        · refine J_iconst Y qX6_takeNumber_67 ?_
          exact J_zret X qX6_takeNumber_68 (Or.inl rfl) ⟨_, rfl, by rw [hR, numF, if_neg (fun h => h17 h)]; rw [if_pos (by show q = p; omega)], by rw [hR, numF, if_neg (fun h => h17 h)]⟩
        · refine J_iconst Y qX6_takeNumber_63 ?_
          refine J_goto Y qX6_takeNumber_64 ?_
          exact J_zret X qX6_takeNumber_68 (Or.inr rfl) ⟨_, rfl, by rw [hR, numF, if_neg (fun h => h17 h)]; rw [if_neg (by show ¬ q = p; omega)], by rw [hR, numF, if_neg (fun h => h17 h)]⟩

theorem c_takeNumber (l : Launch) (G : Gx) (M : Mem) {T : Nat → Int} {n p : Int} (hQ : TQ T n) (hT : M 29 0 = T) (hn : M 6 0 1 = n) (hp : M 6 0 2 = p) (p0 : 0 ≤ p) (p1 : p ≤ n) : Ct l G 2 yX6_takeNumber cX6_takeNumber 2 ((Option.some Jvm.ClassFile.FieldType.boolean)) [rf G 6 0] M (RI (fun z M2 => z = (if (numF T n 4 p 0).1 = p then 0 else 1) ∧ M2 = up (up M 6 0 2 (numF T n 4 p 0).1) 6 0 3 (numF T n 4 p 0).2)) := by
  refine Ct.of rfl (Nat.le_of_ble_eq_true rfl) rfl (fun E X => ?_)
  have Y := X.ok
  refine J_aloadr_0 Y qX6_takeNumber_0 ?_
  refine J_iconst Y qX6_takeNumber_1 ?_
  refine J_putI Y qX6_takeNumber_2 fX6_22w (by decide) ?_
  refine J_iconst Y qX6_takeNumber_5 ?_
  refine J_istore_1 Y qX6_takeNumber_6 rfl ?_
  rw [show up M 6 0 3 0 = up (up M 6 0 2 p) 6 0 3 0 from by rw [up_eq hp]]
  exact lp_takeNumber hQ hT hn p0 X 4 0 p 0 rfl (by omega) p0 p1 (by omega) rfl

theorem lp_takeWord {l : Launch} {G : Gx} {E : Fx} {M : Mem} {T : Nat → Int} {n p : Int} (hQ : TQ T n) (hT : M 29 0 = T) (hn : M 6 0 1 = n)  {i : Nat} (hi : i < 10) (X : OkM l G E cX6_takeWord RX6 3 5 (some .boolean) (RI (fun z M2 => z = (eatW T n i p).1 ∧ M2 = up M 6 0 2 (eatW T n i p).2))) : ∀ (m j : Nat) (q : Int), j + m = sN i → 0 ≤ q → q ≤ n → eatW T n i p = eatF T n (sC i) m j q → J G E 2 [some (rf G 6 0), some (tx G i), some (vi (j : Int))] [] (up M 6 0 2 q) := by
  have Y := X.ok
  have hQ2 := hQ
  obtain ⟨n0, n1, n2⟩ := hQ2
  have h6 := sN_rng i hi
  intro m
  induction m with
  | zero =>
    intro j q h1 q0 q1 hR
    refine J_iload_2 Y qX6_takeWord_2 ?_
    refine J_aloadt_1 Y qX6_takeWord_3 ?_
    refine J_cT0P Y qX6_takeWord_4 mX6_102 ty_len hi rfl (by decide) rfl (Nat.le_of_ble_eq_true rfl) (c_length _ _ _ hi) ?_
    refine J_icmp_ge Y qX6_takeWord_7 (by omega) (by omega) (by omega) (by omega) (fun h7 => ?_) (fun h7 => ?_)
    · refine J_iconst Y qX6_takeWord_41 ?_
      exact J_zret X qX6_takeWord_42 (Or.inr rfl) ⟨_, rfl, by rw [hR]; rfl, by rw [hR]; rfl⟩
    · exfalso; omega

  | succ m ih =>
    intro j q h1 q0 q1 hR
    obtain ⟨a1, a2, a3⟩ := ahd_rng n2 q0
    have hcr := sC_rng i hi j (by omega)
    refine J_iload_2 Y qX6_takeWord_2 ?_
    refine J_aloadt_1 Y qX6_takeWord_3 ?_
    refine J_cT0P Y qX6_takeWord_4 mX6_102 ty_len hi rfl (by decide) rfl (Nat.le_of_ble_eq_true rfl) (c_length _ _ _ hi) ?_
    refine J_icmp_ge Y qX6_takeWord_7 (by omega) (by omega) (by omega) (by omega) (fun h7 => ?_) (fun h7 => ?_)
    · exfalso; omega
    · refine J_aloadr_0 Y qX6_takeWord_10 ?_
      refine J_iconst Y qX6_takeWord_11 ?_
      refine J_cV1P Y qX6_takeWord_12 mX6_32 iyX6_ahead (by decide) rfl (by decide) rfl (Nat.le_of_ble_eq_true rfl) (c_ahead _ _ (up M 6 0 2 q) (p := q) hQ hT hn (Int.add_zero q) (by omega) (by omega)) ?_
      have hcr := sC_rng i hi j (by omega)
      refine J_aloadt_1 Y qX6_takeWord_15 ?_
      refine J_iload_2 Y qX6_takeWord_16 ?_
      refine J_cT1P Y qX6_takeWord_17 mX6_106 ty_chr hi rfl (by decide) rfl (Nat.le_of_ble_eq_true rfl) (c_charAt _ _ _ hi (by omega)) ?_
      refine J_icmp_eq Y qX6_takeWord_20 (by omega) (by omega) (by omega) (by omega) (fun h20 => ?_) (fun h20 => ?_)
      · refine J_aloadr_0 Y qX6_takeWord_25 ?_
        refine J_dup Y qX6_takeWord_26 rfl ?_
        refine J_getI Y qX6_takeWord_27 fX6_19 (by decide) ?_
        refine J_iconst Y qX6_takeWord_30 ?_
        refine J_iadd Y qX6_takeWord_31 ?_
        refine J_putI Y qX6_takeWord_32 fX6_19w (by decide) ?_
        refine J_iinc_2 Y qX6_takeWord_35 rfl ?_
        refine J_goto Y qX6_takeWord_38 ?_
        have hc := ih (j + 1) (q + 1) (by omega) (by omega) (by have := a3 (by omega); omega) (by rw [hR, eatF, if_pos h20])
        rw [up_twice]
        exact hc
      · refine J_iconst Y qX6_takeWord_23 ?_
        exact J_zret X qX6_takeWord_24 (Or.inl rfl) ⟨_, rfl, by rw [hR, eatF, if_neg h20], by rw [hR, eatF, if_neg h20]⟩

theorem c_takeWord (l : Launch) (G : Gx) (M : Mem) {T : Nat → Int} {n p : Int} (hQ : TQ T n) (hT : M 29 0 = T) (hn : M 6 0 1 = n) (hp : M 6 0 2 = p) (p0 : 0 ≤ p) (p1 : p ≤ n) {i : Nat} (hi : i < 10) : Ct l G 5 yX6_takeWord cX6_takeWord 3 ((Option.some Jvm.ClassFile.FieldType.boolean)) [rf G 6 0, tx G i] M (RI (fun z M2 => z = (eatW T n i p).1 ∧ M2 = up M 6 0 2 (eatW T n i p).2)) := by
  refine Ct.of rfl (Nat.le_of_ble_eq_true rfl) rfl (fun E X => ?_)
  have Y := X.ok
  refine J_iconst Y qX6_takeWord_0 ?_
  refine J_istore_2 Y qX6_takeWord_1 rfl ?_
  have hc := lp_takeWord hQ hT hn hi X (sN i) 0 p (by omega) p0 p1 rfl
  rwa [up_eq hp] at hc


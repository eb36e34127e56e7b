/-! ===== the class: a rule is read ===== -/
/-- the same but for the tape's place and one test -/
def TsE (r t : Nat) (M2 M : Mem) : Prop := ∀ x y k : Nat, ¬ (x = 6 ∧ y = 0 ∧ (k = 2 ∨ k = 3)) → ¬ (19 ≤ x ∧ x ≤ 22 ∧ y = r ∧ k = t) → M2 x y k = M x y k
def TsP (T : Nat → Int) (n p : Int) (r t : Nat) (M : Mem) (z : Int) (M2 : Mem) : Prop := TsE r t M2 M ∧ M2 6 0 2 = (tstP T n p).1 ∧ p ≤ (tstP T n p).1 ∧ (tstP T n p).1 ≤ n ∧ ((z = 0 ∧ (tstP T n p).2 = none) ∨ (z = 1 ∧ (tstP T n p).2 = some (M2 22 r t, M2 19 r t, M2 20 r t, M2 21 r t)))
theorem c_wordOf (l : Launch) (G : Gx) (M : Mem) {f : Nat} (hf : f < 5) : Ct l G 1 yX6_wordOf cX6_wordOf 1 ((Option.some (Jvm.ClassFile.FieldType.object "java/lang/String"))) [vi (f : Int)] M (RA (fun a M2 => a = adK G (5 + f) ∧ M2 = M)) := by
  refine Ct.of rfl (Nat.le_of_ble_eq_true rfl) rfl (fun E X => ?_)
  have Y := X.ok
  refine J_iload_0 Y qX6_wordOf_0 ?_
  rcases (show f = 0 ∨ f = 1 ∨ f = 2 ∨ f = 3 ∨ f = 4 by omega) with rfl | rfl | rfl | rfl | rfl
  · refine J_tswIn (tg := 32) Y qX6_wordOf_1 (by decide) (by decide) (by decide) (by decide) rfl (by decide) ?_
    refine J_ldcS Y 5 qX6_wordOf_32 (by decide) rfl ?_
    exact J_aret X qX6_wordOf_34 (Or.inl ⟨_, rfl⟩) ⟨_, rfl, rfl, rfl⟩
  · refine J_tswIn (tg := 35) Y qX6_wordOf_1 (by decide) (by decide) (by decide) (by decide) rfl (by decide) ?_
    refine J_ldcS Y 6 qX6_wordOf_35 (by decide) rfl ?_
    exact J_aret X qX6_wordOf_37 (Or.inl ⟨_, rfl⟩) ⟨_, rfl, rfl, rfl⟩
  · refine J_tswIn (tg := 38) Y qX6_wordOf_1 (by decide) (by decide) (by decide) (by decide) rfl (by decide) ?_
    refine J_ldcS Y 7 qX6_wordOf_38 (by decide) rfl ?_
    exact J_aret X qX6_wordOf_40 (Or.inl ⟨_, rfl⟩) ⟨_, rfl, rfl, rfl⟩
  · refine J_tswIn (tg := 41) Y qX6_wordOf_1 (by decide) (by decide) (by decide) (by decide) rfl (by decide) ?_
    refine J_ldcS Y 8 qX6_wordOf_41 (by decide) rfl ?_
    exact J_aret X qX6_wordOf_43 (Or.inl ⟨_, rfl⟩) ⟨_, rfl, rfl, rfl⟩
  · refine J_tswOut (tg := 44) Y qX6_wordOf_1 (by decide) (by decide) (by decide) (by decide) ?_
    refine J_ldcS Y 9 qX6_wordOf_44 (by decide) rfl ?_
    exact J_aret X qX6_wordOf_46 (Or.inl ⟨_, rfl⟩) ⟨_, rfl, rfl, rfl⟩

theorem c_fieldAhead (l : Launch) (G : Gx) (M : Mem) {T : Nat → Int} {n p : Int} (hQ : TQ T n) (hT : M 29 0 = T) (hn : M 6 0 1 = n) (hp : M 6 0 2 = p) (p0 : 0 ≤ p) (p1 : p ≤ n) : Ct l G 2 yX6_fieldAhead cX6_fieldAhead 1 ((Option.some Jvm.ClassFile.FieldType.int)) [rf G 6 0] M (RP M (fldF (ahd T n p) (ahd T n (p + 1)))) := by
  refine Ct.of rfl (Nat.le_of_ble_eq_true rfl) rfl (fun E X => ?_)
  have Y := X.ok
  have hQ2 := hQ
  obtain ⟨n0, n1, n2⟩ := hQ2
  obtain ⟨a1, a2, a3⟩ := ahd_rng n2 p0
  obtain ⟨b1, b2, b3⟩ := ahd_rng n2 (show 0 ≤ p + 1 by omega)
  refine J_aloadr_0 Y qX6_fieldAhead_0 ?_
  refine J_iconst Y qX6_fieldAhead_1 ?_
  refine J_cV1P Y qX6_fieldAhead_2 mX6_32 iyX6_ahead (by decide) rfl (by decide) rfl (Nat.le_of_ble_eq_true rfl) (c_ahead _ _ _ (p := p) hQ (by exact hT) (by exact hn) (by omega) (by omega) (by omega)) ?_
  rcases (show ahd T n p = 97 ∨ ahd T n p = 112 ∨ ahd T n p = 115 ∨ (ahd T n p ≠ 97 ∧ ahd T n p ≠ 112 ∧ ahd T n p ≠ 115) by omega) with hc | hc | hc | hc
  · rw [hc]
    refine J_lsw (off := 51) (tg := 56) Y qX6_fieldAhead_5 (by decide) (by decide) (by decide) (by decide) (by decide) ?_
    refine J_iconst Y qX6_fieldAhead_56 ?_
    exact J_iret X qX6_fieldAhead_57 (RP_i (by unfold fldF; simp [hc]; try omega))
  · rw [hc]
    refine J_lsw (off := 53) (tg := 58) Y qX6_fieldAhead_5 (by decide) (by decide) (by decide) (by decide) (by decide) ?_
    refine J_iconst Y qX6_fieldAhead_58 ?_
    exact J_iret X qX6_fieldAhead_59 (RP_i (by unfold fldF; simp [hc]; try omega))
  · rw [hc]
    refine J_lsw (off := 35) (tg := 40) Y qX6_fieldAhead_5 (by decide) (by decide) (by decide) (by decide) (by decide) ?_
    refine J_aloadr_0 Y qX6_fieldAhead_40 ?_
    refine J_iconst Y qX6_fieldAhead_41 ?_
    refine J_cV1P Y qX6_fieldAhead_42 mX6_32 iyX6_ahead (by decide) rfl (by decide) rfl (Nat.le_of_ble_eq_true rfl) (c_ahead _ _ _ (p := p + 1) hQ (by exact hT) (by exact hn) (by omega) (by omega) (by omega)) ?_
    refine J_bipush Y qX6_fieldAhead_45 (by decide) ?_
    refine J_icmp_ne Y qX6_fieldAhead_47 (by omega) (by omega) (by omega) (by omega) (fun h47 => ?_) (fun h47 => ?_)
    · refine J_iconst Y qX6_fieldAhead_54 ?_
      exact J_iret X qX6_fieldAhead_55 (RP_i (by unfold fldF; simp [hc]; try omega))
    · refine J_iconst Y qX6_fieldAhead_50 ?_
      refine J_goto Y qX6_fieldAhead_51 ?_
      exact J_iret X qX6_fieldAhead_55 (RP_i (by unfold fldF; simp [hc]; try omega))
  · refine J_lsw (off := 55) (tg := 60) Y qX6_fieldAhead_5 (by omega) (by omega) (by decide) (by simp [Op.lookupswitch.offset]; omega) (by decide) ?_
    refine J_iconst Y qX6_fieldAhead_60 ?_
    exact J_iret X qX6_fieldAhead_61 (RP_i (by unfold fldF; simp [hc]; try omega))

def tsD (T : Nat → Int) (n p b q1 : Int) : Prop := (ahd T n p = 110 ∧ b = 1 ∧ ∃ z, z ≠ 0 ∧ eatW T n 4 p = (z, q1)) ∨ (ahd T n p ≠ 110 ∧ b = 0 ∧ q1 = p)
section TST
variable {T : Nat → Int} {n p b q1 z1 z2 q2 q3 v : Int} {f : Nat}
theorem tst_1 (hb : ahd T n p = 110) (e1 : eatW T n 4 p = (z1, q1)) (h : z1 = 0) : tstP T n p = (q1, none) := by simp [tstP, hb, e1, h]
theorem tst_2 (hD : tsD T n p b q1) (hf : fldF (ahd T n q1) (ahd T n (q1 + 1)) = (f : Int)) (e2 : eatW T n (5 + f) q1 = (z2, q2)) (h : z2 = 0) : tstP T n p = (q2, none) := by
  rcases hD with ⟨hb, rfl, z, hz, e1⟩ | ⟨hb, rfl, rfl⟩
  · simp [tstP, hb, e1, hz, hf, e2, h]
  · simp [tstP, hb, hf, e2, h]
theorem tst_3 (hD : tsD T n p b q1) (hf : fldF (ahd T n q1) (ahd T n (q1 + 1)) = (f : Int)) (e2 : eatW T n (5 + f) q1 = (z2, q2)) (h : ¬ z2 = 0) (hs : ahd T n q2 ≠ 60 ∧ ahd T n q2 ≠ 61 ∧ ahd T n q2 ≠ 62) : tstP T n p = (q2, none) := by
  rcases hD with ⟨hb, rfl, z, hz, e1⟩ | ⟨hb, rfl, rfl⟩
  · simp [tstP, hb, e1, hz, hf, e2, h, hs]
  · simp [tstP, hb, hf, e2, h, hs]
theorem tst_4 (hD : tsD T n p b q1) (hf : fldF (ahd T n q1) (ahd T n (q1 + 1)) = (f : Int)) (e2 : eatW T n (5 + f) q1 = (z2, q2)) (h : ¬ z2 = 0) (hs : ahd T n q2 = 60 ∨ ahd T n q2 = 61 ∨ ahd T n q2 = 62) (e3 : numF T n 4 (q2 + 1) 0 = (q3, v)) : tstP T n p = if q3 = q2 + 1 then (q3, none) else (q3, some (b, (f : Int), ahd T n q2, v)) := by
  have hs2 : ¬ (ahd T n q2 ≠ 60 ∧ ahd T n q2 ≠ 61 ∧ ahd T n q2 ≠ 62) := by omega
  rcases hD with ⟨hb, rfl, z, hz, e1⟩ | ⟨hb, rfl, rfl⟩
  · simp only [tstP, hb, e1, hz, hf, e2, h, hs2, e3, if_true, if_false, Int.toNat_natCast]
  · simp only [tstP, hb, hf, e2, h, hs2, e3, if_true, if_false, Int.toNat_natCast]
    rfl
end TST
theorem c_takeTest (l : Launch) (G : Gx) (M : Mem) {T : Nat → Int} {n p : Int} (hQ : TQ T n) (hT : M 29 0 = T) (hn : M 6 0 1 = n) (hp : M 6 0 2 = p) (p0 : 0 ≤ p) (p1 : p ≤ n) {r t : Nat} (hr : r < 10) (ht : t < 3) : Ct l G 6 yX6_takeTest cX6_takeTest 4 ((Option.some Jvm.ClassFile.FieldType.boolean)) [rf G 6 0, rf G 3 r, vi (t : Nat)] M (RI (TsP T n p r t M)) := by
  refine Ct.of rfl (Nat.le_of_ble_eq_true rfl) rfl (fun E X => ?_)
  have Y := X.ok
  have hQ2 := hQ
  obtain ⟨n0, n1, n2⟩ := hQ2
  obtain ⟨a1, a2, a3⟩ := ahd_rng n2 p0
  by_cases hb : ahd T n p = 110
  · refine J_aloadr_1 Y qX6_takeTest_0 ?_
    refine J_getR Y qX6_takeTest_1 fX6_66 (by show _ < 10; omega) ?_
    refine J_iload_2 Y qX6_takeTest_4 ?_
    refine J_aloadr_0 Y qX6_takeTest_5 ?_
    refine J_iconst Y qX6_takeTest_6 ?_
    refine J_cV1P Y qX6_takeTest_7 mX6_32 iyX6_ahead (by decide) rfl (by decide) rfl (Nat.le_of_ble_eq_true rfl) (c_ahead _ _ _ (p := p) hQ (by exact hT) (by exact hn) (by omega) (by omega) (by omega)) ?_
    refine J_bipush Y qX6_takeTest_10 (by decide) ?_
    refine J_icmp_ne Y qX6_takeTest_12 (by omega) (by omega) (by omega) (by omega) (fun h12 => ?_) (fun h12 => ?_)
    · exfalso; omega
    · refine J_iconst Y qX6_takeTest_15 ?_
      refine J_goto Y qX6_takeTest_16 ?_
      refine J_bastoreN (kx := t) Y qX6_takeTest_20 rfl (by show _ < 10; omega) rfl (by omega) (by decide) (Or.inr rfl) ?_
      refine J_aloadr_1 Y qX6_takeTest_21 ?_
      refine J_getR Y qX6_takeTest_22 fX6_66 (by show _ < 10; omega) ?_
      refine J_iload_2 Y qX6_takeTest_25 ?_
      refine J_baloadN (kx := t) Y qX6_takeTest_26 rfl (by show _ < 10; omega) rfl (by omega) (by decide) ?_
      rw [up_same]
      refine J_eq1 Y qX6_takeTest_27 ?_
      refine J_aloadr_0 Y qX6_takeTest_30 ?_
      refine J_ldcS Y 4 qX6_takeTest_31 (by decide) rfl ?_
      refine J_cV1I Y qX6_takeTest_33 mX6_46 iyX6_takeWord (by decide) rfl (by decide) rfl (Nat.le_of_ble_eq_true rfl) (c_takeWord _ _ _ (i := 4) (p := p) hQ (by exact hT) (by exact hn) (by first | exact hp | rfl) (by omega) (by omega) (by decide)) (fun z33 M2 h33 => ?_)
      obtain ⟨rfl, rfl⟩ := h33
      obtain ⟨w1, w2, w3⟩ := eatW_rng n2 (show 4 < 10 by omega) (show 0 ≤ p by omega) (show p ≤ n by omega)
      generalize e1 : eatW T n (4) p = u at w1 w2 w3 ⊢
      obtain ⟨z1, q1⟩ := u
      simp only at w1 w2 w3
      skip
      refine J_if_ne Y qX6_takeTest_36 (by omega) (by omega) (fun h36 => ?_) (fun h36 => ?_)
      · have hD : tsD T n p 1 q1 := Or.inl ⟨hb, rfl, z1, h36, e1⟩
        refine J_aloadr_1 Y qX6_takeTest_41 ?_
        refine J_getR Y qX6_takeTest_42 fX6_72 (by show _ < 10; omega) ?_
        refine J_iload_2 Y qX6_takeTest_45 ?_
        refine J_aloadr_0 Y qX6_takeTest_46 ?_
        refine J_cV0P Y qX6_takeTest_47 mX6_75 iyX6_fieldAhead (by decide) rfl (by decide) rfl (Nat.le_of_ble_eq_true rfl) (c_fieldAhead _ _ _ (p := q1) hQ (by exact hT) (by exact hn) (by first | rfl | (rw [hq1]; exact hp)) (by omega) (by omega)) ?_
        obtain ⟨f1, f2⟩ := fldF_rng (ahd T n q1) (ahd T n (q1 + 1))
        obtain ⟨f, hf⟩ := nat_of f1
        rw [hf]
        refine J_iastoreN (kx := t) Y qX6_takeTest_50 rfl (by show _ < 10; omega) rfl (by omega) (by decide) ?_
        refine J_aloadr_0 Y qX6_takeTest_51 ?_
        refine J_aloadr_1 Y qX6_takeTest_52 ?_
        refine J_getR Y qX6_takeTest_53 fX6_72 (by show _ < 10; omega) ?_
        refine J_iload_2 Y qX6_takeTest_56 ?_
        refine J_ialoadN (kx := t) Y qX6_takeTest_57 rfl (by show _ < 10; omega) rfl (by omega) (by decide) ?_
        rw [up_same]
        refine J_cS1A Y qX6_takeTest_58 mX6_79 iyX6_wordOf rfl (by decide) rfl (Nat.le_of_ble_eq_true rfl) (c_wordOf _ _ _ (by omega)) (fun z58 M2 h58 => ?_)
        obtain ⟨rfl, rfl⟩ := h58
        refine J_cV1I Y qX6_takeTest_61 mX6_46 iyX6_takeWord (by decide) rfl (by decide) rfl (Nat.le_of_ble_eq_true rfl) (c_takeWord _ _ _ (i := 5 + f) (p := q1) hQ (by exact hT) (by exact hn) (by first | rfl | (rw [hq1]; exact hp)) (by omega) (by omega) (by omega)) (fun z61 M2 h61 => ?_)
        obtain ⟨rfl, rfl⟩ := h61
        obtain ⟨w1, w2, w3⟩ := eatW_rng n2 (show 5 + f < 10 by omega) (show 0 ≤ q1 by omega) (show q1 ≤ n by omega)
        generalize e2 : eatW T n (5 + f) q1 = u at w1 w2 w3 ⊢
        obtain ⟨z2, q2⟩ := u
        simp only at w1 w2 w3
        skip
        refine J_if_ne Y qX6_takeTest_64 (by omega) (by omega) (fun h64 => ?_) (fun h64 => ?_)
        · refine J_aloadr_1 Y qX6_takeTest_69 ?_
          refine J_getR Y qX6_takeTest_70 fX6_83 (by show _ < 10; omega) ?_
          refine J_iload_2 Y qX6_takeTest_73 ?_
          refine J_aloadr_0 Y qX6_takeTest_74 ?_
          refine J_iconst Y qX6_takeTest_75 ?_
          refine J_cV1P Y qX6_takeTest_76 mX6_32 iyX6_ahead (by decide) rfl (by decide) rfl (Nat.le_of_ble_eq_true rfl) (c_ahead _ _ _ (p := q2) hQ (by exact hT) (by exact hn) (Int.add_zero q2) (by omega) (by omega)) ?_
          obtain ⟨c1, c2, c3⟩ := ahd_rng n2 (show 0 ≤ q2 by omega)
          refine J_iastoreN (kx := t) Y qX6_takeTest_79 rfl (by show _ < 10; omega) rfl (by omega) (by decide) ?_
          refine J_aloadr_0 Y qX6_takeTest_80 ?_
          refine J_cV0I Y qX6_takeTest_81 mX6_86 iyX6_takeSign (by decide) rfl (by decide) rfl (Nat.le_of_ble_eq_true rfl) (c_takeSign _ _ _ (p := q2) hQ (by exact hT) (by exact hn) (by rfl) (by omega) (by omega)) (fun z81 M2 h81 => ?_)
          obtain ⟨rfl, s1⟩ := h81
          obtain ⟨c1, c2, c3⟩ := ahd_rng n2 (show 0 ≤ q2 by omega)
          refine J_if_eq Y qX6_takeTest_84 (by omega) (by omega) (fun h84 => ?_) (fun h84 => ?_)
          · refine J_iconst Y qX6_takeTest_98 ?_
            refine J_istore_3 Y qX6_takeTest_99 rfl ?_
            refine J_aloadr_1 Y qX6_takeTest_100 ?_
            refine J_getR Y qX6_takeTest_101 fX6_89 (by show _ < 10; omega) ?_
            refine J_iload_2 Y qX6_takeTest_104 ?_
            refine J_aloadr_0 Y qX6_takeTest_105 ?_
            refine J_getI Y qX6_takeTest_106 fX6_22 (by decide) ?_
            refine J_iastoreN (kx := t) Y qX6_takeTest_109 rfl (by show _ < 10; omega) rfl (by omega) (by decide) ?_
            refine J_iload_3 Y qX6_takeTest_110 ?_
            first
            | (have hE := tst_3 hD hf e2 h64 (by omega)
               exact J_zret X qX6_takeTest_111 (Or.inl rfl) ⟨_, rfl, fun x y k x1 x2 => by (simp only [up]; repeat rw [if_neg (by omega)]), by rw [hE]; show q2 + z81 = q2; omega, by rw [hE]; show p ≤ q2; omega, by rw [hE]; exact w3, Or.inl ⟨rfl, by rw [hE]⟩⟩)
            | (have hE := tst_4 hD hf e2 h64 s2 e3
               rw [if_pos (by omega)] at hE
               exact J_zret X qX6_takeTest_111 (Or.inl rfl) ⟨_, rfl, fun x y k x1 x2 => by (simp only [up]; repeat rw [if_neg (by omega)]), by rw [hE]; rfl, by rw [hE]; show p ≤ q3; omega, by rw [hE]; exact v2, Or.inl ⟨rfl, by rw [hE]⟩⟩)
          · refine J_aloadr_0 Y qX6_takeTest_87 ?_
            refine J_cV0I Y qX6_takeTest_88 mX6_50 iyX6_takeNumber (by decide) rfl (by decide) rfl (Nat.le_of_ble_eq_true rfl) (c_takeNumber _ _ _ (p := q2 + z81) hQ (by exact hT) (by exact hn) (by rfl) (by omega) (by omega)) (fun z88 M2 h88 => ?_)
            obtain ⟨rfl, s2⟩ : z81 = 1 ∧ (ahd T n q2 = 60 ∨ ahd T n q2 = 61 ∨ ahd T n q2 = 62) := by omega
            obtain ⟨rfl, rfl⟩ := h88
            obtain ⟨v1, v2, v3, v4⟩ := numF_rng n2 4 (q2 + 1) 0 (by omega) (by omega) (by omega)
            generalize e3 : numF T n 4 (q2 + 1) 0 = u at v1 v2 v3 v4 ⊢
            obtain ⟨q3, v⟩ := u
            simp only at v1 v2 v3 v4 ⊢
            refine J_if_eq Y qX6_takeTest_91 (by omega) (by omega) (fun h91 => ?_) (fun h91 => ?_)
            · refine J_iconst Y qX6_takeTest_98 ?_
              refine J_istore_3 Y qX6_takeTest_99 rfl ?_
              refine J_aloadr_1 Y qX6_takeTest_100 ?_
              refine J_getR Y qX6_takeTest_101 fX6_89 (by show _ < 10; omega) ?_
              refine J_iload_2 Y qX6_takeTest_104 ?_
              refine J_aloadr_0 Y qX6_takeTest_105 ?_
              refine J_getI Y qX6_takeTest_106 fX6_22 (by decide) ?_
              refine J_iastoreN (kx := t) Y qX6_takeTest_109 rfl (by show _ < 10; omega) rfl (by omega) (by decide) ?_
              refine J_iload_3 Y qX6_takeTest_110 ?_
              first
              | (have hE := tst_3 hD hf e2 h64 (by omega)
                 exact J_zret X qX6_takeTest_111 (Or.inl rfl) ⟨_, rfl, fun x y k x1 x2 => by (simp only [up]; repeat rw [if_neg (by omega)]), by rw [hE]; show q2 + z81 = q2; omega, by rw [hE]; show p ≤ q2; omega, by rw [hE]; exact w3, Or.inl ⟨rfl, by rw [hE]⟩⟩)
              | (have hE := tst_4 hD hf e2 h64 s2 e3
                 rw [if_pos (by omega)] at hE
                 exact J_zret X qX6_takeTest_111 (Or.inl rfl) ⟨_, rfl, fun x y k x1 x2 => by (simp only [up]; repeat rw [if_neg (by omega)]), by rw [hE]; rfl, by rw [hE]; show p ≤ q3; omega, by rw [hE]; exact v2, Or.inl ⟨rfl, by rw [hE]⟩⟩)
            · refine J_iconst Y qX6_takeTest_94 ?_
              refine J_goto Y qX6_takeTest_95 ?_
              refine J_istore_3 Y qX6_takeTest_99 rfl ?_
              refine J_aloadr_1 Y qX6_takeTest_100 ?_
              refine J_getR Y qX6_takeTest_101 fX6_89 (by show _ < 10; omega) ?_
              refine J_iload_2 Y qX6_takeTest_104 ?_
              refine J_aloadr_0 Y qX6_takeTest_105 ?_
              refine J_getI Y qX6_takeTest_106 fX6_22 (by decide) ?_
              refine J_iastoreN (kx := t) Y qX6_takeTest_109 rfl (by show _ < 10; omega) rfl (by omega) (by decide) ?_
              refine J_iload_3 Y qX6_takeTest_110 ?_
              have hE := tst_4 hD hf e2 h64 s2 e3
              rw [if_neg (by omega)] at hE
              exact J_zret X qX6_takeTest_111 (Or.inr rfl) ⟨_, rfl, fun x y k x1 x2 => by (simp only [up]; repeat rw [if_neg (by omega)]), by rw [hE]; rfl, by rw [hE]; show p ≤ q3; omega, by rw [hE]; exact v2, Or.inr ⟨rfl, by rw [hE]; simp [up]⟩⟩
        · refine J_iconst Y qX6_takeTest_67 ?_
          have hE := tst_2 hD hf e2 h64
          exact J_zret X qX6_takeTest_68 (Or.inl rfl) ⟨_, rfl, fun x y k x1 x2 => by (simp only [up]; repeat rw [if_neg (by omega)]), by rw [hE]; rfl, by rw [hE]; show p ≤ q2; omega, by rw [hE]; exact w3, Or.inl ⟨rfl, by rw [hE]⟩⟩
      · refine J_iconst Y qX6_takeTest_39 ?_
        have hE := tst_1 hb e1 h36
        exact J_zret X qX6_takeTest_40 (Or.inl rfl) ⟨_, rfl, fun x y k x1 x2 => by (simp only [up]; repeat rw [if_neg (by omega)]), by rw [hE]; rfl, by rw [hE]; exact w2, by rw [hE]; exact w3, Or.inl ⟨rfl, by rw [hE]⟩⟩
  · refine J_aloadr_1 Y qX6_takeTest_0 ?_
    refine J_getR Y qX6_takeTest_1 fX6_66 (by show _ < 10; omega) ?_
    refine J_iload_2 Y qX6_takeTest_4 ?_
    refine J_aloadr_0 Y qX6_takeTest_5 ?_
    refine J_iconst Y qX6_takeTest_6 ?_
    refine J_cV1P Y qX6_takeTest_7 mX6_32 iyX6_ahead (by decide) rfl (by decide) rfl (Nat.le_of_ble_eq_true rfl) (c_ahead _ _ _ (p := p) hQ (by exact hT) (by exact hn) (by omega) (by omega) (by omega)) ?_
    refine J_bipush Y qX6_takeTest_10 (by decide) ?_
    refine J_icmp_ne Y qX6_takeTest_12 (by omega) (by omega) (by omega) (by omega) (fun h12 => ?_) (fun h12 => ?_)
    · refine J_iconst Y qX6_takeTest_19 ?_
      refine J_bastoreN (kx := t) Y qX6_takeTest_20 rfl (by show _ < 10; omega) rfl (by omega) (by decide) (Or.inl rfl) ?_
      refine J_aloadr_1 Y qX6_takeTest_21 ?_
      refine J_getR Y qX6_takeTest_22 fX6_66 (by show _ < 10; omega) ?_
      refine J_iload_2 Y qX6_takeTest_25 ?_
      refine J_baloadN (kx := t) Y qX6_takeTest_26 rfl (by show _ < 10; omega) rfl (by omega) (by decide) ?_
      rw [up_same]
      refine J_eq0 Y qX6_takeTest_27 ?_
      obtain ⟨q1, hq1⟩ : ∃ q, q = p := ⟨p, rfl⟩
      have hD : tsD T n p 0 q1 := Or.inr ⟨hb, rfl, hq1⟩
      refine J_aloadr_1 Y qX6_takeTest_41 ?_
      refine J_getR Y qX6_takeTest_42 fX6_72 (by show _ < 10; omega) ?_
      refine J_iload_2 Y qX6_takeTest_45 ?_
      refine J_aloadr_0 Y qX6_takeTest_46 ?_
      refine J_cV0P Y qX6_takeTest_47 mX6_75 iyX6_fieldAhead (by decide) rfl (by decide) rfl (Nat.le_of_ble_eq_true rfl) (c_fieldAhead _ _ _ (p := q1) hQ (by exact hT) (by exact hn) (by first | rfl | (rw [hq1]; exact hp)) (by omega) (by omega)) ?_
      obtain ⟨f1, f2⟩ := fldF_rng (ahd T n q1) (ahd T n (q1 + 1))
      obtain ⟨f, hf⟩ := nat_of f1
      rw [hf]
      refine J_iastoreN (kx := t) Y qX6_takeTest_50 rfl (by show _ < 10; omega) rfl (by omega) (by decide) ?_
      refine J_aloadr_0 Y qX6_takeTest_51 ?_
      refine J_aloadr_1 Y qX6_takeTest_52 ?_
      refine J_getR Y qX6_takeTest_53 fX6_72 (by show _ < 10; omega) ?_
      refine J_iload_2 Y qX6_takeTest_56 ?_
      refine J_ialoadN (kx := t) Y qX6_takeTest_57 rfl (by show _ < 10; omega) rfl (by omega) (by decide) ?_
      rw [up_same]
      refine J_cS1A Y qX6_takeTest_58 mX6_79 iyX6_wordOf rfl (by decide) rfl (Nat.le_of_ble_eq_true rfl) (c_wordOf _ _ _ (by omega)) (fun z58 M2 h58 => ?_)
      obtain ⟨rfl, rfl⟩ := h58
      refine J_cV1I Y qX6_takeTest_61 mX6_46 iyX6_takeWord (by decide) rfl (by decide) rfl (Nat.le_of_ble_eq_true rfl) (c_takeWord _ _ _ (i := 5 + f) (p := q1) hQ (by exact hT) (by exact hn) (by first | rfl | (rw [hq1]; exact hp)) (by omega) (by omega) (by omega)) (fun z61 M2 h61 => ?_)
      obtain ⟨rfl, rfl⟩ := h61
      obtain ⟨w1, w2, w3⟩ := eatW_rng n2 (show 5 + f < 10 by omega) (show 0 ≤ q1 by omega) (show q1 ≤ n by omega)
      generalize e2 : eatW T n (5 + f) q1 = u at w1 w2 w3 ⊢
      obtain ⟨z2, q2⟩ := u
      simp only at w1 w2 w3
      skip
      refine J_if_ne Y qX6_takeTest_64 (by omega) (by omega) (fun h64 => ?_) (fun h64 => ?_)
      · refine J_aloadr_1 Y qX6_takeTest_69 ?_
        refine J_getR Y qX6_takeTest_70 fX6_83 (by show _ < 10; omega) ?_
        refine J_iload_2 Y qX6_takeTest_73 ?_
        refine J_aloadr_0 Y qX6_takeTest_74 ?_
        refine J_iconst Y qX6_takeTest_75 ?_
        refine J_cV1P Y qX6_takeTest_76 mX6_32 iyX6_ahead (by decide) rfl (by decide) rfl (Nat.le_of_ble_eq_true rfl) (c_ahead _ _ _ (p := q2) hQ (by exact hT) (by exact hn) (Int.add_zero q2) (by omega) (by omega)) ?_
        obtain ⟨c1, c2, c3⟩ := ahd_rng n2 (show 0 ≤ q2 by omega)
        refine J_iastoreN (kx := t) Y qX6_takeTest_79 rfl (by show _ < 10; omega) rfl (by omega) (by decide) ?_
        refine J_aloadr_0 Y qX6_takeTest_80 ?_
        refine J_cV0I Y qX6_takeTest_81 mX6_86 iyX6_takeSign (by decide) rfl (by decide) rfl (Nat.le_of_ble_eq_true rfl) (c_takeSign _ _ _ (p := q2) hQ (by exact hT) (by exact hn) (by rfl) (by omega) (by omega)) (fun z81 M2 h81 => ?_)
        obtain ⟨rfl, s1⟩ := h81
        obtain ⟨c1, c2, c3⟩ := ahd_rng n2 (show 0 ≤ q2 by omega)
        refine J_if_eq Y qX6_takeTest_84 (by omega) (by omega) (fun h84 => ?_) (fun h84 => ?_)
        · refine J_iconst Y qX6_takeTest_98 ?_
          refine J_istore_3 Y qX6_takeTest_99 rfl ?_
          refine J_aloadr_1 Y qX6_takeTest_100 ?_
          refine J_getR Y qX6_takeTest_101 fX6_89 (by show _ < 10; omega) ?_
          refine J_iload_2 Y qX6_takeTest_104 ?_
          refine J_aloadr_0 Y qX6_takeTest_105 ?_
          refine J_getI Y qX6_takeTest_106 fX6_22 (by decide) ?_
          refine J_iastoreN (kx := t) Y qX6_takeTest_109 rfl (by show _ < 10; omega) rfl (by omega) (by decide) ?_
          refine J_iload_3 Y qX6_takeTest_110 ?_
          first
          | (have hE := tst_3 hD hf e2 h64 (by omega)
             exact J_zret X qX6_takeTest_111 (Or.inl rfl) ⟨_, rfl, fun x y k x1 x2 => by (simp only [up]; repeat rw [if_neg (by omega)]), by rw [hE]; show q2 + z81 = q2; omega, by rw [hE]; show p ≤ q2; omega, by rw [hE]; exact w3, Or.inl ⟨rfl, by rw [hE]⟩⟩)
          | (have hE := tst_4 hD hf e2 h64 s2 e3
             rw [if_pos (by omega)] at hE
             exact J_zret X qX6_takeTest_111 (Or.inl rfl) ⟨_, rfl, fun x y k x1 x2 => by (simp only [up]; repeat rw [if_neg (by omega)]), by rw [hE]; rfl, by rw [hE]; show p ≤ q3; omega, by rw [hE]; exact v2, Or.inl ⟨rfl, by rw [hE]⟩⟩)
        · refine J_aloadr_0 Y qX6_takeTest_87 ?_
          refine J_cV0I Y qX6_takeTest_88 mX6_50 iyX6_takeNumber (by decide) rfl (by decide) rfl (Nat.le_of_ble_eq_true rfl) (c_takeNumber _ _ _ (p := q2 + z81) hQ (by exact hT) (by exact hn) (by rfl) (by omega) (by omega)) (fun z88 M2 h88 => ?_)
          obtain ⟨rfl, s2⟩ : z81 = 1 ∧ (ahd T n q2 = 60 ∨ ahd T n q2 = 61 ∨ ahd T n q2 = 62) := by omega
          obtain ⟨rfl, rfl⟩ := h88
          obtain ⟨v1, v2, v3, v4⟩ := numF_rng n2 4 (q2 + 1) 0 (by omega) (by omega) (by omega)
          generalize e3 : numF T n 4 (q2 + 1) 0 = u at v1 v2 v3 v4 ⊢
          obtain ⟨q3, v⟩ := u
          simp only at v1 v2 v3 v4 ⊢
          refine J_if_eq Y qX6_takeTest_91 (by omega) (by omega) (fun h91 => ?_) (fun h91 => ?_)
          · refine J_iconst Y qX6_takeTest_98 ?_
            refine J_istore_3 Y qX6_takeTest_99 rfl ?_
            refine J_aloadr_1 Y qX6_takeTest_100 ?_
            refine J_getR Y qX6_takeTest_101 fX6_89 (by show _ < 10; omega) ?_
            refine J_iload_2 Y qX6_takeTest_104 ?_
            refine J_aloadr_0 Y qX6_takeTest_105 ?_
            refine J_getI Y qX6_takeTest_106 fX6_22 (by decide) ?_
            refine J_iastoreN (kx := t) Y qX6_takeTest_109 rfl (by show _ < 10; omega) rfl (by omega) (by decide) ?_
            refine J_iload_3 Y qX6_takeTest_110 ?_
            first
            | (have hE := tst_3 hD hf e2 h64 (by omega)
               exact J_zret X qX6_takeTest_111 (Or.inl rfl) ⟨_, rfl, fun x y k x1 x2 => by (simp only [up]; repeat rw [if_neg (by omega)]), by rw [hE]; show q2 + z81 = q2; omega, by rw [hE]; show p ≤ q2; omega, by rw [hE]; exact w3, Or.inl ⟨rfl, by rw [hE]⟩⟩)
            | (have hE := tst_4 hD hf e2 h64 s2 e3
               rw [if_pos (by omega)] at hE
               exact J_zret X qX6_takeTest_111 (Or.inl rfl) ⟨_, rfl, fun x y k x1 x2 => by (simp only [up]; repeat rw [if_neg (by omega)]), by rw [hE]; rfl, by rw [hE]; show p ≤ q3; omega, by rw [hE]; exact v2, Or.inl ⟨rfl, by rw [hE]⟩⟩)
          · refine J_iconst Y qX6_takeTest_94 ?_
            refine J_goto Y qX6_takeTest_95 ?_
            refine J_istore_3 Y qX6_takeTest_99 rfl ?_
            refine J_aloadr_1 Y qX6_takeTest_100 ?_
            refine J_getR Y qX6_takeTest_101 fX6_89 (by show _ < 10; omega) ?_
            refine J_iload_2 Y qX6_takeTest_104 ?_
            refine J_aloadr_0 Y qX6_takeTest_105 ?_
            refine J_getI Y qX6_takeTest_106 fX6_22 (by decide) ?_
            refine J_iastoreN (kx := t) Y qX6_takeTest_109 rfl (by show _ < 10; omega) rfl (by omega) (by decide) ?_
            refine J_iload_3 Y qX6_takeTest_110 ?_
            have hE := tst_4 hD hf e2 h64 s2 e3
            rw [if_neg (by omega)] at hE
            exact J_zret X qX6_takeTest_111 (Or.inr rfl) ⟨_, rfl, fun x y k x1 x2 => by (simp only [up]; repeat rw [if_neg (by omega)]), by rw [hE]; rfl, by rw [hE]; show p ≤ q3; omega, by rw [hE]; exact v2, Or.inr ⟨rfl, by rw [hE]; simp [up]⟩⟩
      · refine J_iconst Y qX6_takeTest_67 ?_
        have hE := tst_2 hD hf e2 h64
        exact J_zret X qX6_takeTest_68 (Or.inl rfl) ⟨_, rfl, fun x y k x1 x2 => by (simp only [up]; repeat rw [if_neg (by omega)]), by rw [hE]; rfl, by rw [hE]; show p ≤ q2; omega, by rw [hE]; exact w3, Or.inl ⟨rfl, by rw [hE]⟩⟩
    · exfalso; omega


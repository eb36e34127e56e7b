/-! ===== the class: rule ===== -/
def SlE (r : Nat) (M2 M : Mem) : Prop := ∀ x y k : Nat, ¬ (x = 6 ∧ y = 0 ∧ (k = 2 ∨ k = 3)) → ¬ (x = 3 ∧ y = r ∧ (k = 0 ∨ k = 1 ∨ k = 8)) → ¬ (19 ≤ x ∧ x ≤ 22 ∧ y = r) → M2 x y k = M x y k
def hdP (T : Nat → Int) (n p : Int) : Int × Option Int :=
  let e1 := eatW T n (if ahd T n p = 98 then 0 else 1) p
  if e1.1 = 0 then (e1.2, none) else
  let e2 := numF T n 4 e1.2 0
  if e2.1 = e1.2 then (e2.1, none) else (e2.1, some e2.2)
def HdP (T : Nat → Int) (n p : Int) (r : Nat) (M : Mem) (z : Int) (M2 : Mem) : Prop := SlE r M2 M ∧ M2 3 r 0 = (if ahd T n p = 98 then 1 else 0) ∧ M2 6 0 2 = (hdP T n p).1 ∧ p ≤ (hdP T n p).1 ∧ (hdP T n p).1 ≤ n ∧ ((z = 0 ∧ (hdP T n p).2 = none) ∨ (z = 1 ∧ (hdP T n p).2 = some (M2 3 r 1)))
section HEAD
variable {T : Nat → Int} {n p q1 z1 q3 v : Int} {i : Nat}
theorem hd_1 (hi : (if ahd T n p = 98 then 0 else 1) = i) (e1 : eatW T n i p = (z1, q1)) (h : z1 = 0) : hdP T n p = (q1, none) := by simp [hdP, hi, e1, h]
theorem hd_2 (hi : (if ahd T n p = 98 then 0 else 1) = i) (e1 : eatW T n i p = (z1, q1)) (h : ¬ z1 = 0) (e3 : numF T n 4 q1 0 = (q3, v)) : hdP T n p = if q3 = q1 then (q3, none) else (q3, some v) := by simp [hdP, hi, e1, h, e3]
end HEAD
theorem c_takeHead (l : Launch) (G : Gx) (M : Mem) {T : Nat → Int} {n p : Int} (hQ : TQ T n) (hT : M 29 0 = T) (hn : M 6 0 1 = n) (hp : M 6 0 2 = p) (p0 : 0 ≤ p) (p1 : p ≤ n) {r : Nat} (hr : r < 10) : Ct l G 6 yX6_takeHead cX6_takeHead 3 ((Option.some Jvm.ClassFile.FieldType.boolean)) [rf G 6 0, rf G 3 r] M (RI (HdP T n p r M)) := by
  refine Ct.of rfl (Nat.le_of_ble_eq_true rfl) rfl (fun E X => ?_)
  have Y := X.ok
  have hQ2 := hQ
  obtain ⟨n0, n1, n2⟩ := hQ2
  obtain ⟨a1, a2, a3⟩ := ahd_rng n2 p0
  by_cases hb : ahd T n p = 98
  · have hi0 : (if ahd T n p = 98 then 0 else 1) = 0 := by rw [if_pos hb]
    have hb0 : (if ahd T n p = 98 then (1 : Int) else 0) = 1 := by rw [if_pos hb]
    refine J_aloadr_1 Y qX6_takeHead_0 ?_
    refine J_aloadr_0 Y qX6_takeHead_1 ?_
    refine J_iconst Y qX6_takeHead_2 ?_
    refine J_cV1P Y qX6_takeHead_3 mX6_32 iyX6_ahead (by decide) rfl (by decide) rfl (Nat.le_of_ble_eq_true rfl) (c_ahead _ _ _ (p := p) hQ hT hn (by omega) (by omega) (by omega)) ?_
    refine J_bipush Y qX6_takeHead_6 (by decide) ?_
    refine J_icmp_ne Y qX6_takeHead_8 (by omega) (by omega) (by omega) (by omega) (fun h8 => ?_) (fun h8 => ?_)
    · exfalso; omega
    · refine J_iconst Y qX6_takeHead_11 ?_
      refine J_goto Y qX6_takeHead_12 ?_
      refine J_putZ Y qX6_takeHead_16 fX6_36w (Or.inr rfl) (by show _ < 10; omega) ?_
      refine J_aloadr_0 Y qX6_takeHead_19 ?_
      refine J_aloadr_1 Y qX6_takeHead_20 ?_
      refine J_getI Y qX6_takeHead_21 fX6_36 (by show _ < 10; omega) ?_
      rw [up_same]
      refine J_eq1 Y qX6_takeHead_24 ?_
      refine J_ldcS Y 0 qX6_takeHead_27 (by decide) rfl ?_
      refine J_goto Y qX6_takeHead_29 ?_
      refine J_cV1I Y qX6_takeHead_34 mX6_46 iyX6_takeWord (by decide) rfl (by decide) rfl (Nat.le_of_ble_eq_true rfl) (c_takeWord _ _ _ (i := 0) (p := p) hQ (by exact hT) (by exact hn) (by first | exact hp | rfl) (by omega) (by omega) (by decide)) (fun z34 M2 h34 => ?_)
      obtain ⟨rfl, rfl⟩ := h34
      obtain ⟨w1, w2, w3⟩ := eatW_rng n2 (show 0 < 10 by omega) (show 0 ≤ p by omega) (show p ≤ n by omega)
      generalize e1 : eatW T n (0) p = u at w1 w2 w3 ⊢
      obtain ⟨z1, q1⟩ := u
      simp only at w1 w2 w3
      skip
      refine J_if_eq Y qX6_takeHead_37 (by omega) (by omega) (fun h37 => ?_) (fun h37 => ?_)
      · refine J_iconst Y qX6_takeHead_51 ?_
        refine J_istore_2 Y qX6_takeHead_52 rfl ?_
        refine J_aloadr_1 Y qX6_takeHead_53 ?_
        refine J_aloadr_0 Y qX6_takeHead_54 ?_
        refine J_getI Y qX6_takeHead_55 fX6_22 (by decide) ?_
        refine J_putI Y qX6_takeHead_58 fX6_54w (by show _ < 10; omega) ?_
        refine J_iload_2 Y qX6_takeHead_61 ?_
        first
        | (have hE := hd_1 hi0 e1 h37
           exact J_zret X qX6_takeHead_62 (Or.inl rfl) ⟨_, rfl, fun x y k x1 x2 x3 => by (simp only [up]; repeat rw [if_neg (by omega)]), by rw [hb0]; simp [up], by rw [hE]; rfl, by rw [hE]; exact w2, by rw [hE]; exact w3, Or.inl ⟨rfl, by rw [hE]⟩⟩)
        | (have hE := hd_2 hi0 e1 h37 e3
           rw [if_pos (by omega)] at hE
           exact J_zret X qX6_takeHead_62 (Or.inl rfl) ⟨_, rfl, fun x y k x1 x2 x3 => by (simp only [up]; repeat rw [if_neg (by omega)]), by rw [hb0]; simp [up], by rw [hE]; rfl, by rw [hE]; show p ≤ q3; omega, by rw [hE]; exact v2, Or.inl ⟨rfl, by rw [hE]⟩⟩)
      · refine J_aloadr_0 Y qX6_takeHead_40 ?_
        refine J_cV0I Y qX6_takeHead_41 mX6_50 iyX6_takeNumber (by decide) rfl (by decide) rfl (Nat.le_of_ble_eq_true rfl) (c_takeNumber _ _ _ (p := q1) hQ (by exact hT) (by exact hn) (by rfl) (by omega) (by omega)) (fun z41 M2 h41 => ?_)
        obtain ⟨rfl, rfl⟩ := h41
        obtain ⟨v1, v2, v3, v4⟩ := numF_rng n2 4 q1 0 (by omega) (by omega) (by omega)
        generalize e3 : numF T n 4 q1 0 = u at v1 v2 v3 v4 ⊢
        obtain ⟨q3, v⟩ := u
        simp only at v1 v2 v3 v4 ⊢
        refine J_if_eq Y qX6_takeHead_44 (by omega) (by omega) (fun h44 => ?_) (fun h44 => ?_)
        · refine J_iconst Y qX6_takeHead_51 ?_
          refine J_istore_2 Y qX6_takeHead_52 rfl ?_
          refine J_aloadr_1 Y qX6_takeHead_53 ?_
          refine J_aloadr_0 Y qX6_takeHead_54 ?_
          refine J_getI Y qX6_takeHead_55 fX6_22 (by decide) ?_
          refine J_putI Y qX6_takeHead_58 fX6_54w (by show _ < 10; omega) ?_
          refine J_iload_2 Y qX6_takeHead_61 ?_
          first
          | (have hE := hd_1 hi0 e1 h37
             exact J_zret X qX6_takeHead_62 (Or.inl rfl) ⟨_, rfl, fun x y k x1 x2 x3 => by (simp only [up]; repeat rw [if_neg (by omega)]), by rw [hb0]; simp [up], by rw [hE]; rfl, by rw [hE]; exact w2, by rw [hE]; exact w3, Or.inl ⟨rfl, by rw [hE]⟩⟩)
          | (have hE := hd_2 hi0 e1 h37 e3
             rw [if_pos (by omega)] at hE
             exact J_zret X qX6_takeHead_62 (Or.inl rfl) ⟨_, rfl, fun x y k x1 x2 x3 => by (simp only [up]; repeat rw [if_neg (by omega)]), by rw [hb0]; simp [up], by rw [hE]; rfl, by rw [hE]; show p ≤ q3; omega, by rw [hE]; exact v2, Or.inl ⟨rfl, by rw [hE]⟩⟩)
        · refine J_iconst Y qX6_takeHead_47 ?_
          refine J_goto Y qX6_takeHead_48 ?_
          refine J_istore_2 Y qX6_takeHead_52 rfl ?_
          refine J_aloadr_1 Y qX6_takeHead_53 ?_
          refine J_aloadr_0 Y qX6_takeHead_54 ?_
          refine J_getI Y qX6_takeHead_55 fX6_22 (by decide) ?_
          refine J_putI Y qX6_takeHead_58 fX6_54w (by show _ < 10; omega) ?_
          refine J_iload_2 Y qX6_takeHead_61 ?_
          have hE := hd_2 hi0 e1 h37 e3
          rw [if_neg (by omega)] at hE
          exact J_zret X qX6_takeHead_62 (Or.inr rfl) ⟨_, rfl, fun x y k x1 x2 x3 => by (simp only [up]; repeat rw [if_neg (by omega)]), by rw [hb0]; simp [up], by rw [hE]; rfl, by rw [hE]; show p ≤ q3; omega, by rw [hE]; exact v2, Or.inr ⟨rfl, by rw [hE]; simp [up]⟩⟩
  · have hi0 : (if ahd T n p = 98 then 0 else 1) = 1 := by rw [if_neg hb]
    have hb0 : (if ahd T n p = 98 then (1 : Int) else 0) = 0 := by rw [if_neg hb]
    refine J_aloadr_1 Y qX6_takeHead_0 ?_
    refine J_aloadr_0 Y qX6_takeHead_1 ?_
    refine J_iconst Y qX6_takeHead_2 ?_
    refine J_cV1P Y qX6_takeHead_3 mX6_32 iyX6_ahead (by decide) rfl (by decide) rfl (Nat.le_of_ble_eq_true rfl) (c_ahead _ _ _ (p := p) hQ hT hn (by omega) (by omega) (by omega)) ?_
    refine J_bipush Y qX6_takeHead_6 (by decide) ?_
    refine J_icmp_ne Y qX6_takeHead_8 (by omega) (by omega) (by omega) (by omega) (fun h8 => ?_) (fun h8 => ?_)
    · refine J_iconst Y qX6_takeHead_15 ?_
      refine J_putZ Y qX6_takeHead_16 fX6_36w (Or.inl rfl) (by show _ < 10; omega) ?_
      refine J_aloadr_0 Y qX6_takeHead_19 ?_
      refine J_aloadr_1 Y qX6_takeHead_20 ?_
      refine J_getI Y qX6_takeHead_21 fX6_36 (by show _ < 10; omega) ?_
      rw [up_same]
      refine J_eq0 Y qX6_takeHead_24 ?_
      refine J_ldcS Y 1 qX6_takeHead_32 (by decide) rfl ?_
      refine J_cV1I Y qX6_takeHead_34 mX6_46 iyX6_takeWord (by decide) rfl (by decide) rfl (Nat.le_of_ble_eq_true rfl) (c_takeWord _ _ _ (i := 1) (p := p) hQ (by exact hT) (by exact hn) (by first | exact hp | rfl) (by omega) (by omega) (by decide)) (fun z34 M2 h34 => ?_)
      obtain ⟨rfl, rfl⟩ := h34
      obtain ⟨w1, w2, w3⟩ := eatW_rng n2 (show 1 < 10 by omega) (show 0 ≤ p by omega) (show p ≤ n by omega)
      generalize e1 : eatW T n (1) p = u at w1 w2 w3 ⊢
      obtain ⟨z1, q1⟩ := u
      simp only at w1 w2 w3
      skip
      refine J_if_eq Y qX6_takeHead_37 (by omega) (by omega) (fun h37 => ?_) (fun h37 => ?_)
      · refine J_iconst Y qX6_takeHead_51 ?_
        refine J_istore_2 Y qX6_takeHead_52 rfl ?_
        refine J_aloadr_1 Y qX6_takeHead_53 ?_
        refine J_aloadr_0 Y qX6_takeHead_54 ?_
        refine J_getI Y qX6_takeHead_55 fX6_22 (by decide) ?_
        refine J_putI Y qX6_takeHead_58 fX6_54w (by show _ < 10; omega) ?_
        refine J_iload_2 Y qX6_takeHead_61 ?_
        first
        | (have hE := hd_1 hi0 e1 h37
           exact J_zret X qX6_takeHead_62 (Or.inl rfl) ⟨_, rfl, fun x y k x1 x2 x3 => by (simp only [up]; repeat rw [if_neg (by omega)]), by rw [hb0]; simp [up], by rw [hE]; rfl, by rw [hE]; exact w2, by rw [hE]; exact w3, Or.inl ⟨rfl, by rw [hE]⟩⟩)
        | (have hE := hd_2 hi0 e1 h37 e3
           rw [if_pos (by omega)] at hE
           exact J_zret X qX6_takeHead_62 (Or.inl rfl) ⟨_, rfl, fun x y k x1 x2 x3 => by (simp only [up]; repeat rw [if_neg (by omega)]), by rw [hb0]; simp [up], by rw [hE]; rfl, by rw [hE]; show p ≤ q3; omega, by rw [hE]; exact v2, Or.inl ⟨rfl, by rw [hE]⟩⟩)
      · refine J_aloadr_0 Y qX6_takeHead_40 ?_
        refine J_cV0I Y qX6_takeHead_41 mX6_50 iyX6_takeNumber (by decide) rfl (by decide) rfl (Nat.le_of_ble_eq_true rfl) (c_takeNumber _ _ _ (p := q1) hQ (by exact hT) (by exact hn) (by rfl) (by omega) (by omega)) (fun z41 M2 h41 => ?_)
        obtain ⟨rfl, rfl⟩ := h41
        obtain ⟨v1, v2, v3, v4⟩ := numF_rng n2 4 q1 0 (by omega) (by omega) (by omega)
        generalize e3 : numF T n 4 q1 0 = u at v1 v2 v3 v4 ⊢
        obtain ⟨q3, v⟩ := u
        simp only at v1 v2 v3 v4 ⊢
        refine J_if_eq Y qX6_takeHead_44 (by omega) (by omega) (fun h44 => ?_) (fun h44 => ?_)
        · refine J_iconst Y qX6_takeHead_51 ?_
          refine J_istore_2 Y qX6_takeHead_52 rfl ?_
          refine J_aloadr_1 Y qX6_takeHead_53 ?_
          refine J_aloadr_0 Y qX6_takeHead_54 ?_
          refine J_getI Y qX6_takeHead_55 fX6_22 (by decide) ?_
          refine J_putI Y qX6_takeHead_58 fX6_54w (by show _ < 10; omega) ?_
          refine J_iload_2 Y qX6_takeHead_61 ?_
          first
          | (have hE := hd_1 hi0 e1 h37
             exact J_zret X qX6_takeHead_62 (Or.inl rfl) ⟨_, rfl, fun x y k x1 x2 x3 => by (simp only [up]; repeat rw [if_neg (by omega)]), by rw [hb0]; simp [up], by rw [hE]; rfl, by rw [hE]; exact w2, by rw [hE]; exact w3, Or.inl ⟨rfl, by rw [hE]⟩⟩)
          | (have hE := hd_2 hi0 e1 h37 e3
             rw [if_pos (by omega)] at hE
             exact J_zret X qX6_takeHead_62 (Or.inl rfl) ⟨_, rfl, fun x y k x1 x2 x3 => by (simp only [up]; repeat rw [if_neg (by omega)]), by rw [hb0]; simp [up], by rw [hE]; rfl, by rw [hE]; show p ≤ q3; omega, by rw [hE]; exact v2, Or.inl ⟨rfl, by rw [hE]⟩⟩)
        · refine J_iconst Y qX6_takeHead_47 ?_
          refine J_goto Y qX6_takeHead_48 ?_
          refine J_istore_2 Y qX6_takeHead_52 rfl ?_
          refine J_aloadr_1 Y qX6_takeHead_53 ?_
          refine J_aloadr_0 Y qX6_takeHead_54 ?_
          refine J_getI Y qX6_takeHead_55 fX6_22 (by decide) ?_
          refine J_putI Y qX6_takeHead_58 fX6_54w (by show _ < 10; omega) ?_
          refine J_iload_2 Y qX6_takeHead_61 ?_
          have hE := hd_2 hi0 e1 h37 e3
          rw [if_neg (by omega)] at hE
          exact J_zret X qX6_takeHead_62 (Or.inr rfl) ⟨_, rfl, fun x y k x1 x2 x3 => by (simp only [up]; repeat rw [if_neg (by omega)]), by rw [hb0]; simp [up], by rw [hE]; rfl, by rw [hE]; show p ≤ q3; omega, by rw [hE]; exact v2, Or.inr ⟨rfl, by rw [hE]; simp [up]⟩⟩
    · exfalso; omega

def tsR (r t : Nat) (M : Mem) : Int × Int × Int × Int := (M 22 r t, M 19 r t, M 20 r t, M 21 r t)
def TtP (T : Nat → Int) (n : Int) (m i : Nat) (p : Int) (r : Nat) (M : Mem) (z : Int) (M2 : Mem) : Prop := SlE r M2 M ∧ (M2 3 r 0 = M 3 r 0 ∧ M2 3 r 1 = M 3 r 1) ∧ (∀ j, j < i → tsR r j M2 = tsR r j M) ∧ M2 6 0 2 = (tssP T n m i p).1 ∧
  ((z = 0 ∧ (tssP T n m i p).2 = none) ∨ (z = 1 ∧ ∃ k, (tssP T n m i p).2 = some k ∧ M2 3 r 8 = (i : Int) + k.length ∧ ∀ j, j < k.length → k[j]? = some (tsR r (i + j) M2)))
section TESTS
variable {T : Nat → Int} {n p q1 z1 z : Int} {m i r : Nat} {M M2 M4 : Mem}
theorem Tt_end (hp : M 6 0 2 = p) (h8 : M 3 r 8 = (i : Int)) (h : tssP T n m i p = (p, some [])) : TtP T n m i p r M 1 M := by
  refine ⟨fun _ _ _ _ _ _ => rfl, ⟨rfl, rfl⟩, fun _ _ => rfl, by rw [h]; exact hp, Or.inr ⟨rfl, [], by rw [h], by rw [h8]; simp, fun j hj => by simp at hj⟩⟩
theorem Tt_endb (hp : M 6 0 2 = p) (h : tssP T n m i p = (p, none)) : TtP T n m i p r M 0 M := by
  refine ⟨fun _ _ _ _ _ _ => rfl, ⟨rfl, rfl⟩, fun _ _ => rfl, by rw [h]; exact hp, Or.inl ⟨rfl, by rw [h]⟩⟩
theorem Tt_bad1 (hp : ¬ n ≤ p) (e1 : eatW T n (if i = 0 then 2 else 3) p = (z1, q1)) (hz : z1 = 0) : TtP T n (m + 1) i p r M 0 (up (up M 6 0 2 q1) 3 r 8 ((i : Int) + 1)) := by
  have h : tssP T n (m + 1) i p = (q1, none) := by rw [tssP, if_neg hp]; simp only [e1, hz, if_true]
  refine ⟨fun x y k x1 x2 x3 => ?_, ⟨?_, ?_⟩, fun j hj => ?_, ?_, Or.inl ⟨rfl, by rw [h]⟩⟩
  · simp only [up]; repeat rw [if_neg (by omega)]
  · simp [up]
  · simp [up]
  · simp [tsR, up]
  · rw [h]; simp [up]
theorem Tt_bad2 (hp : ¬ n ≤ p) (e1 : eatW T n (if i = 0 then 2 else 3) p = (z1, q1)) (hz : ¬ z1 = 0) (hS : TsP T n q1 r i (up M 6 0 2 q1) z M2) (h0 : z = 0) : TtP T n (m + 1) i p r M 0 (up M2 3 r 8 ((i : Int) + 1)) := by
  obtain ⟨s1, s2, s3, s4, s5⟩ := hS
  have s6 : (tstP T n q1).2 = none := by
    rcases s5 with s5 | s5
    · exact s5.2
    · omega
  have h : tssP T n (m + 1) i p = ((tstP T n q1).1, none) := by
    rw [tssP, if_neg hp]
    simp only [e1, hz, if_false]
    generalize tstP T n q1 = u at s6 ⊢
    obtain ⟨u1, u2⟩ := u
    simp only at s6
    subst s6
    rfl
  refine ⟨fun x y k x1 x2 x3 => ?_, ⟨?_, ?_⟩, fun j hj => ?_, ?_, Or.inl ⟨rfl, by rw [h]⟩⟩
  · rw [up_ne (by omega), s1 x y k (by omega) (by omega), up_ne (by omega)]
  · rw [up_ne (by omega), s1 _ _ _ (by omega) (by omega), up_ne (by omega)]
  · rw [up_ne (by omega), s1 _ _ _ (by omega) (by omega), up_ne (by omega)]
  · simp only [tsR]
    repeat rw [up_ne (by omega)]
    repeat rw [s1 _ _ _ (by omega) (by omega), up_ne (by omega)]
  · rw [h, up_ne (by omega)]; exact s2
theorem Tt_cons (hp : ¬ n ≤ p) (e1 : eatW T n (if i = 0 then 2 else 3) p = (z1, q1)) (hz : ¬ z1 = 0) {z9 : Int} (hS : TsP T n q1 r i (up M 6 0 2 q1) z9 M2) (h9 : ¬ z9 = 0) (hN : TtP T n m (i + 1) (tstP T n q1).1 r (up M2 3 r 8 ((i : Int) + 1)) z M4) : TtP T n (m + 1) i p r M z M4 := by
  obtain ⟨s1, s2, s3, s4, s5⟩ := hS
  have s6 : (tstP T n q1).2 = some (tsR r i M2) := by
    rcases s5 with s5 | s5
    · omega
    · exact s5.2
  obtain ⟨n1, n2, n3, n4, n5⟩ := hN
  have hf : ∀ j, j < i + 1 → tsR r j M4 = tsR r j M2 := fun j hj => by
    rw [n3 j hj]
    simp only [tsR]
    repeat rw [up_ne (by omega)]
  have h : tssP T n (m + 1) i p = match tssP T n m (i + 1) (tstP T n q1).1 with
      | (q2, none) => (q2, none)
      | (q2, some l) => (q2, some (tsR r i M2 :: l)) := by
    rw [tssP, if_neg hp]
    simp only [e1, hz, if_false]
    generalize tstP T n q1 = u at s6 ⊢
    obtain ⟨u1, u2⟩ := u
    simp only at s6
    subst s6
    rfl
  generalize tssP T n m (i + 1) (tstP T n q1).1 = w at h n4 n5
  obtain ⟨w1, w2⟩ := w
  refine ⟨fun x y k x1 x2 x3 => ?_, ⟨?_, ?_⟩, fun j hj => ?_, ?_, ?_⟩
  · rw [n1 x y k x1 x2 x3, up_ne (by omega), s1 x y k (by omega) (by omega), up_ne (by omega)]
  · rw [n2.1, up_ne (by omega), s1 _ _ _ (by omega) (by omega), up_ne (by omega)]
  · rw [n2.2, up_ne (by omega), s1 _ _ _ (by omega) (by omega), up_ne (by omega)]
  · rw [hf j (by omega)]
    simp only [tsR]
    repeat rw [s1 _ _ _ (by omega) (by omega), up_ne (by omega)]
  · rw [h, n4]
    cases w2 <;> rfl
  · rcases n5 with ⟨g1, g2⟩ | ⟨g1, k, g2, g3, g4⟩
    · simp only at g2
      subst g2
      exact Or.inl ⟨g1, by rw [h]⟩
    · simp only at g2
      subst g2
      refine Or.inr ⟨g1, tsR r i M2 :: k, by rw [h], ?_, fun j hj => ?_⟩
      · rw [g3, List.length_cons]; omega
      · cases j with
        | zero => rw [Nat.add_zero, hf i (by omega)]; rfl
        | succ j =>
          rw [List.getElem?_cons_succ, g4 j (by simpa using hj)]
          rw [show i + 1 + j = i + (j + 1) by omega]
end TESTS
theorem lp_takeTestsB {l : Launch} {G : Gx} {E : Fx} {M : Mem} {P : Int → Mem → Prop} {r i : Nat} (hi : i ≤ 3) (hP : P 0 M) (X : OkM l G E cX6_takeTests RX6 4 7 (some .boolean) (RI P)) : J G E 9 [some (rf G 6 0), some (rf G 3 r), some (vi 0), some (vi (i : Int))] [] M := by
  have Y := X.ok
  refine J_iload_3 Y qX6_takeTests_9 ?_
  refine J_iconst Y qX6_takeTests_10 ?_
  refine J_icmp_ge Y qX6_takeTests_11 (by omega) (by omega) (by omega) (by omega) (fun h11 => ?_) (fun h11 => ?_)
  · refine J_iload_2 Y qX6_takeTests_75 ?_
    refine J_eq0 Y qX6_takeTests_76 ?_
    refine J_iconst Y qX6_takeTests_94 ?_
    exact J_zret X qX6_takeTests_95 (Or.inl rfl) ⟨_, rfl, hP⟩
  · refine J_iload_2 Y qX6_takeTests_14 ?_
    refine J_eq0 Y qX6_takeTests_15 ?_
    refine J_iload_2 Y qX6_takeTests_75 ?_
    refine J_eq0 Y qX6_takeTests_76 ?_
    refine J_iconst Y qX6_takeTests_94 ?_
    exact J_zret X qX6_takeTests_95 (Or.inl rfl) ⟨_, rfl, hP⟩

theorem lp_takeTests {l : Launch} {G : Gx} {E : Fx} {P : Int → Mem → Prop} {r : Nat} (hr : r < 10) {T : Nat → Int} {n : Int} (hQ : TQ T n) (X : OkM l G E cX6_takeTests RX6 4 7 (some .boolean) (RI P)) : ∀ (m i : Nat) (p : Int) (M : Mem), i + m = 3 → M 29 0 = T → M 6 0 1 = n → M 6 0 2 = p → 0 ≤ p → p ≤ n → M 3 r 8 = (i : Int) → (∀ z M2, TtP T n m i p r M z M2 → P z M2) → J G E 9 [some (rf G 6 0), some (rf G 3 r), some (vi 1), some (vi (i : Int))] [] M := by
  have Y := X.ok
  have hQ2 := hQ
  obtain ⟨n0, n1, n2⟩ := hQ2
  intro m
  induction m with
  | zero =>
    intro i p M h1 hT hn hp p0 p1 h8 hP
    refine J_iload_3 Y qX6_takeTests_9 ?_
    refine J_iconst Y qX6_takeTests_10 ?_
    refine J_icmp_ge Y qX6_takeTests_11 (by omega) (by omega) (by omega) (by omega) (fun h11 => ?_) (fun h11 => ?_)
    · refine J_iload_2 Y qX6_takeTests_75 ?_
      refine J_eq1 Y qX6_takeTests_76 ?_
      refine J_aloadr_0 Y qX6_takeTests_79 ?_
      refine J_getI Y qX6_takeTests_80 fX6_19 (by decide) ?_
      refine J_aloadr_0 Y qX6_takeTests_83 ?_
      refine J_getI Y qX6_takeTests_84 fX6_15 (by decide) ?_
      rw [hn]
      refine J_icmp_ne Y qX6_takeTests_87 (by omega) (by omega) (by omega) (by omega) (fun h87 => ?_) (fun h87 => ?_)
      · refine J_iconst Y qX6_takeTests_94 ?_
        exact J_zret X qX6_takeTests_95 (Or.inl rfl) ⟨_, rfl, hP _ _ (Tt_endb hp (by rw [tssP, if_neg (by omega)]))⟩
      · refine J_iconst Y qX6_takeTests_90 ?_
        refine J_goto Y qX6_takeTests_91 ?_
        exact J_zret X qX6_takeTests_95 (Or.inr rfl) ⟨_, rfl, hP _ _ (Tt_end hp h8 (by rw [tssP, if_pos (by omega)]))⟩
    · exfalso; omega

  | succ m ih =>
    intro i p M h1 hT hn hp p0 p1 h8 hP
    refine J_iload_3 Y qX6_takeTests_9 ?_
    refine J_iconst Y qX6_takeTests_10 ?_
    refine J_icmp_ge Y qX6_takeTests_11 (by omega) (by omega) (by omega) (by omega) (fun h11 => ?_) (fun h11 => ?_)
    · exfalso; omega
    · refine J_iload_2 Y qX6_takeTests_14 ?_
      refine J_eq1 Y qX6_takeTests_15 ?_
      refine J_aloadr_0 Y qX6_takeTests_18 ?_
      refine J_getI Y qX6_takeTests_19 fX6_19 (by decide) ?_
      rw [hp]
      refine J_aloadr_0 Y qX6_takeTests_22 ?_
      refine J_getI Y qX6_takeTests_23 fX6_15 (by decide) ?_
      rw [hn]
      refine J_icmp_ge Y qX6_takeTests_26 (by omega) (by omega) (by omega) (by omega) (fun h26 => ?_) (fun h26 => ?_)
      · refine J_iload_2 Y qX6_takeTests_75 ?_
        refine J_eq1 Y qX6_takeTests_76 ?_
        refine J_aloadr_0 Y qX6_takeTests_79 ?_
        refine J_getI Y qX6_takeTests_80 fX6_19 (by decide) ?_
        refine J_aloadr_0 Y qX6_takeTests_83 ?_
        refine J_getI Y qX6_takeTests_84 fX6_15 (by decide) ?_
        rw [hn]
        refine J_icmp_ne Y qX6_takeTests_87 (by omega) (by omega) (by omega) (by omega) (fun h87 => ?_) (fun h87 => ?_)
        · exfalso; omega
        · refine J_iconst Y qX6_takeTests_90 ?_
          refine J_goto Y qX6_takeTests_91 ?_
          exact J_zret X qX6_takeTests_95 (Or.inr rfl) ⟨_, rfl, hP _ _ (Tt_end hp h8 (by rw [tssP, if_pos (by omega)]))⟩
      · refine J_aloadr_0 Y qX6_takeTests_29 ?_
        refine J_iload_3 Y qX6_takeTests_30 ?_
        refine J_if_ne Y qX6_takeTests_31 (by omega) (by omega) (fun h31 => ?_) (fun h31 => ?_)
        · refine J_ldcS Y 3 qX6_takeTests_39 (by decide) rfl ?_
          have hpn : ¬ n ≤ p := by omega
          first
          | rw [show tx G 2 = tx G (if i = 0 then 2 else 3) by rw [if_pos (by omega)]]
          | rw [show tx G 3 = tx G (if i = 0 then 2 else 3) by rw [if_neg (by omega)]]
          refine J_cV1I Y qX6_takeTests_41 mX6_46 iyX6_takeWord (by decide) rfl (by decide) rfl (Nat.le_of_ble_eq_true rfl) (c_takeWord _ _ _ (p := p) hQ (by exact hT) (by exact hn) (by exact hp) (by omega) (by omega) (show (if i = 0 then 2 else 3) < 10 by split <;> decide)) (fun z41 M2 h41 => ?_)
          obtain ⟨rfl, rfl⟩ := h41
          obtain ⟨w1, w2, w3⟩ := eatW_rng n2 (show (if i = 0 then 2 else 3) < 10 by split <;> decide) p0 p1
          generalize e1 : eatW T n (if i = 0 then 2 else 3) p = u at w1 w2 w3 ⊢
          obtain ⟨z1, q1⟩ := u
          simp only at w1 w2 w3
          refine J_if_eq Y qX6_takeTests_44 (by omega) (by omega) (fun h44 => ?_) (fun h44 => ?_)
          · refine J_iconst Y qX6_takeTests_60 ?_
            refine J_istore_2 Y qX6_takeTests_61 rfl ?_
            refine J_aloadr_1 Y qX6_takeTests_62 ?_
            refine J_iload_3 Y qX6_takeTests_63 ?_
            refine J_iconst Y qX6_takeTests_64 ?_
            refine J_iadd Y qX6_takeTests_65 ?_
            refine J_putI Y qX6_takeTests_66 fX6_55w (by show _ < 10; omega) ?_
            refine J_iinc_3 Y qX6_takeTests_69 rfl ?_
            refine J_goto Y qX6_takeTests_72 ?_
            first
            | exact lp_takeTestsB (i := i + 1) (by omega) (hP _ _ (Tt_bad1 hpn e1 h44)) X
            | exact lp_takeTestsB (i := i + 1) (by omega) (hP _ _ (Tt_bad2 hpn e1 h44 h50 h53)) X
            | exact ih (i + 1) (tstP T n q1).1 _ (by omega) (by rw [show up M2 3 r 8 ((i : Int) + 1) 29 0 = M2 29 0 from rfl]; funext k; rw [h50.1 29 0 k (by omega) (by omega)]; show M 29 0 k = T k; rw [hT]) (by rw [show up M2 3 r 8 ((i : Int) + 1) 6 0 1 = M2 6 0 1 from rfl, h50.1 6 0 1 (by omega) (by omega)]; exact hn) (h50.2.1) (by have := h50.2.2.1; omega) h50.2.2.2.1 (by rw [up_same]; simp) (fun z M4 h => hP z M4 (Tt_cons hpn e1 h44 h50 h53 h))
          · refine J_aloadr_0 Y qX6_takeTests_47 ?_
            refine J_aloadr_1 Y qX6_takeTests_48 ?_
            refine J_iload_3 Y qX6_takeTests_49 ?_
            refine J_cV2I Y qX6_takeTests_50 mX6_62 iyX6_takeTest (by decide) rfl (by decide) rfl (Nat.le_of_ble_eq_true rfl) (c_takeTest _ _ _ (p := q1) hQ (by exact hT) (by exact hn) (by rfl) (by omega) (by omega) hr (by omega)) (fun z50 M2 h50 => ?_)
            have hz50 : z50 = 0 ∨ z50 = 1 := by rcases h50.2.2.2.2 with h | h <;> omega
            refine J_if_eq Y qX6_takeTests_53 (by omega) (by omega) (fun h53 => ?_) (fun h53 => ?_)
            · refine J_iconst Y qX6_takeTests_60 ?_
              refine J_istore_2 Y qX6_takeTests_61 rfl ?_
              refine J_aloadr_1 Y qX6_takeTests_62 ?_
              refine J_iload_3 Y qX6_takeTests_63 ?_
              refine J_iconst Y qX6_takeTests_64 ?_
              refine J_iadd Y qX6_takeTests_65 ?_
              refine J_putI Y qX6_takeTests_66 fX6_55w (by show _ < 10; omega) ?_
              refine J_iinc_3 Y qX6_takeTests_69 rfl ?_
              refine J_goto Y qX6_takeTests_72 ?_
              first
              | exact lp_takeTestsB (i := i + 1) (by omega) (hP _ _ (Tt_bad1 hpn e1 h44)) X
              | exact lp_takeTestsB (i := i + 1) (by omega) (hP _ _ (Tt_bad2 hpn e1 h44 h50 h53)) X
              | exact ih (i + 1) (tstP T n q1).1 _ (by omega) (by rw [show up M2 3 r 8 ((i : Int) + 1) 29 0 = M2 29 0 from rfl]; funext k; rw [h50.1 29 0 k (by omega) (by omega)]; show M 29 0 k = T k; rw [hT]) (by rw [show up M2 3 r 8 ((i : Int) + 1) 6 0 1 = M2 6 0 1 from rfl, h50.1 6 0 1 (by omega) (by omega)]; exact hn) (h50.2.1) (by have := h50.2.2.1; omega) h50.2.2.2.1 (by rw [up_same]; simp) (fun z M4 h => hP z M4 (Tt_cons hpn e1 h44 h50 h53 h))
            · refine J_iconst Y qX6_takeTests_56 ?_
              refine J_goto Y qX6_takeTests_57 ?_
              refine J_istore_2 Y qX6_takeTests_61 rfl ?_
              refine J_aloadr_1 Y qX6_takeTests_62 ?_
              refine J_iload_3 Y qX6_takeTests_63 ?_
              refine J_iconst Y qX6_takeTests_64 ?_
              refine J_iadd Y qX6_takeTests_65 ?_
              refine J_putI Y qX6_takeTests_66 fX6_55w (by show _ < 10; omega) ?_
              refine J_iinc_3 Y qX6_takeTests_69 rfl ?_
              refine J_goto Y qX6_takeTests_72 ?_
              first
              | exact lp_takeTestsB (i := i + 1) (by omega) (hP _ _ (Tt_bad1 hpn e1 h44)) X
              | exact lp_takeTestsB (i := i + 1) (by omega) (hP _ _ (Tt_bad2 hpn e1 h44 h50 h53)) X
              | exact ih (i + 1) (tstP T n q1).1 _ (by omega) (by rw [show up M2 3 r 8 ((i : Int) + 1) 29 0 = M2 29 0 from rfl]; funext k; rw [h50.1 29 0 k (by omega) (by omega)]; show M 29 0 k = T k; rw [hT]) (by rw [show up M2 3 r 8 ((i : Int) + 1) 6 0 1 = M2 6 0 1 from rfl, h50.1 6 0 1 (by omega) (by omega)]; exact hn) (h50.2.1) (by have := h50.2.2.1; omega) h50.2.2.2.1 (by rw [up_same]; simp) (fun z M4 h => hP z M4 (Tt_cons hpn e1 h44 h50 h53 h))
        · refine J_ldcS Y 2 qX6_takeTests_34 (by decide) rfl ?_
          refine J_goto Y qX6_takeTests_36 ?_
          have hpn : ¬ n ≤ p := by omega
          first
          | rw [show tx G 2 = tx G (if i = 0 then 2 else 3) by rw [if_pos (by omega)]]
          | rw [show tx G 3 = tx G (if i = 0 then 2 else 3) by rw [if_neg (by omega)]]
          refine J_cV1I Y qX6_takeTests_41 mX6_46 iyX6_takeWord (by decide) rfl (by decide) rfl (Nat.le_of_ble_eq_true rfl) (c_takeWord _ _ _ (p := p) hQ (by exact hT) (by exact hn) (by exact hp) (by omega) (by omega) (show (if i = 0 then 2 else 3) < 10 by split <;> decide)) (fun z41 M2 h41 => ?_)
          obtain ⟨rfl, rfl⟩ := h41
          obtain ⟨w1, w2, w3⟩ := eatW_rng n2 (show (if i = 0 then 2 else 3) < 10 by split <;> decide) p0 p1
          generalize e1 : eatW T n (if i = 0 then 2 else 3) p = u at w1 w2 w3 ⊢
          obtain ⟨z1, q1⟩ := u
          simp only at w1 w2 w3
          refine J_if_eq Y qX6_takeTests_44 (by omega) (by omega) (fun h44 => ?_) (fun h44 => ?_)
          · refine J_iconst Y qX6_takeTests_60 ?_
            refine J_istore_2 Y qX6_takeTests_61 rfl ?_
            refine J_aloadr_1 Y qX6_takeTests_62 ?_
            refine J_iload_3 Y qX6_takeTests_63 ?_
            refine J_iconst Y qX6_takeTests_64 ?_
            refine J_iadd Y qX6_takeTests_65 ?_
            refine J_putI Y qX6_takeTests_66 fX6_55w (by show _ < 10; omega) ?_
            refine J_iinc_3 Y qX6_takeTests_69 rfl ?_
            refine J_goto Y qX6_takeTests_72 ?_
            first
            | exact lp_takeTestsB (i := i + 1) (by omega) (hP _ _ (Tt_bad1 hpn e1 h44)) X
            | exact lp_takeTestsB (i := i + 1) (by omega) (hP _ _ (Tt_bad2 hpn e1 h44 h50 h53)) X
            | exact ih (i + 1) (tstP T n q1).1 _ (by omega) (by rw [show up M2 3 r 8 ((i : Int) + 1) 29 0 = M2 29 0 from rfl]; funext k; rw [h50.1 29 0 k (by omega) (by omega)]; show M 29 0 k = T k; rw [hT]) (by rw [show up M2 3 r 8 ((i : Int) + 1) 6 0 1 = M2 6 0 1 from rfl, h50.1 6 0 1 (by omega) (by omega)]; exact hn) (h50.2.1) (by have := h50.2.2.1; omega) h50.2.2.2.1 (by rw [up_same]; simp) (fun z M4 h => hP z M4 (Tt_cons hpn e1 h44 h50 h53 h))
          · refine J_aloadr_0 Y qX6_takeTests_47 ?_
            refine J_aloadr_1 Y qX6_takeTests_48 ?_
            refine J_iload_3 Y qX6_takeTests_49 ?_
            refine J_cV2I Y qX6_takeTests_50 mX6_62 iyX6_takeTest (by decide) rfl (by decide) rfl (Nat.le_of_ble_eq_true rfl) (c_takeTest _ _ _ (p := q1) hQ (by exact hT) (by exact hn) (by rfl) (by omega) (by omega) hr (by omega)) (fun z50 M2 h50 => ?_)
            have hz50 : z50 = 0 ∨ z50 = 1 := by rcases h50.2.2.2.2 with h | h <;> omega
            refine J_if_eq Y qX6_takeTests_53 (by omega) (by omega) (fun h53 => ?_) (fun h53 => ?_)
            · refine J_iconst Y qX6_takeTests_60 ?_
              refine J_istore_2 Y qX6_takeTests_61 rfl ?_
              refine J_aloadr_1 Y qX6_takeTests_62 ?_
              refine J_iload_3 Y qX6_takeTests_63 ?_
              refine J_iconst Y qX6_takeTests_64 ?_
              refine J_iadd Y qX6_takeTests_65 ?_
              refine J_putI Y qX6_takeTests_66 fX6_55w (by show _ < 10; omega) ?_
              refine J_iinc_3 Y qX6_takeTests_69 rfl ?_
              refine J_goto Y qX6_takeTests_72 ?_
              first
              | exact lp_takeTestsB (i := i + 1) (by omega) (hP _ _ (Tt_bad1 hpn e1 h44)) X
              | exact lp_takeTestsB (i := i + 1) (by omega) (hP _ _ (Tt_bad2 hpn e1 h44 h50 h53)) X
              | exact ih (i + 1) (tstP T n q1).1 _ (by omega) (by rw [show up M2 3 r 8 ((i : Int) + 1) 29 0 = M2 29 0 from rfl]; funext k; rw [h50.1 29 0 k (by omega) (by omega)]; show M 29 0 k = T k; rw [hT]) (by rw [show up M2 3 r 8 ((i : Int) + 1) 6 0 1 = M2 6 0 1 from rfl, h50.1 6 0 1 (by omega) (by omega)]; exact hn) (h50.2.1) (by have := h50.2.2.1; omega) h50.2.2.2.1 (by rw [up_same]; simp) (fun z M4 h => hP z M4 (Tt_cons hpn e1 h44 h50 h53 h))
            · refine J_iconst Y qX6_takeTests_56 ?_
              refine J_goto Y qX6_takeTests_57 ?_
              refine J_istore_2 Y qX6_takeTests_61 rfl ?_
              refine J_aloadr_1 Y qX6_takeTests_62 ?_
              refine J_iload_3 Y qX6_takeTests_63 ?_
              refine J_iconst Y qX6_takeTests_64 ?_
              refine J_iadd Y qX6_takeTests_65 ?_
              refine J_putI Y qX6_takeTests_66 fX6_55w (by show _ < 10; omega) ?_
              refine J_iinc_3 Y qX6_takeTests_69 rfl ?_
              refine J_goto Y qX6_takeTests_72 ?_
              first
              | exact lp_takeTestsB (i := i + 1) (by omega) (hP _ _ (Tt_bad1 hpn e1 h44)) X
              | exact lp_takeTestsB (i := i + 1) (by omega) (hP _ _ (Tt_bad2 hpn e1 h44 h50 h53)) X
              | exact ih (i + 1) (tstP T n q1).1 _ (by omega) (by rw [show up M2 3 r 8 ((i : Int) + 1) 29 0 = M2 29 0 from rfl]; funext k; rw [h50.1 29 0 k (by omega) (by omega)]; show M 29 0 k = T k; rw [hT]) (by rw [show up M2 3 r 8 ((i : Int) + 1) 6 0 1 = M2 6 0 1 from rfl, h50.1 6 0 1 (by omega) (by omega)]; exact hn) (h50.2.1) (by have := h50.2.2.1; omega) h50.2.2.2.1 (by rw [up_same]; simp) (fun z M4 h => hP z M4 (Tt_cons hpn e1 h44 h50 h53 h))

theorem c_takeTests (l : Launch) (G : Gx) (M : Mem) {T : Nat → Int} {n p : Int} (hQ : TQ T n) (hT : M 29 0 = T) (hn : M 6 0 1 = n) (hp : M 6 0 2 = p) (p0 : 0 ≤ p) (p1 : p ≤ n) {r : Nat} (hr : r < 10) : Ct l G 7 yX6_takeTests cX6_takeTests 4 ((Option.some Jvm.ClassFile.FieldType.boolean)) [rf G 6 0, rf G 3 r] M (RI (TtP T n 3 0 p r (up M 3 r 8 0))) := by
  refine Ct.of rfl (Nat.le_of_ble_eq_true rfl) rfl (fun E X => ?_)
  have Y := X.ok
  refine J_iconst Y qX6_takeTests_0 ?_
  refine J_istore_2 Y qX6_takeTests_1 rfl ?_
  refine J_aloadr_1 Y qX6_takeTests_2 ?_
  refine J_iconst Y qX6_takeTests_3 ?_
  refine J_putI Y qX6_takeTests_4 fX6_55w (by show _ < 10; omega) ?_
  refine J_iconst Y qX6_takeTests_7 ?_
  refine J_istore_3 Y qX6_takeTests_8 rfl ?_
  exact lp_takeTests hr hQ X 3 0 p (up M 3 r 8 0) rfl hT hn hp p0 p1 (by rw [up_same]; rfl) (fun _ _ h => h)


/-! ===== the class: rule, the whole ===== -/
section RNG
variable {T : Nat → Int} {n : Int}
def TsOk (t : Int × Int × Int × Int) : Prop := (t.1 = 0 ∨ t.1 = 1) ∧ (0 ≤ t.2.1 ∧ t.2.1 ≤ 4) ∧ (t.2.2.1 = 60 ∨ t.2.2.1 = 61 ∨ t.2.2.1 = 62) ∧ 0 ≤ t.2.2.2 ∧ t.2.2.2 ≤ 9999
theorem tstP_rng (hQ : TQ T n) {p : Int} (p0 : 0 ≤ p) (p1 : p ≤ n) : p ≤ (tstP T n p).1 ∧ (tstP T n p).1 ≤ n ∧ ∀ t, (tstP T n p).2 = some t → TsOk t := by
  obtain ⟨n0, n1, n2⟩ := hQ
  have key : (∃ b q1, tsD T n p b q1 ∧ p ≤ q1 ∧ q1 ≤ n ∧ (b = 0 ∨ b = 1)) ∨ ∃ q1, tstP T n p = (q1, none) ∧ p ≤ q1 ∧ q1 ≤ n := by
    by_cases hb : ahd T n p = 110
    · obtain ⟨w1, w2, w3⟩ := eatW_rng n2 (show 4 < 10 by decide) p0 p1
      generalize e1 : eatW T n 4 p = u at w1 w2 w3
      obtain ⟨z1, q1⟩ := u
      by_cases hz : z1 = 0
      · exact Or.inr ⟨q1, tst_1 hb e1 hz, w2, w3⟩
      · exact Or.inl ⟨1, q1, Or.inl ⟨hb, rfl, z1, hz, e1⟩, w2, w3, Or.inr rfl⟩
    · exact Or.inl ⟨0, p, Or.inr ⟨hb, rfl, rfl⟩, Int.le_refl _, p1, Or.inl rfl⟩
  rcases key with ⟨b, q1, hD, g1, g2, hb⟩ | ⟨q1, h, g1, g2⟩
  · obtain ⟨f1, f2⟩ := fldF_rng (ahd T n q1) (ahd T n (q1 + 1))
    obtain ⟨f, hf⟩ := nat_of f1
    obtain ⟨w1, w2, w3⟩ := eatW_rng n2 (show 5 + f < 10 by omega) (show 0 ≤ q1 by omega) g2
    generalize e2 : eatW T n (5 + f) q1 = u at w1 w2 w3
    obtain ⟨z2, q2⟩ := u
    simp only at w1 w2 w3
    by_cases hz : z2 = 0
    · rw [tst_2 hD hf e2 hz]
      exact ⟨by show p ≤ q2; omega, w3, fun t ht => by simp at ht⟩
    · obtain ⟨c1, c2, c3⟩ := ahd_rng n2 (show 0 ≤ q2 by omega)
      by_cases hs : ahd T n q2 = 60 ∨ ahd T n q2 = 61 ∨ ahd T n q2 = 62
      · obtain ⟨v1, v2, v3, v4⟩ := numF_rng n2 4 (q2 + 1) 0 (by omega) (by have := c3 (by omega); omega) (by omega)
        generalize e3 : numF T n 4 (q2 + 1) 0 = u at v1 v2 v3 v4
        obtain ⟨q3, v⟩ := u
        simp only at v1 v2 v3 v4
        rw [tst_4 hD hf e2 hz hs e3]
        by_cases h9 : q3 = q2 + 1
        · rw [if_pos h9]
          exact ⟨by show p ≤ q3; omega, v2, fun t ht => by simp at ht⟩
        · rw [if_neg h9]
          refine ⟨by show p ≤ q3; omega, v2, fun t ht => ?_⟩
          obtain rfl := Option.some.inj ht
          exact ⟨hb, ⟨by show (0 : Int) ≤ f; omega, by show (f : Int) ≤ 4; omega⟩, hs, v3, by show v ≤ 9999; omega⟩
      · rw [tst_3 hD hf e2 hz (by omega)]
        exact ⟨by show p ≤ q2; omega, w3, fun t ht => by simp at ht⟩
  · rw [h]
    exact ⟨g1, g2, fun t ht => by simp at ht⟩
theorem tssP_rng (hQ : TQ T n) : ∀ (m i : Nat) (p : Int), 0 ≤ p → p ≤ n → p ≤ (tssP T n m i p).1 ∧ (tssP T n m i p).1 ≤ n ∧ ∀ k, (tssP T n m i p).2 = some k → k.length ≤ m ∧ ∀ t ∈ k, TsOk t
  | 0, i, p, p0, p1 => by
    rw [tssP]
    refine ⟨Int.le_refl _, p1, fun k hk => ?_⟩
    simp only at hk
    split at hk
    · obtain rfl := Option.some.inj hk
      exact ⟨Nat.le_refl _, fun t ht => by simp at ht⟩
    · simp at hk
  | m + 1, i, p, p0, p1 => by
    rw [tssP]
    by_cases h : n ≤ p
    · rw [if_pos h]
      refine ⟨Int.le_refl _, p1, fun k hk => ?_⟩
      obtain rfl := Option.some.inj hk
      exact ⟨Nat.zero_le _, fun t ht => by simp at ht⟩
    · rw [if_neg h]
      obtain ⟨w1, w2, w3⟩ := eatW_rng hQ.2.2 (show (if i = 0 then 2 else 3) < 10 by split <;> decide) p0 p1
      simp only
      generalize eatW T n (if i = 0 then 2 else 3) p = u at w1 w2 w3 ⊢
      obtain ⟨z1, q1⟩ := u
      simp only at w1 w2 w3 ⊢
      by_cases hz : z1 = 0
      · rw [if_pos hz]
        exact ⟨w2, w3, fun t ht => by simp at ht⟩
      · rw [if_neg hz]
        obtain ⟨t1, t2, t3⟩ := tstP_rng hQ (show 0 ≤ q1 by omega) w3
        generalize tstP T n q1 = u at t1 t2 t3 ⊢
        obtain ⟨q2, o⟩ := u
        simp only at t1 t2 t3
        cases o with
        | none => exact ⟨by show p ≤ q2; omega, t2, fun t ht => by simp at ht⟩
        | some t =>
          obtain ⟨r1, r2, r3⟩ := tssP_rng hQ m (i + 1) q2 (by omega) t2
          simp only
          generalize tssP T n m (i + 1) q2 = u at r1 r2 r3 ⊢
          obtain ⟨q3, o⟩ := u
          simp only at r1 r2 r3
          cases o with
          | none => exact ⟨by show p ≤ q3; omega, r2, fun t ht => by simp at ht⟩
          | some k =>
            refine ⟨by show p ≤ q3; omega, r2, fun k2 hk => ?_⟩
            obtain rfl := Option.some.inj hk
            obtain ⟨s1, s2⟩ := r3 k rfl
            refine ⟨by simp; omega, fun x hx => ?_⟩
            rcases List.mem_cons.mp hx with rfl | hx
            · exact t3 _ rfl
            · exact s2 x hx
theorem hdP_rng (hQ : TQ T n) {p : Int} (p0 : 0 ≤ p) (p1 : p ≤ n) : p ≤ (hdP T n p).1 ∧ (hdP T n p).1 ≤ n ∧ ∀ v, (hdP T n p).2 = some v → 0 ≤ v ∧ v ≤ 9999 := by
  obtain ⟨w1, w2, w3⟩ := eatW_rng hQ.2.2 (show (if ahd T n p = 98 then 0 else 1) < 10 by split <;> decide) p0 p1
  generalize e1 : eatW T n (if ahd T n p = 98 then 0 else 1) p = u at w1 w2 w3
  obtain ⟨z1, q1⟩ := u
  simp only at w1 w2 w3
  by_cases hz : z1 = 0
  · rw [hd_1 rfl e1 hz]
    exact ⟨w2, w3, fun t ht => by simp at ht⟩
  · obtain ⟨v1, v2, v3, v4⟩ := numF_rng hQ.2.2 4 q1 0 (by omega) w3 (by omega)
    generalize e3 : numF T n 4 q1 0 = u at v1 v2 v3 v4
    obtain ⟨q3, v⟩ := u
    simp only at v1 v2 v3 v4
    rw [hd_2 rfl e1 hz e3]
    split
    · exact ⟨by show p ≤ q3; omega, v2, fun t ht => by simp at ht⟩
    · refine ⟨by show p ≤ q3; omega, v2, fun x hx => ?_⟩
      obtain rfl := Option.some.inj hx
      exact ⟨v3, by omega⟩
theorem rulP_no (h : (hdP T n 0).2 = none) : rulP T n = ((hdP T n 0).1, none) := by
  unfold hdP at h ⊢
  unfold rulP
  generalize eatW T n (if ahd T n 0 = 98 then 0 else 1) 0 = u at h ⊢
  obtain ⟨z, q⟩ := u
  by_cases hz : z = 0
  · simp only [hz, if_true]
  · simp only [hz, if_false] at h ⊢
    generalize numF T n 4 q 0 = w at h ⊢
    obtain ⟨q3, v⟩ := w
    by_cases h9 : q3 = q
    · simp only [h9, if_true]
    · simp [h9] at h
theorem rulP_yes {v : Int} (h : (hdP T n 0).2 = some v) : rulP T n = ((tssP T n 3 0 (hdP T n 0).1).1, (tssP T n 3 0 (hdP T n 0).1).2.map (fun k => (if ahd T n 0 = 98 then 1 else 0, v, k))) := by
  unfold hdP at h ⊢
  unfold rulP
  generalize eatW T n (if ahd T n 0 = 98 then 0 else 1) 0 = u at h ⊢
  obtain ⟨z, q⟩ := u
  by_cases hz : z = 0
  · simp [hz] at h
  · simp only [hz, if_false] at h ⊢
    generalize numF T n 4 q 0 = w at h ⊢
    obtain ⟨q3, v3⟩ := w
    by_cases h9 : q3 = q
    · simp [h9] at h
    · simp only [h9, if_false] at h ⊢
      obtain rfl := Option.some.inj h
      generalize tssP T n 3 0 q3 = u
      obtain ⟨q, o⟩ := u
      cases o <;> rfl
theorem rulP_rng (hQ : TQ T n) : 0 ≤ (rulP T n).1 ∧ (rulP T n).1 ≤ n ∧ ∀ v, (rulP T n).2 = some v → (v.1 = 0 ∨ v.1 = 1) ∧ (0 ≤ v.2.1 ∧ v.2.1 ≤ 9999) ∧ v.2.2.length ≤ 3 ∧ ∀ t ∈ v.2.2, TsOk t := by
  obtain ⟨h1, h2, h3⟩ := hdP_rng hQ (Int.le_refl 0) hQ.1
  cases hh : (hdP T n 0).2 with
  | none => rw [rulP_no hh]; exact ⟨h1, h2, fun v hv => by simp at hv⟩
  | some v =>
    rw [rulP_yes hh]
    obtain ⟨g1, g2, g3⟩ := tssP_rng hQ 3 0 _ h1 h2
    refine ⟨by show 0 ≤ (tssP T n 3 0 (hdP T n 0).1).1; omega, g2, fun w hw => ?_⟩
    simp only [Option.map_eq_some_iff] at hw
    obtain ⟨k, hk, rfl⟩ := hw
    obtain ⟨s1, s2⟩ := g3 k hk
    exact ⟨by show (if ahd T n 0 = 98 then (1 : Int) else 0) = 0 ∨ (if ahd T n 0 = 98 then (1 : Int) else 0) = 1; split <;> omega, h3 v hh, s1, s2⟩
end RNG
def RuP (T : Nat → Int) (n : Int) (r : Nat) (M : Mem) (z : Int) (M2 : Mem) : Prop := SlE r M2 M ∧ ((z = (rulP T n).1 ∧ (rulP T n).2 = none) ∨ (z = -1 ∧ ∃ k, (rulP T n).2 = some (M2 3 r 0, M2 3 r 1, k) ∧ M2 3 r 8 = (k.length : Int) ∧ ∀ j, j < k.length → k[j]? = some (tsR r j M2)))
theorem SlE.t {r : Nat} {A B : Mem} (h : SlE r A B) : A 29 0 = B 29 0 := by funext k; exact h 29 0 k (by omega) (by omega) (by omega)
theorem SlE.n {r : Nat} {A B : Mem} (h : SlE r A B) : A 6 0 1 = B 6 0 1 := h 6 0 1 (by omega) (by omega) (by omega)
theorem Ru_a {T : Nat → Int} {n : Int} {r : Nat} {M M2 : Mem} (h : HdP T n 0 r (up M 6 0 2 0) 0 M2) : RuP T n r M (M2 6 0 2) M2 := by
  obtain ⟨a1, a2, a3, a4, a5, a6⟩ := h
  have a7 : (hdP T n 0).2 = none := by rcases a6 with a6 | a6; exact a6.2; omega
  refine ⟨fun x y k x1 x2 x3 => ?_, Or.inl ⟨by rw [rulP_no a7]; exact a3, by rw [rulP_no a7]⟩⟩
  rw [a1 x y k x1 x2 x3, up_ne (by omega)]
theorem Ru_b {T : Nat → Int} {n z z2 : Int} {r : Nat} {M M2 M3 : Mem} (h : HdP T n 0 r (up M 6 0 2 0) z M2) (hz : ¬ z = 0) (h2 : TtP T n 3 0 (hdP T n 0).1 r (up M2 3 r 8 0) z2 M3) : RuP T n r M (if z2 = 0 then M3 6 0 2 else -1) M3 := by
  obtain ⟨a1, a2, a3, a4, a5, a6⟩ := h
  have a7 : (hdP T n 0).2 = some (M2 3 r 1) := by rcases a6 with a6 | a6; omega; exact a6.2
  obtain ⟨b1, b2, b3, b4, b5⟩ := h2
  refine ⟨fun x y k x1 x2 x3 => ?_, ?_⟩
  · rw [b1 x y k x1 x2 x3, up_ne (by omega), a1 x y k x1 x2 x3, up_ne (by omega)]
  · rw [rulP_yes a7]
    rcases b5 with ⟨rfl, c2⟩ | ⟨rfl, k, c2, c3, c4⟩
    · rw [if_pos rfl]
      exact Or.inl ⟨b4, by rw [c2]; rfl⟩
    · rw [if_neg (by decide)]
      refine Or.inr ⟨rfl, k, ?_, by rw [c3]; simp, fun j hj => by rw [c4 j hj, Nat.zero_add]⟩
      rw [c2, b2.1, b2.2, up_ne (by omega), up_ne (by omega), a2]
      rfl
theorem c_faultOf (l : Launch) (G : Gx) (M : Mem) {T : Nat → Int} {n : Int} (hQ : TQ T n) (hT : M 29 0 = T) (hn : M 6 0 1 = n) {r : Nat} (hr : r < 10) : Ct l G 8 yX6_faultOf cX6_faultOf 2 ((Option.some Jvm.ClassFile.FieldType.int)) [rf G 6 0, rf G 3 r] M (RI (RuP T n r M)) := by
  refine Ct.of rfl (Nat.le_of_ble_eq_true rfl) rfl (fun E X => ?_)
  have Y := X.ok
  have hQ2 := hQ
  obtain ⟨n0, n1, n2⟩ := hQ2
  refine J_aloadr_0 Y qX6_faultOf_0 ?_
  refine J_iconst Y qX6_faultOf_1 ?_
  refine J_putI Y qX6_faultOf_2 fX6_19w (by decide) ?_
  refine J_aloadr_0 Y qX6_faultOf_5 ?_
  refine J_aloadr_1 Y qX6_faultOf_6 ?_
  refine J_cV1I Y qX6_faultOf_7 mX6_25 iyX6_takeHead (by decide) rfl (by decide) rfl (Nat.le_of_ble_eq_true rfl) (c_takeHead _ _ _ (p := 0) hQ (by exact hT) (by exact hn) (by rfl) (by omega) (by omega) hr) (fun z7 M2 h7 => ?_)
  have hz7 : z7 = 0 ∨ z7 = 1 := by rcases h7.2.2.2.2.2 with h | h <;> omega
  have t2 : M2 29 0 = T := by rw [h7.1.t]; exact hT
  have t3 : M2 6 0 1 = n := by rw [h7.1.n]; exact hn
  refine J_if_eq Y qX6_faultOf_10 (by omega) (by omega) (fun h10 => ?_) (fun h10 => ?_)
  · refine J_aloadr_0 Y qX6_faultOf_25 ?_
    refine J_getI Y qX6_faultOf_26 fX6_19 (by decide) ?_
    first
    | (subst h10; exact J_iret X qX6_faultOf_29 ⟨_, rfl, Ru_a h7⟩)
    | (have hB := Ru_b h7 h10 h15
       first | rw [if_pos h18] at hB | rw [if_neg h18] at hB
       exact J_iret X qX6_faultOf_29 ⟨_, rfl, hB⟩)
  · refine J_aloadr_0 Y qX6_faultOf_13 ?_
    refine J_aloadr_1 Y qX6_faultOf_14 ?_
    refine J_cV1I Y qX6_faultOf_15 mX6_29 iyX6_takeTests (by decide) rfl (by decide) rfl (Nat.le_of_ble_eq_true rfl) (c_takeTests _ _ _ (p := (hdP T n 0).1) hQ t2 t3 h7.2.2.1 h7.2.2.2.1 h7.2.2.2.2.1 hr) (fun z15 M3 h15 => ?_)
    have hz15 : z15 = 0 ∨ z15 = 1 := by rcases h15.2.2.2.2 with h | h <;> omega
    refine J_if_eq Y qX6_faultOf_18 (by omega) (by omega) (fun h18 => ?_) (fun h18 => ?_)
    · refine J_aloadr_0 Y qX6_faultOf_25 ?_
      refine J_getI Y qX6_faultOf_26 fX6_19 (by decide) ?_
      first
      | (subst h10; exact J_iret X qX6_faultOf_29 ⟨_, rfl, Ru_a h7⟩)
      | (have hB := Ru_b h7 h10 h15
         first | rw [if_pos h18] at hB | rw [if_neg h18] at hB
         exact J_iret X qX6_faultOf_29 ⟨_, rfl, hB⟩)
    · refine J_iconst Y qX6_faultOf_21 ?_
      refine J_goto Y qX6_faultOf_22 ?_
      first
      | (subst h10; exact J_iret X qX6_faultOf_29 ⟨_, rfl, Ru_a h7⟩)
      | (have hB := Ru_b h7 h10 h15
         first | rw [if_pos h18] at hB | rw [if_neg h18] at hB
         exact J_iret X qX6_faultOf_29 ⟨_, rfl, hB⟩)

def wRul (M : Mem) (r : Nat) (a b : Int) (v : Int × Int × List (Int × Int × Int × Int)) : Mem := fun x y k =>
  if x = 3 ∧ y = r ∧ k = 0 then v.1 else if x = 3 ∧ y = r ∧ k = 1 then v.2.1 else if x = 3 ∧ y = r ∧ k = 2 then a else if x = 3 ∧ y = r ∧ k = 3 then b else if x = 3 ∧ y = r ∧ k = 8 then (v.2.2.length : Int)
  else if x = 22 ∧ y = r then (v.2.2.getD k (0, 0, 0, 0)).1 else if x = 19 ∧ y = r then (v.2.2.getD k (0, 0, 0, 0)).2.1 else if x = 20 ∧ y = r then (v.2.2.getD k (0, 0, 0, 0)).2.2.1 else if x = 21 ∧ y = r then (v.2.2.getD k (0, 0, 0, 0)).2.2.2
  else if x = 6 ∧ y = 0 ∧ k = 1 then 0 else if x = 4 ∧ y = 0 ∧ k = 2 then (r : Int) + 1 else M x y k
def f_rule (M : Mem) (a b : Int) : Int × Mem :=
  if a < 0 ∨ 100000 < b ∨ b ≤ a then (-7, rfs M 7) else if 10 ≤ M 4 0 2 then (-8, rfs M 8)
  else match (rulP (M 29 0) (M 6 0 1)).2 with
    | none => (-10 - (rulP (M 29 0) (M 6 0 1)).1, M)
    | some v => (M 4 0 2, wRul M (M 4 0 2).toNat a b v)
/-- the same but for the tape's place and what no rule uses -/
def RuE (M2 N : Mem) : Prop := ∀ x y k : Nat, ¬ (x = 6 ∧ y = 0 ∧ (k = 2 ∨ k = 3)) → ¬ (x = 3 ∧ N 4 0 2 ≤ y) → ¬ (19 ≤ x ∧ x ≤ 22 ∧ (N 4 0 2 ≤ y ∨ N 3 y 8 ≤ k)) → M2 x y k = N x y k
theorem RuE_no {M M2 : Mem} {r : Nat} (hr : M 4 0 2 = (r : Int)) (h : SlE r M2 M) : RuE M2 M := fun x y k x1 x2 x3 => h x y k x1 (by omega) (by omega)
theorem RuE_yes {M M2 : Mem} {r : Nat} {a b : Int} {t : List (Int × Int × Int × Int)} (hr : M 4 0 2 = (r : Int)) (h : SlE r M2 M) (h8 : M2 3 r 8 = (t.length : Int)) (ht : ∀ j, j < t.length → t[j]? = some (tsR r j M2)) : RuE (up (up (up (up M2 3 r 2 a) 3 r 3 b) 6 0 1 0) 4 0 2 ((r : Int) + 1)) (wRul M r a b (M2 3 r 0, M2 3 r 1, t)) := by
  intro x y k x1 x2 x3
  have e4 : wRul M r a b (M2 3 r 0, M2 3 r 1, t) 4 0 2 = (r : Int) + 1 := by simp [wRul]
  have e8 : wRul M r a b (M2 3 r 0, M2 3 r 1, t) 3 r 8 = (t.length : Int) := by simp [wRul]
  rw [e4] at x2 x3
  by_cases hA : 19 ≤ x ∧ x ≤ 22 ∧ y = r
  · obtain ⟨u1, u2, rfl⟩ := hA
    rw [e8] at x3
    have hj := ht k (by omega)
    have hd : t.getD k (0, 0, 0, 0) = tsR y k M2 := by rw [List.getD_eq_getElem?_getD, hj]; rfl
    rw [up_ne (by omega), up_ne (by omega), up_ne (by omega), up_ne (by omega)]
    simp only [wRul, hd, tsR]
    rcases (show x = 19 ∨ x = 20 ∨ x = 21 ∨ x = 22 by omega) with rfl | rfl | rfl | rfl <;> simp
  · by_cases hB : x = 3 ∧ y = r ∧ (k = 0 ∨ k = 1 ∨ k = 8)
    · obtain ⟨rfl, rfl, hk⟩ := hB
      rcases hk with rfl | rfl | rfl <;> simp [wRul, up, h8]
    · have hm := h x y k x1 hB hA
      simp only [wRul, up, hm]
      grind (splits := 30)
theorem k_rule (l : Launch) (G : Gx) (M : Mem) {n : Nat} {a b : Int} (a1 : -2147483648 ≤ a) (a2 : a < 2147483648) (b1 : -2147483648 ≤ b) (b2 : b < 2147483648) (hI : Inv n M) (hn : n < 512)  : Ct l G 9 yX8_rule cX8_rule 5 ((Option.some Jvm.ClassFile.FieldType.int)) [rf G 8 0, vi a, vi b] M (RI (fun z M2 => z = (f_rule M a b).1 ∧ RuE M2 (f_rule M a b).2)) := by
  refine Ct.of rfl (Nat.le_of_ble_eq_true rfl) rfl (fun E X => ?_)
  have Y := X.ok
  obtain ⟨c1, c2⟩ := hI.count
  obtain ⟨d1, d2⟩ := hI.day
  refine J_iload_1 Y qX8_rule_0 ?_
  refine J_if_lt Y qX8_rule_1 (by omega) (by omega) (fun h1 => ?_) (fun h1 => ?_)
  · refine J_aloadr_0 Y qX8_rule_15 ?_
    refine J_bipush Y qX8_rule_16 (by decide) ?_
    refine J_cV1F Y qX8_rule_18 mX8_66 iyX8_refused (by decide) rfl (by decide) rfl (Nat.le_of_ble_eq_true rfl) (c_refused (w := 7) _ _ _ (by decide) (by decide)) ?_
    exact J_iret X qX8_rule_21 ⟨_, rfl, by unfold f_rule; first | rw [if_pos (by omega)]; rfl | rw [if_neg (by omega), if_pos (by omega)]; rfl, by unfold f_rule; first | (rw [if_pos (by omega)]; exact fun _ _ _ _ _ _ => rfl) | (rw [if_neg (by omega), if_pos (by omega)]; exact fun _ _ _ _ _ _ => rfl)⟩
  · refine J_iload_2 Y qX8_rule_4 ?_
    refine J_ldc Y qX8_rule_5 kX8_172 ?_
    refine J_icmp_gt Y qX8_rule_7 (by omega) (by omega) (by omega) (by omega) (fun h7 => ?_) (fun h7 => ?_)
    · refine J_aloadr_0 Y qX8_rule_15 ?_
      refine J_bipush Y qX8_rule_16 (by decide) ?_
      refine J_cV1F Y qX8_rule_18 mX8_66 iyX8_refused (by decide) rfl (by decide) rfl (Nat.le_of_ble_eq_true rfl) (c_refused (w := 7) _ _ _ (by decide) (by decide)) ?_
      exact J_iret X qX8_rule_21 ⟨_, rfl, by unfold f_rule; first | rw [if_pos (by omega)]; rfl | rw [if_neg (by omega), if_pos (by omega)]; rfl, by unfold f_rule; first | (rw [if_pos (by omega)]; exact fun _ _ _ _ _ _ => rfl) | (rw [if_neg (by omega), if_pos (by omega)]; exact fun _ _ _ _ _ _ => rfl)⟩
    · refine J_iload_1 Y qX8_rule_10 ?_
      refine J_iload_2 Y qX8_rule_11 ?_
      refine J_icmp_lt Y qX8_rule_12 (by omega) (by omega) (by omega) (by omega) (fun h12 => ?_) (fun h12 => ?_)
      · refine J_aloadr_0 Y qX8_rule_22 ?_
        refine J_getR Y qX8_rule_23 fX8_39 (by decide) ?_
        refine J_getI Y qX8_rule_26 fX8_222 (by decide) ?_
        obtain ⟨k1, k2⟩ := hI.rules
        refine J_bipush Y qX8_rule_29 (by decide) ?_
        refine J_icmp_lt Y qX8_rule_31 (by omega) (by omega) (by omega) (by omega) (fun h31 => ?_) (fun h31 => ?_)
        · obtain ⟨r, hr⟩ := nat_of k1
          have hQ : TQ (M 29 0) (M 6 0 1) := ⟨hI.tape.1, hI.tape.2, fun k hk => hI.byt hk⟩
          have hN := rulP_rng hQ
          refine J_aloadr_0 Y qX8_rule_41 ?_
          refine J_getR Y qX8_rule_42 fX8_39 (by decide) ?_
          refine J_getR Y qX8_rule_45 fX8_223 (by decide) ?_
          refine J_aloadr_0 Y qX8_rule_48 ?_
          refine J_getR Y qX8_rule_49 fX8_39 (by decide) ?_
          refine J_getI Y qX8_rule_52 fX8_222 (by decide) ?_
          rw [hr]
          refine J_aaloadN (kx := r) Y qX8_rule_55 rfl (fun _ => rfl) (by decide) rfl (by omega) (by decide) ?_
          refine J_astore_3 Y qX8_rule_56 rfl ?_
          refine J_aloadr_0 Y qX8_rule_57 ?_
          refine J_getR Y qX8_rule_58 fX8_32 (by decide) ?_
          refine J_aloadr_3 Y qX8_rule_61 ?_
          refine J_cV1I Y qX8_rule_62 mX8_227 iyX6_faultOf (by decide) rfl (by decide) rfl (Nat.le_of_ble_eq_true rfl) (c_faultOf _ _ _ hQ rfl rfl (by omega)) (fun z62 M2 h62 => ?_)
          have hz62 : -1 ≤ z62 ∧ z62 ≤ 80 := by
            have := hI.tape
            rcases h62.2 with h | h
            · omega
            · omega
          refine J_istore_4 Y qX8_rule_65 rfl ?_
          refine J_iload_4 Y qX8_rule_67 ?_
          refine J_iconst Y qX8_rule_69 ?_
          refine J_icmp_eq Y qX8_rule_70 (by omega) (by omega) (by omega) (by omega) (fun h70 => ?_) (fun h70 => ?_)
          · refine J_aloadr_3 Y qX8_rule_79 ?_
            refine J_iload_1 Y qX8_rule_80 ?_
            refine J_putI Y qX8_rule_81 fX8_231w (by show _ < 10; omega) ?_
            refine J_aloadr_3 Y qX8_rule_84 ?_
            refine J_iload_2 Y qX8_rule_85 ?_
            refine J_putI Y qX8_rule_86 fX8_236w (by show _ < 10; omega) ?_
            refine J_aloadr_0 Y qX8_rule_89 ?_
            refine J_getR Y qX8_rule_90 fX8_32 (by decide) ?_
            refine J_iconst Y qX8_rule_93 ?_
            refine J_putI Y qX8_rule_94 fX8_217w (by decide) ?_
            refine J_aloadr_0 Y qX8_rule_97 ?_
            refine J_getR Y qX8_rule_98 fX8_39 (by decide) ?_
            refine J_dup Y qX8_rule_101 rfl ?_
            refine J_getI Y qX8_rule_102 fX8_222 (by decide) ?_
            rw [show up (up (up M2 3 r 2 a) 3 r 3 b) 6 0 1 0 4 0 2 = (r : Int) from (h62.1 4 0 2 (by omega) (by omega) (by omega)).trans hr]
            refine J_iconst Y qX8_rule_105 ?_
            refine J_iadd Y qX8_rule_106 ?_
            refine J_putI Y qX8_rule_107 fX8_222w (by decide) ?_
            refine J_aloadr_0 Y qX8_rule_110 ?_
            refine J_getR Y qX8_rule_111 fX8_39 (by decide) ?_
            refine J_getI Y qX8_rule_114 fX8_222 (by decide) ?_
            refine J_iconst Y qX8_rule_117 ?_
            refine J_isub Y qX8_rule_118 ?_
            rcases h62.2 with ⟨u1, u2⟩ | ⟨u1, t, u2, u3, u4⟩
            · omega
            · have hE : f_rule M a b = (M 4 0 2, wRul M (M 4 0 2).toNat a b (M2 3 r 0, M2 3 r 1, t)) := by rw [f_rule, if_neg (by omega), if_neg (by omega), u2]
              exact J_iret X qX8_rule_119 ⟨_, rfl, by rw [hE]; show (r : Int) + 1 - 1 = M 4 0 2; omega, by rw [hE, hr, Int.toNat_natCast]; exact RuE_yes hr h62.1 u3 u4⟩
          · refine J_bipush Y qX8_rule_73 (by decide) ?_
            refine J_iload_4 Y qX8_rule_75 ?_
            refine J_isub Y qX8_rule_77 ?_
            rcases h62.2 with ⟨u1, u2⟩ | ⟨u1, t, u2, u3, u4⟩
            · have hE : f_rule M a b = (-10 - (rulP (M 29 0) (M 6 0 1)).1, M) := by rw [f_rule, if_neg (by omega), if_neg (by omega), u2]
              exact J_iret X qX8_rule_78 ⟨_, rfl, by rw [hE, u1], by rw [hE]; exact RuE_no hr h62.1⟩
            · omega
        · refine J_aloadr_0 Y qX8_rule_34 ?_
          refine J_bipush Y qX8_rule_35 (by decide) ?_
          refine J_cV1F Y qX8_rule_37 mX8_66 iyX8_refused (by decide) rfl (by decide) rfl (Nat.le_of_ble_eq_true rfl) (c_refused (w := 8) _ _ _ (by decide) (by decide)) ?_
          exact J_iret X qX8_rule_40 ⟨_, rfl, by unfold f_rule; first | rw [if_pos (by omega)]; rfl | rw [if_neg (by omega), if_pos (by omega)]; rfl, by unfold f_rule; first | (rw [if_pos (by omega)]; exact fun _ _ _ _ _ _ => rfl) | (rw [if_neg (by omega), if_pos (by omega)]; exact fun _ _ _ _ _ _ => rfl)⟩
      · refine J_aloadr_0 Y qX8_rule_15 ?_
        refine J_bipush Y qX8_rule_16 (by decide) ?_
        refine J_cV1F Y qX8_rule_18 mX8_66 iyX8_refused (by decide) rfl (by decide) rfl (Nat.le_of_ble_eq_true rfl) (c_refused (w := 7) _ _ _ (by decide) (by decide)) ?_
        exact J_iret X qX8_rule_21 ⟨_, rfl, by unfold f_rule; first | rw [if_pos (by omega)]; rfl | rw [if_neg (by omega), if_pos (by omega)]; rfl, by unfold f_rule; first | (rw [if_pos (by omega)]; exact fun _ _ _ _ _ _ => rfl) | (rw [if_neg (by omega), if_pos (by omega)]; exact fun _ _ _ _ _ _ => rfl)⟩


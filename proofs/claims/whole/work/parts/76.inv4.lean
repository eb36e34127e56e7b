/-! ===== what always holds is kept: rules, shops ===== -/
def tOk (t : Int × Int × Int × Int) : Prop := (t.1 = 0 ∨ t.1 = 1) ∧ (0 ≤ t.2.1 ∧ t.2.1 ≤ 4) ∧ (t.2.2.1 = 60 ∨ t.2.2.1 = 61 ∨ t.2.2.1 = 62) ∧ 0 ≤ t.2.2.2 ∧ t.2.2.2 ≤ 9999
theorem tst_ok {T : Nat → Int} {n p : Int} (hQ : TQ T n) (p0 : 0 ≤ p) (p1 : p ≤ n) : (0 ≤ (tstP T n p).1 ∧ (tstP T n p).1 ≤ n) ∧ ∀ t, (tstP T n p).2 = some t → tOk t := by
  obtain ⟨n0, n1, n2⟩ := id hQ
  -- the denial
  have h1 : ∃ b q1 z1, (if ahd T n p = 110 then eatW T n 4 p else (1, p)) = (z1, q1) ∧ (0 ≤ q1 ∧ q1 ≤ n) ∧ b = (if ahd T n p = 110 then (1 : Int) else 0) ∧ (b = 0 ∨ b = 1) := by
    by_cases e : ahd T n p = 110
    · have := eatW_rng (i := 4) n2 (by decide) p0 p1
      exact ⟨1, (eatW T n 4 p).2, (eatW T n 4 p).1, by rw [if_pos e], ⟨by omega, this.2.2⟩, by rw [if_pos e], Or.inr rfl⟩
    · exact ⟨0, p, 1, by rw [if_neg e], ⟨p0, p1⟩, by rw [if_neg e], Or.inl rfl⟩
  obtain ⟨b, q1, z1, e1, ⟨r1, r2⟩, eb, hb⟩ := h1
  unfold tstP
  simp only [e1, ← eb]
  by_cases c1 : z1 = 0
  · rw [if_pos c1]; exact ⟨⟨r1, r2⟩, fun t ht => by cases ht⟩
  · rw [if_neg c1]
    obtain ⟨f1, f2⟩ := fldF_rng (ahd T n q1) (ahd T n (q1 + 1))
    have w := eatW_rng (i := 5 + (fldF (ahd T n q1) (ahd T n (q1 + 1))).toNat) n2 (by omega) r1 r2
    generalize e2 : eatW T n (5 + (fldF (ahd T n q1) (ahd T n (q1 + 1))).toNat) q1 = u at w ⊢
    obtain ⟨z2, q2⟩ := u
    simp only at w ⊢
    by_cases c2 : z2 = 0
    · rw [if_pos c2]; exact ⟨⟨by show 0 ≤ q2; omega, w.2.2⟩, fun t ht => by cases ht⟩
    · rw [if_neg c2]
      by_cases c3 : ahd T n q2 ≠ 60 ∧ ahd T n q2 ≠ 61 ∧ ahd T n q2 ≠ 62
      · rw [if_pos c3]; exact ⟨⟨by show 0 ≤ q2; omega, w.2.2⟩, fun t ht => by cases ht⟩
      · rw [if_neg c3]
        have hl := (ahd_rng n2 (show 0 ≤ q2 by omega)).2.2 (by omega)
        have g := numF_rng n2 4 (q2 + 1) 0 (by omega) (by omega) (by omega)
        generalize numF T n 4 (q2 + 1) 0 = u3 at g ⊢
        obtain ⟨q3, v⟩ := u3
        simp only at g ⊢
        by_cases c4 : q3 = q2 + 1
        · rw [if_pos c4]; exact ⟨⟨by show 0 ≤ q3; omega, g.2.1⟩, fun t ht => by cases ht⟩
        · rw [if_neg c4]
          refine ⟨⟨by show 0 ≤ q3; omega, g.2.1⟩, fun t ht => ?_⟩
          obtain rfl := Option.some.inj ht
          refine ⟨hb, ⟨f1, f2⟩, ?_, g.2.2.1, ?_⟩
          · show ahd T n q2 = 60 ∨ ahd T n q2 = 61 ∨ ahd T n q2 = 62; omega
          · show v ≤ 9999; have := g.2.2.2; omega
theorem tss_ok {T : Nat → Int} {n : Int} (hQ : TQ T n) : ∀ (m i : Nat) (p : Int), 0 ≤ p → p ≤ n → ∀ l, (tssP T n m i p).2 = some l → l.length ≤ m ∧ ∀ t ∈ l, tOk t
  | 0, i, p, p0, p1, l, h => by
    rw [tssP] at h
    split at h
    · obtain rfl := Option.some.inj h
      exact ⟨Nat.le_refl _, fun t ht => by cases ht⟩
    · cases h
  | m + 1, i, p, p0, p1, l, h => by
    obtain ⟨n0, n1, n2⟩ := id hQ
    by_cases c0 : n ≤ p
    · rw [tss_e c0 p1] at h
      obtain rfl := Option.some.inj h
      exact ⟨Nat.zero_le _, fun t ht => by cases ht⟩
    · have w := eatW_rng (i := if i = 0 then 2 else 3) n2 (by split <;> decide) p0 p1
      cases ee : eatW T n (if i = 0 then 2 else 3) p with
      | mk z1 q1 =>
        rw [ee] at w
        simp only at w
        rcases w.1 with rfl | rfl
        · rw [tss_w c0 ee] at h; cases h
        · have ht := tst_ok hQ (show 0 ≤ q1 by omega) w.2.2
          cases e2 : (tstP T n q1).2 with
          | none => rw [tss_n c0 ee e2] at h; cases h
          | some t =>
            rw [tss_s c0 ee e2] at h
            cases e3 : (tssP T n m (i + 1) (tstP T n q1).1).2 with
            | none => simp only [e3] at h; cases h
            | some l2 =>
              simp only [e3, Option.map_some, Option.some.injEq] at h
              subst h
              have ih := tss_ok hQ m (i + 1) _ ht.1.1 ht.1.2 l2 e3
              refine ⟨by rw [List.length_cons]; omega, fun u hu => ?_⟩
              rcases List.mem_cons.mp hu with hu | hu
              · subst hu; exact ht.2 _ e2
              · exact ih.2 u hu
theorem rul_ok {T : Nat → Int} {n : Int} (hQ : TQ T n) {w : Int × Int × List (Int × Int × Int × Int)} (h : (rulP T n).2 = some w) : (w.1 = 0 ∨ w.1 = 1) ∧ (0 ≤ w.2.1 ∧ w.2.1 ≤ 9999) ∧ w.2.2.length ≤ 3 ∧ ∀ t ∈ w.2.2, tOk t := by
  obtain ⟨n0, n1, n2⟩ := id hQ
  have w1 := eatW_rng (i := if ahd T n 0 = 98 then 0 else 1) n2 (by split <;> decide) (show (0 : Int) ≤ 0 by omega) n0
  unfold rulP at h
  simp only at h
  generalize eatW T n (if ahd T n 0 = 98 then 0 else 1) 0 = u at w1 h
  obtain ⟨z1, q1⟩ := u
  simp only at w1 h
  split at h
  · cases h
  · have g := numF_rng n2 4 q1 0 w1.2.1 w1.2.2 (by omega)
    generalize numF T n 4 q1 0 = u2 at g h
    obtain ⟨q2, v⟩ := u2
    simp only at g h
    split at h
    · cases h
    · have ts := tss_ok hQ 3 0 q2 (by omega) g.2.1
      generalize tssP T n 3 0 q2 = u3 at ts h
      obtain ⟨q3, o3⟩ := u3
      cases o3 with
      | none => simp at h
      | some l =>
        simp only [Option.some.injEq] at h
        subst h
        have := ts l rfl
        refine ⟨?_, ⟨g.2.2.1, ?_⟩, this.1, this.2⟩
        · show (if ahd T n 0 = 98 then (1 : Int) else 0) = 0 ∨ _
          split
          · right; rfl
          · left; rfl
        · show v ≤ 9999; have := g.2.2.2; omega
theorem i_rule {n : Nat} {M : Mem} {a b : Int} (h : Inv n M) : Inv (n + 1) (f_rule M a b).2 := by
  have hm := h.mono (Nat.le_succ n)
  unfold f_rule
  by_cases e1 : a < 0 ∨ 100000 < b ∨ b ≤ a
  · rw [if_pos e1]; exact Inv_rfs hm
  · rw [if_neg e1]
    by_cases e2 : 10 ≤ M 4 0 2
    · rw [if_pos e2]; exact Inv_rfs hm
    · rw [if_neg e2]
      obtain ⟨ru1, ru2⟩ := h.rules
      obtain ⟨r, hr⟩ := nat_of ru1
      have hQ : TQ (M 29 0) (M 6 0 1) := ⟨h.tape.1, h.tape.2, fun k hk => h.byt hk⟩
      cases hw : (rulP (M 29 0) (M 6 0 1)).2 with
      | none => exact hm
      | some w =>
        obtain ⟨v1, v2, v3, v4⟩ := rul_ok hQ hw
        rw [hr, Int.toNat_natCast]
        show Inv (n + 1) (wRul M r a b w)
        have ex : ∀ x y k, ¬ (x = 3 ∧ y = r) → ¬ (19 ≤ x ∧ x ≤ 22 ∧ y = r) → ¬ (x = 6 ∧ y = 0 ∧ k = 1) → ¬ (x = 4 ∧ y = 0 ∧ k = 2) → wRul M r a b w x y k = M x y k := fun x y k h1 h2 h3 h4 => wRul_o h1 h2 h3 h4
        have e42 : wRul M r a b w 4 0 2 = (r : Int) + 1 := by simp [wRul]
        have e61 : wRul M r a b w 6 0 1 = 0 := by simp [wRul]
        have e02 : wRul M r a b w 0 0 2 = M 0 0 2 := ex 0 0 2 (by omega) (by omega) (by omega) (by omega)
        have e5 : ∀ y k, wRul M r a b w 5 y k = M 5 y k := fun y k => ex 5 y k (by omega) (by omega) (by omega) (by omega)
        refine ⟨by rw [e02]; exact hm.1, fun s hs => ⟨?_, IvR_cong (hm.rowR (by omega)).1 (fun p => ex _ _ _ (by omega) (by omega) (by omega) (by omega)), IvR_cong (hm.rowR (by omega)).2 (fun p => ex _ _ _ (by omega) (by omega) (by omega) (by omega))⟩, fun s hs => ⟨IvL_cong (hm.lets hs) (fun z hz => e5 _ _) (ex _ _ _ (by omega) (by omega) (by omega) (by omega)), IvP_cong (hm.pawns hs) (e5 _ _) (fun j => ⟨ex _ _ _ (by omega) (by omega) (by omega) (by omega), ex _ _ _ (by omega) (by omega) (by omega) (by omega)⟩), IvB_cong (hm.bes hs) e02 e5, fun h2 => ?_⟩, fun p hp => ?_, by rw [ex 8 0 9 (by omega) (by omega) (by omega) (by omega)]; exact hm.day, fun x hx => ⟨by rw [ex 12 0 x (by omega) (by omega) (by omega) (by omega)]; exact (hm.arch hx).1, IvT_cong (hm.arch hx).2 e02 e5 (ex _ _ _ (by omega) (by omega) (by omega) (by omega))⟩, by rw [ex 1 0 6 (by omega) (by omega) (by omega) (by omega)]; exact hm.size, by rw [e42]; omega, fun q hq => ?_, by rw [e61]; omega, fun k hk => by rw [e61] at hk; omega, by rw [ex 8 0 8 (by omega) (by omega) (by omega) (by omega)]; exact hm.laid⟩
        · have := hm.shopS (s := s) (by omega)
          unfold IvS at this ⊢
          rw [e5, e5, e5, e5]; exact this
        · have := hm.fresh hs (by omega)
          unfold IvN at this ⊢
          rw [e5, e5, e5, e5, e5]
          refine ⟨this.1, this.2.1, this.2.2.1, this.2.2.2.1, this.2.2.2.2.1, fun p hp => ?_⟩
          rw [ex 25 s p (by omega) (by omega) (by omega) (by omega), ex 26 s p (by omega) (by omega) (by omega) (by omega)]
          exact this.2.2.2.2.2 p hp
        · have := hm.heirs hp
          unfold IvH at this ⊢
          rw [ex 7 p 2 (by omega) (by omega) (by omega) (by omega)]
          refine ⟨this.1, this.2.1, fun j hj => ?_⟩
          rw [ex 30 p j (by omega) (by omega) (by omega) (by omega), ex 31 p j (by omega) (by omega) (by omega) (by omega)]
          exact this.2.2 j hj
        · rw [e42] at hq
          by_cases eq : q = r
          · subst eq
            unfold IvQ
            rw [show wRul M q a b w 3 q 0 = w.1 by simp [wRul], show wRul M q a b w 3 q 1 = w.2.1 by simp [wRul], show wRul M q a b w 3 q 2 = a by simp [wRul], show wRul M q a b w 3 q 3 = b by simp [wRul], show wRul M q a b w 3 q 8 = w.2.2.length by simp [wRul]]
            refine ⟨v1, v2, by omega, by omega, by omega, fun j hj => ?_⟩
            have hjl : j < w.2.2.length := by omega
            have tk := v4 (w.2.2.getD j (0, 0, 0, 0)) (by rw [List.getD_eq_getElem?_getD, List.getElem?_eq_getElem hjl]; exact List.getElem_mem hjl)
            rw [show wRul M q a b w 19 q j = (w.2.2.getD j (0, 0, 0, 0)).2.1 by simp [wRul], show wRul M q a b w 20 q j = (w.2.2.getD j (0, 0, 0, 0)).2.2.1 by simp [wRul], show wRul M q a b w 21 q j = (w.2.2.getD j (0, 0, 0, 0)).2.2.2 by simp [wRul], show wRul M q a b w 22 q j = (w.2.2.getD j (0, 0, 0, 0)).1 by simp [wRul]]
            exact ⟨tk.2.1, tk.2.2.1, tk.2.2.2, tk.1⟩
          · have := hm.rule (r := q) (by omega)
            have eo : ∀ x k, x ≠ 6 → x ≠ 4 → wRul M r a b w x q k = M x q k := fun x k h1 h2 => ex _ _ _ (by omega) (by omega) (by omega) (by omega)
            unfold IvQ at this ⊢
            rw [eo 3 0 (by decide) (by decide), eo 3 1 (by decide) (by decide), eo 3 2 (by decide) (by decide), eo 3 3 (by decide) (by decide), eo 3 8 (by decide) (by decide)]
            refine ⟨this.1, this.2.1, this.2.2.1, this.2.2.2.1, this.2.2.2.2.1, fun j hj => ?_⟩
            rw [eo 19 j (by decide) (by decide), eo 20 j (by decide) (by decide), eo 21 j (by decide) (by decide), eo 22 j (by decide) (by decide)]
            exact this.2.2.2.2.2 j hj
theorem i_shop {n : Nat} {M M2 : Mem} {a b c : Int} (h : Inv n M) (hD : Der M2 (f_shop M a b c).2) (hB : ∀ s, s < 14 → IvB M2 s) (hT : ∀ x, x < 6 → IvT M2 x) : Inv (n + 1) M2 := by
  have hm := h.mono (Nat.le_succ n)
  have b12 : ∀ s : Nat, s < 14 → M2 0 0 2 ≤ (s : Int) → M2 5 s 12 = 0 := fun s hs h2 => by
    obtain ⟨g1, g2⟩ := hB s hs
    have : (M2 5 s 12).toNat = 0 := by
      refine Nat.eq_of_testBit_eq (fun t => ?_)
      rw [Nat.zero_testBit]
      exact Bool_no (fun z => by have := (g2 t).mp z; omega)
    omega
  have bad : ∀ w, (f_shop M a b c).2 = rfs M w → Inv (n + 1) M2 := fun w e => by
    rw [e] at hD
    refine Inv_CE (Inv_rfs (w := w) hm) (CE_der hD) hB hT (fun s hs h2 => b12 s hs ?_)
    have : M2 0 0 2 = rfs M w 0 0 2 := hD 0 0 2 (by omega) (by decide)
    omega
  unfold f_shop at hD bad
  by_cases e1 : a < 0 ∨ 499 < a ∨ 5 < a / 10 % 10
  · rw [if_pos e1] at bad; exact bad 3 rfl
  · rw [if_neg e1] at hD bad
    by_cases e2 : b < 1 ∨ 9999 < b ∨ c < 1 ∨ 9 < c
    · rw [if_pos e2] at bad; exact bad 7 rfl
    · rw [if_neg e2] at hD bad
      by_cases e3 : 14 ≤ M 0 0 2
      · rw [if_pos e3] at bad; exact bad 8 rfl
      · rw [if_neg e3] at hD
        clear bad
        obtain ⟨cc1, cc2⟩ := h.count
        obtain ⟨s, hs⟩ := nat_of cc1
        obtain ⟨p, hp⟩ := nat_of (show 0 ≤ a % 10 by omega)
        rw [hs, hp, Int.toNat_natCast, Int.toNat_natCast] at hD
        have hW : ∀ x y z, ¬ (x = 5 ∧ z = 12) → x ≠ 13 → ¬ (x = 0 ∧ y = 0 ∧ z = 2) → M2 x y z = shpM M s (a / 100) (a / 10 % 10) b c p x y z := fun x y z h1 h2 h3 => by rw [hD x y z h1 h2]; exact up_ne h3
        have e02 : M2 0 0 2 = (s : Int) + 1 := by rw [hD 0 0 2 (by omega) (by decide)]; exact up_same (shpM M s (a / 100) (a / 10 % 10) b c p) 0 0 2 ((s : Int) + 1)
        have eo : ∀ x y z, x ≠ 5 → x ≠ 25 → x ≠ 26 → x ≠ 13 → x ≠ 0 → M2 x y z = M x y z := fun x y z h1 h2 h3 h4 h5 => by rw [hW x y z (by omega) h4 (by omega), shpM_f ⟨h1, h2, h3⟩]
        have e5 : ∀ y z, 4 ≤ z → z ≠ 12 → M2 5 y z = M 5 y z := fun y z h1 h2 => by
          rw [hW 5 y z (by omega) (by decide) (by omega)]
          by_cases ey : y = s
          · subst ey; exact shpM_k h1
          · exact shpM_o ey
        have e25 : ∀ y z, y ≠ s → M2 25 y z = M 25 y z := fun y z hy => by rw [hW 25 y z (by omega) (by decide) (by omega)]; simp [shpM, giv, up, upR, hy]
        have e26 : ∀ y z, y ≠ s → M2 26 y z = M 26 y z := fun y z hy => by rw [hW 26 y z (by omega) (by decide) (by omega)]; simp [shpM, giv, up, upR, hy]
        have r25 : IvR M2 25 s := by
          refine IvR_cong (a := giv M 25 s p) (IvR_giv (by omega)) (fun q => ?_)
          rw [hW 25 s q (by omega) (by decide) (by omega)]
          simp only [shpM, giv, up, upR]; grind
        have r26 : IvR M2 26 s := by
          refine IvR_cong (a := giv M 26 s p) (IvR_giv (by omega)) (fun q => ?_)
          rw [hW 26 s q (by omega) (by decide) (by omega)]
          simp only [shpM, giv, up, upR]; grind
        refine ⟨by rw [e02]; omega, fun u hu => ?_, fun u hu => ⟨IvL_cong (hm.lets hu) (fun z hz => e5 _ _ (by omega) (by omega)) (eo _ _ _ (by decide) (by decide) (by decide) (by decide) (by decide)), IvP_cong (hm.pawns hu) (e5 _ _ (by omega) (by omega)) (fun j => ⟨eo _ _ _ (by decide) (by decide) (by decide) (by decide) (by decide), eo _ _ _ (by decide) (by decide) (by decide) (by decide) (by decide)⟩), hB u hu, fun h2 => ?_⟩, fun q hq => ?_, by rw [eo 8 0 9 (by decide) (by decide) (by decide) (by decide) (by decide)]; exact hm.day, fun x hx => ⟨by rw [eo 12 0 x (by decide) (by decide) (by decide) (by decide) (by decide)]; exact (hm.arch hx).1, hT x hx⟩, by rw [eo 1 0 6 (by decide) (by decide) (by decide) (by decide) (by decide)]; exact hm.size, by rw [eo 4 0 2 (by decide) (by decide) (by decide) (by decide) (by decide)]; exact hm.rules, fun r hr => ?_, by rw [eo 6 0 1 (by decide) (by decide) (by decide) (by decide) (by decide)]; exact hm.tape, fun k hk => ?_, by rw [eo 8 0 8 (by decide) (by decide) (by decide) (by decide) (by decide)]; exact hm.laid⟩
        · rw [e02] at hu
          by_cases eu : u = s
          · subst eu
            refine ⟨?_, r25, r26⟩
            unfold IvS
            rw [hW 5 u 0 (by omega) (by decide) (by omega), hW 5 u 1 (by omega) (by decide) (by omega), hW 5 u 2 (by omega) (by decide) (by omega), hW 5 u 3 (by omega) (by decide) (by omega), shpM_0, shpM_1, shpM_2, shpM_3]
            omega
          · refine ⟨?_, IvR_cong (hm.rowR (by omega)).1 (fun q => e25 _ _ eu), IvR_cong (hm.rowR (by omega)).2 (fun q => e26 _ _ eu)⟩
            have := hm.shopS (s := u) (by omega)
            unfold IvS at this ⊢
            rw [hW 5 u 0 (by omega) (by decide) (by omega), hW 5 u 1 (by omega) (by decide) (by omega), hW 5 u 2 (by omega) (by decide) (by omega), hW 5 u 3 (by omega) (by decide) (by omega), shpM_o eu, shpM_o eu, shpM_o eu, shpM_o eu]
            exact this
        · have h3 := b12 u hu h2
          rw [e02] at h2
          have := hm.fresh hu (by omega)
          unfold IvN at this ⊢
          rw [e5 u 6 (by omega) (by omega), e5 u 7 (by omega) (by omega), e5 u 8 (by omega) (by omega), e5 u 11 (by omega) (by omega)]
          refine ⟨this.1, this.2.1, this.2.2.1, this.2.2.2.1, h3, fun q hq => ?_⟩
          rw [e25 u q (by omega), e26 u q (by omega)]
          exact this.2.2.2.2.2 q hq
        · have := hm.heirs hq
          unfold IvH at this ⊢
          rw [eo 7 q 2 (by decide) (by decide) (by decide) (by decide) (by decide)]
          refine ⟨this.1, this.2.1, fun j hj => ?_⟩
          rw [eo 30 q j (by decide) (by decide) (by decide) (by decide) (by decide), eo 31 q j (by decide) (by decide) (by decide) (by decide) (by decide)]
          exact this.2.2 j hj
        · rw [eo 4 0 2 (by decide) (by decide) (by decide) (by decide) (by decide)] at hr
          have := hm.rule hr
          unfold IvQ at this ⊢
          have e3 : ∀ x y z, x = 3 ∨ x = 19 ∨ x = 20 ∨ x = 21 ∨ x = 22 → M2 x y z = M x y z := fun x y z hx => eo x y z (by omega) (by omega) (by omega) (by omega) (by omega)
          rw [e3 3 r 0 (by omega), e3 3 r 1 (by omega), e3 3 r 2 (by omega), e3 3 r 3 (by omega), e3 3 r 8 (by omega)]
          refine ⟨this.1, this.2.1, this.2.2.1, this.2.2.2.1, this.2.2.2.2.1, fun j hj => ?_⟩
          rw [e3 19 r j (by omega), e3 20 r j (by omega), e3 21 r j (by omega), e3 22 r j (by omega)]
          exact this.2.2.2.2.2 j hj
        · rw [eo 6 0 1 (by decide) (by decide) (by decide) (by decide) (by decide)] at hk
          rw [eo 29 0 k (by decide) (by decide) (by decide) (by decide) (by decide)]
          exact hm.byt hk

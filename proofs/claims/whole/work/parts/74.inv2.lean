/-! ===== what always holds is kept: pawns, deaths, days ===== -/
theorem i_pawn {n : Nat} {M : Mem} {a b c : Int} (h : Inv n M) : Inv (n + 1) (f_pawn M a b c).2 := by
  have hm := h.mono (Nat.le_succ n)
  unfold f_pawn
  by_cases e1 : a < 0 ∨ M 0 0 2 ≤ a ∨ b < 0 ∨ 9 < b
  · rw [if_pos e1]; exact Inv_rfs hm
  · rw [if_neg e1]
    split
    · exact Inv_rfs hm
    · split
      · exact Inv_rfs hm
      · next e2 e3 =>
        obtain ⟨s, rfl⟩ := nat_of (show 0 ≤ a by omega)
        rw [Int.toNat_natCast] at e2 e3 ⊢
        obtain ⟨cc1, cc2⟩ := h.count
        obtain ⟨p1, p2, p3⟩ := h.pawns (s := s) (by omega)
        obtain ⟨k, hk⟩ := nat_of p1
        rw [hk, Int.toNat_natCast]
        show Inv (n + 1) (addP M s k b c)
        have el : ∀ x y z, ¬ (x = 27 ∧ y = s) → ¬ (x = 28 ∧ y = s) → ¬ (x = 5 ∧ y = s ∧ z = 11) → addP M s k b c x y z = M x y z := fun x y z h1 h2 h3 => by unfold addP; rw [up_ne (by omega), up_ne (by omega), up_ne (by omega)]
        refine Inv_gen h (fun x y z _ _ h3 h4 _ _ h7 _ => el x y z (by omega) (by omega) (by omega)) (fun u hu => ⟨IvR_cong (h.rowR hu).1 (fun p => el _ _ _ (by omega) (by omega) (by omega)), IvR_cong (h.rowR hu).2 (fun p => el _ _ _ (by omega) (by omega) (by omega))⟩) (fun u hu => IvL_cong (h.lets hu) (fun z hz => el _ _ _ (by omega) (by omega) (by omega)) (el _ _ _ (by omega) (by omega) (by omega))) (fun u hu => ?_) (fun u hu h2 => ?_) (by rw [el _ _ _ (by omega) (by omega) (by omega)]; exact Inv_day h)
        · by_cases eu : u = s
          · subst eu
            unfold IvP
            rw [show addP M u k b c 5 u 11 = (k : Int) + 1 by simp [addP, up]]
            refine ⟨by omega, by omega, fun j hj => ?_⟩
            by_cases ej : j = k
            · subst ej
              rw [show addP M u j b c 27 u j = b by simp [addP, up], show addP M u j b c 28 u j = c by simp [addP, up]]
              omega
            · rw [show addP M u k b c 27 u j = M 27 u j by simp [addP, up, ej], show addP M u k b c 28 u j = M 28 u j by simp [addP, up, ej]]
              exact p3 j (by omega)
          · exact IvP_cong (h.pawns hu) (el _ _ _ (by omega) (by omega) (by omega)) (fun j => ⟨el _ _ _ (by omega) (by omega) (by omega), el _ _ _ (by omega) (by omega) (by omega)⟩)
        · have := h.fresh hu h2
          rw [el _ _ _ (by omega) (by omega) (by omega), el _ _ _ (by omega) (by omega) (by omega), el _ _ _ (by omega) (by omega) (by omega), el _ _ _ (by omega) (by omega) (by omega)]
          refine ⟨this.1, this.2.1, this.2.2.1, this.2.2.2.1, fun p hp => ?_⟩
          rw [el _ _ _ (by omega) (by omega) (by omega), el _ _ _ (by omega) (by omega) (by omega)]
          exact this.2.2.2.2.2 p hp
theorem i_pay {n : Nat} {M : Mem} {a b : Int} (h : Inv n M) : Inv (n + 1) (f_pay M a b).2 := by
  have hm := h.mono (Nat.le_succ n)
  unfold f_pay
  by_cases e1 : (a < 0 ∨ M 0 0 2 ≤ a) ∨ b < 0 ∨ M 5 a.toNat 11 ≤ b
  · rw [if_pos e1]; exact Inv_rfs hm
  · rw [if_neg e1]
    obtain ⟨s, rfl⟩ := nat_of (show 0 ≤ a by omega)
    rw [Int.toNat_natCast] at e1 ⊢
    obtain ⟨cc1, cc2⟩ := h.count
    obtain ⟨p1, p2, p3⟩ := h.pawns (s := s) (by omega)
    obtain ⟨k, hk⟩ := nat_of p1
    obtain ⟨i, rfl⟩ := nat_of (show 0 ≤ b by omega)
    rw [hk, Int.toNat_natCast, Int.toNat_natCast]
    show Inv (n + 1) (drp M s i k)
    have el : ∀ x y z, ¬ (x = 27 ∧ y = s) → ¬ (x = 28 ∧ y = s) → ¬ (x = 5 ∧ y = s ∧ z = 11) → drp M s i k x y z = M x y z := fun x y z h1 h2 h3 => by unfold drp drpS; rw [up_ne (by omega), upR_ne (by omega), upR_ne (by omega)]
    refine Inv_gen h (fun x y z _ _ h3 h4 _ _ h7 _ => el x y z (by omega) (by omega) (by omega)) (fun u hu => ⟨IvR_cong (h.rowR hu).1 (fun p => el _ _ _ (by omega) (by omega) (by omega)), IvR_cong (h.rowR hu).2 (fun p => el _ _ _ (by omega) (by omega) (by omega))⟩) (fun u hu => IvL_cong (h.lets hu) (fun z hz => el _ _ _ (by omega) (by omega) (by omega)) (el _ _ _ (by omega) (by omega) (by omega))) (fun u hu => ?_) (fun u hu h2 => ?_) (by rw [el _ _ _ (by omega) (by omega) (by omega)]; exact Inv_day h)
    · by_cases eu : u = s
      · subst eu
        unfold IvP
        rw [show drp M u i k 5 u 11 = (k : Int) - 1 by simp [drp, up]]
        refine ⟨by omega, by omega, fun j hj => ?_⟩
        rw [show drp M u i k 27 u j = shf (M 27 u) i k j by simp [drp, drpS, up, upR], show drp M u i k 28 u j = shf (M 28 u) i k j by simp [drp, drpS, up, upR]]
        unfold shf
        split
        · exact p3 (j + 1) (by omega)
        · exact p3 j (by omega)
      · exact IvP_cong (h.pawns hu) (el _ _ _ (by omega) (by omega) (by omega)) (fun j => ⟨el _ _ _ (by omega) (by omega) (by omega), el _ _ _ (by omega) (by omega) (by omega)⟩)
    · have := h.fresh hu h2
      rw [el _ _ _ (by omega) (by omega) (by omega), el _ _ _ (by omega) (by omega) (by omega), el _ _ _ (by omega) (by omega) (by omega), el _ _ _ (by omega) (by omega) (by omega)]
      refine ⟨this.1, this.2.1, this.2.2.1, this.2.2.2.1, fun p hp => ?_⟩
      rw [el _ _ _ (by omega) (by omega) (by omega), el _ _ _ (by omega) (by omega) (by omega)]
      exact this.2.2.2.2.2 p hp
theorem pdS_iv {M : Mem} {s : Nat} {price : Int} (h0 : 0 ≤ price) (hp : price ≤ 99999) : ∀ i : Nat, (∀ j, j < i → (0 ≤ M 27 s j ∧ M 27 s j ≤ 9) ∧ 1 ≤ M 28 s j ∧ M 28 s j ≤ 9999) → (∀ j, j < (pdS M s price i).2.1 → (0 ≤ (pdS M s price i).2.2 27 s j ∧ (pdS M s price i).2.2 27 s j ≤ 9) ∧ 1 ≤ (pdS M s price i).2.2 28 s j ∧ (pdS M s price i).2.2 28 s j ≤ 9999) ∧ ∀ y z, y ≠ s → (pdS M s price i).2.2 27 y z = M 27 y z ∧ (pdS M s price i).2.2 28 y z = M 28 y z
  | 0, _ => ⟨fun j hj => by simp [pdS] at hj, fun y z hy => by simp [pdS, up]⟩
  | i + 1, h => by
    obtain ⟨i1, i2⟩ := pdS_iv h0 hp i (fun j hj => h j (by omega))
    obtain ⟨f1, f2, f3, f4, f5⟩ := pdS_facts M s price h0 hp i (fun j hj => (h j (by omega)).2.1)
    have hi := h i (by omega)
    simp only [pdS]
    split
    · next e =>
      refine ⟨fun j hj => ?_, fun y z hy => ?_⟩
      · by_cases ej : j = (pdS M s price i).2.1
        · rw [ej]
          simp only [addP, up]
          simp
          omega
        · have hj2 : j < (pdS M s price i).2.1 + 1 := hj
          have := i1 j (by omega)
          simp only [addP, up]
          rw [if_neg (by omega), if_neg (by omega), if_neg (by omega), if_neg (by omega), if_neg (by omega), if_neg (by omega), if_neg (by omega)]
          rw [if_neg (by omega)]
          exact this
      · have := i2 y z hy
        simp only [addP, up]
        rw [if_neg (by omega), if_neg (by omega), if_neg (by omega), if_neg (by omega), if_neg (by omega), if_neg (by omega), if_neg (by omega), if_neg (by omega)]
        exact this
    · refine ⟨fun j hj => ?_, fun y z hy => ?_⟩
      · have := i1 j hj
        simp only [up]
        rw [if_neg (by omega), if_neg (by omega)]
        exact this
      · have := i2 y z hy
        simp only [up]
        rw [if_neg (by omega), if_neg (by omega)]
        exact this
theorem sumN_one {p : Nat} : ∀ n : Nat, p < n → sumN (fun c => if c = p then (5040 : Int) else 0) n = 5040
  | 0, h => by omega
  | n + 1, h => by
    have z : ∀ m, m ≤ p → sumN (fun c => if c = p then (5040 : Int) else 0) m = 0 := by
      intro m
      induction m with
      | zero => intro _; rfl
      | succ m ih => intro hm; rw [sumN, ih (by omega), if_neg (by omega)]; rfl
    rw [sumN]
    by_cases e : n = p
    · rw [z n (by omega), if_pos e]; rfl
    · rw [sumN_one n (by omega), if_neg e]; rfl
theorem IvR_giv {M : Mem} {f s p : Nat} (hp : p < 10) : IvR (giv M f s p) f s := by
  have e : ∀ c, c < 10 → giv M f s p f s c = if c = p then 5040 else 0 := by
    intro c hc
    simp only [giv, up, upR]
    grind
  refine ⟨fun c hc => ?_, ?_⟩
  · rw [e c hc]; split <;> omega
  · rw [sumN_cong 10 (fun c hc => e c hc)]; exact sumN_one 10 hp
theorem i_sold {n : Nat} {M : Mem} {a b c : Int} (h : Inv n M) : Inv (n + 1) (f_sold M a b c).2 := by
  have hm := h.mono (Nat.le_succ n)
  unfold f_sold
  by_cases e1 : a < 0 ∨ M 0 0 2 ≤ a ∨ b < 0 ∨ 9 < b
  · rw [if_pos e1]; exact Inv_rfs hm
  · rw [if_neg e1]
    by_cases e2 : c < 0 ∨ 99999 < c
    · rw [if_pos e2]; exact Inv_rfs hm
    · rw [if_neg e2]
      obtain ⟨s, rfl⟩ := nat_of (show 0 ≤ a by omega)
      obtain ⟨q, rfl⟩ := nat_of (show 0 ≤ b by omega)
      rw [Int.toNat_natCast, Int.toNat_natCast]
      obtain ⟨cc1, cc2⟩ := h.count
      obtain ⟨p1, p2, p3⟩ := h.pawns (s := s) (by omega)
      obtain ⟨k, hk⟩ := nat_of p1
      show Inv (n + 1) (soldM M s q c)
      unfold soldM
      rw [hk, Int.toNat_natCast]
      obtain ⟨f1, f2, f3, f4, f5⟩ := pdS_facts M s c (by omega) (by omega) k (fun j hj => (p3 j (by omega)).2.1)
      obtain ⟨v1, v2⟩ := pdS_iv (s := s) (price := c) (by omega) (by omega) k (fun j hj => p3 j (by omega))
      generalize pdS M s c k = W at f1 f2 f3 f4 f5 v1 v2 ⊢
      obtain ⟨lf, cn, W⟩ := W
      simp only at f1 f2 f3 f4 f5 v1 v2 ⊢
      have el : ∀ x y z, x ≠ 18 → ¬ (x = 26 ∧ y = s) → giv (prt W 26 s lf 1) 26 s q x y z = W x y z := fun x y z h1 h2 => by unfold giv; rw [up_ne (by omega), upR_ne (by omega), prt_ne h1]
      have e2 : ∀ x y z, x ≠ 18 → x ≠ 27 → x ≠ 28 → ¬ (x = 26 ∧ y = s) → ¬ (x = 5 ∧ y = s ∧ z = 11) → giv (prt W 26 s lf 1) 26 s q x y z = M x y z := fun x y z h1 h2 h3 h4 h5 => by rw [el x y z h1 h4]; exact f5 x y z h2 h3 h1 h5
      refine Inv_gen h (fun x y z h1 h2 h3 h4 h5 h6 h7 _ => e2 x y z h5 h3 h4 (by omega) (by omega)) (fun u hu => ⟨IvR_cong (h.rowR hu).1 (fun p => e2 _ _ _ (by decide) (by decide) (by decide) (by omega) (by omega)), ?_⟩) (fun u hu => IvL_cong (h.lets hu) (fun z hz => e2 _ _ _ (by decide) (by decide) (by decide) (by omega) (by omega)) (e2 _ _ _ (by decide) (by decide) (by decide) (by omega) (by omega))) (fun u hu => ?_) (fun u hu h2 => ?_) (by rw [e2 _ _ _ (by decide) (by decide) (by decide) (by omega) (by omega)]; exact Inv_day h)
      · by_cases eu : u = s
        · subst eu; exact IvR_giv (by omega)
        · exact IvR_cong (h.rowR hu).2 (fun p => e2 _ _ _ (by decide) (by decide) (by decide) (by omega) (by omega))
      · by_cases eu : u = s
        · subst eu
          unfold IvP
          rw [el 5 u 11 (by decide) (by omega), f3]
          refine ⟨by omega, by omega, fun j hj => ?_⟩
          rw [el 27 u j (by decide) (by omega), el 28 u j (by decide) (by omega)]
          exact v1 j (by omega)
        · refine IvP_cong (h.pawns hu) (e2 _ _ _ (by decide) (by decide) (by decide) (by omega) (by omega)) (fun j => ?_)
          rw [el 27 u j (by decide) (by omega), el 28 u j (by decide) (by omega)]
          exact v2 u j eu
      · have := h.fresh hu h2
        rw [e2 _ _ _ (by decide) (by decide) (by decide) (by omega) (by omega), e2 _ _ _ (by decide) (by decide) (by decide) (by omega) (by omega), e2 _ _ _ (by decide) (by decide) (by decide) (by omega) (by omega), e2 _ _ _ (by decide) (by decide) (by decide) (by omega) (by omega)]
        refine ⟨this.1, this.2.1, this.2.2.1, this.2.2.2.1, fun p hp => ?_⟩
        rw [e2 _ _ _ (by decide) (by decide) (by decide) (by omega) (by omega), e2 _ _ _ (by decide) (by decide) (by decide) (by omega) (by omega)]
        exact this.2.2.2.2.2 p hp
theorem i_repair {n : Nat} {M : Mem} {a b : Int} (h : Inv n M) : Inv (n + 1) (f_repair M a b).2 := by
  have hm := h.mono (Nat.le_succ n)
  unfold f_repair
  split
  · exact Inv_rfs hm
  · split
    · exact Inv_rfs hm
    · split
      · exact Inv_rfs hm
      · generalize b / undN M a (M 0 0 2).toNat = ea
        generalize b - ea * undN M a (M 0 0 2).toNat = lf
        show Inv (n + 1) (repM M a ea lf (M 0 0 2).toNat).2
        have el : ∀ x y z, x ≠ 18 → (repM M a ea lf (M 0 0 2).toNat).2 x y z = M x y z := fun x y z hx => repM_ne hx _
        refine Inv_gen h (fun x y z _ _ _ _ h5 _ _ _ => el x y z h5) (fun u hu => ⟨IvR_cong (h.rowR hu).1 (fun p => el _ _ _ (by decide)), IvR_cong (h.rowR hu).2 (fun p => el _ _ _ (by decide))⟩) (fun u hu => IvL_cong (h.lets hu) (fun z hz => el _ _ _ (by decide)) (el _ _ _ (by decide))) (fun u hu => IvP_cong (h.pawns hu) (el _ _ _ (by decide)) (fun j => ⟨el _ _ _ (by decide), el _ _ _ (by decide)⟩)) (fun u hu h2 => ?_) (by rw [el _ _ _ (by decide)]; exact Inv_day h)
        have := h.fresh hu h2
        rw [el _ _ _ (by decide), el _ _ _ (by decide), el _ _ _ (by decide), el _ _ _ (by decide)]
        refine ⟨this.1, this.2.1, this.2.2.1, this.2.2.2.1, fun p hp => ?_⟩
        rw [el _ _ _ (by decide), el _ _ _ (by decide)]
        exact this.2.2.2.2.2 p hp
theorem i_run {n : Nat} {M : Mem} {a : Int} (h : Inv n M) : Inv (n + 1) (f_run M a).2 := by
  have hm := h.mono (Nat.le_succ n)
  unfold f_run
  by_cases e1 : a < 0
  · rw [if_pos e1]; exact Inv_rfs hm
  · rw [if_neg e1]
    by_cases e2 : a < 1 ∨ 100 < a
    · rw [if_pos e2]; exact Inv_rfs hm
    · rw [if_neg e2]
      obtain ⟨cc1, cc2⟩ := h.count
      obtain ⟨c, hc⟩ := nat_of cc1
      obtain ⟨d1, d2⟩ := h.day
      rw [hc, Int.toNat_natCast]
      show Inv (n + 1) (up (runM M a c) 8 0 9 (M 8 0 9 + a))
      have el : ∀ x y z, x ≠ 18 → x ≠ 5 → ¬ (x = 8 ∧ y = 0 ∧ z = 9) → up (runM M a c) 8 0 9 (M 8 0 9 + a) x y z = M x y z := fun x y z h1 h2 h3 => by rw [up_ne h3, runM_ne h1 c (by omega)]
      have e5 : ∀ y z, up (runM M a c) 8 0 9 (M 8 0 9 + a) 5 y z = if y < c ∧ (z = 6 ∨ z = 7 ∨ z = 8) ∧ M 5 y 6 ≠ -1 ∧ M 5 y 7 - M 8 0 9 + 1 ≤ a then -1 else M 5 y z := fun y z => by rw [up_ne (by omega), run_let]
      refine Inv_gen h (fun x y z h1 h2 h3 h4 h5 h6 h7 h8 => ?_) (fun u hu => ⟨IvR_cong (h.rowR hu).1 (fun p => el _ _ _ (by decide) (by decide) (by omega)), IvR_cong (h.rowR hu).2 (fun p => el _ _ _ (by decide) (by decide) (by omega))⟩) (fun u hu => ?_) (fun u hu => IvP_cong (h.pawns hu) (by rw [e5, if_neg (by omega)]) (fun j => ⟨el _ _ _ (by decide) (by decide) (by omega), el _ _ _ (by decide) (by decide) (by omega)⟩)) (fun u hu h2 => ?_) (by rw [up_same]; omega)
      · by_cases ex : x = 5
        · subst ex; rw [e5, if_neg (by omega)]
        · exact el x y z h5 ex h8
      · have hl := h.lets hu
        unfold IvL at hl ⊢
        rw [e5, e5, e5, up_same]
        by_cases eu : u < c
        · by_cases e6 : M 5 u 6 ≠ -1 ∧ M 5 u 7 - M 8 0 9 + 1 ≤ a
          · rw [if_pos ⟨eu, by omega, e6.1, e6.2⟩, if_pos ⟨eu, by omega, e6.1, e6.2⟩, if_pos ⟨eu, by omega, e6.1, e6.2⟩]; omega
          · rw [if_neg (by omega), if_neg (by omega), if_neg (by omega)]; omega
        · have := h.fresh hu (by omega)
          rw [if_neg (by omega), if_neg (by omega), if_neg (by omega)]
          have h6 := this.1
          omega
      · have := h.fresh hu h2
        rw [e5, e5, e5, e5, if_neg (by omega), if_neg (by omega), if_neg (by omega), if_neg (by omega)]
        refine ⟨this.1, this.2.1, this.2.2.1, this.2.2.2.1, fun p hp => ?_⟩
        rw [el _ _ _ (by decide) (by decide) (by omega), el _ _ _ (by decide) (by decide) (by omega)]
        exact this.2.2.2.2.2 p hp

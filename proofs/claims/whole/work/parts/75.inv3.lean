/-! ===== what always holds is kept: deaths, plans, rules, shops ===== -/
theorem dst_sum {g hs ws : Nat → Int} {est all : Int} : ∀ k, (∀ j, j < k → 0 ≤ hs j ∧ hs j ≤ 9) → sumN (dst g hs ws est all k) 10 = sumN g 10 + sumN (fun h => est * ws h / all) k
  | 0, _ => by show sumN g 10 = sumN g 10 + 0; omega
  | k + 1, h => by
    have ih := dst_sum (g := g) (ws := ws) (est := est) (all := all) k (fun j hj => h j (by omega))
    have hk := h k (by omega)
    obtain ⟨q, hq⟩ := nat_of hk.1
    rw [show sumN (fun h => est * ws h / all) (k + 1) = sumN (fun h => est * ws h / all) k + est * ws k / all from rfl, ← Int.add_assoc, ← ih]
    refine sumN_upd (i := q) ?_ 10 (by omega) (fun c hc hn => ?_)
    · show (if (q : Int) = hs k then _ else _) = _
      rw [if_pos hq.symm]
    · show (if (c : Int) = hs k then _ else _) = _
      rw [if_neg (by omega)]
theorem dst_nn {g hs ws : Nat → Int} {est all : Int} (he : 0 ≤ est) (ha : 1 ≤ all) : ∀ k, (∀ j, j < k → 0 ≤ ws j) → ∀ c, g c ≤ dst g hs ws est all k c
  | 0, _, c => Int.le_refl _
  | k + 1, h, c => by
    have ih := dst_nn (g := g) (hs := hs) he ha k (fun j hj => h j (by omega)) c
    have : 0 ≤ est * ws k / all := Int.ediv_nonneg (Int.mul_nonneg he (h k (by omega))) (by omega)
    show g c ≤ (if (c : Int) = hs k then _ else _)
    split <;> omega
theorem dst_at {g hs ws : Nat → Int} {est all : Int} {d : Nat} : ∀ k, (∀ j, j < k → hs j ≠ d) → dst g hs ws est all k d = g d
  | 0, _ => rfl
  | k + 1, h => by
    show (if (d : Int) = hs k then _ else _) = _
    rw [if_neg (fun z => h k (by omega) z.symm)]
    exact dst_at k (fun j hj => h j (by omega))
theorem sum_div {ws : Nat → Int} {est all : Int} (ha : 1 ≤ all) : ∀ k, all * sumN (fun h => est * ws h / all) k ≤ est * sumN ws k
  | 0 => by simp [sumN]
  | k + 1 => by
    have ih := sum_div (ws := ws) (est := est) ha k
    have := Int.ediv_mul_le (est * ws k) (show all ≠ 0 by omega)
    rw [sumN, sumN, Int.mul_add, Int.mul_add]
    rw [Int.mul_comm] at this
    omega
theorem pasR_iv {g hs ws : Nat → Int} {k d : Nat} (hd : d < 10) (k1 : 1 ≤ k) (hg : ∀ p, p < 10 → 0 ≤ g p) (hh : ∀ j, j < k → (0 ≤ hs j ∧ hs j ≤ 9) ∧ hs j ≠ d ∧ 1 ≤ ws j) : (∀ p, p < 10 → 0 ≤ pasR g hs ws k d p) ∧ sumN (pasR g hs ws k d) 10 = sumN g 10 := by
  have ha : 1 ≤ sumN ws k := by have := sumN_ge (g := ws) (c := 1) k (fun j hj => (hh j hj).2.2); omega
  have hgd := hg d hd
  have hsum := sum_div (ws := ws) (est := g d) ha k
  have hle : sumN (fun h => g d * ws h / sumN ws k) k ≤ g d := by
    rw [Int.mul_comm (g d)] at hsum
    exact Int.le_of_mul_le_mul_left hsum (by omega)
  have hh0 := hh 0 (by omega)
  obtain ⟨h0, hh00⟩ := nat_of hh0.1.1
  have hdn := fun c => dst_nn (g := g) (hs := hs) (ws := ws) (est := g d) (all := sumN ws k) hgd ha k (fun j hj => by have := (hh j hj).2.2; omega) c
  refine ⟨fun p hp => ?_, ?_⟩
  · unfold pasR
    have := hg p hp
    have := hdn p
    split
    · omega
    · split <;> omega
  · have s1 := dst_sum (g := g) (hs := hs) (ws := ws) (est := g d) (all := sumN ws k) k (fun j hj => (hh j hj).1)
    have sd := dst_at (g := g) (hs := hs) (ws := ws) (est := g d) (all := sumN ws k) (d := d) k (fun j hj => (hh j hj).2.1)
    have e1 : sumN (fun c => if c = d then 0 else dst g hs ws (g d) (sumN ws k) k c) 10 = sumN (dst g hs ws (g d) (sumN ws k) k) 10 + -(g d) := by
      refine sumN_upd (i := d) ?_ 10 hd (fun c hc hn => by rw [if_neg hn])
      rw [if_pos rfl, sd]; omega
    have e2 : sumN (pasR g hs ws k d) 10 = sumN (fun c => if c = d then 0 else dst g hs ws (g d) (sumN ws k) k c) 10 + (g d - sumN (fun h => g d * ws h / sumN ws k) k) := by
      refine sumN_upd (i := h0) ?_ 10 (by omega) (fun c hc hn => ?_)
      · unfold pasR
        rw [if_neg (by omega), if_pos hh00.symm, if_neg (by omega)]
      · unfold pasR
        by_cases e : c = d
        · rw [if_pos e, if_pos e]
        · rw [if_neg e, if_neg e, if_neg (by omega)]
    rw [e2, e1, s1]; omega
theorem i_death {n : Nat} {M : Mem} {a : Int} (h : Inv n M) : Inv (n + 1) (f_death M a).2 := by
  have hm := h.mono (Nat.le_succ n)
  unfold f_death
  by_cases e1 : a < 0 ∨ 9 < a
  · rw [if_pos e1]; exact Inv_rfs hm
  · rw [if_neg e1]
    obtain ⟨p, rfl⟩ := nat_of (show 0 ≤ a by omega)
    rw [Int.toNat_natCast]
    by_cases e2 : M 7 p 2 = 0
    · rw [if_pos e2]; exact Inv_rfs hm
    · rw [if_neg e2]
      obtain ⟨q1, q2, q3⟩ := h.heirs (p := p) (by omega)
      obtain ⟨k, hk⟩ := nat_of q1
      obtain ⟨cc1, cc2⟩ := h.count
      obtain ⟨c, hc⟩ := nat_of cc1
      rw [hc, Int.toNat_natCast]
      show Inv (n + 1) (dth M p c)
      rw [dth_dthG hk (fun s hs => (h.pawns hs).1) c (by omega)]
      have hh : ∀ j, j < k → (0 ≤ M 30 p j ∧ M 30 p j ≤ 9) ∧ M 30 p j ≠ p ∧ 1 ≤ M 31 p j := fun j hj => by have := q3 j (by omega); exact ⟨this.1, this.2.1, this.2.2.1⟩
      have eo : ∀ x y z, x ≠ 25 → x ≠ 26 → x ≠ 27 → ¬ (x = 5 ∧ (z = 6 ∨ z = 7 ∨ z = 8)) → dthG M p k (2 * c) c x y z = M x y z := by
        intro x y z h1 h2 h3 h4
        unfold dthG
        rw [if_neg (by omega), if_neg (by omega), if_neg (by omega)]
      refine Inv_gen h (fun x y z h1 h2 h3 h4 h5 h6 h7 _ => eo x y z h1 h2 h3 (by omega)) (fun u hu => ⟨?_, ?_⟩) (fun u hu => ?_) (fun u hu => ?_) (fun u hu h2 => ?_) (by rw [eo _ _ _ (by decide) (by decide) (by decide) (by omega)]; exact Inv_day h)
      · have r := (h.rowR hu).1
        have := pasR_iv (g := M 25 u) (d := p) (by omega) (by omega) r.1 hh
        refine ⟨fun q hq => by rw [dthG_25y (by omega)]; exact this.1 q hq, ?_⟩
        rw [show dthG M p k (2 * c) c 25 u = pasR (M 25 u) (M 30 p) (M 31 p) k p from funext fun z => dthG_25y (by omega), this.2]; exact r.2
      · have r := (h.rowR hu).2
        have := pasR_iv (g := M 26 u) (d := p) (by omega) (by omega) r.1 hh
        refine ⟨fun q hq => by rw [dthG_26y (by omega)]; exact this.1 q hq, ?_⟩
        rw [show dthG M p k (2 * c) c 26 u = pasR (M 26 u) (M 30 p) (M 31 p) k p from funext fun z => dthG_26y (by omega), this.2]; exact r.2
      · by_cases e : u < c ∧ M 5 u 6 = p
        · unfold IvL
          rw [dthG_5y e.1 e.2 (by omega), dthG_5y e.1 e.2 (by omega), dthG_5y e.1 e.2 (by omega)]
          omega
        · exact IvL_cong (h.lets hu) (fun z hz => dthG_5n (by omega)) (eo _ _ _ (by decide) (by decide) (by decide) (by omega))
      · obtain ⟨w1, w2, w3⟩ := h.pawns hu
        unfold IvP
        rw [dthG_5 (by omega)]
        refine ⟨w1, w2, fun j hj => ?_⟩
        have := w3 j hj
        rw [eo 28 u j (by decide) (by decide) (by decide) (by omega)]
        refine ⟨?_, this.2⟩
        by_cases e : u < c ∧ M 27 u j = p
        · rw [dthG_27y e.1 hj e.2]; exact (hh 0 (by omega)).1
        · rw [dthG_27n (by omega)]; exact this.1
      · have := h.fresh hu h2
        rw [dthG_5n (by omega), dthG_5n (by omega), dthG_5n (by omega), dthG_5n (by omega)]
        refine ⟨this.1, this.2.1, this.2.2.1, this.2.2.2.1, fun q hq => ?_⟩
        rw [dthG_25n (by omega), dthG_26n (by omega)]
        exact this.2.2.2.2.2 q hq

/-- the same but for scratch -/
def CEx (x y z : Nat) : Prop := (x = 0 ∧ y = 0 ∧ z = 2) ∨ (x = 5 ∧ z ≠ 12) ∨ x = 25 ∨ x = 26 ∨ x = 27 ∨ x = 28 ∨ x = 7 ∨ x = 30 ∨ x = 31 ∨ x = 18 ∨ x = 12 ∨ x = 34 ∨ x = 33 ∨ x = 8 ∨ (x = 1 ∧ y = 0 ∧ z = 6) ∨ (x = 4 ∧ y = 0 ∧ z = 2) ∨ (x = 6 ∧ y = 0 ∧ z = 1) ∨ x = 29
def CE (a2 a : Mem) : Prop := (∀ x y z : Nat, CEx x y z → a2 x y z = a x y z) ∧ (∀ r : Nat, (r : Int) < a 4 0 2 → (∀ z : Nat, a2 3 r z = a 3 r z) ∧ ∀ j : Nat, (j : Int) < a 3 r 8 → a2 19 r j = a 19 r j ∧ a2 20 r j = a 20 r j ∧ a2 21 r j = a 21 r j ∧ a2 22 r j = a 22 r j) ∧ ∀ k : Nat, (k : Int) < a 1 0 6 → a2 16 0 k = a 16 0 k ∧ a2 17 0 k = a 17 0 k
theorem CE_rf (a : Mem) : CE a a := ⟨fun _ _ _ _ => rfl, fun _ _ => ⟨fun _ => rfl, fun _ _ => ⟨rfl, rfl, rfl, rfl⟩⟩, fun _ _ => ⟨rfl, rfl⟩⟩
theorem CE_sm {N a2 a : Mem} (h : CE a2 a) (hS : Sm N a2) : CE N a := by
  refine ⟨fun x y z hx => ?_, fun r hr => ⟨fun z => ?_, fun j hj => ?_⟩, fun k hk => ?_⟩
  · rw [hS x y z (by unfold CEx at hx; omega) (by unfold CEx at hx; omega)]; exact h.1 x y z hx
  · rw [hS _ _ _ (by decide) (by decide)]; exact (h.2.1 r hr).1 z
  · rw [hS _ _ _ (by decide) (by decide), hS _ _ _ (by decide) (by decide), hS _ _ _ (by decide) (by decide), hS _ _ _ (by decide) (by decide)]; exact (h.2.1 r hr).2 j hj
  · rw [hS _ _ _ (by decide) (by decide), hS _ _ _ (by decide) (by decide)]; exact h.2.2 k hk
theorem CE_scr {a2 a : Mem} (h : Scr a2 a) : CE a2 a := by
  obtain ⟨g, c, k, rfl⟩ := h
  refine ⟨fun x y z hx => scr_ne (by unfold CEx at hx; omega) (by unfold CEx at hx; omega), fun r hr => ⟨fun z => scr_ne (by decide) (by omega), fun j hj => ⟨scr_ne (by decide) (by omega), scr_ne (by decide) (by omega), scr_ne (by decide) (by omega), scr_ne (by decide) (by omega)⟩⟩, fun k hk => ⟨scr_ne (by decide) (by omega), scr_ne (by decide) (by omega)⟩⟩
theorem CE_pl {a2 a : Mem} (h : PlE a2 a) : CE a2 a := by
  refine ⟨fun x y z hx => h x y z (by unfold CEx at hx; omega) (by unfold CEx at hx; omega) (by unfold CEx at hx; omega) (by unfold CEx at hx; omega), fun r hr => ⟨fun z => h _ _ _ (by omega) (by decide) (by decide) (by omega), fun j hj => ⟨h _ _ _ (by omega) (by decide) (by decide) (by omega), h _ _ _ (by omega) (by decide) (by decide) (by omega), h _ _ _ (by omega) (by decide) (by decide) (by omega), h _ _ _ (by omega) (by decide) (by decide) (by omega)⟩⟩, fun k hk => ⟨h _ _ _ (by omega) (by decide) (by decide) (by omega), h _ _ _ (by omega) (by decide) (by decide) (by omega)⟩⟩
theorem CE_ru {a2 a : Mem} (h : RuE a2 a) : CE a2 a := by
  refine ⟨fun x y z hx => h x y z (by unfold CEx at hx; omega) (by unfold CEx at hx; omega) (by unfold CEx at hx; omega), fun r hr => ⟨fun z => h _ _ _ (by omega) (by omega) (by omega), fun j hj => ⟨h _ _ _ (by omega) (by omega) (by omega), h _ _ _ (by omega) (by omega) (by omega), h _ _ _ (by omega) (by omega) (by omega), h _ _ _ (by omega) (by omega) (by omega)⟩⟩, fun k hk => ⟨h _ _ _ (by omega) (by omega) (by omega), h _ _ _ (by omega) (by omega) (by omega)⟩⟩
theorem CE_der {a2 a : Mem} (h : Der a2 a) : CE a2 a := by
  refine ⟨fun x y z hx => h x y z (by unfold CEx at hx; omega) (by unfold CEx at hx; omega), fun r hr => ⟨fun z => h _ _ _ (by omega) (by decide), fun j hj => ⟨h _ _ _ (by omega) (by decide), h _ _ _ (by omega) (by decide), h _ _ _ (by omega) (by decide), h _ _ _ (by omega) (by decide)⟩⟩, fun k hk => ⟨h _ _ _ (by omega) (by decide), h _ _ _ (by omega) (by decide)⟩⟩
theorem MR_CE {a a2 N : Mem} (h : MR a N) (e : CE a2 a) : MR a2 N := by
  obtain ⟨e1, e2, e3⟩ := e
  have E : ∀ x y z, CEx x y z → a2 x y z = a x y z := e1
  refine ⟨?_, ?_, ?_, ?_, ?_, ?_, ?_, ?_, ?_, ?_, ?_, ?_, ?_⟩
  · have q := h.r0; unfold MR0 at q ⊢
    rw [E 8 0 9 (by unfold CEx; omega), E 0 0 2 (by unfold CEx; omega), E 4 0 2 (by unfold CEx; omega), E 6 0 1 (by unfold CEx; omega), E 1 0 6 (by unfold CEx; omega), E 8 0 8 (by unfold CEx; omega)]; exact q
  · intro k hk; rw [E 34 0 k (by unfold CEx; omega)]; exact h.rr k hk
  · intro s hs
    rw [E 0 0 2 (by unfold CEx; omega)] at hs
    rw [E 5 s 0 (by unfold CEx; omega), E 5 s 1 (by unfold CEx; omega), E 5 s 2 (by unfold CEx; omega), E 5 s 3 (by unfold CEx; omega)]; exact h.rs s hs
  · intro s hs p hp; rw [E 25 s p (by unfold CEx; omega), E 26 s p (by unfold CEx; omega)]; exact h.rp s hs p hp
  · intro s hs; rw [E 5 s 6 (by unfold CEx; omega), E 5 s 7 (by unfold CEx; omega), E 5 s 8 (by unfold CEx; omega)]; exact h.rl s hs
  · intro s hs
    rw [E 5 s 11 (by unfold CEx; omega)]
    refine ⟨(h.rq s hs).1, fun j hj => ?_⟩
    rw [E 27 s j (by unfold CEx; omega), E 28 s j (by unfold CEx; omega)]; exact (h.rq s hs).2 j hj
  · intro p hp
    rw [E 7 p 2 (by unfold CEx; omega)]
    refine ⟨(h.rh p hp).1, fun j hj => ?_⟩
    rw [E 30 p j (by unfold CEx; omega), E 31 p j (by unfold CEx; omega)]; exact (h.rh p hp).2 j hj
  · intro p hp; rw [E 18 0 p (by unfold CEx; omega)]; exact h.rm p hp
  · intro k hk; rw [E 12 0 k (by unfold CEx; omega)]; exact h.rt k hk
  · intro r hr
    rw [E 4 0 2 (by unfold CEx; omega)] at hr
    obtain ⟨g1, g2⟩ := e2 r hr
    obtain ⟨q0, q1, q2, q3, q4, q5⟩ := h.ru r hr
    rw [g1 2, g1 3, g1 0, g1 1, g1 8]
    refine ⟨q0, q1, q2, q3, q4, fun j hj => ?_⟩
    obtain ⟨w1, w2, w3, w4⟩ := g2 j hj
    rw [w1, w2, w3, w4]; exact q5 j hj
  · intro k hk
    rw [E 6 0 1 (by unfold CEx; omega)] at hk
    rw [E 29 0 k (by unfold CEx; omega)]; exact h.rf k hk
  · intro k hk
    rw [E 1 0 6 (by unfold CEx; omega)] at hk
    rw [(e3 k hk).1, (e3 k hk).2]; exact h.rb k hk
  · intro k hk; rw [E 33 0 k (by unfold CEx; omega)]; exact h.rw k hk
theorem Inv_CE {n : Nat} {a a2 : Mem} (h : Inv n a) (e : CE a2 a) (hB : ∀ s : Nat, s < 14 → IvB a2 s) (hT : ∀ x : Nat, x < 6 → IvT a2 x) (h12 : ∀ s : Nat, s < 14 → a 0 0 2 ≤ s → a2 5 s 12 = 0) : Inv n a2 := by
  obtain ⟨E, e2, e3⟩ := e
  have e02 : a2 0 0 2 = a 0 0 2 := E 0 0 2 (by unfold CEx; omega)
  refine ⟨by rw [e02]; exact h.1, fun s hs => ⟨?_, IvR_cong (h.rowR (by omega)).1 (fun p => E _ _ _ (by unfold CEx; omega)), IvR_cong (h.rowR (by omega)).2 (fun p => E _ _ _ (by unfold CEx; omega))⟩, fun s hs => ⟨IvL_cong (h.lets hs) (fun z hz => E _ _ _ (by unfold CEx; omega)) (E _ _ _ (by unfold CEx; omega)), IvP_cong (h.pawns hs) (E _ _ _ (by unfold CEx; omega)) (fun j => ⟨E _ _ _ (by unfold CEx; omega), E _ _ _ (by unfold CEx; omega)⟩), hB s hs, fun h2 => ?_⟩, fun p hp => ?_, by rw [E 8 0 9 (by unfold CEx; omega)]; exact h.day, fun x hx => ⟨by rw [E 12 0 x (by unfold CEx; omega)]; exact (h.arch hx).1, hT x hx⟩, by rw [E 1 0 6 (by unfold CEx; omega)]; exact h.size, by rw [E 4 0 2 (by unfold CEx; omega)]; exact h.rules, fun r hr => ?_, by rw [E 6 0 1 (by unfold CEx; omega)]; exact h.tape, fun k hk => ?_, by rw [E 8 0 8 (by unfold CEx; omega)]; exact h.laid⟩
  · have := h.shopS (s := s) (by omega)
    unfold IvS at this ⊢
    rw [E 5 s 0 (by unfold CEx; omega), E 5 s 1 (by unfold CEx; omega), E 5 s 2 (by unfold CEx; omega), E 5 s 3 (by unfold CEx; omega)]; exact this
  · have := h.fresh hs (by omega)
    unfold IvN at this ⊢
    rw [E 5 s 6 (by unfold CEx; omega), E 5 s 7 (by unfold CEx; omega), E 5 s 8 (by unfold CEx; omega), E 5 s 11 (by unfold CEx; omega)]
    refine ⟨this.1, this.2.1, this.2.2.1, this.2.2.2.1, h12 s hs (by omega), fun p hp => ?_⟩
    rw [E 25 s p (by unfold CEx; omega), E 26 s p (by unfold CEx; omega)]
    exact this.2.2.2.2.2 p hp
  · have := h.heirs hp
    unfold IvH at this ⊢
    rw [E 7 p 2 (by unfold CEx; omega)]
    refine ⟨this.1, this.2.1, fun j hj => ?_⟩
    rw [E 30 p j (by unfold CEx; omega), E 31 p j (by unfold CEx; omega)]
    exact this.2.2 j hj
  · rw [E 4 0 2 (by unfold CEx; omega)] at hr
    obtain ⟨g1, g2⟩ := e2 r hr
    have := h.rule hr
    unfold IvQ at this ⊢
    rw [g1 0, g1 1, g1 2, g1 3, g1 8]
    refine ⟨this.1, this.2.1, this.2.2.1, this.2.2.2.1, this.2.2.2.2.1, fun j hj => ?_⟩
    obtain ⟨w1, w2, w3, w4⟩ := g2 j hj
    rw [w1, w2, w3, w4]
    exact this.2.2.2.2.2 j hj
  · rw [E 6 0 1 (by unfold CEx; omega)] at hk
    rw [E 29 0 k (by unfold CEx; omega)]; exact h.byt hk
theorem IvB_cong {a a2 : Mem} {s : Nat} (h : IvB a s) (e0 : a2 0 0 2 = a 0 0 2) (e5 : ∀ y z, a2 5 y z = a 5 y z) : IvB a2 s := by
  unfold IvB areB at h ⊢
  simp only [e0, e5]
  exact h
theorem IvT_cong {a a2 : Mem} {x : Nat} (h : IvT a x) (e0 : a2 0 0 2 = a 0 0 2) (e5 : ∀ y z, a2 5 y z = a 5 y z) (e13 : a2 13 0 x = a 13 0 x) : IvT a2 x := by
  unfold IvT at h ⊢
  simp only [e0, e5, e13]
  exact h
/-- the world behind, if who is beside whom is the same -/
theorem Inv_CE2 {n : Nat} {a a2 : Mem} (h : Inv n a) (e : CE a2 a) (e5 : ∀ y, a2 5 y 12 = a 5 y 12) (e13 : ∀ z, a2 13 0 z = a 13 0 z) : Inv n a2 := by
  have e02 : a2 0 0 2 = a 0 0 2 := e.1 0 0 2 (by unfold CEx; omega)
  have e55 : ∀ y z, a2 5 y z = a 5 y z := fun y z => by
    by_cases q : z = 12
    · subst q; exact e5 y
    · exact e.1 5 y z (by unfold CEx; omega)
  exact Inv_CE h e (fun s hs => IvB_cong (h.bes hs) e02 e55) (fun x hx => IvT_cong (h.arch hx).2 e02 e55 (e13 x)) (fun s hs h2 => by rw [e5]; exact (h.fresh hs h2).2.2.2.2.1)
theorem i_plan {n : Nat} {M : Mem} {a : Int} (h : Inv n M) : Inv (n + 1) (f_plan M a).2 := by
  have hm := h.mono (Nat.le_succ n)
  unfold f_plan
  split
  · exact Inv_rfs hm
  · split
    · exact Inv_rfs hm
    · refine ⟨hm.1, hm.2.1, hm.2.2.1, hm.2.2.2.1, hm.2.2.2.2.1, hm.2.2.2.2.2.1, ?_, hm.2.2.2.2.2.2.2⟩
      show 0 ≤ (popN a.toNat : Int) ∧ (popN a.toNat : Int) ≤ 6
      have := pop6 a.toNat
      omega


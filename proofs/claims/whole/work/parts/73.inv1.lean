/-! ===== what always holds is kept ===== -/
theorem Inv.mono {n k : Nat} {M : Mem} (h : Inv n M) (hk : n ≤ k) : Inv k M := by
  obtain ⟨h1, h2, h3, h4, ⟨h5, h6⟩, h7⟩ := h
  exact ⟨h1, h2, h3, h4, ⟨h5, by omega⟩, h7⟩
theorem Inv_rfs {n w : Nat} {M : Mem} (h : Inv n M) : Inv n (rfs M w) := h
theorem Inv_sta {n p s g : Nat} {M : Mem} (h : Inv n M) : Inv n (staM M p s g) := h
theorem Inv_gen {n k : Nat} {a a2 : Mem} (h : Inv n a) (he : ∀ x y z : Nat, x ≠ 25 → x ≠ 26 → x ≠ 27 → x ≠ 28 → x ≠ 18 → x ≠ 34 → ¬ (x = 5 ∧ (z = 6 ∨ z = 7 ∨ z = 8 ∨ z = 11)) → ¬ (x = 8 ∧ y = 0 ∧ z = 9) → a2 x y z = a x y z) (hR : ∀ s : Nat, (s : Int) < a 0 0 2 → IvR a2 25 s ∧ IvR a2 26 s) (hL : ∀ s : Nat, s < 14 → IvL a2 s) (hP : ∀ s : Nat, s < 14 → IvP a2 s) (hN : ∀ s : Nat, s < 14 → a 0 0 2 ≤ s → a2 5 s 6 = -1 ∧ a2 5 s 7 = -1 ∧ a2 5 s 8 = -1 ∧ a2 5 s 11 = 0 ∧ ∀ p : Nat, p < 10 → a2 25 s p = 0 ∧ a2 26 s p = 0) (hd : 0 ≤ a2 8 0 9 ∧ a2 8 0 9 ≤ 100 * k) : Inv k a2 := by
  have e : ∀ x, x ≠ 25 → x ≠ 26 → x ≠ 27 → x ≠ 28 → x ≠ 18 → x ≠ 34 → x ≠ 5 → x ≠ 8 → a2 x = a x := fun x h1 h2 h3 h4 h5 h6 h7 h8 => funext fun y => funext fun z => he x y z h1 h2 h3 h4 h5 h6 (by omega) (by omega)
  have e5 : ∀ y z, z ≠ 6 → z ≠ 7 → z ≠ 8 → z ≠ 11 → a2 5 y z = a 5 y z := fun y z h1 h2 h3 h4 => he 5 y z (by decide) (by decide) (by decide) (by decide) (by decide) (by decide) (by omega) (by omega)
  have e0 : a2 0 = a 0 := e 0 (by decide) (by decide) (by decide) (by decide) (by decide) (by decide) (by decide) (by decide)
  have eB : ∀ s t, areB a2 s t ↔ areB a s t := fun s t => by
    unfold areB
    simp only [e5 _ 0 (by decide) (by decide) (by decide) (by decide), e5 _ 1 (by decide) (by decide) (by decide) (by decide)]
  refine ⟨by rw [e0]; exact h.1, fun s hs => ?_, fun s hs => ⟨hL s hs, hP s hs, ?_, fun h2 => ?_⟩, fun p hp => ?_, hd, fun x hx => ?_, ?_, ?_, fun r hr => ?_, ?_, fun q hq => ?_, ?_⟩
  · rw [e0] at hs
    refine ⟨?_, hR s hs⟩
    have := h.shopS hs
    unfold IvS at this ⊢
    rw [e5 s 0 (by decide) (by decide) (by decide) (by decide), e5 s 1 (by decide) (by decide) (by decide) (by decide), e5 s 2 (by decide) (by decide) (by decide) (by decide), e5 s 3 (by decide) (by decide) (by decide) (by decide)]
    exact this
  · have := h.bes hs
    unfold IvB at this ⊢
    rw [e5 s 12 (by decide) (by decide) (by decide) (by decide), e0]
    refine ⟨this.1, fun t => ?_⟩
    rw [this.2 t, eB]
  · rw [e0] at h2
    have := h.fresh hs h2
    obtain ⟨g1, g2, g3, g4, g5⟩ := hN s hs h2
    exact ⟨g1, g2, g3, g4, by rw [e5 s 12 (by decide) (by decide) (by decide) (by decide)]; exact this.2.2.2.2.1, g5⟩
  · have := h.heirs hp
    unfold IvH at this ⊢
    rw [e 7 (by decide) (by decide) (by decide) (by decide) (by decide) (by decide) (by decide) (by decide), e 30 (by decide) (by decide) (by decide) (by decide) (by decide) (by decide) (by decide) (by decide), e 31 (by decide) (by decide) (by decide) (by decide) (by decide) (by decide) (by decide) (by decide)]
    exact this
  · have := h.arch hx
    unfold IvT at this ⊢
    rw [e 12 (by decide) (by decide) (by decide) (by decide) (by decide) (by decide) (by decide) (by decide), e 13 (by decide) (by decide) (by decide) (by decide) (by decide) (by decide) (by decide) (by decide), e0]
    simp only [e5 _ 0 (by decide) (by decide) (by decide) (by decide), e5 _ 1 (by decide) (by decide) (by decide) (by decide)]
    exact this
  · rw [e 1 (by decide) (by decide) (by decide) (by decide) (by decide) (by decide) (by decide) (by decide)]; exact h.size
  · rw [e 4 (by decide) (by decide) (by decide) (by decide) (by decide) (by decide) (by decide) (by decide)]; exact h.rules
  · rw [e 4 (by decide) (by decide) (by decide) (by decide) (by decide) (by decide) (by decide) (by decide)] at hr
    have := h.rule hr
    unfold IvQ at this ⊢
    rw [e 3 (by decide) (by decide) (by decide) (by decide) (by decide) (by decide) (by decide) (by decide), e 19 (by decide) (by decide) (by decide) (by decide) (by decide) (by decide) (by decide) (by decide), e 20 (by decide) (by decide) (by decide) (by decide) (by decide) (by decide) (by decide) (by decide), e 21 (by decide) (by decide) (by decide) (by decide) (by decide) (by decide) (by decide) (by decide), e 22 (by decide) (by decide) (by decide) (by decide) (by decide) (by decide) (by decide) (by decide)]
    exact this
  · rw [e 6 (by decide) (by decide) (by decide) (by decide) (by decide) (by decide) (by decide) (by decide)]; exact h.tape
  · rw [e 6 (by decide) (by decide) (by decide) (by decide) (by decide) (by decide) (by decide) (by decide)] at hq
    rw [e 29 (by decide) (by decide) (by decide) (by decide) (by decide) (by decide) (by decide) (by decide)]
    exact h.byt hq
  · rw [he 8 0 8 (by decide) (by decide) (by decide) (by decide) (by decide) (by decide) (by omega) (by omega)]; exact h.laid
theorem Inv_day {n : Nat} {M : Mem} (h : Inv n M) : 0 ≤ M 8 0 9 ∧ M 8 0 9 ≤ 100 * ((n + 1 : Nat) : Int) := by have := h.day; omega
theorem IvR_cong {a a2 : Mem} {f s : Nat} (h : IvR a f s) (e : ∀ p, a2 f s p = a f s p) : IvR a2 f s := by
  have : a2 f s = a f s := funext e
  unfold IvR at h ⊢
  rw [this]; exact h
theorem IvL_cong {a a2 : Mem} {s : Nat} (h : IvL a s) (e : ∀ z, z = 6 ∨ z = 7 ∨ z = 8 → a2 5 s z = a 5 s z) (ed : a2 8 0 9 = a 8 0 9) : IvL a2 s := by
  unfold IvL at h ⊢
  rw [e 6 (by omega), e 7 (by omega), e 8 (by omega), ed]; exact h
theorem IvP_cong {a a2 : Mem} {s : Nat} (h : IvP a s) (e : a2 5 s 11 = a 5 s 11) (e2 : ∀ j, a2 27 s j = a 27 s j ∧ a2 28 s j = a 28 s j) : IvP a2 s := by
  unfold IvP at h ⊢
  rw [e]
  refine ⟨h.1, h.2.1, fun j hj => ?_⟩
  rw [(e2 j).1, (e2 j).2]; exact h.2.2 j hj
theorem IvR_move {M : Mem} {f s g t : Nat} {v : Int} (h : IvR M f s) (hg : g < 10) (ht : t < 10) (hgt : g ≠ t) (v0 : 0 ≤ v) (v1 : v ≤ M f s g) : IvR (up (up M f s g (M f s g - v)) f s t (M f s t + v)) f s := by
  have e : ∀ c, up (up M f s g (M f s g - v)) f s t (M f s t + v) f s c = if c = t then M f s t + v else if c = g then M f s g - v else M f s c := by
    intro c
    simp only [up]
    grind
  refine ⟨fun p hp => ?_, ?_⟩
  · rw [e p]
    have := h.1 p hp
    have := h.1 t ht
    split
    · omega
    · split <;> omega
  · have e1 : sumN (up (up M f s g (M f s g - v)) f s t (M f s t + v) f s) 10 = sumN (fun c => if c = g then M f s g - v else M f s c) 10 + v := by
      refine sumN_upd (i := t) ?_ 10 ht (fun c hc hn => ?_)
      · rw [e t, if_pos rfl, if_neg (fun z => hgt z.symm)]
      · rw [e c, if_neg hn]
    have e2 : sumN (fun c => if c = g then M f s g - v else M f s c) 10 = sumN (M f s) 10 + -v := by
      refine sumN_upd (i := g) ?_ 10 hg (fun c hc hn => ?_)
      · rw [if_pos rfl]; omega
      · rw [if_neg hn]
    rw [e1, e2, h.2]; omega
theorem i_look {n : Nat} {M : Mem} {a b : Int} (h : Inv n M) : Inv (n + 1) (f_look M a b).2 := by
  have hm := h.mono (Nat.le_succ n)
  unfold f_look
  repeat (first | exact hm | exact Inv_rfs hm | split)
theorem i_has {n : Nat} {M : Mem} {a b c : Int} (h : Inv n M) : Inv (n + 1) (f_has M a b c).2 := by
  have hm := h.mono (Nat.le_succ n)
  unfold f_has
  repeat (first | exact hm | exact Inv_rfs hm | split)
theorem i_first {n : Nat} {M : Mem} {a b : Int} (h : Inv n M) : Inv (n + 1) (f_first M a b).2 := by
  have hm := h.mono (Nat.le_succ n)
  unfold f_first
  repeat (first | exact hm | exact Inv_rfs hm | split)
theorem i_planned {n : Nat} {M : Mem} {a b : Int} (h : Inv n M) : Inv (n + 1) (f_planned M a b).2 := by
  have hm := h.mono (Nat.le_succ n)
  unfold f_planned
  repeat (first | exact hm | exact Inv_rfs hm | split)
theorem i_row {n : Nat} {M : Mem} {a : Int} (h : Inv n M) : Inv (n + 1) (f_row M a).2 := by
  have hm := h.mono (Nat.le_succ n)
  unfold f_row
  repeat (first | exact hm | exact Inv_rfs hm | split)
theorem i_status {n : Nat} {M : Mem} {a : Int} (h : Inv n M) : Inv (n + 1) (f_status M a).2 := by
  have hm := h.mono (Nat.le_succ n)
  unfold f_status
  repeat (first | exact hm | exact Inv_rfs hm | split)
theorem i_count {n : Nat} {M : Mem} {a : Int} (h : Inv n M) : Inv (n + 1) (f_count M a).2 := by
  have hm := h.mono (Nat.le_succ n)
  unfold f_count
  repeat (first | exact hm | exact Inv_rfs hm | split)
theorem i_purse {n : Nat} {M : Mem} {a : Int} (h : Inv n M) : Inv (n + 1) (f_purse M a).2 := by
  have hm := h.mono (Nat.le_succ n)
  unfold f_purse
  repeat (first | exact hm | exact Inv_rfs hm | split)
theorem i_pawned {n : Nat} {M : Mem} {a b c : Int} (h : Inv n M) : Inv (n + 1) (f_pawned M a b c).2 := by
  have hm := h.mono (Nat.le_succ n)
  unfold f_pawned
  repeat (first | exact hm | exact Inv_rfs hm | split)
theorem i_burns {n : Nat} {M : Mem} {a b c : Int} (h : Inv n M) : Inv (n + 1) (f_burns M a b c).2 := by
  have hm := h.mono (Nat.le_succ n)
  unfold f_burns
  repeat (first | exact hm | exact Inv_rfs hm | split)
theorem i_lost {n : Nat} {M : Mem} {a b c : Int} (h : Inv n M) : Inv (n + 1) (f_lost M a b c).2 := by
  have hm := h.mono (Nat.le_succ n)
  unfold f_lost
  repeat (first | exact hm | exact Inv_rfs hm | split)
theorem i_stop {n : Nat} {M : Mem} {a b c : Int} (h : Inv n M) : Inv (n + 1) (f_stop M a b c).2 := by
  have hm := h.mono (Nat.le_succ n)
  unfold f_stop
  repeat (first | exact hm | exact Inv_rfs hm | split)
theorem i_may {n : Nat} {M : Mem} {a b c : Int} (h : Inv n M) : Inv (n + 1) (f_may M a b c).2 := by
  have hm := h.mono (Nat.le_succ n)
  unfold f_may
  repeat (first | exact hm | exact Inv_rfs hm | exact Inv_sta hm | split)
theorem i_why {n : Nat} {M : Mem} {a b c : Int} (h : Inv n M) : Inv (n + 1) (f_why M a b c).2 := by
  have hm := h.mono (Nat.le_succ n)
  unfold f_why
  repeat (first | exact hm | exact Inv_rfs hm | exact Inv_sta hm | split)
theorem i_sale {n : Nat} {M : Mem} {a b c : Int} (h : Inv n M) : Inv (n + 1) (f_sale M a b c).2 := by
  have hm := h.mono (Nat.le_succ n)
  unfold f_sale
  by_cases e1 : a < 0 ∨ M 0 0 2 ≤ a % 100 ∨ b < 0 ∨ 99 < b
  · rw [if_pos e1]; exact Inv_rfs hm
  · rw [if_neg e1]
    by_cases e2 : 1 < a / 100
    · rw [if_pos e2]; exact Inv_rfs hm
    · rw [if_neg e2]
      by_cases e3 : c < 1 ∨ 5040 < c ∨ b / 10 = b % 10
      · rw [if_pos e3]; exact Inv_rfs hm
      · rw [if_neg e3]
        obtain ⟨s, hs⟩ := nat_of (show 0 ≤ a % 100 by omega)
        obtain ⟨g, hg⟩ := nat_of (show 0 ≤ b / 10 by omega)
        obtain ⟨t, ht⟩ := nat_of (show 0 ≤ b % 10 by omega)
        obtain ⟨cc1, cc2⟩ := h.count
        have pr := h.part (s := s) (p := g) (by omega) (by omega)
        have rr := h.rowR (s := s) (by omega)
        rcases (show a / 100 = 0 ∨ a / 100 = 1 by omega) with hk | hk
        · simp only [hs, hg, ht, hk]
          show Inv (n + 1) (up (up M 25 s g (M 25 s g - min c (M 25 s g))) 25 s t (M 25 s t + min c (M 25 s g)))
          have key := IvR_move (v := min c (M 25 s g)) rr.1 (show g < 10 by omega) (show t < 10 by omega) (by omega) (by omega) (by omega)
          refine ⟨hm.1, fun u hu => ⟨(hm.2.1 u hu).1, ?_, (hm.2.1 u hu).2.2⟩, ?_, hm.2.2.2⟩
          · by_cases e : u = s
            · subst e; exact key
            · exact IvR_cong (hm.2.1 u hu).2.1 (fun p => by rw [up_ne (by omega), up_ne (by omega)])
          · intro u hu
            obtain ⟨g1, g2, g3, g4⟩ := hm.2.2.1 u hu
            refine ⟨g1, g2, g3, fun h2 => ?_⟩
            have h3 := g4 h2
            have h4 : M 0 0 2 ≤ u := h2
            refine ⟨h3.1, h3.2.1, h3.2.2.1, h3.2.2.2.1, h3.2.2.2.2.1, fun p hp => ⟨?_, (h3.2.2.2.2.2 p hp).2⟩⟩
            rw [up_ne (by omega), up_ne (by omega)]
            exact (h3.2.2.2.2.2 p hp).1
        · simp only [hs, hg, ht, hk]
          show Inv (n + 1) (up (up M 26 s g (M 26 s g - min c (M 26 s g))) 26 s t (M 26 s t + min c (M 26 s g)))
          have key := IvR_move (v := min c (M 26 s g)) rr.2 (show g < 10 by omega) (show t < 10 by omega) (by omega) (by omega) (by omega)
          refine ⟨hm.1, fun u hu => ⟨(hm.2.1 u hu).1, (hm.2.1 u hu).2.1, ?_⟩, ?_, hm.2.2.2⟩
          · by_cases e : u = s
            · subst e; exact key
            · exact IvR_cong (hm.2.1 u hu).2.2 (fun p => by rw [up_ne (by omega), up_ne (by omega)])
          · intro u hu
            obtain ⟨g1, g2, g3, g4⟩ := hm.2.2.1 u hu
            refine ⟨g1, g2, g3, fun h2 => ?_⟩
            have h3 := g4 h2
            have h4 : M 0 0 2 ≤ u := h2
            refine ⟨h3.1, h3.2.1, h3.2.2.1, h3.2.2.2.1, h3.2.2.2.2.1, fun p hp => ⟨(h3.2.2.2.2.2 p hp).1, ?_⟩⟩
            rw [up_ne (by omega), up_ne (by omega)]
            exact (h3.2.2.2.2.2 p hp).2
theorem i_heir {n : Nat} {M : Mem} {a b c : Int} (h : Inv n M) : Inv (n + 1) (f_heir M a b c).2 := by
  have hm := h.mono (Nat.le_succ n)
  unfold f_heir
  by_cases e1 : a < 0 ∨ 9 < a ∨ b < 0 ∨ 9 < b
  · rw [if_pos e1]; exact Inv_rfs hm
  · rw [if_neg e1]
    by_cases e2 : c < 1 ∨ 9 < c ∨ b = a
    · rw [if_pos e2]; exact Inv_rfs hm
    · rw [if_neg e2]
      split
      · exact Inv_rfs hm
      · split
        · exact Inv_rfs hm
        · next e4 =>
          obtain ⟨p, rfl⟩ := nat_of (show 0 ≤ a by omega)
          rw [Int.toNat_natCast] at e4 ⊢
          obtain ⟨q1, q2, q3⟩ := h.heirs (p := p) (by omega)
          obtain ⟨k, hk⟩ := nat_of q1
          rw [hk, Int.toNat_natCast]
          show Inv (n + 1) (addH M p k b c)
          refine ⟨hm.1, hm.2.1, hm.2.2.1, fun q hq => ?_, hm.2.2.2.2⟩
          by_cases e : q = p
          · subst e
            have h7 : addH M q k b c 7 q 2 = (k : Int) + 1 := by simp [addH, up]
            unfold IvH
            rw [h7]
            refine ⟨by omega, by omega, fun j hj => ?_⟩
            by_cases ej : j = k
            · subst ej
              rw [show addH M q j b c 30 q j = b by simp [addH, up], show addH M q j b c 31 q j = c by simp [addH, up]]
              exact ⟨by omega, by omega, by omega⟩
            · have := q3 j (by omega)
              rw [show addH M q k b c 30 q j = M 30 q j by simp [addH, up, ej], show addH M q k b c 31 q j = M 31 q j by simp [addH, up, ej]]
              exact this
          · have := h.heirs hq
            unfold IvH at this ⊢
            have e30 : ∀ j, addH M p k b c 30 q j = M 30 q j := fun j => by simp [addH, up, e]
            have e31 : ∀ j, addH M p k b c 31 q j = M 31 q j := fun j => by simp [addH, up, e]
            rw [show addH M p k b c 7 q 2 = M 7 q 2 by simp [addH, up, e]]
            simp only [e30, e31]
            exact this
theorem i_disown {n : Nat} {M : Mem} {a : Int} (h : Inv n M) : Inv (n + 1) (f_disown M a).2 := by
  have hm := h.mono (Nat.le_succ n)
  unfold f_disown
  split
  · exact Inv_rfs hm
  · show Inv (n + 1) (up M 7 a.toNat 2 0)
    refine ⟨hm.1, hm.2.1, hm.2.2.1, fun q hq => ?_, hm.2.2.2.2⟩
    by_cases e : q = a.toNat
    · subst e
      unfold IvH
      rw [show up M 7 a.toNat 2 0 7 a.toNat 2 = 0 from up_same _ _ _ _ _]
      exact ⟨by omega, by omega, fun j hj => by omega⟩
    · have := h.heirs hq
      unfold IvH at this ⊢
      rw [show up M 7 a.toNat 2 0 7 q 2 = M 7 q 2 from up_ne (by omega)]
      exact this
theorem i_wipe {n : Nat} {M : Mem} (h : Inv n M) : Inv (n + 1) (f_wipe M).2 := by
  have hm := h.mono (Nat.le_succ n)
  unfold f_wipe
  refine ⟨hm.1, hm.2.1, hm.2.2.1, hm.2.2.2.1, hm.2.2.2.2.1, hm.2.2.2.2.2.1, hm.2.2.2.2.2.2.1, hm.2.2.2.2.2.2.2.1, hm.2.2.2.2.2.2.2.2.1, ?_, fun k hk => ?_, hm.laid⟩
  · show 0 ≤ (0 : Int) ∧ (0 : Int) ≤ 80; omega
  · have : (k : Int) < 0 := hk
    omega
theorem i_tear {n : Nat} {M : Mem} (h : Inv n M) : Inv (n + 1) (f_tear M).2 := by
  have hm := h.mono (Nat.le_succ n)
  unfold f_tear
  exact ⟨hm.1, hm.2.1, hm.2.2.1, hm.2.2.2.1, hm.2.2.2.2.1, hm.2.2.2.2.2.1, hm.2.2.2.2.2.2.1, hm.2.2.2.2.2.2.2.1, hm.2.2.2.2.2.2.2.2.1, hm.tape, hm.2.2.2.2.2.2.2.2.2.2.1, Or.inl rfl⟩
theorem i_lay {n : Nat} {M : Mem} {a b : Int} (h : Inv n M) : Inv (n + 1) (f_lay M a b).2 := by
  have hm := h.mono (Nat.le_succ n)
  unfold f_lay
  split
  · exact Inv_rfs hm
  · split
    · exact Inv_rfs hm
    · exact ⟨hm.1, hm.2.1, hm.2.2.1, hm.2.2.2.1, hm.2.2.2.2.1, hm.2.2.2.2.2.1, hm.2.2.2.2.2.2.1, hm.2.2.2.2.2.2.2.1, hm.2.2.2.2.2.2.2.2.1, hm.tape, hm.2.2.2.2.2.2.2.2.2.2.1, Or.inr rfl⟩
theorem i_copy {n : Nat} {M : Mem} {a b c : Int} (h : Inv n M) : Inv (n + 1) (f_copy M a b c).2 := by
  have hm := h.mono (Nat.le_succ n)
  unfold f_copy
  split
  · exact Inv_rfs hm
  · split
    · exact Inv_rfs hm
    · split
      · exact Inv_rfs hm
      · exact hm
theorem i_takes {n : Nat} {M : Mem} {a b : Int} (h : Inv n M) : Inv (n + 1) (f_takes M a b).2 := by
  have hm := h.mono (Nat.le_succ n)
  unfold f_takes
  split
  · exact Inv_rfs hm
  · split
    · exact Inv_rfs hm
    · next e1 e2 =>
      show Inv (n + 1) (up M 12 0 a.toNat b)
      refine ⟨hm.1, hm.2.1, hm.2.2.1, hm.2.2.2.1, hm.2.2.2.2.1, fun x hx => ⟨?_, (hm.arch hx).2⟩, hm.2.2.2.2.2.2⟩
      by_cases e : x = a.toNat
      · subst e; rw [up_same]; omega
      · rw [up_ne (by omega)]; exact (hm.arch hx).1
theorem i_feed {n : Nat} {M : Mem} {a b : Int} (h : Inv n M) : Inv (n + 1) (f_feed M a b).2 := by
  have hm := h.mono (Nat.le_succ n)
  unfold f_feed
  split
  · exact Inv_rfs hm
  · split
    · exact Inv_rfs hm
    · split
      · exact Inv_rfs hm
      · next e1 e2 e3 =>
        have t := h.tape
        obtain ⟨r, hr⟩ := nat_of t.1
        obtain ⟨k, rfl⟩ := nat_of (show 0 ≤ b by omega)
        rw [hr, Int.toNat_natCast, Int.toNat_natCast]
        have e6 : fdM M a r k k 6 0 1 = (r : Int) + k := by simp [fdM, up]
        refine ⟨hm.1, hm.2.1, hm.2.2.1, hm.2.2.2.1, hm.2.2.2.2.1, hm.2.2.2.2.2.1, hm.2.2.2.2.2.2.1, hm.2.2.2.2.2.2.2.1, hm.2.2.2.2.2.2.2.2.1, ?_, fun q hq => ?_, hm.laid⟩
        · show 0 ≤ fdM M a r k k 6 0 1 ∧ fdM M a r k k 6 0 1 ≤ 80
          rw [e6]; omega
        · have hq2 : (q : Int) < (r : Int) + k := by rw [← e6]; exact hq
          show 0 ≤ fdM M a r k k 29 0 q ∧ fdM M a r k k 29 0 q ≤ 255
          have e29 : fdM M a r k k 29 0 q = if r ≤ q ∧ q < r + k then fdB a k (q - r) else M 29 0 q := by simp [fdM, up, upR]
          rw [e29]
          split
          · unfold fdB; omega
          · exact h.byt (by omega)
theorem i_let {n : Nat} {M : Mem} {a b c e : Int} (h : Inv n M) : Inv (n + 1) (f_let M a b c e).2 := by
  have hm := h.mono (Nat.le_succ n)
  unfold f_let
  by_cases e1 : a < 0 ∨ M 0 0 2 ≤ a ∨ b < 0 ∨ 99 < b
  · rw [if_pos e1]; exact Inv_rfs hm
  · rw [if_neg e1]
    split
    · exact Inv_rfs hm
    · next e2 =>
      obtain ⟨s, rfl⟩ := nat_of (show 0 ≤ a by omega)
      rw [Int.toNat_natCast] at e2 ⊢
      obtain ⟨cc1, cc2⟩ := h.count
      have el : ∀ x y z, ¬ (x = 5 ∧ y = s ∧ (z = 6 ∨ z = 7 ∨ z = 8)) → lett M s (b % 10) c e x y z = M x y z := fun x y z hx => by unfold lett; rw [up_ne (by omega), up_ne (by omega), up_ne (by omega)]
      show Inv (n + 1) (lett M s (b % 10) c e)
      refine Inv_gen h (fun x y z _ _ _ _ _ _ h7 _ => el x y z (by omega)) (fun u hu => ⟨IvR_cong (h.rowR hu).1 (fun p => el _ _ _ (by omega)), IvR_cong (h.rowR hu).2 (fun p => el _ _ _ (by omega))⟩) (fun u hu => ?_) (fun u hu => IvP_cong (h.pawns hu) (el _ _ _ (by omega)) (fun j => ⟨el _ _ _ (by omega), el _ _ _ (by omega)⟩)) (fun u hu h2 => ?_) (by rw [el _ _ _ (by omega)]; exact Inv_day h)
      · by_cases eu : u = s
        · subst eu
          unfold IvL
          rw [show lett M u (b % 10) c e 5 u 6 = b % 10 by simp [lett, up], show lett M u (b % 10) c e 5 u 7 = c by simp [lett, up], show lett M u (b % 10) c e 5 u 8 = e by simp [lett, up], el 8 0 9 (by omega)]
          omega
        · exact IvL_cong (h.lets hu) (fun z hz => el _ _ _ (by omega)) (el _ _ _ (by omega))
      · have := h.fresh hu h2
        rw [el _ _ _ (by omega), el _ _ _ (by omega), el _ _ _ (by omega), el _ _ _ (by omega)]
        refine ⟨this.1, this.2.1, this.2.2.1, this.2.2.2.1, fun p hp => ?_⟩
        rw [el _ _ _ (by omega), el _ _ _ (by omega)]
        exact this.2.2.2.2.2 p hp

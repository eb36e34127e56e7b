/-! ===== the walk from the entry ===== -/
/-- from the entry, for every script of at most 2560 ints, the law comes to its end with true -/
theorem whole_start {p : Program} {e : Env} {s : State} {m : MethodId} {below : List Frame} {meth : Method} {c : Code} (l : Launch) {b L : Nat} {xs : Nat → Int32} (hL : L ≤ 2560) (C0 : lw_At p s m meth c b L xs) : W p l e room_1 s m #[Value.ref b] below meth c s.heap [] 0 0 (lw_Z below #[Value.ref b] s) (entryFrame m ([Value.ref b] : List Value).toArray 4) := by
  obtain ⟨D, cy, hK⟩ := K_ent C0
  obtain ⟨a, v, hS⟩ := S_ent C0 D cy
  have hKn := Kn_ent hK hS
  have C1 := C0
  obtain ⟨hx, hb, hr, hml, hown, hts, hX, hbl, hlocks, hgv⟩ := C1
  have hA0 : ∀ q, Ar (Gz D cy s.heap.size a v) q → s.heap.size ≤ q := fun q h => Gz_Ar h
  have X : OkC D cy (fun q => s.heap.size ≤ q) (p, l, e, room_1, s, m, #[Value.ref b], below, meth, c, 0, 0, lw_Z below #[Value.ref b] s) cL_law RL 4 4 300 9000 := ⟨hx, hb, hml, hown, hK, ⟨by decide, by decide⟩, ⟨by decide, by decide⟩, fun q h => h⟩
  have J0 : JM D (fun q => s.heap.size ≤ q) (p, l, e, room_1, s, m, #[Value.ref b], below, meth, c, 0, 0, lw_Z below #[Value.ref b] s) 0 0 0 [some (.ref b), none, none, none] [] cem s.heap.size := by
    refine JM_new X dX8 qL_law_0 clok8 wL_7 zX8.1 zX8.2 (by decide +kernel) (by decide) (by decide) ?_
    refine JM_dup X qL_law_3 rfl ?_
    refine JM_callI X qL_law_4 nL_9 (d0 := 3) (mc0 := 170) (ms0 := 1225) (by decide) rfl (Nat.le_of_ble_eq_true rfl) (Nat.le_refl _) (by decide) (by decide) (c_X8 l D cy s.heap.size (s.heap.size + 1) (by omega)) (fun _ _ h => h) (fun _ _ h => by rw [pX8_o (by omega)] at h; cases h) ?_
    refine JM_astore_1 X qL_law_7 rfl ?_
    refine JM_new X dX9 qL_law_8 clok9 wL_10 zX9.1 zX9.2 (by decide +kernel) (by decide) (by decide) ?_
    refine JM_dup X qL_law_11 rfl ?_
    refine JM_callI X qL_law_12 nL_12 (d0 := 1) (mc0 := 26) (ms0 := 1039) (pre := cup cem (s.heap.size + 171) (.inr (9, dX9))) (post := pX9 cy (s.heap.size + 171) (s.heap.size + 172)) (by decide) rfl (Nat.le_of_ble_eq_true rfl) (by show s.heap.size ≤ s.heap.size + 1 + 170; omega) (by decide) (by decide) (c_X9 l D cy (s.heap.size + 171) (s.heap.size + 172) (by omega)) (fun x e9 h9 => ?_) (fun _ _ h => ?_) ?_
    · by_cases h1 : x = s.heap.size + 171
      · rw [h1, cup_same] at h9
        rw [h1]
        show cup _ (s.heap.size + 171) _ (s.heap.size + 171) = _
        rw [cup_same]
        exact h9
      · rw [cup_ne h1] at h9
        cases h9
    · have h8 : pX9 cy (s.heap.size + 171) (s.heap.size + 172) (s.heap.size + 171) = none := h
      rw [pX9_o (by omega)] at h8
      cases h8
    refine JM_astore_2 X qL_law_15 rfl ?_
    refine JM_iconst X qL_law_16 ?_
    refine JM_istore_3 X qL_law_17 rfl ?_
    intro H locs ls hw hs hl
    refine va_forget (fun q hq => hs.2.2 q hq) ?_
    have h9 : H9 D cy s.heap.size H := fun x e9 h => hw.2 x e9 (by simp only [und, h])
    have h8 : H8 D cy s.heap.size H := fun x e8 hx8 h => hw.2 x e8 (by
      have h1 : pX9 cy (s.heap.size + 171) (s.heap.size + 172) x = none := pX9_lo (by omega) (by omega)
      simp only [und, h1]
      rw [cup_ne (by omega)]
      simp only [und, h])
    have hHW : HW (Gz D cy s.heap.size a v) M0 H := hw_all h8 h9
    have hLP := law_loop (e := e) (l := l) (below := below) (cells := 198) (slots := 2312) hL C0 hKn hA0 (by decide) (by decide) (L + 1) 0 0 M0 rfl (by omega) (by omega) Inv_0 MR_0
    refine hLP H [] ls hHW ⟨hs.1, fun q h1 h2 => hs.2.1 q h1 (by show ¬ s.heap.size ≤ q; have h1' : q < s.heap.size := h1; omega), fun q hq => by cases hq⟩ hl
  have he := lv_entry [Value.ref b] (n := 4) (Nat.le_of_ble_eq_true rfl)
  rw [lg_entry_eq]
  refine J0 s.heap [] _ ⟨rfl, fun a e h => by cases h⟩ va_S.rf ⟨he.1, he.2.1, fun k w hk => ?_⟩
  match k with
  | 0 =>
    simp only [List.getElem?_cons_zero, Option.some.injEq] at hk
    subst hk
    exact he.2.2 (0, .ref b) (by simp [lv_args])
  | 1 => simp at hk
  | 2 => simp at hk
  | 3 => simp at hk
  | n + 4 => simp at hk

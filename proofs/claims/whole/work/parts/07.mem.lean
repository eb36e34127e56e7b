/-! ===== fields, arrays, ends, contracts, calls ===== -/
theorem Kn.wk {G : Gx} {s : State} (h : Kn G s) {w : Cond} (hw : w ∈ lw_k) (args : Array Value) : w.before args s = true := h.w (List.mem_filter.mp hw).1 (List.mem_filter.mp hw).2 args
/-- a kind of objects as the tables have it -/
def ClOk (ci : Nat) (C : String) (T : u_T) (N : Nat) (ty : Nat → FieldType) : Prop := vwCl[ci]? = some (C, T, N) ∧ (∀ w ∈ u_ws C T N, w ∈ lw_k) ∧ (∀ k, k < N → parseFieldDescriptor (T k).2.2.1 = some (ty k)) ∧ (∀ a, a < N → ∀ b, b < N → a ≠ b → (T a).2.1 ≠ (T b).2.1)
/-- entry ix of the owner's pool is field j of family f, which holds x: 0 a number, g + 1 the cell of family g -/
def FL (own : String) (ix f j x : Nat) : Prop := ∃ (ci : Nat) (C : String) (T : u_T) (N : Nat) (ty : Nat → FieldType) (fl : List Nat), ClOk ci C T N ty ∧ kd f = (0, ci, fl) ∧ j < N ∧ (T j).1 = C ∧ (Cond.fieldLink own ix C (T j).2.1 (T j).2.2.1 ∈ lw_k ∨ ∃ host, Cond.fieldLinkNest own ix C (T j).2.1 (T j).2.2.1 host ∈ lw_k) ∧ fl[j]? = some x
/-- the same, of a number that may be written, of type t -/
def FLw (own : String) (ix f j : Nat) (t : FieldType) : Prop := ∃ (ci : Nat) (C : String) (T : u_T) (N : Nat) (ty : Nat → FieldType) (fl : List Nat), ClOk ci C T N ty ∧ kd f = (0, ci, fl) ∧ j < N ∧ (T j).1 = C ∧ (Cond.fieldLink own ix C (T j).2.1 (T j).2.2.1 ∈ lw_k ∨ ∃ host, Cond.fieldLinkNest own ix C (T j).2.1 (T j).2.2.1 host ∈ lw_k) ∧ fl[j]? = some 0 ∧ (T j).2.2.2 = false ∧ ty j = t
section MEM
variable {G : Gx} {E : Fx} {cc : ByteArray} {own : String} {nL d pc pc2 tg : Nat} {L : List (Option Value)} {st : List Value} {M : Mem}
theorem J_getV (X : Ok G E cc own nL d) {ix f i j x : Nat} {v : Value} (q : Ins cc pc 3 pc2 (.getfield ix)) (hf : FL own ix f j x) (hv : ∀ ci fl, kd f = (0, ci, fl) → fl[j]? = some x → (objF G M f i)[j]? = some v) (hi : i < cnt f) (k : J G E pc2 L (v :: st) M) : J G E pc L (rf G f i :: st) M := by
  obtain ⟨p, l, e, R, s, m, args, below, meth, c, cells, slots, Q⟩ := E
  obtain ⟨hx, hb, hml, hown, hK, hR, hce, hsl⟩ := X
  obtain ⟨q1, rfl⟩ := q
  obtain ⟨ci, C, T, N, ty, fl, ⟨hcl, hin, hty, hnm⟩, hkd, hj, hC, hlk, hfl⟩ := hf
  intro H locs ls hw hs hl
  have hP := HW_one hw hi (cellOf_obj G M i hkd)
  rcases hlk with hlk | ⟨host, hlk⟩
  · exact va_get hx hb (fun w h => hK.wk h args) hin hown hK.2.1 hP 0 rfl hcl j hj (hK.wk hlk args) (fun x h => by rw [hC] at h; exact h) (hv ci fl hkd hfl) q1 (k H locs ls hw hs hl)
  · exact va_getN hx hb (fun w h => hK.wk h args) hin hown hK.2.1 hP 0 rfl hcl j hj (hK.wk hlk args) (fun x h => by rw [hC] at h; exact h) (hv ci fl hkd hfl) q1 (k H locs ls hw hs hl)
theorem J_getI (X : Ok G E cc own nL d) {ix f i j : Nat} (q : Ins cc pc 3 pc2 (.getfield ix)) (hf : FL own ix f j 0) (hi : i < cnt f) (k : J G E pc2 L (vi (M f i j) :: st) M) : J G E pc L (rf G f i :: st) M :=
  J_getV X q hf (fun _ _ h1 h2 => objF_int G M i h1 h2) hi k
theorem J_getR (X : Ok G E cc own nL d) {ix f i j g : Nat} (q : Ins cc pc 3 pc2 (.getfield ix)) (hf : FL own ix f j (g + 1)) (hi : i < cnt f) (k : J G E pc2 L (rf G g i :: st) M) : J G E pc L (rf G f i :: st) M :=
  J_getV X q hf (fun _ _ h1 h2 => objF_ref G M i h1 h2) hi k
theorem J_putT (X : Ok G E cc own nL d) {ix f i j : Nat} {t : FieldType} {z : Int} (q : Ins cc pc 3 pc2 (.putfield ix)) (hf : FLw own ix f j t) (hn : narrow t (vi z) = vi z) (hfit : fits t (vi z) = true) (hi : i < cnt f) (k : J G E pc2 L st (up M f i j z)) : J G E pc L (vi z :: rf G f i :: st) M := by
  obtain ⟨p, l, e, R, s, m, args, below, meth, c, cells, slots, Q⟩ := E
  obtain ⟨hx, hb, hml, hown, hK, hR, hce, hsl⟩ := X
  obtain ⟨q1, rfl⟩ := q
  obtain ⟨ci, C, T, N, ty, fl, ⟨hcl, hin, hty, hnm⟩, hkd, hj, hC, hlk, hfl, hfin, ht⟩ := hf
  subst ht
  intro H locs ls hw hs hl
  have hts : ∀ w ∈ lw_k, w.before args s = true := fun w h => hK.wk h args
  have hap := va_apart (own := own) hts hin ty hty hnm hK.2.1 hcl
  have hcell := hw f i hi
  rw [cellOf_obj G M i hkd] at hcell
  obtain ⟨r, h1, cell, g1, g2, g3, g4⟩ := hcell
  have hr : r = (C, T, N) := Option.some.inj (h1.symm.trans hcl)
  subst hr
  obtain ⟨hS, hfc, kC, hkC, hkind⟩ := hK.2.1.1 ci _ hcl
  obtain ⟨cf, kf, fi, fd, hfi, hslot⟩ := hS j hj
  have hlay := hts _ (hin _ (u_in_lay hj))
  unfold u_lay at hlay
  rw [if_neg (by rw [hfin]; decide)] at hlay
  have hst := (u_facts hfc hkC (u_lays hts hin hj) hfi).1
  have h6 := u_store hfc hkC hkind hlay hfi (hty j hj) hn hfit
  have hlen : j < (objF G M f i).length := by rw [objF_len G M i hkd]; exact (List.getElem?_eq_some_iff.mp hfl).1
  have hsame : ∀ x, s.fieldFound? (T j).1 (T j).2.1 (T j).2.2.1 = some x → s.fieldFound? C (T j).2.1 (T j).2.2.1 = some x := fun x h => by rw [hC] at h; exact h
  have fin : ∀ H' : Heap, H'[ad G f i]? = some (cell.setSlot fd.slot (vi z)) → H'.size = H.size → (∀ q, q ≠ ad G f i → H'[q]? = H[q]?) → W p l e R s m args below meth c H' (locs ++ [⟨ad G f i, fd.slot⟩]) cells slots Q (F0 m (pc + 3) ls st) := by
    intro H' e1 e2 e3
    rw [hslot] at e1
    refine k H' _ ls (HW_put hK.2.2.1 hw hi ?_ e3) (hs.put e2 e3 (HW_Ar hi)) hl
    rw [cellOf_obj G _ i hkd, ← objF_set G M i hkd hfl z]
    exact ⟨_, hcl, t_OB.to (V := updV (vp_V (objF G M f i)) j (vi z)) ⟨_, e1, g2, g3, t_set g4 hap hj (vi z)⟩ (fun j _ => vp_updV_set hlen (vi z) j)⟩
  rcases hlk with hlk | ⟨host, hlk⟩
  · exact W.putK hx hb (f := fd) ⟨hown, hK.wk hlk args, ⟨_, _, _, hsame _ hfi⟩, hst⟩ (by rw [g2]; exact h6) g1 g3 (by rw [hslot]; exact k2_hasslot (g4 j hj)) rfl rfl q1 fin
  · exact va_WputK hx hb (f := fd) hown (hK.wk hlk args) (hsame _ hfi) hst (by rw [g2]; exact h6) g1 g3 (by rw [hslot]; exact k2_hasslot (g4 j hj)) rfl rfl q1 fin
theorem J_putI (X : Ok G E cc own nL d) {ix f i j : Nat} {z : Int} (q : Ins cc pc 3 pc2 (.putfield ix)) (hf : FLw own ix f j .int) (hi : i < cnt f) (k : J G E pc2 L st (up M f i j z)) : J G E pc L (vi z :: rf G f i :: st) M :=
  J_putT X q hf (vp_nar_int _) rfl hi k
theorem J_putZ (X : Ok G E cc own nL d) {ix f i j : Nat} {z : Int} (q : Ins cc pc 3 pc2 (.putfield ix)) (hf : FLw own ix f j .boolean) (hz : z = 0 ∨ z = 1) (hi : i < cnt f) (k : J G E pc2 L st (up M f i j z)) : J G E pc L (vi z :: rf G f i :: st) M :=
  J_putT X q hf (by rcases hz with rfl | rfl <;> decide) (by rcases hz with rfl | rfl <;> decide) hi k
/-- arrays -/
theorem J_iaload (X : Ok G E cc own nL d) {f i n : Nat} {x : Int} (q : Ins cc pc 1 pc2 (.iaload)) (hk : kd f = (1, n, [])) (hi : i < cnt f) (h1 : 0 ≤ x) (h2 : x < n) (hn : n ≤ 2147483647) (k : J G E pc2 L (vi (M f i x.toNat) :: st) M) : J G E pc L (vi x :: rf G f i :: st) M := by
  obtain ⟨p, l, e, R, s, m, args, below, meth, c, cells, slots, Q⟩ := E
  obtain ⟨hx, hb, hml, hown, hK, hR, hce, hsl⟩ := X
  obtain ⟨q1, rfl⟩ := q
  intro H locs ls hw hs hl
  have hP := HW_one hw hi (cellOf_i G M i hk)
  refine va_iald hx hb hK.2.1 hP 0 0 rfl rfl (i32_in h1 h2 hn) q1 ?_
  rw [i32_cl h1 (by omega)]
  exact k H locs ls hw hs hl
theorem J_baload (X : Ok G E cc own nL d) {f i n : Nat} {x : Int} (q : Ins cc pc 1 pc2 (.baload)) (hk : kd f = (3, n, [])) (hi : i < cnt f) (h1 : 0 ≤ x) (h2 : x < n) (hn : n ≤ 2147483647) (k : J G E pc2 L (vi (M f i x.toNat) :: st) M) : J G E pc L (vi x :: rf G f i :: st) M := by
  obtain ⟨p, l, e, R, s, m, args, below, meth, c, cells, slots, Q⟩ := E
  obtain ⟨hx, hb, hml, hown, hK, hR, hce, hsl⟩ := X
  obtain ⟨q1, rfl⟩ := q
  intro H locs ls hw hs hl
  have hP := HW_one hw hi (cellOf_z G M i hk)
  refine va_zald hx hb hK.2.1 hP 0 2 rfl rfl (i32_in h1 h2 hn) q1 ?_
  rw [i32_cl h1 (by omega)]
  exact k H locs ls hw hs hl
theorem J_laload (X : Ok G E cc own nL d) {f i n : Nat} {x : Int} (q : Ins cc pc 1 pc2 (.laload)) (hk : kd f = (2, n, [])) (hi : i < cnt f) (h1 : 0 ≤ x) (h2 : x < n) (hn : n ≤ 2147483647) (k : J G E pc2 L (vl (M f i x.toNat) :: st) M) : J G E pc L (vi x :: rf G f i :: st) M := by
  obtain ⟨p, l, e, R, s, m, args, below, meth, c, cells, slots, Q⟩ := E
  obtain ⟨hx, hb, hml, hown, hK, hR, hce, hsl⟩ := X
  obtain ⟨q1, rfl⟩ := q
  intro H locs ls hw hs hl
  have hP := HW_one hw hi (cellOf_l G M i hk)
  refine va_lald hx hb hK.2.1 hP 0 1 rfl rfl (i32_in h1 h2 hn) q1 ?_
  rw [i32_cl h1 (by omega)]
  exact k H locs ls hw hs hl
theorem J_aaload (X : Ok G E cc own nL d) {f i n t g : Nat} {x : Int} {C : String} (q : Ins cc pc 1 pc2 (.aaload)) (hk : kd f = (t + 4, n, [g])) (ht : ∀ G : Gx, (tysG G)[t + 3]? = some (cy G (t + 3), .object C)) (hi : i < cnt f) (h1 : 0 ≤ x) (h2 : x < n) (hn : n ≤ 2147483647) (k : J G E pc2 L (rf G g x.toNat :: st) M) : J G E pc L (vi x :: rf G f i :: st) M := by
  obtain ⟨p, l, e, R, s, m, args, below, meth, c, cells, slots, Q⟩ := E
  obtain ⟨hx, hb, hml, hown, hK, hR, hce, hsl⟩ := X
  obtain ⟨q1, rfl⟩ := q
  intro H locs ls hw hs hl
  have hP := HW_one hw hi (cellOf_r G M i hk)
  refine va_aldq hx hb hK.2.1 hP 0 (t + 3) rfl (ht G) (i32_in h1 h2 hn) q1 ?_
  rw [i32_cl h1 (by omega)]
  exact k H locs ls hw hs hl
theorem J_iastore (X : Ok G E cc own nL d) {f i n : Nat} {x z : Int} (q : Ins cc pc 1 pc2 (.iastore)) (hk : kd f = (1, n, [])) (hi : i < cnt f) (h1 : 0 ≤ x) (h2 : x < n) (hn : n ≤ 2147483647) (k : J G E pc2 L st (up M f i x.toNat z)) : J G E pc L (vi z :: vi x :: rf G f i :: st) M := by
  obtain ⟨p, l, e, R, s, m, args, below, meth, c, cells, slots, Q⟩ := E
  obtain ⟨hx, hb, hml, hown, hK, hR, hce, hsl⟩ := X
  obtain ⟨q1, rfl⟩ := q
  intro H locs ls hw hs hl
  have hcell := hw f i hi
  rw [cellOf_i G M i hk] at hcell
  refine W.iast hx hb hcell ((hK.2.1.2 0 _ rfl).1 n (fun j => .int (Int32.ofInt (M f i j)))) (fun q => by cases q) (by show ¬ (_ ∨ (arrV _ _ _).slots.size ≤ _); rw [arrV_size]; exact i32_in h1 h2 hn) rfl rfl q1 fun H1 e z9 oq => ?_
  refine k H1 _ ls (HW_put hK.2.2.1 hw hi ?_ oq) (hs.put z9 oq (HW_Ar hi)) hl
  rw [cellOf_i G _ i hk]
  show H1[ad G f i]? = some (vp_cell _ _)
  rw [e]
  rw [vp_cell_i, vp_cell_i, arrV_store, i32_cl h1 (by omega)]
  congr 2
  funext q
  by_cases hq : q = x.toNat
  · subst hq
    simp [updV, up_same]
  · simp [updV, up, hq]
theorem J_bastore (X : Ok G E cc own nL d) {f i n : Nat} {x z : Int} (q : Ins cc pc 1 pc2 (.bastore)) (hk : kd f = (3, n, [])) (hi : i < cnt f) (h1 : 0 ≤ x) (h2 : x < n) (hn : n ≤ 2147483647) (hz : z = 0 ∨ z = 1) (k : J G E pc2 L st (up M f i x.toNat z)) : J G E pc L (vi z :: vi x :: rf G f i :: st) M := by
  obtain ⟨p, l, e, R, s, m, args, below, meth, c, cells, slots, Q⟩ := E
  obtain ⟨hx, hb, hml, hown, hK, hR, hce, hsl⟩ := X
  obtain ⟨q1, rfl⟩ := q
  intro H locs ls hw hs hl
  have hcell := hw f i hi
  rw [cellOf_z G M i hk] at hcell
  refine W.zast hx hb hcell ((hK.2.1.2 2 _ rfl).1 n (fun j => .int (Int32.ofInt (M f i j)))) (fun q => by cases q) (by show ¬ (_ ∨ (arrV _ _ _).slots.size ≤ _); rw [arrV_size]; exact i32_in h1 h2 hn) rfl rfl q1 fun H1 e z9 oq => ?_
  refine k H1 _ ls (HW_put hK.2.2.1 hw hi ?_ oq) (hs.put z9 oq (HW_Ar hi)) hl
  rw [cellOf_z G _ i hk]
  show H1[ad G f i]? = some (vp_cell _ _)
  rw [e]
  rw [vp_cell_i, vp_cell_i, arrV_store, i32_cl h1 (by omega)]
  congr 2
  funext q
  by_cases hq : q = x.toNat
  · subst hq
    rcases hz with rfl | rfl <;> simp [updV, up_same] <;> rfl
  · simp [updV, up, hq]
theorem J_lastore (X : Ok G E cc own nL d) {f i n : Nat} {x z : Int} (q : Ins cc pc 1 pc2 (.lastore)) (hk : kd f = (2, n, [])) (hi : i < cnt f) (h1 : 0 ≤ x) (h2 : x < n) (hn : n ≤ 2147483647) (k : J G E pc2 L st (up M f i x.toNat z)) : J G E pc L (vl z :: vi x :: rf G f i :: st) M := by
  obtain ⟨p, l, e, R, s, m, args, below, meth, c, cells, slots, Q⟩ := E
  obtain ⟨hx, hb, hml, hown, hK, hR, hce, hsl⟩ := X
  obtain ⟨q1, rfl⟩ := q
  intro H locs ls hw hs hl
  have hcell := hw f i hi
  rw [cellOf_l G M i hk] at hcell
  refine W.last hx hb hcell ((hK.2.1.2 1 _ rfl).1 n (fun j => .long (Int64.ofInt (M f i j)))) (fun q => by cases q) (by show ¬ (_ ∨ (arrV _ _ _).slots.size ≤ _); rw [arrV_size]; exact i32_in h1 h2 hn) rfl rfl q1 fun H1 e z9 oq => ?_
  refine k H1 _ ls (HW_put hK.2.2.1 hw hi ?_ oq) (hs.put z9 oq (HW_Ar hi)) hl
  rw [cellOf_l G _ i hk]
  show H1[ad G f i]? = some (vp_cell _ _)
  rw [e]
  rw [vp_cell_l, vp_cell_l, arrV_store, i32_cl h1 (by omega)]
  congr 2
  funext q
  by_cases hq : q = x.toNat
  · subst hq
    simp [updV, up_same]
  · simp [updV, up, hq]
/-- ends -/
theorem OkM.ok {l : Launch} {P : Option Value → Mem → Prop} {ret : Option FieldType} (X : OkM l G E cc own nL d ret P) : Ok G E cc own nL d := X.1
theorem J_iret {l : Launch} {P : Option Value → Mem → Prop} (X : OkM l G E cc own nL d (some .int) P) {z : Int} (q : Ins cc pc 1 pc2 (.ireturn)) (hp : P (some (vi z)) M) : J G E pc L [vi z] M := by
  obtain ⟨p, l, e, R, s, m, args, below, meth, c, cells, slots, Q⟩ := E
  obtain ⟨⟨hx, hb, hml, hown, hK, hR, hce, hsl⟩, -, hr, hlk, hQ⟩ := X
  obtain ⟨q1, rfl⟩ := q
  subst hQ
  intro H locs ls hw hs hl
  exact W.iret (v := Int32.ofInt z) hx hb hr (fun t ht hW => ⟨⟨_, M, rfl, hp, by rw [ht]; exact hw⟩, hs.F ht⟩) hs.2.2 q1 hlk
theorem J_zret {l : Launch} {P : Option Value → Mem → Prop} (X : OkM l G E cc own nL d (some .boolean) P) {z : Int} (q : Ins cc pc 1 pc2 (.ireturn)) (hz : z = 0 ∨ z = 1) (hp : P (some (vi z)) M) : J G E pc L [vi z] M := by
  obtain ⟨p, l, e, R, s, m, args, below, meth, c, cells, slots, Q⟩ := E
  obtain ⟨⟨hx, hb, hml, hown, hK, hR, hce, hsl⟩, -, hr, hlk, hQ⟩ := X
  obtain ⟨q1, rfl⟩ := q
  subst hQ
  intro H locs ls hw hs hl
  exact W.zret (v := Int32.ofInt z) hx hb hr (by rcases hz with rfl | rfl <;> decide) (fun t ht hW => ⟨⟨_, M, rfl, hp, by rw [ht]; exact hw⟩, hs.F ht⟩) hs.2.2 q1 hlk
theorem J_lret {l : Launch} {P : Option Value → Mem → Prop} (X : OkM l G E cc own nL d (some .long) P) {z : Int} (q : Ins cc pc 1 pc2 (.lreturn)) (hp : P (some (vl z)) M) : J G E pc L [vl z] M := by
  obtain ⟨p, l, e, R, s, m, args, below, meth, c, cells, slots, Q⟩ := E
  obtain ⟨⟨hx, hb, hml, hown, hK, hR, hce, hsl⟩, -, hr, hlk, hQ⟩ := X
  obtain ⟨q1, rfl⟩ := q
  subst hQ
  intro H locs ls hw hs hl
  exact W.lret (v := Int64.ofInt z) hx hb hr (fun t ht hW => ⟨⟨_, M, rfl, hp, by rw [ht]; exact hw⟩, hs.F ht⟩) hs.2.2 q1 hlk
theorem J_aret {l : Launch} {P : Option Value → Mem → Prop} {rt : FieldType} (X : OkM l G E cc own nL d (some rt) P) {a : Nat} (q : Ins cc pc 1 pc2 (.areturn)) (hrt : (∃ n, rt = .object n) ∨ ∃ t, rt = .array t) (hp : P (some (.ref a)) M) : J G E pc L [.ref a] M := by
  obtain ⟨p, l, e, R, s, m, args, below, meth, c, cells, slots, Q⟩ := E
  obtain ⟨⟨hx, hb, hml, hown, hK, hR, hce, hsl⟩, -, hr, hlk, hQ⟩ := X
  obtain ⟨q1, rfl⟩ := q
  subst hQ
  intro H locs ls hw hs hl
  exact W.aret (v := .ref a) hx hb hr hrt (Or.inr ⟨a, rfl⟩) (fun t ht hW => ⟨⟨_, M, rfl, hp, by rw [ht]; exact hw⟩, hs.F ht⟩) hs.2.2 q1 hlk
theorem J_vret {l : Launch} {P : Option Value → Mem → Prop} (X : OkM l G E cc own nL d none P) (q : Ins cc pc 1 pc2 (.return_)) (hp : P none M) : J G E pc L [] M := by
  obtain ⟨p, l, e, R, s, m, args, below, meth, c, cells, slots, Q⟩ := E
  obtain ⟨⟨hx, hb, hml, hown, hK, hR, hce, hsl⟩, -, hr, hlk, hQ⟩ := X
  obtain ⟨q1, rfl⟩ := q
  subst hQ
  intro H locs ls hw hs hl
  exact W.vret hx hb hr (fun t ht hW => ⟨⟨_, M, rfl, hp, by rw [ht]; exact hw⟩, hs.F ht⟩) hs.2.2 q1 hlk
end MEM
/-- the locals at a method's entry -/
def locA : List Value → List (Option Value)
  | [] => []
  | v :: vs => if v.category = 2 then some v :: none :: locA vs else some v :: locA vs
theorem locA_mem : ∀ (vs : List Value) (i k : Nat) (v : Value), (locA vs)[k]? = some (some v) → (i + k, v) ∈ lv_args i vs
  | [], i, k, v, h => by simp [locA] at h
  | w :: vs, i, k, v, h => by
    by_cases hc : w.category = 2
    · simp only [locA, if_pos hc] at h
      simp only [lv_args, if_pos hc]
      match k, h with
      | 0, h => simp at h; subst h; exact List.mem_cons_self
      | 1, h => simp at h
      | k + 2, h =>
        simp only [List.getElem?_cons_succ] at h
        have := locA_mem vs (i + 2) k v h
        refine List.mem_cons_of_mem _ ?_
        rw [show i + (k + 2) = i + 2 + k by omega]
        exact this
    · simp only [locA, if_neg hc] at h
      simp only [lv_args, if_neg hc]
      match k, h with
      | 0, h => simp at h; subst h; exact List.mem_cons_self
      | k + 1, h =>
        simp only [List.getElem?_cons_succ] at h
        have := locA_mem vs (i + 1) k v h
        refine List.mem_cons_of_mem _ ?_
        rw [show i + (k + 1) = i + 1 + k by omega]
        exact this
theorem locA_len : ∀ vs : List Value, (locA vs).length = (lg_sl vs).length
  | [] => rfl
  | w :: vs => by
    have ih := locA_len vs
    by_cases hc : w.category = 2
    · simp only [locA, if_pos hc, List.length_cons, ih]
      simp [lg_sl, hc]
    · simp only [locA, if_neg hc, List.length_cons, ih]
      simp [lg_sl, hc]
theorem Ct.of {l : Launch} {G : Gx} {d : Nat} {y : MethodName} {cc : ByteArray} {nL : Nat} {ret : Option FieldType} {as : List Value} {M : Mem} {P : Option Value → Mem → Prop} {L : List (Option Value)} (hy : plainName y.cls = true) (hlen : (locA as).length ≤ nL) (hL : locA as ++ List.replicate (nL - (locA as).length) none = L)
    (body : ∀ E : Fx, OkM l G E cc y.cls nL d ret P → J G E 0 L [] M) : Ct l G d y cc nL ret as M P := by
  refine Met.ofW (cc := cc) (maxL := nL) (ret := ret) hy rfl ?_
  intro p e s m args below meth c s₁ B hml hv
  obtain ⟨rfl, hK, hw⟩ := hv
  have h := body (p, l, e, (headSpec [.code y cc nL ret] (rmd d)).room, s, m, as.toArray, below, meth, c, 0, 0, MQ below (QcOf G P) as.toArray s 0 0 (Ar G)) ⟨⟨B.exec, B.bytes, hml, findClass_of_methodNamed B.named, hK, ⟨Nat.le_refl _, Nat.le_refl _⟩, Nat.le_refl _, Nat.le_refl _⟩, rfl, B.returns, B.notSynchronized, rfl⟩
  have he := lv_entry as (n := nL) (by rw [← locA_len]; exact hlen)
  rw [lg_entry_eq]
  refine h s.heap [] _ hw va_S.rf ⟨?_, he.2.1, fun k v hk => ?_⟩
  · rw [he.1, ← hL, List.length_append, List.length_replicate]; omega
  · rw [← hL] at hk
    rcases Nat.lt_or_ge k (locA as).length with hlt | hge
    · rw [List.getElem?_append_left hlt] at hk
      have := locA_mem as 0 k v hk
      rw [Nat.zero_add] at this
      exact he.2.2 (k, v) this
    · rw [List.getElem?_append_right hge, List.getElem?_replicate] at hk
      split at hk <;> simp at hk

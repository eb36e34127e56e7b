/-! ===== at the law's entry ===== -/
theorem tb_mem {w : Cond} (i : Nat) (h : tables_1[i]? = some w) : w ∈ lw_tbl := List.mem_append_right _ (List.mem_of_getElem? h)
theorem K_cls {s : State} {args : Array Value} (hw : ∀ w ∈ lw_k, w.before args s = true) : ∃ D : va_G, ∀ (c : Nat) (q : vw_C), vwCl[c]? = some q → u_Kn s q.1 q.2.1 q.2.2 (D.1 c) (D.2 c) := by
  have h : ∀ c : Nat, ∃ w : ClassId × (Nat → Nat), ∀ q : vw_C, vwCl[c]? = some q → u_Kn s q.1 q.2.1 q.2.2 w.1 w.2 := by
    intro c
    match c with
    | 0 =>
      obtain ⟨cC, iS, hK⟩ := u_known (C := RX0) (T := TX0) (N := 5) (n := 5) hw clok0.2.1 (hw _ zX0.1)
      exact ⟨(cC, iS), fun q hq => by cases hq; exact hK⟩
    | 1 =>
      obtain ⟨cC, iS, hK⟩ := u_known (C := RX1) (T := TX1) (N := 8) (n := 8) hw clok1.2.1 (hw _ zX1.1)
      exact ⟨(cC, iS), fun q hq => by cases hq; exact hK⟩
    | 2 =>
      obtain ⟨cC, iS, hK⟩ := u_known (C := RX2) (T := TX2) (N := 1) (n := 1) hw clok2.2.1 (hw _ zX2.1)
      exact ⟨(cC, iS), fun q hq => by cases hq; exact hK⟩
    | 3 =>
      obtain ⟨cC, iS, hK⟩ := u_known (C := RX3) (T := TX3) (N := 9) (n := 9) hw clok3.2.1 (hw _ zX3.1)
      exact ⟨(cC, iS), fun q hq => by cases hq; exact hK⟩
    | 4 =>
      obtain ⟨cC, iS, hK⟩ := u_known (C := RX4) (T := TX4) (N := 3) (n := 3) hw clok4.2.1 (hw _ zX4.1)
      exact ⟨(cC, iS), fun q hq => by cases hq; exact hK⟩
    | 5 =>
      obtain ⟨cC, iS, hK⟩ := u_known (C := RX5) (T := TX5) (N := 13) (n := 13) hw clok5.2.1 (hw _ zX5.1)
      exact ⟨(cC, iS), fun q hq => by cases hq; exact hK⟩
    | 6 =>
      obtain ⟨cC, iS, hK⟩ := u_known (C := RX6) (T := TX6) (N := 4) (n := 4) hw clok6.2.1 (hw _ zX6.1)
      exact ⟨(cC, iS), fun q hq => by cases hq; exact hK⟩
    | 7 =>
      obtain ⟨cC, iS, hK⟩ := u_known (C := RX7) (T := TX7) (N := 3) (n := 3) hw clok7.2.1 (hw _ zX7.1)
      exact ⟨(cC, iS), fun q hq => by cases hq; exact hK⟩
    | 8 =>
      obtain ⟨cC, iS, hK⟩ := u_known (C := RX8) (T := TX8) (N := 10) (n := 10) hw clok8.2.1 (hw _ zX8.1)
      exact ⟨(cC, iS), fun q hq => by cases hq; exact hK⟩
    | 9 =>
      obtain ⟨cC, iS, hK⟩ := u_known (C := RX9) (T := TX9) (N := 38) (n := 38) hw clok9.2.1 (hw _ zX9.1)
      exact ⟨(cC, iS), fun q hq => by cases hq; exact hK⟩
    | n + 10 => exact ⟨(0, fun _ => 0), fun q hq => by simp at hq⟩
  exact ⟨(fun c => (Classical.choose (h c)).1, fun c => (Classical.choose (h c)).2), fun c => Classical.choose_spec (h c)⟩
theorem K_arr {s : State} {args : Array Value} (ht : ∀ w ∈ lw_tbl, w.before args s = true) : ∃ cy : Nat → ClassId, ∀ (k : Nat) (q : ClassId × FieldType), (tysC cy)[k]? = some q → ArrOfT s q.1 q.2 ∧ va_RA s q.1 q.2 := by
  obtain ⟨c0, k0, p0, a0, b0, d0⟩ := Cond.arrayClass_spec (ht _ (tb_mem 98 (by decide +kernel)) : (Cond.arrayClass .int).before args s = true)
  obtain ⟨c1, k1, p1, a1, b1, d1⟩ := Cond.arrayClass_spec (ht _ (tb_mem 131 (by decide +kernel)) : (Cond.arrayClass .long).before args s = true)
  obtain ⟨c2, k2, p2, a2, b2, d2⟩ := Cond.arrayClass_spec (ht _ (tb_mem 204 (by decide +kernel)) : (Cond.arrayClass .boolean).before args s = true)
  obtain ⟨p3, c3, k3, e3, -, b3, d3, a3⟩ := Cond.arrayOver_spec (ht _ (tb_mem 159 (by decide +kernel)) : (Cond.arrayOver (.object "BazaarBook$Rule")).before args s = true)
  obtain ⟨p4, c4, k4, e4, -, b4, d4, a4⟩ := Cond.arrayOver_spec (ht _ (tb_mem 34 (by decide +kernel)) : (Cond.arrayOver (.object "BazaarBook$Shop")).before args s = true)
  obtain ⟨p5, c5, k5, e5, -, b5, d5, a5⟩ := Cond.arrayOver_spec (ht _ (tb_mem 119 (by decide +kernel)) : (Cond.arrayOver (.object "BazaarBook$Will")).before args s = true)
  refine ⟨fun k => match k with | 0 => c0 | 1 => c1 | 2 => c2 | 3 => c3 | 4 => c4 | _ => c5, fun k q hq => ?_⟩
  match k with
  | 0 =>
    cases hq
    exact ⟨fun n z => ⟨fun k h => (by cases h), k0, b0, p0, d0⟩, a0⟩
  | 1 =>
    cases hq
    exact ⟨fun n z => ⟨fun k h => (by cases h), k1, b1, p1, d1⟩, a1⟩
  | 2 =>
    cases hq
    exact ⟨fun n z => ⟨fun k h => (by cases h), k2, b2, p2, d2⟩, a2⟩
  | 3 =>
    cases hq
    exact ⟨fun n z => ⟨fun k h => (by cases h), k3, b3, p3, d3⟩, ⟨k3, p3, b3, d3, e3, a3⟩⟩
  | 4 =>
    cases hq
    exact ⟨fun n z => ⟨fun k h => (by cases h), k4, b4, p4, d4⟩, ⟨k4, p4, b4, d4, e4, a4⟩⟩
  | 5 =>
    cases hq
    exact ⟨fun n z => ⟨fun k h => (by cases h), k5, b5, p5, d5⟩, ⟨k5, p5, b5, d5, e5, a5⟩⟩
  | n + 6 => simp [tysC] at hq
theorem K_ent {p : Program} {s : State} {m : MethodId} {meth : Method} {c : Code} {b L : Nat} {xs : Nat → Int32} (C0 : lw_At p s m meth c b L xs) : ∃ (D : va_G) (cy : Nat → ClassId), Kc D cy s := by
  obtain ⟨hx, hb, hr, hml, hown, hts, hX, hbl, hlocks, hgv⟩ := C0
  have hw : ∀ w ∈ lw_k, w.before #[Value.ref b] s = true := fun w h => hts w (List.mem_filter.mp h).1
  obtain ⟨D, hD⟩ := K_cls hw
  obtain ⟨cy, hcy⟩ := K_arr hts
  refine ⟨D, cy, fun w h => ?_, fun t ht => ?_, fun C hC => ?_, hD, hcy⟩
  · have hk := (List.mem_filter.mp h).2
    simp only [kw, Bool.and_eq_true] at hk
    exact va_Nw.of hk.1 (hw w h)
  · rcases ht with rfl | rfl | rfl
    · exact hts (Cond.arrayClass .int) (tb_mem 98 (by decide +kernel))
    · exact hts (Cond.arrayClass .long) (tb_mem 131 (by decide +kernel))
    · exact hts (Cond.arrayClass .boolean) (tb_mem 204 (by decide +kernel))
  · rcases hC with rfl | rfl | rfl
    · exact va_AO.of (hts _ (tb_mem 159 (by decide +kernel)))
    · exact va_AO.of (hts _ (tb_mem 34 (by decide +kernel)))
    · exact va_AO.of (hts _ (tb_mem 119 (by decide +kernel)))
def stm (i : Nat) : Term := .string "BazaarBook$Tape" (sIx.getD i 0)
def fla : List Cond := flatC (Jvm.Cond.and given_1 narrow_1)
theorem fl_ex : ∀ i, i < 10 → Cond.exactly (stm i) "java/lang/String" ∈ fla := by decide +kernel
theorem fl_co : ∀ i, i < 10 → Cond.eq (.field (stm i) "java/lang/String" "coder" "B") (.int 0) ∈ fla := by decide +kernel
theorem fl_ar : ∀ i, i < 10 → Cond.arrayOf (.field (stm i) "java/lang/String" "value" "[B") .byte ∈ fla := by decide +kernel
theorem fl_le : ∀ i, i < 10 → Cond.eq (.length (.field (stm i) "java/lang/String" "value" "[B")) (.int (Int32.ofNat (sLen.getD i 0))) ∈ fla := by decide +kernel
theorem fl_el : ∀ i, i < 10 → ∀ j, j < sLen.getD i 0 → Cond.eq (.elem (.field (stm i) "java/lang/String" "value" "[B") (.int (Int32.ofNat j))) (.int ((sByt.getD i []).getD j 0)) ∈ fla := by decide +kernel
theorem fl_ne : ∀ i, i < 10 → ∀ j, j < 10 → i ≠ j → (Cond.not (Cond.eq (stm i) (stm j)) ∈ fla ∨ Cond.not (Cond.eq (stm j) (stm i)) ∈ fla) := by decide +kernel
theorem fl_sr : ∀ i, i < 10 → Cond.stringRef "BazaarBook$Tape" (sIx.getD i 0) (sTx.getD i "") ∈ lw_tbl := by decide +kernel
theorem fl_ln : ∀ i, i < 10 → sLen.getD i 0 < 2 ^ 31 := by decide +kernel
theorem S_ent {p : Program} {s : State} {m : MethodId} {meth : Method} {c : Code} {b L : Nat} {xs : Nat → Int32} (C0 : lw_At p s m meth c b L xs) (D : va_G) (cy : Nat → ClassId) : ∃ a v : Nat → Nat, Sx (Gz D cy s.heap.size a v) s := by
  obtain ⟨hx, hb, hr, hml, hown, hts, hX, hbl, hlocks, hgv⟩ := C0
  have hs := flat_of_before _ hgv
  have hA : ∀ q : Nat, q < s.heap.size → ¬ Ar (Gz D cy s.heap.size (fun _ => 0) (fun _ => 0)) q := fun q h1 h2 => by have := Gz_Ar h2; omega
  obtain ⟨a, v, hS, he⟩ := vk_Sof (args := #[Value.ref b]) (s := s) (N := 10) (tm := stm) (len := sLen) (byt := sByt) (A := Ar (Gz D cy s.heap.size (fun _ => 0) (fun _ => 0))) fl_ln (fun i hi => hs _ (fl_ex i hi)) (fun i hi => hs _ (fl_co i hi)) (fun i hi => hs _ (fl_ar i hi)) (fun i hi => hs _ (fl_le i hi)) (fun i hi j hj => hs _ (fl_el i hi j hj))
    (fun i j hi hj hij => by
      rcases fl_ne i hi j hj hij with h | h
      · exact Or.inl (hs _ h)
      · exact Or.inr (hs _ h)) hA
  refine ⟨a, v, hS, fun i hi => vk_R.of (hts _ (fl_sr i hi)) (he i hi), ?_, ?_⟩
  · exact va_Zof (args := #[Value.ref b]) (hts _ (tb_mem 520 (by decide +kernel))) (hts _ (tb_mem 13 (by decide +kernel))) (va_eqi (hs _ (by decide +kernel))) hA
  · exact va_Zqof (args := #[Value.ref b]) (hts _ (tb_mem 536 (by decide +kernel))) (hts _ (tb_mem 15 (by decide +kernel))) (hs _ (by decide +kernel)) hA
theorem Kn_ent {D : va_G} {cy : Nat → ClassId} {z : Nat} {a v : Nat → Nat} {s : State} (hK : Kc D cy s) (hS : Sx (Gz D cy z a v) s) : Kn (Gz D cy z a v) s := ⟨hK.1, hK.2.2.2, Gz_ok D cy z a v, hS⟩

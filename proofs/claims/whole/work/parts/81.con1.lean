/-! ===== constructors: knowledge, maps of cells, judgement ===== -/
def tysC (cy : Nat → ClassId) : List (ClassId × FieldType) := [(cy 0, .int), (cy 1, .long), (cy 2, .boolean), (cy 3, .object "BazaarBook$Rule"), (cy 4, .object "BazaarBook$Shop"), (cy 5, .object "BazaarBook$Will")]
def Kc (D : va_G) (cy : Nat → ClassId) (U : State) : Prop := (∀ w ∈ lw_k, va_Nw w U) ∧ (∀ t : FieldType, t = .int ∨ t = .long ∨ t = .boolean → (Cond.arrayClass t).before #[] U = true) ∧ (∀ C : String, C = "BazaarBook$Rule" ∨ C = "BazaarBook$Shop" ∨ C = "BazaarBook$Will" → va_AO C U) ∧ va_K D vwCl (tysC cy) U
theorem Kc.moved {D : va_G} {cy : Nat → ClassId} {s U : State} (h : Kc D cy s) (hW : s.WarmedH U.vm) : Kc D cy U :=
  ⟨fun w hw => va_Nw_warm (List.mem_filter.mp hw).2 hW (h.1 w hw), fun t ht => word_at hW (Or.inr ⟨t, rfl⟩) (h.2.1 t ht), fun C hC => (h.2.2.1 C hC).moved hW.alike, va_K.moved hW.alike h.2.2.2⟩
theorem Kc.calling {D : va_G} {cy : Nat → ClassId} {U : State} (h : Kc D cy U) (g : JFrame) (mk : MethodId) (a : Array Value) : Kc D cy (U.calling g mk a) := by
  obtain ⟨h1, h2, h3, h4⟩ := h
  refine ⟨fun w hw => ?_, fun t ht => h2 t ht, fun C hC => (h3 C hC).moved (u := U) (U := U.calling g mk a) (Vm.Alike.refl U.vm), va_K.moved (u := U) (U := U.calling g mk a) (Vm.Alike.refl U.vm) h4⟩
  have hk := (List.mem_filter.mp hw).2
  simp only [kw, Bool.and_eq_true] at hk
  exact va_Nw.same (u := U) (U := U.calling g mk a) hk.1 rfl (h1 w hw)
theorem Kc.wk {D : va_G} {cy : Nat → ClassId} {s : State} (h : Kc D cy s) {w : Cond} (hw : w ∈ lw_k) (args : Array Value) : w.before args s = true := by
  have hk := (List.mem_filter.mp hw).2
  simp only [kw, Bool.and_eq_true] at hk
  exact va_Nw.use hk.1 (h.1 w hw)
abbrev CM : Type := Nat → Option va_E
def cem : CM := fun _ => none
def cup (C : CM) (a : Nat) (e : va_E) : CM := fun q => if q = a then some e else C q
def und (C P : CM) : CM := fun q => match P q with | some e => some e | none => C q
theorem cup_same (C : CM) (a : Nat) (e : va_E) : cup C a e a = some e := by simp [cup]
theorem cup_ne {C : CM} {a q : Nat} {e : va_E} (h : q ≠ a) : cup C a e q = C q := by simp [cup, h]
def CH (D : va_G) (C : CM) (sz : Nat) (H : Heap) : Prop := H.size = sz ∧ ∀ (a : Nat) (e : va_E), C a = some e → va_at D vwCl (a, e) H
theorem CH.one {D : va_G} {C : CM} {sz : Nat} {H : Heap} (h : CH D C sz H) {a : Nat} {e : va_E} (ha : C a = some e) : va_P D vwCl [(a, e)] H := by
  intro k q hk
  cases k with
  | zero =>
    simp only [List.getElem?_cons_zero, Option.some.injEq] at hk
    subst hk
    exact h.2 a e ha
  | succ k => simp at hk
theorem CH.new {D : va_G} {C : CM} {sz : Nat} {H H1 : Heap} {e : va_E} (h : CH D C sz H) (z1 : H1.size = sz + 1) (o1 : ∀ q, q < sz → H1[q]? = H[q]?) (he : va_at D vwCl (sz, e) H1) : CH D (cup C sz e) (sz + 1) H1 := by
  refine ⟨z1, fun a e2 h2 => ?_⟩
  by_cases ha : a = sz
  · subst ha
    rw [cup_same] at h2
    cases h2
    exact he
  · rw [cup_ne ha] at h2
    have h3 := h.2 a e2 h2
    exact h3.kept (o1 a (by have := h3.lt; rw [h.1] at this; exact this))
theorem CH.put {D : va_G} {C : CM} {sz a : Nat} {H H1 : Heap} {e : va_E} (h : CH D C sz H) (z1 : H1.size = H.size) (o1 : ∀ q, q ≠ a → H1[q]? = H[q]?) (he : va_at D vwCl (a, e) H1) : CH D (cup C a e) sz H1 := by
  refine ⟨z1.trans h.1, fun b e2 h2 => ?_⟩
  by_cases ha : b = a
  · subst ha
    rw [cup_same] at h2
    cases h2
    exact he
  · rw [cup_ne ha] at h2
    exact (h.2 b e2 h2).kept (o1 b ha)
theorem va_S_new {A : Nat → Prop} {H0 H H1 : Heap} {locs : List Loc} {sz : Nat} (hs : va_S A H0 H locs) (h0 : H.size = sz) (z1 : H1.size = sz + 1) (o1 : ∀ q, q < sz → H1[q]? = H[q]?) : va_S A H0 H1 locs :=
  ⟨Nat.le_trans hs.1 (by omega), fun x h1 h2 => (o1 x (by have := hs.1; omega)).trans (hs.2.1 x h1 h2), hs.2.2⟩
def setK (E : Fx) (k n : Nat) : Fx := match E with
  | (p, l, e, R, s, m, args, below, meth, c, _, _, Q) => (p, l, e, R, s, m, args, below, meth, c, k, n, Q)
def JM (D : va_G) (A : Nat → Prop) (E : Fx) (kc ks pc : Nat) (L : List (Option Value)) (st : List Value) (C : CM) (sz : Nat) : Prop :=
  ∀ (H : Heap) (locs : List Loc) (ls : Array Slot), CH D C sz H → va_S A (hp0 E) H locs → LH ls L → Wx (setK E kc ks) H locs pc ls st
def OkC (D : va_G) (cy : Nat → ClassId) (A : Nat → Prop) (E : Fx) (cc : ByteArray) (own : String) (nL d mc ms : Nat) : Prop := match E with
  | (p, _, _, R, s, m, _, _, _, c, _, _, _) => p.tables.exec = Jvm.exec ∧ c.code = cc ∧ c.maxLocals = nL ∧ s.vm.findClass own = some m.cls ∧ Kc D cy s ∧ (d ≤ R.frames ∧ 64 * d ≤ R.locals) ∧ (mc ≤ R.cells ∧ ms ≤ R.slots) ∧ (∀ q, s.heap.size ≤ q → A q)
def nmI (E : Fx) : Prop := match E with
  | (_, _, _, _, _, _, _, _, meth, _, _, _, _) => meth.name = "<init>"
def FLc (own : String) (ix ci j : Nat) (t : FieldType) : Prop := ∃ (T : u_T) (N : Nat) (ty : Nat → FieldType), ClOk ci own T N ty ∧ j < N ∧ (T j).1 = own ∧ Cond.fieldLink own ix own (T j).2.1 (T j).2.2.1 ∈ lw_k ∧ ty j = t
def Af (h0 sz : Nat) : Nat → Prop := fun q => q = h0 ∨ sz ≤ q
def rmI (d mc ms : Nat) : Room := { frames := d, cells := mc, slots := ms, locals := 64 * d }
def QI (D : va_G) (post : CM) (sz2 : Nat) (A : Nat → Prop) : Array Value → State → Outcome → State → Prop := fun _ st oc t => (oc = .returned none ∧ CH D post sz2 t.heap) ∧ va_F A st t
def CtI (l : Launch) (D : va_G) (cy : Nat → ClassId) (d mc ms : Nat) (y : MethodName) (cc : ByteArray) (nL : Nat) (as : List Value) (h0 sz : Nat) (pre post : CM) : Prop :=
  Met l y [.code y cc nL none] (rmI d mc ms) (va_Pc as (fun U => Kc D cy U ∧ CH D pre sz U.heap)) (QI D post (sz + mc) (Af h0 sz)) mc ms (Af h0 sz)
def OkI (l : Launch) (D : va_G) (cy : Nat → ClassId) (E : Fx) (cc : ByteArray) (own : String) (nL d mc ms h0 sz : Nat) (post : CM) : Prop := OkC D cy (Af h0 sz) E cc own nL d mc ms ∧ match E with
  | (_, l2, _, _, s, _, args, below, meth, _, _, _, Q) => l2 = l ∧ meth.sig.returnType = none ∧ meth.locks = false ∧ Q = MQ below (QI D post (sz + mc) (Af h0 sz)) args s mc ms (Af h0 sz)
section CON
variable {D : va_G} {cy : Nat → ClassId} {A : Nat → Prop} {E : Fx} {cc : ByteArray} {own : String} {nL d mc ms kc ks pc pc2 tg : Nat} {L : List (Option Value)} {st : List Value} {C : CM} {sz : Nat}
theorem JM_weak {C2 : CM} (h : ∀ (a : Nat) (e : va_E), C2 a = some e → C a = some e) (k : JM D A E kc ks pc L st C2 sz) : JM D A E kc ks pc L st C sz := fun H locs ls hc => k H locs ls ⟨hc.1, fun a e h2 => hc.2 a e (h a e h2)⟩
theorem JM_iconst (X : OkC D cy A E cc own nL d mc ms) {n : Int} (q : Ins cc pc 1 pc2 (.iconst n)) (k : JM D A E kc ks pc2 L (vi n :: st) C sz) : JM D A E kc ks pc L st C sz := by
  obtain ⟨p, l, e, R, s, m, args, below, meth, c, cells, slots, Q⟩ := E
  obtain ⟨hx, hb, hml, hown, hK, hR, hce, hsl⟩ := X
  obtain ⟨q1, rfl⟩ := q
  intro H locs ls hw hs hl
  exact lv_iconst hx hb q1 rfl (k H locs ls hw hs hl)
theorem JM_bipush (X : OkC D cy A E cc own nL d mc ms) {n : Int} (q : Ins cc pc 2 pc2 (.bipush n)) (hn : (Int8.ofInt n).toInt32 = Int32.ofInt n) (k : JM D A E kc ks pc2 L (vi n :: st) C sz) : JM D A E kc ks pc L st C sz := by
  obtain ⟨p, l, e, R, s, m, args, below, meth, c, cells, slots, Q⟩ := E
  obtain ⟨hx, hb, hml, hown, hK, hR, hce, hsl⟩ := X
  obtain ⟨q1, rfl⟩ := q
  intro H locs ls hw hs hl
  exact lv_bipush hx hb q1 (by simpa using hn) (k H locs ls hw hs hl)
theorem JM_sipush (X : OkC D cy A E cc own nL d mc ms) {n : Int} (q : Ins cc pc 3 pc2 (.sipush n)) (hn : (Int16.ofInt n).toInt32 = Int32.ofInt n) (k : JM D A E kc ks pc2 L (vi n :: st) C sz) : JM D A E kc ks pc L st C sz := by
  obtain ⟨p, l, e, R, s, m, args, below, meth, c, cells, slots, Q⟩ := E
  obtain ⟨hx, hb, hml, hown, hK, hR, hce, hsl⟩ := X
  obtain ⟨q1, rfl⟩ := q
  intro H locs ls hw hs hl
  exact lv_sipush hx hb q1 (by simpa using hn) (k H locs ls hw hs hl)
theorem JM_iload_1 (X : OkC D cy A E cc own nL d mc ms) {a0 : Option Value} {z : Int} (q : Ins cc pc 1 pc2 (.iload_n 1)) (k : JM D A E kc ks pc2 (a0 :: some (vi z) :: L) (vi z :: st) C sz) : JM D A E kc ks pc (a0 :: some (vi z) :: L) st C sz := by
  obtain ⟨p, l, e, R, s, m, args, below, meth, c, cells, slots, Q⟩ := E
  obtain ⟨hx, hb, hml, hown, hK, hR, hce, hsl⟩ := X
  obtain ⟨q1, rfl⟩ := q
  intro H locs ls hw hs hl
  exact lv_iload_n hx hb q1 rfl (hl.2.2 1 _ rfl) (k H locs ls hw hs hl)
theorem JM_iload_2 (X : OkC D cy A E cc own nL d mc ms) {a0 a1 : Option Value} {z : Int} (q : Ins cc pc 1 pc2 (.iload_n 2)) (k : JM D A E kc ks pc2 (a0 :: a1 :: some (vi z) :: L) (vi z :: st) C sz) : JM D A E kc ks pc (a0 :: a1 :: some (vi z) :: L) st C sz := by
  obtain ⟨p, l, e, R, s, m, args, below, meth, c, cells, slots, Q⟩ := E
  obtain ⟨hx, hb, hml, hown, hK, hR, hce, hsl⟩ := X
  obtain ⟨q1, rfl⟩ := q
  intro H locs ls hw hs hl
  exact lv_iload_n hx hb q1 rfl (hl.2.2 2 _ rfl) (k H locs ls hw hs hl)
theorem JM_iload_3 (X : OkC D cy A E cc own nL d mc ms) {a0 a1 a2 : Option Value} {z : Int} (q : Ins cc pc 1 pc2 (.iload_n 3)) (k : JM D A E kc ks pc2 (a0 :: a1 :: a2 :: some (vi z) :: L) (vi z :: st) C sz) : JM D A E kc ks pc (a0 :: a1 :: a2 :: some (vi z) :: L) st C sz := by
  obtain ⟨p, l, e, R, s, m, args, below, meth, c, cells, slots, Q⟩ := E
  obtain ⟨hx, hb, hml, hown, hK, hR, hce, hsl⟩ := X
  obtain ⟨q1, rfl⟩ := q
  intro H locs ls hw hs hl
  exact lv_iload_n hx hb q1 rfl (hl.2.2 3 _ rfl) (k H locs ls hw hs hl)
theorem JM_aload_0 (X : OkC D cy A E cc own nL d mc ms) {z : Nat} (q : Ins cc pc 1 pc2 (.aload_n 0)) (k : JM D A E kc ks pc2 (some (.ref z) :: L) (.ref z :: st) C sz) : JM D A E kc ks pc (some (.ref z) :: L) st C sz := by
  obtain ⟨p, l, e, R, s, m, args, below, meth, c, cells, slots, Q⟩ := E
  obtain ⟨hx, hb, hml, hown, hK, hR, hce, hsl⟩ := X
  obtain ⟨q1, rfl⟩ := q
  intro H locs ls hw hs hl
  exact lv_aload_n hx hb q1 rfl (hl.2.2 0 _ rfl) (k H locs ls hw hs hl)
theorem JM_istore {ii : Nat} (X : OkC D cy A E cc own nL d mc ms) {z : Int} (hi : ii < L.length) (hno : ∀ (k : Nat) (w : Value), L[k]? = some (some w) → k + 1 = ii → w.category = 1) (hq : (∃ k : Fin 4, (k : Nat) = ii ∧ Ins cc pc 1 pc2 (.istore_n k)) ∨ Ins cc pc 2 pc2 (.istore ii)) (k : JM D A E kc ks pc2 (L.set ii (some (vi z))) st C sz) : JM D A E kc ks pc L (vi z :: st) C sz := by
  obtain ⟨p, l, e, R, s, m, args, below, meth, c, cells, slots, Q⟩ := E
  obtain ⟨hx, hb, hml, hown, hK, hR, hce, hsl⟩ := X
  intro H locs ls hw hs hl
  rcases hq with ⟨kf, hk, q1, rfl⟩ | ⟨q1, rfl⟩
  · exact lv_istore_n hx hb q1 hk (LH_pairs hl) hi rfl (fun ls' h' => k H locs ls' hw hs (LH_set hi hno h'))
  · exact lv_istore hx hb q1 (LH_pairs hl) hi rfl (fun ls' h' => k H locs ls' hw hs (LH_set hi hno h'))
theorem JM_astore {ii : Nat} (X : OkC D cy A E cc own nL d mc ms) {z : Nat} (hi : ii < L.length) (hno : ∀ (k : Nat) (w : Value), L[k]? = some (some w) → k + 1 = ii → w.category = 1) (hq : (∃ k : Fin 4, (k : Nat) = ii ∧ Ins cc pc 1 pc2 (.astore_n k)) ∨ Ins cc pc 2 pc2 (.astore ii)) (k : JM D A E kc ks pc2 (L.set ii (some (.ref z))) st C sz) : JM D A E kc ks pc L (.ref z :: st) C sz := by
  obtain ⟨p, l, e, R, s, m, args, below, meth, c, cells, slots, Q⟩ := E
  obtain ⟨hx, hb, hml, hown, hK, hR, hce, hsl⟩ := X
  intro H locs ls hw hs hl
  rcases hq with ⟨kf, hk, q1, rfl⟩ | ⟨q1, rfl⟩
  · exact lv_astore_n hx hb q1 hk (LH_pairs hl) hi rfl (fun ls' h' => k H locs ls' hw hs (LH_set hi hno h'))
  · exact lv_astore hx hb q1 (LH_pairs hl) hi rfl (fun ls' h' => k H locs ls' hw hs (LH_set hi hno h'))
theorem JM_iinc {ii : Nat} (X : OkC D cy A E cc own nL d mc ms) {z n : Int} (hi : ii < L.length) (hno : ∀ (k : Nat) (w : Value), L[k]? = some (some w) → k + 1 = ii → w.category = 1) (hz : L[ii]? = some (some (vi z))) (q : Ins cc pc 3 pc2 (.iinc ii n)) (k : JM D A E kc ks pc2 (L.set ii (some (vi (z + n)))) st C sz) : JM D A E kc ks pc L st C sz := by
  obtain ⟨p, l, e, R, s, m, args, below, meth, c, cells, slots, Q⟩ := E
  obtain ⟨hx, hb, hml, hown, hK, hR, hce, hsl⟩ := X
  obtain ⟨q1, rfl⟩ := q
  intro H locs ls hw hs hl
  have hp := LH_pairs hl
  have hm : (ii, vi z) ∈ (List.range L.length).filterMap (fun k => (L.getD k none).map (fun v => (k, v))) := by
    refine List.mem_filterMap.mpr ⟨ii, List.mem_range.mpr hi, ?_⟩
    rw [List.getD_eq_getElem?_getD, hz]
    rfl
  obtain ⟨kk, hkk⟩ := List.getElem?_of_mem hm
  exact lv_iinc hx hb q1 hp hkk (Int32.ofInt_add z n).symm hi rfl (fun ls' h' => k H locs ls' hw hs (LH_set hi hno h'))
theorem JM_dup (X : OkC D cy A E cc own nL d mc ms) {v : Value} (q : Ins cc pc 1 pc2 (.dup)) (hv : v.category = 1) (k : JM D A E kc ks pc2 L (v :: v :: st) C sz) : JM D A E kc ks pc L (v :: st) C sz := by
  obtain ⟨p, l, e, R, s, m, args, below, meth, c, cells, slots, Q⟩ := E
  obtain ⟨hx, hb, hml, hown, hK, hR, hce, hsl⟩ := X
  obtain ⟨q1, rfl⟩ := q
  intro H locs ls hw hs hl
  exact lv_dup hx hb q1 hv (k H locs ls hw hs hl)
theorem JM_goto (X : OkC D cy A E cc own nL d mc ms) (q : Br cc pc pc2 tg (.goto)) (k : JM D A E kc ks tg L st C sz) : JM D A E kc ks pc L st C sz := by
  obtain ⟨p, l, e, R, s, m, args, below, meth, c, cells, slots, Q⟩ := E
  obtain ⟨hx, hb, hml, hown, hK, hR, hce, hsl⟩ := X
  obtain ⟨off, q1, q2, q3⟩ := q
  intro H locs ls hw hs hl
  exact lv_goto hx hb q1 q3 (k H locs ls hw hs hl)
theorem JM_icmp_ge (X : OkC D cy A E cc own nL d mc ms) {a b : Int} (q : Br cc pc pc2 tg (.if_icmp .ge)) (a1 : -2147483648 ≤ a) (a2 : a < 2147483648) (b1 : -2147483648 ≤ b) (b2 : b < 2147483648) (kt : b ≤ a → JM D A E kc ks tg L st C sz) (kf : ¬ b ≤ a → JM D A E kc ks pc2 L st C sz) : JM D A E kc ks pc L (vi b :: vi a :: st) C sz := by
  obtain ⟨p, l, e, R, s, m, args, below, meth, c, cells, slots, Q⟩ := E
  obtain ⟨hx, hb, hml, hown, hK, hR, hce, hsl⟩ := X
  obtain ⟨off, q1, rfl, q3⟩ := q
  intro H locs ls hw hs hl
  exact lv_icmp_ge hx hb q1 q3 (fun h => kt ((i32_le b1 b2 a1 a2).mp h) H locs ls hw hs hl) (fun h => kf (fun q => h ((i32_le b1 b2 a1 a2).mpr q)) H locs ls hw hs hl)
theorem JM_istore_1 (X : OkC D cy A E cc own nL d mc ms) {a0 : Option Value} {x : Option Value} {z : Int} (q : Ins cc pc 1 pc2 (.istore_n 1)) (hc : okc a0 = true) (k : JM D A E kc ks pc2 (a0 :: some (vi z) :: L) st C sz) : JM D A E kc ks pc (a0 :: x :: L) (vi z :: st) C sz := JM_istore X (by simp) (LH_cat 1 (Or.inr hc)) (Or.inl ⟨1, rfl, q⟩) k
theorem JM_istore_2 (X : OkC D cy A E cc own nL d mc ms) {a0 a1 : Option Value} {x : Option Value} {z : Int} (q : Ins cc pc 1 pc2 (.istore_n 2)) (hc : okc a1 = true) (k : JM D A E kc ks pc2 (a0 :: a1 :: some (vi z) :: L) st C sz) : JM D A E kc ks pc (a0 :: a1 :: x :: L) (vi z :: st) C sz := JM_istore X (by simp) (LH_cat 2 (Or.inr hc)) (Or.inl ⟨2, rfl, q⟩) k
theorem JM_istore_3 (X : OkC D cy A E cc own nL d mc ms) {a0 a1 a2 : Option Value} {x : Option Value} {z : Int} (q : Ins cc pc 1 pc2 (.istore_n 3)) (hc : okc a2 = true) (k : JM D A E kc ks pc2 (a0 :: a1 :: a2 :: some (vi z) :: L) st C sz) : JM D A E kc ks pc (a0 :: a1 :: a2 :: x :: L) (vi z :: st) C sz := JM_istore X (by simp) (LH_cat 3 (Or.inr hc)) (Or.inl ⟨3, rfl, q⟩) k
theorem JM_astore_1 (X : OkC D cy A E cc own nL d mc ms) {a0 : Option Value} {x : Option Value} {z : Nat} (q : Ins cc pc 1 pc2 (.astore_n 1)) (hc : okc a0 = true) (k : JM D A E kc ks pc2 (a0 :: some (.ref z) :: L) st C sz) : JM D A E kc ks pc (a0 :: x :: L) (.ref z :: st) C sz := JM_astore X (by simp) (LH_cat 1 (Or.inr hc)) (Or.inl ⟨1, rfl, q⟩) k
theorem JM_astore_2 (X : OkC D cy A E cc own nL d mc ms) {a0 a1 : Option Value} {x : Option Value} {z : Nat} (q : Ins cc pc 1 pc2 (.astore_n 2)) (hc : okc a1 = true) (k : JM D A E kc ks pc2 (a0 :: a1 :: some (.ref z) :: L) st C sz) : JM D A E kc ks pc (a0 :: a1 :: x :: L) (.ref z :: st) C sz := JM_astore X (by simp) (LH_cat 2 (Or.inr hc)) (Or.inl ⟨2, rfl, q⟩) k
theorem JM_iinc_1 (X : OkC D cy A E cc own nL d mc ms) {a0 : Option Value} {z n : Int} (q : Ins cc pc 3 pc2 (.iinc 1 n)) (hc : okc a0 = true) (k : JM D A E kc ks pc2 (a0 :: some (vi (z + n)) :: L) st C sz) : JM D A E kc ks pc (a0 :: some (vi z) :: L) st C sz := JM_iinc X (by simp) (LH_cat 1 (Or.inr hc)) rfl q k
theorem JM_iinc_2 (X : OkC D cy A E cc own nL d mc ms) {a0 a1 : Option Value} {z n : Int} (q : Ins cc pc 3 pc2 (.iinc 2 n)) (hc : okc a1 = true) (k : JM D A E kc ks pc2 (a0 :: a1 :: some (vi (z + n)) :: L) st C sz) : JM D A E kc ks pc (a0 :: a1 :: some (vi z) :: L) st C sz := JM_iinc X (by simp) (LH_cat 2 (Or.inr hc)) rfl q k
/-- a new object -/
theorem JM_new (X : OkC D cy A E cc own nL d mc ms) {ix ci N : Nat} {C0 : String} {T : u_T} {ty : Nat → FieldType} (fs : List Value) (q : Ins cc pc 3 pc2 (.new ix)) (hcl : ClOk ci C0 T N ty) (hlk : Cond.classLink own ix C0 ∈ lw_k) (hins : Cond.instantiable C0 N ∈ lw_k) (hini : Cond.initialized C0 ∈ lw_k) (hfs : ∀ j, j < N → defaultValue (ty j) = vp_V fs j) (hk1 : kc + 1 ≤ mc) (hk2 : ks + N ≤ ms)
    (k : JM D A E (kc + 1) (ks + N) pc2 L (.ref sz :: st) (cup C sz (.inr (ci, fs))) (sz + 1)) : JM D A E kc ks pc L st C sz := by
  obtain ⟨p, l, e, R, s, m, args, below, meth, c, cells, slots, Q⟩ := E
  obtain ⟨hx, hb, hml, hown, hK, hR, hce, hsl⟩ := X
  obtain ⟨q1, rfl⟩ := q
  obtain ⟨hc, hin, hty, hnm⟩ := hcl
  intro H locs ls hw hs hl
  have hKn := hK.2.2.2.1 ci _ hc
  refine W.newcK hx hb hown (hK.wk hlk args) (hK.wk hins args) (hK.wk hini args) rfl q1 (by omega) (by omega) hKn.2.1 hw.1 fun H1 kC hkC e1 z1 o1 => ?_
  exact k H1 locs ls (hw.new z1 o1 ⟨_, hc, (u_born ty (fun w h => hK.wk h args) hin hKn hkC e1 hty).to hfs⟩) (va_S_new hs hw.1 z1 o1) hl
/-- a new array of numbers -/
theorem JM_newa (X : OkC D cy A E cc own nL d mc ms) {atype : ArrayType} {ty : FieldType} {N : Nat} {x : Int} (t0 : Nat) {cA : ClassId} (a0 : (Nat → Int32) ⊕ (Nat → Int64) ⊕ (Nat → UInt32) ⊕ (Nat → UInt64) ⊕ (Nat → Option Nat)) (q : Ins cc pc 2 pc2 (.newarray atype)) (hty : newarray.typeOf atype = ty) (ht : ty = .int ∨ ty = .long ∨ ty = .boolean) (htt : (tysC cy)[t0]? = some (cA, ty)) (ha : ∀ cA : ClassId, vp_cell cA (N, a0) = arrV cA N (fun _ => defaultValue ty)) (hN : (N : Int) = x) (hn : N ≤ 1000) (hk1 : kc + 1 ≤ mc) (hk2 : ks + N ≤ ms)
    (k : JM D A E (kc + 1) (ks + N) pc2 L (.ref sz :: st) (cup C sz (.inl (cA, N, a0))) (sz + 1)) : JM D A E kc ks pc L (vi x :: st) C sz := by
  obtain ⟨p, l, e, R, s, m, args, below, meth, c, cells, slots, Q⟩ := E
  obtain ⟨hx, hb, hml, hown, hK, hR, hce, hsl⟩ := X
  obtain ⟨q1, rfl⟩ := q
  subst hty
  subst hN
  intro H locs ls hw hs hl
  have h0 : ¬ Int32.ofInt (N : Int) < 0 := by
    intro h
    have h9 := (i32_lt (a := (N : Int)) (b := 0) (by omega) (by omega) (by omega) (by omega)).mp h
    omega
  have hN2 : (Int32.ofInt (N : Int)).toNatClampNeg = N := by rw [i32_cl (by omega) (by omega)]; omega
  have hby : N * componentBytes (newarray.typeOf atype) ≤ 536870912 := by
    have : componentBytes (newarray.typeOf atype) ≤ 8 := by rcases ht with h | h | h <;> rw [h] <;> decide
    have h2 := Nat.mul_le_mul hn this
    omega
  have hnm : s.vm.findClass ("[" ++ (newarray.typeOf atype).toString) = some cA := by
    have h1 := (hK.2.2.2.2 t0 _ htt).2
    rcases ht with h | h | h <;> rw [h] at h1 ⊢ <;> exact h1
  refine va_newaK hx hb (word_at (State.WarmedH.refl s) (Or.inr ⟨_, rfl⟩) (hK.2.1 _ ht)) rfl q1 rfl h0 hN2 hby (by omega) (by omega) hw.1 fun H1 cA2 e1 z1 o1 hAr hNm => ?_
  have hcc : cA2 = cA := Option.some.inj (hNm.symm.trans hnm)
  subst hcc
  refine k H1 locs ls (hw.new z1 o1 ?_) (va_S_new hs hw.1 z1 o1) hl
  show H1[sz]? = some (vp_cell cA2 (N, a0))
  rw [ha, e1]
/-- a new array of cells -/
theorem JM_anew (X : OkC D cy A E cc own nL d mc ms) {ix N : Nat} {x : Int} {C0 : String} (t0 : Nat) {cA : ClassId} (q : Ins cc pc 3 pc2 (.anewarray ix)) (hlk : Cond.classLink own ix C0 ∈ lw_k) (hC0 : C0 = "BazaarBook$Rule" ∨ C0 = "BazaarBook$Shop" ∨ C0 = "BazaarBook$Will") (htt : (tysC cy)[t0]? = some (cA, .object C0)) (hN : (N : Int) = x) (hn : N ≤ 1000) (hk1 : kc + 1 ≤ mc) (hk2 : ks + N ≤ ms)
    (k : JM D A E (kc + 1) (ks + N) pc2 L (.ref sz :: st) (cup C sz (.inl (cA, N, .inr (.inr (.inr (.inr (fun _ => none))))))) (sz + 1)) : JM D A E kc ks pc L (vi x :: st) C sz := by
  obtain ⟨p, l, e, R, s, m, args, below, meth, c, cells, slots, Q⟩ := E
  obtain ⟨hx, hb, hml, hown, hK, hR, hce, hsl⟩ := X
  obtain ⟨q1, rfl⟩ := q
  subst hN
  intro H locs ls hw hs hl
  have h0 : ¬ Int32.ofInt (N : Int) < 0 := by
    intro h
    have h9 := (i32_lt (a := (N : Int)) (b := 0) (by omega) (by omega) (by omega) (by omega)).mp h
    omega
  have hN2 : (Int32.ofInt (N : Int)).toNatClampNeg = N := by rw [i32_cl (by omega) (by omega)]; omega
  obtain ⟨kA0, comp0, k1, k2, k3, k4⟩ := (hK.2.2.2.2 t0 _ htt).2
  refine W.anew hx hb hown (hK.wk hlk args) (va_AO.use (hK.2.2.1 C0 hC0)) rfl q1 rfl h0 (by rw [hN2]; omega) (by omega) (by rw [hN2]; omega) fun cA2 kA comp f1 f2 f3 f4 => ?_
  have hcc : cA2 = cA := Option.some.inj (f1.symm.trans k4)
  subst hcc
  rw [hN2]
  generalize hH1 : H.push ({ cls := cA2, slots := Array.replicate N .null, vm := .none } : Cell) = H1
  have z1 : H1.size = sz + 1 := by rw [← hH1, Array.size_push, hw.1]
  have e1 : H1[sz]? = some (arrV cA2 N (fun _ => .null)) := by rw [← hH1, ← hw.1, Array.getElem?_push_size, ← arrV_new]
  have o1 : ∀ q : Nat, q < sz → H1[q]? = H[q]? := fun q hq => by rw [← hH1, Array.getElem?_push, if_neg (by rw [hw.1]; exact Nat.ne_of_lt hq)]
  have h9 := k H1 locs ls (hw.new z1 o1 e1) (va_S_new hs hw.1 z1 o1) hl
  rw [hw.1]
  exact h9
/-- a field of the object that is made -/
theorem JM_put (X : OkC D cy A E cc own nL d mc ms) (hI : nmI E) {ix ci j a : Nat} {t : FieldType} {v : Value} {fs : List Value} (q : Ins cc pc 3 pc2 (.putfield ix)) (hf : FLc own ix ci j t) (hn : narrow t v = v) (hfit : fits t v = true) (hC : C a = some (.inr (ci, fs))) (hlen : j < fs.length) (hA : A a) (k : JM D A E kc ks pc2 L st (cup C a (.inr (ci, fs.set j v))) sz) : JM D A E kc ks pc L (v :: .ref a :: st) C sz := by
  obtain ⟨p, l, e, R, s, m, args, below, meth, c, cells, slots, Q⟩ := E
  obtain ⟨hx, hb, hml, hown, hK, hR, hce, hsl⟩ := X
  obtain ⟨q1, rfl⟩ := q
  obtain ⟨T, N, ty, ⟨hcl, hin, hty, hnm⟩, hj, hTC, hlk, ht⟩ := hf
  subst ht
  intro H locs ls hw hs hl
  have hts : ∀ w ∈ lw_k, w.before args s = true := fun w h => hK.wk h args
  have hap := va_apart (own := own) hts hin ty hty hnm hK.2.2.2 hcl
  obtain ⟨r, h1, cell, g1, g2, g3, g4⟩ := hw.2 a _ hC
  have hr : r = (own, T, N) := Option.some.inj (h1.symm.trans hcl)
  subst hr
  obtain ⟨hS, hfc, kC, hkC, hkind⟩ := hK.2.2.2.1 ci _ hcl
  obtain ⟨cf, kf, fi, fd, hfi, hslot⟩ := hS j hj
  have hlay := hts _ (hin _ (u_in_lay hj))
  have hst := (u_facts hfc hkC (u_lays hts hin hj) hfi).1
  have hsame : ∀ x, s.fieldFound? (T j).1 (T j).2.1 (T j).2.2.1 = some x → s.fieldFound? own (T j).2.1 (T j).2.2.1 = some x := fun x h => by rw [hTC] at h; exact h
  have fin : ∀ H' : Heap, H'[a]? = some (cell.setSlot fd.slot v) → H'.size = H.size → (∀ q, q ≠ a → H'[q]? = H[q]?) → W p l e R s m args below meth c H' (locs ++ [⟨a, fd.slot⟩]) kc ks Q (F0 m (pc + 3) ls st) := by
    intro H' e1 e2 e3
    rw [hslot] at e1
    exact k H' _ ls (hw.put e2 e3 ⟨_, hcl, t_OB.to (V := updV (vp_V fs) j v) ⟨_, e1, g2, g3, t_set g4 hap hj v⟩ (fun i _ => vp_updV_set hlen v i)⟩) (hs.put e2 e3 hA) hl
  unfold u_lay at hlay
  by_cases hfin : (T j).2.2.2 = true
  · rw [if_pos hfin] at hlay
    have hcf : m.cls = cf := by
      obtain ⟨_, _, c', _, _, _, -, -, hf', -, -, -, hown2, -⟩ := Cond.laysFinal_spec hlay
      have e1 : c' = cf := by have := hfi.symm.trans hf'; simp at this; exact this.1.symm
      rw [hTC] at hown2
      rw [← e1]; exact Option.some.inj (hown.symm.trans hown2)
    have h6 := u_fits hfc hkC hkind (Or.inr hlay) hfi (hty j hj) hn hfit
    exact W.putFinK hx hb hown (hK.wk hlk args) (hsame _ hfi) hst hcf hI (by rw [g2]; exact h6) g1 g3 (by rw [hslot]; exact k2_hasslot (g4 j hj)) rfl rfl q1 fin
  · rw [if_neg hfin] at hlay
    have h6 := u_store hfc hkC hkind hlay hfi (hty j hj) hn hfit
    exact W.putK hx hb (f := fd) ⟨hown, hK.wk hlk args, ⟨_, _, _, hsame _ hfi⟩, hst⟩ (by rw [g2]; exact h6) g1 g3 (by rw [hslot]; exact k2_hasslot (g4 j hj)) rfl rfl q1 fin
theorem JM_get (X : OkC D cy A E cc own nL d mc ms) {ix ci j a : Nat} {t : FieldType} {v : Value} {fs : List Value} (q : Ins cc pc 3 pc2 (.getfield ix)) (hf : FLc own ix ci j t) (hC : C a = some (.inr (ci, fs))) (hv : fs[j]? = some v) (k : JM D A E kc ks pc2 L (v :: st) C sz) : JM D A E kc ks pc L (.ref a :: st) C sz := by
  obtain ⟨p, l, e, R, s, m, args, below, meth, c, cells, slots, Q⟩ := E
  obtain ⟨hx, hb, hml, hown, hK, hR, hce, hsl⟩ := X
  obtain ⟨q1, rfl⟩ := q
  obtain ⟨T, N, ty, ⟨hcl, hin, hty, hnm⟩, hj, hTC, hlk, ht⟩ := hf
  intro H locs ls hw hs hl
  exact va_get hx hb (fun w h => hK.wk h args) hin hown hK.2.2.2 (hw.one hC) 0 rfl hcl j hj (hK.wk hlk args) (fun x h => by rw [hTC] at h; exact h) hv q1 (k H locs ls hw hs hl)
theorem JM_iast (X : OkC D cy A E cc own nL d mc ms) {a N : Nat} {x z : Int} {f : Nat → Int32} (q : Ins cc pc 1 pc2 (.iastore)) (hC : C a = some (.inl (cy 0, N, .inl f))) (h1 : 0 ≤ x) (h2 : x < N) (hn : N ≤ 2147483647) (hA : A a) (k : JM D A E kc ks pc2 L st (cup C a (.inl (cy 0, N, .inl (fun p => if p = x.toNat then Int32.ofInt z else f p)))) sz) : JM D A E kc ks pc L (vi z :: vi x :: .ref a :: st) C sz := by
  obtain ⟨p, l, e, R, s, m, args, below, meth, c, cells, slots, Q⟩ := E
  obtain ⟨hx, hb, hml, hown, hK, hR, hce, hsl⟩ := X
  obtain ⟨q1, rfl⟩ := q
  intro H locs ls hw hs hl
  have hcell := hw.2 a _ hC
  refine W.iast hx hb hcell ((hK.2.2.2.2 0 _ rfl).1 N (fun j => .int (f j))) (fun q => by cases q) (by show ¬ (_ ∨ (arrV _ _ _).slots.size ≤ _); rw [arrV_size]; exact i32_in h1 h2 hn) rfl rfl q1 fun H1 e z9 oq => ?_
  refine k H1 _ ls (hw.put z9 oq ?_) (hs.put z9 oq hA) hl
  show H1[a]? = some (vp_cell _ _)
  rw [e]
  rw [vp_cell_i, vp_cell_i, arrV_store, i32_cl h1 (by omega)]
  congr 2
  funext q
  by_cases hq : q = x.toNat
  · subst hq
    simp [updV]
  · simp [updV, hq]
theorem JM_aast (X : OkC D cy A E cc own nL d mc ms) {a v N ci : Nat} {x : Int} {f : Nat → Option Nat} {cA : ClassId} {r : vw_C} {vs : List Value} (t0 : Nat) (q : Ins cc pc 1 pc2 (.aastore)) (hC : C a = some (.inl (cA, N, .inr (.inr (.inr (.inr f)))))) (hV : C v = some (.inr (ci, vs))) (hc : vwCl[ci]? = some r) (ht : (tysC cy)[t0]? = some (cA, .object r.1)) (h1 : 0 ≤ x) (h2 : x < N) (hn : N ≤ 2147483647) (hA : A a) (k : JM D A E kc ks pc2 L st (cup C a (.inl (cA, N, .inr (.inr (.inr (.inr (fun p => if p = x.toNat then some v else f p))))))) sz) : JM D A E kc ks pc L (.ref v :: vi x :: .ref a :: st) C sz := by
  obtain ⟨p, l, e, R, s, m, args, below, meth, c, cells, slots, Q⟩ := E
  obtain ⟨hx, hb, hml, hown, hK, hR, hce, hsl⟩ := X
  obtain ⟨q1, rfl⟩ := q
  intro H locs ls hw hs hl
  obtain ⟨r', hr', cellV, g1, g2, g3, -⟩ := hw.2 v _ hV
  have hcls := (hK.2.2.2.1 ci r hc).2
  obtain ⟨kA, comp, k1, k2, k3, -⟩ := (hK.2.2.2.2 t0 _ ht).2
  have hcomp : comp = D.1 ci := Option.some.inj (k3.symm.trans hcls.1)
  subst hcomp
  obtain ⟨kC, hkC, -⟩ := hcls.2
  have hin := i32_in h1 h2 hn
  have hlt : (Int32.ofInt x).toNatClampNeg < N := Nat.not_le.mp fun q => hin (Or.inr q)
  have h0 : ¬ Int32.ofInt x < 0 := fun q => hin (Or.inl q)
  have hcell := hw.2 a _ hC
  refine W.aast hx hb hcell (fun q h => by cases h) (fun h => by cases h) k1 k2 rfl hkC ⟨h0, by show _ < (arrV _ _ _).slots.size; rw [arrV_size]; exact hlt⟩ g1 (fun q h => by rw [g3] at h; cases h) (by rw [g2]; exact hkC) (by rw [g2]; exact va_assign hcls) rfl rfl q1 fun H1 e z9 oq => ?_
  refine k H1 _ ls (hw.put z9 oq ?_) (hs.put z9 oq hA) hl
  show H1[a]? = some (vp_cell _ _)
  rw [e]
  rw [vp_cell_q, vp_cell_q, arrV_store, i32_cl h1 (by omega)]
  congr 2
  funext q
  by_cases hq : q = x.toNat
  · subst hq
    simp [updV, va_rf]
  · simp [updV, hq]
theorem JM_alen (X : OkC D cy A E cc own nL d mc ms) {a N : Nat} {f : Nat → Int32} (q : Ins cc pc 1 pc2 (.arraylength)) (hC : C a = some (.inl (cy 0, N, .inl f))) (k : JM D A E kc ks pc2 L (vi (N : Int) :: st) C sz) : JM D A E kc ks pc L (.ref a :: st) C sz := by
  obtain ⟨p, l, e, R, s, m, args, below, meth, c, cells, slots, Q⟩ := E
  obtain ⟨hx, hb, hml, hown, hK, hR, hce, hsl⟩ := X
  obtain ⟨q1, rfl⟩ := q
  intro H locs ls hw hs hl
  have hcell := hw.2 a _ hC
  refine W.alen hx hb hcell ((hK.2.2.2.2 0 _ rfl).1 N (fun j => .int (f j))) ?_ rfl rfl q1 (k H locs ls hw hs hl)
  show (arrV _ _ _).slots.size.toInt32 = _
  rw [arrV_size, ofI_nat]
  rfl
theorem objw : Cond.instanceMethod Lib.objectInit ∈ lw_k ∧ Cond.code Lib.objectInit ⟨#[0xb1]⟩ 1 none ∈ lw_k := ⟨in_t 25 (by decide +kernel) (by decide +kernel), in_t 26 (by decide +kernel) (by decide +kernel)⟩
theorem JM_oinit (X : OkC D cy A E cc own nL d mc ms) {ix a : Nat} (q : Ins cc pc 3 pc2 (.invokespecial ix)) (hlk : Cond.methodLink own ix Lib.objectInit ∈ lw_k) (hL : L.length = nL) (hd : 1 ≤ d) (hst : (st.map fun v => v.category).sum ≤ 8) (k : JM D A E kc ks pc2 L st C sz) : JM D A E kc ks pc L (.ref a :: st) C sz := by
  obtain ⟨p, l, e, R, s, m, args, below, meth, c, cells, slots, Q⟩ := E
  obtain ⟨hx, hb, hml, hown, hK, hR, hce, hsl⟩ := X
  obtain ⟨q1, rfl⟩ := q
  intro H locs ls hw hs hl
  have hroom := lv_room (m := m) (pc := pc) (ls := ls) (rest := .ref a :: st) hst
  exact W.objInit hx hb hown (hK.wk hlk args) (hK.wk objw.1 args) (hK.wk objw.2 args) rfl (by show ls.size = c.maxLocals; rw [hl.1, hL, hml]) rfl q1 (by omega) (by omega) (k H locs ls hw hs hl)
/-- behind a call -/
theorem JM_back {p : Program} {l : Launch} {e : Env} {R : Room} {s : State} {m : MethodId} {args : Array Value} {below : List Frame} {meth : Method} {c : Code} {cells slots mc0 ms0 h0 : Nat} {Q : State → Prop} {H : Heap} {locs : List Loc} {ls : Array Slot} {st0 rest : List Value} {a : Array Value} {post : CM}
    (hr : va_Run p l e R s m args below meth c H locs kc ks mc0 ms0 (F0 m pc ls st0) rest (QI D post (sz + mc0) (Af h0 sz) a) (Af h0 sz)) (hs : va_S A s.heap H locs) (hl : LH ls L) (hw : CH D C sz H) (hA : A h0) (hA2 : ∀ q, s.heap.size ≤ q → A q) (hp0 : ∀ e, C h0 = some e → post h0 ≠ none)
    (k : JM D A (p, l, e, R, s, m, args, below, meth, c, cells, slots, Q) (kc + mc0) (ks + ms0) (pc + 3) L rest (und C post) (sz + mc0)) : W p l e R s m args below meth c H locs kc ks Q (F0 m pc ls st0) := by
  intro T hT X
  obtain ⟨v, st₀, t, T', Lo, h00, X', hL, e1, e2, ⟨⟨hv, hc⟩, hz, hk⟩, go⟩ := hr T hT X
  cases hv
  rw [h00] at hz hk
  have hAf : ∀ q, Af h0 sz q → A q := fun q h => by
    rcases h with h | h
    · rw [h]; exact hA
    · exact hA2 q (by have := hs.1; have := hw.1; omega)
  have hs2 : va_S A s.heap T'.heap (locs ++ Lo) := ⟨Nat.le_trans hs.1 (by rw [e1]; exact hz), fun q h1 h2 => by rw [e1, hk q (Nat.lt_of_lt_of_le h1 hs.1) (fun h => h2 (hAf q h))]; exact hs.2.1 q h1 h2, fun q hq => by
      rcases List.mem_append.mp hq with h | h
      · exact hs.2.2 q h
      · exact hAf _ (hL q h)⟩
  have hc2 : CH D (und C post) (sz + mc0) T'.heap := by
    rw [e1]
    refine ⟨hc.1, fun b eb hb => ?_⟩
    cases hpb : post b with
    | some e3 =>
      simp only [und, hpb] at hb
      exact hc.2 b eb (hpb.trans hb)
    | none =>
      simp only [und, hpb] at hb
      have hat := hw.2 b eb hb
      have hlt := hat.lt
      refine hat.kept (hk b hlt (fun h => ?_))
      rcases h with h | h
      · subst h
        exact hp0 eb hb hpb
      · have := hw.1
        have hlt2 : b < H.size := hlt
        omega
  obtain ⟨t2, a1, b1⟩ := k T'.heap (locs ++ Lo) ls hc2 hs2 hl T' rfl X'
  exact ⟨t2, go t2 a1, b1⟩
def MLI (own : String) (ix : Nat) (y : MethodName) (bytes : ByteArray) (mL : Nat) : Prop := Cond.code y bytes mL none ∈ lw_k ∧ (Cond.methodLink own ix y ∈ lw_k ∨ ∃ host, Cond.methodLinkNest own ix y host ∈ lw_k) ∧ Cond.initialized y.cls ∈ lw_k ∧ Cond.instanceMethod y ∈ lw_k ∧ y.name = "<init>" ∧ (y.cls ≠ "java/lang/invoke/MethodHandle" ∧ y.cls ≠ "java/lang/invoke/VarHandle" ∧ (parseMethodDescriptor y.desc).map (fun d => d.parameters.length) = some 0) ∧ mL ≤ 45
theorem blindI {pre : CM} {as : List Value} : FrameBlind (va_Pc as (fun U => Kc D cy U ∧ CH D pre sz U.heap)) := fun a U g mk h => ⟨h.1, h.2.1.calling g mk a, h.2.2⟩
theorem JM_callI (X : OkC D cy A E cc own nL d mc ms) {ix h0 mL d0 mc0 ms0 : Nat} {y : MethodName} {bytes : ByteArray} {pre post : CM} (q : Ins cc pc 3 pc2 (.invokespecial ix)) (hm : MLI own ix y bytes mL) (hd : d0 < d) (hL : L.length = nL) (hst : (st.map fun v => v.category).sum ≤ 8) (hA : A h0) (hk1 : kc + mc0 ≤ mc) (hk2 : ks + ms0 ≤ ms)
    (hc : CtI (lau E) D cy d0 mc0 ms0 y bytes mL [.ref h0] h0 sz pre post) (hpre : ∀ (a : Nat) (e : va_E), pre a = some e → C a = some e) (hp0 : ∀ e, C h0 = some e → post h0 ≠ none) (k : JM D A E (kc + mc0) (ks + ms0) pc2 L st (und C post) (sz + mc0)) : JM D A E kc ks pc L (.ref h0 :: st) C sz := by
  obtain ⟨p, l, e, R, s, m, args, below, meth, c, cells, slots, Q⟩ := E
  obtain ⟨hx, hb, hml, hown, hK, hR, hce, hsl⟩ := X
  obtain ⟨q1, rfl⟩ := q
  obtain ⟨hcode, hlk, hini, hinst, hy, hd2, hmL⟩ := hm
  intro H locs ls hw hs hl
  have hts : ∀ w ∈ lw_k, w.before args s = true := fun w h => hK.wk h args
  have hpre2 : PreS s H (va_Pc [.ref h0] (fun U => Kc D cy U ∧ CH D pre sz U.heap)) [.ref h0] := ⟨blindI, fun U hU hW => ⟨rfl, hK.moved hW, by rw [hU]; exact ⟨hw.1, fun a e h => hw.2 a e (hpre a e h)⟩⟩⟩
  have hRm : (rmI d0 mc0 ms0).frames + 1 ≤ R.frames ∧ 8 + (mL + 11) + (rmI d0 mc0 ms0).locals ≤ R.locals := by
    simp only [rmI]
    omega
  have hsz : (F0 m pc ls (.ref h0 :: st)).locals.size = nL := by show ls.size = nL; rw [hl.1, hL]
  rcases hlk with hlk | ⟨host, hlk⟩
  · exact JM_back (va_runI (As := []) (rest := st) ⟨hx, hb, hml, hown, hts⟩ hc ⟨callB_of 0 hts (good1 hcode) rfl rfl rfl (hts _ hini) (hts _ hlk) hd2 hRm, hy, hts _ hinst⟩ hpre2 rfl rfl hsz rfl (lv_room hst) q1 ⟨by omega, by omega⟩) hs hl hw hA hsl hp0 k
  · exact JM_back (va_runIN (As := []) (rest := st) ⟨hx, hb, hml, hown, hts⟩ hc ⟨va_cnB 0 hts (good1 hcode) rfl rfl rfl (va_Nw.of rfl (hts _ hlk)) (hts _ hini) hd2 hRm, hy, hts _ hinst⟩ hpre2 rfl rfl hsz rfl (lv_room hst) q1 ⟨by omega, by omega⟩) hs hl hw hA hsl hp0 k
theorem JM_vret {l : Launch} {h0 sz0 : Nat} {post : CM} (X : OkI l D cy E cc own nL d mc ms h0 sz0 post) (q : Ins cc pc 1 pc2 (.return_)) (hz : sz = sz0 + mc) (hC : ∀ (a : Nat) (e : va_E), post a = some e → C a = some e) : JM D (Af h0 sz0) E mc ms pc L [] C sz := by
  obtain ⟨p, l, e, R, s, m, args, below, meth, c, cells, slots, Q⟩ := E
  obtain ⟨⟨hx, hb, hml, hown, hK, hR, hce, hsl⟩, -, hr, hlk, hQ⟩ := X
  obtain ⟨q1, rfl⟩ := q
  subst hQ
  subst hz
  intro H locs ls hw hs hl
  exact W.vret hx hb hr (fun t ht hW => ⟨⟨rfl, by rw [ht]; exact ⟨hw.1, fun a e h => hw.2 a e (hC a e h)⟩⟩, hs.F ht⟩) hs.2.2 q1 hlk
end CON
theorem CtI.of {l : Launch} {D : va_G} {cy : Nat → ClassId} {d mc ms : Nat} {y : MethodName} {cc : ByteArray} {nL : Nat} {as : List Value} {h0 sz : Nat} {pre post : CM} {L : List (Option Value)} (hy : plainName y.cls = true) (hlen : (locA as).length ≤ nL) (hL : locA as ++ List.replicate (nL - (locA as).length) none = L)
    (body : ∀ E : Fx, OkI l D cy E cc y.cls nL d mc ms h0 sz post → (y.name = "<init>" → nmI E) → lau E = l → JM D (Af h0 sz) E 0 0 0 L [] pre sz) : CtI l D cy d mc ms y cc nL as h0 sz pre post := by
  refine Met.ofW (cc := cc) (maxL := nL) (ret := none) hy rfl ?_
  intro p e s m args below meth c s₁ B hml hv
  obtain ⟨rfl, hK, hw⟩ := hv
  have h := body (p, l, e, (headSpec [.code y cc nL none] (rmI d mc ms)).room, s, m, as.toArray, below, meth, c, 0, 0, MQ below (QI D post (sz + mc) (Af h0 sz)) as.toArray s mc ms (Af h0 sz)) ⟨⟨B.exec, B.bytes, hml, findClass_of_methodNamed B.named, hK, ⟨Nat.le_refl _, Nat.le_refl _⟩, ⟨Nat.le_refl _, Nat.le_refl _⟩, fun q hq => Or.inr (by rw [← hw.1]; exact hq)⟩, rfl, B.returns, B.notSynchronized, rfl⟩ (fun h => (name_of_methodNamed B.named B.method).1.trans h) rfl
  have he := lv_entry as (n := nL) (by rw [← locA_len]; exact hlen)
  rw [lg_entry_eq]
  refine h s.heap [] _ hw va_S.rf ⟨?_, he.2.1, fun k v hk => ?_⟩
  · rw [he.1, ← hL, List.length_append, List.length_replicate]; omega
  · rw [← hL] at hk
    rcases Nat.lt_or_ge k (locA as).length with hlt | hge
    · rw [List.getElem?_append_left hlt] at hk
      have := locA_mem as 0 k v hk
      rw [Nat.zero_add] at this
      exact he.2.2 (k, v) this
    · rw [List.getElem?_append_right hge, List.getElem?_replicate] at hk
      split at hk <;> simp at hk

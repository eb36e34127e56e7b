/-! ===== words, knowledge, the frame's judgement ===== -/
def isNest (w : Cond) : Bool := match w with
  | .fieldLinkNest _ _ _ _ _ _ => true
  | .methodLinkNest _ _ _ _ => true
  | _ => false
def kw (w : Cond) : Bool := w.onTables && (w.keeps || isNest w)
def lw_k : List Cond := lw_tbl.filter kw
theorem va_Nw_warm {w : Cond} (h : kw w = true) {s U : State} (hW : s.WarmedH U.vm) (hZ : va_Nw w s) : va_Nw w U := by
  simp only [kw, Bool.and_eq_true, Bool.or_eq_true] at h
  obtain ⟨h1, h2⟩ := h
  rcases h2 with h2 | h2
  · exact word_at hW (Or.inl (by rw [h1, h2]; rfl)) hZ
  · cases w <;> first | exact absurd h2 (by decide) | exact va_Nw.warmF hW hZ | exact va_Nw.warmM hW hZ | simp [isNest] at h2
def sLen : List Nat := [4, 4, 4, 5, 4, 6, 4, 4, 6, 4]
def sByt : List (List Int32) := [[98, 97, 110, 32], [116, 97, 120, 32], [32, 105, 102, 32], [32, 97, 110, 100, 32], [110, 111, 116, 32], [115, 116, 114, 101, 101, 116], [115, 104, 111, 112], [97, 114, 99, 104], [112, 101, 114, 115, 111, 110], [103, 111, 111, 100]]
def sIx : List Nat := [42, 44, 58, 60, 70, 92, 94, 96, 98, 100]
def sTx : List String := ["ban ", "tax ", " if ", " and ", "not ", "street", "shop", "arch", "person", "good"]
def adK (G : Gx) : Nat → Nat := G.2.2.2.1
def adV (G : Gx) : Nat → Nat := G.2.2.2.2
def Sx (G : Gx) (U : State) : Prop := vk_S 10 sLen sByt (adK G) (adV G) (Ar G) U U.heap ∧ (∀ i : Nat, i < 10 → vk_R "BazaarBook$Tape" (sIx.getD i 0) (sTx.getD i "") (adK G i) U) ∧ va_Z "java/lang/String" "COMPACT_STRINGS" "Z" (.int 1) (Ar G) U U.heap ∧ va_Zq "jdk/internal/util/Preconditions" "SIOOBE_FORMATTER" "Ljava/util/function/BiFunction;" (Ar G) U U.heap
/-- what is known of the tables and of the fixed cells -/
def Kn (G : Gx) (U : State) : Prop := (∀ w ∈ lw_k, va_Nw w U) ∧ va_K G.1 vwCl (tysG G) U ∧ GOk G ∧ Sx G U
theorem Kn.w {G : Gx} {s : State} (h : Kn G s) {w : Cond} (hw : w ∈ lw_tbl) (hk : kw w = true) (args : Array Value) : w.before args s = true := by
  have h1 := h.1 w (List.mem_filter.mpr ⟨hw, hk⟩)
  simp only [kw, Bool.and_eq_true] at hk
  exact va_Nw.use hk.1 h1
theorem Sx.moved {G : Gx} {s U : State} {locs : List Loc} (h : Sx G s) (hW : s.WarmedH U.vm) (hS : va_S (Ar G) s.heap U.heap locs) : Sx G U := by
  obtain ⟨h1, h2, h3, h4⟩ := h
  have hq : ∀ a : Nat, a < s.heap.size → ¬ Ar G a → U.heap[a]? = s.heap[a]? := hS.2.1
  exact ⟨(h1.moved hW.alike).kept hq, fun i hi => (h2 i hi).warm hW, (h3.moved hW.alike).kept hq, (h4.moved hW.alike).kept hq⟩
theorem Kn.moved {G : Gx} {s U : State} {locs : List Loc} (h : Kn G s) (hW : s.WarmedH U.vm) (hS : va_S (Ar G) s.heap U.heap locs) : Kn G U :=
  ⟨fun w hw => va_Nw_warm (List.mem_filter.mp hw).2 hW (h.1 w hw), va_K.moved hW.alike h.2.1, h.2.2.1, h.2.2.2.moved hW hS⟩
theorem Kn.calling {G : Gx} {U : State} (h : Kn G U) (g : JFrame) (mk : MethodId) (a : Array Value) : Kn G (U.calling g mk a) := by
  obtain ⟨h1, h2, h3, h4, h5, h6, h7⟩ := h
  refine ⟨fun w hw => ?_, va_K.moved (u := U) (U := U.calling g mk a) (Vm.Alike.refl U.vm) h2, h3, ?_, fun i hi => (h5 i hi).same rfl, ?_, ?_⟩
  · have hk := (List.mem_filter.mp hw).2
    simp only [kw, Bool.and_eq_true] at hk
    exact va_Nw.same (u := U) (U := U.calling g mk a) hk.1 rfl (h1 w hw)
  · exact (h4.moved (U := U.calling g mk a) (Vm.Alike.refl U.vm))
  · exact (h6.moved (U := U.calling g mk a) (Vm.Alike.refl U.vm))
  · exact (h7.moved (U := U.calling g mk a) (Vm.Alike.refl U.vm))
/-- the locals: every place, none where nothing is known -/
def LH (ls : Array Slot) (L : List (Option Value)) : Prop := ls.size = L.length ∧ lv_wf ls ∧ ∀ (k : Nat) (v : Value), L[k]? = some (some v) → ls[k]? = some (.val v)
/-- a frame's fixed things -/
abbrev Fx : Type := Program × Launch × Env × Room × State × MethodId × Array Value × List Frame × Method × Code × Nat × Nat × (State → Prop)
def Wx (E : Fx) (H : Heap) (locs : List Loc) (pc : Nat) (ls : Array Slot) (st : List Value) : Prop := match E with
  | (p, l, e, R, s, m, args, below, meth, c, cells, slots, Q) => W p l e R s m args below meth c H locs cells slots Q (F0 m pc ls st)
def hp0 (E : Fx) : Heap := E.2.2.2.2.1.heap
/-- the machine at pc, with locals, stack and world, comes to the frame's end -/
def J (G : Gx) (E : Fx) (pc : Nat) (L : List (Option Value)) (st : List Value) (M : Mem) : Prop :=
  ∀ (H : Heap) (locs : List Loc) (ls : Array Slot), HW G M H → va_S (Ar G) (hp0 E) H locs → LH ls L → Wx E H locs pc ls st
/-- what holds of a frame: machine, code, its owner, its depth -/
def Ok (G : Gx) (E : Fx) (cc : ByteArray) (own : String) (nL d : Nat) : Prop := match E with
  | (p, _, _, R, s, m, _, _, _, c, cells, slots, _) => p.tables.exec = Jvm.exec ∧ c.code = cc ∧ c.maxLocals = nL ∧ s.vm.findClass own = some m.cls ∧ Kn G s ∧ (d ≤ R.frames ∧ 64 * d ≤ R.locals) ∧ cells ≤ R.cells ∧ slots ≤ R.slots
def rmd (d : Nat) : Room := { frames := d, cells := 0, slots := 0, locals := 64 * d }
def QcOf (G : Gx) (P : Option Value → Mem → Prop) : Array Value → State → Outcome → State → Prop := fun _ st oc t => (∃ (r : Option Value) (M : Mem), oc = .returned r ∧ P r M ∧ HW G M t.heap) ∧ va_F (Ar G) st t
/-- a method's contract: from the world M with these arguments it comes back with P -/
def Ct (l : Launch) (G : Gx) (d : Nat) (y : MethodName) (cc : ByteArray) (nL : Nat) (ret : Option FieldType) (as : List Value) (M : Mem) (P : Option Value → Mem → Prop) : Prop :=
  Met l y [.code y cc nL ret] (rmd d) (va_Pc as (fun U => Kn G U ∧ HW G M U.heap)) (QcOf G P) 0 0 (Ar G)
/-- a method's frame -/
def OkM (l : Launch) (G : Gx) (E : Fx) (cc : ByteArray) (own : String) (nL d : Nat) (ret : Option FieldType) (P : Option Value → Mem → Prop) : Prop := Ok G E cc own nL d ∧ match E with
  | (_, l2, _, _, s, _, args, below, meth, _, cells, slots, Q) => l2 = l ∧ meth.sig.returnType = ret ∧ meth.locks = false ∧ Q = MQ below (QcOf G P) args s cells slots (Ar G)

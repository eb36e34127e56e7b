/-! ===== constructors that make objects ===== -/
def aq (c : ClassId) (N j : Nat) (g : Nat → Nat) : va_E := .inl (c, N, .inr (.inr (.inr (.inr (fun p => if p < j then some (g p) else none)))))
def rep (B : Nat → CM) (C : CM) : Nat → CM
  | 0 => C
  | j + 1 => und (rep B C j) (B j)
theorem aq_0 (c : ClassId) (N : Nat) (g : Nat → Nat) : (Sum.inl (c, N, .inr (.inr (.inr (.inr (fun _ => none))))) : va_E) = aq c N 0 g := by
  simp only [aq, Nat.not_lt_zero, if_false]
theorem aq_up (g : Nat → Nat) (j : Nat) : (fun p => if p = j then some (g j) else if p < j then some (g p) else none) = (fun p => if p < j + 1 then some (g p) else none) := by
  funext p
  by_cases h1 : p = j
  · simp [h1]
  · by_cases h2 : p < j
    · simp [h1, h2, show p < j + 1 by omega]
    · simp [h1, h2, show ¬ p < j + 1 by omega]
theorem wk_child {R P : CM} {h z : Nat} {fo bl : va_E} (hh : h < z) (hP : P h = none) (hz : P z ≠ none) : ∀ (x : Nat) (e : va_E), cup (und R P) h fo x = some e → und (cup (cup R h fo) z bl) P x = some e := by
  intro x e
  by_cases h1 : x = h
  · rw [h1]
    simp only [und, cup, hP, show h ≠ z by omega, if_true, if_false]
    exact id
  · by_cases h2 : x = z
    · rw [h2]
      simp only [und, cup, show z ≠ h by omega, if_false]
      cases hq : P z with
      | none => exact absurd hq hz
      | some y => exact id
    · simp only [und, cup, h1, h2, if_false]
      exact id
theorem wk_loop {R B : CM} {h a : Nat} {fo ar ar2 : va_E} (hh : h < a) : ∀ (x : Nat) (e : va_E), cup (cup (und R B) a ar2) h fo x = some e → cup (cup (und (cup R a ar) B) h fo) a ar2 x = some e := by
  intro x e
  by_cases h1 : x = h
  · simp only [cup, h1, show h ≠ a by omega, if_true, if_false]
    exact id
  · by_cases h2 : x = a
    · simp only [cup, h2, show a ≠ h by omega, if_true, if_false]
      exact id
    · simp only [und, cup, h1, h2, if_false]
      exact id
section CONC
variable {D : va_G} {cy : Nat → ClassId} {A : Nat → Prop} {E : Fx} {cc : ByteArray} {own : String} {nL d mc ms kc ks pc pc2 tg : Nat} {L : List (Option Value)} {st : List Value} {C R : CM} {sz h ci : Nat} {fs : List Value}
theorem JM_child (X : OkC D cy A E cc own nL d mc ms) {ix ix2 cj N mL d0 mc0 ms0 pa pb kc2 ks2 sz2 : Nat} {C0 : String} {T : u_T} {ty : Nat → FieldType} {y : MethodName} {bytes : ByteArray} {P : CM} {fo : va_E} (q1 : Ins cc pc 3 pa (.new ix)) (q2 : Ins cc pa 1 pb (.dup)) (q3 : Ins cc pb 3 pc2 (.invokespecial ix2))
    (hcl : ClOk cj C0 T N ty) (hlk : Cond.classLink own ix C0 ∈ lw_k) (hin : Cond.instantiable C0 N ∈ lw_k ∧ Cond.initialized C0 ∈ lw_k) (hfs : ∀ j, j < N → defaultValue (ty j) = vp_V fs j) (hm : MLI own ix2 y bytes mL) (hd : d0 < d) (hL : L.length = nL) (hst : (st.map fun v => v.category).sum ≤ 7) (hA : A sz)
    (hc : CtI (lau E) D cy d0 mc0 ms0 y bytes mL [.ref sz] sz (sz + 1) (cup cem sz (.inr (cj, fs))) P) (hh : h < sz) (hP : P h = none) (hPz : P sz ≠ none) (hk1 : kc + 1 + mc0 = kc2) (hk2 : ks + N + ms0 = ks2) (hz2 : sz + 1 + mc0 = sz2) (hm1 : kc2 ≤ mc) (hm2 : ks2 ≤ ms)
    (k : JM D A E kc2 ks2 pc2 L (.ref sz :: st) (cup (und R P) h fo) sz2) : JM D A E kc ks pc L st (cup R h fo) sz := by
  subst hk1; subst hk2; subst hz2
  refine JM_new X fs q1 hcl hlk hin.1 hin.2 hfs (by omega) (by omega) ?_
  refine JM_dup X q2 rfl ?_
  refine JM_callI X q3 hm hd hL (by simp only [List.map_cons, List.sum_cons]; show 1 + _ ≤ 8; omega) hA hm1 hm2 hc (fun a e he => ?_) (fun _ _ => hPz) (JM_weak (wk_child hh hP hPz) k)
  by_cases h1 : a = sz
  · rw [h1, cup_same] at he
    rw [h1, cup_same]
    exact he
  · rw [cup_ne h1] at he
    cases he
theorem JM_nq (X : OkC D cy A E cc own nL d mc ms) {ix : Nat} {x : Int} {C0 : String} {fo : va_E} (t0 N : Nat) (g : Nat → Nat) {cA : ClassId} {kc2 ks2 sz2 : Nat} (hh : h < sz) (q : Ins cc pc 3 pc2 (.anewarray ix)) (hlk : Cond.classLink own ix C0 ∈ lw_k) (hC0 : C0 = "BazaarBook$Rule" ∨ C0 = "BazaarBook$Shop" ∨ C0 = "BazaarBook$Will") (htt : (tysC cy)[t0]? = some (cA, .object C0)) (hN : (N : Int) = x) (hn : N ≤ 1000) (hk1 : kc + 1 = kc2) (hk2 : ks + N = ks2) (hz : sz + 1 = sz2) (hm1 : kc2 ≤ mc) (hm2 : ks2 ≤ ms)
    (k : JM D A E kc2 ks2 pc2 L (.ref sz :: st) (cup (cup R sz (aq cA N 0 g)) h fo) sz2) : JM D A E kc ks pc L (vi x :: st) (cup R h fo) sz := by
  subst hk1; subst hk2; subst hz
  refine JM_anew X (N := N) t0 q hlk hC0 htt hN hn hm1 hm2 (JM_weak (wk_new hh) ?_)
  rw [aq_0 cA N g]
  exact k
theorem JM_qs (X : OkC D cy A E cc own nL d mc ms) {a v N j cj : Nat} {x : Int} {g : Nat → Nat} {cA : ClassId} {r : vw_C} {vs : List Value} {B : CM} {fo : va_E} (t0 : Nat) (q : Ins cc pc 1 pc2 (.aastore)) (hh : h < a) (hB : B a = none) (hV : B v = some (.inr (cj, vs))) (hv : v ≠ h) (hc : vwCl[cj]? = some r) (ht : (tysC cy)[t0]? = some (cA, .object r.1)) (hx : x = (j : Int)) (h2 : j < N) (hn : N ≤ 1000) (hg : g j = v) (hA : A a)
    (k : JM D A E kc ks pc2 L st (cup (cup (und R B) a (aq cA N (j + 1) g)) h fo) sz) : JM D A E kc ks pc L (.ref v :: vi x :: .ref a :: st) (cup (und (cup R a (aq cA N j g)) B) h fo) sz := by
  subst hx
  refine JM_aast X t0 q (N := N) (f := fun p => if p < j then some (g p) else none) (cA := cA) (ci := cj) (vs := vs) ?_ ?_ hc ht (by omega) (by omega) (by omega) hA (JM_weak (wk_loop hh) ?_)
  · rw [cup_ne (by omega)]
    simp only [und, hB, cup_same, aq]
  · rw [cup_ne hv]
    simp only [und, hV]
  · rw [Int.toNat_natCast, ← hg, aq_up]
    exact k
end CONC
theorem pX2_lo {cy : Nat → ClassId} {h sz q : Nat} (hh : h < sz) (hq : q < h) : pX2 cy h sz q = none := by
  unfold pX2
  rw [cup_ne (by omega)]
  rw [cup_ne (by omega)]
  rfl
theorem pX2_hi {cy : Nat → ClassId} {h sz q : Nat} (hh : h < q) (hq : sz + 1 ≤ q) : pX2 cy h sz q = none := by
  unfold pX2
  rw [cup_ne (by omega)]
  rw [cup_ne (by omega)]
  rfl
theorem pX2_h {cy : Nat → ClassId} {h sz : Nat} (hh : h < sz) : ∃ vs, pX2 cy h sz h = some (.inr (2, vs)) := by
  unfold pX2
  exact ⟨_, cup_same _ _ _⟩
theorem pX3_lo {cy : Nat → ClassId} {h sz q : Nat} (hh : h < sz) (hq : q < h) : pX3 cy h sz q = none := by
  unfold pX3
  rw [cup_ne (by omega)]
  rw [cup_ne (by omega)]
  rw [cup_ne (by omega)]
  rw [cup_ne (by omega)]
  rw [cup_ne (by omega)]
  rfl
theorem pX3_hi {cy : Nat → ClassId} {h sz q : Nat} (hh : h < q) (hq : sz + 4 ≤ q) : pX3 cy h sz q = none := by
  unfold pX3
  rw [cup_ne (by omega)]
  rw [cup_ne (by omega)]
  rw [cup_ne (by omega)]
  rw [cup_ne (by omega)]
  rw [cup_ne (by omega)]
  rfl
theorem pX3_h {cy : Nat → ClassId} {h sz : Nat} (hh : h < sz) : ∃ vs, pX3 cy h sz h = some (.inr (3, vs)) := by
  unfold pX3
  exact ⟨_, cup_same _ _ _⟩
theorem pX5_lo {cy : Nat → ClassId} {h sz q : Nat} (hh : h < sz) (hq : q < h) : pX5 cy h sz q = none := by
  unfold pX5
  rw [cup_ne (by omega)]
  rw [cup_ne (by omega)]
  rw [cup_ne (by omega)]
  rw [cup_ne (by omega)]
  rw [cup_ne (by omega)]
  rfl
theorem pX5_hi {cy : Nat → ClassId} {h sz q : Nat} (hh : h < q) (hq : sz + 4 ≤ q) : pX5 cy h sz q = none := by
  unfold pX5
  rw [cup_ne (by omega)]
  rw [cup_ne (by omega)]
  rw [cup_ne (by omega)]
  rw [cup_ne (by omega)]
  rw [cup_ne (by omega)]
  rfl
theorem pX5_h {cy : Nat → ClassId} {h sz : Nat} (hh : h < sz) : ∃ vs, pX5 cy h sz h = some (.inr (5, vs)) := by
  unfold pX5
  exact ⟨_, cup_same _ _ _⟩
theorem pX6_lo {cy : Nat → ClassId} {h sz q : Nat} (hh : h < sz) (hq : q < h) : pX6 cy h sz q = none := by
  unfold pX6
  rw [cup_ne (by omega)]
  rw [cup_ne (by omega)]
  rfl
theorem pX6_hi {cy : Nat → ClassId} {h sz q : Nat} (hh : h < q) (hq : sz + 1 ≤ q) : pX6 cy h sz q = none := by
  unfold pX6
  rw [cup_ne (by omega)]
  rw [cup_ne (by omega)]
  rfl
theorem pX6_h {cy : Nat → ClassId} {h sz : Nat} (hh : h < sz) : ∃ vs, pX6 cy h sz h = some (.inr (6, vs)) := by
  unfold pX6
  exact ⟨_, cup_same _ _ _⟩
theorem pX7_lo {cy : Nat → ClassId} {h sz q : Nat} (hh : h < sz) (hq : q < h) : pX7 cy h sz q = none := by
  unfold pX7
  rw [cup_ne (by omega)]
  rw [cup_ne (by omega)]
  rw [cup_ne (by omega)]
  rfl
theorem pX7_hi {cy : Nat → ClassId} {h sz q : Nat} (hh : h < q) (hq : sz + 2 ≤ q) : pX7 cy h sz q = none := by
  unfold pX7
  rw [cup_ne (by omega)]
  rw [cup_ne (by omega)]
  rw [cup_ne (by omega)]
  rfl
theorem pX7_h {cy : Nat → ClassId} {h sz : Nat} (hh : h < sz) : ∃ vs, pX7 cy h sz h = some (.inr (7, vs)) := by
  unfold pX7
  exact ⟨_, cup_same _ _ _⟩
theorem pX1_lo {cy : Nat → ClassId} {h sz q : Nat} (hh : h < sz) (hq : q < h) : pX1 cy h sz q = none := by
  unfold pX1
  rw [cup_ne (by omega)]
  rw [cup_ne (by omega)]
  rw [cup_ne (by omega)]
  rw [cup_ne (by omega)]
  rw [cup_ne (by omega)]
  rw [cup_ne (by omega)]
  rw [cup_ne (by omega)]
  rw [cup_ne (by omega)]
  rfl
theorem pX1_hi {cy : Nat → ClassId} {h sz q : Nat} (hh : h < q) (hq : sz + 6 ≤ q) : pX1 cy h sz q = none := by
  unfold pX1
  rw [cup_ne (by omega)]
  rw [cup_ne (by omega)]
  rw [cup_ne (by omega)]
  rw [cup_ne (by omega)]
  rw [cup_ne (by omega)]
  rw [cup_ne (by omega)]
  rw [cup_ne (by omega)]
  rw [cup_ne (by omega)]
  rfl
theorem pX1_h {cy : Nat → ClassId} {h sz : Nat} (hh : h < sz) : ∃ vs, pX1 cy h sz h = some (.inr (1, vs)) := by
  unfold pX1
  rw [cup_ne (by omega)]
  exact ⟨_, cup_same _ _ _⟩
theorem rep_none {B : Nat → CM} {C : CM} {q : Nat} (hC : C q = none) (hB : ∀ i, B i q = none) : ∀ j, rep B C j q = none
  | 0 => hC
  | j + 1 => by simp only [rep, und, hB, rep_none hC hB j]
theorem rep_base {B : Nat → CM} {C : CM} {q : Nat} (hB : ∀ i, B i q = none) : ∀ j, rep B C j q = C q
  | 0 => rfl
  | j + 1 => by simp only [rep, und, hB, rep_base hB j]
theorem rep_at {B : Nat → CM} {C : CM} {q i : Nat} {e : va_E} (hi : B i q = some e) (hB : ∀ k, k ≠ i → B k q = none) : ∀ j, i < j → rep B C j q = some e
  | 0, h => by omega
  | j + 1, h => by
    by_cases hj : j = i
    · subst hj
      simp only [rep, und, hi]
    · simp only [rep, und, hB j hj, rep_at hi hB j (by omega)]
def pX0 (cy : Nat → ClassId) (h sz : Nat) : CM := cup (cup (rep (fun i => pX5 cy (sz + 2 + 5 * i) (sz + 2 + 5 * i + 1)) (cup (cem) (sz + 1) (ai cy 14)) 14) (sz) (aq (cy 4) 14 14 (fun p => sz + 2 + 5 * p))) h (.inr (0, [.ref sz, .ref (sz + 1), vi 0, vi 0, vi 0]))
theorem lp_cX0 (l : Launch) (D : va_G) (cy : Nat → ClassId) (h sz : Nat) (hh : h < sz) (E : Fx) (X : OkI l D cy E cX0_init RX0 2 2 72 714 h sz (pX0 cy h sz)) (hE : lau E = l) : ∀ n j : Nat, j ≤ 14 → 14 < j + n → JM D (Af h sz) E (2 + 5 * j) (28 + 49 * j) 38 [some (.ref h), some (vi (j : Int))] [] (cup (cup (rep (fun i => pX5 cy (sz + 2 + 5 * i) (sz + 2 + 5 * i + 1)) (cup (cem) (sz + 1) (ai cy 14)) j) (sz) (aq (cy 4) 14 j (fun p => sz + 2 + 5 * p))) h (.inr (0, [.ref sz, .ref (sz + 1), vi 0, vi 0, vi 0]))) (sz + 2 + 5 * j)
  | 0, j, h1, h2 => by omega
  | n + 1, j, h1, h2 => by
    refine JM_iload_1 X.1 qX0_init_38 ?_
    refine JM_bipush X.1 qX0_init_39 (by decide) ?_
    refine JM_icmp_ge X.1 qX0_init_41 (by omega) (by omega) (by omega) (by omega) (fun h3 => ?_) (fun h3 => ?_)
    · have e : j = 14 := by omega
      subst e
      exact JM_vret X qX0_init_63 (by omega) (fun a e h => h)
    · refine JM_aload_0 X.1 qX0_init_44 ?_
      refine JM_get X.1 qX0_init_45 gX0_11 (cup_same _ _ _) rfl ?_
      refine JM_iload_1 X.1 qX0_init_48 ?_
      refine JM_child (P := pX5 cy (sz + 2 + 5 * j) (sz + 2 + 5 * j + 1)) (fs := dX5) (d0 := 1) (mc0 := 4) (ms0 := 36) (kc2 := 2 + 5 * (j + 1)) (ks2 := 28 + 49 * (j + 1)) (sz2 := sz + 2 + 5 * (j + 1)) X.1 qX0_init_49 qX0_init_52 qX0_init_53 clok5 wX0_9 zX5 (by decide +kernel) nX0_31 (by decide) rfl (Nat.le_of_ble_eq_true rfl) (Or.inr (by omega)) (hE ▸ c_X5 l D cy (sz + 2 + 5 * j) (sz + 2 + 5 * j + 1) (by omega)) (by omega) (pX5_lo (by omega) (by omega)) (fun h9 => by obtain ⟨vs, h8⟩ := pX5_h (cy := cy) (h := sz + 2 + 5 * j) (sz := sz + 2 + 5 * j + 1) (by omega); rw [h8] at h9; cases h9) (by omega) (by show _ + 13 + _ = _; omega) (by omega) (by omega) (by omega) ?_
      obtain ⟨vs, hvs⟩ := pX5_h (cy := cy) (h := sz + 2 + 5 * j) (sz := sz + 2 + 5 * j + 1) (by omega)
      refine JM_qs X.1 (B := pX5 cy (sz + 2 + 5 * j) (sz + 2 + 5 * j + 1)) 4 qX0_init_56 (by omega) (pX5_lo (by omega) (by omega)) hvs (by omega) (cj := 5) rfl rfl rfl (by omega) (by decide) rfl (Or.inr (by omega)) ?_
      refine JM_iinc_1 X.1 qX0_init_57 rfl ?_
      refine JM_goto X.1 qX0_init_60 ?_
      exact lp_cX0 l D cy h sz hh E X hE n (j + 1) (by omega) (by omega)
def dX0 : List Value := [.null, .null, vi 0, vi 0, vi 0]
theorem c_X0 (l : Launch) (D : va_G) (cy : Nat → ClassId) (h sz : Nat) (hh : h < sz) : CtI l D cy 2 72 714 yX0_init cX0_init 2 [.ref h] h sz (cup cem h (.inr (0, dX0))) (pX0 cy h sz) := by
  refine CtI.of (L := [some (.ref h), none]) (by decide +kernel) (Nat.le_of_ble_eq_true rfl) rfl ?_
  intro E X hI hE
  replace hI := hI rfl
  unfold dX0
  refine JM_aload_0 X.1 qX0_init_0 ?_
  refine JM_oinit X.1 qX0_init_1 oX0 rfl (by decide) (by decide) ?_
  refine JM_aload_0 X.1 qX0_init_4 ?_
  refine JM_bipush X.1 qX0_init_5 (by decide) ?_
  refine JM_nq X.1 4 14 (fun p => sz + 2 + 5 * p) (kc2 := 1) (ks2 := 14) (sz2 := sz + 1) (by omega) qX0_init_7 wX0_9 (Or.inr (Or.inl rfl)) rfl rfl (by decide) rfl rfl rfl (by decide) (by decide) ?_
  refine JM_pf X.1 hI qX0_init_10 gX0_11 rfl rfl (Nat.le_of_ble_eq_true rfl) (Or.inl rfl) (fs2 := [.ref sz, .null, vi 0, vi 0, vi 0]) rfl ?_
  refine JM_aload_0 X.1 qX0_init_13 ?_
  refine JM_bipush X.1 qX0_init_14 (by decide) ?_
  refine JM_ni X.1 14 (kc2 := 2) (ks2 := 28) (sz2 := sz + 2) (by omega) qX0_init_16 rfl (by decide) rfl rfl rfl (by decide) (by decide) ?_
  refine JM_pf X.1 hI qX0_init_18 gX0_17 rfl rfl (Nat.le_of_ble_eq_true rfl) (Or.inl rfl) (fs2 := [.ref sz, .ref (sz + 1), vi 0, vi 0, vi 0]) rfl ?_
  refine JM_aload_0 X.1 qX0_init_21 ?_
  refine JM_iconst X.1 qX0_init_22 ?_
  refine JM_pf X.1 hI qX0_init_23 gX0_21 (vp_nar_int _) rfl (Nat.le_of_ble_eq_true rfl) (Or.inl rfl) (fs2 := [.ref sz, .ref (sz + 1), vi 0, vi 0, vi 0]) rfl ?_
  refine JM_aload_0 X.1 qX0_init_26 ?_
  refine JM_iconst X.1 qX0_init_27 ?_
  refine JM_pf X.1 hI qX0_init_28 gX0_25 (vp_nar_int _) rfl (Nat.le_of_ble_eq_true rfl) (Or.inl rfl) (fs2 := [.ref sz, .ref (sz + 1), vi 0, vi 0, vi 0]) rfl ?_
  refine JM_aload_0 X.1 qX0_init_31 ?_
  refine JM_iconst X.1 qX0_init_32 ?_
  refine JM_pf X.1 hI qX0_init_33 gX0_28 (vp_nar_int _) rfl (Nat.le_of_ble_eq_true rfl) (Or.inl rfl) (fs2 := [.ref sz, .ref (sz + 1), vi 0, vi 0, vi 0]) rfl ?_
  refine JM_iconst X.1 qX0_init_36 ?_
  refine JM_istore_1 X.1 qX0_init_37 rfl ?_
  refine JM_weak ?_ (lp_cX0 l D cy h sz hh E X hE 15 0 (by omega) (by omega))
  intro x e
  show cup (cup (cup (cem) (sz + 1) (ai cy 14)) (sz) (aq (cy 4) 14 0 (fun p => sz + 2 + 5 * p))) h _ x = some e → cup (cup (cup (cem) (sz) (aq (cy 4) 14 0 (fun p => sz + 2 + 5 * p))) (sz + 1) (ai cy 14)) h _ x = some e
  by_cases h1 : x = h
  · rw [h1, cup_same, cup_same]
    exact id
  · rw [cup_ne h1, cup_ne h1]
    by_cases h2 : x = sz
    · rw [h2, cup_same]
      intro h3
      have h4 : (cup (cup (cem) (sz) (aq (cy 4) 14 0 (fun p => sz + 2 + 5 * p))) (sz + 1) (ai cy 14)) (sz) = some (aq (cy 4) 14 0 (fun p => sz + 2 + 5 * p)) := by
        rw [cup_ne (by omega), cup_same]
      rw [h4]
      exact h3
    · simp only [und, cup, h2, if_false]
      exact id
theorem pX0_h {cy : Nat → ClassId} {h sz : Nat} (hh : h < sz) : ∃ vs, pX0 cy h sz h = some (.inr (0, vs)) := ⟨_, cup_same _ _ _⟩
def pX4 (cy : Nat → ClassId) (h sz : Nat) : CM := cup (cup (rep (fun i => pX3 cy (sz + 2 + 5 * i) (sz + 2 + 5 * i + 1)) (cup (cem) (sz + 1) (ai cy 5)) 10) (sz) (aq (cy 3) 10 10 (fun p => sz + 2 + 5 * p))) h (.inr (4, [.ref sz, .ref (sz + 1), vi 0]))
theorem lp_cX4 (l : Launch) (D : va_G) (cy : Nat → ClassId) (h sz : Nat) (hh : h < sz) (E : Fx) (X : OkI l D cy E cX4_init RX4 2 2 52 225 h sz (pX4 cy h sz)) (hE : lau E = l) : ∀ n j : Nat, j ≤ 10 → 10 < j + n → JM D (Af h sz) E (2 + 5 * j) (15 + 21 * j) 27 [some (.ref h), some (vi (j : Int))] [] (cup (cup (rep (fun i => pX3 cy (sz + 2 + 5 * i) (sz + 2 + 5 * i + 1)) (cup (cem) (sz + 1) (ai cy 5)) j) (sz) (aq (cy 3) 10 j (fun p => sz + 2 + 5 * p))) h (.inr (4, [.ref sz, .ref (sz + 1), vi 0]))) (sz + 2 + 5 * j)
  | 0, j, h1, h2 => by omega
  | n + 1, j, h1, h2 => by
    refine JM_iload_1 X.1 qX4_init_27 ?_
    refine JM_bipush X.1 qX4_init_28 (by decide) ?_
    refine JM_icmp_ge X.1 qX4_init_30 (by omega) (by omega) (by omega) (by omega) (fun h3 => ?_) (fun h3 => ?_)
    · have e : j = 10 := by omega
      subst e
      exact JM_vret X qX4_init_52 (by omega) (fun a e h => h)
    · refine JM_aload_0 X.1 qX4_init_33 ?_
      refine JM_get X.1 qX4_init_34 gX4_11 (cup_same _ _ _) rfl ?_
      refine JM_iload_1 X.1 qX4_init_37 ?_
      refine JM_child (P := pX3 cy (sz + 2 + 5 * j) (sz + 2 + 5 * j + 1)) (fs := dX3) (d0 := 1) (mc0 := 4) (ms0 := 12) (kc2 := 2 + 5 * (j + 1)) (ks2 := 15 + 21 * (j + 1)) (sz2 := sz + 2 + 5 * (j + 1)) X.1 qX4_init_38 qX4_init_41 qX4_init_42 clok3 wX4_9 zX3 (by decide +kernel) nX4_25 (by decide) rfl (Nat.le_of_ble_eq_true rfl) (Or.inr (by omega)) (hE ▸ c_X3 l D cy (sz + 2 + 5 * j) (sz + 2 + 5 * j + 1) (by omega)) (by omega) (pX3_lo (by omega) (by omega)) (fun h9 => by obtain ⟨vs, h8⟩ := pX3_h (cy := cy) (h := sz + 2 + 5 * j) (sz := sz + 2 + 5 * j + 1) (by omega); rw [h8] at h9; cases h9) (by omega) (by show _ + 9 + _ = _; omega) (by omega) (by omega) (by omega) ?_
      obtain ⟨vs, hvs⟩ := pX3_h (cy := cy) (h := sz + 2 + 5 * j) (sz := sz + 2 + 5 * j + 1) (by omega)
      refine JM_qs X.1 (B := pX3 cy (sz + 2 + 5 * j) (sz + 2 + 5 * j + 1)) 3 qX4_init_45 (by omega) (pX3_lo (by omega) (by omega)) hvs (by omega) (cj := 3) rfl rfl rfl (by omega) (by decide) rfl (Or.inr (by omega)) ?_
      refine JM_iinc_1 X.1 qX4_init_46 rfl ?_
      refine JM_goto X.1 qX4_init_49 ?_
      exact lp_cX4 l D cy h sz hh E X hE n (j + 1) (by omega) (by omega)
def dX4 : List Value := [.null, .null, vi 0]
theorem c_X4 (l : Launch) (D : va_G) (cy : Nat → ClassId) (h sz : Nat) (hh : h < sz) : CtI l D cy 2 52 225 yX4_init cX4_init 2 [.ref h] h sz (cup cem h (.inr (4, dX4))) (pX4 cy h sz) := by
  refine CtI.of (L := [some (.ref h), none]) (by decide +kernel) (Nat.le_of_ble_eq_true rfl) rfl ?_
  intro E X hI hE
  replace hI := hI rfl
  unfold dX4
  refine JM_aload_0 X.1 qX4_init_0 ?_
  refine JM_oinit X.1 qX4_init_1 oX4 rfl (by decide) (by decide) ?_
  refine JM_aload_0 X.1 qX4_init_4 ?_
  refine JM_bipush X.1 qX4_init_5 (by decide) ?_
  refine JM_nq X.1 3 10 (fun p => sz + 2 + 5 * p) (kc2 := 1) (ks2 := 10) (sz2 := sz + 1) (by omega) qX4_init_7 wX4_9 (Or.inl rfl) rfl rfl (by decide) rfl rfl rfl (by decide) (by decide) ?_
  refine JM_pf X.1 hI qX4_init_10 gX4_11 rfl rfl (Nat.le_of_ble_eq_true rfl) (Or.inl rfl) (fs2 := [.ref sz, .null, vi 0]) rfl ?_
  refine JM_aload_0 X.1 qX4_init_13 ?_
  refine JM_iconst X.1 qX4_init_14 ?_
  refine JM_ni X.1 5 (kc2 := 2) (ks2 := 15) (sz2 := sz + 2) (by omega) qX4_init_15 rfl (by decide) rfl rfl rfl (by decide) (by decide) ?_
  refine JM_pf X.1 hI qX4_init_17 gX4_17 rfl rfl (Nat.le_of_ble_eq_true rfl) (Or.inl rfl) (fs2 := [.ref sz, .ref (sz + 1), vi 0]) rfl ?_
  refine JM_aload_0 X.1 qX4_init_20 ?_
  refine JM_iconst X.1 qX4_init_21 ?_
  refine JM_pf X.1 hI qX4_init_22 gX4_21 (vp_nar_int _) rfl (Nat.le_of_ble_eq_true rfl) (Or.inl rfl) (fs2 := [.ref sz, .ref (sz + 1), vi 0]) rfl ?_
  refine JM_iconst X.1 qX4_init_25 ?_
  refine JM_istore_1 X.1 qX4_init_26 rfl ?_
  refine JM_weak ?_ (lp_cX4 l D cy h sz hh E X hE 11 0 (by omega) (by omega))
  intro x e
  show cup (cup (cup (cem) (sz + 1) (ai cy 5)) (sz) (aq (cy 3) 10 0 (fun p => sz + 2 + 5 * p))) h _ x = some e → cup (cup (cup (cem) (sz) (aq (cy 3) 10 0 (fun p => sz + 2 + 5 * p))) (sz + 1) (ai cy 5)) h _ x = some e
  by_cases h1 : x = h
  · rw [h1, cup_same, cup_same]
    exact id
  · rw [cup_ne h1, cup_ne h1]
    by_cases h2 : x = sz
    · rw [h2, cup_same]
      intro h3
      have h4 : (cup (cup (cem) (sz) (aq (cy 3) 10 0 (fun p => sz + 2 + 5 * p))) (sz + 1) (ai cy 5)) (sz) = some (aq (cy 3) 10 0 (fun p => sz + 2 + 5 * p)) := by
        rw [cup_ne (by omega), cup_same]
      rw [h4]
      exact h3
    · simp only [und, cup, h2, if_false]
      exact id
theorem pX4_h {cy : Nat → ClassId} {h sz : Nat} (hh : h < sz) : ∃ vs, pX4 cy h sz h = some (.inr (4, vs)) := ⟨_, cup_same _ _ _⟩
theorem pX0_lo {cy : Nat → ClassId} {h sz q : Nat} (hh : h < sz) (hq : q < h) : pX0 cy h sz q = none := by
  unfold pX0
  rw [cup_ne (by omega), cup_ne (by omega)]
  exact rep_none (by rw [cup_ne (by omega)]; rfl) (fun i => pX5_lo (by omega) (by omega)) _
theorem pX4_lo {cy : Nat → ClassId} {h sz q : Nat} (hh : h < sz) (hq : q < h) : pX4 cy h sz q = none := by
  unfold pX4
  rw [cup_ne (by omega), cup_ne (by omega)]
  exact rep_none (by rw [cup_ne (by omega)]; rfl) (fun i => pX3_lo (by omega) (by omega)) _
def pX8 (cy : Nat → ClassId) (h sz : Nat) : CM := cup (cup (rep (fun i => pX7 cy (sz + 140 + 3 * i) (sz + 140 + 3 * i + 1)) (cup (cup (und (und (und (und (und (cem) (pX0 cy (sz) (sz + 1))) (pX2 cy (sz + 74) (sz + 75))) (pX6 cy (sz + 76) (sz + 77))) (pX4 cy (sz + 78) (sz + 79))) (pX1 cy (sz + 131) (sz + 132))) (sz + 138) (ai cy 10)) (sz + 139) (ai cy 9)) 10) (sz + 73) (aq (cy 5) 10 10 (fun p => sz + 140 + 3 * p))) h (.inr (8, [.ref sz, .ref (sz + 73), .ref (sz + 74), .ref (sz + 76), .ref (sz + 78), .ref (sz + 131), .ref (sz + 138), .ref (sz + 139), vi 0, vi 0]))
theorem lp_cX8 (l : Launch) (D : va_G) (cy : Nat → ClassId) (h sz : Nat) (hh : h < sz) (E : Fx) (X : OkI l D cy E cX8_init RX8 2 3 170 1225 h sz (pX8 cy h sz)) (hE : lau E = l) : ∀ n j : Nat, j ≤ 10 → 10 < j + n → JM D (Af h sz) E (140 + 3 * j) (1115 + 11 * j) 96 [some (.ref h), some (vi (j : Int))] [] (cup (cup (rep (fun i => pX7 cy (sz + 140 + 3 * i) (sz + 140 + 3 * i + 1)) (cup (cup (und (und (und (und (und (cem) (pX0 cy (sz) (sz + 1))) (pX2 cy (sz + 74) (sz + 75))) (pX6 cy (sz + 76) (sz + 77))) (pX4 cy (sz + 78) (sz + 79))) (pX1 cy (sz + 131) (sz + 132))) (sz + 138) (ai cy 10)) (sz + 139) (ai cy 9)) j) (sz + 73) (aq (cy 5) 10 j (fun p => sz + 140 + 3 * p))) h (.inr (8, [.ref sz, .ref (sz + 73), .ref (sz + 74), .ref (sz + 76), .ref (sz + 78), .ref (sz + 131), .ref (sz + 138), .ref (sz + 139), vi 0, vi 0]))) (sz + 140 + 3 * j)
  | 0, j, h1, h2 => by omega
  | n + 1, j, h1, h2 => by
    refine JM_iload_1 X.1 qX8_init_96 ?_
    refine JM_bipush X.1 qX8_init_97 (by decide) ?_
    refine JM_icmp_ge X.1 qX8_init_99 (by omega) (by omega) (by omega) (by omega) (fun h3 => ?_) (fun h3 => ?_)
    · have e : j = 10 := by omega
      subst e
      exact JM_vret X qX8_init_121 (by omega) (fun a e h => h)
    · refine JM_aload_0 X.1 qX8_init_102 ?_
      refine JM_get X.1 qX8_init_103 gX8_18 (cup_same _ _ _) rfl ?_
      refine JM_iload_1 X.1 qX8_init_106 ?_
      refine JM_child (P := pX7 cy (sz + 140 + 3 * j) (sz + 140 + 3 * j + 1)) (fs := dX7) (d0 := 1) (mc0 := 2) (ms0 := 8) (kc2 := 140 + 3 * (j + 1)) (ks2 := 1115 + 11 * (j + 1)) (sz2 := sz + 140 + 3 * (j + 1)) X.1 qX8_init_107 qX8_init_110 qX8_init_111 clok7 wX8_16 zX7 (by decide +kernel) nX8_65 (by decide) rfl (Nat.le_of_ble_eq_true rfl) (Or.inr (by omega)) (hE ▸ c_X7 l D cy (sz + 140 + 3 * j) (sz + 140 + 3 * j + 1) (by omega)) (by omega) (pX7_lo (by omega) (by omega)) (fun h9 => by obtain ⟨vs, h8⟩ := pX7_h (cy := cy) (h := sz + 140 + 3 * j) (sz := sz + 140 + 3 * j + 1) (by omega); rw [h8] at h9; cases h9) (by omega) (by show _ + 3 + _ = _; omega) (by omega) (by omega) (by omega) ?_
      obtain ⟨vs, hvs⟩ := pX7_h (cy := cy) (h := sz + 140 + 3 * j) (sz := sz + 140 + 3 * j + 1) (by omega)
      refine JM_qs X.1 (B := pX7 cy (sz + 140 + 3 * j) (sz + 140 + 3 * j + 1)) 5 qX8_init_114 (by omega) (pX7_lo (by omega) (by omega)) hvs (by omega) (cj := 7) rfl rfl rfl (by omega) (by decide) rfl (Or.inr (by omega)) ?_
      refine JM_iinc_1 X.1 qX8_init_115 rfl ?_
      refine JM_goto X.1 qX8_init_118 ?_
      exact lp_cX8 l D cy h sz hh E X hE n (j + 1) (by omega) (by omega)
def dX8 : List Value := [.null, .null, .null, .null, .null, .null, .null, .null, vi 0, vi 0]
theorem c_X8 (l : Launch) (D : va_G) (cy : Nat → ClassId) (h sz : Nat) (hh : h < sz) : CtI l D cy 3 170 1225 yX8_init cX8_init 2 [.ref h] h sz (cup cem h (.inr (8, dX8))) (pX8 cy h sz) := by
  refine CtI.of (L := [some (.ref h), none]) (by decide +kernel) (Nat.le_of_ble_eq_true rfl) rfl ?_
  intro E X hI hE
  replace hI := hI rfl
  unfold dX8
  refine JM_aload_0 X.1 qX8_init_0 ?_
  refine JM_oinit X.1 qX8_init_1 oX8 rfl (by decide) (by decide) ?_
  refine JM_aload_0 X.1 qX8_init_4 ?_
  refine JM_child (P := pX0 cy (sz) (sz + 1)) (fs := dX0) (d0 := 2) (mc0 := 72) (ms0 := 714) (kc2 := 73) (ks2 := 719) (sz2 := sz + 73) X.1 qX8_init_5 qX8_init_8 qX8_init_9 clok0 wX8_7 zX0 (by decide +kernel) nX8_9 (by decide) rfl (Nat.le_of_ble_eq_true rfl) (Or.inr (by omega)) (hE ▸ c_X0 l D cy (sz) (sz + 1) (by omega)) (by omega) (pX0_lo (by omega) (by omega)) (fun h9 => by obtain ⟨vs, h8⟩ := pX0_h (cy := cy) (h := sz) (sz := sz + 1) (by omega); rw [h8] at h9; cases h9) rfl rfl (by omega) (by decide) (by decide) ?_
  refine JM_pf X.1 hI qX8_init_12 gX8_10 rfl rfl (Nat.le_of_ble_eq_true rfl) (Or.inl rfl) (fs2 := [.ref sz, .null, .null, .null, .null, .null, .null, .null, vi 0, vi 0]) rfl ?_
  refine JM_aload_0 X.1 qX8_init_15 ?_
  refine JM_bipush X.1 qX8_init_16 (by decide) ?_
  refine JM_nq X.1 5 10 (fun p => sz + 140 + 3 * p) (kc2 := 74) (ks2 := 729) (sz2 := sz + 74) (by omega) qX8_init_18 wX8_16 (Or.inr (Or.inr rfl)) rfl rfl (by decide) rfl rfl rfl (by decide) (by decide) ?_
  refine JM_pf X.1 hI qX8_init_21 gX8_18 rfl rfl (Nat.le_of_ble_eq_true rfl) (Or.inl rfl) (fs2 := [.ref sz, .ref (sz + 73), .null, .null, .null, .null, .null, .null, vi 0, vi 0]) rfl ?_
  refine JM_aload_0 X.1 qX8_init_24 ?_
  refine JM_child (P := pX2 cy (sz + 74) (sz + 75)) (fs := dX2) (d0 := 1) (mc0 := 1) (ms0 := 10) (kc2 := 76) (ks2 := 740) (sz2 := sz + 76) X.1 qX8_init_25 qX8_init_28 qX8_init_29 clok2 wX8_22 zX2 (by decide +kernel) nX8_24 (by decide) rfl (Nat.le_of_ble_eq_true rfl) (Or.inr (by omega)) (hE ▸ c_X2 l D cy (sz + 74) (sz + 75) (by omega)) (by omega) (pX2_lo (by omega) (by omega)) (fun h9 => by obtain ⟨vs, h8⟩ := pX2_h (cy := cy) (h := sz + 74) (sz := sz + 75) (by omega); rw [h8] at h9; cases h9) rfl rfl (by omega) (by decide) (by decide) ?_
  refine JM_pf X.1 hI qX8_init_32 gX8_25 rfl rfl (Nat.le_of_ble_eq_true rfl) (Or.inl rfl) (fs2 := [.ref sz, .ref (sz + 73), .ref (sz + 74), .null, .null, .null, .null, .null, vi 0, vi 0]) rfl ?_
  refine JM_aload_0 X.1 qX8_init_35 ?_
  refine JM_child (P := pX6 cy (sz + 76) (sz + 77)) (fs := dX6) (d0 := 1) (mc0 := 1) (ms0 := 80) (kc2 := 78) (ks2 := 824) (sz2 := sz + 78) X.1 qX8_init_36 qX8_init_39 qX8_init_40 clok6 wX8_29 zX6 (by decide +kernel) nX8_31 (by decide) rfl (Nat.le_of_ble_eq_true rfl) (Or.inr (by omega)) (hE ▸ c_X6 l D cy (sz + 76) (sz + 77) (by omega)) (by omega) (pX6_lo (by omega) (by omega)) (fun h9 => by obtain ⟨vs, h8⟩ := pX6_h (cy := cy) (h := sz + 76) (sz := sz + 77) (by omega); rw [h8] at h9; cases h9) rfl rfl (by omega) (by decide) (by decide) ?_
  refine JM_pf X.1 hI qX8_init_43 gX8_32 rfl rfl (Nat.le_of_ble_eq_true rfl) (Or.inl rfl) (fs2 := [.ref sz, .ref (sz + 73), .ref (sz + 74), .ref (sz + 76), .null, .null, .null, .null, vi 0, vi 0]) rfl ?_
  refine JM_aload_0 X.1 qX8_init_46 ?_
  refine JM_child (P := pX4 cy (sz + 78) (sz + 79)) (fs := dX4) (d0 := 2) (mc0 := 52) (ms0 := 225) (kc2 := 131) (ks2 := 1052) (sz2 := sz + 131) X.1 qX8_init_47 qX8_init_50 qX8_init_51 clok4 wX8_36 zX4 (by decide +kernel) nX8_38 (by decide) rfl (Nat.le_of_ble_eq_true rfl) (Or.inr (by omega)) (hE ▸ c_X4 l D cy (sz + 78) (sz + 79) (by omega)) (by omega) (pX4_lo (by omega) (by omega)) (fun h9 => by obtain ⟨vs, h8⟩ := pX4_h (cy := cy) (h := sz + 78) (sz := sz + 79) (by omega); rw [h8] at h9; cases h9) rfl rfl (by omega) (by decide) (by decide) ?_
  refine JM_pf X.1 hI qX8_init_54 gX8_39 rfl rfl (Nat.le_of_ble_eq_true rfl) (Or.inl rfl) (fs2 := [.ref sz, .ref (sz + 73), .ref (sz + 74), .ref (sz + 76), .ref (sz + 78), .null, .null, .null, vi 0, vi 0]) rfl ?_
  refine JM_aload_0 X.1 qX8_init_57 ?_
  refine JM_child (P := pX1 cy (sz + 131) (sz + 132)) (fs := dX1) (d0 := 2) (mc0 := 6) (ms0 := 36) (kc2 := 138) (ks2 := 1096) (sz2 := sz + 138) X.1 qX8_init_58 qX8_init_61 qX8_init_62 clok1 wX8_43 zX1 (by decide +kernel) nX8_45 (by decide) rfl (Nat.le_of_ble_eq_true rfl) (Or.inr (by omega)) (hE ▸ c_X1 l D cy (sz + 131) (sz + 132) (by omega)) (by omega) (pX1_lo (by omega) (by omega)) (fun h9 => by obtain ⟨vs, h8⟩ := pX1_h (cy := cy) (h := sz + 131) (sz := sz + 132) (by omega); rw [h8] at h9; cases h9) rfl rfl (by omega) (by decide) (by decide) ?_
  refine JM_pf X.1 hI qX8_init_65 gX8_46 rfl rfl (Nat.le_of_ble_eq_true rfl) (Or.inl rfl) (fs2 := [.ref sz, .ref (sz + 73), .ref (sz + 74), .ref (sz + 76), .ref (sz + 78), .ref (sz + 131), .null, .null, vi 0, vi 0]) rfl ?_
  refine JM_aload_0 X.1 qX8_init_68 ?_
  refine JM_bipush X.1 qX8_init_69 (by decide) ?_
  refine JM_ni X.1 10 (kc2 := 139) (ks2 := 1106) (sz2 := sz + 139) (by omega) qX8_init_71 rfl (by decide) rfl rfl rfl (by decide) (by decide) ?_
  refine JM_pf X.1 hI qX8_init_73 gX8_50 rfl rfl (Nat.le_of_ble_eq_true rfl) (Or.inl rfl) (fs2 := [.ref sz, .ref (sz + 73), .ref (sz + 74), .ref (sz + 76), .ref (sz + 78), .ref (sz + 131), .ref (sz + 138), .null, vi 0, vi 0]) rfl ?_
  refine JM_aload_0 X.1 qX8_init_76 ?_
  refine JM_bipush X.1 qX8_init_77 (by decide) ?_
  refine JM_ni X.1 9 (kc2 := 140) (ks2 := 1115) (sz2 := sz + 140) (by omega) qX8_init_79 rfl (by decide) rfl rfl rfl (by decide) (by decide) ?_
  refine JM_pf X.1 hI qX8_init_81 gX8_54 rfl rfl (Nat.le_of_ble_eq_true rfl) (Or.inl rfl) (fs2 := [.ref sz, .ref (sz + 73), .ref (sz + 74), .ref (sz + 76), .ref (sz + 78), .ref (sz + 131), .ref (sz + 138), .ref (sz + 139), vi 0, vi 0]) rfl ?_
  refine JM_aload_0 X.1 qX8_init_84 ?_
  refine JM_iconst X.1 qX8_init_85 ?_
  refine JM_pf X.1 hI qX8_init_86 gX8_57 (by decide) (by decide) (Nat.le_of_ble_eq_true rfl) (Or.inl rfl) (fs2 := [.ref sz, .ref (sz + 73), .ref (sz + 74), .ref (sz + 76), .ref (sz + 78), .ref (sz + 131), .ref (sz + 138), .ref (sz + 139), vi 0, vi 0]) rfl ?_
  refine JM_aload_0 X.1 qX8_init_89 ?_
  refine JM_iconst X.1 qX8_init_90 ?_
  refine JM_pf X.1 hI qX8_init_91 gX8_61 (vp_nar_int _) rfl (Nat.le_of_ble_eq_true rfl) (Or.inl rfl) (fs2 := [.ref sz, .ref (sz + 73), .ref (sz + 74), .ref (sz + 76), .ref (sz + 78), .ref (sz + 131), .ref (sz + 138), .ref (sz + 139), vi 0, vi 0]) rfl ?_
  refine JM_iconst X.1 qX8_init_94 ?_
  refine JM_istore_1 X.1 qX8_init_95 rfl ?_
  refine JM_weak ?_ (lp_cX8 l D cy h sz hh E X hE 11 0 (by omega) (by omega))
  intro x e
  show cup (cup (cup (cup (und (und (und (und (und (cem) (pX0 cy (sz) (sz + 1))) (pX2 cy (sz + 74) (sz + 75))) (pX6 cy (sz + 76) (sz + 77))) (pX4 cy (sz + 78) (sz + 79))) (pX1 cy (sz + 131) (sz + 132))) (sz + 138) (ai cy 10)) (sz + 139) (ai cy 9)) (sz + 73) (aq (cy 5) 10 0 (fun p => sz + 140 + 3 * p))) h _ x = some e → cup (cup (cup (und (und (und (und (cup (und (cem) (pX0 cy (sz) (sz + 1))) (sz + 73) (aq (cy 5) 10 0 (fun p => sz + 140 + 3 * p))) (pX2 cy (sz + 74) (sz + 75))) (pX6 cy (sz + 76) (sz + 77))) (pX4 cy (sz + 78) (sz + 79))) (pX1 cy (sz + 131) (sz + 132))) (sz + 138) (ai cy 10)) (sz + 139) (ai cy 9)) h _ x = some e
  by_cases h1 : x = h
  · rw [h1, cup_same, cup_same]
    exact id
  · rw [cup_ne h1, cup_ne h1]
    by_cases h2 : x = sz + 73
    · rw [h2, cup_same]
      intro h3
      have h4 : (cup (cup (und (und (und (und (cup (und (cem) (pX0 cy (sz) (sz + 1))) (sz + 73) (aq (cy 5) 10 0 (fun p => sz + 140 + 3 * p))) (pX2 cy (sz + 74) (sz + 75))) (pX6 cy (sz + 76) (sz + 77))) (pX4 cy (sz + 78) (sz + 79))) (pX1 cy (sz + 131) (sz + 132))) (sz + 138) (ai cy 10)) (sz + 139) (ai cy 9)) (sz + 73) = some (aq (cy 5) 10 0 (fun p => sz + 140 + 3 * p)) := by
        rw [cup_ne (by omega), cup_ne (by omega)]
        simp only [und, pX1_lo (cy := cy) (h := sz + 131) (sz := sz + 132) (q := sz + 73) (by omega) (by omega), pX4_lo (cy := cy) (h := sz + 78) (sz := sz + 79) (q := sz + 73) (by omega) (by omega), pX6_lo (cy := cy) (h := sz + 76) (sz := sz + 77) (q := sz + 73) (by omega) (by omega), pX2_lo (cy := cy) (h := sz + 74) (sz := sz + 75) (q := sz + 73) (by omega) (by omega), cup_same]
      rw [h4]
      exact h3
    · simp only [und, cup, h2, if_false]
      exact id
theorem pX8_h {cy : Nat → ClassId} {h sz : Nat} (hh : h < sz) : ∃ vs, pX8 cy h sz h = some (.inr (8, vs)) := ⟨_, cup_same _ _ _⟩

/-! ===== constructors: an object and its arrays ===== -/
def ai (cy : Nat → ClassId) (n : Nat) : va_E := .inl (cy 0, n, .inl (fun _ => 0))
def al (cy : Nat → ClassId) (n : Nat) : va_E := .inl (cy 1, n, .inr (.inl (fun _ => 0)))
def az (cy : Nat → ClassId) (n : Nat) : va_E := .inl (cy 2, n, .inl (fun _ => 0))
def fz (n : Nat) (z : Int) : Nat → Int32 := fun p => if p < n then Int32.ofInt z else 0
def af (cy : Nat → ClassId) (N n : Nat) (z : Int) : va_E := .inl (cy 0, N, .inl (fz n z))
theorem wk_new {R : CM} {h z : Nat} {fo ar : va_E} (hh : h < z) : ∀ (x : Nat) (e : va_E), cup (cup R z ar) h fo x = some e → cup (cup R h fo) z ar x = some e := by
  intro x e
  simp only [cup]
  by_cases h1 : x = h
  · have h2 : x ≠ z := by omega
    simp [h1, show h ≠ z by omega]
  · simp [h1]
theorem wk_put {R : CM} {h : Nat} {fo fo2 : va_E} : ∀ (x : Nat) (e : va_E), cup R h fo2 x = some e → cup (cup R h fo) h fo2 x = some e := by
  intro x e
  simp only [cup]
  by_cases h1 : x = h <;> simp [h1]
theorem wk_ast {R : CM} {h z : Nat} {fo ar ar2 : va_E} (hh : h < z) : ∀ (x : Nat) (e : va_E), cup (cup R z ar2) h fo x = some e → cup (cup (cup R z ar) h fo) z ar2 x = some e := by
  intro x e
  simp only [cup]
  by_cases h1 : x = h
  · simp [h1, show h ≠ z by omega]
  · by_cases h2 : x = z <;> simp [h1, h2, show z ≠ h by omega]
theorem und_one (C : CM) (z : Nat) (ar : va_E) : und C (cup cem z ar) = cup C z ar := by
  funext x
  by_cases h : x = z <;> simp [und, cup, cem, h]
section CONO
variable {D : va_G} {cy : Nat → ClassId} {A : Nat → Prop} {E : Fx} {cc : ByteArray} {own : String} {nL d mc ms kc ks pc pc2 tg : Nat} {L : List (Option Value)} {st : List Value} {C R : CM} {sz h ci : Nat} {fs : List Value}
theorem JM_pf (X : OkC D cy A E cc own nL d mc ms) (hI : nmI E) {ix j : Nat} {t : FieldType} {v : Value} {fs2 : List Value} (q : Ins cc pc 3 pc2 (.putfield ix)) (hf : FLc own ix ci j t) (hn : narrow t v = v) (hfit : fits t v = true) (hlen : j < fs.length) (hA : A h) (hs : fs.set j v = fs2) (k : JM D A E kc ks pc2 L st (cup R h (.inr (ci, fs2))) sz) : JM D A E kc ks pc L (v :: .ref h :: st) (cup R h (.inr (ci, fs))) sz := by
  subst hs
  exact JM_put X hI q hf hn hfit (cup_same _ _ _) hlen hA (JM_weak wk_put k)
theorem JM_ni (X : OkC D cy A E cc own nL d mc ms) {x : Int} {fo : va_E} (N : Nat) {kc2 ks2 sz2 : Nat} (hh : h < sz) (q : Ins cc pc 2 pc2 (.newarray .int)) (hN : (N : Int) = x) (hn : N ≤ 1000) (hk1 : kc + 1 = kc2) (hk2 : ks + N = ks2) (hz : sz + 1 = sz2) (hm1 : kc2 ≤ mc) (hm2 : ks2 ≤ ms) (k : JM D A E kc2 ks2 pc2 L (.ref sz :: st) (cup (cup R sz (ai cy N)) h fo) sz2) : JM D A E kc ks pc L (vi x :: st) (cup R h fo) sz := by
  subst hk1; subst hk2; subst hz
  exact JM_newa X (N := N) 0 (.inl (fun _ => 0)) q rfl (Or.inl rfl) rfl (fun _ => rfl) hN hn hm1 hm2 (JM_weak (wk_new hh) k)
theorem JM_nl (X : OkC D cy A E cc own nL d mc ms) {x : Int} {fo : va_E} (N : Nat) {kc2 ks2 sz2 : Nat} (hh : h < sz) (q : Ins cc pc 2 pc2 (.newarray .long)) (hN : (N : Int) = x) (hn : N ≤ 1000) (hk1 : kc + 1 = kc2) (hk2 : ks + N = ks2) (hz : sz + 1 = sz2) (hm1 : kc2 ≤ mc) (hm2 : ks2 ≤ ms) (k : JM D A E kc2 ks2 pc2 L (.ref sz :: st) (cup (cup R sz (al cy N)) h fo) sz2) : JM D A E kc ks pc L (vi x :: st) (cup R h fo) sz := by
  subst hk1; subst hk2; subst hz
  exact JM_newa X (N := N) 1 (.inr (.inl (fun _ => 0))) q rfl (Or.inr (Or.inl rfl)) rfl (fun _ => rfl) hN hn hm1 hm2 (JM_weak (wk_new hh) k)
theorem JM_nz (X : OkC D cy A E cc own nL d mc ms) {x : Int} {fo : va_E} (N : Nat) {kc2 ks2 sz2 : Nat} (hh : h < sz) (q : Ins cc pc 2 pc2 (.newarray .boolean)) (hN : (N : Int) = x) (hn : N ≤ 1000) (hk1 : kc + 1 = kc2) (hk2 : ks + N = ks2) (hz : sz + 1 = sz2) (hm1 : kc2 ≤ mc) (hm2 : ks2 ≤ ms) (k : JM D A E kc2 ks2 pc2 L (.ref sz :: st) (cup (cup R sz (az cy N)) h fo) sz2) : JM D A E kc ks pc L (vi x :: st) (cup R h fo) sz := by
  subst hk1; subst hk2; subst hz
  exact JM_newa X (N := N) 2 (.inl (fun _ => 0)) q rfl (Or.inr (Or.inr rfl)) rfl (fun _ => rfl) hN hn hm1 hm2 (JM_weak (wk_new hh) k)
theorem ai_af (cy : Nat → ClassId) (N : Nat) (z : Int) : ai cy N = af cy N 0 z := by
  have : (fun _ : Nat => (0 : Int32)) = fz 0 z := by funext p; simp [fz]
  simp only [ai, af, this]
theorem fz_up (n : Nat) (z : Int) : (fun p => if p = n then Int32.ofInt z else fz n z p) = fz (n + 1) z := by
  funext p
  simp only [fz]
  by_cases h1 : p = n
  · simp [h1]
  · by_cases h2 : p < n
    · simp [h1, h2, show p < n + 1 by omega]
    · simp [h1, h2, show ¬ p < n + 1 by omega]
theorem JM_fl (X : OkC D cy A E cc own nL d mc ms) {z x : Int} {a n N : Nat} {fo : va_E} (hh : h < a) (q : Ins cc pc 1 pc2 (.iastore)) (hx : x = (n : Int)) (h2 : n < N) (hn : N ≤ 1000) (hA : A a) (k : JM D A E kc ks pc2 L st (cup (cup R a (af cy N (n + 1) z)) h fo) sz) : JM D A E kc ks pc L (vi z :: vi x :: .ref a :: st) (cup (cup R a (af cy N n z)) h fo) sz := by
  subst hx
  refine JM_iast X q (N := N) (f := fz n z) (by rw [cup_ne (by omega), cup_same]; rfl) (by omega) (by omega) (by omega) hA (JM_weak (wk_ast hh) ?_)
  rw [Int.toNat_natCast, fz_up]
  exact k
theorem JM_f0 (X : OkC D cy A E cc own nL d mc ms) {z x : Int} {a N : Nat} {fo : va_E} (hh : h < a) (q : Ins cc pc 1 pc2 (.iastore)) (hx : x = 0) (h2 : 0 < N) (hn : N ≤ 1000) (hA : A a) (k : JM D A E kc ks pc2 L st (cup (cup R a (af cy N 1 z)) h fo) sz) : JM D A E kc ks pc L (vi z :: vi x :: .ref a :: st) (cup (cup R a (ai cy N)) h fo) sz := by
  rw [ai_af cy N z]
  exact JM_fl X (n := 0) hh q hx h2 hn hA k
theorem JM_callS (X : OkC D cy A E cc own nL d mc ms) {ix h0 mL d0 mc0 ms0 n : Nat} {y : MethodName} {bytes : ByteArray} {pre post : CM} {as : List Value} (q : Ins cc pc 3 pc2 (.invokestatic ix)) (hm : MLk own ix y bytes mL none n) (hin : MSt y) (hn : as.length = n) (hd : d0 < d) (hL : L.length = nL) (hst : (st.map fun v => v.category).sum ≤ 8) (hA : A h0) (hk1 : kc + mc0 ≤ mc) (hk2 : ks + ms0 ≤ ms)
    (hc : CtI (lau E) D cy d0 mc0 ms0 y bytes mL as h0 sz pre post) (hpre : ∀ (a : Nat) (e : va_E), pre a = some e → C a = some e) (hp0 : ∀ e, C h0 = some e → post h0 ≠ none) (k : JM D A E (kc + mc0) (ks + ms0) pc2 L st (und C post) (sz + mc0)) : JM D A E kc ks pc L (as.reverse ++ st) C sz := by
  obtain ⟨p, l, e, R, s, m, args, below, meth, c, cells, slots, Q⟩ := E
  obtain ⟨hx, hb, hml, hown, hK, hR, hce, hsl⟩ := X
  obtain ⟨q1, rfl⟩ := q
  obtain ⟨hcode, hlk, hini, hd2, hmL⟩ := hm
  intro H locs ls hw hs hl
  have hts : ∀ w ∈ lw_k, w.before args s = true := fun w h => hK.wk h args
  have hpre2 : PreS s H (va_Pc as (fun U => Kc D cy U ∧ CH D pre sz U.heap)) as := ⟨blindI, fun U hU hW => ⟨rfl, hK.moved hW, by rw [hU]; exact ⟨hw.1, fun a e h => hw.2 a e (hpre a e h)⟩⟩⟩
  have hRm : (rmI d0 mc0 ms0).frames + 1 ≤ R.frames ∧ 8 + (mL + 11) + (rmI d0 mc0 ms0).locals ≤ R.locals := by
    simp only [rmI]
    omega
  have hsz : (F0 m pc ls (as.reverse ++ st)).locals.size = nL := by show ls.size = nL; rw [hl.1, hL]
  rcases hlk with hlk | ⟨host, hlk⟩
  · exact JM_back (va_runS (As := as) (rest := st) ⟨hx, hb, hml, hown, hts⟩ hc ⟨callB_of n hts (good1 hcode) rfl rfl rfl (hts _ hini) (hts _ hlk) hd2 hRm, hts _ hin⟩ hpre2 rfl hn hsz rfl (lv_room hst) q1 ⟨by omega, by omega⟩) hs hl hw hA hsl hp0 k
  · exact JM_back (va_runSN (As := as) (rest := st) ⟨hx, hb, hml, hown, hts⟩ hc ⟨va_cnB n hts (good1 hcode) rfl rfl rfl (va_Nw.of rfl (hts _ hlk)) (hts _ hini) hd2 hRm, hts _ hin, trivial⟩ hpre2 rfl hn hsz rfl (lv_room hst) q1 ⟨by omega, by omega⟩) hs hl hw hA hsl hp0 k
end CONO
theorem lp_cfill (l : Launch) (D : va_G) (cy : Nat → ClassId) (a sz N : Nat) (z : Int) (hN : N ≤ 1000) (E : Fx) (X : OkI l D cy E cJ7_fill_53178 RJ7 4 1 0 0 a sz (cup cem a (af cy N N z))) : ∀ n i : Nat, i ≤ N → N < i + n → JM D (Af a sz) E 0 0 5 [some (.ref a), some (vi z), some (vi (i : Int)), some (vi (N : Int))] [] (cup cem a (af cy N i z)) sz
  | 0, i, h1, h2 => by omega
  | n + 1, i, h1, h2 => by
    refine JM_iload_2 X.1 qJ7_fill_53178_5 ?_
    refine JM_iload_3 X.1 qJ7_fill_53178_6 ?_
    refine JM_icmp_ge X.1 qJ7_fill_53178_7 (by omega) (by omega) (by omega) (by omega) (fun h => ?_) (fun h => ?_)
    · have e : i = N := by omega
      subst e
      exact JM_vret X qJ7_fill_53178_20 rfl (fun a e h => h)
    · refine JM_aload_0 X.1 qJ7_fill_53178_10 ?_
      refine JM_iload_2 X.1 qJ7_fill_53178_11 ?_
      refine JM_iload_1 X.1 qJ7_fill_53178_12 ?_
      refine JM_iast X.1 qJ7_fill_53178_13 (N := N) (f := fz i z) (by rw [cup_same]; rfl) (by omega) (by omega) (by omega) (Or.inl rfl) (JM_weak wk_put ?_)
      rw [Int.toNat_natCast, fz_up]
      refine JM_iinc_2 X.1 qJ7_fill_53178_14 rfl ?_
      refine JM_goto X.1 qJ7_fill_53178_17 ?_
      exact lp_cfill l D cy a sz N z hN E X n (i + 1) (by omega) (by omega)
theorem c_fill (l : Launch) (D : va_G) (cy : Nat → ClassId) (a sz N : Nat) (z : Int) (hN : N ≤ 1000) : CtI l D cy 1 0 0 yJ7_fill_53178 cJ7_fill_53178 4 [.ref a, vi z] a sz (cup cem a (ai cy N)) (cup cem a (af cy N N z)) := by
  refine CtI.of (L := [some (.ref a), some (vi z), none, none]) (by decide +kernel) (Nat.le_of_ble_eq_true rfl) rfl ?_
  intro E X _ _
  refine JM_iconst X.1 qJ7_fill_53178_0 ?_
  refine JM_istore_2 X.1 qJ7_fill_53178_1 rfl ?_
  refine JM_aload_0 X.1 qJ7_fill_53178_2 ?_
  refine JM_alen X.1 qJ7_fill_53178_3 (N := N) (f := fun _ => 0) (by rw [cup_same]; rfl) ?_
  refine JM_istore_3 X.1 qJ7_fill_53178_4 rfl ?_
  rw [ai_af cy N z]
  exact lp_cfill l D cy a sz N z hN E X (N + 1) 0 (by omega) (by omega)
def dX2 : List Value := [.null]
def pX2 (cy : Nat → ClassId) (h sz : Nat) : CM := cup (cup cem (sz) (al cy 10)) h (.inr (2, [.ref sz]))
theorem c_X2 (l : Launch) (D : va_G) (cy : Nat → ClassId) (h sz : Nat) (hh : h < sz) : CtI l D cy 1 1 10 yX2_init cX2_init 1 [.ref h] h sz (cup cem h (.inr (2, dX2))) (pX2 cy h sz) := by
  refine CtI.of (L := [some (.ref h)]) (by decide +kernel) (Nat.le_of_ble_eq_true rfl) rfl ?_
  intro E X hI hE
  replace hI := hI rfl
  unfold dX2
  refine JM_aload_0 X.1 qX2_init_0 ?_
  refine JM_oinit X.1 qX2_init_1 oX2 rfl (by decide) (by decide) ?_
  refine JM_aload_0 X.1 qX2_init_4 ?_
  refine JM_bipush X.1 qX2_init_5 (by decide) ?_
  refine JM_nl X.1 10 (kc2 := 1) (ks2 := 10) (sz2 := sz + 1) (by omega) qX2_init_7 rfl (by decide) rfl rfl rfl (by decide) (by decide) ?_
  refine JM_pf X.1 hI qX2_init_9 gX2_9 rfl rfl (Nat.le_of_ble_eq_true rfl) (Or.inl rfl) (fs2 := [.ref sz]) rfl ?_
  exact JM_vret X qX2_init_12 rfl (fun a e h => h)
def dX3 : List Value := [vi 0, vi 0, vi 0, vi 0, .null, .null, .null, .null, vi 0]
def pX3 (cy : Nat → ClassId) (h sz : Nat) : CM := cup (cup (cup (cup (cup cem (sz) (ai cy 3)) (sz + 1) (ai cy 3)) (sz + 2) (ai cy 3)) (sz + 3) (az cy 3)) h (.inr (3, [vi 0, vi 0, vi 0, vi 0, .ref sz, .ref (sz + 1), .ref (sz + 2), .ref (sz + 3), vi 0]))
theorem c_X3 (l : Launch) (D : va_G) (cy : Nat → ClassId) (h sz : Nat) (hh : h < sz) : CtI l D cy 1 4 12 yX3_init cX3_init 1 [.ref h] h sz (cup cem h (.inr (3, dX3))) (pX3 cy h sz) := by
  refine CtI.of (L := [some (.ref h)]) (by decide +kernel) (Nat.le_of_ble_eq_true rfl) rfl ?_
  intro E X hI hE
  replace hI := hI rfl
  unfold dX3
  refine JM_aload_0 X.1 qX3_init_0 ?_
  refine JM_oinit X.1 qX3_init_1 oX3 rfl (by decide) (by decide) ?_
  refine JM_aload_0 X.1 qX3_init_4 ?_
  refine JM_iconst X.1 qX3_init_5 ?_
  refine JM_pf X.1 hI qX3_init_6 gX3_9 (by decide) (by decide) (Nat.le_of_ble_eq_true rfl) (Or.inl rfl) (fs2 := [vi 0, vi 0, vi 0, vi 0, .null, .null, .null, .null, vi 0]) rfl ?_
  refine JM_aload_0 X.1 qX3_init_9 ?_
  refine JM_iconst X.1 qX3_init_10 ?_
  refine JM_pf X.1 hI qX3_init_11 gX3_15 (vp_nar_int _) rfl (Nat.le_of_ble_eq_true rfl) (Or.inl rfl) (fs2 := [vi 0, vi 0, vi 0, vi 0, .null, .null, .null, .null, vi 0]) rfl ?_
  refine JM_aload_0 X.1 qX3_init_14 ?_
  refine JM_iconst X.1 qX3_init_15 ?_
  refine JM_pf X.1 hI qX3_init_16 gX3_19 (vp_nar_int _) rfl (Nat.le_of_ble_eq_true rfl) (Or.inl rfl) (fs2 := [vi 0, vi 0, vi 0, vi 0, .null, .null, .null, .null, vi 0]) rfl ?_
  refine JM_aload_0 X.1 qX3_init_19 ?_
  refine JM_iconst X.1 qX3_init_20 ?_
  refine JM_pf X.1 hI qX3_init_21 gX3_22 (vp_nar_int _) rfl (Nat.le_of_ble_eq_true rfl) (Or.inl rfl) (fs2 := [vi 0, vi 0, vi 0, vi 0, .null, .null, .null, .null, vi 0]) rfl ?_
  refine JM_aload_0 X.1 qX3_init_24 ?_
  refine JM_iconst X.1 qX3_init_25 ?_
  refine JM_ni X.1 3 (kc2 := 1) (ks2 := 3) (sz2 := sz + 1) (by omega) qX3_init_26 rfl (by decide) rfl rfl rfl (by decide) (by decide) ?_
  refine JM_pf X.1 hI qX3_init_28 gX3_25 rfl rfl (Nat.le_of_ble_eq_true rfl) (Or.inl rfl) (fs2 := [vi 0, vi 0, vi 0, vi 0, .ref sz, .null, .null, .null, vi 0]) rfl ?_
  refine JM_aload_0 X.1 qX3_init_31 ?_
  refine JM_iconst X.1 qX3_init_32 ?_
  refine JM_ni X.1 3 (kc2 := 2) (ks2 := 6) (sz2 := sz + 2) (by omega) qX3_init_33 rfl (by decide) rfl rfl rfl (by decide) (by decide) ?_
  refine JM_pf X.1 hI qX3_init_35 gX3_29 rfl rfl (Nat.le_of_ble_eq_true rfl) (Or.inl rfl) (fs2 := [vi 0, vi 0, vi 0, vi 0, .ref sz, .ref (sz + 1), .null, .null, vi 0]) rfl ?_
  refine JM_aload_0 X.1 qX3_init_38 ?_
  refine JM_iconst X.1 qX3_init_39 ?_
  refine JM_ni X.1 3 (kc2 := 3) (ks2 := 9) (sz2 := sz + 3) (by omega) qX3_init_40 rfl (by decide) rfl rfl rfl (by decide) (by decide) ?_
  refine JM_pf X.1 hI qX3_init_42 gX3_32 rfl rfl (Nat.le_of_ble_eq_true rfl) (Or.inl rfl) (fs2 := [vi 0, vi 0, vi 0, vi 0, .ref sz, .ref (sz + 1), .ref (sz + 2), .null, vi 0]) rfl ?_
  refine JM_aload_0 X.1 qX3_init_45 ?_
  refine JM_iconst X.1 qX3_init_46 ?_
  refine JM_nz X.1 3 (kc2 := 4) (ks2 := 12) (sz2 := sz + 4) (by omega) qX3_init_47 rfl (by decide) rfl rfl rfl (by decide) (by decide) ?_
  refine JM_pf X.1 hI qX3_init_49 gX3_35 rfl rfl (Nat.le_of_ble_eq_true rfl) (Or.inl rfl) (fs2 := [vi 0, vi 0, vi 0, vi 0, .ref sz, .ref (sz + 1), .ref (sz + 2), .ref (sz + 3), vi 0]) rfl ?_
  refine JM_aload_0 X.1 qX3_init_52 ?_
  refine JM_iconst X.1 qX3_init_53 ?_
  refine JM_pf X.1 hI qX3_init_54 gX3_39 (vp_nar_int _) rfl (Nat.le_of_ble_eq_true rfl) (Or.inl rfl) (fs2 := [vi 0, vi 0, vi 0, vi 0, .ref sz, .ref (sz + 1), .ref (sz + 2), .ref (sz + 3), vi 0]) rfl ?_
  exact JM_vret X qX3_init_57 rfl (fun a e h => h)
def dX5 : List Value := [vi 0, vi 0, vi 0, vi 0, .null, .null, vi 0, vi 0, vi 0, .null, .null, vi 0, vi 0]
def pX5 (cy : Nat → ClassId) (h sz : Nat) : CM := cup (cup (cup (cup (cup cem (sz) (ai cy 10)) (sz + 1) (ai cy 10)) (sz + 2) (ai cy 8)) (sz + 3) (ai cy 8)) h (.inr (5, [vi 0, vi 0, vi 0, vi 0, .ref sz, .ref (sz + 1), vi (-1), vi (-1), vi (-1), .ref (sz + 2), .ref (sz + 3), vi 0, vi 0]))
theorem c_X5 (l : Launch) (D : va_G) (cy : Nat → ClassId) (h sz : Nat) (hh : h < sz) : CtI l D cy 1 4 36 yX5_init cX5_init 1 [.ref h] h sz (cup cem h (.inr (5, dX5))) (pX5 cy h sz) := by
  refine CtI.of (L := [some (.ref h)]) (by decide +kernel) (Nat.le_of_ble_eq_true rfl) rfl ?_
  intro E X hI hE
  replace hI := hI rfl
  unfold dX5
  refine JM_aload_0 X.1 qX5_init_0 ?_
  refine JM_oinit X.1 qX5_init_1 oX5 rfl (by decide) (by decide) ?_
  refine JM_aload_0 X.1 qX5_init_4 ?_
  refine JM_iconst X.1 qX5_init_5 ?_
  refine JM_pf X.1 hI qX5_init_6 gX5_9 (vp_nar_int _) rfl (Nat.le_of_ble_eq_true rfl) (Or.inl rfl) (fs2 := [vi 0, vi 0, vi 0, vi 0, .null, .null, vi 0, vi 0, vi 0, .null, .null, vi 0, vi 0]) rfl ?_
  refine JM_aload_0 X.1 qX5_init_9 ?_
  refine JM_iconst X.1 qX5_init_10 ?_
  refine JM_pf X.1 hI qX5_init_11 gX5_15 (vp_nar_int _) rfl (Nat.le_of_ble_eq_true rfl) (Or.inl rfl) (fs2 := [vi 0, vi 0, vi 0, vi 0, .null, .null, vi 0, vi 0, vi 0, .null, .null, vi 0, vi 0]) rfl ?_
  refine JM_aload_0 X.1 qX5_init_14 ?_
  refine JM_iconst X.1 qX5_init_15 ?_
  refine JM_pf X.1 hI qX5_init_16 gX5_18 (vp_nar_int _) rfl (Nat.le_of_ble_eq_true rfl) (Or.inl rfl) (fs2 := [vi 0, vi 0, vi 0, vi 0, .null, .null, vi 0, vi 0, vi 0, .null, .null, vi 0, vi 0]) rfl ?_
  refine JM_aload_0 X.1 qX5_init_19 ?_
  refine JM_iconst X.1 qX5_init_20 ?_
  refine JM_pf X.1 hI qX5_init_21 gX5_21 (vp_nar_int _) rfl (Nat.le_of_ble_eq_true rfl) (Or.inl rfl) (fs2 := [vi 0, vi 0, vi 0, vi 0, .null, .null, vi 0, vi 0, vi 0, .null, .null, vi 0, vi 0]) rfl ?_
  refine JM_aload_0 X.1 qX5_init_24 ?_
  refine JM_bipush X.1 qX5_init_25 (by decide) ?_
  refine JM_ni X.1 10 (kc2 := 1) (ks2 := 10) (sz2 := sz + 1) (by omega) qX5_init_27 rfl (by decide) rfl rfl rfl (by decide) (by decide) ?_
  refine JM_pf X.1 hI qX5_init_29 gX5_24 rfl rfl (Nat.le_of_ble_eq_true rfl) (Or.inl rfl) (fs2 := [vi 0, vi 0, vi 0, vi 0, .ref sz, .null, vi 0, vi 0, vi 0, .null, .null, vi 0, vi 0]) rfl ?_
  refine JM_aload_0 X.1 qX5_init_32 ?_
  refine JM_bipush X.1 qX5_init_33 (by decide) ?_
  refine JM_ni X.1 10 (kc2 := 2) (ks2 := 20) (sz2 := sz + 2) (by omega) qX5_init_35 rfl (by decide) rfl rfl rfl (by decide) (by decide) ?_
  refine JM_pf X.1 hI qX5_init_37 gX5_28 rfl rfl (Nat.le_of_ble_eq_true rfl) (Or.inl rfl) (fs2 := [vi 0, vi 0, vi 0, vi 0, .ref sz, .ref (sz + 1), vi 0, vi 0, vi 0, .null, .null, vi 0, vi 0]) rfl ?_
  refine JM_aload_0 X.1 qX5_init_40 ?_
  refine JM_iconst X.1 qX5_init_41 ?_
  refine JM_pf X.1 hI qX5_init_42 gX5_31 (vp_nar_int _) rfl (Nat.le_of_ble_eq_true rfl) (Or.inl rfl) (fs2 := [vi 0, vi 0, vi 0, vi 0, .ref sz, .ref (sz + 1), vi (-1), vi 0, vi 0, .null, .null, vi 0, vi 0]) rfl ?_
  refine JM_aload_0 X.1 qX5_init_45 ?_
  refine JM_iconst X.1 qX5_init_46 ?_
  refine JM_pf X.1 hI qX5_init_47 gX5_34 (vp_nar_int _) rfl (Nat.le_of_ble_eq_true rfl) (Or.inl rfl) (fs2 := [vi 0, vi 0, vi 0, vi 0, .ref sz, .ref (sz + 1), vi (-1), vi (-1), vi 0, .null, .null, vi 0, vi 0]) rfl ?_
  refine JM_aload_0 X.1 qX5_init_50 ?_
  refine JM_iconst X.1 qX5_init_51 ?_
  refine JM_pf X.1 hI qX5_init_52 gX5_37 (vp_nar_int _) rfl (Nat.le_of_ble_eq_true rfl) (Or.inl rfl) (fs2 := [vi 0, vi 0, vi 0, vi 0, .ref sz, .ref (sz + 1), vi (-1), vi (-1), vi (-1), .null, .null, vi 0, vi 0]) rfl ?_
  refine JM_aload_0 X.1 qX5_init_55 ?_
  refine JM_bipush X.1 qX5_init_56 (by decide) ?_
  refine JM_ni X.1 8 (kc2 := 3) (ks2 := 28) (sz2 := sz + 3) (by omega) qX5_init_58 rfl (by decide) rfl rfl rfl (by decide) (by decide) ?_
  refine JM_pf X.1 hI qX5_init_60 gX5_40 rfl rfl (Nat.le_of_ble_eq_true rfl) (Or.inl rfl) (fs2 := [vi 0, vi 0, vi 0, vi 0, .ref sz, .ref (sz + 1), vi (-1), vi (-1), vi (-1), .ref (sz + 2), .null, vi 0, vi 0]) rfl ?_
  refine JM_aload_0 X.1 qX5_init_63 ?_
  refine JM_bipush X.1 qX5_init_64 (by decide) ?_
  refine JM_ni X.1 8 (kc2 := 4) (ks2 := 36) (sz2 := sz + 4) (by omega) qX5_init_66 rfl (by decide) rfl rfl rfl (by decide) (by decide) ?_
  refine JM_pf X.1 hI qX5_init_68 gX5_43 rfl rfl (Nat.le_of_ble_eq_true rfl) (Or.inl rfl) (fs2 := [vi 0, vi 0, vi 0, vi 0, .ref sz, .ref (sz + 1), vi (-1), vi (-1), vi (-1), .ref (sz + 2), .ref (sz + 3), vi 0, vi 0]) rfl ?_
  refine JM_aload_0 X.1 qX5_init_71 ?_
  refine JM_iconst X.1 qX5_init_72 ?_
  refine JM_pf X.1 hI qX5_init_73 gX5_46 (vp_nar_int _) rfl (Nat.le_of_ble_eq_true rfl) (Or.inl rfl) (fs2 := [vi 0, vi 0, vi 0, vi 0, .ref sz, .ref (sz + 1), vi (-1), vi (-1), vi (-1), .ref (sz + 2), .ref (sz + 3), vi 0, vi 0]) rfl ?_
  refine JM_aload_0 X.1 qX5_init_76 ?_
  refine JM_iconst X.1 qX5_init_77 ?_
  refine JM_pf X.1 hI qX5_init_78 gX5_49 (vp_nar_int _) rfl (Nat.le_of_ble_eq_true rfl) (Or.inl rfl) (fs2 := [vi 0, vi 0, vi 0, vi 0, .ref sz, .ref (sz + 1), vi (-1), vi (-1), vi (-1), .ref (sz + 2), .ref (sz + 3), vi 0, vi 0]) rfl ?_
  exact JM_vret X qX5_init_81 rfl (fun a e h => h)
def dX6 : List Value := [.null, vi 0, vi 0, vi 0]
def pX6 (cy : Nat → ClassId) (h sz : Nat) : CM := cup (cup cem (sz) (ai cy 80)) h (.inr (6, [.ref sz, vi 0, vi 0, vi 0]))
theorem c_X6 (l : Launch) (D : va_G) (cy : Nat → ClassId) (h sz : Nat) (hh : h < sz) : CtI l D cy 1 1 80 yX6_init cX6_init 1 [.ref h] h sz (cup cem h (.inr (6, dX6))) (pX6 cy h sz) := by
  refine CtI.of (L := [some (.ref h)]) (by decide +kernel) (Nat.le_of_ble_eq_true rfl) rfl ?_
  intro E X hI hE
  replace hI := hI rfl
  unfold dX6
  refine JM_aload_0 X.1 qX6_init_0 ?_
  refine JM_oinit X.1 qX6_init_1 oX6 rfl (by decide) (by decide) ?_
  refine JM_aload_0 X.1 qX6_init_4 ?_
  refine JM_bipush X.1 qX6_init_5 (by decide) ?_
  refine JM_ni X.1 80 (kc2 := 1) (ks2 := 80) (sz2 := sz + 1) (by omega) qX6_init_7 rfl (by decide) rfl rfl rfl (by decide) (by decide) ?_
  refine JM_pf X.1 hI qX6_init_9 gX6_9 rfl rfl (Nat.le_of_ble_eq_true rfl) (Or.inl rfl) (fs2 := [.ref sz, vi 0, vi 0, vi 0]) rfl ?_
  refine JM_aload_0 X.1 qX6_init_12 ?_
  refine JM_iconst X.1 qX6_init_13 ?_
  refine JM_pf X.1 hI qX6_init_14 gX6_15 (vp_nar_int _) rfl (Nat.le_of_ble_eq_true rfl) (Or.inl rfl) (fs2 := [.ref sz, vi 0, vi 0, vi 0]) rfl ?_
  refine JM_aload_0 X.1 qX6_init_17 ?_
  refine JM_iconst X.1 qX6_init_18 ?_
  refine JM_pf X.1 hI qX6_init_19 gX6_19 (vp_nar_int _) rfl (Nat.le_of_ble_eq_true rfl) (Or.inl rfl) (fs2 := [.ref sz, vi 0, vi 0, vi 0]) rfl ?_
  refine JM_aload_0 X.1 qX6_init_22 ?_
  refine JM_iconst X.1 qX6_init_23 ?_
  refine JM_pf X.1 hI qX6_init_24 gX6_22 (vp_nar_int _) rfl (Nat.le_of_ble_eq_true rfl) (Or.inl rfl) (fs2 := [.ref sz, vi 0, vi 0, vi 0]) rfl ?_
  exact JM_vret X qX6_init_27 rfl (fun a e h => h)
def dX7 : List Value := [.null, .null, vi 0]
def pX7 (cy : Nat → ClassId) (h sz : Nat) : CM := cup (cup (cup cem (sz) (ai cy 4)) (sz + 1) (ai cy 4)) h (.inr (7, [.ref sz, .ref (sz + 1), vi 0]))
theorem c_X7 (l : Launch) (D : va_G) (cy : Nat → ClassId) (h sz : Nat) (hh : h < sz) : CtI l D cy 1 2 8 yX7_init cX7_init 1 [.ref h] h sz (cup cem h (.inr (7, dX7))) (pX7 cy h sz) := by
  refine CtI.of (L := [some (.ref h)]) (by decide +kernel) (Nat.le_of_ble_eq_true rfl) rfl ?_
  intro E X hI hE
  replace hI := hI rfl
  unfold dX7
  refine JM_aload_0 X.1 qX7_init_0 ?_
  refine JM_oinit X.1 qX7_init_1 oX7 rfl (by decide) (by decide) ?_
  refine JM_aload_0 X.1 qX7_init_4 ?_
  refine JM_iconst X.1 qX7_init_5 ?_
  refine JM_ni X.1 4 (kc2 := 1) (ks2 := 4) (sz2 := sz + 1) (by omega) qX7_init_6 rfl (by decide) rfl rfl rfl (by decide) (by decide) ?_
  refine JM_pf X.1 hI qX7_init_8 gX7_9 rfl rfl (Nat.le_of_ble_eq_true rfl) (Or.inl rfl) (fs2 := [.ref sz, .null, vi 0]) rfl ?_
  refine JM_aload_0 X.1 qX7_init_11 ?_
  refine JM_iconst X.1 qX7_init_12 ?_
  refine JM_ni X.1 4 (kc2 := 2) (ks2 := 8) (sz2 := sz + 2) (by omega) qX7_init_13 rfl (by decide) rfl rfl rfl (by decide) (by decide) ?_
  refine JM_pf X.1 hI qX7_init_15 gX7_15 rfl rfl (Nat.le_of_ble_eq_true rfl) (Or.inl rfl) (fs2 := [.ref sz, .ref (sz + 1), vi 0]) rfl ?_
  refine JM_aload_0 X.1 qX7_init_18 ?_
  refine JM_iconst X.1 qX7_init_19 ?_
  refine JM_pf X.1 hI qX7_init_20 gX7_18 (vp_nar_int _) rfl (Nat.le_of_ble_eq_true rfl) (Or.inl rfl) (fs2 := [.ref sz, .ref (sz + 1), vi 0]) rfl ?_
  exact JM_vret X qX7_init_23 rfl (fun a e h => h)
def dX1 : List Value := [.null, .null, .null, .null, .null, .null, vi 0, vi 0]
def pX1 (cy : Nat → ClassId) (h sz : Nat) : CM := cup (cup (cup (cup (cup (cup (cup (cup cem (sz) (ai cy 6)) (sz + 1) (ai cy 6)) (sz + 2) (ai cy 6)) (sz + 3) (ai cy 6)) (sz + 4) (ai cy 6)) (sz + 5) (ai cy 6)) h (.inr (1, [.ref sz, .ref (sz + 1), .ref (sz + 2), .ref (sz + 3), .ref (sz + 4), .ref (sz + 5), vi 0, vi 0]))) (sz) (af cy 6 6 1)
theorem c_X1 (l : Launch) (D : va_G) (cy : Nat → ClassId) (h sz : Nat) (hh : h < sz) : CtI l D cy 2 6 36 yX1_init cX1_init 1 [.ref h] h sz (cup cem h (.inr (1, dX1))) (pX1 cy h sz) := by
  refine CtI.of (L := [some (.ref h)]) (by decide +kernel) (Nat.le_of_ble_eq_true rfl) rfl ?_
  intro E X hI hE
  replace hI := hI rfl
  unfold dX1
  refine JM_aload_0 X.1 qX1_init_0 ?_
  refine JM_oinit X.1 qX1_init_1 oX1 rfl (by decide) (by decide) ?_
  refine JM_aload_0 X.1 qX1_init_4 ?_
  refine JM_bipush X.1 qX1_init_5 (by decide) ?_
  refine JM_ni X.1 6 (kc2 := 1) (ks2 := 6) (sz2 := sz + 1) (by omega) qX1_init_7 rfl (by decide) rfl rfl rfl (by decide) (by decide) ?_
  refine JM_pf X.1 hI qX1_init_9 gX1_9 rfl rfl (Nat.le_of_ble_eq_true rfl) (Or.inl rfl) (fs2 := [.ref sz, .null, .null, .null, .null, .null, vi 0, vi 0]) rfl ?_
  refine JM_aload_0 X.1 qX1_init_12 ?_
  refine JM_bipush X.1 qX1_init_13 (by decide) ?_
  refine JM_ni X.1 6 (kc2 := 2) (ks2 := 12) (sz2 := sz + 2) (by omega) qX1_init_15 rfl (by decide) rfl rfl rfl (by decide) (by decide) ?_
  refine JM_pf X.1 hI qX1_init_17 gX1_15 rfl rfl (Nat.le_of_ble_eq_true rfl) (Or.inl rfl) (fs2 := [.ref sz, .ref (sz + 1), .null, .null, .null, .null, vi 0, vi 0]) rfl ?_
  refine JM_aload_0 X.1 qX1_init_20 ?_
  refine JM_bipush X.1 qX1_init_21 (by decide) ?_
  refine JM_ni X.1 6 (kc2 := 3) (ks2 := 18) (sz2 := sz + 3) (by omega) qX1_init_23 rfl (by decide) rfl rfl rfl (by decide) (by decide) ?_
  refine JM_pf X.1 hI qX1_init_25 gX1_18 rfl rfl (Nat.le_of_ble_eq_true rfl) (Or.inl rfl) (fs2 := [.ref sz, .ref (sz + 1), .ref (sz + 2), .null, .null, .null, vi 0, vi 0]) rfl ?_
  refine JM_aload_0 X.1 qX1_init_28 ?_
  refine JM_bipush X.1 qX1_init_29 (by decide) ?_
  refine JM_ni X.1 6 (kc2 := 4) (ks2 := 24) (sz2 := sz + 4) (by omega) qX1_init_31 rfl (by decide) rfl rfl rfl (by decide) (by decide) ?_
  refine JM_pf X.1 hI qX1_init_33 gX1_21 rfl rfl (Nat.le_of_ble_eq_true rfl) (Or.inl rfl) (fs2 := [.ref sz, .ref (sz + 1), .ref (sz + 2), .ref (sz + 3), .null, .null, vi 0, vi 0]) rfl ?_
  refine JM_aload_0 X.1 qX1_init_36 ?_
  refine JM_bipush X.1 qX1_init_37 (by decide) ?_
  refine JM_ni X.1 6 (kc2 := 5) (ks2 := 30) (sz2 := sz + 5) (by omega) qX1_init_39 rfl (by decide) rfl rfl rfl (by decide) (by decide) ?_
  refine JM_pf X.1 hI qX1_init_41 gX1_24 rfl rfl (Nat.le_of_ble_eq_true rfl) (Or.inl rfl) (fs2 := [.ref sz, .ref (sz + 1), .ref (sz + 2), .ref (sz + 3), .ref (sz + 4), .null, vi 0, vi 0]) rfl ?_
  refine JM_aload_0 X.1 qX1_init_44 ?_
  refine JM_bipush X.1 qX1_init_45 (by decide) ?_
  refine JM_ni X.1 6 (kc2 := 6) (ks2 := 36) (sz2 := sz + 6) (by omega) qX1_init_47 rfl (by decide) rfl rfl rfl (by decide) (by decide) ?_
  refine JM_pf X.1 hI qX1_init_49 gX1_27 rfl rfl (Nat.le_of_ble_eq_true rfl) (Or.inl rfl) (fs2 := [.ref sz, .ref (sz + 1), .ref (sz + 2), .ref (sz + 3), .ref (sz + 4), .ref (sz + 5), vi 0, vi 0]) rfl ?_
  refine JM_aload_0 X.1 qX1_init_52 ?_
  refine JM_iconst X.1 qX1_init_53 ?_
  refine JM_pf X.1 hI qX1_init_54 gX1_30 (vp_nar_int _) rfl (Nat.le_of_ble_eq_true rfl) (Or.inl rfl) (fs2 := [.ref sz, .ref (sz + 1), .ref (sz + 2), .ref (sz + 3), .ref (sz + 4), .ref (sz + 5), vi 0, vi 0]) rfl ?_
  refine JM_aload_0 X.1 qX1_init_57 ?_
  refine JM_iconst X.1 qX1_init_58 ?_
  refine JM_pf X.1 hI qX1_init_59 gX1_34 (vp_nar_int _) rfl (Nat.le_of_ble_eq_true rfl) (Or.inl rfl) (fs2 := [.ref sz, .ref (sz + 1), .ref (sz + 2), .ref (sz + 3), .ref (sz + 4), .ref (sz + 5), vi 0, vi 0]) rfl ?_
  refine JM_aload_0 X.1 qX1_init_62 ?_
  refine JM_get X.1 qX1_init_63 gX1_9 (cup_same _ _ _) rfl ?_
  refine JM_iconst X.1 qX1_init_66 ?_
  refine JM_callS (as := [.ref sz, vi 1]) X.1 qX1_init_67 mX1_37 iyJ7_fill_53178 rfl (d0 := 1) (by decide) rfl (by decide) (Or.inr (by omega)) (by decide) (by decide) (hE ▸ c_fill l D cy (sz) (sz + 6) 6 1 (by decide)) ?_ ?_ ?_
  · intro b e hb
    by_cases h1 : b = sz
    · rw [h1] at hb ⊢
      rw [cup_same] at hb
      cases hb
      simp [cup, show (sz) ≠ h by omega]
    · rw [cup_ne h1] at hb
      cases hb
  · intro e _
    simp [cup]
  rw [und_one]
  exact JM_vret X qX1_init_70 rfl (fun a e h => h)
def dX9 : List Value := [.null, vi 0, vi 0, .null, .null, .null, .null, .null, .null, .null, .null, .null, .null, .null, .null, .null, .null, .null, .null, vi 0, .null, .null, vi 0, vi 0, vi 0, vi 0, .null, .null, .null, .null, vi 0, vi 0, .null, vi 0, vi 0, vi 0, .null, .null]
def pX9 (cy : Nat → ClassId) (h sz : Nat) : CM := cup (cup (cup (cup (cup (cup (cup (cup (cup (cup (cup (cup (cup (cup (cup (cup (cup (cup (cup (cup (cup (cup (cup (cup (cup (cup (cup cem (sz) (ai cy 9)) (sz + 1) (ai cy 14)) (sz + 2) (ai cy 14)) (sz + 3) (ai cy 14)) (sz + 4) (ai cy 14)) (sz + 5) (ai cy 280)) (sz + 6) (af cy 14 14 (-1))) (sz + 7) (ai cy 14)) (sz + 8) (ai cy 14)) (sz + 9) (ai cy 14)) (sz + 10) (ai cy 112)) (sz + 11) (ai cy 112)) (sz + 12) (ai cy 10)) (sz + 13) (ai cy 40)) (sz + 14) (ai cy 40)) (sz + 15) (al cy 10)) (sz + 16) (af cy 6 6 (1))) (sz + 17) (ai cy 170)) (sz + 18) (ai cy 80)) (sz + 19) (ai cy 6)) (sz + 20) (ai cy 6)) (sz + 21) (ai cy 6)) (sz + 22) (ai cy 6)) (sz + 23) (ai cy 14)) (sz + 24) (ai cy 10)) (sz + 25) (ai cy 10)) h (.inr (9, [.ref sz, vi 0, vi 0, .ref (sz + 1), .ref (sz + 2), .ref (sz + 3), .ref (sz + 4), .ref (sz + 5), .ref (sz + 6), .ref (sz + 7), .ref (sz + 8), .ref (sz + 9), .ref (sz + 10), .ref (sz + 11), .ref (sz + 12), .ref (sz + 13), .ref (sz + 14), .ref (sz + 15), .ref (sz + 16), vi 0, .ref (sz + 17), .ref (sz + 18), vi 0, vi 0, vi 0, vi 0, .ref (sz + 19), .ref (sz + 20), .ref (sz + 21), .ref (sz + 22), vi 0, vi 0, .ref (sz + 23), vi 0, vi 0, vi 0, .ref (sz + 24), .ref (sz + 25)]))
theorem c_X9 (l : Launch) (D : va_G) (cy : Nat → ClassId) (h sz : Nat) (hh : h < sz) : CtI l D cy 1 26 1039 yX9_init cX9_init 1 [.ref h] h sz (cup cem h (.inr (9, dX9))) (pX9 cy h sz) := by
  refine CtI.of (L := [some (.ref h)]) (by decide +kernel) (Nat.le_of_ble_eq_true rfl) rfl ?_
  intro E X hI hE
  replace hI := hI rfl
  unfold dX9
  refine JM_aload_0 X.1 qX9_init_0 ?_
  refine JM_oinit X.1 qX9_init_1 oX9 rfl (by decide) (by decide) ?_
  refine JM_aload_0 X.1 qX9_init_4 ?_
  refine JM_bipush X.1 qX9_init_5 (by decide) ?_
  refine JM_ni X.1 9 (kc2 := 1) (ks2 := 9) (sz2 := sz + 1) (by omega) qX9_init_7 rfl (by decide) rfl rfl rfl (by decide) (by decide) ?_
  refine JM_pf X.1 hI qX9_init_9 gX9_7 rfl rfl (Nat.le_of_ble_eq_true rfl) (Or.inl rfl) (fs2 := [.ref sz, vi 0, vi 0, .null, .null, .null, .null, .null, .null, .null, .null, .null, .null, .null, .null, .null, .null, .null, .null, vi 0, .null, .null, vi 0, vi 0, vi 0, vi 0, .null, .null, .null, .null, vi 0, vi 0, .null, vi 0, vi 0, vi 0, .null, .null]) rfl ?_
  refine JM_aload_0 X.1 qX9_init_12 ?_
  refine JM_bipush X.1 qX9_init_13 (by decide) ?_
  refine JM_ni X.1 14 (kc2 := 2) (ks2 := 23) (sz2 := sz + 2) (by omega) qX9_init_15 rfl (by decide) rfl rfl rfl (by decide) (by decide) ?_
  refine JM_pf X.1 hI qX9_init_17 gX9_13 rfl rfl (Nat.le_of_ble_eq_true rfl) (Or.inl rfl) (fs2 := [.ref sz, vi 0, vi 0, .ref (sz + 1), .null, .null, .null, .null, .null, .null, .null, .null, .null, .null, .null, .null, .null, .null, .null, vi 0, .null, .null, vi 0, vi 0, vi 0, vi 0, .null, .null, .null, .null, vi 0, vi 0, .null, vi 0, vi 0, vi 0, .null, .null]) rfl ?_
  refine JM_aload_0 X.1 qX9_init_20 ?_
  refine JM_bipush X.1 qX9_init_21 (by decide) ?_
  refine JM_ni X.1 14 (kc2 := 3) (ks2 := 37) (sz2 := sz + 3) (by omega) qX9_init_23 rfl (by decide) rfl rfl rfl (by decide) (by decide) ?_
  refine JM_pf X.1 hI qX9_init_25 gX9_16 rfl rfl (Nat.le_of_ble_eq_true rfl) (Or.inl rfl) (fs2 := [.ref sz, vi 0, vi 0, .ref (sz + 1), .ref (sz + 2), .null, .null, .null, .null, .null, .null, .null, .null, .null, .null, .null, .null, .null, .null, vi 0, .null, .null, vi 0, vi 0, vi 0, vi 0, .null, .null, .null, .null, vi 0, vi 0, .null, vi 0, vi 0, vi 0, .null, .null]) rfl ?_
  refine JM_aload_0 X.1 qX9_init_28 ?_
  refine JM_bipush X.1 qX9_init_29 (by decide) ?_
  refine JM_ni X.1 14 (kc2 := 4) (ks2 := 51) (sz2 := sz + 4) (by omega) qX9_init_31 rfl (by decide) rfl rfl rfl (by decide) (by decide) ?_
  refine JM_pf X.1 hI qX9_init_33 gX9_19 rfl rfl (Nat.le_of_ble_eq_true rfl) (Or.inl rfl) (fs2 := [.ref sz, vi 0, vi 0, .ref (sz + 1), .ref (sz + 2), .ref (sz + 3), .null, .null, .null, .null, .null, .null, .null, .null, .null, .null, .null, .null, .null, vi 0, .null, .null, vi 0, vi 0, vi 0, vi 0, .null, .null, .null, .null, vi 0, vi 0, .null, vi 0, vi 0, vi 0, .null, .null]) rfl ?_
  refine JM_aload_0 X.1 qX9_init_36 ?_
  refine JM_bipush X.1 qX9_init_37 (by decide) ?_
  refine JM_ni X.1 14 (kc2 := 5) (ks2 := 65) (sz2 := sz + 5) (by omega) qX9_init_39 rfl (by decide) rfl rfl rfl (by decide) (by decide) ?_
  refine JM_pf X.1 hI qX9_init_41 gX9_22 rfl rfl (Nat.le_of_ble_eq_true rfl) (Or.inl rfl) (fs2 := [.ref sz, vi 0, vi 0, .ref (sz + 1), .ref (sz + 2), .ref (sz + 3), .ref (sz + 4), .null, .null, .null, .null, .null, .null, .null, .null, .null, .null, .null, .null, vi 0, .null, .null, vi 0, vi 0, vi 0, vi 0, .null, .null, .null, .null, vi 0, vi 0, .null, vi 0, vi 0, vi 0, .null, .null]) rfl ?_
  refine JM_aload_0 X.1 qX9_init_44 ?_
  refine JM_sipush X.1 qX9_init_45 (by decide) ?_
  refine JM_ni X.1 280 (kc2 := 6) (ks2 := 345) (sz2 := sz + 6) (by omega) qX9_init_48 rfl (by decide) rfl rfl rfl (by decide) (by decide) ?_
  refine JM_pf X.1 hI qX9_init_50 gX9_25 rfl rfl (Nat.le_of_ble_eq_true rfl) (Or.inl rfl) (fs2 := [.ref sz, vi 0, vi 0, .ref (sz + 1), .ref (sz + 2), .ref (sz + 3), .ref (sz + 4), .ref (sz + 5), .null, .null, .null, .null, .null, .null, .null, .null, .null, .null, .null, vi 0, .null, .null, vi 0, vi 0, vi 0, vi 0, .null, .null, .null, .null, vi 0, vi 0, .null, vi 0, vi 0, vi 0, .null, .null]) rfl ?_
  refine JM_aload_0 X.1 qX9_init_53 ?_
  refine JM_bipush X.1 qX9_init_54 (by decide) ?_
  refine JM_ni X.1 14 (kc2 := 7) (ks2 := 359) (sz2 := sz + 7) (by omega) qX9_init_56 rfl (by decide) rfl rfl rfl (by decide) (by decide) ?_
  refine JM_dup X.1 qX9_init_58 rfl ?_
  refine JM_iconst X.1 qX9_init_59 ?_
  refine JM_iconst X.1 qX9_init_60 ?_
  refine JM_f0 X.1 (N := 14) (by omega) qX9_init_61 rfl (by decide) (by decide) (Or.inr (by omega)) ?_
  refine JM_dup X.1 qX9_init_62 rfl ?_
  refine JM_iconst X.1 qX9_init_63 ?_
  refine JM_iconst X.1 qX9_init_64 ?_
  refine JM_fl X.1 (n := 1) (N := 14) (by omega) qX9_init_65 rfl (by decide) (by decide) (Or.inr (by omega)) ?_
  refine JM_dup X.1 qX9_init_66 rfl ?_
  refine JM_iconst X.1 qX9_init_67 ?_
  refine JM_iconst X.1 qX9_init_68 ?_
  refine JM_fl X.1 (n := 2) (N := 14) (by omega) qX9_init_69 rfl (by decide) (by decide) (Or.inr (by omega)) ?_
  refine JM_dup X.1 qX9_init_70 rfl ?_
  refine JM_iconst X.1 qX9_init_71 ?_
  refine JM_iconst X.1 qX9_init_72 ?_
  refine JM_fl X.1 (n := 3) (N := 14) (by omega) qX9_init_73 rfl (by decide) (by decide) (Or.inr (by omega)) ?_
  refine JM_dup X.1 qX9_init_74 rfl ?_
  refine JM_iconst X.1 qX9_init_75 ?_
  refine JM_iconst X.1 qX9_init_76 ?_
  refine JM_fl X.1 (n := 4) (N := 14) (by omega) qX9_init_77 rfl (by decide) (by decide) (Or.inr (by omega)) ?_
  refine JM_dup X.1 qX9_init_78 rfl ?_
  refine JM_iconst X.1 qX9_init_79 ?_
  refine JM_iconst X.1 qX9_init_80 ?_
  refine JM_fl X.1 (n := 5) (N := 14) (by omega) qX9_init_81 rfl (by decide) (by decide) (Or.inr (by omega)) ?_
  refine JM_dup X.1 qX9_init_82 rfl ?_
  refine JM_bipush X.1 qX9_init_83 (by decide) ?_
  refine JM_iconst X.1 qX9_init_85 ?_
  refine JM_fl X.1 (n := 6) (N := 14) (by omega) qX9_init_86 rfl (by decide) (by decide) (Or.inr (by omega)) ?_
  refine JM_dup X.1 qX9_init_87 rfl ?_
  refine JM_bipush X.1 qX9_init_88 (by decide) ?_
  refine JM_iconst X.1 qX9_init_90 ?_
  refine JM_fl X.1 (n := 7) (N := 14) (by omega) qX9_init_91 rfl (by decide) (by decide) (Or.inr (by omega)) ?_
  refine JM_dup X.1 qX9_init_92 rfl ?_
  refine JM_bipush X.1 qX9_init_93 (by decide) ?_
  refine JM_iconst X.1 qX9_init_95 ?_
  refine JM_fl X.1 (n := 8) (N := 14) (by omega) qX9_init_96 rfl (by decide) (by decide) (Or.inr (by omega)) ?_
  refine JM_dup X.1 qX9_init_97 rfl ?_
  refine JM_bipush X.1 qX9_init_98 (by decide) ?_
  refine JM_iconst X.1 qX9_init_100 ?_
  refine JM_fl X.1 (n := 9) (N := 14) (by omega) qX9_init_101 rfl (by decide) (by decide) (Or.inr (by omega)) ?_
  refine JM_dup X.1 qX9_init_102 rfl ?_
  refine JM_bipush X.1 qX9_init_103 (by decide) ?_
  refine JM_iconst X.1 qX9_init_105 ?_
  refine JM_fl X.1 (n := 10) (N := 14) (by omega) qX9_init_106 rfl (by decide) (by decide) (Or.inr (by omega)) ?_
  refine JM_dup X.1 qX9_init_107 rfl ?_
  refine JM_bipush X.1 qX9_init_108 (by decide) ?_
  refine JM_iconst X.1 qX9_init_110 ?_
  refine JM_fl X.1 (n := 11) (N := 14) (by omega) qX9_init_111 rfl (by decide) (by decide) (Or.inr (by omega)) ?_
  refine JM_dup X.1 qX9_init_112 rfl ?_
  refine JM_bipush X.1 qX9_init_113 (by decide) ?_
  refine JM_iconst X.1 qX9_init_115 ?_
  refine JM_fl X.1 (n := 12) (N := 14) (by omega) qX9_init_116 rfl (by decide) (by decide) (Or.inr (by omega)) ?_
  refine JM_dup X.1 qX9_init_117 rfl ?_
  refine JM_bipush X.1 qX9_init_118 (by decide) ?_
  refine JM_iconst X.1 qX9_init_120 ?_
  refine JM_fl X.1 (n := 13) (N := 14) (by omega) qX9_init_121 rfl (by decide) (by decide) (Or.inr (by omega)) ?_
  refine JM_pf X.1 hI qX9_init_122 gX9_28 rfl rfl (Nat.le_of_ble_eq_true rfl) (Or.inl rfl) (fs2 := [.ref sz, vi 0, vi 0, .ref (sz + 1), .ref (sz + 2), .ref (sz + 3), .ref (sz + 4), .ref (sz + 5), .ref (sz + 6), .null, .null, .null, .null, .null, .null, .null, .null, .null, .null, vi 0, .null, .null, vi 0, vi 0, vi 0, vi 0, .null, .null, .null, .null, vi 0, vi 0, .null, vi 0, vi 0, vi 0, .null, .null]) rfl ?_
  refine JM_aload_0 X.1 qX9_init_125 ?_
  refine JM_bipush X.1 qX9_init_126 (by decide) ?_
  refine JM_ni X.1 14 (kc2 := 8) (ks2 := 373) (sz2 := sz + 8) (by omega) qX9_init_128 rfl (by decide) rfl rfl rfl (by decide) (by decide) ?_
  refine JM_pf X.1 hI qX9_init_130 gX9_31 rfl rfl (Nat.le_of_ble_eq_true rfl) (Or.inl rfl) (fs2 := [.ref sz, vi 0, vi 0, .ref (sz + 1), .ref (sz + 2), .ref (sz + 3), .ref (sz + 4), .ref (sz + 5), .ref (sz + 6), .ref (sz + 7), .null, .null, .null, .null, .null, .null, .null, .null, .null, vi 0, .null, .null, vi 0, vi 0, vi 0, vi 0, .null, .null, .null, .null, vi 0, vi 0, .null, vi 0, vi 0, vi 0, .null, .null]) rfl ?_
  refine JM_aload_0 X.1 qX9_init_133 ?_
  refine JM_bipush X.1 qX9_init_134 (by decide) ?_
  refine JM_ni X.1 14 (kc2 := 9) (ks2 := 387) (sz2 := sz + 9) (by omega) qX9_init_136 rfl (by decide) rfl rfl rfl (by decide) (by decide) ?_
  refine JM_pf X.1 hI qX9_init_138 gX9_34 rfl rfl (Nat.le_of_ble_eq_true rfl) (Or.inl rfl) (fs2 := [.ref sz, vi 0, vi 0, .ref (sz + 1), .ref (sz + 2), .ref (sz + 3), .ref (sz + 4), .ref (sz + 5), .ref (sz + 6), .ref (sz + 7), .ref (sz + 8), .null, .null, .null, .null, .null, .null, .null, .null, vi 0, .null, .null, vi 0, vi 0, vi 0, vi 0, .null, .null, .null, .null, vi 0, vi 0, .null, vi 0, vi 0, vi 0, .null, .null]) rfl ?_
  refine JM_aload_0 X.1 qX9_init_141 ?_
  refine JM_bipush X.1 qX9_init_142 (by decide) ?_
  refine JM_ni X.1 14 (kc2 := 10) (ks2 := 401) (sz2 := sz + 10) (by omega) qX9_init_144 rfl (by decide) rfl rfl rfl (by decide) (by decide) ?_
  refine JM_pf X.1 hI qX9_init_146 gX9_37 rfl rfl (Nat.le_of_ble_eq_true rfl) (Or.inl rfl) (fs2 := [.ref sz, vi 0, vi 0, .ref (sz + 1), .ref (sz + 2), .ref (sz + 3), .ref (sz + 4), .ref (sz + 5), .ref (sz + 6), .ref (sz + 7), .ref (sz + 8), .ref (sz + 9), .null, .null, .null, .null, .null, .null, .null, vi 0, .null, .null, vi 0, vi 0, vi 0, vi 0, .null, .null, .null, .null, vi 0, vi 0, .null, vi 0, vi 0, vi 0, .null, .null]) rfl ?_
  refine JM_aload_0 X.1 qX9_init_149 ?_
  refine JM_bipush X.1 qX9_init_150 (by decide) ?_
  refine JM_ni X.1 112 (kc2 := 11) (ks2 := 513) (sz2 := sz + 11) (by omega) qX9_init_152 rfl (by decide) rfl rfl rfl (by decide) (by decide) ?_
  refine JM_pf X.1 hI qX9_init_154 gX9_40 rfl rfl (Nat.le_of_ble_eq_true rfl) (Or.inl rfl) (fs2 := [.ref sz, vi 0, vi 0, .ref (sz + 1), .ref (sz + 2), .ref (sz + 3), .ref (sz + 4), .ref (sz + 5), .ref (sz + 6), .ref (sz + 7), .ref (sz + 8), .ref (sz + 9), .ref (sz + 10), .null, .null, .null, .null, .null, .null, vi 0, .null, .null, vi 0, vi 0, vi 0, vi 0, .null, .null, .null, .null, vi 0, vi 0, .null, vi 0, vi 0, vi 0, .null, .null]) rfl ?_
  refine JM_aload_0 X.1 qX9_init_157 ?_
  refine JM_bipush X.1 qX9_init_158 (by decide) ?_
  refine JM_ni X.1 112 (kc2 := 12) (ks2 := 625) (sz2 := sz + 12) (by omega) qX9_init_160 rfl (by decide) rfl rfl rfl (by decide) (by decide) ?_
  refine JM_pf X.1 hI qX9_init_162 gX9_43 rfl rfl (Nat.le_of_ble_eq_true rfl) (Or.inl rfl) (fs2 := [.ref sz, vi 0, vi 0, .ref (sz + 1), .ref (sz + 2), .ref (sz + 3), .ref (sz + 4), .ref (sz + 5), .ref (sz + 6), .ref (sz + 7), .ref (sz + 8), .ref (sz + 9), .ref (sz + 10), .ref (sz + 11), .null, .null, .null, .null, .null, vi 0, .null, .null, vi 0, vi 0, vi 0, vi 0, .null, .null, .null, .null, vi 0, vi 0, .null, vi 0, vi 0, vi 0, .null, .null]) rfl ?_
  refine JM_aload_0 X.1 qX9_init_165 ?_
  refine JM_bipush X.1 qX9_init_166 (by decide) ?_
  refine JM_ni X.1 10 (kc2 := 13) (ks2 := 635) (sz2 := sz + 13) (by omega) qX9_init_168 rfl (by decide) rfl rfl rfl (by decide) (by decide) ?_
  refine JM_pf X.1 hI qX9_init_170 gX9_46 rfl rfl (Nat.le_of_ble_eq_true rfl) (Or.inl rfl) (fs2 := [.ref sz, vi 0, vi 0, .ref (sz + 1), .ref (sz + 2), .ref (sz + 3), .ref (sz + 4), .ref (sz + 5), .ref (sz + 6), .ref (sz + 7), .ref (sz + 8), .ref (sz + 9), .ref (sz + 10), .ref (sz + 11), .ref (sz + 12), .null, .null, .null, .null, vi 0, .null, .null, vi 0, vi 0, vi 0, vi 0, .null, .null, .null, .null, vi 0, vi 0, .null, vi 0, vi 0, vi 0, .null, .null]) rfl ?_
  refine JM_aload_0 X.1 qX9_init_173 ?_
  refine JM_bipush X.1 qX9_init_174 (by decide) ?_
  refine JM_ni X.1 40 (kc2 := 14) (ks2 := 675) (sz2 := sz + 14) (by omega) qX9_init_176 rfl (by decide) rfl rfl rfl (by decide) (by decide) ?_
  refine JM_pf X.1 hI qX9_init_178 gX9_49 rfl rfl (Nat.le_of_ble_eq_true rfl) (Or.inl rfl) (fs2 := [.ref sz, vi 0, vi 0, .ref (sz + 1), .ref (sz + 2), .ref (sz + 3), .ref (sz + 4), .ref (sz + 5), .ref (sz + 6), .ref (sz + 7), .ref (sz + 8), .ref (sz + 9), .ref (sz + 10), .ref (sz + 11), .ref (sz + 12), .ref (sz + 13), .null, .null, .null, vi 0, .null, .null, vi 0, vi 0, vi 0, vi 0, .null, .null, .null, .null, vi 0, vi 0, .null, vi 0, vi 0, vi 0, .null, .null]) rfl ?_
  refine JM_aload_0 X.1 qX9_init_181 ?_
  refine JM_bipush X.1 qX9_init_182 (by decide) ?_
  refine JM_ni X.1 40 (kc2 := 15) (ks2 := 715) (sz2 := sz + 15) (by omega) qX9_init_184 rfl (by decide) rfl rfl rfl (by decide) (by decide) ?_
  refine JM_pf X.1 hI qX9_init_186 gX9_52 rfl rfl (Nat.le_of_ble_eq_true rfl) (Or.inl rfl) (fs2 := [.ref sz, vi 0, vi 0, .ref (sz + 1), .ref (sz + 2), .ref (sz + 3), .ref (sz + 4), .ref (sz + 5), .ref (sz + 6), .ref (sz + 7), .ref (sz + 8), .ref (sz + 9), .ref (sz + 10), .ref (sz + 11), .ref (sz + 12), .ref (sz + 13), .ref (sz + 14), .null, .null, vi 0, .null, .null, vi 0, vi 0, vi 0, vi 0, .null, .null, .null, .null, vi 0, vi 0, .null, vi 0, vi 0, vi 0, .null, .null]) rfl ?_
  refine JM_aload_0 X.1 qX9_init_189 ?_
  refine JM_bipush X.1 qX9_init_190 (by decide) ?_
  refine JM_nl X.1 10 (kc2 := 16) (ks2 := 725) (sz2 := sz + 16) (by omega) qX9_init_192 rfl (by decide) rfl rfl rfl (by decide) (by decide) ?_
  refine JM_pf X.1 hI qX9_init_194 gX9_55 rfl rfl (Nat.le_of_ble_eq_true rfl) (Or.inl rfl) (fs2 := [.ref sz, vi 0, vi 0, .ref (sz + 1), .ref (sz + 2), .ref (sz + 3), .ref (sz + 4), .ref (sz + 5), .ref (sz + 6), .ref (sz + 7), .ref (sz + 8), .ref (sz + 9), .ref (sz + 10), .ref (sz + 11), .ref (sz + 12), .ref (sz + 13), .ref (sz + 14), .ref (sz + 15), .null, vi 0, .null, .null, vi 0, vi 0, vi 0, vi 0, .null, .null, .null, .null, vi 0, vi 0, .null, vi 0, vi 0, vi 0, .null, .null]) rfl ?_
  refine JM_aload_0 X.1 qX9_init_197 ?_
  refine JM_bipush X.1 qX9_init_198 (by decide) ?_
  refine JM_ni X.1 6 (kc2 := 17) (ks2 := 731) (sz2 := sz + 17) (by omega) qX9_init_200 rfl (by decide) rfl rfl rfl (by decide) (by decide) ?_
  refine JM_dup X.1 qX9_init_202 rfl ?_
  refine JM_iconst X.1 qX9_init_203 ?_
  refine JM_iconst X.1 qX9_init_204 ?_
  refine JM_f0 X.1 (N := 6) (by omega) qX9_init_205 rfl (by decide) (by decide) (Or.inr (by omega)) ?_
  refine JM_dup X.1 qX9_init_206 rfl ?_
  refine JM_iconst X.1 qX9_init_207 ?_
  refine JM_iconst X.1 qX9_init_208 ?_
  refine JM_fl X.1 (n := 1) (N := 6) (by omega) qX9_init_209 rfl (by decide) (by decide) (Or.inr (by omega)) ?_
  refine JM_dup X.1 qX9_init_210 rfl ?_
  refine JM_iconst X.1 qX9_init_211 ?_
  refine JM_iconst X.1 qX9_init_212 ?_
  refine JM_fl X.1 (n := 2) (N := 6) (by omega) qX9_init_213 rfl (by decide) (by decide) (Or.inr (by omega)) ?_
  refine JM_dup X.1 qX9_init_214 rfl ?_
  refine JM_iconst X.1 qX9_init_215 ?_
  refine JM_iconst X.1 qX9_init_216 ?_
  refine JM_fl X.1 (n := 3) (N := 6) (by omega) qX9_init_217 rfl (by decide) (by decide) (Or.inr (by omega)) ?_
  refine JM_dup X.1 qX9_init_218 rfl ?_
  refine JM_iconst X.1 qX9_init_219 ?_
  refine JM_iconst X.1 qX9_init_220 ?_
  refine JM_fl X.1 (n := 4) (N := 6) (by omega) qX9_init_221 rfl (by decide) (by decide) (Or.inr (by omega)) ?_
  refine JM_dup X.1 qX9_init_222 rfl ?_
  refine JM_iconst X.1 qX9_init_223 ?_
  refine JM_iconst X.1 qX9_init_224 ?_
  refine JM_fl X.1 (n := 5) (N := 6) (by omega) qX9_init_225 rfl (by decide) (by decide) (Or.inr (by omega)) ?_
  refine JM_pf X.1 hI qX9_init_226 gX9_59 rfl rfl (Nat.le_of_ble_eq_true rfl) (Or.inl rfl) (fs2 := [.ref sz, vi 0, vi 0, .ref (sz + 1), .ref (sz + 2), .ref (sz + 3), .ref (sz + 4), .ref (sz + 5), .ref (sz + 6), .ref (sz + 7), .ref (sz + 8), .ref (sz + 9), .ref (sz + 10), .ref (sz + 11), .ref (sz + 12), .ref (sz + 13), .ref (sz + 14), .ref (sz + 15), .ref (sz + 16), vi 0, .null, .null, vi 0, vi 0, vi 0, vi 0, .null, .null, .null, .null, vi 0, vi 0, .null, vi 0, vi 0, vi 0, .null, .null]) rfl ?_
  refine JM_aload_0 X.1 qX9_init_229 ?_
  refine JM_sipush X.1 qX9_init_230 (by decide) ?_
  refine JM_ni X.1 170 (kc2 := 18) (ks2 := 901) (sz2 := sz + 18) (by omega) qX9_init_233 rfl (by decide) rfl rfl rfl (by decide) (by decide) ?_
  refine JM_pf X.1 hI qX9_init_235 gX9_62 rfl rfl (Nat.le_of_ble_eq_true rfl) (Or.inl rfl) (fs2 := [.ref sz, vi 0, vi 0, .ref (sz + 1), .ref (sz + 2), .ref (sz + 3), .ref (sz + 4), .ref (sz + 5), .ref (sz + 6), .ref (sz + 7), .ref (sz + 8), .ref (sz + 9), .ref (sz + 10), .ref (sz + 11), .ref (sz + 12), .ref (sz + 13), .ref (sz + 14), .ref (sz + 15), .ref (sz + 16), vi 0, .ref (sz + 17), .null, vi 0, vi 0, vi 0, vi 0, .null, .null, .null, .null, vi 0, vi 0, .null, vi 0, vi 0, vi 0, .null, .null]) rfl ?_
  refine JM_aload_0 X.1 qX9_init_238 ?_
  refine JM_bipush X.1 qX9_init_239 (by decide) ?_
  refine JM_ni X.1 80 (kc2 := 19) (ks2 := 981) (sz2 := sz + 19) (by omega) qX9_init_241 rfl (by decide) rfl rfl rfl (by decide) (by decide) ?_
  refine JM_pf X.1 hI qX9_init_243 gX9_65 rfl rfl (Nat.le_of_ble_eq_true rfl) (Or.inl rfl) (fs2 := [.ref sz, vi 0, vi 0, .ref (sz + 1), .ref (sz + 2), .ref (sz + 3), .ref (sz + 4), .ref (sz + 5), .ref (sz + 6), .ref (sz + 7), .ref (sz + 8), .ref (sz + 9), .ref (sz + 10), .ref (sz + 11), .ref (sz + 12), .ref (sz + 13), .ref (sz + 14), .ref (sz + 15), .ref (sz + 16), vi 0, .ref (sz + 17), .ref (sz + 18), vi 0, vi 0, vi 0, vi 0, .null, .null, .null, .null, vi 0, vi 0, .null, vi 0, vi 0, vi 0, .null, .null]) rfl ?_
  refine JM_aload_0 X.1 qX9_init_246 ?_
  refine JM_bipush X.1 qX9_init_247 (by decide) ?_
  refine JM_ni X.1 6 (kc2 := 20) (ks2 := 987) (sz2 := sz + 20) (by omega) qX9_init_249 rfl (by decide) rfl rfl rfl (by decide) (by decide) ?_
  refine JM_pf X.1 hI qX9_init_251 gX9_68 rfl rfl (Nat.le_of_ble_eq_true rfl) (Or.inl rfl) (fs2 := [.ref sz, vi 0, vi 0, .ref (sz + 1), .ref (sz + 2), .ref (sz + 3), .ref (sz + 4), .ref (sz + 5), .ref (sz + 6), .ref (sz + 7), .ref (sz + 8), .ref (sz + 9), .ref (sz + 10), .ref (sz + 11), .ref (sz + 12), .ref (sz + 13), .ref (sz + 14), .ref (sz + 15), .ref (sz + 16), vi 0, .ref (sz + 17), .ref (sz + 18), vi 0, vi 0, vi 0, vi 0, .ref (sz + 19), .null, .null, .null, vi 0, vi 0, .null, vi 0, vi 0, vi 0, .null, .null]) rfl ?_
  refine JM_aload_0 X.1 qX9_init_254 ?_
  refine JM_bipush X.1 qX9_init_255 (by decide) ?_
  refine JM_ni X.1 6 (kc2 := 21) (ks2 := 993) (sz2 := sz + 21) (by omega) qX9_init_257 rfl (by decide) rfl rfl rfl (by decide) (by decide) ?_
  refine JM_pf X.1 hI qX9_init_259 gX9_71 rfl rfl (Nat.le_of_ble_eq_true rfl) (Or.inl rfl) (fs2 := [.ref sz, vi 0, vi 0, .ref (sz + 1), .ref (sz + 2), .ref (sz + 3), .ref (sz + 4), .ref (sz + 5), .ref (sz + 6), .ref (sz + 7), .ref (sz + 8), .ref (sz + 9), .ref (sz + 10), .ref (sz + 11), .ref (sz + 12), .ref (sz + 13), .ref (sz + 14), .ref (sz + 15), .ref (sz + 16), vi 0, .ref (sz + 17), .ref (sz + 18), vi 0, vi 0, vi 0, vi 0, .ref (sz + 19), .ref (sz + 20), .null, .null, vi 0, vi 0, .null, vi 0, vi 0, vi 0, .null, .null]) rfl ?_
  refine JM_aload_0 X.1 qX9_init_262 ?_
  refine JM_bipush X.1 qX9_init_263 (by decide) ?_
  refine JM_ni X.1 6 (kc2 := 22) (ks2 := 999) (sz2 := sz + 22) (by omega) qX9_init_265 rfl (by decide) rfl rfl rfl (by decide) (by decide) ?_
  refine JM_pf X.1 hI qX9_init_267 gX9_74 rfl rfl (Nat.le_of_ble_eq_true rfl) (Or.inl rfl) (fs2 := [.ref sz, vi 0, vi 0, .ref (sz + 1), .ref (sz + 2), .ref (sz + 3), .ref (sz + 4), .ref (sz + 5), .ref (sz + 6), .ref (sz + 7), .ref (sz + 8), .ref (sz + 9), .ref (sz + 10), .ref (sz + 11), .ref (sz + 12), .ref (sz + 13), .ref (sz + 14), .ref (sz + 15), .ref (sz + 16), vi 0, .ref (sz + 17), .ref (sz + 18), vi 0, vi 0, vi 0, vi 0, .ref (sz + 19), .ref (sz + 20), .ref (sz + 21), .null, vi 0, vi 0, .null, vi 0, vi 0, vi 0, .null, .null]) rfl ?_
  refine JM_aload_0 X.1 qX9_init_270 ?_
  refine JM_bipush X.1 qX9_init_271 (by decide) ?_
  refine JM_ni X.1 6 (kc2 := 23) (ks2 := 1005) (sz2 := sz + 23) (by omega) qX9_init_273 rfl (by decide) rfl rfl rfl (by decide) (by decide) ?_
  refine JM_pf X.1 hI qX9_init_275 gX9_77 rfl rfl (Nat.le_of_ble_eq_true rfl) (Or.inl rfl) (fs2 := [.ref sz, vi 0, vi 0, .ref (sz + 1), .ref (sz + 2), .ref (sz + 3), .ref (sz + 4), .ref (sz + 5), .ref (sz + 6), .ref (sz + 7), .ref (sz + 8), .ref (sz + 9), .ref (sz + 10), .ref (sz + 11), .ref (sz + 12), .ref (sz + 13), .ref (sz + 14), .ref (sz + 15), .ref (sz + 16), vi 0, .ref (sz + 17), .ref (sz + 18), vi 0, vi 0, vi 0, vi 0, .ref (sz + 19), .ref (sz + 20), .ref (sz + 21), .ref (sz + 22), vi 0, vi 0, .null, vi 0, vi 0, vi 0, .null, .null]) rfl ?_
  refine JM_aload_0 X.1 qX9_init_278 ?_
  refine JM_bipush X.1 qX9_init_279 (by decide) ?_
  refine JM_ni X.1 14 (kc2 := 24) (ks2 := 1019) (sz2 := sz + 24) (by omega) qX9_init_281 rfl (by decide) rfl rfl rfl (by decide) (by decide) ?_
  refine JM_pf X.1 hI qX9_init_283 gX9_80 rfl rfl (Nat.le_of_ble_eq_true rfl) (Or.inl rfl) (fs2 := [.ref sz, vi 0, vi 0, .ref (sz + 1), .ref (sz + 2), .ref (sz + 3), .ref (sz + 4), .ref (sz + 5), .ref (sz + 6), .ref (sz + 7), .ref (sz + 8), .ref (sz + 9), .ref (sz + 10), .ref (sz + 11), .ref (sz + 12), .ref (sz + 13), .ref (sz + 14), .ref (sz + 15), .ref (sz + 16), vi 0, .ref (sz + 17), .ref (sz + 18), vi 0, vi 0, vi 0, vi 0, .ref (sz + 19), .ref (sz + 20), .ref (sz + 21), .ref (sz + 22), vi 0, vi 0, .ref (sz + 23), vi 0, vi 0, vi 0, .null, .null]) rfl ?_
  refine JM_aload_0 X.1 qX9_init_286 ?_
  refine JM_bipush X.1 qX9_init_287 (by decide) ?_
  refine JM_ni X.1 10 (kc2 := 25) (ks2 := 1029) (sz2 := sz + 25) (by omega) qX9_init_289 rfl (by decide) rfl rfl rfl (by decide) (by decide) ?_
  refine JM_pf X.1 hI qX9_init_291 gX9_83 rfl rfl (Nat.le_of_ble_eq_true rfl) (Or.inl rfl) (fs2 := [.ref sz, vi 0, vi 0, .ref (sz + 1), .ref (sz + 2), .ref (sz + 3), .ref (sz + 4), .ref (sz + 5), .ref (sz + 6), .ref (sz + 7), .ref (sz + 8), .ref (sz + 9), .ref (sz + 10), .ref (sz + 11), .ref (sz + 12), .ref (sz + 13), .ref (sz + 14), .ref (sz + 15), .ref (sz + 16), vi 0, .ref (sz + 17), .ref (sz + 18), vi 0, vi 0, vi 0, vi 0, .ref (sz + 19), .ref (sz + 20), .ref (sz + 21), .ref (sz + 22), vi 0, vi 0, .ref (sz + 23), vi 0, vi 0, vi 0, .ref (sz + 24), .null]) rfl ?_
  refine JM_aload_0 X.1 qX9_init_294 ?_
  refine JM_bipush X.1 qX9_init_295 (by decide) ?_
  refine JM_ni X.1 10 (kc2 := 26) (ks2 := 1039) (sz2 := sz + 26) (by omega) qX9_init_297 rfl (by decide) rfl rfl rfl (by decide) (by decide) ?_
  refine JM_pf X.1 hI qX9_init_299 gX9_86 rfl rfl (Nat.le_of_ble_eq_true rfl) (Or.inl rfl) (fs2 := [.ref sz, vi 0, vi 0, .ref (sz + 1), .ref (sz + 2), .ref (sz + 3), .ref (sz + 4), .ref (sz + 5), .ref (sz + 6), .ref (sz + 7), .ref (sz + 8), .ref (sz + 9), .ref (sz + 10), .ref (sz + 11), .ref (sz + 12), .ref (sz + 13), .ref (sz + 14), .ref (sz + 15), .ref (sz + 16), vi 0, .ref (sz + 17), .ref (sz + 18), vi 0, vi 0, vi 0, vi 0, .ref (sz + 19), .ref (sz + 20), .ref (sz + 21), .ref (sz + 22), vi 0, vi 0, .ref (sz + 23), vi 0, vi 0, vi 0, .ref (sz + 24), .ref (sz + 25)]) rfl ?_
  exact JM_vret X qX9_init_302 rfl (fun a e h => h)

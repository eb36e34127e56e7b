/-! ===== the reference: rules that hold ===== -/
theorem MR_sta {a N : Mem} {p s g : Nat} (h : MR a N) : MR (staM a p s g) N := ⟨h.r0, h.rr, h.rs, h.rp, h.rl, h.rq, h.rh, h.rm, h.rt, h.ru, h.rf, h.rb, h.rw⟩
theorem hlB_iff {A : Mem} {p s g r kt : Nat} {day : Int} (hk : A 3 r 8 = (kt : Int)) : hlB (staM A p s g) day r = true ↔ ((A 3 r 2 ≤ day ∧ day < A 3 r 3) ∧ ∀ t, t < kt → tsB (staM A p s g) r t = true) := by
  unfold hlB
  rw [Bool.and_eq_true, decide_eq_true_eq, allN_iff, staM_ne (by decide), staM_ne (by decide), staM_ne (by decide), hk, Int.toNat_natCast]
theorem tsB_eq {A : Mem} {p s g r t : Nat} : tsB (staM A p s g) r t = (soB (A 20 r t) (staM A p s g 24 0 (A 19 r t).toNat) (A 21 r t) != decide (A 22 r t = 1)) := by
  unfold tsB
  rw [staM_ne (show 20 ≠ 24 by decide), staM_ne (show 19 ≠ 24 by decide), staM_ne (show 21 ≠ 24 by decide), staM_ne (show 22 ≠ 24 by decide)]
theorem sta_0 (A : Mem) (p s g : Nat) : staM A p s g 24 0 0 = A 5 s 0 := by simp [staM, up]
theorem sta_1 (A : Mem) (p s g : Nat) : staM A p s g 24 0 1 = (s : Int) := by simp [staM, up]
theorem sta_2 (A : Mem) (p s g : Nat) : staM A p s g 24 0 2 = A 5 s 1 := by simp [staM, up]
theorem sta_3 (A : Mem) (p s g : Nat) : staM A p s g 24 0 3 = (p : Int) := by simp [staM, up]
theorem sta_4 (A : Mem) (p s g : Nat) : staM A p s g 24 0 4 = (g : Int) := by simp [staM, up]
theorem cBan_iff {A : Mem} {p s g r : Nat} {day : Int} : cBan (staM A p s g) day r = true ↔ (A 3 r 0 = 1 ∧ (A 3 r 1 = (g : Int) ∨ A 3 r 1 = 99) ∧ hlB (staM A p s g) day r = true) := by
  unfold cBan
  rw [Bool.and_eq_true, Bool.and_eq_true, decide_eq_true_eq, decide_eq_true_eq, sta_4, staM_ne (by decide), staM_ne (by decide)]
theorem cTx0_iff {A : Mem} {p s g r : Nat} {day : Int} : cTx0 (staM A p s g) day r = true ↔ (A 3 r 0 = 0 ∧ hlB (staM A p s g) day r = true) := by
  unfold cTx0
  rw [Bool.and_eq_true, decide_eq_true_eq, staM_ne (by decide)]
theorem cTax_iff {A : Mem} {p s g r : Nat} {day : Int} : cTax (staM A p s g) day r = true ↔ (A 3 r 0 = 0 ∧ A 3 r 1 ≠ 0 ∧ hlB (staM A p s g) day r = true) := by
  unfold cTax
  rw [Bool.and_eq_true, Bool.and_eq_true, decide_eq_true_eq, decide_eq_true_eq, staM_ne (by decide), staM_ne (by decide)]
theorem soB_iff {sg x y : Int} : soB sg x y = true ↔ ((sg = 60 ∧ x < y) ∨ (sg = 62 ∧ y < x) ∨ (sg ≠ 60 ∧ sg ≠ 62 ∧ x = y)) := by
  unfold soB
  split
  · rw [decide_eq_true_eq]; omega
  · split
    · rw [decide_eq_true_eq]; omega
    · rw [decide_eq_true_eq]; omega
theorem Bool_no {b : Bool} (h : ¬ b = true) : b = false := by cases b with
  | true => exact absurd rfl h
  | false => rfl
theorem lp_mholds {l : Launch} {G : Gx} {E : Fx} {M : Mem} {A : Mem} {m r p s g : Nat} (hI : Inv m A) (hm : m < 512) (hM : MR A M) (hr : (r : Int) < A 4 0 2) (hp : p < 10) (hs : (s : Int) < A 0 0 2) (hg : g < 10) (hfr : A 3 r 2 ≤ A 8 0 9 ∧ A 8 0 9 < A 3 r 3) (X : OkM l G E cX9_holds RX9 11 2 (some .boolean) (RB M (hlB (staM A p s g) (A 8 0 9) r = true))) : ∀ (n i : Nat), ∀ (x7 x8 x9 x10 : Option Value), (i : Int) ≤ A 3 r 8 → A 3 r 8 < (i : Int) + n → (∀ t, t < i → tsB (staM A p s g) r t = true) → J G E 39 [some (rf G 9 0), some (vi (r : Int)), some (vi (p : Int)), some (vi (s : Int)), some (vi (g : Int)), some (vi ((17 * r : Nat) : Int)), some (vi (i : Int)), x7, x8, x9, x10] [] M := by
  have Y := X.ok
  intro n
  induction n with
  | zero => intro i x7 x8 x9 x10 h1 h2 h3; exfalso; omega
  | succ n ih =>
    intro i x7 x8 x9 x10 h1 h2 h3
    obtain ⟨d1, d2⟩ := hI.day
    obtain ⟨ru1, ru2⟩ := hI.rules
    obtain ⟨c1, c2⟩ := hI.count
    obtain ⟨q0, q1, q2, q3, ⟨q4, q5⟩, q6⟩ := hI.rule hr
    obtain ⟨u0, u1, u2, u3, u4, u5⟩ := hM.ru r hr
    obtain ⟨kt, hkt⟩ := nat_of q4
    obtain ⟨e1, e2, e3⟩ := hI.shopS hs
    obtain ⟨g1, g2, g3, g4⟩ := hM.rs s hs
    have e91 : M 9 0 1 = A 8 0 9 := hM.r0.1
    have hh := hlB_iff (A := A) (p := p) (s := s) (g := g) (r := r) (day := A 8 0 9) hkt
    refine J_iload_6 Y qX9_holds_39 ?_
    refine J_aloadr_0 Y qX9_holds_41 ?_
    refine J_getR Y qX9_holds_42 fX9_62 (by decide) ?_
    refine J_iload_5 Y qX9_holds_45 ?_
    refine J_iconst Y qX9_holds_47 ?_
    refine J_iadd Y qX9_holds_48 ?_
    rw [show ((17 * r : Nat) : Int) + 4 = ((17 * r + 4 : Nat) : Int) by omega]
    refine J_ialoadN (kx := (17 * r + 4)) Y qX9_holds_49 rfl (by decide) rfl (by omega) (by decide) ?_
    rw [u4, hkt]
    refine J_icmp_ge Y qX9_holds_50 (by omega) (by omega) (by omega) (by omega) (fun h50 => ?_) (fun h50 => ?_)
    · obtain rfl : i = kt := by omega
      refine J_iconst Y qX9_holds_250 ?_
      exact J_zret_t X qX9_holds_251 rfl (hh.mpr ⟨hfr, h3⟩)
    · obtain ⟨y1, y2, y3, y4⟩ := q6 i (by omega)
      obtain ⟨w0, w1, w2, w3⟩ := u5 i (by omega)
      obtain ⟨f, hf⟩ := nat_of (show 0 ≤ A 19 r i by omega)
      obtain ⟨v, hv⟩ : ∃ v, v = staM A p s g 24 0 f := ⟨_, rfl⟩
      obtain ⟨b, hb⟩ : ∃ b : Int, b = if soB (A 20 r i) v (A 21 r i) = true then 1 else 0 := ⟨_, rfl⟩
      have hb0 : b = 0 ∨ b = 1 := by rw [hb]; split <;> omega
      have hb1 : b = 1 ↔ soB (A 20 r i) (staM A p s g 24 0 (A 19 r i).toNat) (A 21 r i) = true := by
        rw [hf, Int.toNat_natCast, ← hv, hb]
        split <;> simp_all
      have vr : 0 ≤ v ∧ v ≤ 13 := by rw [hv]; exact staM_f e1 e2 (by omega) hp hg f (by omega)
      refine J_iload_5 Y qX9_holds_53 ?_
      refine J_iconst Y qX9_holds_55 ?_
      refine J_iadd Y qX9_holds_56 ?_
      refine J_iconst Y qX9_holds_57 ?_
      refine J_iload_6 Y qX9_holds_58 ?_
      refine J_imul Y qX9_holds_60 ?_
      refine J_iadd Y qX9_holds_61 ?_
      rw [show ((17 * r : Nat) : Int) + 5 + 4 * (i : Int) = ((17 * r + 5 + 4 * i : Nat) : Int) by omega]
      refine J_istore_7 Y qX9_holds_62 rfl ?_
      refine J_aloadr_0 Y qX9_holds_64 ?_
      refine J_getR Y qX9_holds_65 fX9_62 (by decide) ?_
      refine J_iload_7 Y qX9_holds_68 ?_
      refine J_iconst Y qX9_holds_70 ?_
      refine J_iadd Y qX9_holds_71 ?_
      rw [show ((17 * r + 5 + 4 * i : Nat) : Int) + 1 = ((17 * r + 5 + 4 * i + 1 : Nat) : Int) by omega]
      refine J_ialoadN (kx := (17 * r + 5 + 4 * i + 1)) Y qX9_holds_72 rfl (by decide) rfl (by omega) (by decide) ?_
      rw [w1, hf]
      refine J_istore_8 Y qX9_holds_73 rfl ?_
      have hK2 : J G E 219 [some (rf G 9 0), some (vi (r : Int)), some (vi (p : Int)), some (vi (s : Int)), some (vi (g : Int)), some (vi ((17 * r : Nat) : Int)), some (vi (i : Int)), some (vi ((17 * r + 5 + 4 * i : Nat) : Int)), some (vi (f : Int)), some (vi v), x10] [vi b] M := by
        refine J_istore_10 Y qX9_holds_219 rfl ?_
        refine J_iload_10 Y qX9_holds_221 ?_
        refine J_aloadr_0 Y qX9_holds_223 ?_
        refine J_getR Y qX9_holds_224 fX9_62 (by decide) ?_
        refine J_iload_7 Y qX9_holds_227 ?_
        refine J_ialoadN (kx := (17 * r + 5 + 4 * i)) Y qX9_holds_229 rfl (by decide) rfl (by omega) (by decide) ?_
        rw [w0]
        refine J_iconst Y qX9_holds_230 ?_
        refine J_icmp_ne Y qX9_holds_231 (by omega) (by omega) (by omega) (by omega) (fun h231 => ?_) (fun h231 => ?_)
        · refine J_iconst Y qX9_holds_238 ?_
          refine J_icmp_ne Y qX9_holds_239 (by omega) (by omega) (by omega) (by omega) (fun h239 => ?_) (fun h239 => ?_)
          · refine J_iinc_6 Y qX9_holds_244 rfl ?_
            refine J_goto Y qX9_holds_247 ?_
            refine ih (i + 1) _ _ _ _ (by omega) (by omega) (fun t ht => ?_)
            by_cases et : t = i
            · subst et
              rw [tsB_eq]
              cases hb : soB (A 20 r t) (staM A p s g 24 0 (A 19 r t).toNat) (A 21 r t) with
              | true =>
                have := hb1.mpr hb
                rw [decide_eq_false (by omega)]; rfl
              | false =>
                have : b ≠ 1 := fun z => by have := hb1.mp z; rw [hb] at this; cases this
                rw [decide_eq_true (by omega)]; rfl
            · exact h3 t (by omega)
          · refine J_iconst Y qX9_holds_242 ?_
            exact J_zret_f X qX9_holds_243 rfl (fun z => by
              have := (hh.mp z).2 i (by omega)
              rw [tsB_eq] at this
              cases hb : soB (A 20 r i) (staM A p s g 24 0 (A 19 r i).toNat) (A 21 r i) with
              | true =>
                have h1 := hb1.mpr hb
                rw [hb, decide_eq_true (by omega)] at this; cases this
              | false =>
                have h1 : b ≠ 1 := fun z => by have := hb1.mp z; rw [hb] at this; cases this
                rw [hb, decide_eq_false (by omega)] at this; cases this)
        · refine J_iconst Y qX9_holds_234 ?_
          refine J_goto Y qX9_holds_235 ?_
          refine J_icmp_ne Y qX9_holds_239 (by omega) (by omega) (by omega) (by omega) (fun h239 => ?_) (fun h239 => ?_)
          · refine J_iinc_6 Y qX9_holds_244 rfl ?_
            refine J_goto Y qX9_holds_247 ?_
            refine ih (i + 1) _ _ _ _ (by omega) (by omega) (fun t ht => ?_)
            by_cases et : t = i
            · subst et
              rw [tsB_eq]
              cases hb : soB (A 20 r t) (staM A p s g 24 0 (A 19 r t).toNat) (A 21 r t) with
              | true =>
                have := hb1.mpr hb
                rw [decide_eq_false (by omega)]; rfl
              | false =>
                have : b ≠ 1 := fun z => by have := hb1.mp z; rw [hb] at this; cases this
                rw [decide_eq_true (by omega)]; rfl
            · exact h3 t (by omega)
          · refine J_iconst Y qX9_holds_242 ?_
            exact J_zret_f X qX9_holds_243 rfl (fun z => by
              have := (hh.mp z).2 i (by omega)
              rw [tsB_eq] at this
              cases hb : soB (A 20 r i) (staM A p s g 24 0 (A 19 r i).toNat) (A 21 r i) with
              | true =>
                have h1 := hb1.mpr hb
                rw [hb, decide_eq_true (by omega)] at this; cases this
              | false =>
                have h1 : b ≠ 1 := fun z => by have := hb1.mp z; rw [hb] at this; cases this
                rw [hb, decide_eq_false (by omega)] at this; cases this)
      have hK : J G E 126 [some (rf G 9 0), some (vi (r : Int)), some (vi (p : Int)), some (vi (s : Int)), some (vi (g : Int)), some (vi ((17 * r : Nat) : Int)), some (vi (i : Int)), some (vi ((17 * r + 5 + 4 * i : Nat) : Int)), some (vi (f : Int)), x9, x10] [vi v] M := by
        refine J_istore_9 Y qX9_holds_126 rfl ?_
        refine J_aloadr_0 Y qX9_holds_128 ?_
        refine J_getR Y qX9_holds_129 fX9_62 (by decide) ?_
        refine J_iload_7 Y qX9_holds_132 ?_
        refine J_iconst Y qX9_holds_134 ?_
        refine J_iadd Y qX9_holds_135 ?_
        rw [show ((17 * r + 5 + 4 * i : Nat) : Int) + 2 = ((17 * r + 5 + 4 * i + 2 : Nat) : Int) by omega]
        refine J_ialoadN (kx := (17 * r + 5 + 4 * i + 2)) Y qX9_holds_136 rfl (by decide) rfl (by omega) (by decide) ?_
        rw [w2]
        refine J_bipush Y qX9_holds_137 (by decide) ?_
        refine J_icmp_ne Y qX9_holds_139 (by omega) (by omega) (by omega) (by omega) (fun h139 => ?_) (fun h139 => ?_)
        · refine J_aloadr_0 Y qX9_holds_164 ?_
          refine J_getR Y qX9_holds_165 fX9_62 (by decide) ?_
          refine J_iload_7 Y qX9_holds_168 ?_
          refine J_iconst Y qX9_holds_170 ?_
          refine J_iadd Y qX9_holds_171 ?_
          rw [show ((17 * r + 5 + 4 * i : Nat) : Int) + 2 = ((17 * r + 5 + 4 * i + 2 : Nat) : Int) by omega]
          refine J_ialoadN (kx := (17 * r + 5 + 4 * i + 2)) Y qX9_holds_172 rfl (by decide) rfl (by omega) (by decide) ?_
          rw [w2]
          refine J_bipush Y qX9_holds_173 (by decide) ?_
          refine J_icmp_ne Y qX9_holds_175 (by omega) (by omega) (by omega) (by omega) (fun h175 => ?_) (fun h175 => ?_)
          · refine J_iload_9 Y qX9_holds_200 ?_
            refine J_aloadr_0 Y qX9_holds_202 ?_
            refine J_getR Y qX9_holds_203 fX9_62 (by decide) ?_
            refine J_iload_7 Y qX9_holds_206 ?_
            refine J_iconst Y qX9_holds_208 ?_
            refine J_iadd Y qX9_holds_209 ?_
            rw [show ((17 * r + 5 + 4 * i : Nat) : Int) + 3 = ((17 * r + 5 + 4 * i + 3 : Nat) : Int) by omega]
            refine J_ialoadN (kx := (17 * r + 5 + 4 * i + 3)) Y qX9_holds_210 rfl (by decide) rfl (by omega) (by decide) ?_
            rw [w3]
            refine J_icmp_le Y qX9_holds_211 (by omega) (by omega) (by omega) (by omega) (fun h211 => ?_) (fun h211 => ?_)
            · refine J_iconst Y qX9_holds_218 ?_
              exact J_eqv (congrArg vi (show _ = b by
                rw [hb]
                first
                  | rw [if_pos (soB_iff.mpr (by omega))]
                  | rw [if_neg (fun z => by have := soB_iff.mp z; omega)])) hK2
            · refine J_iconst Y qX9_holds_214 ?_
              refine J_goto Y qX9_holds_215 ?_
              exact J_eqv (congrArg vi (show _ = b by
                rw [hb]
                first
                  | rw [if_pos (soB_iff.mpr (by omega))]
                  | rw [if_neg (fun z => by have := soB_iff.mp z; omega)])) hK2
          · refine J_iload_9 Y qX9_holds_178 ?_
            refine J_aloadr_0 Y qX9_holds_180 ?_
            refine J_getR Y qX9_holds_181 fX9_62 (by decide) ?_
            refine J_iload_7 Y qX9_holds_184 ?_
            refine J_iconst Y qX9_holds_186 ?_
            refine J_iadd Y qX9_holds_187 ?_
            rw [show ((17 * r + 5 + 4 * i : Nat) : Int) + 3 = ((17 * r + 5 + 4 * i + 3 : Nat) : Int) by omega]
            refine J_ialoadN (kx := (17 * r + 5 + 4 * i + 3)) Y qX9_holds_188 rfl (by decide) rfl (by omega) (by decide) ?_
            rw [w3]
            refine J_icmp_ge Y qX9_holds_189 (by omega) (by omega) (by omega) (by omega) (fun h189 => ?_) (fun h189 => ?_)
            · refine J_iconst Y qX9_holds_196 ?_
              refine J_goto Y qX9_holds_197 ?_
              exact J_eqv (congrArg vi (show _ = b by
                rw [hb]
                first
                  | rw [if_pos (soB_iff.mpr (by omega))]
                  | rw [if_neg (fun z => by have := soB_iff.mp z; omega)])) hK2
            · refine J_iconst Y qX9_holds_192 ?_
              refine J_goto Y qX9_holds_193 ?_
              exact J_eqv (congrArg vi (show _ = b by
                rw [hb]
                first
                  | rw [if_pos (soB_iff.mpr (by omega))]
                  | rw [if_neg (fun z => by have := soB_iff.mp z; omega)])) hK2
        · refine J_iload_9 Y qX9_holds_142 ?_
          refine J_aloadr_0 Y qX9_holds_144 ?_
          refine J_getR Y qX9_holds_145 fX9_62 (by decide) ?_
          refine J_iload_7 Y qX9_holds_148 ?_
          refine J_iconst Y qX9_holds_150 ?_
          refine J_iadd Y qX9_holds_151 ?_
          rw [show ((17 * r + 5 + 4 * i : Nat) : Int) + 3 = ((17 * r + 5 + 4 * i + 3 : Nat) : Int) by omega]
          refine J_ialoadN (kx := (17 * r + 5 + 4 * i + 3)) Y qX9_holds_152 rfl (by decide) rfl (by omega) (by decide) ?_
          rw [w3]
          refine J_icmp_ne Y qX9_holds_153 (by omega) (by omega) (by omega) (by omega) (fun h153 => ?_) (fun h153 => ?_)
          · refine J_iconst Y qX9_holds_160 ?_
            refine J_goto Y qX9_holds_161 ?_
            exact J_eqv (congrArg vi (show _ = b by
              rw [hb]
              first
                | rw [if_pos (soB_iff.mpr (by omega))]
                | rw [if_neg (fun z => by have := soB_iff.mp z; omega)])) hK2
          · refine J_iconst Y qX9_holds_156 ?_
            refine J_goto Y qX9_holds_157 ?_
            exact J_eqv (congrArg vi (show _ = b by
              rw [hb]
              first
                | rw [if_pos (soB_iff.mpr (by omega))]
                | rw [if_neg (fun z => by have := soB_iff.mp z; omega)])) hK2
      refine J_iload_8 Y qX9_holds_75 ?_
      refine J_if_ne Y qX9_holds_77 (by omega) (by omega) (fun h77 => ?_) (fun h77 => ?_)
      · refine J_iload_8 Y qX9_holds_89 ?_
        refine J_iconst Y qX9_holds_91 ?_
        refine J_icmp_ne Y qX9_holds_92 (by omega) (by omega) (by omega) (by omega) (fun h92 => ?_) (fun h92 => ?_)
        · refine J_iload_8 Y qX9_holds_99 ?_
          refine J_iconst Y qX9_holds_101 ?_
          refine J_icmp_ne Y qX9_holds_102 (by omega) (by omega) (by omega) (by omega) (fun h102 => ?_) (fun h102 => ?_)
          · refine J_iload_8 Y qX9_holds_114 ?_
            refine J_iconst Y qX9_holds_116 ?_
            refine J_icmp_ne Y qX9_holds_117 (by omega) (by omega) (by omega) (by omega) (fun h117 => ?_) (fun h117 => ?_)
            · refine J_iload_4 Y qX9_holds_124 ?_
              exact J_eqv (congrArg vi (show _ = v by
                rw [hv]
                first
                  | (rw [show f = 0 by omega, sta_0]; done)
                  | (rw [show f = 1 by omega, sta_1]; done)
                  | (rw [show f = 2 by omega, sta_2]; done)
                  | (rw [show f = 3 by omega, sta_3]; done)
                  | (rw [show f = 4 by omega, sta_4]; done))) hK
            · refine J_iload_2 Y qX9_holds_120 ?_
              refine J_goto Y qX9_holds_121 ?_
              exact J_eqv (congrArg vi (show _ = v by
                rw [hv]
                first
                  | (rw [show f = 0 by omega, sta_0]; done)
                  | (rw [show f = 1 by omega, sta_1]; done)
                  | (rw [show f = 2 by omega, sta_2]; done)
                  | (rw [show f = 3 by omega, sta_3]; done)
                  | (rw [show f = 4 by omega, sta_4]; done))) hK
          · refine J_aloadr_0 Y qX9_holds_105 ?_
            refine J_getR Y qX9_holds_106 fX9_16 (by decide) ?_
            refine J_iload_3 Y qX9_holds_109 ?_
            refine J_ialoadN (kx := s) Y qX9_holds_110 rfl (by decide) rfl (by omega) (by decide) ?_
            rw [g2]
            refine J_goto Y qX9_holds_111 ?_
            exact J_eqv (congrArg vi (show _ = v by
              rw [hv]
              first
                | (rw [show f = 0 by omega, sta_0]; done)
                | (rw [show f = 1 by omega, sta_1]; done)
                | (rw [show f = 2 by omega, sta_2]; done)
                | (rw [show f = 3 by omega, sta_3]; done)
                | (rw [show f = 4 by omega, sta_4]; done))) hK
        · refine J_iload_3 Y qX9_holds_95 ?_
          refine J_goto Y qX9_holds_96 ?_
          exact J_eqv (congrArg vi (show _ = v by
            rw [hv]
            first
              | (rw [show f = 0 by omega, sta_0]; done)
              | (rw [show f = 1 by omega, sta_1]; done)
              | (rw [show f = 2 by omega, sta_2]; done)
              | (rw [show f = 3 by omega, sta_3]; done)
              | (rw [show f = 4 by omega, sta_4]; done))) hK
      · refine J_aloadr_0 Y qX9_holds_80 ?_
        refine J_getR Y qX9_holds_81 fX9_13 (by decide) ?_
        refine J_iload_3 Y qX9_holds_84 ?_
        refine J_ialoadN (kx := s) Y qX9_holds_85 rfl (by decide) rfl (by omega) (by decide) ?_
        rw [g1]
        refine J_goto Y qX9_holds_86 ?_
        exact J_eqv (congrArg vi (show _ = v by
          rw [hv]
          first
            | (rw [show f = 0 by omega, sta_0]; done)
            | (rw [show f = 1 by omega, sta_1]; done)
            | (rw [show f = 2 by omega, sta_2]; done)
            | (rw [show f = 3 by omega, sta_3]; done)
            | (rw [show f = 4 by omega, sta_4]; done))) hK

theorem m_holds (l : Launch) (G : Gx) (M : Mem) {A : Mem} {m r p s g : Nat} (hI : Inv m A) (hm : m < 512) (hM : MR A M) (hr : (r : Int) < A 4 0 2) (hp : p < 10) (hs : (s : Int) < A 0 0 2) (hg : g < 10) : Ct l G 2 yX9_holds cX9_holds 11 ((Option.some Jvm.ClassFile.FieldType.boolean)) [rf G 9 0, vi (r : Nat), vi (p : Nat), vi (s : Nat), vi (g : Nat)] M (RB M (hlB (staM A p s g) (A 8 0 9) r = true)) := by
  refine Ct.of rfl (Nat.le_of_ble_eq_true rfl) rfl (fun E X => ?_)
  have Y := X.ok
  obtain ⟨d1, d2⟩ := hI.day
  obtain ⟨ru1, ru2⟩ := hI.rules
  obtain ⟨c1, c2⟩ := hI.count
  obtain ⟨q0, q1, q2, q3, ⟨q4, q5⟩, q6⟩ := hI.rule hr
  obtain ⟨u0, u1, u2, u3, u4, u5⟩ := hM.ru r hr
  obtain ⟨kt, hkt⟩ := nat_of q4
  obtain ⟨e1, e2, e3⟩ := hI.shopS hs
  obtain ⟨g1, g2, g3, g4⟩ := hM.rs s hs
  have e91 : M 9 0 1 = A 8 0 9 := hM.r0.1
  have hh := hlB_iff (A := A) (p := p) (s := s) (g := g) (r := r) (day := A 8 0 9) hkt
  refine J_bipush Y qX9_holds_0 (by decide) ?_
  refine J_iload_1 Y qX9_holds_2 ?_
  refine J_imul Y qX9_holds_3 ?_
  rw [show (17 : Int) * (r : Int) = ((17 * r : Nat) : Int) by omega]
  refine J_istore_5 Y qX9_holds_4 rfl ?_
  refine J_aloadr_0 Y qX9_holds_6 ?_
  refine J_getI Y qX9_holds_7 fX9_111 (by decide) ?_
  rw [e91]
  refine J_aloadr_0 Y qX9_holds_10 ?_
  refine J_getR Y qX9_holds_11 fX9_62 (by decide) ?_
  refine J_iload_5 Y qX9_holds_14 ?_
  refine J_ialoadN (kx := (17 * r)) Y qX9_holds_16 rfl (by decide) rfl (by omega) (by decide) ?_
  rw [u0]
  refine J_aloadr_0 Y qX9_holds_17 ?_
  refine J_getR Y qX9_holds_18 fX9_62 (by decide) ?_
  refine J_iload_5 Y qX9_holds_21 ?_
  refine J_iconst Y qX9_holds_23 ?_
  refine J_iadd Y qX9_holds_24 ?_
  rw [show ((17 * r : Nat) : Int) + 1 = ((17 * r + 1 : Nat) : Int) by omega]
  refine J_ialoadN (kx := (17 * r + 1)) Y qX9_holds_25 rfl (by decide) rfl (by omega) (by decide) ?_
  rw [u1]
  refine J_iconst Y qX9_holds_26 ?_
  refine J_isub Y qX9_holds_27 ?_
  refine J_cS3B Y qX9_holds_28 mX9_93 iyX9_in rfl (by decide) rfl (Nat.le_of_ble_eq_true rfl) (m_in _ _ _ (by omega) (by omega) (by omega) (by omega) (by omega) (by omega)) (fun h28 => ?_) (fun h28 => ?_)
  · refine J_ne1 Y qX9_holds_31 ?_
    refine J_iconst Y qX9_holds_36 ?_
    refine J_istore_6 Y qX9_holds_37 rfl ?_
    exact lp_mholds hI hm hM hr hp hs hg (by omega) X (kt + 1) 0 _ _ _ _ (by omega) (by omega) (fun t ht => absurd ht (by omega))
  · refine J_ne0 Y qX9_holds_31 ?_
    refine J_iconst Y qX9_holds_34 ?_
    exact J_zret_f X qX9_holds_35 rfl (fun z => by have := (hh.mp z).1; omega)

theorem lp_mban {l : Launch} {G : Gx} {E : Fx} {M : Mem} {A : Mem} {m p s g k : Nat} (hI : Inv m A) (hm : m < 512) (hM : MR A M) (hk : A 4 0 2 = (k : Int)) (k10 : k ≤ 10) (hp : p < 10) (hs : (s : Int) < A 0 0 2) (hg : g < 10) (X : OkM l G E cX9_ban RX9 6 3 (some .int) (RP M (fstB (cBan (staM A p s g) (A 8 0 9)) k))) : ∀ (n i : Nat), ∀ (x5 : Option Value), i ≤ k → k < i + n → (∀ j, j < i → cBan (staM A p s g) (A 8 0 9) j = false) → J G E 3 [some (rf G 9 0), some (vi (p : Int)), some (vi (s : Int)), some (vi (g : Int)), some (vi (i : Int)), x5] [] M := by
  have Y := X.ok
  intro n
  induction n with
  | zero => intro i x5 h1 h2 h3; exfalso; omega
  | succ n ih =>
    intro i x5 h1 h2 h3
    have e19 : M 9 0 19 = (k : Int) := by rw [hM.r0.2.2.1]; exact hk
    refine J_iload_4 Y qX9_ban_3 ?_
    refine J_aloadr_0 Y qX9_ban_5 ?_
    refine J_getI Y qX9_ban_6 fX9_160 (by decide) ?_
    rw [e19]
    refine J_icmp_ge Y qX9_ban_9 (by omega) (by omega) (by omega) (by omega) (fun h9 => ?_) (fun h9 => ?_)
    · obtain rfl : i = k := by omega
      refine J_iconst Y qX9_ban_75 ?_
      exact J_iret X qX9_ban_76 (RP_i (fstB_no i h3).symm)
    · obtain ⟨q0, ⟨q1, q2⟩, q3⟩ := hI.rule (r := i) (by omega)
      obtain ⟨u0, u1, u2, u3, u4, u5⟩ := hM.ru i (by omega)
      refine J_aloadr_0 Y qX9_ban_12 ?_
      refine J_getR Y qX9_ban_13 fX9_62 (by decide) ?_
      refine J_bipush Y qX9_ban_16 (by decide) ?_
      refine J_iload_4 Y qX9_ban_18 ?_
      refine J_imul Y qX9_ban_20 ?_
      refine J_iconst Y qX9_ban_21 ?_
      refine J_iadd Y qX9_ban_22 ?_
      rw [show (17 : Int) * (i : Int) + 3 = ((17 * i + 3 : Nat) : Int) by omega]
      refine J_ialoadN (kx := (17 * i + 3)) Y qX9_ban_23 rfl (by decide) rfl (by omega) (by decide) ?_
      rw [u3]
      refine J_istore_5 Y qX9_ban_24 rfl ?_
      refine J_aloadr_0 Y qX9_ban_26 ?_
      refine J_getR Y qX9_ban_27 fX9_62 (by decide) ?_
      refine J_bipush Y qX9_ban_30 (by decide) ?_
      refine J_iload_4 Y qX9_ban_32 ?_
      refine J_imul Y qX9_ban_34 ?_
      refine J_iconst Y qX9_ban_35 ?_
      refine J_iadd Y qX9_ban_36 ?_
      rw [show (17 : Int) * (i : Int) + 2 = ((17 * i + 2 : Nat) : Int) by omega]
      refine J_ialoadN (kx := (17 * i + 2)) Y qX9_ban_37 rfl (by decide) rfl (by omega) (by decide) ?_
      rw [u2]
      refine J_if_ne Y qX9_ban_38 (by omega) (by omega) (fun h38 => ?_) (fun h38 => ?_)
      · refine J_iinc_4 Y qX9_ban_69 rfl ?_
        refine J_goto Y qX9_ban_72 ?_
        refine ih (i + 1) _ (by omega) (by omega) (fun j hj => ?_)
        by_cases ej : j = i
        · subst ej
          refine Bool_no (fun z => ?_)
          obtain ⟨z1, z2, z3⟩ := cBan_iff.mp z
          first
            | omega
            | exact absurd z3 h60
        · exact h3 j (by omega)
      · refine J_iload_5 Y qX9_ban_41 ?_
        refine J_iload_3 Y qX9_ban_43 ?_
        refine J_icmp_eq Y qX9_ban_44 (by omega) (by omega) (by omega) (by omega) (fun h44 => ?_) (fun h44 => ?_)
        · refine J_aloadr_0 Y qX9_ban_54 ?_
          refine J_iload_4 Y qX9_ban_55 ?_
          refine J_iload_1 Y qX9_ban_57 ?_
          refine J_iload_2 Y qX9_ban_58 ?_
          refine J_iload_3 Y qX9_ban_59 ?_
          refine J_cV4B Y qX9_ban_60 mX9_169 iyX9_holds (by decide) rfl (by decide) rfl (Nat.le_of_ble_eq_true rfl) (m_holds (A := A) _ _ _ hI hm hM (by omega) hp hs hg) (fun h60 => ?_) (fun h60 => ?_)
          · refine J_eq1 Y qX9_ban_63 ?_
            refine J_iload_4 Y qX9_ban_66 ?_
            exact J_iret X qX9_ban_68 (RP_i (fstB_at h3 (cBan_iff.mpr ⟨by omega, by omega, h60⟩) k (by omega)).symm)
          · refine J_eq0 Y qX9_ban_63 ?_
            refine J_iinc_4 Y qX9_ban_69 rfl ?_
            refine J_goto Y qX9_ban_72 ?_
            refine ih (i + 1) _ (by omega) (by omega) (fun j hj => ?_)
            by_cases ej : j = i
            · subst ej
              refine Bool_no (fun z => ?_)
              obtain ⟨z1, z2, z3⟩ := cBan_iff.mp z
              first
                | omega
                | exact absurd z3 h60
            · exact h3 j (by omega)
        · refine J_iload_5 Y qX9_ban_47 ?_
          refine J_bipush Y qX9_ban_49 (by decide) ?_
          refine J_icmp_ne Y qX9_ban_51 (by omega) (by omega) (by omega) (by omega) (fun h51 => ?_) (fun h51 => ?_)
          · refine J_iinc_4 Y qX9_ban_69 rfl ?_
            refine J_goto Y qX9_ban_72 ?_
            refine ih (i + 1) _ (by omega) (by omega) (fun j hj => ?_)
            by_cases ej : j = i
            · subst ej
              refine Bool_no (fun z => ?_)
              obtain ⟨z1, z2, z3⟩ := cBan_iff.mp z
              first
                | omega
                | exact absurd z3 h60
            · exact h3 j (by omega)
          · refine J_aloadr_0 Y qX9_ban_54 ?_
            refine J_iload_4 Y qX9_ban_55 ?_
            refine J_iload_1 Y qX9_ban_57 ?_
            refine J_iload_2 Y qX9_ban_58 ?_
            refine J_iload_3 Y qX9_ban_59 ?_
            refine J_cV4B Y qX9_ban_60 mX9_169 iyX9_holds (by decide) rfl (by decide) rfl (Nat.le_of_ble_eq_true rfl) (m_holds (A := A) _ _ _ hI hm hM (by omega) hp hs hg) (fun h60 => ?_) (fun h60 => ?_)
            · refine J_eq1 Y qX9_ban_63 ?_
              refine J_iload_4 Y qX9_ban_66 ?_
              exact J_iret X qX9_ban_68 (RP_i (fstB_at h3 (cBan_iff.mpr ⟨by omega, by omega, h60⟩) k (by omega)).symm)
            · refine J_eq0 Y qX9_ban_63 ?_
              refine J_iinc_4 Y qX9_ban_69 rfl ?_
              refine J_goto Y qX9_ban_72 ?_
              refine ih (i + 1) _ (by omega) (by omega) (fun j hj => ?_)
              by_cases ej : j = i
              · subst ej
                refine Bool_no (fun z => ?_)
                obtain ⟨z1, z2, z3⟩ := cBan_iff.mp z
                first
                  | omega
                  | exact absurd z3 h60
              · exact h3 j (by omega)

theorem m_ban (l : Launch) (G : Gx) (M : Mem) {A : Mem} {m p s g k : Nat} (hI : Inv m A) (hm : m < 512) (hM : MR A M) (hk : A 4 0 2 = (k : Int)) (k10 : k ≤ 10) (hp : p < 10) (hs : (s : Int) < A 0 0 2) (hg : g < 10) : Ct l G 3 yX9_ban cX9_ban 6 ((Option.some Jvm.ClassFile.FieldType.int)) [rf G 9 0, vi (p : Nat), vi (s : Nat), vi (g : Nat)] M (RP M (fstB (cBan (staM A p s g) (A 8 0 9)) k)) := by
  refine Ct.of rfl (Nat.le_of_ble_eq_true rfl) rfl (fun E X => ?_)
  have Y := X.ok
  refine J_iconst Y qX9_ban_0 ?_
  refine J_istore_4 Y qX9_ban_1 rfl ?_
  exact lp_mban hI hm hM hk k10 hp hs hg X (k + 1) 0 _ (by omega) (by omega) (fun j hj => absurd hj (by omega))

theorem lp_mtax {l : Launch} {G : Gx} {E : Fx} {M : Mem} {A : Mem} {m p s g k : Nat} (hI : Inv m A) (hm : m < 512) (hM : MR A M) (hk : A 4 0 2 = (k : Int)) (k10 : k ≤ 10) (hp : p < 10) (hs : (s : Int) < A 0 0 2) (hg : g < 10) (X : OkM l G E cX9_tax RX9 5 3 (some .int) (RP M (taxV (staM A p s g) (A 8 0 9) k))) : ∀ (n i : Nat), i ≤ k → i < n → taxV (staM A p s g) (A 8 0 9) i = (taxV (staM A p s g) (A 8 0 9) k) → J G E 8 [some (rf G 9 0), some (vi (p : Int)), some (vi (s : Int)), some (vi (g : Int)), some (vi ((i : Int) - 1))] [] M := by
  have Y := X.ok
  intro n
  induction n with
  | zero => intro i h1 h2 h3; exfalso; omega
  | succ n ih =>
    intro i h1 h2 h3
    refine J_iload_4 Y qX9_tax_8 ?_
    refine J_if_lt Y qX9_tax_10 (by omega) (by omega) (fun h10 => ?_) (fun h10 => ?_)
    · obtain rfl : i = 0 := by omega
      refine J_iconst Y qX9_tax_60 ?_
      exact J_iret X qX9_tax_61 (RP_i h3)
    · obtain ⟨i, rfl⟩ : ∃ j, i = j + 1 := ⟨i - 1, by omega⟩
      rw [show ((i + 1 : Nat) : Int) - 1 = (i : Int) by omega]
      obtain ⟨q0, ⟨q1, q2⟩, q3⟩ := hI.rule (r := i) (by omega)
      obtain ⟨u0, u1, u2, u3, u4, u5⟩ := hM.ru i (by omega)
      refine J_aloadr_0 Y qX9_tax_13 ?_
      refine J_getR Y qX9_tax_14 fX9_62 (by decide) ?_
      refine J_bipush Y qX9_tax_17 (by decide) ?_
      refine J_iload_4 Y qX9_tax_19 ?_
      refine J_imul Y qX9_tax_21 ?_
      refine J_iconst Y qX9_tax_22 ?_
      refine J_iadd Y qX9_tax_23 ?_
      rw [show (17 : Int) * (i : Int) + 2 = ((17 * i + 2 : Nat) : Int) by omega]
      refine J_ialoadN (kx := (17 * i + 2)) Y qX9_tax_24 rfl (by decide) rfl (by omega) (by decide) ?_
      rw [u2]
      refine J_iconst Y qX9_tax_25 ?_
      refine J_icmp_ne Y qX9_tax_26 (by omega) (by omega) (by omega) (by omega) (fun h26 => ?_) (fun h26 => ?_)
      · refine J_iinc_4 Y qX9_tax_54 rfl ?_
        refine J_goto Y qX9_tax_57 ?_
        have ih9 := ih i (by omega) (by omega) (by
          rw [← h3, taxV, if_neg (fun z => by
            obtain ⟨z1, z2⟩ := cTx0_iff.mp z
            first
              | omega
              | exact absurd z2 h35)])
        rw [show (i : Int) + -1 = (i : Int) - 1 by omega]
        exact ih9
      · refine J_aloadr_0 Y qX9_tax_29 ?_
        refine J_iload_4 Y qX9_tax_30 ?_
        refine J_iload_1 Y qX9_tax_32 ?_
        refine J_iload_2 Y qX9_tax_33 ?_
        refine J_iload_3 Y qX9_tax_34 ?_
        refine J_cV4B Y qX9_tax_35 mX9_169 iyX9_holds (by decide) rfl (by decide) rfl (Nat.le_of_ble_eq_true rfl) (m_holds (A := A) _ _ _ hI hm hM (by omega) hp hs hg) (fun h35 => ?_) (fun h35 => ?_)
        · refine J_eq1 Y qX9_tax_38 ?_
          refine J_aloadr_0 Y qX9_tax_41 ?_
          refine J_getR Y qX9_tax_42 fX9_62 (by decide) ?_
          refine J_bipush Y qX9_tax_45 (by decide) ?_
          refine J_iload_4 Y qX9_tax_47 ?_
          refine J_imul Y qX9_tax_49 ?_
          refine J_iconst Y qX9_tax_50 ?_
          refine J_iadd Y qX9_tax_51 ?_
          rw [show (17 : Int) * (i : Int) + 3 = ((17 * i + 3 : Nat) : Int) by omega]
          refine J_ialoadN (kx := (17 * i + 3)) Y qX9_tax_52 rfl (by decide) rfl (by omega) (by decide) ?_
          rw [u3]
          exact J_iret X qX9_tax_53 (RP_i (by rw [← h3, taxV, if_pos (cTx0_iff.mpr ⟨by omega, h35⟩), staM_ne (by decide)]))
        · refine J_eq0 Y qX9_tax_38 ?_
          refine J_iinc_4 Y qX9_tax_54 rfl ?_
          refine J_goto Y qX9_tax_57 ?_
          have ih9 := ih i (by omega) (by omega) (by
            rw [← h3, taxV, if_neg (fun z => by
              obtain ⟨z1, z2⟩ := cTx0_iff.mp z
              first
                | omega
                | exact absurd z2 h35)])
          rw [show (i : Int) + -1 = (i : Int) - 1 by omega]
          exact ih9

theorem m_tax (l : Launch) (G : Gx) (M : Mem) {A : Mem} {m p s g k : Nat} (hI : Inv m A) (hm : m < 512) (hM : MR A M) (hk : A 4 0 2 = (k : Int)) (k10 : k ≤ 10) (hp : p < 10) (hs : (s : Int) < A 0 0 2) (hg : g < 10) : Ct l G 3 yX9_tax cX9_tax 5 ((Option.some Jvm.ClassFile.FieldType.int)) [rf G 9 0, vi (p : Nat), vi (s : Nat), vi (g : Nat)] M (RP M (taxV (staM A p s g) (A 8 0 9) k)) := by
  refine Ct.of rfl (Nat.le_of_ble_eq_true rfl) rfl (fun E X => ?_)
  have Y := X.ok
  have e19 : M 9 0 19 = (k : Int) := by rw [hM.r0.2.2.1]; exact hk
  refine J_aloadr_0 Y qX9_tax_0 ?_
  refine J_getI Y qX9_tax_1 fX9_160 (by decide) ?_
  rw [e19]
  refine J_iconst Y qX9_tax_4 ?_
  refine J_isub Y qX9_tax_5 ?_
  refine J_istore_4 Y qX9_tax_6 rfl ?_
  exact lp_mtax hI hm hM hk k10 hp hs hg X (k + 1) k (by omega) (by omega) rfl

theorem lp_mqua {l : Launch} {G : Gx} {E : Fx} {M : Mem} {A : Mem} {m p s g k : Nat} (hI : Inv m A) (hm : m < 512) (hM : MR A M) (hk : A 4 0 2 = (k : Int)) (k10 : k ≤ 10) (hp : p < 10) (hs : (s : Int) < A 0 0 2) (hg : g < 10) (X : OkM l G E cX9_quarrel RX9 6 4 (some .int) (RP M (quaV (staM A p s g) (A 8 0 9) k))) : ∀ (n i : Nat), i ≤ k → k < i + n → (∀ j, j < i → cTax (staM A p s g) (A 8 0 9) j = false) → J G E 12 [some (rf G 9 0), some (vi (p : Int)), some (vi (s : Int)), some (vi (g : Int)), some (vi (fstB (cBan (staM A p s g) (A 8 0 9)) k)), some (vi (i : Int))] [] M := by
  have Y := X.ok
  intro n
  induction n with
  | zero => intro i h1 h2 h3; exfalso; omega
  | succ n ih =>
    intro i h1 h2 h3
    have e19 : M 9 0 19 = (k : Int) := by rw [hM.r0.2.2.1]; exact hk
    have rb := fstB_rng (cBan (staM A p s g) (A 8 0 9)) k
    refine J_iload_5 Y qX9_quarrel_12 ?_
    refine J_aloadr_0 Y qX9_quarrel_14 ?_
    refine J_getI Y qX9_quarrel_15 fX9_160 (by decide) ?_
    rw [e19]
    refine J_icmp_ge Y qX9_quarrel_18 (by omega) (by omega) (by omega) (by omega) (fun h18 => ?_) (fun h18 => ?_)
    · skip
      refine J_iconst Y qX9_quarrel_85 ?_
      first
        | exact J_iret X qX9_quarrel_86 (RP_i (by rw [quaV, if_pos (Or.inl (by omega))]))
        | (obtain rfl : i = k := by omega
           exact J_iret X qX9_quarrel_86 (RP_i (by rw [quaV, if_pos (Or.inr (fstB_no i h3))])))
    · refine J_iload_4 Y qX9_quarrel_21 ?_
      refine J_iconst Y qX9_quarrel_23 ?_
      refine J_icmp_eq Y qX9_quarrel_24 (by omega) (by omega) (by omega) (by omega) (fun h24 => ?_) (fun h24 => ?_)
      · skip
        refine J_iconst Y qX9_quarrel_85 ?_
        first
          | exact J_iret X qX9_quarrel_86 (RP_i (by rw [quaV, if_pos (Or.inl (by omega))]))
          | (obtain rfl : i = k := by omega
             exact J_iret X qX9_quarrel_86 (RP_i (by rw [quaV, if_pos (Or.inr (fstB_no i h3))])))
      · obtain ⟨q0, ⟨q1, q2⟩, q3⟩ := hI.rule (r := i) (by omega)
        obtain ⟨u0, u1, u2, u3, u4, u5⟩ := hM.ru i (by omega)
        refine J_aloadr_0 Y qX9_quarrel_27 ?_
        refine J_getR Y qX9_quarrel_28 fX9_62 (by decide) ?_
        refine J_bipush Y qX9_quarrel_31 (by decide) ?_
        refine J_iload_5 Y qX9_quarrel_33 ?_
        refine J_imul Y qX9_quarrel_35 ?_
        refine J_iconst Y qX9_quarrel_36 ?_
        refine J_iadd Y qX9_quarrel_37 ?_
        rw [show (17 : Int) * (i : Int) + 2 = ((17 * i + 2 : Nat) : Int) by omega]
        refine J_ialoadN (kx := (17 * i + 2)) Y qX9_quarrel_38 rfl (by decide) rfl (by omega) (by decide) ?_
        rw [u2]
        refine J_iconst Y qX9_quarrel_39 ?_
        refine J_icmp_ne Y qX9_quarrel_40 (by omega) (by omega) (by omega) (by omega) (fun h40 => ?_) (fun h40 => ?_)
        · refine J_iinc_5 Y qX9_quarrel_79 rfl ?_
          refine J_goto Y qX9_quarrel_82 ?_
          refine ih (i + 1) (by omega) (by omega) (fun j hj => ?_)
          by_cases ej : j = i
          · subst ej
            refine Bool_no (fun z => ?_)
            obtain ⟨z1, z2, z3⟩ := cTax_iff.mp z
            first
              | omega
              | exact absurd z3 h64
          · exact h3 j (by omega)
        · refine J_aloadr_0 Y qX9_quarrel_43 ?_
          refine J_getR Y qX9_quarrel_44 fX9_62 (by decide) ?_
          refine J_bipush Y qX9_quarrel_47 (by decide) ?_
          refine J_iload_5 Y qX9_quarrel_49 ?_
          refine J_imul Y qX9_quarrel_51 ?_
          refine J_iconst Y qX9_quarrel_52 ?_
          refine J_iadd Y qX9_quarrel_53 ?_
          rw [show (17 : Int) * (i : Int) + 3 = ((17 * i + 3 : Nat) : Int) by omega]
          refine J_ialoadN (kx := (17 * i + 3)) Y qX9_quarrel_54 rfl (by decide) rfl (by omega) (by decide) ?_
          rw [u3]
          refine J_if_eq Y qX9_quarrel_55 (by omega) (by omega) (fun h55 => ?_) (fun h55 => ?_)
          · refine J_iinc_5 Y qX9_quarrel_79 rfl ?_
            refine J_goto Y qX9_quarrel_82 ?_
            refine ih (i + 1) (by omega) (by omega) (fun j hj => ?_)
            by_cases ej : j = i
            · subst ej
              refine Bool_no (fun z => ?_)
              obtain ⟨z1, z2, z3⟩ := cTax_iff.mp z
              first
                | omega
                | exact absurd z3 h64
            · exact h3 j (by omega)
          · refine J_aloadr_0 Y qX9_quarrel_58 ?_
            refine J_iload_5 Y qX9_quarrel_59 ?_
            refine J_iload_1 Y qX9_quarrel_61 ?_
            refine J_iload_2 Y qX9_quarrel_62 ?_
            refine J_iload_3 Y qX9_quarrel_63 ?_
            refine J_cV4B Y qX9_quarrel_64 mX9_169 iyX9_holds (by decide) rfl (by decide) rfl (Nat.le_of_ble_eq_true rfl) (m_holds (A := A) _ _ _ hI hm hM (by omega) hp hs hg) (fun h64 => ?_) (fun h64 => ?_)
            · refine J_eq1 Y qX9_quarrel_67 ?_
              refine J_bipush Y qX9_quarrel_70 (by decide) ?_
              refine J_iload_4 Y qX9_quarrel_72 ?_
              refine J_imul Y qX9_quarrel_74 ?_
              refine J_iload_5 Y qX9_quarrel_75 ?_
              refine J_iadd Y qX9_quarrel_77 ?_
              exact J_iret X qX9_quarrel_78 (RP_i (by rw [quaV, fstB_at h3 (cTax_iff.mpr ⟨by omega, by omega, h64⟩) k (by omega), if_neg (by omega)]))
            · refine J_eq0 Y qX9_quarrel_67 ?_
              refine J_iinc_5 Y qX9_quarrel_79 rfl ?_
              refine J_goto Y qX9_quarrel_82 ?_
              refine ih (i + 1) (by omega) (by omega) (fun j hj => ?_)
              by_cases ej : j = i
              · subst ej
                refine Bool_no (fun z => ?_)
                obtain ⟨z1, z2, z3⟩ := cTax_iff.mp z
                first
                  | omega
                  | exact absurd z3 h64
              · exact h3 j (by omega)

theorem m_quarrel (l : Launch) (G : Gx) (M : Mem) {A : Mem} {m p s g k : Nat} (hI : Inv m A) (hm : m < 512) (hM : MR A M) (hk : A 4 0 2 = (k : Int)) (k10 : k ≤ 10) (hp : p < 10) (hs : (s : Int) < A 0 0 2) (hg : g < 10) : Ct l G 4 yX9_quarrel cX9_quarrel 6 ((Option.some Jvm.ClassFile.FieldType.int)) [rf G 9 0, vi (p : Nat), vi (s : Nat), vi (g : Nat)] M (RP M (quaV (staM A p s g) (A 8 0 9) k)) := by
  refine Ct.of rfl (Nat.le_of_ble_eq_true rfl) rfl (fun E X => ?_)
  have Y := X.ok
  refine J_aloadr_0 Y qX9_quarrel_0 ?_
  refine J_iload_1 Y qX9_quarrel_1 ?_
  refine J_iload_2 Y qX9_quarrel_2 ?_
  refine J_iload_3 Y qX9_quarrel_3 ?_
  refine J_cV3P Y qX9_quarrel_4 mX9_173 iyX9_ban (by decide) rfl (by decide) rfl (Nat.le_of_ble_eq_true rfl) (m_ban (A := A) _ _ _ hI (by omega) hM hk (by omega) (by omega) (by omega) (by omega)) ?_
  refine J_istore_4 Y qX9_quarrel_7 rfl ?_
  refine J_iconst Y qX9_quarrel_9 ?_
  refine J_istore_5 Y qX9_quarrel_10 rfl ?_
  exact lp_mqua hI hm hM hk k10 hp hs hg X (k + 1) 0 (by omega) (by omega) (fun j hj => absurd hj (by omega))

theorem r_may (l : Launch) (G : Gx) (M : Mem) {A : Mem} {n : Nat} {a b c : Int} (a1 : -2147483648 ≤ a) (a2 : a < 2147483648) (b1 : -2147483648 ≤ b) (b2 : b < 2147483648) (c1 : -2147483648 ≤ c) (c2 : c < 2147483648) (hI : Inv n A) (hn : n < 512) (hM : MR A M)  : Ct l G 5 yX9_may cX9_may 4 ((Option.some Jvm.ClassFile.FieldType.int)) [rf G 9 0, vi a, vi b, vi c] M (QR (f_may A a b c) M) := by
  refine Ct.of rfl (Nat.le_of_ble_eq_true rfl) rfl (fun E X => ?_)
  have Y := X.ok
  obtain ⟨m1, m2, m3, m4, m5, m6⟩ := hM.r0
  obtain ⟨c1, c2⟩ := hI.count
  obtain ⟨d1, d2⟩ := hI.day
  refine J_iload_1 Y qX9_may_0 ?_
  refine J_cS1B Y qX9_may_1 mX9_108 iyX9_isPerson rfl (by decide) rfl (Nat.le_of_ble_eq_true rfl) (m_isPerson _ _ _ (by omega) (by omega)) (fun h1 => ?_) (fun h1 => ?_)
  · refine J_eq1 Y qX9_may_4 ?_
    refine J_aloadr_0 Y qX9_may_7 ?_
    refine J_iload_2 Y qX9_may_8 ?_
    refine J_cV1B Y qX9_may_9 mX9_101 iyX9_isShop (by decide) rfl (by decide) rfl (Nat.le_of_ble_eq_true rfl) (m_isShop _ _ _ (by omega) (by omega) (by omega) (by omega)) (fun h9 => ?_) (fun h9 => ?_)
    · refine J_eq1 Y qX9_may_12 ?_
      refine J_iload_3 Y qX9_may_15 ?_
      refine J_iconst Y qX9_may_16 ?_
      refine J_bipush Y qX9_may_17 (by decide) ?_
      refine J_cS3B Y qX9_may_19 mX9_93 iyX9_in rfl (by decide) rfl (Nat.le_of_ble_eq_true rfl) (m_in _ _ _ (by omega) (by omega) (by omega) (by omega) (by omega) (by omega)) (fun h19 => ?_) (fun h19 => ?_)
      · refine J_ne1 Y qX9_may_22 ?_
        obtain ⟨p, rfl⟩ := nat_of (show 0 ≤ a by omega)
        obtain ⟨s, rfl⟩ := nat_of (show 0 ≤ b by omega)
        obtain ⟨g, rfl⟩ := nat_of (show 0 ≤ c by omega)
        have pr := hI.part (s := s) (p := p) (by omega) (by omega)
        obtain ⟨l1, l2, l3, l4⟩ := hI.lets (s := s) (by omega)
        have e45 := (hM.rp s (by omega) p (by omega)).2
        have e46 := (hM.rl s (by omega)).1
        obtain ⟨ru1, ru2⟩ := hI.rules
        obtain ⟨k, hk⟩ := nat_of ru1
        have rr := fstB_rng (cBan (staM A p s g) (A 8 0 9)) k
        refine J_aloadr_0 Y qX9_may_32 ?_
        refine J_getR Y qX9_may_33 fX9_25 (by decide) ?_
        refine J_bipush Y qX9_may_36 (by decide) ?_
        refine J_iload_2 Y qX9_may_38 ?_
        refine J_imul Y qX9_may_39 ?_
        refine J_bipush Y qX9_may_40 (by decide) ?_
        refine J_iadd Y qX9_may_42 ?_
        refine J_iload_1 Y qX9_may_43 ?_
        refine J_iadd Y qX9_may_44 ?_
        rw [show (20 : Int) * (s : Int) + 10 + (p : Int) = ((20 * s + 10 + p : Nat) : Int) by omega]
        refine J_ialoadN (kx := (20 * s + 10 + p)) Y qX9_may_45 rfl (by decide) rfl (by omega) (by decide) ?_
        rw [e45]
        refine J_if_ne Y qX9_may_46 (by omega) (by omega) (fun h46 => ?_) (fun h46 => ?_)
        · refine J_aloadr_0 Y qX9_may_61 ?_
          refine J_iload_1 Y qX9_may_62 ?_
          refine J_iload_2 Y qX9_may_63 ?_
          refine J_iload_3 Y qX9_may_64 ?_
          refine J_cV3P Y qX9_may_65 mX9_173 iyX9_ban (by decide) rfl (by decide) rfl (Nat.le_of_ble_eq_true rfl) (m_ban (A := A) _ _ _ hI (by omega) hM hk (by omega) (by omega) (by omega) (by omega)) ?_
          refine J_iconst Y qX9_may_68 ?_
          refine J_icmp_ne Y qX9_may_69 (by omega) (by omega) (by omega) (by omega) (fun h69 => ?_) (fun h69 => ?_)
          · refine J_iconst Y qX9_may_76 ?_
            exact J_iret X qX9_may_77 (QR_e (by
              unfold f_may
              try simp only [Int.toNat_natCast, hk]
              repeat (first | rewrite [if_pos trivial] | rewrite [if_pos (by omega)] | rewrite [if_neg (by omega)])
              exact rfl) (by first | rfl | (dsimp only; omega)) (by first | exact hM | exact MR_rfs hM (by decide) | exact MR_sta hM) (by first | exact Sm.rfl' | exact Sm_up (Or.inl (by decide))))
          · refine J_iconst Y qX9_may_72 ?_
            refine J_goto Y qX9_may_73 ?_
            exact J_iret X qX9_may_77 (QR_e (by
              unfold f_may
              try simp only [Int.toNat_natCast, hk]
              repeat (first | rewrite [if_pos trivial] | rewrite [if_pos (by omega)] | rewrite [if_neg (by omega)])
              exact rfl) (by first | rfl | (dsimp only; omega)) (by first | exact hM | exact MR_rfs hM (by decide) | exact MR_sta hM) (by first | exact Sm.rfl' | exact Sm_up (Or.inl (by decide))))
        · refine J_aloadr_0 Y qX9_may_49 ?_
          refine J_getR Y qX9_may_50 fX9_28 (by decide) ?_
          refine J_iload_2 Y qX9_may_53 ?_
          refine J_ialoadN (kx := s) Y qX9_may_54 rfl (by decide) rfl (by omega) (by decide) ?_
          rw [e46]
          refine J_iload_1 Y qX9_may_55 ?_
          refine J_icmp_eq Y qX9_may_56 (by omega) (by omega) (by omega) (by omega) (fun h56 => ?_) (fun h56 => ?_)
          · refine J_aloadr_0 Y qX9_may_61 ?_
            refine J_iload_1 Y qX9_may_62 ?_
            refine J_iload_2 Y qX9_may_63 ?_
            refine J_iload_3 Y qX9_may_64 ?_
            refine J_cV3P Y qX9_may_65 mX9_173 iyX9_ban (by decide) rfl (by decide) rfl (Nat.le_of_ble_eq_true rfl) (m_ban (A := A) _ _ _ hI (by omega) hM hk (by omega) (by omega) (by omega) (by omega)) ?_
            refine J_iconst Y qX9_may_68 ?_
            refine J_icmp_ne Y qX9_may_69 (by omega) (by omega) (by omega) (by omega) (fun h69 => ?_) (fun h69 => ?_)
            · refine J_iconst Y qX9_may_76 ?_
              exact J_iret X qX9_may_77 (QR_e (by
                unfold f_may
                try simp only [Int.toNat_natCast, hk]
                repeat (first | rewrite [if_pos trivial] | rewrite [if_pos (by omega)] | rewrite [if_neg (by omega)])
                exact rfl) (by first | rfl | (dsimp only; omega)) (by first | exact hM | exact MR_rfs hM (by decide) | exact MR_sta hM) (by first | exact Sm.rfl' | exact Sm_up (Or.inl (by decide))))
            · refine J_iconst Y qX9_may_72 ?_
              refine J_goto Y qX9_may_73 ?_
              exact J_iret X qX9_may_77 (QR_e (by
                unfold f_may
                try simp only [Int.toNat_natCast, hk]
                repeat (first | rewrite [if_pos trivial] | rewrite [if_pos (by omega)] | rewrite [if_neg (by omega)])
                exact rfl) (by first | rfl | (dsimp only; omega)) (by first | exact hM | exact MR_rfs hM (by decide) | exact MR_sta hM) (by first | exact Sm.rfl' | exact Sm_up (Or.inl (by decide))))
          · refine J_iconst Y qX9_may_59 ?_
            exact J_iret X qX9_may_60 (QR_e (by
              unfold f_may
              try simp only [Int.toNat_natCast, hk]
              repeat (first | rewrite [if_pos trivial] | rewrite [if_pos (by omega)] | rewrite [if_neg (by omega)])
              exact rfl) (by first | rfl | (dsimp only; omega)) (by first | exact hM | exact MR_rfs hM (by decide) | exact MR_sta hM) (by first | exact Sm.rfl' | exact Sm_up (Or.inl (by decide))))
      · refine J_ne0 Y qX9_may_22 ?_
        refine J_aloadr_0 Y qX9_may_25 ?_
        refine J_bipush Y qX9_may_26 (by decide) ?_
        refine J_cV1F Y qX9_may_28 mX9_97 iyX9_refuse (by decide) rfl (by decide) rfl (Nat.le_of_ble_eq_true rfl) (m_refuse _ _ _ 3 (by decide) rfl) ?_
        exact J_iret X qX9_may_31 (QR_e (by
          unfold f_may
          try simp only [Int.toNat_natCast, hk]
          repeat (first | rewrite [if_pos trivial] | rewrite [if_pos (by omega)] | rewrite [if_neg (by omega)])
          exact rfl) (by first | rfl | (dsimp only; omega)) (by first | exact hM | exact MR_rfs hM (by decide) | exact MR_sta hM) (by first | exact Sm.rfl' | exact Sm_up (Or.inl (by decide))))
    · refine J_eq0 Y qX9_may_12 ?_
      refine J_aloadr_0 Y qX9_may_25 ?_
      refine J_bipush Y qX9_may_26 (by decide) ?_
      refine J_cV1F Y qX9_may_28 mX9_97 iyX9_refuse (by decide) rfl (by decide) rfl (Nat.le_of_ble_eq_true rfl) (m_refuse _ _ _ 3 (by decide) rfl) ?_
      exact J_iret X qX9_may_31 (QR_e (by
        unfold f_may
        try simp only [Int.toNat_natCast, hk]
        repeat (first | rewrite [if_pos trivial] | rewrite [if_pos (by omega)] | rewrite [if_neg (by omega)])
        exact rfl) (by first | rfl | (dsimp only; omega)) (by first | exact hM | exact MR_rfs hM (by decide) | exact MR_sta hM) (by first | exact Sm.rfl' | exact Sm_up (Or.inl (by decide))))
  · refine J_eq0 Y qX9_may_4 ?_
    refine J_aloadr_0 Y qX9_may_25 ?_
    refine J_bipush Y qX9_may_26 (by decide) ?_
    refine J_cV1F Y qX9_may_28 mX9_97 iyX9_refuse (by decide) rfl (by decide) rfl (Nat.le_of_ble_eq_true rfl) (m_refuse _ _ _ 3 (by decide) rfl) ?_
    exact J_iret X qX9_may_31 (QR_e (by
      unfold f_may
      try simp only [Int.toNat_natCast, hk]
      repeat (first | rewrite [if_pos trivial] | rewrite [if_pos (by omega)] | rewrite [if_neg (by omega)])
      exact rfl) (by first | rfl | (dsimp only; omega)) (by first | exact hM | exact MR_rfs hM (by decide) | exact MR_sta hM) (by first | exact Sm.rfl' | exact Sm_up (Or.inl (by decide))))

theorem r_why (l : Launch) (G : Gx) (M : Mem) {A : Mem} {n : Nat} {a b c : Int} (a1 : -2147483648 ≤ a) (a2 : a < 2147483648) (b1 : -2147483648 ≤ b) (b2 : b < 2147483648) (c1 : -2147483648 ≤ c) (c2 : c < 2147483648) (hI : Inv n A) (hn : n < 512) (hM : MR A M)  : Ct l G 5 yX9_why cX9_why 6 ((Option.some Jvm.ClassFile.FieldType.int)) [rf G 9 0, vi a, vi b, vi c] M (QR (f_why A a b c) M) := by
  refine Ct.of rfl (Nat.le_of_ble_eq_true rfl) rfl (fun E X => ?_)
  have Y := X.ok
  obtain ⟨m1, m2, m3, m4, m5, m6⟩ := hM.r0
  obtain ⟨c1, c2⟩ := hI.count
  obtain ⟨d1, d2⟩ := hI.day
  refine J_iload_1 Y qX9_why_0 ?_
  refine J_iconst Y qX9_why_1 ?_
  refine J_bipush Y qX9_why_2 (by decide) ?_
  refine J_cS3B Y qX9_why_4 mX9_93 iyX9_in rfl (by decide) rfl (Nat.le_of_ble_eq_true rfl) (m_in _ _ _ (by omega) (by omega) (by omega) (by omega) (by omega) (by omega)) (fun h4 => ?_) (fun h4 => ?_)
  · refine J_eq1 Y qX9_why_7 ?_
    refine J_aloadr_0 Y qX9_why_10 ?_
    refine J_iload_2 Y qX9_why_11 ?_
    refine J_cV1B Y qX9_why_12 mX9_101 iyX9_isShop (by decide) rfl (by decide) rfl (Nat.le_of_ble_eq_true rfl) (m_isShop _ _ _ (by omega) (by omega) (by omega) (by omega)) (fun h12 => ?_) (fun h12 => ?_)
    · refine J_ne1 Y qX9_why_15 ?_
      obtain ⟨p, hp⟩ := nat_of (show 0 ≤ a / 10 by omega)
      obtain ⟨s, rfl⟩ := nat_of (show 0 ≤ b by omega)
      obtain ⟨g, hg⟩ := nat_of (show 0 ≤ a % 10 by omega)
      obtain ⟨ru1, ru2⟩ := hI.rules
      obtain ⟨k, hk⟩ := nat_of ru1
      refine J_iload_1 Y qX9_why_25 ?_
      refine J_bipush Y qX9_why_26 (by decide) ?_
      refine J_idiv Y qX9_why_28 (by omega) (by omega) (by omega) (by omega) ?_
      rw [hp]
      refine J_istore_4 Y qX9_why_29 rfl ?_
      refine J_iload_1 Y qX9_why_31 ?_
      refine J_bipush Y qX9_why_32 (by decide) ?_
      refine J_irem Y qX9_why_34 (by omega) (by omega) (by omega) (by omega) ?_
      rw [hg]
      refine J_istore_5 Y qX9_why_35 rfl ?_
      refine J_iload_3 Y qX9_why_37 ?_
      refine J_if_ne Y qX9_why_38 (by omega) (by omega) (fun h38 => ?_) (fun h38 => ?_)
      · refine J_iload_3 Y qX9_why_53 ?_
        refine J_iconst Y qX9_why_54 ?_
        refine J_icmp_ne Y qX9_why_55 (by omega) (by omega) (by omega) (by omega) (fun h55 => ?_) (fun h55 => ?_)
        · refine J_iload_3 Y qX9_why_70 ?_
          refine J_iconst Y qX9_why_71 ?_
          refine J_icmp_ne Y qX9_why_72 (by omega) (by omega) (by omega) (by omega) (fun h72 => ?_) (fun h72 => ?_)
          · refine J_aloadr_0 Y qX9_why_87 ?_
            refine J_bipush Y qX9_why_88 (by decide) ?_
            refine J_cV1F Y qX9_why_90 mX9_97 iyX9_refuse (by decide) rfl (by decide) rfl (Nat.le_of_ble_eq_true rfl) (m_refuse _ _ _ 7 (by decide) rfl) ?_
            exact J_iret X qX9_why_93 (QR_e (by
              unfold f_why
              try simp only [Int.toNat_natCast, hk, hp, hg]
              repeat (first | rewrite [if_pos trivial] | rewrite [if_pos (by omega)] | rewrite [if_neg (by omega)])
              exact rfl) (by first | rfl | (dsimp only; omega)) (by first | exact hM | exact MR_rfs hM (by decide) | exact MR_sta hM) (by first | exact Sm.rfl' | exact Sm_up (Or.inl (by decide))))
          · refine J_aloadr_0 Y qX9_why_75 ?_
            refine J_iload_4 Y qX9_why_76 ?_
            refine J_iload_2 Y qX9_why_78 ?_
            refine J_iload_5 Y qX9_why_79 ?_
            refine J_cV3P Y qX9_why_81 mX9_180 iyX9_quarrel (by decide) rfl (by decide) rfl (Nat.le_of_ble_eq_true rfl) (m_quarrel (A := A) _ _ _ hI (by omega) hM hk (by omega) (by omega) (by omega) (by omega)) ?_
            refine J_goto Y qX9_why_84 ?_
            exact J_iret X qX9_why_93 (QR_e (by
              unfold f_why
              try simp only [Int.toNat_natCast, hk, hp, hg]
              repeat (first | rewrite [if_pos trivial] | rewrite [if_pos (by omega)] | rewrite [if_neg (by omega)])
              exact rfl) (by first | rfl | (dsimp only; omega)) (by first | exact hM | exact MR_rfs hM (by decide) | exact MR_sta hM) (by first | exact Sm.rfl' | exact Sm_up (Or.inl (by decide))))
        · refine J_aloadr_0 Y qX9_why_58 ?_
          refine J_iload_4 Y qX9_why_59 ?_
          refine J_iload_2 Y qX9_why_61 ?_
          refine J_iload_5 Y qX9_why_62 ?_
          refine J_cV3P Y qX9_why_64 mX9_177 iyX9_tax (by decide) rfl (by decide) rfl (Nat.le_of_ble_eq_true rfl) (m_tax (A := A) _ _ _ hI (by omega) hM hk (by omega) (by omega) (by omega) (by omega)) ?_
          refine J_goto Y qX9_why_67 ?_
          exact J_iret X qX9_why_93 (QR_e (by
            unfold f_why
            try simp only [Int.toNat_natCast, hk, hp, hg]
            repeat (first | rewrite [if_pos trivial] | rewrite [if_pos (by omega)] | rewrite [if_neg (by omega)])
            exact rfl) (by first | rfl | (dsimp only; omega)) (by first | exact hM | exact MR_rfs hM (by decide) | exact MR_sta hM) (by first | exact Sm.rfl' | exact Sm_up (Or.inl (by decide))))
      · refine J_aloadr_0 Y qX9_why_41 ?_
        refine J_iload_4 Y qX9_why_42 ?_
        refine J_iload_2 Y qX9_why_44 ?_
        refine J_iload_5 Y qX9_why_45 ?_
        refine J_cV3P Y qX9_why_47 mX9_173 iyX9_ban (by decide) rfl (by decide) rfl (Nat.le_of_ble_eq_true rfl) (m_ban (A := A) _ _ _ hI (by omega) hM hk (by omega) (by omega) (by omega) (by omega)) ?_
        refine J_goto Y qX9_why_50 ?_
        exact J_iret X qX9_why_93 (QR_e (by
          unfold f_why
          try simp only [Int.toNat_natCast, hk, hp, hg]
          repeat (first | rewrite [if_pos trivial] | rewrite [if_pos (by omega)] | rewrite [if_neg (by omega)])
          exact rfl) (by first | rfl | (dsimp only; omega)) (by first | exact hM | exact MR_rfs hM (by decide) | exact MR_sta hM) (by first | exact Sm.rfl' | exact Sm_up (Or.inl (by decide))))
    · refine J_ne0 Y qX9_why_15 ?_
      refine J_aloadr_0 Y qX9_why_18 ?_
      refine J_bipush Y qX9_why_19 (by decide) ?_
      refine J_cV1F Y qX9_why_21 mX9_97 iyX9_refuse (by decide) rfl (by decide) rfl (Nat.le_of_ble_eq_true rfl) (m_refuse _ _ _ 3 (by decide) rfl) ?_
      exact J_iret X qX9_why_24 (QR_e (by
        unfold f_why
        try simp only [Int.toNat_natCast, hk, hp, hg]
        repeat (first | rewrite [if_pos trivial] | rewrite [if_pos (by omega)] | rewrite [if_neg (by omega)])
        exact rfl) (by first | rfl | (dsimp only; omega)) (by first | exact hM | exact MR_rfs hM (by decide) | exact MR_sta hM) (by first | exact Sm.rfl' | exact Sm_up (Or.inl (by decide))))
  · refine J_eq0 Y qX9_why_7 ?_
    refine J_aloadr_0 Y qX9_why_18 ?_
    refine J_bipush Y qX9_why_19 (by decide) ?_
    refine J_cV1F Y qX9_why_21 mX9_97 iyX9_refuse (by decide) rfl (by decide) rfl (Nat.le_of_ble_eq_true rfl) (m_refuse _ _ _ 3 (by decide) rfl) ?_
    exact J_iret X qX9_why_24 (QR_e (by
      unfold f_why
      try simp only [Int.toNat_natCast, hk, hp, hg]
      repeat (first | rewrite [if_pos trivial] | rewrite [if_pos (by omega)] | rewrite [if_neg (by omega)])
      exact rfl) (by first | rfl | (dsimp only; omega)) (by first | exact hM | exact MR_rfs hM (by decide) | exact MR_sta hM) (by first | exact Sm.rfl' | exact Sm_up (Or.inl (by decide))))


/-! ===== the reference: death, its walk ===== -/
theorem dpS_n (N : Mem) (s p : Nat) (h0 : Int) (i : Nat) : dpS N s p h0 i 50 0 (8 * s + i) = N 50 0 (8 * s + i) := by
  rw [dpS, upR_at, if_neg (by omega)]
theorem lp_md5 {l : Launch} {G : Gx} {E : Fx} {M : Mem} {all went h0 : Int} {p s kp : Nat} {x6 x7 x8 : Option Value} {P : Option Value → Mem → Prop} {d : Nat} (hp : p < 10) (hs : s < 14) (hkp : M 49 0 s = (kp : Int)) (k8 : kp ≤ 8) (hh0 : M 53 0 (4 * p) = h0) (hr : ∀ j, j < kp → 0 ≤ M 50 0 (8 * s + j) ∧ M 50 0 (8 * s + j) ≤ 9) (hK : J G E 322 [some (rf G 9 0), some (vi (p : Int)), some (vi all), some (vi went), some (vi (s : Int)), some (vi (kp : Int)), x6, x7, x8] [] (dpS M s p h0 kp)) (X : OkM l G E cX9_death RX9 9 d (some .int) (P)) : ∀ (n i : Nat), i ≤ kp → kp < i + n → J G E 250 [some (rf G 9 0), some (vi (p : Int)), some (vi all), some (vi went), some (vi (s : Int)), some (vi (i : Int)), x6, x7, x8] [] (dpS M s p h0 i) := by
  have Y := X.ok
  intro n
  induction n with
  | zero => intro i h1 h2; exfalso; omega
  | succ n ih =>
    intro i h1 h2
    refine J_iload_5 Y qX9_death_250 ?_
    refine J_aloadr_0 Y qX9_death_252 ?_
    refine J_getR Y qX9_death_253 fX9_37 (by decide) ?_
    refine J_iload_4 Y qX9_death_256 ?_
    refine J_ialoadN (kx := s) Y qX9_death_258 rfl (by decide) rfl (by omega) (by decide) ?_
    rw [show dpS M s p h0 i 49 0 s = (kp : Int) from (upR_ne (by omega)).trans hkp]
    refine J_icmp_ge Y qX9_death_259 (by omega) (by omega) (by omega) (by omega) (fun h259 => ?_) (fun h259 => ?_)
    · obtain rfl : i = kp := by omega
      exact hK
    · have hri := hr i (by omega)
      refine J_aloadr_0 Y qX9_death_262 ?_
      refine J_getR Y qX9_death_263 fX9_40 (by decide) ?_
      refine J_bipush Y qX9_death_266 (by decide) ?_
      refine J_iload_4 Y qX9_death_268 ?_
      refine J_imul Y qX9_death_270 ?_
      refine J_iload_5 Y qX9_death_271 ?_
      refine J_iadd Y qX9_death_273 ?_
      rw [show (8 : Int) * (s : Int) + (i : Int) = ((8 * s + i : Nat) : Int) by omega]
      refine J_aloadr_0 Y qX9_death_274 ?_
      refine J_getR Y qX9_death_275 fX9_40 (by decide) ?_
      refine J_bipush Y qX9_death_278 (by decide) ?_
      refine J_iload_4 Y qX9_death_280 ?_
      refine J_imul Y qX9_death_282 ?_
      refine J_iload_5 Y qX9_death_283 ?_
      refine J_iadd Y qX9_death_285 ?_
      rw [show (8 : Int) * (s : Int) + (i : Int) = ((8 * s + i : Nat) : Int) by omega]
      refine J_ialoadN (kx := (8 * s + i)) Y qX9_death_286 rfl (by decide) rfl (by omega) (by decide) ?_
      rw [dpS_n]
      refine J_iload_1 Y qX9_death_287 ?_
      refine J_icmp_ne Y qX9_death_288 (by omega) (by omega) (by omega) (by omega) (fun h288 => ?_) (fun h288 => ?_)
      · refine J_aloadr_0 Y qX9_death_302 ?_
        refine J_getR Y qX9_death_303 fX9_40 (by decide) ?_
        refine J_bipush Y qX9_death_306 (by decide) ?_
        refine J_iload_4 Y qX9_death_308 ?_
        refine J_imul Y qX9_death_310 ?_
        refine J_iload_5 Y qX9_death_311 ?_
        refine J_iadd Y qX9_death_313 ?_
        rw [show (8 : Int) * (s : Int) + (i : Int) = ((8 * s + i : Nat) : Int) by omega]
        refine J_ialoadN (kx := (8 * s + i)) Y qX9_death_314 rfl (by decide) rfl (by omega) (by decide) ?_
        try rw [dpS_n]
        refine J_iastoreN (kx := (8 * s + i)) Y qX9_death_315 rfl (by decide) rfl (by omega) (by decide) ?_
        refine J_iinc_5 Y qX9_death_316 rfl ?_
        refine J_goto Y qX9_death_319 ?_
        have ih9 := ih (i + 1) (by omega) (by omega)
        rw [← dpS_s] at ih9
        first
          | (rw [if_pos (by omega)] at ih9; exact ih9)
          | (rw [if_neg (by omega)] at ih9; exact ih9)
      · refine J_aloadr_0 Y qX9_death_291 ?_
        refine J_getR Y qX9_death_292 fX9_49 (by decide) ?_
        refine J_iconst Y qX9_death_295 ?_
        refine J_iload_1 Y qX9_death_296 ?_
        refine J_imul Y qX9_death_297 ?_
        rw [show (4 : Int) * (p : Int) = ((4 * p : Nat) : Int) by omega]
        refine J_ialoadN (kx := (4 * p)) Y qX9_death_298 rfl (by decide) rfl (by omega) (by decide) ?_
        rw [show dpS M s p h0 i 53 0 (4 * p) = h0 from (upR_ne (by omega)).trans hh0]
        refine J_goto Y qX9_death_299 ?_
        try rw [dpS_n]
        refine J_iastoreN (kx := (8 * s + i)) Y qX9_death_315 rfl (by decide) rfl (by omega) (by decide) ?_
        refine J_iinc_5 Y qX9_death_316 rfl ?_
        refine J_goto Y qX9_death_319 ?_
        have ih9 := ih (i + 1) (by omega) (by omega)
        rw [← dpS_s] at ih9
        first
          | (rw [if_pos (by omega)] at ih9; exact ih9)
          | (rw [if_neg (by omega)] at ih9; exact ih9)

theorem lp_md4 {l : Launch} {G : Gx} {E : Fx} {M : Mem} {A : Mem} {m p k c : Nat} {all : Int} (hI : Inv m A) (hp : p < 10) (hk : A 7 p 2 = (k : Int)) (k1 : 1 ≤ k) (k4 : k ≤ 4) (hc : A 0 0 2 = (c : Int)) (c14 : c ≤ 14) {went : Int} (hF : f_death A (p : Int) = (went, dthG A p k (2 * c) c)) (X : OkM l G E cX9_death RX9 9 4 (some .int) (QR (f_death A (p : Int)) M)) : ∀ (n i : Nat), ∀ (N : Mem) (x5 x6 x7 x8 : Option Value), i ≤ c → c < i + n → MR (dthG A p k (2 * c) i) N → Sm N M → J G E 209 [some (rf G 9 0), some (vi (p : Int)), some (vi all), some (vi went), some (vi (i : Int)), x5, x6, x7, x8] [] N := by
  have Y := X.ok
  intro n
  induction n with
  | zero => intro i N x5 x6 x7 x8 h1 h2 h3 h4; exfalso; omega
  | succ n ih =>
    intro i N x5 x6 x7 x8 h1 h2 h3 h4
    obtain ⟨q1, q2, q3⟩ := hI.heirs hp
    have h8 : ∀ q, q < 14 → A 5 q 11 ≤ 8 := fun q hq => (hI.pawns hq).2.1
    have e02 : N 9 0 2 = (c : Int) := by rw [h3.r0.2.1, dthG_o (by omega)]; exact hc
    refine J_iload_4 Y qX9_death_209 ?_
    refine J_aloadr_0 Y qX9_death_211 ?_
    refine J_getI Y qX9_death_212 fX9_89 (by decide) ?_
    rw [e02]
    refine J_icmp_ge Y qX9_death_215 (by omega) (by omega) (by omega) (by omega) (fun h215 => ?_) (fun h215 => ?_)
    · obtain rfl : i = c := by omega
      refine J_iload_3 Y qX9_death_328 ?_
      exact J_iret X qX9_death_329 (QR_e hF rfl h3 h4)
    · obtain ⟨w1, w2, w3⟩ := hI.pawns (s := i) (by omega)
      obtain ⟨kp, hkp⟩ := nat_of w1
      obtain ⟨l1, l2, l3, l4⟩ := hI.lets (s := i) (by omega)
      have e46 : N 46 0 i = A 5 i 6 := by rw [(h3.rl i (by omega)).1, dthG_5n (Or.inl (Nat.le_refl _))]
      obtain ⟨v, hv⟩ : ∃ v, v = if A 5 i 6 = p then -1 else A 5 i 6 := ⟨_, rfl⟩
      refine J_aloadr_0 Y qX9_death_218 ?_
      refine J_getR Y qX9_death_219 fX9_28 (by decide) ?_
      refine J_iload_4 Y qX9_death_222 ?_
      refine J_aloadr_0 Y qX9_death_224 ?_
      refine J_getR Y qX9_death_225 fX9_28 (by decide) ?_
      refine J_iload_4 Y qX9_death_228 ?_
      refine J_ialoadN (kx := i) Y qX9_death_230 rfl (by decide) rfl (by omega) (by decide) ?_
      rw [e46]
      refine J_iload_1 Y qX9_death_231 ?_
      refine J_icmp_ne Y qX9_death_232 (by omega) (by omega) (by omega) (by omega) (fun h232 => ?_) (fun h232 => ?_)
      · refine J_aloadr_0 Y qX9_death_239 ?_
        refine J_getR Y qX9_death_240 fX9_28 (by decide) ?_
        refine J_iload_4 Y qX9_death_243 ?_
        refine J_ialoadN (kx := i) Y qX9_death_245 rfl (by decide) rfl (by omega) (by decide) ?_
        try rw [e46]
        refine J_eqv (w := vi v) (congrArg vi (show _ = v by
          rw [hv]
          first
            | rw [if_pos (by omega)]
            | rw [if_neg (by omega)])) ?_
        refine J_iastoreN (kx := i) Y qX9_death_246 rfl (by decide) rfl (by omega) (by decide) ?_
        refine J_iconst Y qX9_death_247 ?_
        refine J_istore_5 Y qX9_death_248 rfl ?_
        obtain ⟨u1, u2⟩ := h3.rq i (by omega)
        have hK := fun x6 x7 x8 => ih (i + 1) (dpS (up N 46 0 i v) i p (A 30 p 0) kp) (some (vi (kp : Int))) x6 x7 x8 (by omega) (by omega) (MR_dlet h3 (by omega) hkp h8 hv) ((Sm_upR (Or.inl (by decide))).tr ((Sm_up (Or.inl (by decide))).tr h4))
        have e53 : N 53 0 (4 * p) = A 30 p 0 := by
          have q := (h3.rh p hp).2 0 (by rw [dthG_o (by omega)]; omega)
          rw [dthG_o (x := 30) (by omega)] at q
          exact q.1
        have e49 : N 49 0 i = (kp : Int) := by rw [u1, dthG_5 (by omega)]; exact hkp
        have h := lp_md5 (M := up N 46 0 i v) (s := i) (h0 := A 30 p 0) (kp := kp) hp (by omega) (by rw [up_ne (by omega)]; exact e49) (by omega) (by rw [up_ne (by omega)]; exact e53) (fun j hj => by
          rw [up_ne (by omega), (u2 j (by rw [dthG_5 (by omega)]; omega)).1, dthG_27n (Or.inl (Nat.le_refl _))]
          exact (w3 j (by omega)).1) (by
          refine J_iinc_4 Y qX9_death_322 rfl ?_
          refine J_goto Y qX9_death_325 ?_
          exact hK x6 x7 x8) X (kp + 1) 0 (by omega) (by omega)
        rw [dpS_0] at h
        exact h
      · refine J_iconst Y qX9_death_235 ?_
        refine J_goto Y qX9_death_236 ?_
        try rw [e46]
        refine J_eqv (w := vi v) (congrArg vi (show _ = v by
          rw [hv]
          first
            | rw [if_pos (by omega)]
            | rw [if_neg (by omega)])) ?_
        refine J_iastoreN (kx := i) Y qX9_death_246 rfl (by decide) rfl (by omega) (by decide) ?_
        refine J_iconst Y qX9_death_247 ?_
        refine J_istore_5 Y qX9_death_248 rfl ?_
        obtain ⟨u1, u2⟩ := h3.rq i (by omega)
        have hK := fun x6 x7 x8 => ih (i + 1) (dpS (up N 46 0 i v) i p (A 30 p 0) kp) (some (vi (kp : Int))) x6 x7 x8 (by omega) (by omega) (MR_dlet h3 (by omega) hkp h8 hv) ((Sm_upR (Or.inl (by decide))).tr ((Sm_up (Or.inl (by decide))).tr h4))
        have e53 : N 53 0 (4 * p) = A 30 p 0 := by
          have q := (h3.rh p hp).2 0 (by rw [dthG_o (by omega)]; omega)
          rw [dthG_o (x := 30) (by omega)] at q
          exact q.1
        have e49 : N 49 0 i = (kp : Int) := by rw [u1, dthG_5 (by omega)]; exact hkp
        have h := lp_md5 (M := up N 46 0 i v) (s := i) (h0 := A 30 p 0) (kp := kp) hp (by omega) (by rw [up_ne (by omega)]; exact e49) (by omega) (by rw [up_ne (by omega)]; exact e53) (fun j hj => by
          rw [up_ne (by omega), (u2 j (by rw [dthG_5 (by omega)]; omega)).1, dthG_27n (Or.inl (Nat.le_refl _))]
          exact (w3 j (by omega)).1) (by
          refine J_iinc_4 Y qX9_death_322 rfl ?_
          refine J_goto Y qX9_death_325 ?_
          exact hK x6 x7 x8) X (kp + 1) 0 (by omega) (by omega)
        rw [dpS_0] at h
        exact h

theorem lp_md3 {l : Launch} {G : Gx} {E : Fx} {M : Mem} {all went est : Int} {p k at0 : Nat} {g hs ws : Nat → Int} {P : Option Value → Mem → Prop} {d : Nat} (hp : p < 10) (ha : at0 ≤ 270) (hk : M 52 0 p = (k : Int)) (k4 : k ≤ 4) (hw : ∀ j, j < k → M 54 0 (4 * p + j) = ws j ∧ 1 ≤ ws j ∧ ws j ≤ 9) (hh : ∀ j, j < k → M 53 0 (4 * p + j) = hs j ∧ 0 ≤ hs j ∧ hs j ≤ 9) (e1 : 0 ≤ est) (e2 : est ≤ 5040) (al1 : 1 ≤ all) (al2 : all ≤ 36) (hK : ∀ x8 : Option Value, J G E 174 [some (rf G 9 0), some (vi (p : Int)), some (vi all), some (vi went), some (vi (at0 : Int)), some (vi est), some (vi (est - sumN (fun h => est * ws h / all) k)), some (vi (k : Int)), x8] [] (drS M at0 g hs ws est all k)) (X : OkM l G E cX9_death RX9 9 d (some .int) (P)) : ∀ (n i : Nat), ∀ x8 : Option Value, i ≤ k → k < i + n → J G E 108 [some (rf G 9 0), some (vi (p : Int)), some (vi all), some (vi went), some (vi (at0 : Int)), some (vi est), some (vi (est - sumN (fun h => est * ws h / all) i)), some (vi (i : Int)), x8] [] (drS M at0 g hs ws est all i) := by
  have Y := X.ok
  intro n
  induction n with
  | zero => intro i x8 h1 h2; exfalso; omega
  | succ n ih =>
    intro i x8 h1 h2
    refine J_iload_7 Y qX9_death_108 ?_
    refine J_aloadr_0 Y qX9_death_110 ?_
    refine J_getR Y qX9_death_111 fX9_46 (by decide) ?_
    refine J_iload_1 Y qX9_death_114 ?_
    refine J_ialoadN (kx := p) Y qX9_death_115 rfl (by decide) rfl (by omega) (by decide) ?_
    rw [show (drS M at0 g hs ws est all i) 52 0 p = (k : Int) from (upR_ne (by omega)).trans hk]
    refine J_icmp_ge Y qX9_death_116 (by omega) (by omega) (by omega) (by omega) (fun h116 => ?_) (fun h116 => ?_)
    · obtain rfl : i = k := by omega
      exact hK _
    · have hwi := hw i (by omega)
      have hhi := hh i (by omega)
      obtain ⟨hq, hq9⟩ := nat_of (show 0 ≤ hs i by omega)
      have h10 : hq < 10 := by omega
      have m1 : 0 ≤ est * ws i := Int.mul_nonneg e1 (by omega)
      have m2 : est * ws i ≤ 5040 * 9 := Int.mul_le_mul e2 (by omega) (by omega) (by omega)
      refine J_iload_5 Y qX9_death_119 ?_
      refine J_aloadr_0 Y qX9_death_121 ?_
      refine J_getR Y qX9_death_122 fX9_52 (by decide) ?_
      refine J_iconst Y qX9_death_125 ?_
      refine J_iload_1 Y qX9_death_126 ?_
      refine J_imul Y qX9_death_127 ?_
      refine J_iload_7 Y qX9_death_128 ?_
      refine J_iadd Y qX9_death_130 ?_
      rw [show (4 : Int) * (p : Int) + (i : Int) = ((4 * p + i : Nat) : Int) by omega]
      refine J_ialoadN (kx := (4 * p + i)) Y qX9_death_131 rfl (by decide) rfl (by omega) (by decide) ?_
      rw [show (drS M at0 g hs ws est all i) 54 0 (4 * p + i) = ws i from (upR_ne (by omega)).trans hwi.1]
      refine J_imul Y qX9_death_132 ?_
      refine J_iload_2 Y qX9_death_133 ?_
      refine J_idiv Y qX9_death_134 (by omega) (by omega) (by omega) (by omega) ?_
      refine J_istore_8 Y qX9_death_135 rfl ?_
      refine J_aloadr_0 Y qX9_death_137 ?_
      refine J_getR Y qX9_death_138 fX9_25 (by decide) ?_
      refine J_iload_4 Y qX9_death_141 ?_
      refine J_aloadr_0 Y qX9_death_143 ?_
      refine J_getR Y qX9_death_144 fX9_49 (by decide) ?_
      refine J_iconst Y qX9_death_147 ?_
      refine J_iload_1 Y qX9_death_148 ?_
      refine J_imul Y qX9_death_149 ?_
      refine J_iload_7 Y qX9_death_150 ?_
      refine J_iadd Y qX9_death_152 ?_
      rw [show (4 : Int) * (p : Int) + (i : Int) = ((4 * p + i : Nat) : Int) by omega]
      refine J_ialoadN (kx := (4 * p + i)) Y qX9_death_153 rfl (by decide) rfl (by omega) (by decide) ?_
      rw [show (drS M at0 g hs ws est all i) 53 0 (4 * p + i) = hs i from (upR_ne (by omega)).trans hhi.1, hq9]
      refine J_iadd Y qX9_death_154 ?_
      rw [show (at0 : Int) + (hq : Int) = ((at0 + hq : Nat) : Int) by omega]
      refine J_dup2 Y qX9_death_155 rfl rfl ?_
      refine J_ialoadN (kx := (at0 + hq)) Y qX9_death_156 rfl (by decide) rfl (by omega) (by decide) ?_
      refine J_iload_8 Y qX9_death_157 ?_
      refine J_iadd Y qX9_death_159 ?_
      refine J_iastoreN (kx := (at0 + hq)) Y qX9_death_160 rfl (by decide) rfl (by omega) (by decide) ?_
      refine J_iload_6 Y qX9_death_161 ?_
      refine J_iload_8 Y qX9_death_163 ?_
      refine J_isub Y qX9_death_165 ?_
      refine J_istore_6 Y qX9_death_166 rfl ?_
      refine J_iinc_7 Y qX9_death_168 rfl ?_
      refine J_goto Y qX9_death_171 ?_
      have ih9 := fun x => ih (i + 1) x (by omega) (by omega)
      rw [show sumN (fun h => est * ws h / all) (i + 1) = sumN (fun h => est * ws h / all) i + est * ws i / all from rfl, ← Int.sub_sub, ← drS_s h10 hq9] at ih9
      exact ih9 _

theorem lp_md2 {l : Launch} {G : Gx} {E : Fx} {M : Mem} {A : Mem} {m p k c : Nat} (hI : Inv m A) (hp : p < 10) (hk : A 7 p 2 = (k : Int)) (k1 : 1 ≤ k) (k4 : k ≤ 4) (hc : A 0 0 2 = (c : Int)) (c14 : c ≤ 14) (al1 : 1 ≤ sumN (A 31 p) k) (al2 : sumN (A 31 p) k ≤ 36) (X : OkM l G E cX9_death RX9 9 4 (some .int) (QR (f_death A (p : Int)) M)) : ∀ (n i : Nat), ∀ (N : Mem) (x5 x6 x7 x8 : Option Value), i ≤ 2 * c → 2 * c < i + n → MR (dthG A p k i 0) N → Sm N M → J G E 68 [some (rf G 9 0), some (vi (p : Int)), some (vi (sumN (A 31 p) k)), some (vi (sumN (fun t => if t % 2 = 0 then A 25 (t / 2) p else A 26 (t / 2) p) i)), some (vi (10 * (i : Int))), x5, x6, x7, x8] [] N := by
  have Y := X.ok
  intro n
  induction n with
  | zero => intro i N x5 x6 x7 x8 h1 h2 h3 h4; exfalso; omega
  | succ n ih =>
    intro i N x5 x6 x7 x8 h1 h2 h3 h4
    obtain ⟨q1, q2, q3⟩ := hI.heirs hp
    have h8 : ∀ q, q < 14 → A 5 q 11 ≤ 8 := fun q hq => (hI.pawns hq).2.1
    have e02 : N 9 0 2 = (c : Int) := by rw [h3.r0.2.1, dthG_o (by omega)]; exact hc
    refine J_iload_4 Y qX9_death_68 ?_
    refine J_bipush Y qX9_death_70 (by decide) ?_
    refine J_aloadr_0 Y qX9_death_72 ?_
    refine J_getI Y qX9_death_73 fX9_89 (by decide) ?_
    rw [e02]
    refine J_imul Y qX9_death_76 ?_
    refine J_icmp_ge Y qX9_death_77 (by omega) (by omega) (by omega) (by omega) (fun h77 => ?_) (fun h77 => ?_)
    · obtain rfl : i = 2 * c := by omega
      refine J_iconst Y qX9_death_206 ?_
      refine J_istore_4 Y qX9_death_207 rfl ?_
      have hF : f_death A (p : Int) = (sumN (fun t => if t % 2 = 0 then A 25 (t / 2) p else A 26 (t / 2) p) (2 * c), dthG A p k (2 * c) c) := by
        unfold f_death
        simp only [hc, Int.toNat_natCast]
        rw [if_neg (by omega), if_neg (by omega), sumN_two (fun s => A 25 s p) (fun s => A 26 s p), dth_dthG hk (fun s hs => (hI.pawns hs).1) c c14]
      exact lp_md4 hI hp hk k1 k4 hc c14 hF X (c + 1) 0 N _ _ _ _ (by omega) (by omega) h3 h4
    · have ip : ((i / 2 : Nat) : Int) < A 0 0 2 := by omega
      have pr := fun j (hj : j < 10) => hI.part (s := i / 2) (p := j) ip hj
      have rowE : ∀ z, z < 10 → N 45 0 (10 * i + z) = (A (25 + i % 2) (i / 2)) z ∧ 0 ≤ (A (25 + i % 2) (i / 2)) z ∧ (A (25 + i % 2) (i / 2)) z ≤ 5040 := by
        intro z hz
        obtain ⟨g1, g2⟩ := h3.rp (i / 2) (by omega) z hz
        rcases (show i % 2 = 0 ∨ i % 2 = 1 by omega) with e | e
        · rw [e]
          refine ⟨?_, (pr z hz).1⟩
          rw [show 10 * i + z = 20 * (i / 2) + z by omega, g1, dthG_25n (by omega)]
        · rw [e]
          refine ⟨?_, (pr z hz).2⟩
          rw [show 10 * i + z = 20 * (i / 2) + 10 + z by omega, g2, dthG_26n (by omega)]
      have rp := rowE p hp
      refine J_aloadr_0 Y qX9_death_80 ?_
      refine J_getR Y qX9_death_81 fX9_25 (by decide) ?_
      refine J_iload_4 Y qX9_death_84 ?_
      refine J_iload_1 Y qX9_death_86 ?_
      refine J_iadd Y qX9_death_87 ?_
      rw [show (10 : Int) * (i : Int) + (p : Int) = ((10 * i + p : Nat) : Int) by omega]
      refine J_ialoadN (kx := (10 * i + p)) Y qX9_death_88 rfl (by decide) rfl (by omega) (by decide) ?_
      rw [rp.1]
      refine J_istore_5 Y qX9_death_89 rfl ?_
      refine J_iload_5 Y qX9_death_91 ?_
      refine J_istore_6 Y qX9_death_93 rfl ?_
      refine J_aloadr_0 Y qX9_death_95 ?_
      refine J_getR Y qX9_death_96 fX9_25 (by decide) ?_
      refine J_iload_4 Y qX9_death_99 ?_
      refine J_iload_1 Y qX9_death_101 ?_
      refine J_iadd Y qX9_death_102 ?_
      rw [show (10 : Int) * (i : Int) + (p : Int) = ((10 * i + p : Nat) : Int) by omega]
      refine J_iconst Y qX9_death_103 ?_
      refine J_iastoreN (kx := (10 * i + p)) Y qX9_death_104 rfl (by decide) rfl (by omega) (by decide) ?_
      refine J_iconst Y qX9_death_105 ?_
      refine J_istore_7 Y qX9_death_106 rfl ?_
      rw [drS_0 (hs := A 30 p) (ws := A 31 p) (est := (A (25 + i % 2) (i / 2)) p) (all := sumN (A 31 p) k) hp (fun z hz => (rowE z hz).1), show (10 : Int) * (i : Int) = ((10 * i : Nat) : Int) by omega]
      have e3 := (h3.rh p hp).2
      have h := lp_md3 (M := N) (at0 := 10 * i) (went := sumN (fun t => if t % 2 = 0 then A 25 (t / 2) p else A 26 (t / 2) p) i) (g := fun c => if c = p then 0 else (A (25 + i % 2) (i / 2)) c) (hs := A 30 p) (ws := A 31 p) (est := (A (25 + i % 2) (i / 2)) p) (all := sumN (A 31 p) k) (k := k) hp (by omega) (by rw [(h3.rh p hp).1, dthG_o (by omega)]; exact hk) k4 (fun j hj => ⟨by
        have q := (e3 j (by rw [dthG_o (by omega)]; omega)).2
        rw [dthG_o (x := 31) (by omega)] at q; exact q, (q3 j (by omega)).2.2⟩) (fun j hj => ⟨by
        have q := (e3 j (by rw [dthG_o (by omega)]; omega)).1
        rw [dthG_o (x := 30) (by omega)] at q; exact q, (q3 j (by omega)).1⟩) rp.2.1 rp.2.2 al1 al2 (fun x8 => ?_) X (k + 1) 0 x8 (by omega) (by omega)
      · rw [show sumN (fun h => (A (25 + i % 2) (i / 2)) p * A 31 p h / sumN (A 31 p) k) 0 = 0 from rfl, Int.sub_zero] at h
        exact h
      have q30 := q3 0 (by omega)
      obtain ⟨h0, hh0⟩ := nat_of (show 0 ≤ A 30 p 0 by omega)
      have e53 : drS N (10 * i) (fun c => if c = p then 0 else (A (25 + i % 2) (i / 2)) c) (A 30 p) (A 31 p) ((A (25 + i % 2) (i / 2)) p) (sumN (A 31 p) k) k 53 0 (4 * p) = A 30 p 0 := by
        rw [drS_o (by omega)]
        have q := (e3 0 (by rw [dthG_o (by omega)]; omega)).1
        rw [dthG_o (x := 30) (by omega)] at q; exact q
      refine J_aloadr_0 Y qX9_death_174 ?_
      refine J_getR Y qX9_death_175 fX9_25 (by decide) ?_
      refine J_iload_4 Y qX9_death_178 ?_
      refine J_aloadr_0 Y qX9_death_180 ?_
      refine J_getR Y qX9_death_181 fX9_49 (by decide) ?_
      refine J_iconst Y qX9_death_184 ?_
      refine J_iload_1 Y qX9_death_185 ?_
      refine J_imul Y qX9_death_186 ?_
      rw [show (4 : Int) * (p : Int) = ((4 * p : Nat) : Int) by omega]
      refine J_ialoadN (kx := (4 * p)) Y qX9_death_187 rfl (by decide) rfl (by omega) (by decide) ?_
      rw [e53, hh0]
      refine J_iadd Y qX9_death_188 ?_
      rw [show ((10 * i : Nat) : Int) + (h0 : Int) = ((10 * i + h0 : Nat) : Int) by omega]
      refine J_dup2 Y qX9_death_189 rfl rfl ?_
      refine J_ialoadN (kx := (10 * i + h0)) Y qX9_death_190 rfl (by decide) rfl (by omega) (by decide) ?_
      refine J_iload_6 Y qX9_death_191 ?_
      refine J_iadd Y qX9_death_193 ?_
      refine J_iastoreN (kx := (10 * i + h0)) Y qX9_death_194 rfl (by decide) rfl (by omega) (by decide) ?_
      refine J_iload_3 Y qX9_death_195 ?_
      refine J_iload_5 Y qX9_death_196 ?_
      refine J_iadd Y qX9_death_198 ?_
      refine J_istore_3 Y qX9_death_199 rfl ?_
      refine J_iinc_4 Y qX9_death_200 rfl ?_
      refine J_goto Y qX9_death_203 ?_
      rw [show ((10 * i : Nat) : Int) + 10 = 10 * ((i + 1 : Nat) : Int) by omega]
      have ih9 := ih (i + 1)
      rw [show sumN (fun t => if t % 2 = 0 then A 25 (t / 2) p else A 26 (t / 2) p) (i + 1) = sumN (fun t => if t % 2 = 0 then A 25 (t / 2) p else A 26 (t / 2) p) i + (A (25 + i % 2) (i / 2)) p by
        rw [sumN]
        congr 1
        rcases (show i % 2 = 0 ∨ i % 2 = 1 by omega) with e | e <;> rw [e] <;> simp] at ih9
      refine ih9 _ _ _ _ _ (by omega) (by omega) (MR_drow h3 (by omega) (fun x y z hx => ?_) (fun z hz => drS_end hp (by omega) hh0 (fun j hj => (q3 j (by omega)).2.1) k1 rfl hz)) (fun x y z h5 h6 => ?_)
      · by_cases e : x = 45 ∧ y = 0
        · obtain ⟨rfl, rfl⟩ := e
          rw [up_ne (by omega), drS, upR_at, if_neg (by omega)]
        · rw [up_ne (by omega), drS, upR_ne e]
      · rw [up_ne (by omega), drS, upR_ne (by omega)]
        exact h4 x y z h5 h6

theorem lp_md1 {l : Launch} {G : Gx} {E : Fx} {M : Mem} {A : Mem} {m p k c : Nat} (hI : Inv m A) (hp : p < 10) (hk : A 7 p 2 = (k : Int)) (k1 : 1 ≤ k) (k4 : k ≤ 4) (hc : A 0 0 2 = (c : Int)) (c14 : c ≤ 14) (hM : MR A M) (X : OkM l G E cX9_death RX9 9 4 (some .int) (QR (f_death A (p : Int)) M)) : ∀ (n i : Nat), ∀ (x4 x5 x6 x7 x8 : Option Value), i ≤ k → k < i + n → J G E 34 [some (rf G 9 0), some (vi (p : Int)), some (vi (sumN (A 31 p) i)), some (vi (i : Int)), x4, x5, x6, x7, x8] [] M := by
  have Y := X.ok
  intro n
  induction n with
  | zero => intro i x4 x5 x6 x7 x8 h1 h2; exfalso; omega
  | succ n ih =>
    intro i x4 x5 x6 x7 x8 h1 h2
    obtain ⟨q1, q2, q3⟩ := hI.heirs hp
    have h8 : ∀ q, q < 14 → A 5 q 11 ≤ 8 := fun q hq => (hI.pawns hq).2.1
    refine J_iload_3 Y qX9_death_34 ?_
    refine J_aloadr_0 Y qX9_death_35 ?_
    refine J_getR Y qX9_death_36 fX9_46 (by decide) ?_
    refine J_iload_1 Y qX9_death_39 ?_
    refine J_ialoadN (kx := p) Y qX9_death_40 rfl (by decide) rfl (by omega) (by decide) ?_
    rw [(hM.rh p hp).1, hk]
    refine J_icmp_ge Y qX9_death_41 (by omega) (by omega) (by omega) (by omega) (fun h41 => ?_) (fun h41 => ?_)
    · obtain rfl : i = k := by omega
      refine J_iconst Y qX9_death_63 ?_
      refine J_istore_3 Y qX9_death_64 rfl ?_
      refine J_iconst Y qX9_death_65 ?_
      refine J_istore_4 Y qX9_death_66 rfl ?_
      have b1 := sumN_le (g := A 31 p) (c := 9) i (fun j hj => (q3 j (by omega)).2.2.2)
      have b2 := sumN_ge (g := A 31 p) (c := 1) i (fun j hj => (q3 j (by omega)).2.2.1)
      exact lp_md2 hI hp hk k1 k4 hc c14 (by omega) (by omega) X (2 * c + 1) 0 M _ _ _ _ (by omega) (by omega) (by rw [dthG_0]; exact hM) Sm.rfl'
    · refine J_iload_2 Y qX9_death_44 ?_
      refine J_aloadr_0 Y qX9_death_45 ?_
      refine J_getR Y qX9_death_46 fX9_52 (by decide) ?_
      refine J_iconst Y qX9_death_49 ?_
      refine J_iload_1 Y qX9_death_50 ?_
      refine J_imul Y qX9_death_51 ?_
      refine J_iload_3 Y qX9_death_52 ?_
      refine J_iadd Y qX9_death_53 ?_
      rw [show (4 : Int) * (p : Int) + (i : Int) = ((4 * p + i : Nat) : Int) by omega]
      refine J_ialoadN (kx := (4 * p + i)) Y qX9_death_54 rfl (by decide) rfl (by omega) (by decide) ?_
      rw [((hM.rh p hp).2 i (by omega)).2]
      refine J_iadd Y qX9_death_55 ?_
      refine J_istore_2 Y qX9_death_56 rfl ?_
      refine J_iinc_3 Y qX9_death_57 rfl ?_
      refine J_goto Y qX9_death_60 ?_
      exact ih (i + 1) _ _ _ _ _ (by omega) (by omega)

theorem r_death (l : Launch) (G : Gx) (M : Mem) {A : Mem} {n : Nat} {a : Int} (a1 : -2147483648 ≤ a) (a2 : a < 2147483648) (hI : Inv n A) (hn : n < 512) (hM : MR A M)  : Ct l G 4 yX9_death cX9_death 9 ((Option.some Jvm.ClassFile.FieldType.int)) [rf G 9 0, vi a] M (QR (f_death A a) M) := by
  refine Ct.of rfl (Nat.le_of_ble_eq_true rfl) rfl (fun E X => ?_)
  have Y := X.ok
  obtain ⟨m1, m2, m3, m4, m5, m6⟩ := hM.r0
  obtain ⟨c1, c2⟩ := hI.count
  obtain ⟨d1, d2⟩ := hI.day
  refine J_iload_1 Y qX9_death_0 ?_
  refine J_cS1B Y qX9_death_1 mX9_108 iyX9_isPerson rfl (by decide) rfl (Nat.le_of_ble_eq_true rfl) (m_isPerson _ _ _ (by omega) (by omega)) (fun h1 => ?_) (fun h1 => ?_)
  · refine J_ne1 Y qX9_death_4 ?_
    obtain ⟨p, rfl⟩ := nat_of (show 0 ≤ a by omega)
    obtain ⟨q1, q2, q3⟩ := hI.heirs (p := p) (by omega)
    obtain ⟨k, hk⟩ := nat_of q1
    have e52 := (hM.rh p (by omega)).1
    refine J_aloadr_0 Y qX9_death_14 ?_
    refine J_getR Y qX9_death_15 fX9_46 (by decide) ?_
    refine J_iload_1 Y qX9_death_18 ?_
    refine J_ialoadN (kx := p) Y qX9_death_19 rfl (by decide) rfl (by omega) (by decide) ?_
    refine J_if_ne Y qX9_death_20 (by omega) (by omega) (fun h20 => ?_) (fun h20 => ?_)
    · refine J_iconst Y qX9_death_30 ?_
      refine J_istore_2 Y qX9_death_31 rfl ?_
      refine J_iconst Y qX9_death_32 ?_
      refine J_istore_3 Y qX9_death_33 rfl ?_
      obtain ⟨c, hc⟩ := nat_of c1
      exact lp_md1 hI (by omega) hk (by omega) (by omega) hc (by omega) hM X (k + 1) 0 _ _ _ _ _ (by omega) (by omega)
    · refine J_aloadr_0 Y qX9_death_23 ?_
      refine J_bipush Y qX9_death_24 (by decide) ?_
      refine J_cV1F Y qX9_death_26 mX9_97 iyX9_refuse (by decide) rfl (by decide) rfl (Nat.le_of_ble_eq_true rfl) (m_refuse _ _ _ 2 (by decide) rfl) ?_
      exact J_iret X qX9_death_29 (QR_e (by
        unfold f_death
        try simp only [Int.toNat_natCast]
        repeat (first | rewrite [if_pos trivial] | rewrite [if_pos (by omega)] | rewrite [if_neg (by omega)])
        exact rfl) (by first | rfl | (dsimp only; omega)) (by first | exact hM | exact MR_rfs hM (by decide)) (by first | exact Sm.rfl' | exact Sm_up (Or.inl (by decide))))
  · refine J_ne0 Y qX9_death_4 ?_
    refine J_aloadr_0 Y qX9_death_7 ?_
    refine J_bipush Y qX9_death_8 (by decide) ?_
    refine J_cV1F Y qX9_death_10 mX9_97 iyX9_refuse (by decide) rfl (by decide) rfl (Nat.le_of_ble_eq_true rfl) (m_refuse _ _ _ 3 (by decide) rfl) ?_
    exact J_iret X qX9_death_13 (QR_e (by
      unfold f_death
      try simp only [Int.toNat_natCast]
      repeat (first | rewrite [if_pos trivial] | rewrite [if_pos (by omega)] | rewrite [if_neg (by omega)])
      exact rfl) (by first | rfl | (dsimp only; omega)) (by first | exact hM | exact MR_rfs hM (by decide)) (by first | exact Sm.rfl' | exact Sm_up (Or.inl (by decide))))


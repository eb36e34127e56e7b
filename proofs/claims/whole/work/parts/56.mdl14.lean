/-! ===== the reference: sold, its walk ===== -/
def gvS (N : Mem) (s p i : Nat) : Mem := upR N 45 0 (fun q => if 20 * s + 10 ≤ q ∧ q < 20 * s + 10 + i then (if q = 20 * s + 10 + p then 5040 else 0) else N 45 0 q)
theorem gvS_0 (N : Mem) (s p : Nat) : gvS N s p 0 = N := by
  funext x y z
  simp only [gvS, upR]
  grind
theorem gvS_s (N : Mem) (s p i : Nat) : up (gvS N s p i) 45 0 (20 * s + 10 + i) (if i = p then 5040 else 0) = gvS N s p (i + 1) := by
  funext x y z
  simp only [gvS, up, upR]
  grind
theorem gvS_at (N : Mem) (s p i q : Nat) : gvS N s p i 45 0 q = if 20 * s + 10 ≤ q ∧ q < 20 * s + 10 + i then (if q = 20 * s + 10 + p then 5040 else 0) else N 45 0 q := upR_at N 45 0 _ q
theorem MR_giv {a N : Mem} {s p : Nat} (h : MR a N) (hs : s < 14) : MR (giv a 26 s p) (gvS N s p 10) := by
  refine ⟨h.r0, h.rr, h.rs, ?_, h.rl, h.rq, h.rh, h.rm, h.rt, h.ru, h.rf, h.rb, h.rw⟩
  intro t ht q hq
  obtain ⟨h1, h2⟩ := h.rp t ht q hq
  constructor
  · rw [show giv a 26 s p 25 t q = a 25 t q from by simp [giv, up, upR], ← h1, gvS_at, if_neg (by omega)]
  · by_cases e : t = s
    · subst e
      rw [gvS_at, if_pos (by omega)]
      simp only [giv, up, upR]
      grind
    · rw [show giv a 26 s p 26 t q = a 26 t q from by simp [giv, up, upR, e], ← h2, gvS_at, if_neg (by omega)]
theorem Sm_gv {N : Mem} {s p i : Nat} : Sm (gvS N s p i) N := Sm_upR (Or.inl (by decide))
theorem lp_msold3 {l : Launch} {G : Gx} {E : Fx} {d : Nat} {M : Mem} {s p : Nat} {pr left : Int} (hs : s < 14) (hp : p < 10) {P : Option Value → Mem → Prop} (hP : P (some (vi left)) (gvS M s p 10)) (X : OkM l G E cX9_sold RX9 6 d (some .int) P) : ∀ (n i : Nat), i ≤ 10 → 10 < i + n → J G E 178 [some (rf G 9 0), some (vi (s : Int)), some (vi (p : Int)), some (vi pr), some (vi left), some (vi (i : Int))] [] (gvS M s p i) := by
  have Y := X.ok
  intro n
  induction n with
  | zero => intro i h1 h2; exfalso; omega
  | succ n ih =>
    intro i h1 h2
    refine J_iload_5 Y qX9_sold_178 ?_
    refine J_bipush Y qX9_sold_180 (by decide) ?_
    refine J_icmp_ge Y qX9_sold_182 (by omega) (by omega) (by omega) (by omega) (fun h182 => ?_) (fun h182 => ?_)
    · obtain rfl : i = 10 := by omega
      refine J_iload_4 Y qX9_sold_219 ?_
      exact J_iret X qX9_sold_221 hP
    · refine J_aloadr_0 Y qX9_sold_185 ?_
      refine J_getR Y qX9_sold_186 fX9_25 (by decide) ?_
      refine J_bipush Y qX9_sold_189 (by decide) ?_
      refine J_iload_1 Y qX9_sold_191 ?_
      refine J_imul Y qX9_sold_192 ?_
      refine J_bipush Y qX9_sold_193 (by decide) ?_
      refine J_iadd Y qX9_sold_195 ?_
      refine J_iload_5 Y qX9_sold_196 ?_
      refine J_iadd Y qX9_sold_198 ?_
      rw [show (20 : Int) * (s : Int) + 10 + (i : Int) = ((20 * s + 10 + i : Nat) : Int) by omega]
      refine J_iload_5 Y qX9_sold_199 ?_
      refine J_iload_2 Y qX9_sold_201 ?_
      refine J_icmp_ne Y qX9_sold_202 (by omega) (by omega) (by omega) (by omega) (fun h202 => ?_) (fun h202 => ?_)
      · refine J_iconst Y qX9_sold_211 ?_
        refine J_iastoreN (kx := (20 * s + 10 + i)) Y qX9_sold_212 rfl (by decide) rfl (by omega) (by decide) ?_
        refine J_iinc_5 Y qX9_sold_213 rfl ?_
        refine J_goto Y qX9_sold_216 ?_
        have ih9 := ih (i + 1) (by omega) (by omega)
        rw [← gvS_s] at ih9
        first
          | (rw [if_pos (by omega)] at ih9; exact ih9)
          | (rw [if_neg (by omega)] at ih9; exact ih9)
      · refine J_sipush Y qX9_sold_205 (by decide) ?_
        refine J_goto Y qX9_sold_208 ?_
        refine J_iastoreN (kx := (20 * s + 10 + i)) Y qX9_sold_212 rfl (by decide) rfl (by omega) (by decide) ?_
        refine J_iinc_5 Y qX9_sold_213 rfl ?_
        refine J_goto Y qX9_sold_216 ?_
        have ih9 := ih (i + 1) (by omega) (by omega)
        rw [← gvS_s] at ih9
        first
          | (rw [if_pos (by omega)] at ih9; exact ih9)
          | (rw [if_neg (by omega)] at ih9; exact ih9)

theorem lp_msold2 {l : Launch} {G : Gx} {E : Fx} {M : Mem} {A : Mem} {m : Nat} {s p k : Nat} {price : Int} (hs : (s : Int) < A 0 0 2) (s14 : s < 14) (hp : p < 10) (p1 : 0 ≤ price) (p2 : price ≤ 99999) (hI : Inv m A) (hk : A 5 s 11 = (k : Int)) {N : Mem} (hW : MR (pdS A s price k).2.2 N) (hS : Sm N M) (X : OkM l G E cX9_sold RX9 6 4 (some .int) (QR (f_sold A (s : Int) (p : Int) price) M)) {x5 : Option Value} : J G E 161 [some (rf G 9 0), some (vi (s : Int)), some (vi (p : Int)), some (vi price), some (vi (pdS A s price k).1), x5] [] N := by
  have Y := X.ok
  obtain ⟨w1, w2, w3⟩ := hI.pawns (s := s) s14
  have k8 : k ≤ 8 := by omega
  have hD : ∀ j, j < k → 1 ≤ A 28 s j := fun j hj => (w3 j (by omega)).2.1
  have hL : ∀ j, j < k → 0 ≤ A 27 s j := fun j hj => (w3 j (by omega)).1.1
  have pr := fun j (hj : j < 10) => hI.part (s := s) (p := j) hs hj
  have rr := hI.rowR hs
  obtain ⟨f1, f2, f3, f4, f5⟩ := pdS_facts A s price p1 p2 k hD
  have e26 : (pdS A s price k).2.2 26 s = A 26 s := funext (fun j => f5 26 s j (by decide) (by decide) (by decide) (by omega))
  refine J_aloadr_0 Y qX9_sold_161 ?_
  refine J_bipush Y qX9_sold_162 (by decide) ?_
  refine J_iload_1 Y qX9_sold_164 ?_
  refine J_imul Y qX9_sold_165 ?_
  refine J_bipush Y qX9_sold_166 (by decide) ?_
  refine J_iadd Y qX9_sold_168 ?_
  rw [show (20 : Int) * (s : Int) + 10 = ((20 * s + 10 : Nat) : Int) by omega]
  refine J_iload_4 Y qX9_sold_169 ?_
  refine J_iconst Y qX9_sold_171 ?_
  refine J_cV3W Y qX9_sold_172 mX9_122 iyX9_shares (by decide) rfl (by decide) rfl (Nat.le_of_ble_eq_true rfl) (m_shares (at0 := 20 * s + 10) (g := A 26 s) _ _ _ (by omega) (fun j hj => by rw [(hW.rp s s14 j hj).2]; exact congrFun e26 j) (fun j hj => (pr j hj).2) (fstP_ne rr.2) f1.1 f1.2 (Or.inl rfl)) ?_
  refine J_iconst Y qX9_sold_175 ?_
  refine J_istore_5 Y qX9_sold_176 rfl ?_
  have hF : f_sold A (s : Int) (p : Int) price = ((pdS A s price k).1, giv (prt (pdS A s price k).2.2 26 s (pdS A s price k).1 1) 26 s p) := by
    unfold f_sold
    simp only [hk, Int.toNat_natCast, soldM]
    rw [if_neg (by omega), if_neg (by omega)]
  have h := lp_msold3 (M := mpr N (A 26 s) (pdS A s price k).1 1) (pr := price) s14 hp (QR_e hF rfl (MR_giv (MR_prt hW e26 (by decide)) s14) (Sm_gv.tr (Sm_mpr.tr hS))) X 11 0 (by omega) (by omega)
  rw [gvS_0] at h
  exact h

theorem MR_debt0 {a N : Mem} {s : Nat} {z : Int} (h : MR a N) (hs : s < 14) (h8 : ∀ q, q < 14 → a 5 q 11 ≤ 8) : MR (up a 28 s 0 z) (up N 51 0 (8 * s) z) := by
  refine ⟨h.r0, h.rr, h.rs, h.rp, h.rl, ?_, h.rh, h.rm, h.rt, h.ru, h.rf, h.rb, h.rw⟩
  intro q hq
  obtain ⟨h1, h2⟩ := h.rq q hq
  refine ⟨h1, fun j hj => ?_⟩
  have hj2 : (j : Int) < a 5 q 11 := hj
  have hq8 := h8 q hq
  obtain ⟨g1, g2⟩ := h2 j hj2
  refine ⟨g1, ?_⟩
  by_cases e : q = s ∧ j = 0
  · obtain ⟨rfl, rfl⟩ := e
    simp [up]
  · rw [up_ne (by omega), up_ne (by omega)]; exact g2
theorem lp_msold {l : Launch} {G : Gx} {E : Fx} {M : Mem} {A : Mem} {m : Nat} {s p k : Nat} {price : Int} (hs : (s : Int) < A 0 0 2) (s14 : s < 14) (hp : p < 10) (p1 : 0 ≤ price) (p2 : price ≤ 99999) (hI : Inv m A) (hk : A 5 s 11 = (k : Int)) (X : OkM l G E cX9_sold RX9 6 4 (some .int) (QR (f_sold A (s : Int) (p : Int) price) M)) : ∀ (n i : Nat), ∀ (N : Mem) (x5 : Option Value), i ≤ k → k < i + n → sumN (A 28 s) i ≤ price → MR (gwS A s k i) N → Sm N M → J G E 42 [some (rf G 9 0), some (vi (s : Int)), some (vi (p : Int)), some (vi price), some (vi (price - sumN (A 28 s) i)), x5] [] N := by
  have Y := X.ok
  intro n
  induction n with
  | zero => intro i N x5 h1 h2 h5 h3 h4; exfalso; omega
  | succ n ih =>
    intro i N x5 h1 h2 h5 h3 h4
    obtain ⟨w1, w2, w3⟩ := hI.pawns (s := s) s14
    have k8 : k ≤ 8 := by omega
    have hD : ∀ j, j < k → 1 ≤ A 28 s j := fun j hj => (w3 j (by omega)).2.1
    have hL : ∀ j, j < k → 0 ≤ A 27 s j := fun j hj => (w3 j (by omega)).1.1
    have pr := fun j (hj : j < 10) => hI.part (s := s) (p := j) hs hj
    have rr := hI.rowR hs
    have sge := sumN_ge (g := A 28 s) (c := 0) i (fun j hj => by have := hD j (by omega); omega)
    have e49 : N 49 0 s = (k : Int) - i := by rw [(h3.rq s s14).1, gwS_11]
    refine J_aloadr_0 Y qX9_sold_42 ?_
    refine J_getR Y qX9_sold_43 fX9_37 (by decide) ?_
    refine J_iload_1 Y qX9_sold_46 ?_
    refine J_ialoadN (kx := s) Y qX9_sold_47 rfl (by decide) rfl (by omega) (by decide) ?_
    rw [e49]
    refine J_if_le Y qX9_sold_48 (by omega) (by omega) (fun h48 => ?_) (fun h48 => ?_)
    · by_cases hik : i < k
      · have hik : i < k := by omega
        obtain ⟨u1, u2⟩ := h3.rq s s14
        have e50 : N 50 0 (8 * s) = A 27 s i := by have := (u2 0 (by rw [gwS_11]; omega)).1; rw [gwS_27] at this; simpa using this
        have e51 : N 51 0 (8 * s) = A 28 s i := by have := (u2 0 (by rw [gwS_11]; omega)).2; rw [gwS_28] at this; simpa using this
        have wi := w3 i (by omega)
        obtain ⟨ld, hld⟩ := nat_of (show 0 ≤ A 27 s i by omega)
        have e55 : N 55 0 ld = gwS A s k i 18 0 ld := h3.rm ld (by omega)
        refine J_aloadr_0 Y qX9_sold_115 ?_
        refine J_getR Y qX9_sold_116 fX9_37 (by decide) ?_
        refine J_iload_1 Y qX9_sold_119 ?_
        refine J_ialoadN (kx := s) Y qX9_sold_120 rfl (by decide) rfl (by omega) (by decide) ?_
        rw [e49]
        refine J_if_le Y qX9_sold_121 (by omega) (by omega) (fun h121 => ?_) (fun h121 => ?_)
        · exfalso; omega
        · refine J_aloadr_0 Y qX9_sold_124 ?_
          refine J_getR Y qX9_sold_125 fX9_55 (by decide) ?_
          refine J_aloadr_0 Y qX9_sold_128 ?_
          refine J_getR Y qX9_sold_129 fX9_40 (by decide) ?_
          refine J_bipush Y qX9_sold_132 (by decide) ?_
          refine J_iload_1 Y qX9_sold_134 ?_
          refine J_imul Y qX9_sold_135 ?_
          rw [show (8 : Int) * (s : Int) = ((8 * s : Nat) : Int) by omega]
          refine J_ialoadN (kx := (8 * s)) Y qX9_sold_136 rfl (by decide) rfl (by omega) (by decide) ?_
          rw [e50, hld]
          refine J_dup2 Y qX9_sold_137 rfl rfl ?_
          refine J_laloadN (kx := ld) Y qX9_sold_138 rfl (by decide) rfl (by omega) (by decide) ?_
          refine J_iload_4 Y qX9_sold_139 ?_
          refine J_i2l Y qX9_sold_141 (by omega) (by omega) ?_
          refine J_ladd Y qX9_sold_142 ?_
          refine J_lastoreN (kx := ld) Y qX9_sold_143 rfl (by decide) rfl (by omega) (by decide) ?_
          refine J_aloadr_0 Y qX9_sold_144 ?_
          refine J_getR Y qX9_sold_145 fX9_43 (by decide) ?_
          refine J_bipush Y qX9_sold_148 (by decide) ?_
          refine J_iload_1 Y qX9_sold_150 ?_
          refine J_imul Y qX9_sold_151 ?_
          rw [show (8 : Int) * (s : Int) = ((8 * s : Nat) : Int) by omega]
          refine J_dup2 Y qX9_sold_152 rfl rfl ?_
          refine J_ialoadN (kx := (8 * s)) Y qX9_sold_153 rfl (by decide) rfl (by omega) (by decide) ?_
          rw [show up N 55 0 ld (N 55 0 ld + (price - sumN (A 28 s) i)) 51 0 (8 * s) = A 28 s i from e51]
          refine J_iload_4 Y qX9_sold_154 ?_
          refine J_isub Y qX9_sold_156 ?_
          refine J_iastoreN (kx := (8 * s)) Y qX9_sold_157 rfl (by decide) rfl (by omega) (by decide) ?_
          refine J_iconst Y qX9_sold_158 ?_
          refine J_istore_4 Y qX9_sold_159 rfl ?_
          obtain ⟨z1, z2⟩ := pdS_some (A := A) (s := s) (k := k) (m := i) p1 p2 hik hk h5 (by rw [sumN]; omega) hL hD hld
          have h := lp_msold2 (N := up (up N 55 0 ld (N 55 0 ld + (price - sumN (A 28 s) i))) 51 0 (8 * s) (A 28 s i - (price - sumN (A 28 s) i))) hs s14 hp p1 p2 hI hk (MR_AE (by rw [e55]; exact MR_debt0 (MR_purse h3) s14 (fun q hq => by
            rw [up_ne (by omega)]
            by_cases e : q = s
            · subst e; rw [gwS_11]; omega
            · rw [gwS_ne (by omega) (by omega)]; exact (hI.pawns hq).2.1)) z2) ((Sm_up (Or.inl (by decide))).tr ((Sm_up (Or.inl (by decide))).tr h4)) X (x5 := x5)
          rw [z1] at h
          exact h
      · obtain rfl : i = k := by omega
        refine J_aloadr_0 Y qX9_sold_115 ?_
        refine J_getR Y qX9_sold_116 fX9_37 (by decide) ?_
        refine J_iload_1 Y qX9_sold_119 ?_
        refine J_ialoadN (kx := s) Y qX9_sold_120 rfl (by decide) rfl (by omega) (by decide) ?_
        rw [e49]
        refine J_if_le Y qX9_sold_121 (by omega) (by omega) (fun h121 => ?_) (fun h121 => ?_)
        · obtain ⟨z1, z2⟩ := pdS_all (A := A) (s := s) (k := i) (price := price) h5 hL hD
          rw [← z1]
          exact lp_msold2 hs s14 hp p1 p2 hI hk (MR_AE h3 z2) h4 X
        · exfalso; omega
    · have hik : i < k := by omega
      obtain ⟨u1, u2⟩ := h3.rq s s14
      have e50 : N 50 0 (8 * s) = A 27 s i := by have := (u2 0 (by rw [gwS_11]; omega)).1; rw [gwS_27] at this; simpa using this
      have e51 : N 51 0 (8 * s) = A 28 s i := by have := (u2 0 (by rw [gwS_11]; omega)).2; rw [gwS_28] at this; simpa using this
      have wi := w3 i (by omega)
      obtain ⟨ld, hld⟩ := nat_of (show 0 ≤ A 27 s i by omega)
      have e55 : N 55 0 ld = gwS A s k i 18 0 ld := h3.rm ld (by omega)
      refine J_aloadr_0 Y qX9_sold_51 ?_
      refine J_getR Y qX9_sold_52 fX9_43 (by decide) ?_
      refine J_bipush Y qX9_sold_55 (by decide) ?_
      refine J_iload_1 Y qX9_sold_57 ?_
      refine J_imul Y qX9_sold_58 ?_
      rw [show (8 : Int) * (s : Int) = ((8 * s : Nat) : Int) by omega]
      refine J_ialoadN (kx := (8 * s)) Y qX9_sold_59 rfl (by decide) rfl (by omega) (by decide) ?_
      rw [e51]
      refine J_iload_4 Y qX9_sold_60 ?_
      refine J_icmp_gt Y qX9_sold_62 (by omega) (by omega) (by omega) (by omega) (fun h62 => ?_) (fun h62 => ?_)
      · by_cases hik : i < k
        · have hik : i < k := by omega
          obtain ⟨u1, u2⟩ := h3.rq s s14
          have e50 : N 50 0 (8 * s) = A 27 s i := by have := (u2 0 (by rw [gwS_11]; omega)).1; rw [gwS_27] at this; simpa using this
          have e51 : N 51 0 (8 * s) = A 28 s i := by have := (u2 0 (by rw [gwS_11]; omega)).2; rw [gwS_28] at this; simpa using this
          have wi := w3 i (by omega)
          obtain ⟨ld, hld⟩ := nat_of (show 0 ≤ A 27 s i by omega)
          have e55 : N 55 0 ld = gwS A s k i 18 0 ld := h3.rm ld (by omega)
          refine J_aloadr_0 Y qX9_sold_115 ?_
          refine J_getR Y qX9_sold_116 fX9_37 (by decide) ?_
          refine J_iload_1 Y qX9_sold_119 ?_
          refine J_ialoadN (kx := s) Y qX9_sold_120 rfl (by decide) rfl (by omega) (by decide) ?_
          rw [e49]
          refine J_if_le Y qX9_sold_121 (by omega) (by omega) (fun h121 => ?_) (fun h121 => ?_)
          · exfalso; omega
          · refine J_aloadr_0 Y qX9_sold_124 ?_
            refine J_getR Y qX9_sold_125 fX9_55 (by decide) ?_
            refine J_aloadr_0 Y qX9_sold_128 ?_
            refine J_getR Y qX9_sold_129 fX9_40 (by decide) ?_
            refine J_bipush Y qX9_sold_132 (by decide) ?_
            refine J_iload_1 Y qX9_sold_134 ?_
            refine J_imul Y qX9_sold_135 ?_
            rw [show (8 : Int) * (s : Int) = ((8 * s : Nat) : Int) by omega]
            refine J_ialoadN (kx := (8 * s)) Y qX9_sold_136 rfl (by decide) rfl (by omega) (by decide) ?_
            rw [e50, hld]
            refine J_dup2 Y qX9_sold_137 rfl rfl ?_
            refine J_laloadN (kx := ld) Y qX9_sold_138 rfl (by decide) rfl (by omega) (by decide) ?_
            refine J_iload_4 Y qX9_sold_139 ?_
            refine J_i2l Y qX9_sold_141 (by omega) (by omega) ?_
            refine J_ladd Y qX9_sold_142 ?_
            refine J_lastoreN (kx := ld) Y qX9_sold_143 rfl (by decide) rfl (by omega) (by decide) ?_
            refine J_aloadr_0 Y qX9_sold_144 ?_
            refine J_getR Y qX9_sold_145 fX9_43 (by decide) ?_
            refine J_bipush Y qX9_sold_148 (by decide) ?_
            refine J_iload_1 Y qX9_sold_150 ?_
            refine J_imul Y qX9_sold_151 ?_
            rw [show (8 : Int) * (s : Int) = ((8 * s : Nat) : Int) by omega]
            refine J_dup2 Y qX9_sold_152 rfl rfl ?_
            refine J_ialoadN (kx := (8 * s)) Y qX9_sold_153 rfl (by decide) rfl (by omega) (by decide) ?_
            rw [show up N 55 0 ld (N 55 0 ld + (price - sumN (A 28 s) i)) 51 0 (8 * s) = A 28 s i from e51]
            refine J_iload_4 Y qX9_sold_154 ?_
            refine J_isub Y qX9_sold_156 ?_
            refine J_iastoreN (kx := (8 * s)) Y qX9_sold_157 rfl (by decide) rfl (by omega) (by decide) ?_
            refine J_iconst Y qX9_sold_158 ?_
            refine J_istore_4 Y qX9_sold_159 rfl ?_
            obtain ⟨z1, z2⟩ := pdS_some (A := A) (s := s) (k := k) (m := i) p1 p2 hik hk h5 (by rw [sumN]; omega) hL hD hld
            have h := lp_msold2 (N := up (up N 55 0 ld (N 55 0 ld + (price - sumN (A 28 s) i))) 51 0 (8 * s) (A 28 s i - (price - sumN (A 28 s) i))) hs s14 hp p1 p2 hI hk (MR_AE (by rw [e55]; exact MR_debt0 (MR_purse h3) s14 (fun q hq => by
              rw [up_ne (by omega)]
              by_cases e : q = s
              · subst e; rw [gwS_11]; omega
              · rw [gwS_ne (by omega) (by omega)]; exact (hI.pawns hq).2.1)) z2) ((Sm_up (Or.inl (by decide))).tr ((Sm_up (Or.inl (by decide))).tr h4)) X (x5 := x5)
            rw [z1] at h
            exact h
        · obtain rfl : i = k := by omega
          refine J_aloadr_0 Y qX9_sold_115 ?_
          refine J_getR Y qX9_sold_116 fX9_37 (by decide) ?_
          refine J_iload_1 Y qX9_sold_119 ?_
          refine J_ialoadN (kx := s) Y qX9_sold_120 rfl (by decide) rfl (by omega) (by decide) ?_
          rw [e49]
          refine J_if_le Y qX9_sold_121 (by omega) (by omega) (fun h121 => ?_) (fun h121 => ?_)
          · obtain ⟨z1, z2⟩ := pdS_all (A := A) (s := s) (k := i) (price := price) h5 hL hD
            rw [← z1]
            exact lp_msold2 hs s14 hp p1 p2 hI hk (MR_AE h3 z2) h4 X
          · exfalso; omega
      · refine J_iload_4 Y qX9_sold_65 ?_
        refine J_aloadr_0 Y qX9_sold_67 ?_
        refine J_getR Y qX9_sold_68 fX9_43 (by decide) ?_
        refine J_bipush Y qX9_sold_71 (by decide) ?_
        refine J_iload_1 Y qX9_sold_73 ?_
        refine J_imul Y qX9_sold_74 ?_
        rw [show (8 : Int) * (s : Int) = ((8 * s : Nat) : Int) by omega]
        refine J_ialoadN (kx := (8 * s)) Y qX9_sold_75 rfl (by decide) rfl (by omega) (by decide) ?_
        rw [e51]
        refine J_isub Y qX9_sold_76 ?_
        refine J_istore_4 Y qX9_sold_77 rfl ?_
        refine J_aloadr_0 Y qX9_sold_79 ?_
        refine J_getR Y qX9_sold_80 fX9_55 (by decide) ?_
        refine J_aloadr_0 Y qX9_sold_83 ?_
        refine J_getR Y qX9_sold_84 fX9_40 (by decide) ?_
        refine J_bipush Y qX9_sold_87 (by decide) ?_
        refine J_iload_1 Y qX9_sold_89 ?_
        refine J_imul Y qX9_sold_90 ?_
        rw [show (8 : Int) * (s : Int) = ((8 * s : Nat) : Int) by omega]
        refine J_ialoadN (kx := (8 * s)) Y qX9_sold_91 rfl (by decide) rfl (by omega) (by decide) ?_
        rw [e50, hld]
        refine J_dup2 Y qX9_sold_92 rfl rfl ?_
        refine J_laloadN (kx := ld) Y qX9_sold_93 rfl (by decide) rfl (by omega) (by decide) ?_
        refine J_aloadr_0 Y qX9_sold_94 ?_
        refine J_getR Y qX9_sold_95 fX9_43 (by decide) ?_
        refine J_bipush Y qX9_sold_98 (by decide) ?_
        refine J_iload_1 Y qX9_sold_100 ?_
        refine J_imul Y qX9_sold_101 ?_
        rw [show (8 : Int) * (s : Int) = ((8 * s : Nat) : Int) by omega]
        refine J_ialoadN (kx := (8 * s)) Y qX9_sold_102 rfl (by decide) rfl (by omega) (by decide) ?_
        rw [e51]
        refine J_i2l Y qX9_sold_103 (by omega) (by omega) ?_
        refine J_ladd Y qX9_sold_104 ?_
        refine J_lastoreN (kx := ld) Y qX9_sold_105 rfl (by decide) rfl (by omega) (by decide) ?_
        refine J_aloadr_0 Y qX9_sold_106 ?_
        refine J_iload_1 Y qX9_sold_107 ?_
        refine J_iconst Y qX9_sold_108 ?_
        refine J_cV2W Y qX9_sold_109 mX9_115 iyX9_drops (by decide) rfl (by decide) rfl (Nat.le_of_ble_eq_true rfl) (m_drops (k := k - i) (g := 0) _ _ _ s14 (by rw [up_ne (by omega), e49]; omega) (by omega) (by omega)) ?_
        refine J_goto Y qX9_sold_112 ?_
        have ih9 := ih (i + 1)
        rw [show price - sumN (A 28 s) (i + 1) = price - sumN (A 28 s) i - A 28 s i by rw [sumN]; omega] at ih9
        refine ih9 _ _ (by omega) (by omega) (by rw [sumN]; omega) ?_ (Sm_mdr.tr ((Sm_up (Or.inl (by decide))).tr h4))
        rw [e55]
        exact MR_AE (MR_mdr (MR_purse h3) s14 (by rw [up_ne (by omega), gwS_11]; omega) (by omega) (fun q hq => by
          rw [up_ne (by omega)]
          by_cases e : q = s
          · subst e; rw [gwS_11]; omega
          · rw [gwS_ne (by omega) (by omega)]; exact (hI.pawns hq).2.1)) (gwS_step hik hld)

theorem r_sold (l : Launch) (G : Gx) (M : Mem) {A : Mem} {n : Nat} {a b c : Int} (a1 : -2147483648 ≤ a) (a2 : a < 2147483648) (b1 : -2147483648 ≤ b) (b2 : b < 2147483648) (c1 : -2147483648 ≤ c) (c2 : c < 2147483648) (hI : Inv n A) (hn : n < 512) (hM : MR A M)  : Ct l G 4 yX9_sold cX9_sold 6 ((Option.some Jvm.ClassFile.FieldType.int)) [rf G 9 0, vi a, vi b, vi c] M (QR (f_sold A a b c) M) := by
  refine Ct.of rfl (Nat.le_of_ble_eq_true rfl) rfl (fun E X => ?_)
  have Y := X.ok
  obtain ⟨m1, m2, m3, m4, m5, m6⟩ := hM.r0
  obtain ⟨c1, c2⟩ := hI.count
  obtain ⟨d1, d2⟩ := hI.day
  refine J_aloadr_0 Y qX9_sold_0 ?_
  refine J_iload_1 Y qX9_sold_1 ?_
  refine J_cV1B Y qX9_sold_2 mX9_101 iyX9_isShop (by decide) rfl (by decide) rfl (Nat.le_of_ble_eq_true rfl) (m_isShop _ _ _ (by omega) (by omega) (by omega) (by omega)) (fun h2 => ?_) (fun h2 => ?_)
  · refine J_eq1 Y qX9_sold_5 ?_
    refine J_iload_2 Y qX9_sold_8 ?_
    refine J_cS1B Y qX9_sold_9 mX9_108 iyX9_isPerson rfl (by decide) rfl (Nat.le_of_ble_eq_true rfl) (m_isPerson _ _ _ (by omega) (by omega)) (fun h9 => ?_) (fun h9 => ?_)
    · refine J_ne1 Y qX9_sold_12 ?_
      refine J_iload_3 Y qX9_sold_22 ?_
      refine J_iconst Y qX9_sold_23 ?_
      refine J_ldc Y qX9_sold_24 kX9_121 ?_
      refine J_cS3B Y qX9_sold_26 mX9_93 iyX9_in rfl (by decide) rfl (Nat.le_of_ble_eq_true rfl) (m_in _ _ _ (by omega) (by omega) (by omega) (by omega) (by omega) (by omega)) (fun h26 => ?_) (fun h26 => ?_)
      · refine J_ne1 Y qX9_sold_29 ?_
        refine J_iload_3 Y qX9_sold_39 ?_
        refine J_istore_4 Y qX9_sold_40 rfl ?_
        obtain ⟨s, rfl⟩ := nat_of (show 0 ≤ a by omega)
        obtain ⟨p, rfl⟩ := nat_of (show 0 ≤ b by omega)
        obtain ⟨k, hk⟩ := nat_of (hI.pawns (s := s) (by omega)).1
        have h := lp_msold (p := p) (by omega) (by omega) (by omega) (by omega) (by omega) hI hk X (k + 1) 0 M none (by omega) (by omega) (by show (0 : Int) ≤ c; omega) (by rw [gwS_0 A s k hk]; exact hM) Sm.rfl'
        rw [show c - sumN (A 28 s) 0 = c by show c - 0 = c; omega] at h
        exact h
      · refine J_ne0 Y qX9_sold_29 ?_
        refine J_aloadr_0 Y qX9_sold_32 ?_
        refine J_bipush Y qX9_sold_33 (by decide) ?_
        refine J_cV1F Y qX9_sold_35 mX9_97 iyX9_refuse (by decide) rfl (by decide) rfl (Nat.le_of_ble_eq_true rfl) (m_refuse _ _ _ 7 (by decide) rfl) ?_
        exact J_iret X qX9_sold_38 (QR_e (by
          unfold f_sold
          try simp only [Int.toNat_natCast]
          repeat (first | rewrite [if_pos trivial] | rewrite [if_pos (by omega)] | rewrite [if_neg (by omega)])
          exact rfl) (by first | rfl | (dsimp only; omega)) (by first | exact hM | exact MR_rfs hM (by decide)) (by first | exact Sm.rfl' | exact Sm_up (Or.inl (by decide))))
    · refine J_ne0 Y qX9_sold_12 ?_
      refine J_aloadr_0 Y qX9_sold_15 ?_
      refine J_bipush Y qX9_sold_16 (by decide) ?_
      refine J_cV1F Y qX9_sold_18 mX9_97 iyX9_refuse (by decide) rfl (by decide) rfl (Nat.le_of_ble_eq_true rfl) (m_refuse _ _ _ 3 (by decide) rfl) ?_
      exact J_iret X qX9_sold_21 (QR_e (by
        unfold f_sold
        try simp only [Int.toNat_natCast]
        repeat (first | rewrite [if_pos trivial] | rewrite [if_pos (by omega)] | rewrite [if_neg (by omega)])
        exact rfl) (by first | rfl | (dsimp only; omega)) (by first | exact hM | exact MR_rfs hM (by decide)) (by first | exact Sm.rfl' | exact Sm_up (Or.inl (by decide))))
  · refine J_eq0 Y qX9_sold_5 ?_
    refine J_aloadr_0 Y qX9_sold_15 ?_
    refine J_bipush Y qX9_sold_16 (by decide) ?_
    refine J_cV1F Y qX9_sold_18 mX9_97 iyX9_refuse (by decide) rfl (by decide) rfl (Nat.le_of_ble_eq_true rfl) (m_refuse _ _ _ 3 (by decide) rfl) ?_
    exact J_iret X qX9_sold_21 (QR_e (by
      unfold f_sold
      try simp only [Int.toNat_natCast]
      repeat (first | rewrite [if_pos trivial] | rewrite [if_pos (by omega)] | rewrite [if_neg (by omega)])
      exact rfl) (by first | rfl | (dsimp only; omega)) (by first | exact hM | exact MR_rfs hM (by decide)) (by first | exact Sm.rfl' | exact Sm_up (Or.inl (by decide))))


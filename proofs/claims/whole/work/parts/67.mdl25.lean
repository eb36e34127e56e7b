/-! ===== the reference: fire, its walk ===== -/
theorem lp_mbes {l : Launch} {G : Gx} {E : Fx} {M : Mem} {A : Mem} {m c : Nat} (hI : Inv m A) (hM : MR A M) (hc : A 0 0 2 = (c : Int)) (c14 : c ≤ 14) {a b : Nat} (ha : a < c) (hb : b < c) (hab : a ≠ b) {lo hi : Nat} (hlo : lo = min a b) (hhi : hi = max a b) (hne : A 5 a 1 ≠ A 5 b 1) (hst : A 5 a 0 = A 5 b 0) (X : OkM l G E cX9_areBeside RX9 6 1 (some .boolean) (RB M (areB A a b))) : ∀ (n i : Nat), lo < i → i ≤ hi → hi < i + n → (∀ u, lo < u → u < i → A 5 u 0 ≠ A 5 a 0) → J G E 57 [some (rf G 9 0), some (vi (a : Int)), some (vi (b : Int)), some (vi (lo : Int)), some (vi (hi : Int)), some (vi (i : Int))] [] M := by
  have Y := X.ok
  have sa := hI.shopS (s := a) (by omega)
  have sb := hI.shopS (s := b) (by omega)
  obtain ⟨a1, a2, a3, a4⟩ := hM.rs a (by omega)
  obtain ⟨b1, b2, b3, b4⟩ := hM.rs b (by omega)
  unfold IvS at sa sb
  intro n
  induction n with
  | zero => intro i h0 h1 h2 h3; exfalso; omega
  | succ n ih =>
    intro i h0 h1 h2 h3
    refine J_iload_5 Y qX9_areBeside_57 ?_
    refine J_iload_4 Y qX9_areBeside_59 ?_
    refine J_icmp_ge Y qX9_areBeside_61 (by omega) (by omega) (by omega) (by omega) (fun h61 => ?_) (fun h61 => ?_)
    · refine J_iconst Y qX9_areBeside_88 ?_
      exact J_zret_t X qX9_areBeside_89 rfl ⟨hab, Or.inr ⟨hst, fun u hu => h3 u (by omega) (by omega)⟩⟩
    · have si := hI.shopS (s := i) (by omega)
      unfold IvS at si
      have i1 := (hM.rs i (by omega)).1
      refine J_aloadr_0 Y qX9_areBeside_64 ?_
      refine J_getR Y qX9_areBeside_65 fX9_13 (by decide) ?_
      refine J_iload_5 Y qX9_areBeside_68 ?_
      refine J_ialoadN (kx := i) Y qX9_areBeside_70 rfl (by decide) rfl (by omega) (by decide) ?_
      rw [i1]
      refine J_aloadr_0 Y qX9_areBeside_71 ?_
      refine J_getR Y qX9_areBeside_72 fX9_13 (by decide) ?_
      refine J_iload_1 Y qX9_areBeside_75 ?_
      refine J_ialoadN (kx := a) Y qX9_areBeside_76 rfl (by decide) rfl (by omega) (by decide) ?_
      rw [a1]
      refine J_icmp_ne Y qX9_areBeside_77 (by omega) (by omega) (by omega) (by omega) (fun h77 => ?_) (fun h77 => ?_)
      · refine J_iinc_5 Y qX9_areBeside_82 rfl ?_
        refine J_goto Y qX9_areBeside_85 ?_
        exact ih (i + 1) (by omega) (by omega) (by omega) (fun u hu1 hu2 => by
          by_cases e : u = i
          · subst e; exact h77
          · exact h3 u hu1 (by omega))
      · refine J_iconst Y qX9_areBeside_80 ?_
        exact J_zret_f X qX9_areBeside_81 rfl (fun z => by
          rcases z.2 with z2 | ⟨z2, z3⟩
          · exact hne z2
          · exact z3 i (by omega) h77)

theorem m_areBeside (l : Launch) (G : Gx) (M : Mem) {A : Mem} {m c : Nat} (hI : Inv m A) (hM : MR A M) (hc : A 0 0 2 = (c : Int)) (c14 : c ≤ 14) {a b : Nat} (ha : a < c) (hb : b < c) (hab : a ≠ b) : Ct l G 1 yX9_areBeside cX9_areBeside 6 ((Option.some Jvm.ClassFile.FieldType.boolean)) [rf G 9 0, vi (a : Nat), vi (b : Nat)] M (RB M (areB A a b)) := by
  refine Ct.of rfl (Nat.le_of_ble_eq_true rfl) rfl (fun E X => ?_)
  have Y := X.ok
  have sa := hI.shopS (s := a) (by omega)
  have sb := hI.shopS (s := b) (by omega)
  obtain ⟨a1, a2, a3, a4⟩ := hM.rs a (by omega)
  obtain ⟨b1, b2, b3, b4⟩ := hM.rs b (by omega)
  unfold IvS at sa sb
  obtain ⟨lo, hlo⟩ : ∃ lo, lo = min a b := ⟨_, rfl⟩
  obtain ⟨hi, hhi⟩ : ∃ hi, hi = max a b := ⟨_, rfl⟩
  refine J_aloadr_0 Y qX9_areBeside_0 ?_
  refine J_getR Y qX9_areBeside_1 fX9_16 (by decide) ?_
  refine J_iload_1 Y qX9_areBeside_4 ?_
  refine J_ialoadN (kx := a) Y qX9_areBeside_5 rfl (by decide) rfl (by omega) (by decide) ?_
  rw [a2]
  refine J_aloadr_0 Y qX9_areBeside_6 ?_
  refine J_getR Y qX9_areBeside_7 fX9_16 (by decide) ?_
  refine J_iload_2 Y qX9_areBeside_10 ?_
  refine J_ialoadN (kx := b) Y qX9_areBeside_11 rfl (by decide) rfl (by omega) (by decide) ?_
  rw [b2]
  refine J_icmp_ne Y qX9_areBeside_12 (by omega) (by omega) (by omega) (by omega) (fun h12 => ?_) (fun h12 => ?_)
  · refine J_aloadr_0 Y qX9_areBeside_17 ?_
    refine J_getR Y qX9_areBeside_18 fX9_13 (by decide) ?_
    refine J_iload_1 Y qX9_areBeside_21 ?_
    refine J_ialoadN (kx := a) Y qX9_areBeside_22 rfl (by decide) rfl (by omega) (by decide) ?_
    rw [a1]
    refine J_aloadr_0 Y qX9_areBeside_23 ?_
    refine J_getR Y qX9_areBeside_24 fX9_13 (by decide) ?_
    refine J_iload_2 Y qX9_areBeside_27 ?_
    refine J_ialoadN (kx := b) Y qX9_areBeside_28 rfl (by decide) rfl (by omega) (by decide) ?_
    rw [b1]
    refine J_icmp_eq Y qX9_areBeside_29 (by omega) (by omega) (by omega) (by omega) (fun h29 => ?_) (fun h29 => ?_)
    · refine J_iload_1 Y qX9_areBeside_34 ?_
      refine J_iload_2 Y qX9_areBeside_35 ?_
      refine J_icmp_ge Y qX9_areBeside_36 (by omega) (by omega) (by omega) (by omega) (fun h36 => ?_) (fun h36 => ?_)
      · refine J_iload_2 Y qX9_areBeside_43 ?_
        refine J_eqv (w := vi (lo : Int)) (congrArg vi (show _ = (lo : Int) by omega)) ?_
        refine J_istore_3 Y qX9_areBeside_44 rfl ?_
        refine J_iload_1 Y qX9_areBeside_45 ?_
        refine J_iload_2 Y qX9_areBeside_46 ?_
        refine J_iadd Y qX9_areBeside_47 ?_
        refine J_iload_3 Y qX9_areBeside_48 ?_
        refine J_isub Y qX9_areBeside_49 ?_
        rw [show (a : Int) + (b : Int) - (lo : Int) = (hi : Int) by omega]
        refine J_istore_4 Y qX9_areBeside_50 rfl ?_
        refine J_iload_3 Y qX9_areBeside_52 ?_
        refine J_iconst Y qX9_areBeside_53 ?_
        refine J_iadd Y qX9_areBeside_54 ?_
        rw [show (lo : Int) + 1 = ((lo + 1 : Nat) : Int) by omega]
        refine J_istore_5 Y qX9_areBeside_55 rfl ?_
        exact lp_mbes hI hM hc c14 ha hb hab hlo hhi h12 h29 X (hi + 1) (lo + 1) (by omega) (by omega) (by omega) (fun u h1 h2 => by omega)
      · refine J_iload_1 Y qX9_areBeside_39 ?_
        refine J_goto Y qX9_areBeside_40 ?_
        refine J_eqv (w := vi (lo : Int)) (congrArg vi (show _ = (lo : Int) by omega)) ?_
        refine J_istore_3 Y qX9_areBeside_44 rfl ?_
        refine J_iload_1 Y qX9_areBeside_45 ?_
        refine J_iload_2 Y qX9_areBeside_46 ?_
        refine J_iadd Y qX9_areBeside_47 ?_
        refine J_iload_3 Y qX9_areBeside_48 ?_
        refine J_isub Y qX9_areBeside_49 ?_
        rw [show (a : Int) + (b : Int) - (lo : Int) = (hi : Int) by omega]
        refine J_istore_4 Y qX9_areBeside_50 rfl ?_
        refine J_iload_3 Y qX9_areBeside_52 ?_
        refine J_iconst Y qX9_areBeside_53 ?_
        refine J_iadd Y qX9_areBeside_54 ?_
        rw [show (lo : Int) + 1 = ((lo + 1 : Nat) : Int) by omega]
        refine J_istore_5 Y qX9_areBeside_55 rfl ?_
        exact lp_mbes hI hM hc c14 ha hb hab hlo hhi h12 h29 X (hi + 1) (lo + 1) (by omega) (by omega) (by omega) (fun u h1 h2 => by omega)
    · refine J_iconst Y qX9_areBeside_32 ?_
      exact J_zret_f X qX9_areBeside_33 rfl (fun z => by
        rcases z.2 with z2 | ⟨z2, z3⟩
        · exact h12 z2
        · exact h29 z2)
  · refine J_iconst Y qX9_areBeside_15 ?_
    exact J_zret_t X qX9_areBeside_16 rfl ⟨hab, Or.inl (by omega)⟩

theorem MR_63 {a N : Mem} {g : Nat → Int} (h : MR a N) : MR a (upR N 63 0 g) := ⟨h.r0, h.rr, h.rs, h.rp, h.rl, h.rq, h.rh, h.rm, h.rt, h.ru, h.rf, h.rb, h.rw⟩
theorem Sm_63 {N : Mem} {g : Nat → Int} : Sm (upR N 63 0 g) N := Sm_upR (Or.inl (by decide))
theorem lp_ff3 {l : Launch} {G : Gx} {E : Fx} {M : Mem} {A : Mem} {m c : Nat} (hI : Inv m A) (hM : MR A M) (hc : A 0 0 2 = (c : Int)) (c14 : c ≤ 14) {fr op : Nat} (hfr : fr < c) (hop : op < 16384) {P : Option Value → Mem → Prop} {k a : Nat} (ha : a < c) (hK : ∀ B : Nat → Int, BfR A fr op c (fireD A fr op) k a c B → J G E 159 [some (rf G 9 0), some (vi (fr : Int)), some (vi (op : Int)), some (vi (k : Int)), some (vi (a : Int)), some (vi (c : Int))] [] (upR M 63 0 B)) (X : OkM l G E cX9_findFire RX9 6 2 none P) : ∀ (n i : Nat) (B : Nat → Int), i ≤ c → c < i + n → BfR A fr op c (fireD A fr op) k a i B → J G E 58 [some (rf G 9 0), some (vi (fr : Int)), some (vi (op : Int)), some (vi (k : Int)), some (vi (a : Int)), some (vi (i : Int))] [] (upR M 63 0 B) := by
  have Y := X.ok
  have hz : ∀ s, s < c → 1 ≤ A 5 s 3 ∧ A 5 s 3 ≤ 9 := fun s hs => (hI.shopS (s := s) (by omega)).2.2.2
  have hF := fireD_ok (op := op) hI hc c14 hfr
  have e02 : ∀ B : Nat → Int, upR M 63 0 B 9 0 2 = (c : Int) := fun B => by rw [upR_ne (by omega), hM.r0.2.1]; exact hc
  intro n
  induction n with
  | zero => intro i B h1 h2 h3; exfalso; omega
  | succ n ih =>
    intro i B h1 h2 h3
    refine J_iload_5 Y qX9_findFire_58 ?_
    refine J_aloadr_0 Y qX9_findFire_60 ?_
    refine J_getI Y qX9_findFire_61 fX9_89 (by decide) ?_
    rw [e02]
    refine J_icmp_ge Y qX9_findFire_64 (by omega) (by omega) (by omega) (by omega) (fun h64 => ?_) (fun h64 => ?_)
    · obtain rfl : i = c := by omega
      exact hK B h3
    · have ga := h3.1 a ha
      have gi := h3.1 i (by omega)
      have zi := hz i (by omega)
      have e44 : upR M 63 0 B 44 0 i = A 5 i 3 := by rw [upR_ne (by omega), (hM.rs i (by omega)).2.2.2]
      refine J_aloadr_0 Y qX9_findFire_67 ?_
      refine J_getR Y qX9_findFire_68 fX9_80 (by decide) ?_
      refine J_iload_4 Y qX9_findFire_71 ?_
      refine J_ialoadN (kx := a) Y qX9_findFire_73 rfl (by decide) rfl (by omega) (by decide) ?_
      rw [upR_at]
      refine J_ldc Y qX9_findFire_74 kX9_196 ?_
      refine J_icmp_ge Y qX9_findFire_76 (by omega) (by omega) (by omega) (by omega) (fun h76 => ?_) (fun h76 => ?_)
      · first
          | (rw [upR_up]
             refine J_iinc_5 Y qX9_findFire_153 rfl ?_
             refine J_goto Y qX9_findFire_156 ?_
             have hopb : op.testBit i = false := Bool_no (fun z => by have := hbd.mpr z; omega)
             exact ih (i + 1) _ (by omega) (by omega) (BfR_step hc hF hz ha (by omega) h3 (Or.inr ⟨rfl, by omega, by omega, hopb, by omega, h125⟩)))
          | (refine J_iinc_5 Y qX9_findFire_153 rfl ?_
             refine J_goto Y qX9_findFire_156 ?_
             refine ih (i + 1) B (by omega) (by omega) (BfR_step hc hF hz ha (by omega) h3 (Or.inl ⟨rfl, fun z => ?_⟩))
             obtain ⟨z1, z2, z3, z4, z5⟩ := z
             first
               | omega
               | exact h125 z5
               | (have : bb = 1 := by omega
                  rw [hbd.mp this] at z3
                  cases z3))
      · refine J_iload_4 Y qX9_findFire_79 ?_
        refine J_iload_5 Y qX9_findFire_81 ?_
        refine J_icmp_eq Y qX9_findFire_83 (by omega) (by omega) (by omega) (by omega) (fun h83 => ?_) (fun h83 => ?_)
        · first
            | (rw [upR_up]
               refine J_iinc_5 Y qX9_findFire_153 rfl ?_
               refine J_goto Y qX9_findFire_156 ?_
               have hopb : op.testBit i = false := Bool_no (fun z => by have := hbd.mpr z; omega)
               exact ih (i + 1) _ (by omega) (by omega) (BfR_step hc hF hz ha (by omega) h3 (Or.inr ⟨rfl, by omega, by omega, hopb, by omega, h125⟩)))
            | (refine J_iinc_5 Y qX9_findFire_153 rfl ?_
               refine J_goto Y qX9_findFire_156 ?_
               refine ih (i + 1) B (by omega) (by omega) (BfR_step hc hF hz ha (by omega) h3 (Or.inl ⟨rfl, fun z => ?_⟩))
               obtain ⟨z1, z2, z3, z4, z5⟩ := z
               first
                 | omega
                 | exact h125 z5
                 | (have : bb = 1 := by omega
                    rw [hbd.mp this] at z3
                    cases z3))
        · refine J_iload_2 Y qX9_findFire_86 ?_
          refine J_iload_5 Y qX9_findFire_87 ?_
          refine J_ishr Y i qX9_findFire_89 rfl (by omega) (by omega) (by omega) ?_
          refine J_iconst Y qX9_findFire_90 ?_
          refine J_mask Y 1 qX9_findFire_91 (by decide) (by decide +kernel) ?_
          obtain ⟨bb, hbb⟩ : ∃ b, op / 2 ^ i % 2 = b := ⟨_, rfl⟩
          have hb2 := Nat.mod_lt (op / 2 ^ i) (show 0 < 2 by decide)
          have hbd := bit_div op i
          rw [hbb] at hb2 hbd
          rw [show (op : Int) / 2 ^ i % 2 ^ 1 = (bb : Int) from by rw [← hbb]; simp]
          refine J_if_ne Y qX9_findFire_92 (by omega) (by omega) (fun h92 => ?_) (fun h92 => ?_)
          · first
              | (rw [upR_up]
                 refine J_iinc_5 Y qX9_findFire_153 rfl ?_
                 refine J_goto Y qX9_findFire_156 ?_
                 have hopb : op.testBit i = false := Bool_no (fun z => by have := hbd.mpr z; omega)
                 exact ih (i + 1) _ (by omega) (by omega) (BfR_step hc hF hz ha (by omega) h3 (Or.inr ⟨rfl, by omega, by omega, hopb, by omega, h125⟩)))
              | (refine J_iinc_5 Y qX9_findFire_153 rfl ?_
                 refine J_goto Y qX9_findFire_156 ?_
                 refine ih (i + 1) B (by omega) (by omega) (BfR_step hc hF hz ha (by omega) h3 (Or.inl ⟨rfl, fun z => ?_⟩))
                 obtain ⟨z1, z2, z3, z4, z5⟩ := z
                 first
                   | omega
                   | exact h125 z5
                   | (have : bb = 1 := by omega
                      rw [hbd.mp this] at z3
                      cases z3))
          · refine J_aloadr_0 Y qX9_findFire_95 ?_
            refine J_getR Y qX9_findFire_96 fX9_80 (by decide) ?_
            refine J_iload_4 Y qX9_findFire_99 ?_
            refine J_ialoadN (kx := a) Y qX9_findFire_101 rfl (by decide) rfl (by omega) (by decide) ?_
            rw [upR_at]
            refine J_aloadr_0 Y qX9_findFire_102 ?_
            refine J_getR Y qX9_findFire_103 fX9_22 (by decide) ?_
            refine J_iload_5 Y qX9_findFire_106 ?_
            refine J_ialoadN (kx := i) Y qX9_findFire_108 rfl (by decide) rfl (by omega) (by decide) ?_
            rw [e44]
            refine J_iadd Y qX9_findFire_109 ?_
            refine J_aloadr_0 Y qX9_findFire_110 ?_
            refine J_getR Y qX9_findFire_111 fX9_80 (by decide) ?_
            refine J_iload_5 Y qX9_findFire_114 ?_
            refine J_ialoadN (kx := i) Y qX9_findFire_116 rfl (by decide) rfl (by omega) (by decide) ?_
            rw [upR_at]
            refine J_icmp_ge Y qX9_findFire_117 (by omega) (by omega) (by omega) (by omega) (fun h117 => ?_) (fun h117 => ?_)
            · first
                | (rw [upR_up]
                   refine J_iinc_5 Y qX9_findFire_153 rfl ?_
                   refine J_goto Y qX9_findFire_156 ?_
                   have hopb : op.testBit i = false := Bool_no (fun z => by have := hbd.mpr z; omega)
                   exact ih (i + 1) _ (by omega) (by omega) (BfR_step hc hF hz ha (by omega) h3 (Or.inr ⟨rfl, by omega, by omega, hopb, by omega, h125⟩)))
                | (refine J_iinc_5 Y qX9_findFire_153 rfl ?_
                   refine J_goto Y qX9_findFire_156 ?_
                   refine ih (i + 1) B (by omega) (by omega) (BfR_step hc hF hz ha (by omega) h3 (Or.inl ⟨rfl, fun z => ?_⟩))
                   obtain ⟨z1, z2, z3, z4, z5⟩ := z
                   first
                     | omega
                     | exact h125 z5
                     | (have : bb = 1 := by omega
                        rw [hbd.mp this] at z3
                        cases z3))
            · refine J_aloadr_0 Y qX9_findFire_120 ?_
              refine J_iload_4 Y qX9_findFire_121 ?_
              refine J_iload_5 Y qX9_findFire_123 ?_
              refine J_cV2B Y qX9_findFire_125 mX9_207 iyX9_areBeside (by decide) rfl (by decide) rfl (Nat.le_of_ble_eq_true rfl) (m_areBeside (A := A) (c := c) _ _ _ hI (MR_63 hM) hc c14 ha (by omega) (by omega)) (fun h125 => ?_) (fun h125 => ?_)
              · refine J_eq1 Y qX9_findFire_128 ?_
                refine J_aloadr_0 Y qX9_findFire_131 ?_
                refine J_getR Y qX9_findFire_132 fX9_80 (by decide) ?_
                refine J_iload_5 Y qX9_findFire_135 ?_
                refine J_aloadr_0 Y qX9_findFire_137 ?_
                refine J_getR Y qX9_findFire_138 fX9_80 (by decide) ?_
                refine J_iload_4 Y qX9_findFire_141 ?_
                refine J_ialoadN (kx := a) Y qX9_findFire_143 rfl (by decide) rfl (by omega) (by decide) ?_
                rw [upR_at]
                refine J_aloadr_0 Y qX9_findFire_144 ?_
                refine J_getR Y qX9_findFire_145 fX9_22 (by decide) ?_
                refine J_iload_5 Y qX9_findFire_148 ?_
                refine J_ialoadN (kx := i) Y qX9_findFire_150 rfl (by decide) rfl (by omega) (by decide) ?_
                rw [e44]
                refine J_iadd Y qX9_findFire_151 ?_
                refine J_iastoreN (kx := i) Y qX9_findFire_152 rfl (by decide) rfl (by omega) (by decide) ?_
                first
                  | (rw [upR_up]
                     refine J_iinc_5 Y qX9_findFire_153 rfl ?_
                     refine J_goto Y qX9_findFire_156 ?_
                     have hopb : op.testBit i = false := Bool_no (fun z => by have := hbd.mpr z; omega)
                     exact ih (i + 1) _ (by omega) (by omega) (BfR_step hc hF hz ha (by omega) h3 (Or.inr ⟨rfl, by omega, by omega, hopb, by omega, h125⟩)))
                  | (refine J_iinc_5 Y qX9_findFire_153 rfl ?_
                     refine J_goto Y qX9_findFire_156 ?_
                     refine ih (i + 1) B (by omega) (by omega) (BfR_step hc hF hz ha (by omega) h3 (Or.inl ⟨rfl, fun z => ?_⟩))
                     obtain ⟨z1, z2, z3, z4, z5⟩ := z
                     first
                       | omega
                       | exact h125 z5
                       | (have : bb = 1 := by omega
                          rw [hbd.mp this] at z3
                          cases z3))
              · refine J_eq0 Y qX9_findFire_128 ?_
                first
                  | (rw [upR_up]
                     refine J_iinc_5 Y qX9_findFire_153 rfl ?_
                     refine J_goto Y qX9_findFire_156 ?_
                     have hopb : op.testBit i = false := Bool_no (fun z => by have := hbd.mpr z; omega)
                     exact ih (i + 1) _ (by omega) (by omega) (BfR_step hc hF hz ha (by omega) h3 (Or.inr ⟨rfl, by omega, by omega, hopb, by omega, h125⟩)))
                  | (refine J_iinc_5 Y qX9_findFire_153 rfl ?_
                     refine J_goto Y qX9_findFire_156 ?_
                     refine ih (i + 1) B (by omega) (by omega) (BfR_step hc hF hz ha (by omega) h3 (Or.inl ⟨rfl, fun z => ?_⟩))
                     obtain ⟨z1, z2, z3, z4, z5⟩ := z
                     first
                       | omega
                       | exact h125 z5
                       | (have : bb = 1 := by omega
                          rw [hbd.mp this] at z3
                          cases z3))

theorem lp_ff2 {l : Launch} {G : Gx} {E : Fx} {M : Mem} {A : Mem} {m c : Nat} (hI : Inv m A) (hM : MR A M) (hc : A 0 0 2 = (c : Int)) (c14 : c ≤ 14) {fr op : Nat} (hfr : fr < c) (hop : op < 16384) {P : Option Value → Mem → Prop} {k : Nat} (hK : ∀ (B : Nat → Int) (x5 : Option Value), BfR A fr op c (fireD A fr op) k c 0 B → J G E 165 [some (rf G 9 0), some (vi (fr : Int)), some (vi (op : Int)), some (vi (k : Int)), some (vi (c : Int)), x5] [] (upR M 63 0 B)) (X : OkM l G E cX9_findFire RX9 6 2 none P) : ∀ (n i : Nat) (B : Nat → Int) (x5 : Option Value), i ≤ c → c < i + n → BfR A fr op c (fireD A fr op) k i 0 B → J G E 46 [some (rf G 9 0), some (vi (fr : Int)), some (vi (op : Int)), some (vi (k : Int)), some (vi (i : Int)), x5] [] (upR M 63 0 B) := by
  have Y := X.ok
  have hz : ∀ s, s < c → 1 ≤ A 5 s 3 ∧ A 5 s 3 ≤ 9 := fun s hs => (hI.shopS (s := s) (by omega)).2.2.2
  have hF := fireD_ok (op := op) hI hc c14 hfr
  have e02 : ∀ B : Nat → Int, upR M 63 0 B 9 0 2 = (c : Int) := fun B => by rw [upR_ne (by omega), hM.r0.2.1]; exact hc
  intro n
  induction n with
  | zero => intro i B x5 h1 h2 h3; exfalso; omega
  | succ n ih =>
    intro i B x5 h1 h2 h3
    refine J_iload_4 Y qX9_findFire_46 ?_
    refine J_aloadr_0 Y qX9_findFire_48 ?_
    refine J_getI Y qX9_findFire_49 fX9_89 (by decide) ?_
    rw [e02]
    refine J_icmp_ge Y qX9_findFire_52 (by omega) (by omega) (by omega) (by omega) (fun h52 => ?_) (fun h52 => ?_)
    · obtain rfl : i = c := by omega
      exact hK B x5 h3
    · refine J_iconst Y qX9_findFire_55 ?_
      refine J_istore_5 Y qX9_findFire_56 rfl ?_
      refine lp_ff3 hI hM hc c14 hfr hop (by omega) (fun B2 g => ?_) X (c + 1) 0 B (by omega) (by omega) h3
      refine J_iinc_4 Y qX9_findFire_159 rfl ?_
      refine J_goto Y qX9_findFire_162 ?_
      exact ih (i + 1) B2 _ (by omega) (by omega) (BfR_row g)

theorem lp_ff1 {l : Launch} {G : Gx} {E : Fx} {M : Mem} {A : Mem} {m c : Nat} (hI : Inv m A) (hM : MR A M) (hc : A 0 0 2 = (c : Int)) (c14 : c ≤ 14) {fr op : Nat} (hfr : fr < c) (hop : op < 16384) (X : OkM l G E cX9_findFire RX9 6 2 none (RV (fun M2 => ∃ B : Nat → Int, M2 = upR M 63 0 B ∧ ∀ s, s < c → B s = if (fireD A fr op) s = -1 then 1000000 else (fireD A fr op) s))) : ∀ (n i : Nat) (B : Nat → Int) (x4 x5 : Option Value), i ≤ c → c < i + n → BfR A fr op c (fireD A fr op) i 0 0 B → J G E 35 [some (rf G 9 0), some (vi (fr : Int)), some (vi (op : Int)), some (vi (i : Int)), x4, x5] [] (upR M 63 0 B) := by
  have Y := X.ok
  have hz : ∀ s, s < c → 1 ≤ A 5 s 3 ∧ A 5 s 3 ≤ 9 := fun s hs => (hI.shopS (s := s) (by omega)).2.2.2
  have hF := fireD_ok (op := op) hI hc c14 hfr
  have e02 : ∀ B : Nat → Int, upR M 63 0 B 9 0 2 = (c : Int) := fun B => by rw [upR_ne (by omega), hM.r0.2.1]; exact hc
  intro n
  induction n with
  | zero => intro i B x4 x5 h1 h2 h3; exfalso; omega
  | succ n ih =>
    intro i B x4 x5 h1 h2 h3
    refine J_iload_3 Y qX9_findFire_35 ?_
    refine J_aloadr_0 Y qX9_findFire_36 ?_
    refine J_getI Y qX9_findFire_37 fX9_89 (by decide) ?_
    rw [e02]
    refine J_icmp_ge Y qX9_findFire_40 (by omega) (by omega) (by omega) (by omega) (fun h40 => ?_) (fun h40 => ?_)
    · obtain rfl : i = c := by omega
      exact J_vret X qX9_findFire_171 ⟨rfl, B, rfl, BfR_end h3⟩
    · refine J_iconst Y qX9_findFire_43 ?_
      refine J_istore_4 Y qX9_findFire_44 rfl ?_
      refine lp_ff2 hI hM hc c14 hfr hop (fun B2 y5 g => ?_) X (c + 1) 0 B x5 (by omega) (by omega) h3
      refine J_iinc_3 Y qX9_findFire_165 rfl ?_
      refine J_goto Y qX9_findFire_168 ?_
      exact ih (i + 1) B2 _ _ (by omega) (by omega) (BfR_round hc hF (fun s hs => (hz s hs).1) g)

theorem lp_ff0 {l : Launch} {G : Gx} {E : Fx} {M : Mem} {A : Mem} {m c : Nat} (hI : Inv m A) (hM : MR A M) (hc : A 0 0 2 = (c : Int)) (c14 : c ≤ 14) {fr op : Nat} (hfr : fr < c) (hop : op < 16384) (X : OkM l G E cX9_findFire RX9 6 2 none (RV (fun M2 => ∃ B : Nat → Int, M2 = upR M 63 0 B ∧ ∀ s, s < c → B s = if (fireD A fr op) s = -1 then 1000000 else (fireD A fr op) s))) : ∀ (n i : Nat), i ≤ c → c < i + n → J G E 2 [some (rf G 9 0), some (vi (fr : Int)), some (vi (op : Int)), some (vi (i : Int)), none, none] [] (upR M 63 0 (fun q => if q < i then (if q = fr then 0 else 1000000) else M 63 0 q)) := by
  have Y := X.ok
  have hz : ∀ s, s < c → 1 ≤ A 5 s 3 ∧ A 5 s 3 ≤ 9 := fun s hs => (hI.shopS (s := s) (by omega)).2.2.2
  have hF := fireD_ok (op := op) hI hc c14 hfr
  have e02 : ∀ B : Nat → Int, upR M 63 0 B 9 0 2 = (c : Int) := fun B => by rw [upR_ne (by omega), hM.r0.2.1]; exact hc
  intro n
  induction n with
  | zero => intro i h1 h2; exfalso; omega
  | succ n ih =>
    intro i h1 h2
    refine J_iload_3 Y qX9_findFire_2 ?_
    refine J_aloadr_0 Y qX9_findFire_3 ?_
    refine J_getI Y qX9_findFire_4 fX9_89 (by decide) ?_
    rw [e02]
    refine J_icmp_ge Y qX9_findFire_7 (by omega) (by omega) (by omega) (by omega) (fun h7 => ?_) (fun h7 => ?_)
    · obtain rfl : i = c := by omega
      refine J_iconst Y qX9_findFire_33 ?_
      refine J_istore_3 Y qX9_findFire_34 rfl ?_
      exact lp_ff1 hI hM hc c14 hfr hop X (i + 1) 0 _ _ _ (by omega) (by omega) (BfR_0 hc hF (fun s hs => (hz s hs).1) hfr (fun s hs => by rw [if_pos hs]))
    · refine J_aloadr_0 Y qX9_findFire_10 ?_
      refine J_getR Y qX9_findFire_11 fX9_80 (by decide) ?_
      refine J_iload_3 Y qX9_findFire_14 ?_
      refine J_iload_3 Y qX9_findFire_15 ?_
      refine J_iload_1 Y qX9_findFire_16 ?_
      refine J_icmp_ne Y qX9_findFire_17 (by omega) (by omega) (by omega) (by omega) (fun h17 => ?_) (fun h17 => ?_)
      · refine J_ldc Y qX9_findFire_24 kX9_196 ?_
        refine J_iastoreN (kx := i) Y qX9_findFire_26 rfl (by decide) rfl (by omega) (by decide) ?_
        refine J_iinc_3 Y qX9_findFire_27 rfl ?_
        refine J_goto Y qX9_findFire_30 ?_
        have ih9 := ih (i + 1) (by omega) (by omega)
        rw [upR_up]
        refine cast (congrArg _ (upR_cong (fun q => ?_))) ih9
        by_cases e : q = i
        · subst e
          rw [if_pos (by omega), if_pos rfl]
          first
            | rw [if_pos (by omega)]
            | rw [if_neg (by omega)]
        · rw [if_neg e]
          have : (q < i + 1) ↔ (q < i) := by omega
          simp only [this]
      · refine J_iconst Y qX9_findFire_20 ?_
        refine J_goto Y qX9_findFire_21 ?_
        refine J_iastoreN (kx := i) Y qX9_findFire_26 rfl (by decide) rfl (by omega) (by decide) ?_
        refine J_iinc_3 Y qX9_findFire_27 rfl ?_
        refine J_goto Y qX9_findFire_30 ?_
        have ih9 := ih (i + 1) (by omega) (by omega)
        rw [upR_up]
        refine cast (congrArg _ (upR_cong (fun q => ?_))) ih9
        by_cases e : q = i
        · subst e
          rw [if_pos (by omega), if_pos rfl]
          first
            | rw [if_pos (by omega)]
            | rw [if_neg (by omega)]
        · rw [if_neg e]
          have : (q < i + 1) ↔ (q < i) := by omega
          simp only [this]

theorem m_findFire (l : Launch) (G : Gx) (M : Mem) {A : Mem} {m c : Nat} (hI : Inv m A) (hM : MR A M) (hc : A 0 0 2 = (c : Int)) (c14 : c ≤ 14) {fr op : Nat} (hfr : fr < c) (hop : op < 16384) : Ct l G 2 yX9_findFire cX9_findFire 6 ((Option.none : Option Jvm.ClassFile.FieldType)) [rf G 9 0, vi (fr : Nat), vi (op : Nat)] M (RV (fun M2 => ∃ B : Nat → Int, M2 = upR M 63 0 B ∧ ∀ s, s < c → B s = if (fireD A fr op) s = -1 then 1000000 else (fireD A fr op) s)) := by
  refine Ct.of rfl (Nat.le_of_ble_eq_true rfl) rfl (fun E X => ?_)
  have Y := X.ok
  refine J_iconst Y qX9_findFire_0 ?_
  refine J_istore_3 Y qX9_findFire_1 rfl ?_
  have h := lp_ff0 hI hM hc c14 hfr hop X (c + 1) 0 (by omega) (by omega)
  rw [show upR M 63 0 (fun q => if q < 0 then (if q = fr then 0 else 1000000) else M 63 0 q) = M from by rw [show (fun q => if q < 0 then (if q = fr then 0 else 1000000) else M 63 0 q) = M 63 0 from by funext q; rw [if_neg (by omega)]]; exact upR_self M 63 0] at h
  exact h


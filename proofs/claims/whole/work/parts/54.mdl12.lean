/-! ===== the reference: repairs ===== -/
theorem fstP_ne {M : Mem} {f s : Nat} (h : IvR M f s) : fstP (M f s) 10 ≠ -1 := by
  intro e
  have h1 := (fstP_rng (M f s) 10).2.2 e
  have h2 := sumN_le (g := M f s) (c := 0) 10 h1
  have h3 := h.2
  omega
theorem MR_18 {a N a2 N2 : Mem} (h : MR a N) (ha : ∀ x y z : Nat, x ≠ 18 → a2 x y z = a x y z) (hN : ∀ x y z : Nat, x ≠ 55 → N2 x y z = N x y z) (hm : MRm a2 N2) : MR a2 N2 := by
  refine ⟨?_, ?_, ?_, ?_, ?_, ?_, ?_, hm, ?_, ?_, ?_, ?_, ?_⟩
  · have q := h.r0
    unfold MR0 at q ⊢
    rw [hN _ _ _ (by decide), hN _ _ _ (by decide), hN _ _ _ (by decide), hN _ _ _ (by decide), hN _ _ _ (by decide), hN _ _ _ (by decide), ha _ _ _ (by decide), ha _ _ _ (by decide), ha _ _ _ (by decide), ha _ _ _ (by decide), ha _ _ _ (by decide), ha _ _ _ (by decide)]
    exact q
  all_goals (have ea : ∀ x, x ≠ 18 → a2 x = a x := fun x hx => funext fun y => funext fun z => ha x y z hx)
  all_goals (have eN : ∀ x, x ≠ 55 → N2 x = N x := fun x hx => funext fun y => funext fun z => hN x y z hx)
  · have q := h.rr; unfold MRr at q ⊢; rw [ea 34 (by decide), eN 40 (by decide)]; exact q
  · have q := h.rs; unfold MRs at q ⊢; rw [ea 0 (by decide), ea 5 (by decide), eN 41 (by decide), eN 42 (by decide), eN 43 (by decide), eN 44 (by decide)]; exact q
  · have q := h.rp; unfold MRp at q ⊢; rw [ea 25 (by decide), ea 26 (by decide), eN 45 (by decide)]; exact q
  · have q := h.rl; unfold MRl at q ⊢; rw [ea 5 (by decide), eN 46 (by decide), eN 47 (by decide), eN 48 (by decide)]; exact q
  · have q := h.rq; unfold MRq at q ⊢; rw [ea 5 (by decide), ea 27 (by decide), ea 28 (by decide), eN 49 (by decide), eN 50 (by decide), eN 51 (by decide)]; exact q
  · have q := h.rh; unfold MRh at q ⊢; rw [ea 7 (by decide), ea 30 (by decide), ea 31 (by decide), eN 52 (by decide), eN 53 (by decide), eN 54 (by decide)]; exact q
  · have q := h.rt; unfold MRt at q ⊢; rw [ea 12 (by decide), eN 56 (by decide)]; exact q
  · have q := h.ru; unfold MRu at q ⊢; rw [ea 4 (by decide), ea 3 (by decide), ea 19 (by decide), ea 20 (by decide), ea 21 (by decide), ea 22 (by decide), eN 57 (by decide)]; exact q
  · have q := h.rf; unfold MRf at q ⊢; rw [ea 6 (by decide), ea 29 (by decide), eN 58 (by decide)]; exact q
  · have q := h.rb; unfold MRb at q ⊢; rw [ea 1 (by decide), ea 16 (by decide), ea 17 (by decide), eN 61 (by decide), eN 62 (by decide)]; exact q
  · have q := h.rw; unfold MRw at q ⊢; rw [ea 33 (by decide), eN 64 (by decide)]; exact q
theorem MR_prt {a N : Mem} {f s : Nat} {sum t : Int} {g : Nat → Int} (h : MR a N) (hg : a f s = g) (h18 : f ≠ 18) : MR (prt a f s sum t) (mpr N g sum t) := by
  subst hg
  refine MR_18 h (fun x y z hx => prt_ne hx) (fun x y z hx => by rw [mpr, upR_ne (by omega)]) ?_
  intro p hp
  rw [prt_val a f s sum t hp h18]
  have := h.rm p hp
  simp [mpr, upR, hp, this]
theorem lp_mrep2 {l : Launch} {G : Gx} {E : Fx} {M : Mem} {A : Mem} {n : Nat} {a b u e lf : Int} (a1 : 0 ≤ a) (a2 : a ≤ 5) (b1 : 0 ≤ b) (b2 : b ≤ 99999) (u1 : 1 ≤ u) (u2 : u ≤ 14) (he : e = b / u) (hl : lf = b - b / u * u) (hI : Inv n A) {c : Nat} (hc : A 0 0 2 = (c : Int)) (c14 : c ≤ 14) (hF : f_repair A a b = (u, (repM A a e lf c).2)) (X : OkM l G E cX9_repair RX9 7 4 (some .int) (QR (f_repair A a b) M)) : ∀ (n i : Nat), ∀ (N : Mem) (x6 : Option Value), i ≤ c → c < i + n → MR (repM A a e lf i).2 N → Sm N M → J G E 95 [some (rf G 9 0), some (vi a), some (vi b), some (vi u), some (vi (repM A a e lf i).1), some (vi (i : Int)), x6] [] N := by
  have Y := X.ok
  intro n
  induction n with
  | zero => intro i N x6 h1 h2 h3 h4; exfalso; omega
  | succ n ih =>
    intro i N x6 h1 h2 h3 h4
    have dl := div_left b1 u1
    rw [← hl, ← he] at dl
    have rq := repM_rng (M := A) (a := a) (e := e) (lf := lf) dl.2.1 i
    have e02 : N 9 0 2 = (c : Int) := by rw [h3.r0.2.1, repM_ne (by omega)]; exact hc
    refine J_iload_5 Y qX9_repair_95 ?_
    refine J_aloadr_0 Y qX9_repair_97 ?_
    refine J_getI Y qX9_repair_98 fX9_89 (by decide) ?_
    rw [e02]
    refine J_icmp_ge Y qX9_repair_101 (by omega) (by omega) (by omega) (by omega) (fun h101 => ?_) (fun h101 => ?_)
    · obtain rfl : i = c := by omega
      refine J_iload_3 Y qX9_repair_170 ?_
      exact J_iret X qX9_repair_171 (QR_e hF rfl h3 h4)
    · obtain ⟨g1, g2, g3⟩ := hI.shopS (s := i) (by omega)
      have pr := fun j (hj : j < 10) => hI.part (s := i) (p := j) (by omega) hj
      have rr := hI.rowR (s := i) (by omega)
      have e42 : N 42 0 i = A 5 i 1 := by rw [(h3.rs i (by rw [repM_ne (by omega), hc]; omega)).2.1, repM_ne (by omega)]
      have e25 : (repM A a e lf i).2 25 i = A 25 i := funext (fun j => repM_ne (by omega) i)
      have e26 : (repM A a e lf i).2 26 i = A 26 i := funext (fun j => repM_ne (by omega) i)
      refine J_aloadr_0 Y qX9_repair_104 ?_
      refine J_getR Y qX9_repair_105 fX9_16 (by decide) ?_
      refine J_iload_5 Y qX9_repair_108 ?_
      refine J_ialoadN (kx := i) Y qX9_repair_110 rfl (by decide) rfl (by omega) (by decide) ?_
      rw [e42]
      refine J_iload_1 Y qX9_repair_111 ?_
      refine J_icmp_ne Y qX9_repair_112 (by omega) (by omega) (by omega) (by omega) (fun h112 => ?_) (fun h112 => ?_)
      · refine J_iinc_5 Y qX9_repair_164 rfl ?_
        refine J_goto Y qX9_repair_167 ?_
        have ih9 := ih (i + 1)
        simp only [repM] at ih9
        first
          | (rw [if_pos (by omega)] at ih9
             exact ih9 _ _ (by omega) (by omega) (MR_prt (MR_prt h3 e25 (by decide)) (by funext j; rw [prt_ne (by decide)]; exact congrFun e26 j) (by decide)) (Sm_mpr.tr (Sm_mpr.tr h4)))
          | (rw [if_neg (by omega)] at ih9
             exact ih9 _ _ (by omega) (by omega) h3 h4)
      · have bs : 0 ≤ b / u + (repM A a e lf i).1 ∧ b / u + (repM A a e lf i).1 ≤ 99999 := by omega
        refine J_iload_2 Y qX9_repair_115 ?_
        refine J_iload_3 Y qX9_repair_116 ?_
        refine J_idiv Y qX9_repair_117 (by omega) (by omega) (by omega) (by omega) ?_
        rw [← he]
        refine J_iload_4 Y qX9_repair_118 ?_
        refine J_iadd Y qX9_repair_120 ?_
        refine J_istore_6 Y qX9_repair_121 rfl ?_
        refine J_iconst Y qX9_repair_123 ?_
        refine J_istore_4 Y qX9_repair_124 rfl ?_
        refine J_aloadr_0 Y qX9_repair_126 ?_
        refine J_bipush Y qX9_repair_127 (by decide) ?_
        refine J_iload_5 Y qX9_repair_129 ?_
        refine J_imul Y qX9_repair_131 ?_
        rw [show (20 : Int) * (i : Int) = ((20 * i : Nat) : Int) by omega]
        refine J_iload_6 Y qX9_repair_132 ?_
        refine J_iconst Y qX9_repair_134 ?_
        refine J_imul Y qX9_repair_135 ?_
        refine J_iconst Y qX9_repair_136 ?_
        refine J_idiv Y qX9_repair_137 (by omega) (by omega) (by omega) (by omega) ?_
        refine J_iconst Y qX9_repair_138 ?_
        refine J_cV3W Y qX9_repair_139 mX9_122 iyX9_shares (by decide) rfl (by decide) rfl (Nat.le_of_ble_eq_true rfl) (m_shares (at0 := 20 * i) (g := A 25 i) _ _ _ (by omega) (fun j hj => by rw [(h3.rp i (by omega) j hj).1]; exact congrFun e25 j) (fun j hj => (pr j hj).1) (fstP_ne rr.1) (by omega) (by omega) (Or.inr rfl)) ?_
        refine J_aloadr_0 Y qX9_repair_142 ?_
        refine J_bipush Y qX9_repair_143 (by decide) ?_
        refine J_iload_5 Y qX9_repair_145 ?_
        refine J_imul Y qX9_repair_147 ?_
        refine J_bipush Y qX9_repair_148 (by decide) ?_
        refine J_iadd Y qX9_repair_150 ?_
        rw [show (20 : Int) * (i : Int) + 10 = ((20 * i + 10 : Nat) : Int) by omega]
        refine J_iload_6 Y qX9_repair_151 ?_
        refine J_iload_6 Y qX9_repair_153 ?_
        refine J_iconst Y qX9_repair_155 ?_
        refine J_imul Y qX9_repair_156 ?_
        refine J_iconst Y qX9_repair_157 ?_
        refine J_idiv Y qX9_repair_158 (by omega) (by omega) (by omega) (by omega) ?_
        refine J_isub Y qX9_repair_159 ?_
        refine J_iconst Y qX9_repair_160 ?_
        refine J_cV3W Y qX9_repair_161 mX9_122 iyX9_shares (by decide) rfl (by decide) rfl (Nat.le_of_ble_eq_true rfl) (m_shares (at0 := 20 * i + 10) (g := A 26 i) _ _ _ (by omega) (fun j hj => by rw [mpr, upR_ne (by omega), (h3.rp i (by omega) j hj).2]; exact congrFun e26 j) (fun j hj => (pr j hj).2) (fstP_ne rr.2) (by omega) (by omega) (Or.inr rfl)) ?_
        refine J_iinc_5 Y qX9_repair_164 rfl ?_
        refine J_goto Y qX9_repair_167 ?_
        have ih9 := ih (i + 1)
        simp only [repM] at ih9
        first
          | (rw [if_pos (by omega)] at ih9
             exact ih9 _ _ (by omega) (by omega) (MR_prt (MR_prt h3 e25 (by decide)) (by funext j; rw [prt_ne (by decide)]; exact congrFun e26 j) (by decide)) (Sm_mpr.tr (Sm_mpr.tr h4)))
          | (rw [if_neg (by omega)] at ih9
             exact ih9 _ _ (by omega) (by omega) h3 h4)

theorem lp_mrep1 {l : Launch} {G : Gx} {E : Fx} {M : Mem} {A : Mem} {n : Nat} {a b : Int} (a1 : 0 ≤ a) (a2 : a ≤ 5) (b1 : 0 ≤ b) (b2 : b ≤ 99999) (hI : Inv n A) (hM : MR A M) {c : Nat} (hc : A 0 0 2 = (c : Int)) (c14 : c ≤ 14) (X : OkM l G E cX9_repair RX9 7 4 (some .int) (QR (f_repair A a b) M)) : ∀ (n i : Nat), ∀ (x5 x6 : Option Value), i ≤ c → c < i + n → J G E 38 [some (rf G 9 0), some (vi a), some (vi b), some (vi (undN A a i)), some (vi (i : Int)), x5, x6] [] M := by
  have Y := X.ok
  intro n
  induction n with
  | zero => intro i x5 x6 h1 h2; exfalso; omega
  | succ n ih =>
    intro i x5 x6 h1 h2
    have ur := ctN_rng (fun s => decide (A 5 s 1 = a)) i
    rw [show ctN (fun s => decide (A 5 s 1 = a)) i = undN A a i from rfl] at ur
    have e02 : M 9 0 2 = (c : Int) := by rw [hM.r0.2.1]; exact hc
    refine J_iload_4 Y qX9_repair_38 ?_
    refine J_aloadr_0 Y qX9_repair_40 ?_
    refine J_getI Y qX9_repair_41 fX9_89 (by decide) ?_
    rw [e02]
    refine J_icmp_ge Y qX9_repair_44 (by omega) (by omega) (by omega) (by omega) (fun h44 => ?_) (fun h44 => ?_)
    · obtain rfl : i = c := by omega
      refine J_iload_3 Y qX9_repair_72 ?_
      refine J_if_ne Y qX9_repair_73 (by omega) (by omega) (fun h73 => ?_) (fun h73 => ?_)
      · refine J_iload_2 Y qX9_repair_83 ?_
        refine J_iload_2 Y qX9_repair_84 ?_
        refine J_iload_3 Y qX9_repair_85 ?_
        refine J_idiv Y qX9_repair_86 (by omega) (by omega) (by omega) (by omega) ?_
        refine J_iload_3 Y qX9_repair_87 ?_
        refine J_imul Y qX9_repair_88 ?_
        refine J_isub Y qX9_repair_89 ?_
        refine J_istore_4 Y qX9_repair_90 rfl ?_
        refine J_iconst Y qX9_repair_92 ?_
        refine J_istore_5 Y qX9_repair_93 rfl ?_
        have hF : f_repair A a b = (undN A a i, (repM A a (b / undN A a i) (b - b / undN A a i * undN A a i) i).2) := by
          unfold f_repair
          simp only [hc, Int.toNat_natCast]
          rw [if_neg (by omega), if_neg (by omega), if_neg (by omega)]
        exact lp_mrep2 a1 a2 b1 b2 (by omega) (by omega) rfl rfl hI hc c14 hF X (i + 1) 0 M x6 (by omega) (by omega) hM Sm.rfl'
      · refine J_aloadr_0 Y qX9_repair_76 ?_
        refine J_bipush Y qX9_repair_77 (by decide) ?_
        refine J_cV1F Y qX9_repair_79 mX9_97 iyX9_refuse (by decide) rfl (by decide) rfl (Nat.le_of_ble_eq_true rfl) (m_refuse _ _ _ 2 (by decide) rfl) ?_
        exact J_iret X qX9_repair_82 (QR_e (by
          unfold f_repair
          try simp only [Int.toNat_natCast, hc]
          repeat (first | rewrite [if_pos trivial] | rewrite [if_pos (by omega)] | rewrite [if_neg (by omega)])
          exact rfl) (by first | rfl | (dsimp only; omega)) (by first | exact hM | exact MR_rfs hM (by decide)) (by first | exact Sm.rfl' | exact Sm_up (Or.inl (by decide))))
    · obtain ⟨g1, g2, g3⟩ := hI.shopS (s := i) (by omega)
      refine J_iload_3 Y qX9_repair_47 ?_
      refine J_aloadr_0 Y qX9_repair_48 ?_
      refine J_getR Y qX9_repair_49 fX9_16 (by decide) ?_
      refine J_iload_4 Y qX9_repair_52 ?_
      refine J_ialoadN (kx := i) Y qX9_repair_54 rfl (by decide) rfl (by omega) (by decide) ?_
      rw [show M 42 0 i = A 5 i 1 from (hM.rs i (by omega)).2.1]
      refine J_iload_1 Y qX9_repair_55 ?_
      refine J_icmp_ne Y qX9_repair_56 (by omega) (by omega) (by omega) (by omega) (fun h56 => ?_) (fun h56 => ?_)
      · refine J_iconst Y qX9_repair_63 ?_
        refine J_iadd Y qX9_repair_64 ?_
        refine J_istore_3 Y qX9_repair_65 rfl ?_
        refine J_iinc_4 Y qX9_repair_66 rfl ?_
        refine J_goto Y qX9_repair_69 ?_
        have ih9 := ih (i + 1) x5 x6 (by omega) (by omega)
        unfold undN at ih9 ⊢
        first
          | (rw [ctN, if_pos (by simpa using h56)] at ih9; exact ih9)
          | (rw [ctN, if_neg (by simpa using h56)] at ih9; exact ih9)
      · refine J_iconst Y qX9_repair_59 ?_
        refine J_goto Y qX9_repair_60 ?_
        refine J_iadd Y qX9_repair_64 ?_
        refine J_istore_3 Y qX9_repair_65 rfl ?_
        refine J_iinc_4 Y qX9_repair_66 rfl ?_
        refine J_goto Y qX9_repair_69 ?_
        have ih9 := ih (i + 1) x5 x6 (by omega) (by omega)
        unfold undN at ih9 ⊢
        first
          | (rw [ctN, if_pos (by simpa using h56)] at ih9; exact ih9)
          | (rw [ctN, if_neg (by simpa using h56)] at ih9; exact ih9)

theorem r_repair (l : Launch) (G : Gx) (M : Mem) {A : Mem} {n : Nat} {a b : Int} (a1 : -2147483648 ≤ a) (a2 : a < 2147483648) (b1 : -2147483648 ≤ b) (b2 : b < 2147483648) (hI : Inv n A) (hn : n < 512) (hM : MR A M)  : Ct l G 4 yX9_repair cX9_repair 7 ((Option.some Jvm.ClassFile.FieldType.int)) [rf G 9 0, vi a, vi b] M (QR (f_repair A a b) M) := by
  refine Ct.of rfl (Nat.le_of_ble_eq_true rfl) rfl (fun E X => ?_)
  have Y := X.ok
  obtain ⟨m1, m2, m3, m4, m5, m6⟩ := hM.r0
  obtain ⟨c1, c2⟩ := hI.count
  obtain ⟨d1, d2⟩ := hI.day
  refine J_iload_1 Y qX9_repair_0 ?_
  refine J_iconst Y qX9_repair_1 ?_
  refine J_iconst Y qX9_repair_2 ?_
  refine J_cS3B Y qX9_repair_3 mX9_93 iyX9_in rfl (by decide) rfl (Nat.le_of_ble_eq_true rfl) (m_in _ _ _ (by omega) (by omega) (by omega) (by omega) (by omega) (by omega)) (fun h3 => ?_) (fun h3 => ?_)
  · refine J_ne1 Y qX9_repair_6 ?_
    refine J_iload_2 Y qX9_repair_16 ?_
    refine J_iconst Y qX9_repair_17 ?_
    refine J_ldc Y qX9_repair_18 kX9_121 ?_
    refine J_cS3B Y qX9_repair_20 mX9_93 iyX9_in rfl (by decide) rfl (Nat.le_of_ble_eq_true rfl) (m_in _ _ _ (by omega) (by omega) (by omega) (by omega) (by omega) (by omega)) (fun h20 => ?_) (fun h20 => ?_)
    · refine J_ne1 Y qX9_repair_23 ?_
      refine J_iconst Y qX9_repair_33 ?_
      refine J_istore_3 Y qX9_repair_34 rfl ?_
      refine J_iconst Y qX9_repair_35 ?_
      refine J_istore_4 Y qX9_repair_36 rfl ?_
      obtain ⟨c, hc⟩ := nat_of c1
      exact lp_mrep1 (by omega) (by omega) (by omega) (by omega) hI hM hc (by omega) X (c + 1) 0 none none (by omega) (by omega)
    · refine J_ne0 Y qX9_repair_23 ?_
      refine J_aloadr_0 Y qX9_repair_26 ?_
      refine J_bipush Y qX9_repair_27 (by decide) ?_
      refine J_cV1F Y qX9_repair_29 mX9_97 iyX9_refuse (by decide) rfl (by decide) rfl (Nat.le_of_ble_eq_true rfl) (m_refuse _ _ _ 7 (by decide) rfl) ?_
      exact J_iret X qX9_repair_32 (QR_e (by
        unfold f_repair
        try simp only [Int.toNat_natCast]
        repeat (first | rewrite [if_pos trivial] | rewrite [if_pos (by omega)] | rewrite [if_neg (by omega)])
        exact rfl) (by first | rfl | (dsimp only; omega)) (by first | exact hM | exact MR_rfs hM (by decide)) (by first | exact Sm.rfl' | exact Sm_up (Or.inl (by decide))))
  · refine J_ne0 Y qX9_repair_6 ?_
    refine J_aloadr_0 Y qX9_repair_9 ?_
    refine J_bipush Y qX9_repair_10 (by decide) ?_
    refine J_cV1F Y qX9_repair_12 mX9_97 iyX9_refuse (by decide) rfl (by decide) rfl (Nat.le_of_ble_eq_true rfl) (m_refuse _ _ _ 3 (by decide) rfl) ?_
    exact J_iret X qX9_repair_15 (QR_e (by
      unfold f_repair
      try simp only [Int.toNat_natCast]
      repeat (first | rewrite [if_pos trivial] | rewrite [if_pos (by omega)] | rewrite [if_neg (by omega)])
      exact rfl) (by first | rfl | (dsimp only; omega)) (by first | exact hM | exact MR_rfs hM (by decide)) (by first | exact Sm.rfl' | exact Sm_up (Or.inl (by decide))))


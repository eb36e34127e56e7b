/-! ===== the reference: rule ===== -/
theorem MR_rd {a M : Mem} {r : Nat} {R : Nat → Int} {s : Int × Int} {v : Int} (h : MR a M) (hr : a 4 0 2 = (r : Int)) (h8 : ∀ q : Nat, (q : Int) < a 4 0 2 → a 3 q 8 ≤ 3) (hR : ∀ k, k < 17 * r → R k = M 57 0 k) : MR a (rdS M R s v) := by
  have eN : ∀ x, x ≠ 9 → x ≠ 57 → rdS M R s v x = M x := fun x h1 h2 => funext fun y => funext fun z => rdS_o (by omega) h2
  refine ⟨?_, ?_, ?_, ?_, ?_, ?_, ?_, ?_, ?_, ?_, ?_, ?_, ?_⟩
  · have q := h.r0; unfold MR0 at q ⊢; rw [rdS_o (by omega) (by omega), rdS_o (by omega) (by omega), rdS_o (by omega) (by omega), rdS_o (by omega) (by omega), rdS_o (by omega) (by omega), rdS_o (by omega) (by omega)]; exact q
  · have q := h.rr; unfold MRr at q ⊢; rw [eN 40 (by decide) (by decide)]; exact q
  · have q := h.rs; unfold MRs at q ⊢; rw [eN 41 (by decide) (by decide), eN 42 (by decide) (by decide), eN 43 (by decide) (by decide), eN 44 (by decide) (by decide)]; exact q
  · have q := h.rp; unfold MRp at q ⊢; rw [eN 45 (by decide) (by decide)]; exact q
  · have q := h.rl; unfold MRl at q ⊢; rw [eN 46 (by decide) (by decide), eN 47 (by decide) (by decide), eN 48 (by decide) (by decide)]; exact q
  · have q := h.rq; unfold MRq at q ⊢; rw [eN 49 (by decide) (by decide), eN 50 (by decide) (by decide), eN 51 (by decide) (by decide)]; exact q
  · have q := h.rh; unfold MRh at q ⊢; rw [eN 52 (by decide) (by decide), eN 53 (by decide) (by decide), eN 54 (by decide) (by decide)]; exact q
  · have q := h.rm; unfold MRm at q ⊢; rw [eN 55 (by decide) (by decide)]; exact q
  · have q := h.rt; unfold MRt at q ⊢; rw [eN 56 (by decide) (by decide)]; exact q
  · intro t ht
    obtain ⟨q0, q1, q2, q3, q4, q5⟩ := h.ru t ht
    have t8 := h8 t ht
    simp only [rdS_57]
    rw [hR _ (by omega), hR _ (by omega), hR _ (by omega), hR _ (by omega), hR _ (by omega)]
    refine ⟨q0, q1, q2, q3, q4, fun j hj => ?_⟩
    rw [hR _ (by omega), hR _ (by omega), hR _ (by omega), hR _ (by omega)]
    exact q5 j hj
  · have q := h.rf; unfold MRf at q ⊢; rw [eN 58 (by decide) (by decide)]; exact q
  · have q := h.rb; unfold MRb at q ⊢; rw [eN 61 (by decide) (by decide), eN 62 (by decide) (by decide)]; exact q
  · have q := h.rw; unfold MRw at q ⊢; rw [eN 64 (by decide) (by decide)]; exact q
theorem wRul_o {A : Mem} {r : Nat} {a b : Int} {w : Int × Int × List (Int × Int × Int × Int)} {x y k : Nat} (h : ¬ (x = 3 ∧ y = r)) (h2 : ¬ (19 ≤ x ∧ x ≤ 22 ∧ y = r)) (h3 : ¬ (x = 6 ∧ y = 0 ∧ k = 1)) (h4 : ¬ (x = 4 ∧ y = 0 ∧ k = 2)) : wRul A r a b w x y k = A x y k := by
  unfold wRul
  rw [if_neg (by omega), if_neg (by omega), if_neg (by omega), if_neg (by omega), if_neg (by omega), if_neg (by omega), if_neg (by omega), if_neg (by omega), if_neg (by omega), if_neg h3, if_neg h4]
theorem MR_rul {A M : Mem} {r : Nat} {R : Nat → Int} {s : Int × Int} {v a b : Int} {w : Int × Int × List (Int × Int × Int × Int)} (h : MR A M) (hr : A 4 0 2 = (r : Int)) (h8 : ∀ q : Nat, (q : Int) < A 4 0 2 → A 3 q 8 ≤ 3) (hR : ∀ k, k < 17 * r → R k = M 57 0 k) (r0 : R (17 * r) = a) (r1 : R (17 * r + 1) = b) (r2 : R (17 * r + 2) = 1 - w.1) (r3 : R (17 * r + 3) = w.2.1) (r4 : R (17 * r + 4) = w.2.2.length) (r5 : ∀ j, j < w.2.2.length → w.2.2[j]? = some (R (17 * r + 5 + 4 * j), R (17 * r + 5 + 4 * j + 1), R (17 * r + 5 + 4 * j + 2), R (17 * r + 5 + 4 * j + 3))) : MR (wRul A r a b w) (up (up (rdS M R s v) 9 0 22 0) 9 0 19 ((r : Int) + 1)) := by
  have ex : ∀ x, x ≠ 3 → x ≠ 4 → x ≠ 6 → ¬ (19 ≤ x ∧ x ≤ 22) → wRul A r a b w x = A x := fun x h1 h2 h3 h4 => funext fun y => funext fun z => wRul_o (by omega) (by omega) (by omega) (by omega)
  have eN : ∀ x, x ≠ 9 → x ≠ 57 → up (up (rdS M R s v) 9 0 22 0) 9 0 19 ((r : Int) + 1) x = M x := fun x h1 h2 => funext fun y => funext fun z => by rw [up_ne (by omega), up_ne (by omega)]; exact rdS_o (by omega) h2
  have e42 : wRul A r a b w 4 0 2 = (r : Int) + 1 := by simp [wRul]
  have e61 : wRul A r a b w 6 0 1 = 0 := by simp [wRul]
  refine ⟨?_, ?_, ?_, ?_, ?_, ?_, ?_, ?_, ?_, ?_, ?_, ?_, ?_⟩
  · obtain ⟨m1, m2, m3, m4, m5, m6⟩ := h.r0
    unfold MR0
    rw [e42, e61, ex 8 (by decide) (by decide) (by decide) (by decide), ex 0 (by decide) (by decide) (by decide) (by decide), ex 1 (by decide) (by decide) (by decide) (by decide)]
    refine ⟨?_, ?_, ?_, ?_, ?_, ?_⟩
    · rw [up_ne (by omega), up_ne (by omega), rdS_o (by omega) (by omega)]; exact m1
    · rw [up_ne (by omega), up_ne (by omega), rdS_o (by omega) (by omega)]; exact m2
    · rw [up_same]
    · rw [up_ne (by omega), up_same]
    · rw [up_ne (by omega), up_ne (by omega), rdS_o (by omega) (by omega)]; exact m5
    · rw [up_ne (by omega), up_ne (by omega), rdS_o (by omega) (by omega)]; exact m6
  · have q := h.rr; unfold MRr at q ⊢; rw [ex 34 (by decide) (by decide) (by decide) (by decide), eN 40 (by decide) (by decide)]; exact q
  · have q := h.rs; unfold MRs at q ⊢; rw [ex 0 (by decide) (by decide) (by decide) (by decide), ex 5 (by decide) (by decide) (by decide) (by decide), eN 41 (by decide) (by decide), eN 42 (by decide) (by decide), eN 43 (by decide) (by decide), eN 44 (by decide) (by decide)]; exact q
  · have q := h.rp; unfold MRp at q ⊢; rw [ex 25 (by decide) (by decide) (by decide) (by decide), ex 26 (by decide) (by decide) (by decide) (by decide), eN 45 (by decide) (by decide)]; exact q
  · have q := h.rl; unfold MRl at q ⊢; rw [ex 5 (by decide) (by decide) (by decide) (by decide), eN 46 (by decide) (by decide), eN 47 (by decide) (by decide), eN 48 (by decide) (by decide)]; exact q
  · have q := h.rq; unfold MRq at q ⊢; rw [ex 5 (by decide) (by decide) (by decide) (by decide), ex 27 (by decide) (by decide) (by decide) (by decide), ex 28 (by decide) (by decide) (by decide) (by decide), eN 49 (by decide) (by decide), eN 50 (by decide) (by decide), eN 51 (by decide) (by decide)]; exact q
  · have q := h.rh; unfold MRh at q ⊢; rw [ex 7 (by decide) (by decide) (by decide) (by decide), ex 30 (by decide) (by decide) (by decide) (by decide), ex 31 (by decide) (by decide) (by decide) (by decide), eN 52 (by decide) (by decide), eN 53 (by decide) (by decide), eN 54 (by decide) (by decide)]; exact q
  · have q := h.rm; unfold MRm at q ⊢; rw [ex 18 (by decide) (by decide) (by decide) (by decide), eN 55 (by decide) (by decide)]; exact q
  · have q := h.rt; unfold MRt at q ⊢; rw [ex 12 (by decide) (by decide) (by decide) (by decide), eN 56 (by decide) (by decide)]; exact q
  · intro t ht
    rw [e42] at ht
    have e57 : ∀ k, up (up (rdS M R s v) 9 0 22 0) 9 0 19 ((r : Int) + 1) 57 0 k = R k := fun k => by rw [up_ne (by omega), up_ne (by omega), rdS_57]
    simp only [e57]
    by_cases e : t = r
    · subst e
      rw [show wRul A t a b w 3 t 2 = a by simp [wRul], show wRul A t a b w 3 t 3 = b by simp [wRul], show wRul A t a b w 3 t 0 = w.1 by simp [wRul], show wRul A t a b w 3 t 1 = w.2.1 by simp [wRul], show wRul A t a b w 3 t 8 = w.2.2.length by simp [wRul]]
      refine ⟨r0, r1, r2, r3, r4, fun j hj => ?_⟩
      have hw := r5 j (by omega)
      have hd : w.2.2.getD j (0, 0, 0, 0) = (R (17 * t + 5 + 4 * j), R (17 * t + 5 + 4 * j + 1), R (17 * t + 5 + 4 * j + 2), R (17 * t + 5 + 4 * j + 3)) := by rw [List.getD_eq_getElem?_getD, hw]; rfl
      rw [show wRul A t a b w 22 t j = (w.2.2.getD j (0, 0, 0, 0)).1 by simp [wRul], show wRul A t a b w 19 t j = (w.2.2.getD j (0, 0, 0, 0)).2.1 by simp [wRul], show wRul A t a b w 20 t j = (w.2.2.getD j (0, 0, 0, 0)).2.2.1 by simp [wRul], show wRul A t a b w 21 t j = (w.2.2.getD j (0, 0, 0, 0)).2.2.2 by simp [wRul], hd]
      exact ⟨rfl, rfl, rfl, rfl⟩
    · have eo : ∀ x k, x ≠ 6 → x ≠ 4 → wRul A r a b w x t k = A x t k := fun x k h1 h2 => wRul_o (by omega) (by omega) (by omega) (by omega)
      obtain ⟨q0, q1, q2, q3, q4, q5⟩ := h.ru t (by omega)
      have t8 := h8 t (by omega)
      rw [eo 3 2 (by decide) (by decide), eo 3 3 (by decide) (by decide), eo 3 0 (by decide) (by decide), eo 3 1 (by decide) (by decide), eo 3 8 (by decide) (by decide), hR _ (by omega), hR _ (by omega), hR _ (by omega), hR _ (by omega), hR _ (by omega)]
      refine ⟨q0, q1, q2, q3, q4, fun j hj => ?_⟩
      rw [eo 22 j (by decide) (by decide), eo 19 j (by decide) (by decide), eo 20 j (by decide) (by decide), eo 21 j (by decide) (by decide), hR _ (by omega), hR _ (by omega), hR _ (by omega), hR _ (by omega)]
      exact q5 j hj
  · intro k hk
    rw [e61] at hk
    omega
  · have q := h.rb; unfold MRb at q ⊢; rw [ex 1 (by decide) (by decide) (by decide) (by decide), ex 16 (by decide) (by decide) (by decide) (by decide), ex 17 (by decide) (by decide) (by decide) (by decide), eN 61 (by decide) (by decide), eN 62 (by decide) (by decide)]; exact q
  · have q := h.rw; unfold MRw at q ⊢; rw [ex 33 (by decide) (by decide) (by decide) (by decide), eN 64 (by decide) (by decide)]; exact q
theorem Sm_rd {M : Mem} {R : Nat → Int} {s : Int × Int} {v : Int} : Sm (rdS M R s v) M := fun x y k h1 h2 => rdS_o (by omega) (by omega)
theorem r_rule (l : Launch) (G : Gx) (M : Mem) {A : Mem} {n : Nat} {a b : Int} (a1 : -2147483648 ≤ a) (a2 : a < 2147483648) (b1 : -2147483648 ≤ b) (b2 : b < 2147483648) (hI : Inv n A) (hn : n < 512) (hM : MR A M)  : Ct l G 9 yX9_rule cX9_rule 3 ((Option.some Jvm.ClassFile.FieldType.int)) [rf G 9 0, vi a, vi b] M (QR (f_rule A a b) M) := by
  refine Ct.of rfl (Nat.le_of_ble_eq_true rfl) rfl (fun E X => ?_)
  have Y := X.ok
  obtain ⟨m1, m2, m3, m4, m5, m6⟩ := hM.r0
  obtain ⟨c1, c2⟩ := hI.count
  obtain ⟨d1, d2⟩ := hI.day
  obtain ⟨ru1, ru2⟩ := hI.rules
  obtain ⟨r, hr⟩ := nat_of ru1
  obtain ⟨tp1, tp2⟩ := hI.tape
  have hQ : TQ (A 29 0) (A 6 0 1) := ⟨tp1, tp2, fun k hk => hI.byt hk⟩
  have hT : ∀ k : Nat, (k : Int) < A 6 0 1 → M 58 0 k = A 29 0 k := fun k hk => hM.rf k hk
  have h8 : ∀ q : Nat, (q : Int) < A 4 0 2 → A 3 q 8 ≤ 3 := fun q hq => (hI.rule hq).2.2.2.2.1.2
  refine J_iload_1 Y qX9_rule_0 ?_
  refine J_iconst Y qX9_rule_1 ?_
  refine J_ldc Y qX9_rule_2 kX9_114 ?_
  refine J_cS3B Y qX9_rule_4 mX9_93 iyX9_in rfl (by decide) rfl (Nat.le_of_ble_eq_true rfl) (m_in _ _ _ (by omega) (by omega) (by omega) (by omega) (by omega) (by omega)) (fun h4 => ?_) (fun h4 => ?_)
  · refine J_eq1 Y qX9_rule_7 ?_
    refine J_iload_2 Y qX9_rule_10 ?_
    refine J_iconst Y qX9_rule_11 ?_
    refine J_ldc Y qX9_rule_12 kX9_114 ?_
    refine J_cS3B Y qX9_rule_14 mX9_93 iyX9_in rfl (by decide) rfl (Nat.le_of_ble_eq_true rfl) (m_in _ _ _ (by omega) (by omega) (by omega) (by omega) (by omega) (by omega)) (fun h14 => ?_) (fun h14 => ?_)
    · refine J_eq1 Y qX9_rule_17 ?_
      refine J_iload_1 Y qX9_rule_20 ?_
      refine J_iload_2 Y qX9_rule_21 ?_
      refine J_icmp_lt Y qX9_rule_22 (by omega) (by omega) (by omega) (by omega) (fun h22 => ?_) (fun h22 => ?_)
      · refine J_aloadr_0 Y qX9_rule_32 ?_
        refine J_getI Y qX9_rule_33 fX9_160 (by decide) ?_
        refine J_bipush Y qX9_rule_36 (by decide) ?_
        refine J_icmp_ne Y qX9_rule_38 (by omega) (by omega) (by omega) (by omega) (fun h38 => ?_) (fun h38 => ?_)
        · refine J_aloadr_0 Y qX9_rule_48 ?_
          refine J_cV0V Y qX9_rule_49 mX9_166 iyX9_reads (by decide) rfl (by decide) rfl (Nat.le_of_ble_eq_true rfl) (m_reads (r := r) _ _ _ hQ hT (by omega) (by omega) (by omega)) (fun M2 h49 => ?_)
          obtain ⟨R, s, v, rfl, k1, k2, k3, k4⟩ := h49
          obtain ⟨k5, k6, k7⟩ := id k2
          refine J_aloadr_0 Y qX9_rule_52 ?_
          refine J_getI Y qX9_rule_53 fX9_136 (by decide) ?_
          rw [rdS_24]
          refine J_if_eq Y qX9_rule_56 (by omega) (by omega) (fun h56 => ?_) (fun h56 => ?_)
          · obtain ⟨g2, w, g3, g4, g5, g6, g7, g8⟩ : s.2 = 0 ∧ ∃ w : Int × Int × List (Int × Int × Int × Int), (rulP (A 29 0) (A 6 0 1)).2 = some w ∧ w.2.2.length ≤ 3 ∧ R (17 * r + 2) = 1 - w.1 ∧ R (17 * r + 3) = w.2.1 ∧ R (17 * r + 4) = w.2.2.length ∧ ∀ j, j < w.2.2.length → w.2.2[j]? = some (R (17 * r + 5 + 4 * j), R (17 * r + 5 + 4 * j + 1), R (17 * r + 5 + 4 * j + 2), R (17 * r + 5 + 4 * j + 3)) := by
              rcases k4 with ⟨g, _⟩ | g
              · omega
              · exact g
            have e19 : ∀ R, rdS M R s v 9 0 19 = (r : Int) := fun R => by rw [rdS_o (by omega) (by omega)]; omega
            refine J_aloadr_0 Y qX9_rule_67 ?_
            refine J_getR Y qX9_rule_68 fX9_62 (by decide) ?_
            refine J_bipush Y qX9_rule_71 (by decide) ?_
            refine J_aloadr_0 Y qX9_rule_73 ?_
            refine J_getI Y qX9_rule_74 fX9_160 (by decide) ?_
            rw [e19]
            refine J_imul Y qX9_rule_77 ?_
            rw [show (17 : Int) * (r : Int) = ((17 * r : Nat) : Int) by omega]
            refine J_iload_1 Y qX9_rule_78 ?_
            refine J_iastoreN (kx := (17 * r)) Y qX9_rule_79 rfl (by decide) rfl (by omega) (by decide) ?_
            rw [rdS_u57]
            refine J_aloadr_0 Y qX9_rule_80 ?_
            refine J_getR Y qX9_rule_81 fX9_62 (by decide) ?_
            refine J_bipush Y qX9_rule_84 (by decide) ?_
            refine J_aloadr_0 Y qX9_rule_86 ?_
            refine J_getI Y qX9_rule_87 fX9_160 (by decide) ?_
            rw [e19]
            refine J_imul Y qX9_rule_90 ?_
            refine J_iconst Y qX9_rule_91 ?_
            refine J_iadd Y qX9_rule_92 ?_
            rw [show (17 : Int) * (r : Int) + 1 = ((17 * r + 1 : Nat) : Int) by omega]
            refine J_iload_2 Y qX9_rule_93 ?_
            refine J_iastoreN (kx := (17 * r + 1)) Y qX9_rule_94 rfl (by decide) rfl (by omega) (by decide) ?_
            rw [rdS_u57]
            refine J_aloadr_0 Y qX9_rule_95 ?_
            refine J_iconst Y qX9_rule_96 ?_
            refine J_putI Y qX9_rule_97 fX9_130w (by decide) ?_
            refine J_aloadr_0 Y qX9_rule_100 ?_
            refine J_dup Y qX9_rule_101 rfl ?_
            refine J_getI Y qX9_rule_102 fX9_160 (by decide) ?_
            rw [show up (rdS M (fun c => if c = 17 * r + 1 then b else (fun c => if c = 17 * r then a else R c) c) s v) 9 0 22 0 9 0 19 = (r : Int) from by rw [up_ne (by omega)]; exact e19 _]
            refine J_iconst Y qX9_rule_105 ?_
            refine J_iadd Y qX9_rule_106 ?_
            refine J_putI Y qX9_rule_107 fX9_160w (by decide) ?_
            refine J_aloadr_0 Y qX9_rule_110 ?_
            refine J_getI Y qX9_rule_111 fX9_160 (by decide) ?_
            rw [up_same]
            refine J_iconst Y qX9_rule_114 ?_
            refine J_isub Y qX9_rule_115 ?_
            have hF : f_rule A a b = ((r : Int) + 1 - 1, wRul A r a b w) := by
              unfold f_rule
              rw [if_neg (by omega), if_neg (by omega), g3]
              simp only [hr, Int.toNat_natCast]
              rw [show (r : Int) + 1 - 1 = r by omega]
            exact J_iret X qX9_rule_116 (QR_e hF rfl (MR_rul (R := fun c => if c = 17 * r + 1 then b else if c = 17 * r then a else R c) hM hr h8 (fun k hk => by rw [if_neg (by omega), if_neg (by omega), k1 k (by omega)]) (by rw [if_neg (by omega), if_pos rfl]) (by rw [if_pos rfl]) (by rw [if_neg (by omega), if_neg (by omega)]; exact g5) (by rw [if_neg (by omega), if_neg (by omega)]; exact g6) (by rw [if_neg (by omega), if_neg (by omega)]; exact g7) (fun j hj => by
              rw [if_neg (by omega), if_neg (by omega), if_neg (by omega), if_neg (by omega), if_neg (by omega), if_neg (by omega), if_neg (by omega), if_neg (by omega)]
              exact g8 j hj)) ((Sm_up (Or.inr rfl)).tr ((Sm_up (Or.inr rfl)).tr Sm_rd)))
          · refine J_bipush Y qX9_rule_59 (by decide) ?_
            refine J_aloadr_0 Y qX9_rule_61 ?_
            refine J_getI Y qX9_rule_62 fX9_133 (by decide) ?_
            rw [rdS_23]
            refine J_isub Y qX9_rule_65 ?_
            obtain ⟨g2, g3⟩ : s.2 = 1 ∧ (rulP (A 29 0) (A 6 0 1)).2 = none := by
              rcases k4 with g | ⟨g, _⟩
              · exact g
              · exact absurd g h56
            have hF : f_rule A a b = (-10 - s.1, A) := by
              unfold f_rule
              rw [if_neg (by omega), if_neg (by omega), g3, ← k3]
            exact J_iret X qX9_rule_66 (QR_e hF rfl (MR_rd hM hr h8 (fun k hk => k1 k (by omega))) Sm_rd)
        · refine J_aloadr_0 Y qX9_rule_41 ?_
          refine J_bipush Y qX9_rule_42 (by decide) ?_
          refine J_cV1F Y qX9_rule_44 mX9_97 iyX9_refuse (by decide) rfl (by decide) rfl (Nat.le_of_ble_eq_true rfl) (m_refuse _ _ _ 8 (by decide) rfl) ?_
          exact J_iret X qX9_rule_47 (QR_e (by
            unfold f_rule
            try simp only [Int.toNat_natCast, hr]
            repeat (first | rewrite [if_pos trivial] | rewrite [if_pos (by omega)] | rewrite [if_neg (by omega)])
            exact rfl) (by first | rfl | (dsimp only; omega)) (by first | exact hM | exact MR_rfs hM (by decide)) (by first | exact Sm.rfl' | exact Sm_up (Or.inl (by decide))))
      · refine J_aloadr_0 Y qX9_rule_25 ?_
        refine J_bipush Y qX9_rule_26 (by decide) ?_
        refine J_cV1F Y qX9_rule_28 mX9_97 iyX9_refuse (by decide) rfl (by decide) rfl (Nat.le_of_ble_eq_true rfl) (m_refuse _ _ _ 7 (by decide) rfl) ?_
        exact J_iret X qX9_rule_31 (QR_e (by
          unfold f_rule
          try simp only [Int.toNat_natCast, hr]
          repeat (first | rewrite [if_pos trivial] | rewrite [if_pos (by omega)] | rewrite [if_neg (by omega)])
          exact rfl) (by first | rfl | (dsimp only; omega)) (by first | exact hM | exact MR_rfs hM (by decide)) (by first | exact Sm.rfl' | exact Sm_up (Or.inl (by decide))))
    · refine J_eq0 Y qX9_rule_17 ?_
      refine J_aloadr_0 Y qX9_rule_25 ?_
      refine J_bipush Y qX9_rule_26 (by decide) ?_
      refine J_cV1F Y qX9_rule_28 mX9_97 iyX9_refuse (by decide) rfl (by decide) rfl (Nat.le_of_ble_eq_true rfl) (m_refuse _ _ _ 7 (by decide) rfl) ?_
      exact J_iret X qX9_rule_31 (QR_e (by
        unfold f_rule
        try simp only [Int.toNat_natCast, hr]
        repeat (first | rewrite [if_pos trivial] | rewrite [if_pos (by omega)] | rewrite [if_neg (by omega)])
        exact rfl) (by first | rfl | (dsimp only; omega)) (by first | exact hM | exact MR_rfs hM (by decide)) (by first | exact Sm.rfl' | exact Sm_up (Or.inl (by decide))))
  · refine J_eq0 Y qX9_rule_7 ?_
    refine J_aloadr_0 Y qX9_rule_25 ?_
    refine J_bipush Y qX9_rule_26 (by decide) ?_
    refine J_cV1F Y qX9_rule_28 mX9_97 iyX9_refuse (by decide) rfl (by decide) rfl (Nat.le_of_ble_eq_true rfl) (m_refuse _ _ _ 7 (by decide) rfl) ?_
    exact J_iret X qX9_rule_31 (QR_e (by
      unfold f_rule
      try simp only [Int.toNat_natCast, hr]
      repeat (first | rewrite [if_pos trivial] | rewrite [if_pos (by omega)] | rewrite [if_neg (by omega)])
      exact rfl) (by first | rfl | (dsimp only; omega)) (by first | exact hM | exact MR_rfs hM (by decide)) (by first | exact Sm.rfl' | exact Sm_up (Or.inl (by decide))))


/-! ===== the reference: count, lay ===== -/
theorem lp_mcount4 {l : Launch} {G : Gx} {E : Fx} {d : Nat} {M : Mem} {A : Mem} {n0 k : Nat} (hI : Inv n0 A) (hM : MR A M) (hk : A 0 0 2 = (k : Int)) (hk14 : k ≤ 14) {P : Option Value → Mem → Prop} (hP : P (some (vi (ctN (fun s => decide (A 5 s 6 ≠ -1)) k))) M) {x1 : Int} (X : OkM l G E cX9_count RX9 4 d (some .int) P) : ∀ (n i : Nat), i ≤ k → k < i + n → J G E 62 [some (rf G 9 0), some (vi x1), some (vi (ctN (fun s => decide (A 5 s 6 ≠ -1)) i)), some (vi (i : Int))] [] M := by
  have Y := X.ok
  have hkM : M 9 0 2 = (k : Int) := by rw [hM.r0.2.1, hk]
  intro n
  induction n with
  | zero => intro i h1 h2; exfalso; omega
  | succ n ih =>
    intro i h1 h2
    refine J_iload_3 Y qX9_count_62 ?_
    refine J_aloadr_0 Y qX9_count_63 ?_
    refine J_getI Y qX9_count_64 fX9_89 (by decide) ?_
    rw [hkM]
    refine J_icmp_ge Y qX9_count_67 (by omega) (by omega) (by omega) (by omega) (fun h67 => ?_) (fun h67 => ?_)
    · obtain rfl : i = k := by omega
      refine J_iload_2 Y qX9_count_94 ?_
      exact J_iret X qX9_count_95 (hP)
    · have ht := (hM.rl i (by omega)).1
      have hl := hI.lets (s := i) (by omega)
      obtain ⟨l1, l2, l3, l4⟩ := hl
      refine J_iload_2 Y qX9_count_70 ?_
      refine J_aloadr_0 Y qX9_count_71 ?_
      refine J_getR Y qX9_count_72 fX9_28 (by decide) ?_
      refine J_iload_3 Y qX9_count_75 ?_
      refine J_ialoadN (kx := i) Y qX9_count_76 rfl (by decide) rfl (by omega) (by decide) ?_
      refine J_iconst Y qX9_count_77 ?_
      refine J_icmp_eq Y qX9_count_78 (by omega) (by omega) (by omega) (by omega) (fun h78 => ?_) (fun h78 => ?_)
      · refine J_iconst Y qX9_count_85 ?_
        refine J_iadd Y qX9_count_86 ?_
        refine J_istore_2 Y qX9_count_87 rfl ?_
        refine J_iinc_3 Y qX9_count_88 rfl ?_
        refine J_goto Y qX9_count_91 ?_
        first
        | (have hc := ih (i + 1) (by omega) (by omega)
           rw [show ctN (fun s => decide (A 5 s 6 ≠ -1)) (i + 1) = ctN (fun s => decide (A 5 s 6 ≠ -1)) i + 1 from by rw [ctN, if_pos (by simp; omega)]] at hc
           exact hc)
        | (have hc := ih (i + 1) (by omega) (by omega)
           rw [show ctN (fun s => decide (A 5 s 6 ≠ -1)) (i + 1) = ctN (fun s => decide (A 5 s 6 ≠ -1)) i + 0 from by rw [ctN, if_neg (by simp; omega)]] at hc
           exact hc)
      · refine J_iconst Y qX9_count_81 ?_
        refine J_goto Y qX9_count_82 ?_
        refine J_iadd Y qX9_count_86 ?_
        refine J_istore_2 Y qX9_count_87 rfl ?_
        refine J_iinc_3 Y qX9_count_88 rfl ?_
        refine J_goto Y qX9_count_91 ?_
        first
        | (have hc := ih (i + 1) (by omega) (by omega)
           rw [show ctN (fun s => decide (A 5 s 6 ≠ -1)) (i + 1) = ctN (fun s => decide (A 5 s 6 ≠ -1)) i + 1 from by rw [ctN, if_pos (by simp; omega)]] at hc
           exact hc)
        | (have hc := ih (i + 1) (by omega) (by omega)
           rw [show ctN (fun s => decide (A 5 s 6 ≠ -1)) (i + 1) = ctN (fun s => decide (A 5 s 6 ≠ -1)) i + 0 from by rw [ctN, if_neg (by simp; omega)]] at hc
           exact hc)

theorem lp_mcount5 {l : Launch} {G : Gx} {E : Fx} {d : Nat} {M : Mem} {A : Mem} {n0 k : Nat} (hI : Inv n0 A) (hM : MR A M) (hk : A 0 0 2 = (k : Int)) (hk14 : k ≤ 14) {P : Option Value → Mem → Prop} (hP : P (some (vi (sumN (fun s => A 5 s 11) k))) M) {x1 : Int} (X : OkM l G E cX9_count RX9 4 d (some .int) P) : ∀ (n i : Nat), i ≤ k → k < i + n → J G E 98 [some (rf G 9 0), some (vi x1), some (vi (sumN (fun s => A 5 s 11) i)), some (vi (i : Int))] [] M := by
  have Y := X.ok
  have hkM : M 9 0 2 = (k : Int) := by rw [hM.r0.2.1, hk]
  intro n
  induction n with
  | zero => intro i h1 h2; exfalso; omega
  | succ n ih =>
    intro i h1 h2
    refine J_iload_3 Y qX9_count_98 ?_
    refine J_aloadr_0 Y qX9_count_99 ?_
    refine J_getI Y qX9_count_100 fX9_89 (by decide) ?_
    rw [hkM]
    refine J_icmp_ge Y qX9_count_103 (by omega) (by omega) (by omega) (by omega) (fun h103 => ?_) (fun h103 => ?_)
    · obtain rfl : i = k := by omega
      refine J_iload_2 Y qX9_count_121 ?_
      exact J_iret X qX9_count_122 (hP)
    · have ht := (hM.rq i (by omega)).1
      refine J_iload_2 Y qX9_count_106 ?_
      refine J_aloadr_0 Y qX9_count_107 ?_
      refine J_getR Y qX9_count_108 fX9_37 (by decide) ?_
      refine J_iload_3 Y qX9_count_111 ?_
      refine J_ialoadN (kx := i) Y qX9_count_112 rfl (by decide) rfl (by omega) (by decide) ?_
      rw [ht]
      refine J_iadd Y qX9_count_113 ?_
      refine J_istore_2 Y qX9_count_114 rfl ?_
      refine J_iinc_3 Y qX9_count_115 rfl ?_
      refine J_goto Y qX9_count_118 ?_
      exact ih (i + 1) (by omega) (by omega)

theorem r_count (l : Launch) (G : Gx) (M : Mem) {A : Mem} {n : Nat} {a : Int} (a1 : -2147483648 ≤ a) (a2 : a < 2147483648) (hI : Inv n A) (hn : n < 512) (hM : MR A M)  : Ct l G 4 yX9_count cX9_count 4 ((Option.some Jvm.ClassFile.FieldType.int)) [rf G 9 0, vi a] M (QR (f_count A a) M) := by
  refine Ct.of rfl (Nat.le_of_ble_eq_true rfl) rfl (fun E X => ?_)
  have Y := X.ok
  obtain ⟨m1, m2, m3, m4, m5, m6⟩ := hM.r0
  obtain ⟨c1, c2⟩ := hI.count
  obtain ⟨d1, d2⟩ := hI.day
  obtain ⟨k, hk⟩ := nat_of c1
  refine J_iconst Y qX9_count_0 ?_
  refine J_istore_2 Y qX9_count_1 rfl ?_
  refine J_iload_1 Y qX9_count_2 ?_
  rcases (show a < 0 ∨ 5 < a ∨ a = 0 ∨ a = 1 ∨ a = 2 ∨ a = 3 ∨ a = 4 ∨ a = 5 by omega) with hb | hb | rfl | rfl | rfl | rfl | rfl | rfl
  · refine J_tswOut (tg := 123) Y qX9_count_3 (by omega) (by omega) (Or.inl hb) (by decide) ?_
    refine J_aloadr_0 Y qX9_count_123 ?_
    refine J_bipush Y qX9_count_124 (by decide) ?_
    refine J_cV1F Y qX9_count_126 mX9_97 iyX9_refuse (by decide) rfl (by decide) rfl (Nat.le_of_ble_eq_true rfl) (m_refuse _ _ _ 7 (by decide) rfl) ?_
    exact J_iret X qX9_count_129 (QR_e (by
      unfold f_count
      try simp only [Int.toNat_natCast]
      repeat (first | rewrite [if_pos trivial] | rewrite [if_pos (by omega)] | rewrite [if_neg (by omega)])
      exact rfl) (by first | rfl | (dsimp only; omega)) (by first | exact hM | exact MR_rfs hM (by decide)) (by first | exact Sm.rfl' | exact Sm_up (Or.inl (by decide))))
  · refine J_tswOut (tg := 123) Y qX9_count_3 (by omega) (by omega) (Or.inr hb) (by decide) ?_
    refine J_aloadr_0 Y qX9_count_123 ?_
    refine J_bipush Y qX9_count_124 (by decide) ?_
    refine J_cV1F Y qX9_count_126 mX9_97 iyX9_refuse (by decide) rfl (by decide) rfl (Nat.le_of_ble_eq_true rfl) (m_refuse _ _ _ 7 (by decide) rfl) ?_
    exact J_iret X qX9_count_129 (QR_e (by
      unfold f_count
      try simp only [Int.toNat_natCast]
      repeat (first | rewrite [if_pos trivial] | rewrite [if_pos (by omega)] | rewrite [if_neg (by omega)])
      exact rfl) (by first | rfl | (dsimp only; omega)) (by first | exact hM | exact MR_rfs hM (by decide)) (by first | exact Sm.rfl' | exact Sm_up (Or.inl (by decide))))
  · refine J_tswIn (tg := 40) Y qX9_count_3 (by decide) (by decide) (by decide) (by decide) rfl (by decide) ?_
    refine J_aloadr_0 Y qX9_count_40 ?_
    refine J_getI Y qX9_count_41 fX9_111 (by decide) ?_
    exact J_iret X qX9_count_44 (QR_e (by
      unfold f_count
      try simp only [Int.toNat_natCast]
      repeat (first | rewrite [if_pos trivial] | rewrite [if_pos (by omega)] | rewrite [if_neg (by omega)])
      exact rfl) (by first | rfl | (dsimp only; omega)) (by first | exact hM | exact MR_rfs hM (by decide)) (by first | exact Sm.rfl' | exact Sm_up (Or.inl (by decide))))
  · refine J_tswIn (tg := 45) Y qX9_count_3 (by decide) (by decide) (by decide) (by decide) rfl (by decide) ?_
    refine J_aloadr_0 Y qX9_count_45 ?_
    refine J_getI Y qX9_count_46 fX9_89 (by decide) ?_
    exact J_iret X qX9_count_49 (QR_e (by
      unfold f_count
      try simp only [Int.toNat_natCast]
      repeat (first | rewrite [if_pos trivial] | rewrite [if_pos (by omega)] | rewrite [if_neg (by omega)])
      exact rfl) (by first | rfl | (dsimp only; omega)) (by first | exact hM | exact MR_rfs hM (by decide)) (by first | exact Sm.rfl' | exact Sm_up (Or.inl (by decide))))
  · refine J_tswIn (tg := 50) Y qX9_count_3 (by decide) (by decide) (by decide) (by decide) rfl (by decide) ?_
    refine J_aloadr_0 Y qX9_count_50 ?_
    refine J_getI Y qX9_count_51 fX9_160 (by decide) ?_
    exact J_iret X qX9_count_54 (QR_e (by
      unfold f_count
      try simp only [Int.toNat_natCast]
      repeat (first | rewrite [if_pos trivial] | rewrite [if_pos (by omega)] | rewrite [if_neg (by omega)])
      exact rfl) (by first | rfl | (dsimp only; omega)) (by first | exact hM | exact MR_rfs hM (by decide)) (by first | exact Sm.rfl' | exact Sm_up (Or.inl (by decide))))
  · refine J_tswIn (tg := 55) Y qX9_count_3 (by decide) (by decide) (by decide) (by decide) rfl (by decide) ?_
    refine J_aloadr_0 Y qX9_count_55 ?_
    refine J_getI Y qX9_count_56 fX9_130 (by decide) ?_
    exact J_iret X qX9_count_59 (QR_e (by
      unfold f_count
      try simp only [Int.toNat_natCast]
      repeat (first | rewrite [if_pos trivial] | rewrite [if_pos (by omega)] | rewrite [if_neg (by omega)])
      exact rfl) (by first | rfl | (dsimp only; omega)) (by first | exact hM | exact MR_rfs hM (by decide)) (by first | exact Sm.rfl' | exact Sm_up (Or.inl (by decide))))
  · refine J_tswIn (tg := 60) Y qX9_count_3 (by decide) (by decide) (by decide) (by decide) rfl (by decide) ?_
    refine J_iconst Y qX9_count_60 ?_
    refine J_istore_3 Y qX9_count_61 rfl ?_
    exact lp_mcount4 hI hM hk (by omega) (QR_e (show f_count A 4 = _ from by
      unfold f_count
      rewrite [if_neg (by omega)]
      simp only [hk, Int.toNat_natCast]
      exact rfl) rfl hM Sm.rfl') X (k + 1) 0 (by omega) (by omega)
  · refine J_tswIn (tg := 96) Y qX9_count_3 (by decide) (by decide) (by decide) (by decide) rfl (by decide) ?_
    refine J_iconst Y qX9_count_96 ?_
    refine J_istore_3 Y qX9_count_97 rfl ?_
    exact lp_mcount5 hI hM hk (by omega) (QR_e (show f_count A 5 = _ from by
      unfold f_count
      rewrite [if_neg (by omega)]
      simp only [hk, Int.toNat_natCast]
      exact rfl) rfl hM Sm.rfl') X (k + 1) 0 (by omega) (by omega)


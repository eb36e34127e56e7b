/-! ===== the reference: first, count, lay, copy, feed ===== -/
theorem ric_val (g : Nat → Int) (p : Nat) : ∀ n : Nat, ((ric g p n).1 = -1 ∧ (ric g p n).2 = 0) ∨ ∃ j : Nat, (ric g p n).1 = (j : Int) ∧ j < n ∧ (ric g p n).2 = g j ∧ 0 < g j
  | 0 => Or.inl ⟨rfl, rfl⟩
  | n + 1 => by
    have ih := ric_val g p n
    simp only [ric]
    by_cases h : n ≠ p ∧ (ric g p n).2 < g n
    · rw [if_pos h]
      refine Or.inr ⟨n, rfl, by omega, rfl, ?_⟩
      rcases ih with ih | ⟨j, h1, h2, h3, h4⟩ <;> omega
    · rw [if_neg h]
      rcases ih with ih | ⟨j, h1, h2, h3, h4⟩
      · exact Or.inl ih
      · exact Or.inr ⟨j, h1, by omega, h3, h4⟩
theorem ric_cong {g h : Nat → Int} {p : Nat} : ∀ (n : Nat), (∀ i, i < n → g i = h i) → ric g p n = ric h p n
  | 0, _ => rfl
  | n + 1, e => by simp only [ric]; rw [ric_cong n (fun i hi => e i (by omega)), e n (by omega)]
theorem lp_greatest {l : Launch} {G : Gx} {E : Fx} {d : Nat} {M : Mem} {at0 p : Nat} (ha : at0 ≤ 270) (hp : p < 10) {g : Nat → Int} (hg : ∀ i, i < 10 → M 45 0 (at0 + i) = g i) (hr : ∀ i, i < 10 → 0 ≤ g i ∧ g i ≤ 5040) (X : OkM l G E cX9_greatest RX9 5 d (some .int) (RP M (ric g p 10).1)) : ∀ (n i : Nat), i ≤ 10 → 10 < i + n → J G E 5 [some (rf G 9 0), some (vi (at0 : Int)), some (vi (p : Int)), some (vi (ric g p i).1), some (vi (i : Int))] [] M := by
  have Y := X.ok
  intro n
  induction n with
  | zero => intro i h1 h2; exfalso; omega
  | succ n ih =>
    intro i h1 h2
    refine J_iload_4 Y qX9_greatest_5 ?_
    refine J_bipush Y qX9_greatest_7 (by decide) ?_
    refine J_icmp_ge Y qX9_greatest_9 (by omega) (by omega) (by omega) (by omega) (fun h9 => ?_) (fun h9 => ?_)
    · obtain rfl : i = 10 := by omega
      refine J_iload_3 Y qX9_greatest_64 ?_
      exact J_iret X qX9_greatest_65 (RP_i rfl)
    · have hv := ric_val g p i
      have hgi := hg i (by omega)
      have hri := hr i (by omega)
      have hrr := ric_rng g p i
      refine J_iload_4 Y qX9_greatest_12 ?_
      refine J_iload_2 Y qX9_greatest_14 ?_
      refine J_icmp_eq Y qX9_greatest_15 (by omega) (by omega) (by omega) (by omega) (fun h15 => ?_) (fun h15 => ?_)
      · refine J_iinc_4 Y qX9_greatest_58 rfl ?_
        refine J_goto Y qX9_greatest_61 ?_
        first
        | (have hE : ric g p (i + 1) = ((i : Int), g i) := by rw [ric, if_pos (by rcases hv with hv | ⟨j, h1, h2, h3, h4⟩ <;> omega)]
           have hc := ih (i + 1) (by omega) (by omega)
           rw [hE] at hc
           first | exact hc | (rw [j1] at hc; exact hc))
        | (have hE : ric g p (i + 1) = ric g p i := by rw [ric, if_neg (by rcases hv with hv | ⟨j, h1, h2, h3, h4⟩ <;> omega)]
           have hc := ih (i + 1) (by omega) (by omega)
           rw [hE] at hc
           first | exact hc | (rw [j1] at hc; exact hc))
      · refine J_aloadr_0 Y qX9_greatest_18 ?_
        refine J_getR Y qX9_greatest_19 fX9_25 (by decide) ?_
        refine J_iload_1 Y qX9_greatest_22 ?_
        refine J_iload_4 Y qX9_greatest_23 ?_
        refine J_iadd Y qX9_greatest_25 ?_
        rw [show (at0 : Int) + (i : Int) = ((at0 + i : Nat) : Int) by omega]
        refine J_ialoadN (kx := (at0 + i)) Y qX9_greatest_26 rfl (by decide) rfl (by omega) (by decide) ?_
        refine J_if_le Y qX9_greatest_27 (by omega) (by omega) (fun h27 => ?_) (fun h27 => ?_)
        · refine J_iinc_4 Y qX9_greatest_58 rfl ?_
          refine J_goto Y qX9_greatest_61 ?_
          first
          | (have hE : ric g p (i + 1) = ((i : Int), g i) := by rw [ric, if_pos (by rcases hv with hv | ⟨j, h1, h2, h3, h4⟩ <;> omega)]
             have hc := ih (i + 1) (by omega) (by omega)
             rw [hE] at hc
             first | exact hc | (rw [j1] at hc; exact hc))
          | (have hE : ric g p (i + 1) = ric g p i := by rw [ric, if_neg (by rcases hv with hv | ⟨j, h1, h2, h3, h4⟩ <;> omega)]
             have hc := ih (i + 1) (by omega) (by omega)
             rw [hE] at hc
             first | exact hc | (rw [j1] at hc; exact hc))
        · refine J_iload_3 Y qX9_greatest_30 ?_
          refine J_iconst Y qX9_greatest_31 ?_
          refine J_icmp_eq Y qX9_greatest_32 (by omega) (by omega) (by omega) (by omega) (fun h32 => ?_) (fun h32 => ?_)
          · refine J_iload_4 Y qX9_greatest_55 ?_
            refine J_istore_3 Y qX9_greatest_57 rfl ?_
            refine J_iinc_4 Y qX9_greatest_58 rfl ?_
            refine J_goto Y qX9_greatest_61 ?_
            first
            | (have hE : ric g p (i + 1) = ((i : Int), g i) := by rw [ric, if_pos (by rcases hv with hv | ⟨j, h1, h2, h3, h4⟩ <;> omega)]
               have hc := ih (i + 1) (by omega) (by omega)
               rw [hE] at hc
               first | exact hc | (rw [j1] at hc; exact hc))
            | (have hE : ric g p (i + 1) = ric g p i := by rw [ric, if_neg (by rcases hv with hv | ⟨j, h1, h2, h3, h4⟩ <;> omega)]
               have hc := ih (i + 1) (by omega) (by omega)
               rw [hE] at hc
               first | exact hc | (rw [j1] at hc; exact hc))
          · refine J_aloadr_0 Y qX9_greatest_35 ?_
            refine J_getR Y qX9_greatest_36 fX9_25 (by decide) ?_
            refine J_iload_1 Y qX9_greatest_39 ?_
            refine J_iload_4 Y qX9_greatest_40 ?_
            refine J_iadd Y qX9_greatest_42 ?_
            rw [show (at0 : Int) + (i : Int) = ((at0 + i : Nat) : Int) by omega]
            refine J_ialoadN (kx := (at0 + i)) Y qX9_greatest_43 rfl (by decide) rfl (by omega) (by decide) ?_
            refine J_aloadr_0 Y qX9_greatest_44 ?_
            refine J_getR Y qX9_greatest_45 fX9_25 (by decide) ?_
            refine J_iload_1 Y qX9_greatest_48 ?_
            refine J_iload_3 Y qX9_greatest_49 ?_
            refine J_iadd Y qX9_greatest_50 ?_
            obtain ⟨j, j1, j2, j3, j4⟩ : ∃ j : Nat, (ric g p i).1 = (j : Int) ∧ j < i ∧ (ric g p i).2 = g j ∧ 0 < g j := by
              rcases hv with hv | hv
              · omega
              · exact hv
            have hgj := hg j (by omega)
            have hrj := hr j (by omega)
            have hv2 : (ric g p i).2 = g j := j3
            rw [j1, show (at0 : Int) + (j : Int) = ((at0 + j : Nat) : Int) by omega]
            refine J_ialoadN (kx := (at0 + j)) Y qX9_greatest_51 rfl (by decide) rfl (by omega) (by decide) ?_
            refine J_icmp_le Y qX9_greatest_52 (by omega) (by omega) (by omega) (by omega) (fun h52 => ?_) (fun h52 => ?_)
            · refine J_iinc_4 Y qX9_greatest_58 rfl ?_
              refine J_goto Y qX9_greatest_61 ?_
              first
              | (have hE : ric g p (i + 1) = ((i : Int), g i) := by rw [ric, if_pos (by rcases hv with hv | ⟨j, h1, h2, h3, h4⟩ <;> omega)]
                 have hc := ih (i + 1) (by omega) (by omega)
                 rw [hE] at hc
                 first | exact hc | (rw [j1] at hc; exact hc))
              | (have hE : ric g p (i + 1) = ric g p i := by rw [ric, if_neg (by rcases hv with hv | ⟨j, h1, h2, h3, h4⟩ <;> omega)]
                 have hc := ih (i + 1) (by omega) (by omega)
                 rw [hE] at hc
                 first | exact hc | (rw [j1] at hc; exact hc))
            · refine J_iload_4 Y qX9_greatest_55 ?_
              refine J_istore_3 Y qX9_greatest_57 rfl ?_
              refine J_iinc_4 Y qX9_greatest_58 rfl ?_
              refine J_goto Y qX9_greatest_61 ?_
              first
              | (have hE : ric g p (i + 1) = ((i : Int), g i) := by rw [ric, if_pos (by rcases hv with hv | ⟨j, h1, h2, h3, h4⟩ <;> omega)]
                 have hc := ih (i + 1) (by omega) (by omega)
                 rw [hE] at hc
                 first | exact hc | (rw [j1] at hc; exact hc))
              | (have hE : ric g p (i + 1) = ric g p i := by rw [ric, if_neg (by rcases hv with hv | ⟨j, h1, h2, h3, h4⟩ <;> omega)]
                 have hc := ih (i + 1) (by omega) (by omega)
                 rw [hE] at hc
                 first | exact hc | (rw [j1] at hc; exact hc))

theorem m_greatest (l : Launch) (G : Gx) (M : Mem) {at0 p : Nat} (ha : at0 ≤ 270) (hp : p < 10) {g : Nat → Int} (hg : ∀ i, i < 10 → M 45 0 (at0 + i) = g i) (hr : ∀ i, i < 10 → 0 ≤ g i ∧ g i ≤ 5040) : Ct l G 1 yX9_greatest cX9_greatest 5 ((Option.some Jvm.ClassFile.FieldType.int)) [rf G 9 0, vi (at0 : Nat), vi (p : Nat)] M (RP M (ric g p 10).1) := by
  refine Ct.of rfl (Nat.le_of_ble_eq_true rfl) rfl (fun E X => ?_)
  have Y := X.ok
  refine J_iconst Y qX9_greatest_0 ?_
  refine J_istore_3 Y qX9_greatest_1 rfl ?_
  refine J_iconst Y qX9_greatest_2 ?_
  refine J_istore_4 Y qX9_greatest_3 rfl ?_
  exact lp_greatest ha hp hg hr X 11 0 (by omega) (by omega)

theorem r_first (l : Launch) (G : Gx) (M : Mem) {A : Mem} {n : Nat} {a b : Int} (a1 : -2147483648 ≤ a) (a2 : a < 2147483648) (b1 : -2147483648 ≤ b) (b2 : b < 2147483648) (hI : Inv n A) (hn : n < 512) (hM : MR A M)  : Ct l G 4 yX9_first cX9_first 4 ((Option.some Jvm.ClassFile.FieldType.int)) [rf G 9 0, vi a, vi b] M (QR (f_first A a b) M) := by
  refine Ct.of rfl (Nat.le_of_ble_eq_true rfl) rfl (fun E X => ?_)
  have Y := X.ok
  obtain ⟨m1, m2, m3, m4, m5, m6⟩ := hM.r0
  obtain ⟨c1, c2⟩ := hI.count
  obtain ⟨d1, d2⟩ := hI.day
  refine J_aloadr_0 Y qX9_first_0 ?_
  refine J_iload_1 Y qX9_first_1 ?_
  refine J_cV1B Y qX9_first_2 mX9_101 iyX9_isShop (by decide) rfl (by decide) rfl (Nat.le_of_ble_eq_true rfl) (m_isShop _ _ _ (by omega) (by omega) (by omega) (by omega)) (fun h2 => ?_) (fun h2 => ?_)
  · refine J_eq1 Y qX9_first_5 ?_
    refine J_iload_2 Y qX9_first_8 ?_
    refine J_cS1B Y qX9_first_9 mX9_108 iyX9_isPerson rfl (by decide) rfl (Nat.le_of_ble_eq_true rfl) (m_isPerson _ _ _ (by omega) (by omega)) (fun h9 => ?_) (fun h9 => ?_)
    · refine J_ne1 Y qX9_first_12 ?_
      obtain ⟨s, rfl⟩ := nat_of (show 0 ≤ a by omega)
      obtain ⟨p, rfl⟩ := nat_of (show 0 ≤ b by omega)
      have hp0 := (hM.rp s (by omega) p (by omega)).2
      have pr := hI.part (s := s) (p := p) (by omega) (by omega)
      have r1 := ric_rng (A 26 s) p 10
      have r2 := ric_rng (A 25 s) p 10
      refine J_aloadr_0 Y qX9_first_22 ?_
      refine J_getR Y qX9_first_23 fX9_25 (by decide) ?_
      refine J_bipush Y qX9_first_26 (by decide) ?_
      refine J_iload_1 Y qX9_first_28 ?_
      refine J_imul Y qX9_first_29 ?_
      refine J_bipush Y qX9_first_30 (by decide) ?_
      refine J_iadd Y qX9_first_32 ?_
      refine J_iload_2 Y qX9_first_33 ?_
      refine J_iadd Y qX9_first_34 ?_
      rw [show (20 : Int) * (s : Int) + 10 + (p : Int) = ((20 * s + 10 + p : Nat) : Int) by omega]
      refine J_ialoadN (kx := (20 * s + 10 + p)) Y qX9_first_35 rfl (by decide) rfl (by omega) (by decide) ?_
      refine J_if_ne Y qX9_first_36 (by omega) (by omega) (fun h36 => ?_) (fun h36 => ?_)
      · refine J_aloadr_0 Y qX9_first_46 ?_
        refine J_bipush Y qX9_first_47 (by decide) ?_
        refine J_iload_1 Y qX9_first_49 ?_
        refine J_imul Y qX9_first_50 ?_
        refine J_bipush Y qX9_first_51 (by decide) ?_
        refine J_iadd Y qX9_first_53 ?_
        rw [show (20 : Int) * (s : Int) + 10 = ((20 * s + 10 : Nat) : Int) by omega]
        refine J_iload_2 Y qX9_first_54 ?_
        refine J_cV2P Y qX9_first_55 mX9_126 iyX9_greatest (by decide) rfl (by decide) rfl (Nat.le_of_ble_eq_true rfl) (m_greatest _ _ _ (g := A 26 s) (by omega) (by omega) (fun i hi => (hM.rp s (by omega) i hi).2) (fun i hi => (hI.part (by omega) hi).2)) ?_
        refine J_istore_3 Y qX9_first_58 rfl ?_
        refine J_iload_3 Y qX9_first_59 ?_
        refine J_iconst Y qX9_first_60 ?_
        refine J_icmp_eq Y qX9_first_61 (by omega) (by omega) (by omega) (by omega) (fun h61 => ?_) (fun h61 => ?_)
        · refine J_aloadr_0 Y qX9_first_68 ?_
          refine J_bipush Y qX9_first_69 (by decide) ?_
          refine J_iload_1 Y qX9_first_71 ?_
          refine J_imul Y qX9_first_72 ?_
          rw [show (20 : Int) * (s : Int) = ((20 * s : Nat) : Int) by omega]
          refine J_iload_2 Y qX9_first_73 ?_
          refine J_cV2P Y qX9_first_74 mX9_126 iyX9_greatest (by decide) rfl (by decide) rfl (Nat.le_of_ble_eq_true rfl) (m_greatest _ _ _ (g := A 25 s) (by omega) (by omega) (fun i hi => (hM.rp s (by omega) i hi).1) (fun i hi => (hI.part (by omega) hi).1)) ?_
          exact J_iret X qX9_first_77 (QR_e (by
            unfold f_first
            try simp only [Int.toNat_natCast]
            repeat (first | rewrite [if_pos trivial] | rewrite [if_pos (by omega)] | rewrite [if_neg (by omega)])
            exact rfl) (by first | rfl | (dsimp only; omega)) (by first | exact hM | exact MR_rfs hM (by decide)) (by first | exact Sm.rfl' | exact Sm_up (Or.inl (by decide))))
        · refine J_iload_3 Y qX9_first_64 ?_
          refine J_goto Y qX9_first_65 ?_
          exact J_iret X qX9_first_77 (QR_e (by
            unfold f_first
            try simp only [Int.toNat_natCast]
            repeat (first | rewrite [if_pos trivial] | rewrite [if_pos (by omega)] | rewrite [if_neg (by omega)])
            exact rfl) (by first | rfl | (dsimp only; omega)) (by first | exact hM | exact MR_rfs hM (by decide)) (by first | exact Sm.rfl' | exact Sm_up (Or.inl (by decide))))
      · refine J_aloadr_0 Y qX9_first_39 ?_
        refine J_bipush Y qX9_first_40 (by decide) ?_
        refine J_cV1F Y qX9_first_42 mX9_97 iyX9_refuse (by decide) rfl (by decide) rfl (Nat.le_of_ble_eq_true rfl) (m_refuse _ _ _ 7 (by decide) rfl) ?_
        exact J_iret X qX9_first_45 (QR_e (by
          unfold f_first
          try simp only [Int.toNat_natCast]
          repeat (first | rewrite [if_pos trivial] | rewrite [if_pos (by omega)] | rewrite [if_neg (by omega)])
          exact rfl) (by first | rfl | (dsimp only; omega)) (by first | exact hM | exact MR_rfs hM (by decide)) (by first | exact Sm.rfl' | exact Sm_up (Or.inl (by decide))))
    · refine J_ne0 Y qX9_first_12 ?_
      refine J_aloadr_0 Y qX9_first_15 ?_
      refine J_bipush Y qX9_first_16 (by decide) ?_
      refine J_cV1F Y qX9_first_18 mX9_97 iyX9_refuse (by decide) rfl (by decide) rfl (Nat.le_of_ble_eq_true rfl) (m_refuse _ _ _ 3 (by decide) rfl) ?_
      exact J_iret X qX9_first_21 (QR_e (by
        unfold f_first
        try simp only [Int.toNat_natCast]
        repeat (first | rewrite [if_pos trivial] | rewrite [if_pos (by omega)] | rewrite [if_neg (by omega)])
        exact rfl) (by first | rfl | (dsimp only; omega)) (by first | exact hM | exact MR_rfs hM (by decide)) (by first | exact Sm.rfl' | exact Sm_up (Or.inl (by decide))))
  · refine J_eq0 Y qX9_first_5 ?_
    refine J_aloadr_0 Y qX9_first_15 ?_
    refine J_bipush Y qX9_first_16 (by decide) ?_
    refine J_cV1F Y qX9_first_18 mX9_97 iyX9_refuse (by decide) rfl (by decide) rfl (Nat.le_of_ble_eq_true rfl) (m_refuse _ _ _ 3 (by decide) rfl) ?_
    exact J_iret X qX9_first_21 (QR_e (by
      unfold f_first
      try simp only [Int.toNat_natCast]
      repeat (first | rewrite [if_pos trivial] | rewrite [if_pos (by omega)] | rewrite [if_neg (by omega)])
      exact rfl) (by first | rfl | (dsimp only; omega)) (by first | exact hM | exact MR_rfs hM (by decide)) (by first | exact Sm.rfl' | exact Sm_up (Or.inl (by decide))))


/-! ===== the reference: sums are parted ===== -/
/-- what one gets of a parted sum -/
def prtV (g : Nat → Int) (sum t : Int) (p : Nat) : Int := shr g sum p * t + (if (p : Int) = fstP g 10 then (sum - sumN (shr g sum) 10) * t else 0)
def mpS (M : Mem) (g : Nat → Int) (sum t : Int) (i : Nat) : Mem := upR M 55 0 (fun p => if p < i then M 55 0 p + shr g sum p * t else M 55 0 p)
def mpr (M : Mem) (g : Nat → Int) (sum t : Int) : Mem := upR M 55 0 (fun p => if p < 10 then M 55 0 p + prtV g sum t p else M 55 0 p)
theorem prt_val (M : Mem) (f s : Nat) (sum t : Int) {p : Nat} (hp : p < 10) (h18 : f ≠ 18) : prt M f s sum t 18 0 p = M 18 0 p + prtV (M f s) sum t p := by
  unfold prt prtV
  have e0 : prtS M f s sum t 10 18 0 p = M 18 0 p + shr (M f s) sum p * t := by simp [prtS, upR, hp]
  by_cases h : fstP (M f s) 10 = -1
  · rw [if_pos h, e0, if_neg (by omega), Int.add_zero]
  · rw [if_neg h]
    have hr := fstP_rng (M f s) 10
    obtain ⟨q, hq⟩ := nat_of (show 0 ≤ fstP (M f s) 10 by omega)
    rw [hq, Int.toNat_natCast]
    by_cases e : p = q
    · subst e
      rw [up_same, e0, if_pos rfl]; omega
    · rw [up_ne (by omega), e0, if_neg (by omega), Int.add_zero]
theorem mpS_0 (M : Mem) (g : Nat → Int) (sum t : Int) : mpS M g sum t 0 = M := by
  funext a b c
  simp only [mpS, upR]
  grind
theorem mpS_t {M : Mem} {g : Nat → Int} {sum t : Int} {i : Nat} (h : 0 < g i) : up (mpS M g sum t i) 55 0 i (mpS M g sum t i 55 0 i + t * (sum * g i / 5040)) = mpS M g sum t (i + 1) := by
  have e : t * (sum * g i / 5040) = shr g sum i * t := by simp [shr, h, Int.mul_comm]
  rw [e]
  funext a b c
  simp only [mpS, upR, up]
  grind
theorem mpS_f {M : Mem} {g : Nat → Int} {sum t : Int} {i : Nat} (h : ¬ 0 < g i) : mpS M g sum t i = mpS M g sum t (i + 1) := by
  have e : shr g sum i = 0 := by simp [shr, h]
  funext a b c
  simp only [mpS, upR]
  split
  · by_cases hc : c = i
    · subst hc
      simp [e]
    · have : c < i ↔ c < i + 1 := by omega
      simp only [this]
  · rfl
theorem mpS_end {M : Mem} {g : Nat → Int} {sum t : Int} {q : Nat} (hq : fstP g 10 = (q : Int)) (h10 : q < 10) : up (mpS M g sum t 10) 55 0 q (mpS M g sum t 10 55 0 q + t * (sum - sumN (shr g sum) 10)) = mpr M g sum t := by
  funext a b c
  by_cases h : a = 55 ∧ b = 0
  · obtain ⟨rfl, rfl⟩ := h
    simp only [mpr, mpS, upR, up, prtV, hq]
    by_cases e : c = q
    · subst e
      simp [h10, Int.mul_comm, Int.add_assoc]
    · have e2 : ¬ (c : Int) = (q : Int) := by omega
      simp [e, e2]
  · simp only [mpr, mpS, upR, up]
    rw [if_neg (by omega), if_neg h, if_neg h]
theorem Sm_mpr {N : Mem} {g : Nat → Int} {sum t : Int} : Sm (mpr N g sum t) N := Sm_upR (Or.inl (by decide))
theorem lp_mshares {l : Launch} {G : Gx} {E : Fx} {d : Nat} {M : Mem} {at0 : Nat} {sum t : Int} {g : Nat → Int} (ha : at0 ≤ 270) (hg : ∀ i, i < 10 → M 45 0 (at0 + i) = g i) (hr : ∀ i, i < 10 → 0 ≤ g i ∧ g i ≤ 5040) (hf : fstP g 10 ≠ -1) (s1 : 0 ≤ sum) (s2 : sum ≤ 99999) (ht : t = 1 ∨ t = -1) (X : OkM l G E cX9_shares RX9 8 d (none) (VF (mpr M g sum t))) : ∀ (n i : Nat), ∀ x7 : Option Value, i ≤ 10 → 10 < i + n → J G E 9 [some (rf G 9 0), some (vi (at0 : Int)), some (vi sum), some (vi t), some (vi (sum - sumN (shr g sum) i)), some (vi (fstP g i)), some (vi (i : Int)), x7] [] (mpS M g sum t i) := by
  have Y := X.ok
  intro n
  induction n with
  | zero => intro i x7 h1 h2; exfalso; omega
  | succ n ih =>
    intro i x7 h1 h2
    have rr := fstP_rng g i
    refine J_iload_6 Y qX9_shares_9 ?_
    refine J_bipush Y qX9_shares_11 (by decide) ?_
    refine J_icmp_ge Y qX9_shares_13 (by omega) (by omega) (by omega) (by omega) (fun h13 => ?_) (fun h13 => ?_)
    · obtain rfl : i = 10 := by omega
      have u1 := sumN_le (g := shr g sum) (c := 99999) 10 (fun j hj => (shr_rng s1 s2 (hr j hj).1 (hr j hj).2).2)
      have u2 := sumN_ge (g := shr g sum) (c := 0) 10 (fun j hj => (shr_rng s1 s2 (hr j hj).1 (hr j hj).2).1)
      obtain ⟨fo, hfo⟩ := nat_of (show 0 ≤ fstP g 10 by omega)
      rw [hfo]
      refine J_aloadr_0 Y qX9_shares_91 ?_
      refine J_getR Y qX9_shares_92 fX9_55 (by decide) ?_
      refine J_iload_5 Y qX9_shares_95 ?_
      refine J_dup2 Y qX9_shares_97 rfl rfl ?_
      refine J_laloadN (kx := fo) Y qX9_shares_98 rfl (by decide) rfl (by omega) (by decide) ?_
      refine J_iload_3 Y qX9_shares_99 ?_
      refine J_iload_4 Y qX9_shares_100 ?_
      refine J_imul Y qX9_shares_102 ?_
      have q3 : -2000000 ≤ t * (sum - sumN (shr g sum) 10) ∧ t * (sum - sumN (shr g sum) 10) ≤ 2000000 := by rcases ht with rfl | rfl <;> omega
      refine J_i2l Y qX9_shares_103 (by omega) (by omega) ?_
      refine J_ladd Y qX9_shares_104 ?_
      refine J_lastoreN (kx := fo) Y qX9_shares_105 rfl (by decide) rfl (by omega) (by decide) ?_
      exact J_vret X qX9_shares_106 ⟨rfl, mpS_end hfo (by omega)⟩
    · have hri := hr i (by omega)
      have hgi := hg i (by omega)
      refine J_aloadr_0 Y qX9_shares_16 ?_
      refine J_getR Y qX9_shares_17 fX9_25 (by decide) ?_
      refine J_iload_1 Y qX9_shares_20 ?_
      refine J_iload_6 Y qX9_shares_21 ?_
      refine J_iadd Y qX9_shares_23 ?_
      rw [show (at0 : Int) + (i : Int) = ((at0 + i : Nat) : Int) by omega]
      refine J_ialoadN (kx := (at0 + i)) Y qX9_shares_24 rfl (by decide) rfl (by omega) (by decide) ?_
      rw [show mpS M g sum t i 45 0 (at0 + i) = g i from hgi]
      refine J_if_le Y qX9_shares_25 (by omega) (by omega) (fun h25 => ?_) (fun h25 => ?_)
      · refine J_iinc_6 Y qX9_shares_85 rfl ?_
        refine J_goto Y qX9_shares_88 ?_
        have ih9 := fun x => ih (i + 1) x (by omega) (by omega)
        first
          | (have e1 : fstP g (i + 1) = (i : Int) := by rw [fstP, if_pos (by omega)]
             have e2 : sumN (shr g sum) (i + 1) = sumN (shr g sum) i + sum * g i / 5040 := by rw [sumN]; congr 1; rw [shr, if_pos (by omega)]
             rw [e1, e2, ← Int.sub_sub] at ih9
             exact ih9 _)
          | (have e1 : fstP g (i + 1) = fstP g i := by rw [fstP, if_neg (by omega)]
             have e2 : sumN (shr g sum) (i + 1) = sumN (shr g sum) i + sum * g i / 5040 := by rw [sumN]; congr 1; rw [shr, if_pos (by omega)]
             rw [e1, e2, ← Int.sub_sub] at ih9
             exact ih9 _)
          | (have e1 : fstP g (i + 1) = fstP g i := by rw [fstP, if_neg (by omega)]
             have e2 : sumN (shr g sum) (i + 1) = sumN (shr g sum) i := by rw [sumN, shr, if_neg (by omega), Int.add_zero]
             rw [e1, e2, ← mpS_f (by omega)] at ih9
             exact ih9 _)
      · refine J_iload_2 Y qX9_shares_28 ?_
        refine J_i2l Y qX9_shares_29 (by omega) (by omega) ?_
        refine J_aloadr_0 Y qX9_shares_30 ?_
        refine J_getR Y qX9_shares_31 fX9_25 (by decide) ?_
        refine J_iload_1 Y qX9_shares_34 ?_
        refine J_iload_6 Y qX9_shares_35 ?_
        refine J_iadd Y qX9_shares_37 ?_
        rw [show (at0 : Int) + (i : Int) = ((at0 + i : Nat) : Int) by omega]
        refine J_ialoadN (kx := (at0 + i)) Y qX9_shares_38 rfl (by decide) rfl (by omega) (by decide) ?_
        rw [show mpS M g sum t i 45 0 (at0 + i) = g i from hgi]
        have q1 : 0 ≤ sum * g i := Int.mul_nonneg s1 (by omega)
        have q2 : sum * g i ≤ 99999 * 5040 := Int.mul_le_mul s2 (by omega) (by omega) (by omega)
        refine J_i2l Y qX9_shares_39 (by omega) (by omega) ?_
        refine J_lmul Y qX9_shares_40 ?_
        refine J_ldc2 Y qX9_shares_41 kX9_119 ?_
        refine J_ldiv Y qX9_shares_44 (by omega) (by omega) (by omega) (by omega) ?_
        refine J_l2i Y qX9_shares_45 (by omega) (by omega) ?_
        refine J_istore_7 Y qX9_shares_46 rfl ?_
        refine J_aloadr_0 Y qX9_shares_48 ?_
        refine J_getR Y qX9_shares_49 fX9_55 (by decide) ?_
        refine J_iload_6 Y qX9_shares_52 ?_
        refine J_dup2 Y qX9_shares_54 rfl rfl ?_
        refine J_laloadN (kx := i) Y qX9_shares_55 rfl (by decide) rfl (by omega) (by decide) ?_
        refine J_iload_3 Y qX9_shares_56 ?_
        refine J_iload_7 Y qX9_shares_57 ?_
        refine J_imul Y qX9_shares_59 ?_
        have q3 : -99999 ≤ t * (sum * g i / 5040) ∧ t * (sum * g i / 5040) ≤ 99999 := by rcases ht with rfl | rfl <;> omega
        refine J_i2l Y qX9_shares_60 (by omega) (by omega) ?_
        refine J_ladd Y qX9_shares_61 ?_
        refine J_lastoreN (kx := i) Y qX9_shares_62 rfl (by decide) rfl (by omega) (by decide) ?_
        rw [mpS_t (by omega)]
        refine J_iload_4 Y qX9_shares_63 ?_
        refine J_iload_7 Y qX9_shares_65 ?_
        refine J_isub Y qX9_shares_67 ?_
        refine J_istore_4 Y qX9_shares_68 rfl ?_
        refine J_iload_5 Y qX9_shares_70 ?_
        refine J_iconst Y qX9_shares_72 ?_
        refine J_icmp_ne Y qX9_shares_73 (by omega) (by omega) (by omega) (by omega) (fun h73 => ?_) (fun h73 => ?_)
        · refine J_iload_5 Y qX9_shares_81 ?_
          refine J_istore_5 Y qX9_shares_83 rfl ?_
          refine J_iinc_6 Y qX9_shares_85 rfl ?_
          refine J_goto Y qX9_shares_88 ?_
          have ih9 := fun x => ih (i + 1) x (by omega) (by omega)
          first
            | (have e1 : fstP g (i + 1) = (i : Int) := by rw [fstP, if_pos (by omega)]
               have e2 : sumN (shr g sum) (i + 1) = sumN (shr g sum) i + sum * g i / 5040 := by rw [sumN]; congr 1; rw [shr, if_pos (by omega)]
               rw [e1, e2, ← Int.sub_sub] at ih9
               exact ih9 _)
            | (have e1 : fstP g (i + 1) = fstP g i := by rw [fstP, if_neg (by omega)]
               have e2 : sumN (shr g sum) (i + 1) = sumN (shr g sum) i + sum * g i / 5040 := by rw [sumN]; congr 1; rw [shr, if_pos (by omega)]
               rw [e1, e2, ← Int.sub_sub] at ih9
               exact ih9 _)
            | (have e1 : fstP g (i + 1) = fstP g i := by rw [fstP, if_neg (by omega)]
               have e2 : sumN (shr g sum) (i + 1) = sumN (shr g sum) i := by rw [sumN, shr, if_neg (by omega), Int.add_zero]
               rw [e1, e2, ← mpS_f (by omega)] at ih9
               exact ih9 _)
        · refine J_iload_6 Y qX9_shares_76 ?_
          refine J_goto Y qX9_shares_78 ?_
          refine J_istore_5 Y qX9_shares_83 rfl ?_
          refine J_iinc_6 Y qX9_shares_85 rfl ?_
          refine J_goto Y qX9_shares_88 ?_
          have ih9 := fun x => ih (i + 1) x (by omega) (by omega)
          first
            | (have e1 : fstP g (i + 1) = (i : Int) := by rw [fstP, if_pos (by omega)]
               have e2 : sumN (shr g sum) (i + 1) = sumN (shr g sum) i + sum * g i / 5040 := by rw [sumN]; congr 1; rw [shr, if_pos (by omega)]
               rw [e1, e2, ← Int.sub_sub] at ih9
               exact ih9 _)
            | (have e1 : fstP g (i + 1) = fstP g i := by rw [fstP, if_neg (by omega)]
               have e2 : sumN (shr g sum) (i + 1) = sumN (shr g sum) i + sum * g i / 5040 := by rw [sumN]; congr 1; rw [shr, if_pos (by omega)]
               rw [e1, e2, ← Int.sub_sub] at ih9
               exact ih9 _)
            | (have e1 : fstP g (i + 1) = fstP g i := by rw [fstP, if_neg (by omega)]
               have e2 : sumN (shr g sum) (i + 1) = sumN (shr g sum) i := by rw [sumN, shr, if_neg (by omega), Int.add_zero]
               rw [e1, e2, ← mpS_f (by omega)] at ih9
               exact ih9 _)

theorem m_shares (l : Launch) (G : Gx) (M : Mem) {at0 : Nat} {sum t : Int} {g : Nat → Int} (ha : at0 ≤ 270) (hg : ∀ i, i < 10 → M 45 0 (at0 + i) = g i) (hr : ∀ i, i < 10 → 0 ≤ g i ∧ g i ≤ 5040) (hf : fstP g 10 ≠ -1) (s1 : 0 ≤ sum) (s2 : sum ≤ 99999) (ht : t = 1 ∨ t = -1) : Ct l G 1 yX9_shares cX9_shares 8 ((Option.none : Option Jvm.ClassFile.FieldType)) [rf G 9 0, vi (at0 : Nat), vi sum, vi t] M (VF (mpr M g sum t)) := by
  refine Ct.of rfl (Nat.le_of_ble_eq_true rfl) rfl (fun E X => ?_)
  have Y := X.ok
  refine J_iload_2 Y qX9_shares_0 ?_
  refine J_istore_4 Y qX9_shares_1 rfl ?_
  refine J_iconst Y qX9_shares_3 ?_
  refine J_istore_5 Y qX9_shares_4 rfl ?_
  refine J_iconst Y qX9_shares_6 ?_
  refine J_istore_6 Y qX9_shares_7 rfl ?_
  have h := lp_mshares ha hg hr hf s1 s2 ht X 11 0 none (by omega) (by omega)
  rw [mpS_0, show sumN (shr g sum) 0 = 0 from rfl, Int.sub_zero] at h
  exact h


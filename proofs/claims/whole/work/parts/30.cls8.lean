/-! ===== the class: a new shop ===== -/
theorem Int.tdiv_le_zero9 (a : Int) (h : a < 0) (h2 : -2147483648 ≤ a) : -2147483648 ≤ a.tdiv 10 ∧ a.tdiv 10 < 2147483648 := by
  have e : a = -(-a) := by omega
  have h3 : a.tdiv 10 = -((-a) / 10) := by
    rw [e, Int.neg_tdiv, Int.tdiv_eq_ediv_of_nonneg (by omega)]
    simp
  omega

theorem c_link (l : Launch) (G : Gx) (M : Mem) {β : Nat → Nat} {a b : Nat} (ha : a < 14) (hb : b < 14) (hab : a ≠ b) : Ct l G 1 yX0_link cX0_link 3 ((Option.none : Option Jvm.ClassFile.FieldType)) [rf G 0 0, vi (a : Nat), vi (b : Nat)] (bsM M β) (VF (bsM M (fun u => if u = b then β b ||| 2 ^ a else if u = a then β a ||| 2 ^ b else β u))) := by
  refine Ct.of rfl (Nat.le_of_ble_eq_true rfl) rfl (fun E X => ?_)
  have Y := X.ok
  refine J_aloadr_0 Y qX0_link_0 ?_
  refine J_getR Y qX0_link_1 fX0_11 (by decide) ?_
  refine J_iload_1 Y qX0_link_4 ?_
  refine J_aaloadN (kx := a) Y qX0_link_5 rfl (fun _ => rfl) (by decide) rfl (by omega) (by decide) ?_
  refine J_dup Y qX0_link_6 rfl ?_
  refine J_getI Y qX0_link_7 fX0_42 (by show _ < 14; omega) ?_
  rw [bsM_at _ _ ha]
  refine J_iconst Y qX0_link_10 ?_
  refine J_iload_2 Y qX0_link_11 ?_
  refine J_shl1 Y b qX0_link_12 rfl (by omega) ?_
  refine J_orN Y qX0_link_13 ?_
  refine J_putI Y qX0_link_14 fX0_42w (by show _ < 14; omega) ?_
  rw [bsM_up _ _ _ ha]
  refine J_aloadr_0 Y qX0_link_17 ?_
  refine J_getR Y qX0_link_18 fX0_11 (by decide) ?_
  refine J_iload_2 Y qX0_link_21 ?_
  refine J_aaloadN (kx := b) Y qX0_link_22 rfl (fun _ => rfl) (by decide) rfl (by omega) (by decide) ?_
  refine J_dup Y qX0_link_23 rfl ?_
  refine J_getI Y qX0_link_24 fX0_42 (by show _ < 14; omega) ?_
  rw [bsM_at _ _ hb, if_neg (fun z => hab z.symm)]
  refine J_iconst Y qX0_link_27 ?_
  refine J_iload_1 Y qX0_link_28 ?_
  refine J_shl1 Y a qX0_link_29 rfl (by omega) ?_
  refine J_orN Y qX0_link_30 ?_
  refine J_putI Y qX0_link_31 fX0_42w (by show _ < 14; omega) ?_
  rw [bsM_up _ _ _ hb]
  exact J_vret X qX0_link_34 ⟨rfl, rfl⟩

theorem lp_join {l : Launch} {G : Gx} {E : Fx} {M : Mem} {s : Nat} (hs : s < 14) (hst : ∀ u, u ≤ s → (0 ≤ M 5 u 0 ∧ M 5 u 0 ≤ 4) ∧ 0 ≤ M 5 u 1 ∧ M 5 u 1 ≤ 5) (X : OkM l G E cX0_join RX0 4 2 (none) (VF (up (bsM M (btE M s)) 0 0 2 ((s : Int) + 1)))) : ∀ (n i : Nat), i ≤ s → s < i + n → J G E 4 [some (rf G 0 0), some (vi (s : Int)), some (vi (lsS M s i)), some (vi (i : Int))] [] (bsM M (btJ M s i)) := by
  have Y := X.ok
  intro n
  induction n with
  | zero => intro i h1 h2; exfalso; omega
  | succ n ih =>
    intro i h1 h2
    have rr := lsS_rng M s i
    refine J_iload_3 Y qX0_join_4 ?_
    refine J_iload_1 Y qX0_join_5 ?_
    refine J_icmp_ge Y qX0_join_6 (by omega) (by omega) (by omega) (by omega) (fun h6 => ?_) (fun h6 => ?_)
    · obtain rfl : i = s := by omega
      refine J_iload_2 Y qX0_join_65 ?_
      refine J_iconst Y qX0_join_66 ?_
      refine J_icmp_eq Y qX0_join_67 (by omega) (by omega) (by omega) (by omega) (fun h67 => ?_) (fun h67 => ?_)
      · refine J_aloadr_0 Y qX0_join_76 ?_
        refine J_iload_1 Y qX0_join_77 ?_
        refine J_iconst Y qX0_join_78 ?_
        refine J_iadd Y qX0_join_79 ?_
        refine J_putI Y qX0_join_80 fX0_21w (by decide) ?_
        first
          | exact J_vret X qX0_join_83 ⟨rfl, by rw [show btE M i = btJ M i i from by funext u; rw [btE, if_pos (by omega)]]⟩
          | exact J_vret X qX0_join_83 ⟨rfl, by
              rw [show btE M i = (fun u => if u = i then btJ M i i i ||| 2 ^ la else if u = la then btJ M i i la ||| 2 ^ i else btJ M i i u) from by
                funext u
                rw [btE, if_neg (by omega), hla, Int.toNat_natCast]
                by_cases e1 : u = i
                · rw [if_pos e1, if_pos e1]
                · rw [if_neg e1, if_neg e1]
                  by_cases e2 : u = la
                  · rw [if_pos e2, if_pos e2, e2]
                  · rw [if_neg e2, if_neg e2]]⟩
      · obtain ⟨la, hla⟩ := nat_of (show 0 ≤ lsS M i i by omega)
        rw [hla]
        refine J_aloadr_0 Y qX0_join_70 ?_
        refine J_iload_2 Y qX0_join_71 ?_
        refine J_iload_1 Y qX0_join_72 ?_
        refine J_cV2W Y qX0_join_73 mX0_38 iyX0_link (by decide) rfl (by decide) rfl (Nat.le_of_ble_eq_true rfl) (c_link _ _ _ (by omega) (by omega) (by omega)) ?_
        refine J_aloadr_0 Y qX0_join_76 ?_
        refine J_iload_1 Y qX0_join_77 ?_
        refine J_iconst Y qX0_join_78 ?_
        refine J_iadd Y qX0_join_79 ?_
        refine J_putI Y qX0_join_80 fX0_21w (by decide) ?_
        first
          | exact J_vret X qX0_join_83 ⟨rfl, by rw [show btE M i = btJ M i i from by funext u; rw [btE, if_pos (by omega)]]⟩
          | exact J_vret X qX0_join_83 ⟨rfl, by
              rw [show btE M i = (fun u => if u = i then btJ M i i i ||| 2 ^ la else if u = la then btJ M i i la ||| 2 ^ i else btJ M i i u) from by
                funext u
                rw [btE, if_neg (by omega), hla, Int.toNat_natCast]
                by_cases e1 : u = i
                · rw [if_pos e1, if_pos e1]
                · rw [if_neg e1, if_neg e1]
                  by_cases e2 : u = la
                  · rw [if_pos e2, if_pos e2, e2]
                  · rw [if_neg e2, if_neg e2]]⟩
    · have hi9 := hst i (by omega)
      have hs9 := hst s (Nat.le_refl s)
      refine J_aloadr_0 Y qX0_join_9 ?_
      refine J_getR Y qX0_join_10 fX0_11 (by decide) ?_
      refine J_iload_3 Y qX0_join_13 ?_
      refine J_aaloadN (kx := i) Y qX0_join_14 rfl (fun _ => rfl) (by decide) rfl (by omega) (by decide) ?_
      refine J_getI Y qX0_join_15 fX0_32 (by show _ < 14; omega) ?_
      refine J_aloadr_0 Y qX0_join_18 ?_
      refine J_getR Y qX0_join_19 fX0_11 (by decide) ?_
      refine J_iload_1 Y qX0_join_22 ?_
      refine J_aaloadN (kx := s) Y qX0_join_23 rfl (fun _ => rfl) (by decide) rfl (by omega) (by decide) ?_
      refine J_getI Y qX0_join_24 fX0_32 (by show _ < 14; omega) ?_
      rw [show (bsM M (btJ M s i)) 5 i 0 = M 5 i 0 from bsM_ne (by omega), show (bsM M (btJ M s i)) 5 s 0 = M 5 s 0 from bsM_ne (by omega)]
      refine J_icmp_ne Y qX0_join_27 (by omega) (by omega) (by omega) (by omega) (fun h27 => ?_) (fun h27 => ?_)
      · refine J_aloadr_0 Y qX0_join_32 ?_
        refine J_getR Y qX0_join_33 fX0_11 (by decide) ?_
        refine J_iload_3 Y qX0_join_36 ?_
        refine J_aaloadN (kx := i) Y qX0_join_37 rfl (fun _ => rfl) (by decide) rfl (by omega) (by decide) ?_
        refine J_getI Y qX0_join_38 fX0_35 (by show _ < 14; omega) ?_
        refine J_aloadr_0 Y qX0_join_41 ?_
        refine J_getR Y qX0_join_42 fX0_11 (by decide) ?_
        refine J_iload_1 Y qX0_join_45 ?_
        refine J_aaloadN (kx := s) Y qX0_join_46 rfl (fun _ => rfl) (by decide) rfl (by omega) (by decide) ?_
        refine J_getI Y qX0_join_47 fX0_35 (by show _ < 14; omega) ?_
        rw [show (bsM M (btJ M s i)) 5 i 1 = M 5 i 1 from bsM_ne (by omega), show (bsM M (btJ M s i)) 5 s 1 = M 5 s 1 from bsM_ne (by omega)]
        refine J_icmp_ne Y qX0_join_50 (by omega) (by omega) (by omega) (by omega) (fun h50 => ?_) (fun h50 => ?_)
        · refine J_iinc_3 Y qX0_join_59 rfl ?_
          refine J_goto Y qX0_join_62 ?_
          have ih9 := ih (i + 1) (by omega) (by omega)
          rw [lsS] at ih9
          first
            | rw [if_pos (by omega)] at ih9
            | rw [if_neg (by omega)] at ih9
          first
            | (have ce : arE M s i = true := by simp only [arE, decide_eq_true_eq]; omega
               rw [show (fun u => if u = s then btJ M s i s ||| 2 ^ i else if u = i then btJ M s i i ||| 2 ^ s else btJ M s i u) = btJ M s (i + 1) from by
                 funext u
                 by_cases e1 : u = s
                 · subst e1
                   simp only [btJ, if_pos rfl, setB, if_pos ce]
                   simp
                 · by_cases e2 : u = i
                   · subst e2
                     simp only [btJ, if_neg e1]
                     rw [if_pos trivial, if_neg (by omega), if_pos ⟨by omega, ce⟩]
                   · simp only [btJ, if_neg e1, if_neg e2]
                     have : (u < i) ↔ (u < i + 1) := by omega
                     simp only [this]]
               exact ih9)
            | (have ce : ¬ arE M s i = true := by simp only [arE, decide_eq_true_eq]; omega
               rw [show btJ M s i = btJ M s (i + 1) from by
                 funext u
                 by_cases e1 : u = s
                 · subst e1
                   simp only [btJ, if_pos rfl, setB, if_neg ce]
                   simp
                 · by_cases e2 : u = i
                   · subst e2
                     simp only [btJ, if_neg e1]
                     rw [if_neg (by omega), if_neg (fun z => ce z.2)]
                   · simp only [btJ, if_neg e1]
                     have : (u < i) ↔ (u < i + 1) := by omega
                     simp only [this]]
               exact ih9)
        · refine J_aloadr_0 Y qX0_join_53 ?_
          refine J_iload_3 Y qX0_join_54 ?_
          refine J_iload_1 Y qX0_join_55 ?_
          refine J_cV2W Y qX0_join_56 mX0_38 iyX0_link (by decide) rfl (by decide) rfl (Nat.le_of_ble_eq_true rfl) (c_link _ _ _ (by omega) (by omega) (by omega)) ?_
          refine J_iinc_3 Y qX0_join_59 rfl ?_
          refine J_goto Y qX0_join_62 ?_
          have ih9 := ih (i + 1) (by omega) (by omega)
          rw [lsS] at ih9
          first
            | rw [if_pos (by omega)] at ih9
            | rw [if_neg (by omega)] at ih9
          first
            | (have ce : arE M s i = true := by simp only [arE, decide_eq_true_eq]; omega
               rw [show (fun u => if u = s then btJ M s i s ||| 2 ^ i else if u = i then btJ M s i i ||| 2 ^ s else btJ M s i u) = btJ M s (i + 1) from by
                 funext u
                 by_cases e1 : u = s
                 · subst e1
                   simp only [btJ, if_pos rfl, setB, if_pos ce]
                   simp
                 · by_cases e2 : u = i
                   · subst e2
                     simp only [btJ, if_neg e1]
                     rw [if_pos trivial, if_neg (by omega), if_pos ⟨by omega, ce⟩]
                   · simp only [btJ, if_neg e1, if_neg e2]
                     have : (u < i) ↔ (u < i + 1) := by omega
                     simp only [this]]
               exact ih9)
            | (have ce : ¬ arE M s i = true := by simp only [arE, decide_eq_true_eq]; omega
               rw [show btJ M s i = btJ M s (i + 1) from by
                 funext u
                 by_cases e1 : u = s
                 · subst e1
                   simp only [btJ, if_pos rfl, setB, if_neg ce]
                   simp
                 · by_cases e2 : u = i
                   · subst e2
                     simp only [btJ, if_neg e1]
                     rw [if_neg (by omega), if_neg (fun z => ce z.2)]
                   · simp only [btJ, if_neg e1]
                     have : (u < i) ↔ (u < i + 1) := by omega
                     simp only [this]]
               exact ih9)
      · refine J_iload_3 Y qX0_join_30 ?_
        refine J_istore_2 Y qX0_join_31 rfl ?_
        refine J_aloadr_0 Y qX0_join_32 ?_
        refine J_getR Y qX0_join_33 fX0_11 (by decide) ?_
        refine J_iload_3 Y qX0_join_36 ?_
        refine J_aaloadN (kx := i) Y qX0_join_37 rfl (fun _ => rfl) (by decide) rfl (by omega) (by decide) ?_
        refine J_getI Y qX0_join_38 fX0_35 (by show _ < 14; omega) ?_
        refine J_aloadr_0 Y qX0_join_41 ?_
        refine J_getR Y qX0_join_42 fX0_11 (by decide) ?_
        refine J_iload_1 Y qX0_join_45 ?_
        refine J_aaloadN (kx := s) Y qX0_join_46 rfl (fun _ => rfl) (by decide) rfl (by omega) (by decide) ?_
        refine J_getI Y qX0_join_47 fX0_35 (by show _ < 14; omega) ?_
        rw [show (bsM M (btJ M s i)) 5 i 1 = M 5 i 1 from bsM_ne (by omega), show (bsM M (btJ M s i)) 5 s 1 = M 5 s 1 from bsM_ne (by omega)]
        refine J_icmp_ne Y qX0_join_50 (by omega) (by omega) (by omega) (by omega) (fun h50 => ?_) (fun h50 => ?_)
        · refine J_iinc_3 Y qX0_join_59 rfl ?_
          refine J_goto Y qX0_join_62 ?_
          have ih9 := ih (i + 1) (by omega) (by omega)
          rw [lsS] at ih9
          first
            | rw [if_pos (by omega)] at ih9
            | rw [if_neg (by omega)] at ih9
          first
            | (have ce : arE M s i = true := by simp only [arE, decide_eq_true_eq]; omega
               rw [show (fun u => if u = s then btJ M s i s ||| 2 ^ i else if u = i then btJ M s i i ||| 2 ^ s else btJ M s i u) = btJ M s (i + 1) from by
                 funext u
                 by_cases e1 : u = s
                 · subst e1
                   simp only [btJ, if_pos rfl, setB, if_pos ce]
                   simp
                 · by_cases e2 : u = i
                   · subst e2
                     simp only [btJ, if_neg e1]
                     rw [if_pos trivial, if_neg (by omega), if_pos ⟨by omega, ce⟩]
                   · simp only [btJ, if_neg e1, if_neg e2]
                     have : (u < i) ↔ (u < i + 1) := by omega
                     simp only [this]]
               exact ih9)
            | (have ce : ¬ arE M s i = true := by simp only [arE, decide_eq_true_eq]; omega
               rw [show btJ M s i = btJ M s (i + 1) from by
                 funext u
                 by_cases e1 : u = s
                 · subst e1
                   simp only [btJ, if_pos rfl, setB, if_neg ce]
                   simp
                 · by_cases e2 : u = i
                   · subst e2
                     simp only [btJ, if_neg e1]
                     rw [if_neg (by omega), if_neg (fun z => ce z.2)]
                   · simp only [btJ, if_neg e1]
                     have : (u < i) ↔ (u < i + 1) := by omega
                     simp only [this]]
               exact ih9)
        · refine J_aloadr_0 Y qX0_join_53 ?_
          refine J_iload_3 Y qX0_join_54 ?_
          refine J_iload_1 Y qX0_join_55 ?_
          refine J_cV2W Y qX0_join_56 mX0_38 iyX0_link (by decide) rfl (by decide) rfl (Nat.le_of_ble_eq_true rfl) (c_link _ _ _ (by omega) (by omega) (by omega)) ?_
          refine J_iinc_3 Y qX0_join_59 rfl ?_
          refine J_goto Y qX0_join_62 ?_
          have ih9 := ih (i + 1) (by omega) (by omega)
          rw [lsS] at ih9
          first
            | rw [if_pos (by omega)] at ih9
            | rw [if_neg (by omega)] at ih9
          first
            | (have ce : arE M s i = true := by simp only [arE, decide_eq_true_eq]; omega
               rw [show (fun u => if u = s then btJ M s i s ||| 2 ^ i else if u = i then btJ M s i i ||| 2 ^ s else btJ M s i u) = btJ M s (i + 1) from by
                 funext u
                 by_cases e1 : u = s
                 · subst e1
                   simp only [btJ, if_pos rfl, setB, if_pos ce]
                   simp
                 · by_cases e2 : u = i
                   · subst e2
                     simp only [btJ, if_neg e1]
                     rw [if_pos trivial, if_neg (by omega), if_pos ⟨by omega, ce⟩]
                   · simp only [btJ, if_neg e1, if_neg e2]
                     have : (u < i) ↔ (u < i + 1) := by omega
                     simp only [this]]
               exact ih9)
            | (have ce : ¬ arE M s i = true := by simp only [arE, decide_eq_true_eq]; omega
               rw [show btJ M s i = btJ M s (i + 1) from by
                 funext u
                 by_cases e1 : u = s
                 · subst e1
                   simp only [btJ, if_pos rfl, setB, if_neg ce]
                   simp
                 · by_cases e2 : u = i
                   · subst e2
                     simp only [btJ, if_neg e1]
                     rw [if_neg (by omega), if_neg (fun z => ce z.2)]
                   · simp only [btJ, if_neg e1]
                     have : (u < i) ↔ (u < i + 1) := by omega
                     simp only [this]]
               exact ih9)

theorem c_join (l : Launch) (G : Gx) (M : Mem) {s : Nat} (hs : s < 14) (hst : ∀ u, u ≤ s → (0 ≤ M 5 u 0 ∧ M 5 u 0 ≤ 4) ∧ 0 ≤ M 5 u 1 ∧ M 5 u 1 ≤ 5) (h0 : M 5 s 12 = 0) (hnn : ∀ u, u < 14 → 0 ≤ M 5 u 12) : Ct l G 2 yX0_join cX0_join 4 ((Option.none : Option Jvm.ClassFile.FieldType)) [rf G 0 0, vi (s : Nat)] M (VF (up (bsM M (btE M s)) 0 0 2 ((s : Int) + 1))) := by
  refine Ct.of rfl (Nat.le_of_ble_eq_true rfl) rfl (fun E X => ?_)
  have Y := X.ok
  refine J_iconst Y qX0_join_0 ?_
  refine J_istore_2 Y qX0_join_1 rfl ?_
  refine J_iconst Y qX0_join_2 ?_
  refine J_istore_3 Y qX0_join_3 rfl ?_
  have h := lp_join hs hst X (s + 1) 0 (by omega) (by omega)
  rw [show btJ M s 0 = (fun u => (M 5 u 12).toNat) from by
    funext u
    simp only [btJ]
    by_cases e : u = s
    · subst e; rw [if_pos rfl, h0]; rfl
    · rw [if_neg e, if_neg (by omega)], bsM_self M hnn] at h
  exact h

theorem c_addStreet (l : Launch) (G : Gx) (M : Mem) {a t x : Nat} (ha : a < 6) (ht : t < 31) (hx : M 13 0 a = (x : Int)) : Ct l G 1 yX1_addStreet cX1_addStreet 3 ((Option.none : Option Jvm.ClassFile.FieldType)) [rf G 1 0, vi (a : Nat), vi (t : Nat)] M (VF (up M 13 0 a ((x ||| 2 ^ t : Nat) : Int))) := by
  refine Ct.of rfl (Nat.le_of_ble_eq_true rfl) rfl (fun E X => ?_)
  have Y := X.ok
  refine J_aloadr_0 Y qX1_addStreet_0 ?_
  refine J_getR Y qX1_addStreet_1 fX1_15 (by decide) ?_
  refine J_iload_1 Y qX1_addStreet_4 ?_
  refine J_dup2 Y qX1_addStreet_5 rfl rfl ?_
  refine J_ialoadN (kx := a) Y qX1_addStreet_6 rfl (by decide) rfl (by omega) (by decide) ?_
  rw [hx]
  refine J_iconst Y qX1_addStreet_7 ?_
  refine J_iload_2 Y qX1_addStreet_8 ?_
  refine J_shl1 Y t qX1_addStreet_9 rfl (by omega) ?_
  refine J_orN Y qX1_addStreet_10 ?_
  refine J_iastoreN (kx := a) Y qX1_addStreet_11 rfl (by decide) rfl (by omega) (by decide) ?_
  exact J_vret X qX1_addStreet_12 ⟨rfl, rfl⟩

theorem k_shop (l : Launch) (G : Gx) (M : Mem) {n : Nat} {a b c : Int} (a1 : -2147483648 ≤ a) (a2 : a < 2147483648) (b1 : -2147483648 ≤ b) (b2 : b < 2147483648) (c1 : -2147483648 ≤ c) (c2 : c < 2147483648) (hI : Inv n M) (hn : n < 512)  : Ct l G 5 yX8_shop cX8_shop 8 ((Option.some Jvm.ClassFile.FieldType.int)) [rf G 8 0, vi a, vi b, vi c] M (RI (fun z M2 => z = (f_shop M a b c).1 ∧ Der M2 (f_shop M a b c).2 ∧ (∀ s, s < 14 → IvB M2 s) ∧ ∀ x, x < 6 → IvT M2 x)) := by
  refine Ct.of rfl (Nat.le_of_ble_eq_true rfl) rfl (fun E X => ?_)
  have Y := X.ok
  obtain ⟨c1, c2⟩ := hI.count
  obtain ⟨d1, d2⟩ := hI.day
  rcases Int.lt_or_le a 0 with hneg | hpos
  · refine J_iload_1 Y qX8_shop_0 ?_
    refine J_bipush Y qX8_shop_1 (by decide) ?_
    refine J_idivT Y qX8_shop_3 (by omega) (by omega) (by omega) (by omega) (by omega) ?_
    refine J_istore_4 Y qX8_shop_4 rfl ?_
    refine J_iload_1 Y qX8_shop_6 ?_
    refine J_bipush Y qX8_shop_7 (by decide) ?_
    refine J_idivT Y qX8_shop_9 (by omega) (by omega) (by omega) (by omega) (by omega) ?_
    refine J_bipush Y qX8_shop_10 (by decide) ?_
    have td := Int.tdiv_le_zero9 a (by omega) (by omega)
    refine J_iremT Y qX8_shop_12 (by omega) (by omega) (by omega) (by omega) (by omega) ?_
    refine J_istore_5 Y qX8_shop_13 rfl ?_
    refine J_iload_1 Y qX8_shop_15 ?_
    refine J_if_lt Y qX8_shop_16 (by omega) (by omega) (fun h16 => ?_) (fun h16 => ?_)
    · refine J_aloadr_0 Y qX8_shop_32 ?_
      refine J_bipush Y qX8_shop_33 (by decide) ?_
      refine J_cV1F Y qX8_shop_35 mX8_66 iyX8_refused (by decide) rfl (by decide) rfl (Nat.le_of_ble_eq_true rfl) (c_refused (w := 3) _ _ _ (by decide) (by decide)) ?_
      exact J_iret X qX8_shop_38 ⟨_, rfl, by
        unfold f_shop
        repeat (first | rw [if_pos (by omega)] | rw [if_neg (by omega)])
        rfl, by
        unfold f_shop
        repeat (first | rw [if_pos (by omega)] | rw [if_neg (by omega)])
        exact fun _ _ _ _ _ => rfl, fun s hs => hI.bes hs, fun x hx => (hI.arch hx).2⟩
    · exfalso; omega
  · refine J_iload_1 Y qX8_shop_0 ?_
    refine J_bipush Y qX8_shop_1 (by decide) ?_
    refine J_idiv Y qX8_shop_3 (by omega) (by omega) (by omega) (by omega) ?_
    refine J_istore_4 Y qX8_shop_4 rfl ?_
    refine J_iload_1 Y qX8_shop_6 ?_
    refine J_bipush Y qX8_shop_7 (by decide) ?_
    refine J_idiv Y qX8_shop_9 (by omega) (by omega) (by omega) (by omega) ?_
    refine J_bipush Y qX8_shop_10 (by decide) ?_
    refine J_irem Y qX8_shop_12 (by omega) (by omega) (by omega) (by omega) ?_
    refine J_istore_5 Y qX8_shop_13 rfl ?_
    refine J_iload_1 Y qX8_shop_15 ?_
    refine J_if_lt Y qX8_shop_16 (by omega) (by omega) (fun h16 => ?_) (fun h16 => ?_)
    · exfalso; omega
    · refine J_iload_4 Y qX8_shop_19 ?_
      refine J_iconst Y qX8_shop_21 ?_
      refine J_icmp_ge Y qX8_shop_22 (by omega) (by omega) (by omega) (by omega) (fun h22 => ?_) (fun h22 => ?_)
      · refine J_aloadr_0 Y qX8_shop_32 ?_
        refine J_bipush Y qX8_shop_33 (by decide) ?_
        refine J_cV1F Y qX8_shop_35 mX8_66 iyX8_refused (by decide) rfl (by decide) rfl (Nat.le_of_ble_eq_true rfl) (c_refused (w := 3) _ _ _ (by decide) (by decide)) ?_
        exact J_iret X qX8_shop_38 ⟨_, rfl, by
          unfold f_shop
          repeat (first | rw [if_pos (by omega)] | rw [if_neg (by omega)])
          rfl, by
          unfold f_shop
          repeat (first | rw [if_pos (by omega)] | rw [if_neg (by omega)])
          exact fun _ _ _ _ _ => rfl, fun s hs => hI.bes hs, fun x hx => (hI.arch hx).2⟩
      · refine J_iload_5 Y qX8_shop_25 ?_
        refine J_bipush Y qX8_shop_27 (by decide) ?_
        refine J_icmp_lt Y qX8_shop_29 (by omega) (by omega) (by omega) (by omega) (fun h29 => ?_) (fun h29 => ?_)
        · refine J_iload_2 Y qX8_shop_39 ?_
          refine J_iconst Y qX8_shop_40 ?_
          refine J_sipush Y qX8_shop_41 (by decide) ?_
          refine J_cS3B Y qX8_shop_44 mX8_70 iyX8_isOutside rfl (by decide) rfl (Nat.le_of_ble_eq_true rfl) (c_isOutside _ _ _ (by omega) (by omega) (by omega) (by omega) (by omega) (by omega)) (fun h44 => ?_) (fun h44 => ?_)
          · refine J_ne1 Y qX8_shop_47 ?_
            refine J_aloadr_0 Y qX8_shop_60 ?_
            refine J_bipush Y qX8_shop_61 (by decide) ?_
            refine J_cV1F Y qX8_shop_63 mX8_66 iyX8_refused (by decide) rfl (by decide) rfl (Nat.le_of_ble_eq_true rfl) (c_refused (w := 7) _ _ _ (by decide) (by decide)) ?_
            exact J_iret X qX8_shop_66 ⟨_, rfl, by
              unfold f_shop
              repeat (first | rw [if_pos (by omega)] | rw [if_neg (by omega)])
              rfl, by
              unfold f_shop
              repeat (first | rw [if_pos (by omega)] | rw [if_neg (by omega)])
              exact fun _ _ _ _ _ => rfl, fun s hs => hI.bes hs, fun x hx => (hI.arch hx).2⟩
          · refine J_ne0 Y qX8_shop_47 ?_
            refine J_iload_3 Y qX8_shop_50 ?_
            refine J_iconst Y qX8_shop_51 ?_
            refine J_bipush Y qX8_shop_52 (by decide) ?_
            refine J_cS3B Y qX8_shop_54 mX8_70 iyX8_isOutside rfl (by decide) rfl (Nat.le_of_ble_eq_true rfl) (c_isOutside _ _ _ (by omega) (by omega) (by omega) (by omega) (by omega) (by omega)) (fun h54 => ?_) (fun h54 => ?_)
            · refine J_eq1 Y qX8_shop_57 ?_
              refine J_aloadr_0 Y qX8_shop_60 ?_
              refine J_bipush Y qX8_shop_61 (by decide) ?_
              refine J_cV1F Y qX8_shop_63 mX8_66 iyX8_refused (by decide) rfl (by decide) rfl (Nat.le_of_ble_eq_true rfl) (c_refused (w := 7) _ _ _ (by decide) (by decide)) ?_
              exact J_iret X qX8_shop_66 ⟨_, rfl, by
                unfold f_shop
                repeat (first | rw [if_pos (by omega)] | rw [if_neg (by omega)])
                rfl, by
                unfold f_shop
                repeat (first | rw [if_pos (by omega)] | rw [if_neg (by omega)])
                exact fun _ _ _ _ _ => rfl, fun s hs => hI.bes hs, fun x hx => (hI.arch hx).2⟩
            · refine J_eq0 Y qX8_shop_57 ?_
              refine J_aloadr_0 Y qX8_shop_67 ?_
              refine J_getR Y qX8_shop_68 fX8_10 (by decide) ?_
              refine J_getI Y qX8_shop_71 fX8_74 (by decide) ?_
              refine J_bipush Y qX8_shop_74 (by decide) ?_
              refine J_icmp_lt Y qX8_shop_76 (by omega) (by omega) (by omega) (by omega) (fun h76 => ?_) (fun h76 => ?_)
              · obtain ⟨s, hs⟩ := nat_of c1
                obtain ⟨p, hp⟩ := nat_of (show 0 ≤ a % 10 by omega)
                obtain ⟨st, hst⟩ := nat_of (show 0 ≤ a / 100 by omega)
                obtain ⟨ar, har⟩ := nat_of (show 0 ≤ a / 10 % 10 by omega)
                obtain ⟨x, hx⟩ := nat_of (hI.arch (a := ar) (by omega)).2.1
                have fr := hI.fresh (s := s) (by omega) (by omega)
                refine J_aloadr_0 Y qX8_shop_86 ?_
                refine J_getR Y qX8_shop_87 fX8_10 (by decide) ?_
                refine J_getI Y qX8_shop_90 fX8_74 (by decide) ?_
                rw [hs]
                refine J_istore_6 Y qX8_shop_93 rfl ?_
                refine J_aloadr_0 Y qX8_shop_95 ?_
                refine J_getR Y qX8_shop_96 fX8_10 (by decide) ?_
                refine J_getR Y qX8_shop_99 fX8_77 (by decide) ?_
                refine J_iload_6 Y qX8_shop_102 ?_
                refine J_aaloadN (kx := s) Y qX8_shop_104 rfl (fun _ => rfl) (by decide) rfl (by omega) (by decide) ?_
                refine J_astore_7 Y qX8_shop_105 rfl ?_
                refine J_aloadr_7 Y qX8_shop_107 ?_
                refine J_iload_4 Y qX8_shop_109 ?_
                refine J_iload_5 Y qX8_shop_111 ?_
                refine J_iload_1 Y qX8_shop_113 ?_
                refine J_bipush Y qX8_shop_114 (by decide) ?_
                refine J_irem Y qX8_shop_116 (by omega) (by omega) (by omega) (by omega) ?_
                rw [hp]
                refine J_cV3W Y qX8_shop_117 mX8_81 iyX5_found (by show _ < 14; omega) rfl (by decide) rfl (Nat.le_of_ble_eq_true rfl) (c_found _ _ _ (by omega) (by omega)) ?_
                refine J_aloadr_7 Y qX8_shop_120 ?_
                refine J_iload_2 Y qX8_shop_122 ?_
                refine J_putI Y qX8_shop_123 fX8_87w (by show _ < 14; omega) ?_
                refine J_aloadr_7 Y qX8_shop_126 ?_
                refine J_iload_3 Y qX8_shop_128 ?_
                refine J_putI Y qX8_shop_129 fX8_90w (by show _ < 14; omega) ?_
                rw [show up (up (giv (giv (up (up M 5 s 0 (a / 100)) 5 s 1 (a / 10 % 10)) 25 s p) 26 s p) 5 s 2 b) 5 s 3 c = (shpM M s (a / 100) (a / 10 % 10) b c p) from rfl]
                refine J_aloadr_0 Y qX8_shop_132 ?_
                refine J_getR Y qX8_shop_133 fX8_10 (by decide) ?_
                refine J_iload_6 Y qX8_shop_136 ?_
                refine J_cV1W Y qX8_shop_138 mX8_93 iyX0_join (by decide) rfl (by decide) rfl (Nat.le_of_ble_eq_true rfl) (c_join (M := (shpM M s (a / 100) (a / 10 % 10) b c p)) _ _ (by omega) (fun u hu => by
                  by_cases e : u = s
                  · subst e; rw [shpM_0, shpM_1]; omega
                  · rw [shpM_o e, shpM_o e]; have := hI.shopS (s := u) (by omega); exact ⟨this.1, this.2.1⟩) (by rw [shpM_k (by decide)]; exact fr.2.2.2.2.1) (fun u hu => by
                  by_cases e : u = s
                  · subst e; rw [shpM_k (by decide), fr.2.2.2.2.1]; omega
                  · rw [shpM_o e]; exact (hI.bes hu).1)) ?_
                refine J_aloadr_0 Y qX8_shop_141 ?_
                refine J_getR Y qX8_shop_142 fX8_46 (by decide) ?_
                refine J_iload_5 Y qX8_shop_145 ?_
                refine J_iload_4 Y qX8_shop_147 ?_
                rw [har, hst]
                refine J_cV2W Y qX8_shop_149 mX8_97 iyX1_addStreet (by decide) rfl (by decide) rfl (Nat.le_of_ble_eq_true rfl) (c_addStreet _ _ _ (by omega) (by omega) (x := x) (by rw [up_ne (by omega), bsM_ne (by omega), shpM_f (by decide)]; exact hx)) ?_
                refine J_iload_6 Y qX8_shop_152 ?_
                exact J_iret X qX8_shop_154 ⟨_, rfl, by
                  unfold f_shop
                  rw [if_neg (by omega), if_neg (by omega), if_neg (by omega)]
                  exact hs.symm, by
                  unfold f_shop
                  rw [if_neg (by omega), if_neg (by omega), if_neg (by omega), hs, hp, hst, har, Int.toNat_natCast, Int.toNat_natCast]
                  exact shpE_Der _ s ar x st, shpE_B hI hs (by omega) (fun u k hu => shpM_o hu) (shpM_k (by decide)), shpE_T hI hs (by omega) (fun u k hu => shpM_o hu) (shpM_0 _ _ _ _ _ _ _) (shpM_1 _ _ _ _ _ _ _) (fun b => shpM_f (by decide)) hx⟩
              · refine J_aloadr_0 Y qX8_shop_79 ?_
                refine J_bipush Y qX8_shop_80 (by decide) ?_
                refine J_cV1F Y qX8_shop_82 mX8_66 iyX8_refused (by decide) rfl (by decide) rfl (Nat.le_of_ble_eq_true rfl) (c_refused (w := 8) _ _ _ (by decide) (by decide)) ?_
                exact J_iret X qX8_shop_85 ⟨_, rfl, by
                  unfold f_shop
                  repeat (first | rw [if_pos (by omega)] | rw [if_neg (by omega)])
                  rfl, by
                  unfold f_shop
                  repeat (first | rw [if_pos (by omega)] | rw [if_neg (by omega)])
                  exact fun _ _ _ _ _ => rfl, fun s hs => hI.bes hs, fun x hx => (hI.arch hx).2⟩
        · refine J_aloadr_0 Y qX8_shop_32 ?_
          refine J_bipush Y qX8_shop_33 (by decide) ?_
          refine J_cV1F Y qX8_shop_35 mX8_66 iyX8_refused (by decide) rfl (by decide) rfl (Nat.le_of_ble_eq_true rfl) (c_refused (w := 3) _ _ _ (by decide) (by decide)) ?_
          exact J_iret X qX8_shop_38 ⟨_, rfl, by
            unfold f_shop
            repeat (first | rw [if_pos (by omega)] | rw [if_neg (by omega)])
            rfl, by
            unfold f_shop
            repeat (first | rw [if_pos (by omega)] | rw [if_neg (by omega)])
            exact fun _ _ _ _ _ => rfl, fun s hs => hI.bes hs, fun x hx => (hI.arch hx).2⟩


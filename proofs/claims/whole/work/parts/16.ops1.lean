/-! ===== the class: public methods, first ===== -/
def RLF (e : Int) (N : Mem) : Option Value → Mem → Prop := fun r M2 => r = some (vl e) ∧ M2 = N
theorem RLF_i {p : Int × Mem} {z : Int} {M : Mem} (h : p = (z, M)) : RLF p.1 p.2 (some (vl z)) M := by rw [h]; exact ⟨rfl, rfl⟩
theorem k_look (l : Launch) (G : Gx) (M : Mem) {n : Nat} {a b : Int} (a1 : -2147483648 ≤ a) (a2 : a < 2147483648) (b1 : -2147483648 ≤ b) (b2 : b < 2147483648) (hI : Inv n M) (hn : n < 512)  : Ct l G 4 yX8_look cX8_look 4 ((Option.some Jvm.ClassFile.FieldType.int)) [rf G 8 0, vi a, vi b] M (RF (f_look M a b).1 (f_look M a b).2) := by
  refine Ct.of rfl (Nat.le_of_ble_eq_true rfl) rfl (fun E X => ?_)
  have Y := X.ok
  obtain ⟨c1, c2⟩ := hI.count
  obtain ⟨d1, d2⟩ := hI.day
  refine J_aloadr_0 Y qX8_look_0 ?_
  refine J_iload_1 Y qX8_look_1 ?_
  refine J_cV1B Y qX8_look_2 mX8_101 iyX8_isNoShop (by decide) rfl (by decide) rfl (Nat.le_of_ble_eq_true rfl) (c_isNoShop _ _ _ (by omega) (by omega) (by omega) (by omega)) (fun h2 => ?_) (fun h2 => ?_)
  · refine J_eq1 Y qX8_look_5 ?_
    refine J_aloadr_0 Y qX8_look_8 ?_
    refine J_bipush Y qX8_look_9 (by decide) ?_
    refine J_cV1F Y qX8_look_11 mX8_66 iyX8_refused (by decide) rfl (by decide) rfl (Nat.le_of_ble_eq_true rfl) (c_refused (w := 3) _ _ _ (by decide) (by decide)) ?_
    exact J_iret X qX8_look_14 (RF_i (by
      unfold f_look
      try simp only [Int.toNat_natCast, hk]
      repeat (first | rw [if_pos (by omega)] | rw [if_neg (by omega)])
      try rfl))
  · refine J_eq0 Y qX8_look_5 ?_
    obtain ⟨s, rfl⟩ := nat_of (show 0 ≤ a by omega)
    obtain ⟨p1, p2, p3⟩ := hI.pawns (s := s) (by omega)
    obtain ⟨k, hk⟩ := nat_of p1
    refine J_aloadr_0 Y qX8_look_15 ?_
    refine J_getR Y qX8_look_16 fX8_10 (by decide) ?_
    refine J_getR Y qX8_look_19 fX8_77 (by decide) ?_
    refine J_iload_1 Y qX8_look_22 ?_
    refine J_aaloadN (kx := s) Y qX8_look_23 rfl (fun _ => rfl) (by decide) rfl (by omega) (by decide) ?_
    refine J_astore_3 Y qX8_look_24 rfl ?_
    refine J_iload_2 Y qX8_look_25 ?_
    rcases (show b < 0 ∨ 8 < b ∨ b = 0 ∨ b = 1 ∨ b = 2 ∨ b = 3 ∨ b = 4 ∨ b = 5 ∨ b = 6 ∨ b = 7 ∨ b = 8 by omega) with hb | hb | rfl | rfl | rfl | rfl | rfl | rfl | rfl | rfl | rfl
    · refine J_tswOut (tg := 121) Y qX8_look_26 (by omega) (by omega) (Or.inl hb) (by decide) ?_
      refine J_aloadr_0 Y qX8_look_121 ?_
      refine J_bipush Y qX8_look_122 (by decide) ?_
      refine J_cV1F Y qX8_look_124 mX8_66 iyX8_refused (by decide) rfl (by decide) rfl (Nat.le_of_ble_eq_true rfl) (c_refused (w := 7) _ _ _ (by decide) (by decide)) ?_
      exact J_iret X qX8_look_127 (RF_i (by
        unfold f_look
        try simp only [Int.toNat_natCast, hk]
        repeat (first | rw [if_pos (by omega)] | rw [if_neg (by omega)])
        try rfl))
    · refine J_tswOut (tg := 121) Y qX8_look_26 (by omega) (by omega) (Or.inr hb) (by decide) ?_
      refine J_aloadr_0 Y qX8_look_121 ?_
      refine J_bipush Y qX8_look_122 (by decide) ?_
      refine J_cV1F Y qX8_look_124 mX8_66 iyX8_refused (by decide) rfl (by decide) rfl (Nat.le_of_ble_eq_true rfl) (c_refused (w := 7) _ _ _ (by decide) (by decide)) ?_
      exact J_iret X qX8_look_127 (RF_i (by
        unfold f_look
        try simp only [Int.toNat_natCast, hk]
        repeat (first | rw [if_pos (by omega)] | rw [if_neg (by omega)])
        try rfl))
    · refine J_tswIn (tg := 76) Y qX8_look_26 (by decide) (by decide) (by decide) (by decide) rfl (by decide) ?_
      refine J_aloadr_3 Y qX8_look_76 ?_
      refine J_getI Y qX8_look_77 fX8_105 (by show _ < 14; omega) ?_
      exact J_iret X qX8_look_80 (RF_i (by
        unfold f_look
        try simp only [Int.toNat_natCast, hk]
        repeat (first | rw [if_pos (by omega)] | rw [if_neg (by omega)])
        try rfl))
    · refine J_tswIn (tg := 81) Y qX8_look_26 (by decide) (by decide) (by decide) (by decide) rfl (by decide) ?_
      refine J_aloadr_3 Y qX8_look_81 ?_
      refine J_getI Y qX8_look_82 fX8_108 (by show _ < 14; omega) ?_
      exact J_iret X qX8_look_85 (RF_i (by
        unfold f_look
        try simp only [Int.toNat_natCast, hk]
        repeat (first | rw [if_pos (by omega)] | rw [if_neg (by omega)])
        try rfl))
    · refine J_tswIn (tg := 86) Y qX8_look_26 (by decide) (by decide) (by decide) (by decide) rfl (by decide) ?_
      refine J_aloadr_3 Y qX8_look_86 ?_
      refine J_getI Y qX8_look_87 fX8_87 (by show _ < 14; omega) ?_
      exact J_iret X qX8_look_90 (RF_i (by
        unfold f_look
        try simp only [Int.toNat_natCast, hk]
        repeat (first | rw [if_pos (by omega)] | rw [if_neg (by omega)])
        try rfl))
    · refine J_tswIn (tg := 91) Y qX8_look_26 (by decide) (by decide) (by decide) (by decide) rfl (by decide) ?_
      refine J_aloadr_3 Y qX8_look_91 ?_
      refine J_getI Y qX8_look_92 fX8_90 (by show _ < 14; omega) ?_
      exact J_iret X qX8_look_95 (RF_i (by
        unfold f_look
        try simp only [Int.toNat_natCast, hk]
        repeat (first | rw [if_pos (by omega)] | rw [if_neg (by omega)])
        try rfl))
    · refine J_tswIn (tg := 96) Y qX8_look_26 (by decide) (by decide) (by decide) (by decide) rfl (by decide) ?_
      refine J_aloadr_3 Y qX8_look_96 ?_
      refine J_getI Y qX8_look_97 fX8_111 (by show _ < 14; omega) ?_
      exact J_iret X qX8_look_100 (RF_i (by
        unfold f_look
        try simp only [Int.toNat_natCast, hk]
        repeat (first | rw [if_pos (by omega)] | rw [if_neg (by omega)])
        try rfl))
    · refine J_tswIn (tg := 101) Y qX8_look_26 (by decide) (by decide) (by decide) (by decide) rfl (by decide) ?_
      refine J_aloadr_3 Y qX8_look_101 ?_
      refine J_getI Y qX8_look_102 fX8_114 (by show _ < 14; omega) ?_
      exact J_iret X qX8_look_105 (RF_i (by
        unfold f_look
        try simp only [Int.toNat_natCast, hk]
        repeat (first | rw [if_pos (by omega)] | rw [if_neg (by omega)])
        try rfl))
    · refine J_tswIn (tg := 106) Y qX8_look_26 (by decide) (by decide) (by decide) (by decide) rfl (by decide) ?_
      refine J_aloadr_3 Y qX8_look_106 ?_
      refine J_getI Y qX8_look_107 fX8_117 (by show _ < 14; omega) ?_
      exact J_iret X qX8_look_110 (RF_i (by
        unfold f_look
        try simp only [Int.toNat_natCast, hk]
        repeat (first | rw [if_pos (by omega)] | rw [if_neg (by omega)])
        try rfl))
    · refine J_tswIn (tg := 111) Y qX8_look_26 (by decide) (by decide) (by decide) (by decide) rfl (by decide) ?_
      refine J_aloadr_3 Y qX8_look_111 ?_
      refine J_getI Y qX8_look_112 fX8_120 (by show _ < 14; omega) ?_
      exact J_iret X qX8_look_115 (RF_i (by
        unfold f_look
        try simp only [Int.toNat_natCast, hk]
        repeat (first | rw [if_pos (by omega)] | rw [if_neg (by omega)])
        try rfl))
    · refine J_tswIn (tg := 116) Y qX8_look_26 (by decide) (by decide) (by decide) (by decide) rfl (by decide) ?_
      refine J_aloadr_3 Y qX8_look_116 ?_
      refine J_cV0P Y qX8_look_117 mX8_123 iyX5_allDebts (by show _ < 14; omega) rfl (by decide) rfl (Nat.le_of_ble_eq_true rfl) (c_allDebts _ _ _ (by omega) hk (by omega)) ?_
      exact J_iret X qX8_look_120 (RF_i (by
        unfold f_look
        try simp only [Int.toNat_natCast, hk]
        repeat (first | rw [if_pos (by omega)] | rw [if_neg (by omega)])
        try rfl))

theorem k_has (l : Launch) (G : Gx) (M : Mem) {n : Nat} {a b c : Int} (a1 : -2147483648 ≤ a) (a2 : a < 2147483648) (b1 : -2147483648 ≤ b) (b2 : b < 2147483648) (c1 : -2147483648 ≤ c) (c2 : c < 2147483648) (hI : Inv n M) (hn : n < 512)  : Ct l G 4 yX8_has cX8_has 4 ((Option.some Jvm.ClassFile.FieldType.int)) [rf G 8 0, vi a, vi b, vi c] M (RF (f_has M a b c).1 (f_has M a b c).2) := by
  refine Ct.of rfl (Nat.le_of_ble_eq_true rfl) rfl (fun E X => ?_)
  have Y := X.ok
  obtain ⟨c1, c2⟩ := hI.count
  obtain ⟨d1, d2⟩ := hI.day
  refine J_aloadr_0 Y qX8_has_0 ?_
  refine J_iload_1 Y qX8_has_1 ?_
  refine J_cV1B Y qX8_has_2 mX8_101 iyX8_isNoShop (by decide) rfl (by decide) rfl (Nat.le_of_ble_eq_true rfl) (c_isNoShop _ _ _ (by omega) (by omega) (by omega) (by omega)) (fun h2 => ?_) (fun h2 => ?_)
  · refine J_ne1 Y qX8_has_5 ?_
    refine J_aloadr_0 Y qX8_has_15 ?_
    refine J_bipush Y qX8_has_16 (by decide) ?_
    refine J_cV1F Y qX8_has_18 mX8_66 iyX8_refused (by decide) rfl (by decide) rfl (Nat.le_of_ble_eq_true rfl) (c_refused (w := 3) _ _ _ (by decide) (by decide)) ?_
    exact J_iret X qX8_has_21 (RF_i (by
      unfold f_has
      try simp only [Int.toNat_natCast]
      repeat (first | rw [if_pos (by omega)] | rw [if_neg (by omega)])
      try rfl))
  · refine J_ne0 Y qX8_has_5 ?_
    refine J_iload_3 Y qX8_has_8 ?_
    refine J_cS1B Y qX8_has_9 mX8_127 iyX8_isNoPerson rfl (by decide) rfl (Nat.le_of_ble_eq_true rfl) (c_isNoPerson _ _ _ (by omega) (by omega)) (fun h9 => ?_) (fun h9 => ?_)
    · refine J_eq1 Y qX8_has_12 ?_
      refine J_aloadr_0 Y qX8_has_15 ?_
      refine J_bipush Y qX8_has_16 (by decide) ?_
      refine J_cV1F Y qX8_has_18 mX8_66 iyX8_refused (by decide) rfl (by decide) rfl (Nat.le_of_ble_eq_true rfl) (c_refused (w := 3) _ _ _ (by decide) (by decide)) ?_
      exact J_iret X qX8_has_21 (RF_i (by
        unfold f_has
        try simp only [Int.toNat_natCast]
        repeat (first | rw [if_pos (by omega)] | rw [if_neg (by omega)])
        try rfl))
    · refine J_eq0 Y qX8_has_12 ?_
      refine J_iload_2 Y qX8_has_22 ?_
      refine J_cS1B Y qX8_has_23 mX8_130 iyX8_isNoKind rfl (by decide) rfl (Nat.le_of_ble_eq_true rfl) (c_isNoKind _ _ _ (by omega) (by omega)) (fun h23 => ?_) (fun h23 => ?_)
      · refine J_eq1 Y qX8_has_26 ?_
        refine J_aloadr_0 Y qX8_has_29 ?_
        refine J_bipush Y qX8_has_30 (by decide) ?_
        refine J_cV1F Y qX8_has_32 mX8_66 iyX8_refused (by decide) rfl (by decide) rfl (Nat.le_of_ble_eq_true rfl) (c_refused (w := 5) _ _ _ (by decide) (by decide)) ?_
        exact J_iret X qX8_has_35 (RF_i (by
          unfold f_has
          try simp only [Int.toNat_natCast]
          repeat (first | rw [if_pos (by omega)] | rw [if_neg (by omega)])
          try rfl))
      · refine J_eq0 Y qX8_has_26 ?_
        obtain ⟨s, rfl⟩ := nat_of (show 0 ≤ a by omega)
        obtain ⟨p, rfl⟩ := nat_of (show 0 ≤ c by omega)
        refine J_aloadr_0 Y qX8_has_36 ?_
        refine J_getR Y qX8_has_37 fX8_10 (by decide) ?_
        refine J_getR Y qX8_has_40 fX8_77 (by decide) ?_
        refine J_iload_1 Y qX8_has_43 ?_
        refine J_aaloadN (kx := s) Y qX8_has_44 rfl (fun _ => rfl) (by decide) rfl (by omega) (by decide) ?_
        refine J_iload_2 Y qX8_has_45 ?_
        rcases (show b = 0 ∨ b = 1 by omega) with rfl | rfl
        · refine J_cV1R Y qX8_has_46 mX8_133 iyX5_partsOf (by show _ < 14; omega) rfl (by decide) rfl (Nat.le_of_ble_eq_true rfl) (c_partsOf0 _ _ _ (by omega)) ?_
          refine J_iload_3 Y qX8_has_49 ?_
          refine J_ialoadN (kx := p) Y qX8_has_50 rfl (by show _ < 14; omega) rfl (by omega) (by decide) ?_
          exact J_iret X qX8_has_51 (RF_i (by
            unfold f_has
            try simp only [Int.toNat_natCast]
            repeat (first | rw [if_pos (by omega)] | rw [if_neg (by omega)])
            try rfl))
        · refine J_cV1R Y qX8_has_46 mX8_133 iyX5_partsOf (by show _ < 14; omega) rfl (by decide) rfl (Nat.le_of_ble_eq_true rfl) (c_partsOf1 _ _ _ (by omega)) ?_
          refine J_iload_3 Y qX8_has_49 ?_
          refine J_ialoadN (kx := p) Y qX8_has_50 rfl (by show _ < 14; omega) rfl (by omega) (by decide) ?_
          exact J_iret X qX8_has_51 (RF_i (by
            unfold f_has
            try simp only [Int.toNat_natCast]
            repeat (first | rw [if_pos (by omega)] | rw [if_neg (by omega)])
            try rfl))

theorem k_sale (l : Launch) (G : Gx) (M : Mem) {n : Nat} {a b c : Int} (a1 : -2147483648 ≤ a) (a2 : a < 2147483648) (b1 : -2147483648 ≤ b) (b2 : b < 2147483648) (c1 : -2147483648 ≤ c) (c2 : c < 2147483648) (hI : Inv n M) (hn : n < 512)  : Ct l G 4 yX8_sale cX8_sale 10 ((Option.some Jvm.ClassFile.FieldType.int)) [rf G 8 0, vi a, vi b, vi c] M (RF (f_sale M a b c).1 (f_sale M a b c).2) := by
  refine Ct.of rfl (Nat.le_of_ble_eq_true rfl) rfl (fun E X => ?_)
  have Y := X.ok
  obtain ⟨c1, c2⟩ := hI.count
  obtain ⟨d1, d2⟩ := hI.day
  rcases Int.lt_or_le a 0 with hneg | hpos
  · refine J_iload_1 Y qX8_sale_0 ?_
    refine J_bipush Y qX8_sale_1 (by decide) ?_
    refine J_iremT Y qX8_sale_3 (by omega) (by omega) (by omega) (by omega) (by omega) ?_
    refine J_istore_4 Y qX8_sale_4 rfl ?_
    refine J_iload_1 Y qX8_sale_6 ?_
    refine J_bipush Y qX8_sale_7 (by decide) ?_
    refine J_idivT Y qX8_sale_9 (by omega) (by omega) (by omega) (by omega) (by omega) ?_
    refine J_istore_5 Y qX8_sale_10 rfl ?_
    refine J_iload_1 Y qX8_sale_12 ?_
    refine J_if_lt Y qX8_sale_13 (by omega) (by omega) (fun h13 => ?_) (fun h13 => ?_)
    · refine J_aloadr_0 Y qX8_sale_32 ?_
      refine J_bipush Y qX8_sale_33 (by decide) ?_
      refine J_cV1F Y qX8_sale_35 mX8_66 iyX8_refused (by decide) rfl (by decide) rfl (Nat.le_of_ble_eq_true rfl) (c_refused (w := 3) _ _ _ (by decide) (by decide)) ?_
      exact J_iret X qX8_sale_38 (RF_i (by
        unfold f_sale
        try simp only [Int.toNat_natCast]
        repeat (first | rw [if_pos (by omega)] | rw [if_neg (by omega)])
        try (first | rfl | (simp only [hs, hg, ht, hk, Int.toNat_natCast]; rfl))))
    · exfalso; omega
  · refine J_iload_1 Y qX8_sale_0 ?_
    refine J_bipush Y qX8_sale_1 (by decide) ?_
    refine J_irem Y qX8_sale_3 (by omega) (by omega) (by omega) (by omega) ?_
    refine J_istore_4 Y qX8_sale_4 rfl ?_
    refine J_iload_1 Y qX8_sale_6 ?_
    refine J_bipush Y qX8_sale_7 (by decide) ?_
    refine J_idiv Y qX8_sale_9 (by omega) (by omega) (by omega) (by omega) ?_
    refine J_istore_5 Y qX8_sale_10 rfl ?_
    refine J_iload_1 Y qX8_sale_12 ?_
    refine J_if_lt Y qX8_sale_13 (by omega) (by omega) (fun h13 => ?_) (fun h13 => ?_)
    · exfalso; omega
    · refine J_aloadr_0 Y qX8_sale_16 ?_
      refine J_iload_4 Y qX8_sale_17 ?_
      refine J_cV1B Y qX8_sale_19 mX8_101 iyX8_isNoShop (by decide) rfl (by decide) rfl (Nat.le_of_ble_eq_true rfl) (c_isNoShop _ _ _ (by omega) (by omega) (by omega) (by omega)) (fun h19 => ?_) (fun h19 => ?_)
      · refine J_ne1 Y qX8_sale_22 ?_
        refine J_aloadr_0 Y qX8_sale_32 ?_
        refine J_bipush Y qX8_sale_33 (by decide) ?_
        refine J_cV1F Y qX8_sale_35 mX8_66 iyX8_refused (by decide) rfl (by decide) rfl (Nat.le_of_ble_eq_true rfl) (c_refused (w := 3) _ _ _ (by decide) (by decide)) ?_
        exact J_iret X qX8_sale_38 (RF_i (by
          unfold f_sale
          try simp only [Int.toNat_natCast]
          repeat (first | rw [if_pos (by omega)] | rw [if_neg (by omega)])
          try (first | rfl | (simp only [hs, hg, ht, hk, Int.toNat_natCast]; rfl))))
      · refine J_ne0 Y qX8_sale_22 ?_
        refine J_iload_2 Y qX8_sale_25 ?_
        refine J_cS1B Y qX8_sale_26 mX8_137 iyX8_isNoPair rfl (by decide) rfl (Nat.le_of_ble_eq_true rfl) (c_isNoPair _ _ _ (by omega) (by omega)) (fun h26 => ?_) (fun h26 => ?_)
        · refine J_eq1 Y qX8_sale_29 ?_
          refine J_aloadr_0 Y qX8_sale_32 ?_
          refine J_bipush Y qX8_sale_33 (by decide) ?_
          refine J_cV1F Y qX8_sale_35 mX8_66 iyX8_refused (by decide) rfl (by decide) rfl (Nat.le_of_ble_eq_true rfl) (c_refused (w := 3) _ _ _ (by decide) (by decide)) ?_
          exact J_iret X qX8_sale_38 (RF_i (by
            unfold f_sale
            try simp only [Int.toNat_natCast]
            repeat (first | rw [if_pos (by omega)] | rw [if_neg (by omega)])
            try (first | rfl | (simp only [hs, hg, ht, hk, Int.toNat_natCast]; rfl))))
        · refine J_eq0 Y qX8_sale_29 ?_
          refine J_iload_5 Y qX8_sale_39 ?_
          refine J_cS1B Y qX8_sale_41 mX8_130 iyX8_isNoKind rfl (by decide) rfl (Nat.le_of_ble_eq_true rfl) (c_isNoKind _ _ _ (by omega) (by omega)) (fun h41 => ?_) (fun h41 => ?_)
          · refine J_eq1 Y qX8_sale_44 ?_
            refine J_aloadr_0 Y qX8_sale_47 ?_
            refine J_bipush Y qX8_sale_48 (by decide) ?_
            refine J_cV1F Y qX8_sale_50 mX8_66 iyX8_refused (by decide) rfl (by decide) rfl (Nat.le_of_ble_eq_true rfl) (c_refused (w := 5) _ _ _ (by decide) (by decide)) ?_
            exact J_iret X qX8_sale_53 (RF_i (by
              unfold f_sale
              try simp only [Int.toNat_natCast]
              repeat (first | rw [if_pos (by omega)] | rw [if_neg (by omega)])
              try (first | rfl | (simp only [hs, hg, ht, hk, Int.toNat_natCast]; rfl))))
          · refine J_eq0 Y qX8_sale_44 ?_
            refine J_iload_2 Y qX8_sale_54 ?_
            refine J_bipush Y qX8_sale_55 (by decide) ?_
            refine J_idiv Y qX8_sale_57 (by omega) (by omega) (by omega) (by omega) ?_
            refine J_istore_6 Y qX8_sale_58 rfl ?_
            refine J_iload_2 Y qX8_sale_60 ?_
            refine J_bipush Y qX8_sale_61 (by decide) ?_
            refine J_irem Y qX8_sale_63 (by omega) (by omega) (by omega) (by omega) ?_
            refine J_istore_7 Y qX8_sale_64 rfl ?_
            refine J_iload_3 Y qX8_sale_66 ?_
            refine J_iconst Y qX8_sale_67 ?_
            refine J_sipush Y qX8_sale_68 (by decide) ?_
            refine J_cS3B Y qX8_sale_71 mX8_70 iyX8_isOutside rfl (by decide) rfl (Nat.le_of_ble_eq_true rfl) (c_isOutside _ _ _ (by omega) (by omega) (by omega) (by omega) (by omega) (by omega)) (fun h71 => ?_) (fun h71 => ?_)
            · refine J_ne1 Y qX8_sale_74 ?_
              refine J_aloadr_0 Y qX8_sale_84 ?_
              refine J_bipush Y qX8_sale_85 (by decide) ?_
              refine J_cV1F Y qX8_sale_87 mX8_66 iyX8_refused (by decide) rfl (by decide) rfl (Nat.le_of_ble_eq_true rfl) (c_refused (w := 7) _ _ _ (by decide) (by decide)) ?_
              exact J_iret X qX8_sale_90 (RF_i (by
                unfold f_sale
                try simp only [Int.toNat_natCast]
                repeat (first | rw [if_pos (by omega)] | rw [if_neg (by omega)])
                try (first | rfl | (simp only [hs, hg, ht, hk, Int.toNat_natCast]; rfl))))
            · refine J_ne0 Y qX8_sale_74 ?_
              refine J_iload_6 Y qX8_sale_77 ?_
              refine J_iload_7 Y qX8_sale_79 ?_
              refine J_icmp_ne Y qX8_sale_81 (by omega) (by omega) (by omega) (by omega) (fun h81 => ?_) (fun h81 => ?_)
              · obtain ⟨s, hs⟩ := nat_of (show 0 ≤ a % 100 by omega)
                obtain ⟨g, hg⟩ := nat_of (show 0 ≤ b / 10 by omega)
                obtain ⟨t, ht⟩ := nat_of (show 0 ≤ b % 10 by omega)
                rw [hs, hg, ht]
                refine J_aloadr_0 Y qX8_sale_91 ?_
                refine J_getR Y qX8_sale_92 fX8_10 (by decide) ?_
                refine J_getR Y qX8_sale_95 fX8_77 (by decide) ?_
                refine J_iload_4 Y qX8_sale_98 ?_
                refine J_aaloadN (kx := s) Y qX8_sale_100 rfl (fun _ => rfl) (by decide) rfl (by omega) (by decide) ?_
                refine J_iload_5 Y qX8_sale_101 ?_
                rcases (show a / 100 = 0 ∨ a / 100 = 1 by omega) with hk | hk
                · rw [hk]
                  refine J_cV1R Y qX8_sale_103 mX8_133 iyX5_partsOf (by show _ < 14; omega) rfl (by decide) rfl (Nat.le_of_ble_eq_true rfl) (c_partsOf0 _ _ _ (by omega)) ?_
                  refine J_astore_8 Y qX8_sale_106 rfl ?_
                  refine J_iload_3 Y qX8_sale_108 ?_
                  refine J_aloadr_8 Y qX8_sale_109 ?_
                  refine J_iload_6 Y qX8_sale_111 ?_
                  refine J_ialoadN (kx := g) Y qX8_sale_113 rfl (by show _ < 14; omega) rfl (by omega) (by decide) ?_
                  have pr := hI.part (s := s) (p := g) (by omega) (by omega)
                  refine J_min Y qX8_sale_114 mX8_140 pmX8_140 iyJ9_min_7cf53 rfl (by omega) (Nat.le_of_ble_eq_true rfl) (by omega) (by omega) (by omega) (by omega) ?_
                  refine J_istore_9 Y qX8_sale_117 rfl ?_
                  refine J_aloadr_8 Y qX8_sale_119 ?_
                  refine J_iload_6 Y qX8_sale_121 ?_
                  refine J_dup2 Y qX8_sale_123 rfl rfl ?_
                  refine J_ialoadN (kx := g) Y qX8_sale_124 rfl (by show _ < 14; omega) rfl (by omega) (by decide) ?_
                  refine J_iload_9 Y qX8_sale_125 ?_
                  refine J_isub Y qX8_sale_127 ?_
                  refine J_iastoreN (kx := g) Y qX8_sale_128 rfl (by show _ < 14; omega) rfl (by omega) (by decide) ?_
                  refine J_aloadr_8 Y qX8_sale_129 ?_
                  refine J_iload_7 Y qX8_sale_131 ?_
                  refine J_dup2 Y qX8_sale_133 rfl rfl ?_
                  refine J_ialoadN (kx := t) Y qX8_sale_134 rfl (by show _ < 14; omega) rfl (by omega) (by decide) ?_
                  rw [show up M 25 s g (M 25 s g - min c (M 25 s g)) 25 s t = M 25 s t from up_ne (by omega)]
                  refine J_iload_9 Y qX8_sale_135 ?_
                  refine J_iadd Y qX8_sale_137 ?_
                  refine J_iastoreN (kx := t) Y qX8_sale_138 rfl (by show _ < 14; omega) rfl (by omega) (by decide) ?_
                  refine J_iload_9 Y qX8_sale_139 ?_
                  exact J_iret X qX8_sale_141 (RF_i (by
                    unfold f_sale
                    try simp only [Int.toNat_natCast]
                    repeat (first | rw [if_pos (by omega)] | rw [if_neg (by omega)])
                    try (first | rfl | (simp only [hs, hg, ht, hk, Int.toNat_natCast]; rfl))))
                · rw [hk]
                  refine J_cV1R Y qX8_sale_103 mX8_133 iyX5_partsOf (by show _ < 14; omega) rfl (by decide) rfl (Nat.le_of_ble_eq_true rfl) (c_partsOf1 _ _ _ (by omega)) ?_
                  refine J_astore_8 Y qX8_sale_106 rfl ?_
                  refine J_iload_3 Y qX8_sale_108 ?_
                  refine J_aloadr_8 Y qX8_sale_109 ?_
                  refine J_iload_6 Y qX8_sale_111 ?_
                  refine J_ialoadN (kx := g) Y qX8_sale_113 rfl (by show _ < 14; omega) rfl (by omega) (by decide) ?_
                  have pr := hI.part (s := s) (p := g) (by omega) (by omega)
                  refine J_min Y qX8_sale_114 mX8_140 pmX8_140 iyJ9_min_7cf53 rfl (by omega) (Nat.le_of_ble_eq_true rfl) (by omega) (by omega) (by omega) (by omega) ?_
                  refine J_istore_9 Y qX8_sale_117 rfl ?_
                  refine J_aloadr_8 Y qX8_sale_119 ?_
                  refine J_iload_6 Y qX8_sale_121 ?_
                  refine J_dup2 Y qX8_sale_123 rfl rfl ?_
                  refine J_ialoadN (kx := g) Y qX8_sale_124 rfl (by show _ < 14; omega) rfl (by omega) (by decide) ?_
                  refine J_iload_9 Y qX8_sale_125 ?_
                  refine J_isub Y qX8_sale_127 ?_
                  refine J_iastoreN (kx := g) Y qX8_sale_128 rfl (by show _ < 14; omega) rfl (by omega) (by decide) ?_
                  refine J_aloadr_8 Y qX8_sale_129 ?_
                  refine J_iload_7 Y qX8_sale_131 ?_
                  refine J_dup2 Y qX8_sale_133 rfl rfl ?_
                  refine J_ialoadN (kx := t) Y qX8_sale_134 rfl (by show _ < 14; omega) rfl (by omega) (by decide) ?_
                  rw [show up M 26 s g (M 26 s g - min c (M 26 s g)) 26 s t = M 26 s t from up_ne (by omega)]
                  refine J_iload_9 Y qX8_sale_135 ?_
                  refine J_iadd Y qX8_sale_137 ?_
                  refine J_iastoreN (kx := t) Y qX8_sale_138 rfl (by show _ < 14; omega) rfl (by omega) (by decide) ?_
                  refine J_iload_9 Y qX8_sale_139 ?_
                  exact J_iret X qX8_sale_141 (RF_i (by
                    unfold f_sale
                    try simp only [Int.toNat_natCast]
                    repeat (first | rw [if_pos (by omega)] | rw [if_neg (by omega)])
                    try (first | rfl | (simp only [hs, hg, ht, hk, Int.toNat_natCast]; rfl))))
              · refine J_aloadr_0 Y qX8_sale_84 ?_
                refine J_bipush Y qX8_sale_85 (by decide) ?_
                refine J_cV1F Y qX8_sale_87 mX8_66 iyX8_refused (by decide) rfl (by decide) rfl (Nat.le_of_ble_eq_true rfl) (c_refused (w := 7) _ _ _ (by decide) (by decide)) ?_
                exact J_iret X qX8_sale_90 (RF_i (by
                  unfold f_sale
                  try simp only [Int.toNat_natCast]
                  repeat (first | rw [if_pos (by omega)] | rw [if_neg (by omega)])
                  try (first | rfl | (simp only [hs, hg, ht, hk, Int.toNat_natCast]; rfl))))

theorem k_heir (l : Launch) (G : Gx) (M : Mem) {n : Nat} {a b c : Int} (a1 : -2147483648 ≤ a) (a2 : a < 2147483648) (b1 : -2147483648 ≤ b) (b2 : b < 2147483648) (c1 : -2147483648 ≤ c) (c2 : c < 2147483648) (hI : Inv n M) (hn : n < 512)  : Ct l G 4 yX8_heir cX8_heir 5 ((Option.some Jvm.ClassFile.FieldType.int)) [rf G 8 0, vi a, vi b, vi c] M (RF (f_heir M a b c).1 (f_heir M a b c).2) := by
  refine Ct.of rfl (Nat.le_of_ble_eq_true rfl) rfl (fun E X => ?_)
  have Y := X.ok
  obtain ⟨c1, c2⟩ := hI.count
  obtain ⟨d1, d2⟩ := hI.day
  refine J_iload_1 Y qX8_heir_0 ?_
  refine J_cS1B Y qX8_heir_1 mX8_127 iyX8_isNoPerson rfl (by decide) rfl (Nat.le_of_ble_eq_true rfl) (c_isNoPerson _ _ _ (by omega) (by omega)) (fun h1 => ?_) (fun h1 => ?_)
  · refine J_ne1 Y qX8_heir_4 ?_
    refine J_aloadr_0 Y qX8_heir_14 ?_
    refine J_bipush Y qX8_heir_15 (by decide) ?_
    refine J_cV1F Y qX8_heir_17 mX8_66 iyX8_refused (by decide) rfl (by decide) rfl (Nat.le_of_ble_eq_true rfl) (c_refused (w := 3) _ _ _ (by decide) (by decide)) ?_
    exact J_iret X qX8_heir_20 (RF_i (by
      unfold f_heir
      try simp only [Int.toNat_natCast, hk]
      repeat (first | rw [if_pos (by omega)] | rw [if_neg (by omega)] | rw [if_pos (hq.mpr h47)] | rw [if_neg (fun z => h47 (hq.mp z))])
      try rfl))
  · refine J_ne0 Y qX8_heir_4 ?_
    refine J_iload_2 Y qX8_heir_7 ?_
    refine J_cS1B Y qX8_heir_8 mX8_127 iyX8_isNoPerson rfl (by decide) rfl (Nat.le_of_ble_eq_true rfl) (c_isNoPerson _ _ _ (by omega) (by omega)) (fun h8 => ?_) (fun h8 => ?_)
    · refine J_eq1 Y qX8_heir_11 ?_
      refine J_aloadr_0 Y qX8_heir_14 ?_
      refine J_bipush Y qX8_heir_15 (by decide) ?_
      refine J_cV1F Y qX8_heir_17 mX8_66 iyX8_refused (by decide) rfl (by decide) rfl (Nat.le_of_ble_eq_true rfl) (c_refused (w := 3) _ _ _ (by decide) (by decide)) ?_
      exact J_iret X qX8_heir_20 (RF_i (by
        unfold f_heir
        try simp only [Int.toNat_natCast, hk]
        repeat (first | rw [if_pos (by omega)] | rw [if_neg (by omega)] | rw [if_pos (hq.mpr h47)] | rw [if_neg (fun z => h47 (hq.mp z))])
        try rfl))
    · refine J_eq0 Y qX8_heir_11 ?_
      obtain ⟨p, rfl⟩ := nat_of (show 0 ≤ a by omega)
      obtain ⟨q1, q2, q3⟩ := hI.heirs (p := p) (by omega)
      obtain ⟨k, hk⟩ := nat_of q1
      refine J_aloadr_0 Y qX8_heir_21 ?_
      refine J_getR Y qX8_heir_22 fX8_18 (by decide) ?_
      refine J_iload_1 Y qX8_heir_25 ?_
      refine J_aaloadN (kx := p) Y qX8_heir_26 rfl (fun _ => rfl) (by decide) rfl (by omega) (by decide) ?_
      refine J_astore_4 Y qX8_heir_27 rfl ?_
      refine J_iload_3 Y qX8_heir_29 ?_
      refine J_iconst Y qX8_heir_30 ?_
      refine J_bipush Y qX8_heir_31 (by decide) ?_
      refine J_cS3B Y qX8_heir_33 mX8_70 iyX8_isOutside rfl (by decide) rfl (Nat.le_of_ble_eq_true rfl) (c_isOutside _ _ _ (by omega) (by omega) (by omega) (by omega) (by omega) (by omega)) (fun h33 => ?_) (fun h33 => ?_)
      · refine J_ne1 Y qX8_heir_36 ?_
        refine J_aloadr_0 Y qX8_heir_53 ?_
        refine J_bipush Y qX8_heir_54 (by decide) ?_
        refine J_cV1F Y qX8_heir_56 mX8_66 iyX8_refused (by decide) rfl (by decide) rfl (Nat.le_of_ble_eq_true rfl) (c_refused (w := 7) _ _ _ (by decide) (by decide)) ?_
        exact J_iret X qX8_heir_59 (RF_i (by
          unfold f_heir
          try simp only [Int.toNat_natCast, hk]
          repeat (first | rw [if_pos (by omega)] | rw [if_neg (by omega)] | rw [if_pos (hq.mpr h47)] | rw [if_neg (fun z => h47 (hq.mp z))])
          try rfl))
      · refine J_ne0 Y qX8_heir_36 ?_
        refine J_iload_2 Y qX8_heir_39 ?_
        refine J_iload_1 Y qX8_heir_40 ?_
        refine J_icmp_eq Y qX8_heir_41 (by omega) (by omega) (by omega) (by omega) (fun h41 => ?_) (fun h41 => ?_)
        · refine J_aloadr_0 Y qX8_heir_53 ?_
          refine J_bipush Y qX8_heir_54 (by decide) ?_
          refine J_cV1F Y qX8_heir_56 mX8_66 iyX8_refused (by decide) rfl (by decide) rfl (Nat.le_of_ble_eq_true rfl) (c_refused (w := 7) _ _ _ (by decide) (by decide)) ?_
          exact J_iret X qX8_heir_59 (RF_i (by
            unfold f_heir
            try simp only [Int.toNat_natCast, hk]
            repeat (first | rw [if_pos (by omega)] | rw [if_neg (by omega)] | rw [if_pos (hq.mpr h47)] | rw [if_neg (fun z => h47 (hq.mp z))])
            try rfl))
        · refine J_aloadr_4 Y qX8_heir_44 ?_
          refine J_iload_2 Y qX8_heir_46 ?_
          refine J_cV1B Y qX8_heir_47 mX8_146 iyX7_names (by show _ < 10; omega) rfl (by decide) rfl (Nat.le_of_ble_eq_true rfl) (c_names _ _ _ (by omega) hk (by omega) (fun j hj => by have := q3 j (by omega); exact this.1) (by omega) (by omega)) (fun h47 => ?_) (fun h47 => ?_)
          · have hq := (isAm_iff (g := M 30 p) (h := b) k)
            refine J_eq1 Y qX8_heir_50 ?_
            refine J_aloadr_0 Y qX8_heir_53 ?_
            refine J_bipush Y qX8_heir_54 (by decide) ?_
            refine J_cV1F Y qX8_heir_56 mX8_66 iyX8_refused (by decide) rfl (by decide) rfl (Nat.le_of_ble_eq_true rfl) (c_refused (w := 7) _ _ _ (by decide) (by decide)) ?_
            exact J_iret X qX8_heir_59 (RF_i (by
              unfold f_heir
              try simp only [Int.toNat_natCast, hk]
              repeat (first | rw [if_pos (by omega)] | rw [if_neg (by omega)] | rw [if_pos (hq.mpr h47)] | rw [if_neg (fun z => h47 (hq.mp z))])
              try rfl))
          · have hq := (isAm_iff (g := M 30 p) (h := b) k)
            refine J_eq0 Y qX8_heir_50 ?_
            refine J_aloadr_4 Y qX8_heir_60 ?_
            refine J_getI Y qX8_heir_62 fX8_149 (by show _ < 10; omega) ?_
            refine J_iconst Y qX8_heir_65 ?_
            refine J_icmp_lt Y qX8_heir_66 (by omega) (by omega) (by omega) (by omega) (fun h66 => ?_) (fun h66 => ?_)
            · refine J_aloadr_4 Y qX8_heir_76 ?_
              refine J_iload_2 Y qX8_heir_78 ?_
              refine J_iload_3 Y qX8_heir_79 ?_
              refine J_cV2W Y qX8_heir_80 mX8_150 iyX7_add (by show _ < 10; omega) rfl (by decide) rfl (Nat.le_of_ble_eq_true rfl) (c_willAdd _ _ _ (by omega) hk (by omega)) ?_
              refine J_aloadr_4 Y qX8_heir_83 ?_
              refine J_getI Y qX8_heir_85 fX8_149 (by show _ < 10; omega) ?_
              rw [show addH M p k b c 7 p 2 = (k : Int) + 1 from by simp [addH, up]]
              exact J_iret X qX8_heir_88 (RF_i (by
                unfold f_heir
                try simp only [Int.toNat_natCast, hk]
                repeat (first | rw [if_pos (by omega)] | rw [if_neg (by omega)] | rw [if_pos (hq.mpr h47)] | rw [if_neg (fun z => h47 (hq.mp z))])
                try rfl))
            · refine J_aloadr_0 Y qX8_heir_69 ?_
              refine J_bipush Y qX8_heir_70 (by decide) ?_
              refine J_cV1F Y qX8_heir_72 mX8_66 iyX8_refused (by decide) rfl (by decide) rfl (Nat.le_of_ble_eq_true rfl) (c_refused (w := 8) _ _ _ (by decide) (by decide)) ?_
              exact J_iret X qX8_heir_75 (RF_i (by
                unfold f_heir
                try simp only [Int.toNat_natCast, hk]
                repeat (first | rw [if_pos (by omega)] | rw [if_neg (by omega)] | rw [if_pos (hq.mpr h47)] | rw [if_neg (fun z => h47 (hq.mp z))])
                try rfl))

theorem k_disown (l : Launch) (G : Gx) (M : Mem) {n : Nat} {a : Int} (a1 : -2147483648 ≤ a) (a2 : a < 2147483648) (hI : Inv n M) (hn : n < 512)  : Ct l G 4 yX8_disown cX8_disown 3 ((Option.some Jvm.ClassFile.FieldType.int)) [rf G 8 0, vi a] M (RF (f_disown M a).1 (f_disown M a).2) := by
  refine Ct.of rfl (Nat.le_of_ble_eq_true rfl) rfl (fun E X => ?_)
  have Y := X.ok
  obtain ⟨c1, c2⟩ := hI.count
  obtain ⟨d1, d2⟩ := hI.day
  refine J_iload_1 Y qX8_disown_0 ?_
  refine J_cS1B Y qX8_disown_1 mX8_127 iyX8_isNoPerson rfl (by decide) rfl (Nat.le_of_ble_eq_true rfl) (c_isNoPerson _ _ _ (by omega) (by omega)) (fun h1 => ?_) (fun h1 => ?_)
  · refine J_eq1 Y qX8_disown_4 ?_
    refine J_aloadr_0 Y qX8_disown_7 ?_
    refine J_bipush Y qX8_disown_8 (by decide) ?_
    refine J_cV1F Y qX8_disown_10 mX8_66 iyX8_refused (by decide) rfl (by decide) rfl (Nat.le_of_ble_eq_true rfl) (c_refused (w := 3) _ _ _ (by decide) (by decide)) ?_
    exact J_iret X qX8_disown_13 (RF_i (by
      unfold f_disown
      try simp only [Int.toNat_natCast]
      repeat (first | rw [if_pos (by omega)] | rw [if_neg (by omega)])
      try rfl))
  · refine J_eq0 Y qX8_disown_4 ?_
    obtain ⟨p, rfl⟩ := nat_of (show 0 ≤ a by omega)
    refine J_aloadr_0 Y qX8_disown_14 ?_
    refine J_getR Y qX8_disown_15 fX8_18 (by decide) ?_
    refine J_iload_1 Y qX8_disown_18 ?_
    refine J_aaloadN (kx := p) Y qX8_disown_19 rfl (fun _ => rfl) (by decide) rfl (by omega) (by decide) ?_
    refine J_getI Y qX8_disown_20 fX8_149 (by show _ < 10; omega) ?_
    refine J_istore_2 Y qX8_disown_23 rfl ?_
    refine J_aloadr_0 Y qX8_disown_24 ?_
    refine J_getR Y qX8_disown_25 fX8_18 (by decide) ?_
    refine J_iload_1 Y qX8_disown_28 ?_
    refine J_aaloadN (kx := p) Y qX8_disown_29 rfl (fun _ => rfl) (by decide) rfl (by omega) (by decide) ?_
    refine J_iconst Y qX8_disown_30 ?_
    refine J_putI Y qX8_disown_31 fX8_149w (by show _ < 10; omega) ?_
    refine J_iload_2 Y qX8_disown_34 ?_
    exact J_iret X qX8_disown_35 (RF_i (by
      unfold f_disown
      try simp only [Int.toNat_natCast]
      repeat (first | rw [if_pos (by omega)] | rw [if_neg (by omega)])
      try rfl))

theorem k_let (l : Launch) (G : Gx) (M : Mem) {n : Nat} {a b c e : Int} (a1 : -2147483648 ≤ a) (a2 : a < 2147483648) (b1 : -2147483648 ≤ b) (b2 : b < 2147483648) (c1 : -2147483648 ≤ c) (c2 : c < 2147483648) (e1 : -2147483648 ≤ e) (e2 : e < 2147483648) (hI : Inv n M) (hn : n < 512)  : Ct l G 4 yX8_let cX8_let 6 ((Option.some Jvm.ClassFile.FieldType.int)) [rf G 8 0, vi a, vi b, vi c, vi e] M (RF (f_let M a b c e).1 (f_let M a b c e).2) := by
  refine Ct.of rfl (Nat.le_of_ble_eq_true rfl) rfl (fun E X => ?_)
  have Y := X.ok
  obtain ⟨c1, c2⟩ := hI.count
  obtain ⟨d1, d2⟩ := hI.day
  refine J_aloadr_0 Y qX8_let_0 ?_
  refine J_iload_1 Y qX8_let_1 ?_
  refine J_cV1B Y qX8_let_2 mX8_101 iyX8_isNoShop (by decide) rfl (by decide) rfl (Nat.le_of_ble_eq_true rfl) (c_isNoShop _ _ _ (by omega) (by omega) (by omega) (by omega)) (fun h2 => ?_) (fun h2 => ?_)
  · refine J_ne1 Y qX8_let_5 ?_
    refine J_aloadr_0 Y qX8_let_15 ?_
    refine J_bipush Y qX8_let_16 (by decide) ?_
    refine J_cV1F Y qX8_let_18 mX8_66 iyX8_refused (by decide) rfl (by decide) rfl (Nat.le_of_ble_eq_true rfl) (c_refused (w := 3) _ _ _ (by decide) (by decide)) ?_
    exact J_iret X qX8_let_21 (RF_i (by
      unfold f_let
      try simp only [Int.toNat_natCast, hg]
      repeat (first | rw [if_pos (by omega)] | rw [if_neg (by omega)])
      try rfl))
  · refine J_ne0 Y qX8_let_5 ?_
    refine J_iload_2 Y qX8_let_8 ?_
    refine J_cS1B Y qX8_let_9 mX8_137 iyX8_isNoPair rfl (by decide) rfl (Nat.le_of_ble_eq_true rfl) (c_isNoPair _ _ _ (by omega) (by omega)) (fun h9 => ?_) (fun h9 => ?_)
    · refine J_eq1 Y qX8_let_12 ?_
      refine J_aloadr_0 Y qX8_let_15 ?_
      refine J_bipush Y qX8_let_16 (by decide) ?_
      refine J_cV1F Y qX8_let_18 mX8_66 iyX8_refused (by decide) rfl (by decide) rfl (Nat.le_of_ble_eq_true rfl) (c_refused (w := 3) _ _ _ (by decide) (by decide)) ?_
      exact J_iret X qX8_let_21 (RF_i (by
        unfold f_let
        try simp only [Int.toNat_natCast, hg]
        repeat (first | rw [if_pos (by omega)] | rw [if_neg (by omega)])
        try rfl))
    · refine J_eq0 Y qX8_let_12 ?_
      obtain ⟨s, rfl⟩ := nat_of (show 0 ≤ a by omega)
      obtain ⟨g, hg⟩ := nat_of (show 0 ≤ b / 10 by omega)
      obtain ⟨l1, l2, l3, l4⟩ := hI.lets (s := s) (by omega)
      have pr := hI.part (s := s) (p := g) (by omega) (by omega)
      refine J_aloadr_0 Y qX8_let_22 ?_
      refine J_getR Y qX8_let_23 fX8_10 (by decide) ?_
      refine J_getR Y qX8_let_26 fX8_77 (by decide) ?_
      refine J_iload_1 Y qX8_let_29 ?_
      refine J_aaloadN (kx := s) Y qX8_let_30 rfl (fun _ => rfl) (by decide) rfl (by omega) (by decide) ?_
      refine J_astore_5 Y qX8_let_31 rfl ?_
      refine J_iload_3 Y qX8_let_33 ?_
      refine J_aloadr_0 Y qX8_let_34 ?_
      refine J_getI Y qX8_let_35 fX8_61 (by decide) ?_
      refine J_ldc Y qX8_let_38 kX8_172 ?_
      refine J_cS3B Y qX8_let_40 mX8_70 iyX8_isOutside rfl (by decide) rfl (Nat.le_of_ble_eq_true rfl) (c_isOutside _ _ _ (by omega) (by omega) (by omega) (by omega) (by omega) (by omega)) (fun h40 => ?_) (fun h40 => ?_)
      · refine J_ne1 Y qX8_let_43 ?_
        refine J_aloadr_0 Y qX8_let_79 ?_
        refine J_bipush Y qX8_let_80 (by decide) ?_
        refine J_cV1F Y qX8_let_82 mX8_66 iyX8_refused (by decide) rfl (by decide) rfl (Nat.le_of_ble_eq_true rfl) (c_refused (w := 7) _ _ _ (by decide) (by decide)) ?_
        exact J_iret X qX8_let_85 (RF_i (by
          unfold f_let
          try simp only [Int.toNat_natCast, hg]
          repeat (first | rw [if_pos (by omega)] | rw [if_neg (by omega)])
          try rfl))
      · refine J_ne0 Y qX8_let_43 ?_
        refine J_iload_4 Y qX8_let_46 ?_
        refine J_iconst Y qX8_let_48 ?_
        refine J_sipush Y qX8_let_49 (by decide) ?_
        refine J_cS3B Y qX8_let_52 mX8_70 iyX8_isOutside rfl (by decide) rfl (Nat.le_of_ble_eq_true rfl) (c_isOutside _ _ _ (by omega) (by omega) (by omega) (by omega) (by omega) (by omega)) (fun h52 => ?_) (fun h52 => ?_)
        · refine J_ne1 Y qX8_let_55 ?_
          refine J_aloadr_0 Y qX8_let_79 ?_
          refine J_bipush Y qX8_let_80 (by decide) ?_
          refine J_cV1F Y qX8_let_82 mX8_66 iyX8_refused (by decide) rfl (by decide) rfl (Nat.le_of_ble_eq_true rfl) (c_refused (w := 7) _ _ _ (by decide) (by decide)) ?_
          exact J_iret X qX8_let_85 (RF_i (by
            unfold f_let
            try simp only [Int.toNat_natCast, hg]
            repeat (first | rw [if_pos (by omega)] | rw [if_neg (by omega)])
            try rfl))
        · refine J_ne0 Y qX8_let_55 ?_
          refine J_aloadr_5 Y qX8_let_58 ?_
          refine J_cV0B Y qX8_let_60 mX8_173 iyX5_isLet (by show _ < 14; omega) rfl (by decide) rfl (Nat.le_of_ble_eq_true rfl) (c_isLet _ _ _ (by omega) (by omega) (by omega)) (fun h60 => ?_) (fun h60 => ?_)
          · refine J_ne1 Y qX8_let_63 ?_
            refine J_aloadr_0 Y qX8_let_79 ?_
            refine J_bipush Y qX8_let_80 (by decide) ?_
            refine J_cV1F Y qX8_let_82 mX8_66 iyX8_refused (by decide) rfl (by decide) rfl (Nat.le_of_ble_eq_true rfl) (c_refused (w := 7) _ _ _ (by decide) (by decide)) ?_
            exact J_iret X qX8_let_85 (RF_i (by
              unfold f_let
              try simp only [Int.toNat_natCast, hg]
              repeat (first | rw [if_pos (by omega)] | rw [if_neg (by omega)])
              try rfl))
          · refine J_ne0 Y qX8_let_63 ?_
            refine J_aloadr_5 Y qX8_let_66 ?_
            refine J_getR Y qX8_let_68 fX8_160 (by show _ < 14; omega) ?_
            refine J_iload_2 Y qX8_let_71 ?_
            refine J_bipush Y qX8_let_72 (by decide) ?_
            refine J_idiv Y qX8_let_74 (by omega) (by omega) (by omega) (by omega) ?_
            rw [hg]
            refine J_ialoadN (kx := g) Y qX8_let_75 rfl (by show _ < 14; omega) rfl (by omega) (by decide) ?_
            refine J_if_ne Y qX8_let_76 (by omega) (by omega) (fun h76 => ?_) (fun h76 => ?_)
            · refine J_aloadr_5 Y qX8_let_86 ?_
              refine J_iload_2 Y qX8_let_88 ?_
              refine J_bipush Y qX8_let_89 (by decide) ?_
              refine J_irem Y qX8_let_91 (by omega) (by omega) (by omega) (by omega) ?_
              refine J_iload_3 Y qX8_let_92 ?_
              refine J_iload_4 Y qX8_let_93 ?_
              refine J_cV3W Y qX8_let_95 mX8_177 iyX5_beginLet (by show _ < 14; omega) rfl (by decide) rfl (Nat.le_of_ble_eq_true rfl) (c_beginLet _ _ _ (by omega)) ?_
              refine J_iconst Y qX8_let_98 ?_
              exact J_iret X qX8_let_99 (RF_i (by
                unfold f_let
                try simp only [Int.toNat_natCast, hg]
                repeat (first | rw [if_pos (by omega)] | rw [if_neg (by omega)])
                try rfl))
            · refine J_aloadr_0 Y qX8_let_79 ?_
              refine J_bipush Y qX8_let_80 (by decide) ?_
              refine J_cV1F Y qX8_let_82 mX8_66 iyX8_refused (by decide) rfl (by decide) rfl (Nat.le_of_ble_eq_true rfl) (c_refused (w := 7) _ _ _ (by decide) (by decide)) ?_
              exact J_iret X qX8_let_85 (RF_i (by
                unfold f_let
                try simp only [Int.toNat_natCast, hg]
                repeat (first | rw [if_pos (by omega)] | rw [if_neg (by omega)])
                try rfl))

theorem k_pawn (l : Launch) (G : Gx) (M : Mem) {n : Nat} {a b c : Int} (a1 : -2147483648 ≤ a) (a2 : a < 2147483648) (b1 : -2147483648 ≤ b) (b2 : b < 2147483648) (c1 : -2147483648 ≤ c) (c2 : c < 2147483648) (hI : Inv n M) (hn : n < 512)  : Ct l G 4 yX8_pawn cX8_pawn 5 ((Option.some Jvm.ClassFile.FieldType.int)) [rf G 8 0, vi a, vi b, vi c] M (RF (f_pawn M a b c).1 (f_pawn M a b c).2) := by
  refine Ct.of rfl (Nat.le_of_ble_eq_true rfl) rfl (fun E X => ?_)
  have Y := X.ok
  obtain ⟨c1, c2⟩ := hI.count
  obtain ⟨d1, d2⟩ := hI.day
  refine J_aloadr_0 Y qX8_pawn_0 ?_
  refine J_iload_1 Y qX8_pawn_1 ?_
  refine J_cV1B Y qX8_pawn_2 mX8_101 iyX8_isNoShop (by decide) rfl (by decide) rfl (Nat.le_of_ble_eq_true rfl) (c_isNoShop _ _ _ (by omega) (by omega) (by omega) (by omega)) (fun h2 => ?_) (fun h2 => ?_)
  · refine J_ne1 Y qX8_pawn_5 ?_
    refine J_aloadr_0 Y qX8_pawn_15 ?_
    refine J_bipush Y qX8_pawn_16 (by decide) ?_
    refine J_cV1F Y qX8_pawn_18 mX8_66 iyX8_refused (by decide) rfl (by decide) rfl (Nat.le_of_ble_eq_true rfl) (c_refused (w := 3) _ _ _ (by decide) (by decide)) ?_
    exact J_iret X qX8_pawn_21 (RF_i (by
      unfold f_pawn
      try simp only [Int.toNat_natCast, hk]
      repeat (first | rw [if_pos (by omega)] | rw [if_neg (by omega)])
      try rfl))
  · refine J_ne0 Y qX8_pawn_5 ?_
    refine J_iload_2 Y qX8_pawn_8 ?_
    refine J_cS1B Y qX8_pawn_9 mX8_127 iyX8_isNoPerson rfl (by decide) rfl (Nat.le_of_ble_eq_true rfl) (c_isNoPerson _ _ _ (by omega) (by omega)) (fun h9 => ?_) (fun h9 => ?_)
    · refine J_eq1 Y qX8_pawn_12 ?_
      refine J_aloadr_0 Y qX8_pawn_15 ?_
      refine J_bipush Y qX8_pawn_16 (by decide) ?_
      refine J_cV1F Y qX8_pawn_18 mX8_66 iyX8_refused (by decide) rfl (by decide) rfl (Nat.le_of_ble_eq_true rfl) (c_refused (w := 3) _ _ _ (by decide) (by decide)) ?_
      exact J_iret X qX8_pawn_21 (RF_i (by
        unfold f_pawn
        try simp only [Int.toNat_natCast, hk]
        repeat (first | rw [if_pos (by omega)] | rw [if_neg (by omega)])
        try rfl))
    · refine J_eq0 Y qX8_pawn_12 ?_
      obtain ⟨s, rfl⟩ := nat_of (show 0 ≤ a by omega)
      obtain ⟨p1, p2, p3⟩ := hI.pawns (s := s) (by omega)
      obtain ⟨k, hk⟩ := nat_of p1
      obtain ⟨e1, e2, ⟨e3, e4⟩, e5⟩ := hI.shopS (s := s) (by omega)
      have sb := sumN_le (g := M 28 s) (c := 9999) k (fun i hi => (p3 i (by omega)).2.2)
      have sg := sumN_ge (g := M 28 s) (c := 1) k (fun i hi => (p3 i (by omega)).2.1)
      refine J_aloadr_0 Y qX8_pawn_22 ?_
      refine J_getR Y qX8_pawn_23 fX8_10 (by decide) ?_
      refine J_getR Y qX8_pawn_26 fX8_77 (by decide) ?_
      refine J_iload_1 Y qX8_pawn_29 ?_
      refine J_aaloadN (kx := s) Y qX8_pawn_30 rfl (fun _ => rfl) (by decide) rfl (by omega) (by decide) ?_
      refine J_astore_4 Y qX8_pawn_31 rfl ?_
      refine J_iload_3 Y qX8_pawn_33 ?_
      refine J_iconst Y qX8_pawn_34 ?_
      refine J_sipush Y qX8_pawn_35 (by decide) ?_
      refine J_cS3B Y qX8_pawn_38 mX8_70 iyX8_isOutside rfl (by decide) rfl (Nat.le_of_ble_eq_true rfl) (c_isOutside _ _ _ (by omega) (by omega) (by omega) (by omega) (by omega) (by omega)) (fun h38 => ?_) (fun h38 => ?_)
      · refine J_ne1 Y qX8_pawn_41 ?_
        refine J_aloadr_0 Y qX8_pawn_59 ?_
        refine J_bipush Y qX8_pawn_60 (by decide) ?_
        refine J_cV1F Y qX8_pawn_62 mX8_66 iyX8_refused (by decide) rfl (by decide) rfl (Nat.le_of_ble_eq_true rfl) (c_refused (w := 7) _ _ _ (by decide) (by decide)) ?_
        exact J_iret X qX8_pawn_65 (RF_i (by
          unfold f_pawn
          try simp only [Int.toNat_natCast, hk]
          repeat (first | rw [if_pos (by omega)] | rw [if_neg (by omega)])
          try rfl))
      · refine J_ne0 Y qX8_pawn_41 ?_
        refine J_aloadr_4 Y qX8_pawn_44 ?_
        refine J_cV0P Y qX8_pawn_46 mX8_123 iyX5_allDebts (by show _ < 14; omega) rfl (by decide) rfl (Nat.le_of_ble_eq_true rfl) (c_allDebts _ _ _ (by omega) hk (by omega)) ?_
        refine J_iload_3 Y qX8_pawn_49 ?_
        refine J_iadd Y qX8_pawn_50 ?_
        refine J_aloadr_4 Y qX8_pawn_51 ?_
        refine J_getI Y qX8_pawn_53 fX8_87 (by show _ < 14; omega) ?_
        refine J_icmp_le Y qX8_pawn_56 (by omega) (by omega) (by omega) (by omega) (fun h56 => ?_) (fun h56 => ?_)
        · refine J_aloadr_4 Y qX8_pawn_66 ?_
          refine J_getI Y qX8_pawn_68 fX8_120 (by show _ < 14; omega) ?_
          refine J_bipush Y qX8_pawn_71 (by decide) ?_
          refine J_icmp_lt Y qX8_pawn_73 (by omega) (by omega) (by omega) (by omega) (fun h73 => ?_) (fun h73 => ?_)
          · refine J_aloadr_4 Y qX8_pawn_83 ?_
            refine J_iload_2 Y qX8_pawn_85 ?_
            refine J_iload_3 Y qX8_pawn_86 ?_
            refine J_cV2W Y qX8_pawn_87 mX8_180 iyX5_addPawn (by show _ < 14; omega) rfl (by decide) rfl (Nat.le_of_ble_eq_true rfl) (c_addPawn _ _ _ (by omega) hk (by omega)) ?_
            refine J_aloadr_4 Y qX8_pawn_90 ?_
            refine J_getI Y qX8_pawn_92 fX8_120 (by show _ < 14; omega) ?_
            rw [show addP M s k b c 5 s 11 = (k : Int) + 1 from by simp [addP, up]]
            exact J_iret X qX8_pawn_95 (RF_i (by
              unfold f_pawn
              try simp only [Int.toNat_natCast, hk]
              repeat (first | rw [if_pos (by omega)] | rw [if_neg (by omega)])
              try rfl))
          · refine J_aloadr_0 Y qX8_pawn_76 ?_
            refine J_bipush Y qX8_pawn_77 (by decide) ?_
            refine J_cV1F Y qX8_pawn_79 mX8_66 iyX8_refused (by decide) rfl (by decide) rfl (Nat.le_of_ble_eq_true rfl) (c_refused (w := 8) _ _ _ (by decide) (by decide)) ?_
            exact J_iret X qX8_pawn_82 (RF_i (by
              unfold f_pawn
              try simp only [Int.toNat_natCast, hk]
              repeat (first | rw [if_pos (by omega)] | rw [if_neg (by omega)])
              try rfl))
        · refine J_aloadr_0 Y qX8_pawn_59 ?_
          refine J_bipush Y qX8_pawn_60 (by decide) ?_
          refine J_cV1F Y qX8_pawn_62 mX8_66 iyX8_refused (by decide) rfl (by decide) rfl (Nat.le_of_ble_eq_true rfl) (c_refused (w := 7) _ _ _ (by decide) (by decide)) ?_
          exact J_iret X qX8_pawn_65 (RF_i (by
            unfold f_pawn
            try simp only [Int.toNat_natCast, hk]
            repeat (first | rw [if_pos (by omega)] | rw [if_neg (by omega)])
            try rfl))

theorem c_isNoPawn (l : Launch) (G : Gx) (M : Mem) {n : Nat} {a b : Int} (a1 : -2147483648 ≤ a) (a2 : a < 2147483648) (b1 : -2147483648 ≤ b) (b2 : b < 2147483648) (hI : Inv n M) : Ct l G 3 yX8_isNoPawn cX8_isNoPawn 3 ((Option.some Jvm.ClassFile.FieldType.boolean)) [rf G 8 0, vi a, vi b] M (RB M ((a < 0 ∨ M 0 0 2 ≤ a) ∨ b < 0 ∨ M 5 a.toNat 11 ≤ b)) := by
  refine Ct.of rfl (Nat.le_of_ble_eq_true rfl) rfl (fun E X => ?_)
  have Y := X.ok
  obtain ⟨c1, c2⟩ := hI.count
  refine J_aloadr_0 Y qX8_isNoPawn_0 ?_
  refine J_iload_1 Y qX8_isNoPawn_1 ?_
  refine J_cV1B Y qX8_isNoPawn_2 mX8_101 iyX8_isNoShop (by decide) rfl (by decide) rfl (Nat.le_of_ble_eq_true rfl) (c_isNoShop _ _ _ (by omega) (by omega) (by omega) (by omega)) (fun h2 => ?_) (fun h2 => ?_)
  · refine J_ne1 Y qX8_isNoPawn_5 ?_
    refine J_iconst Y qX8_isNoPawn_30 ?_
    refine J_goto Y qX8_isNoPawn_31 ?_
    exact J_zret_t X qX8_isNoPawn_35 rfl (by omega)
  · refine J_ne0 Y qX8_isNoPawn_5 ?_
    obtain ⟨s, rfl⟩ := nat_of (show 0 ≤ a by omega)
    obtain ⟨p1, p2, p3⟩ := hI.pawns (s := s) (by omega)
    simp only [Int.toNat_natCast] at X ⊢
    refine J_iload_2 Y qX8_isNoPawn_8 ?_
    refine J_iconst Y qX8_isNoPawn_9 ?_
    refine J_aloadr_0 Y qX8_isNoPawn_10 ?_
    refine J_getR Y qX8_isNoPawn_11 fX8_10 (by decide) ?_
    refine J_getR Y qX8_isNoPawn_14 fX8_77 (by decide) ?_
    refine J_iload_1 Y qX8_isNoPawn_17 ?_
    refine J_aaloadN (kx := s) Y qX8_isNoPawn_18 rfl (fun _ => rfl) (by decide) rfl (by omega) (by decide) ?_
    refine J_getI Y qX8_isNoPawn_19 fX8_120 (by show _ < 14; omega) ?_
    refine J_iconst Y qX8_isNoPawn_22 ?_
    refine J_isub Y qX8_isNoPawn_23 ?_
    refine J_cS3B Y qX8_isNoPawn_24 mX8_70 iyX8_isOutside rfl (by decide) rfl (Nat.le_of_ble_eq_true rfl) (c_isOutside _ _ _ (by omega) (by omega) (by omega) (by omega) (by omega) (by omega)) (fun h24 => ?_) (fun h24 => ?_)
    · refine J_eq1 Y qX8_isNoPawn_27 ?_
      refine J_iconst Y qX8_isNoPawn_30 ?_
      refine J_goto Y qX8_isNoPawn_31 ?_
      exact J_zret_t X qX8_isNoPawn_35 rfl (by omega)
    · refine J_eq0 Y qX8_isNoPawn_27 ?_
      refine J_iconst Y qX8_isNoPawn_34 ?_
      exact J_zret_f X qX8_isNoPawn_35 rfl (by omega)


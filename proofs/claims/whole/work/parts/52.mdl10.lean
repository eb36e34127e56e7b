/-! ===== the reference: shop ===== -/
def mshp (N : Mem) (s : Nat) (st ar w h : Int) (p : Nat) : Mem := up (up (up (up (up (up (up N 41 0 s st) 42 0 s ar) 43 0 s w) 44 0 s h) 45 0 (20 * s + p) 5040) 45 0 (20 * s + 10 + p) 5040) 9 0 2 ((s : Int) + 1)
theorem shpM_2 (M : Mem) (s p : Nat) (st ar w h : Int) : shpM M s st ar w h p 5 s 2 = w := by simp [shpM, giv, up, upR]
theorem shpM_3 (M : Mem) (s p : Nat) (st ar w h : Int) : shpM M s st ar w h p 5 s 3 = h := by simp [shpM, giv, up, upR]
theorem MR_shp {a N : Mem} {s p : Nat} {st ar w h : Int} (hM : MR a N) (hc : a 0 0 2 = (s : Int)) (hs : s < 14) (hp : p < 10) (hN : IvN a s) : MR (up (shpM a s st ar w h p) 0 0 2 ((s : Int) + 1)) (mshp N s st ar w h p) := by
  obtain ⟨m1, m2, m3, m4, m5, m6⟩ := hM.r0
  refine ⟨⟨m1, rfl, m3, m4, m5, m6⟩, hM.rr, ?_, ?_, ?_, ?_, hM.rh, hM.rm, hM.rt, hM.ru, hM.rf, hM.rb, hM.rw⟩
  · intro u hu
    have hu2 : (u : Int) < (s : Int) + 1 := hu
    rw [up_ne (by omega), up_ne (by omega), up_ne (by omega), up_ne (by omega)]
    by_cases e : u = s
    · subst e
      rw [shpM_0, shpM_1, shpM_2, shpM_3]
      simp [mshp, up]
    · rw [shpM_o e, shpM_o e, shpM_o e, shpM_o e]
      have := hM.rs u (by omega)
      simp [mshp, up, e]
      exact this
  · intro u hu q hq
    obtain ⟨h1, h2⟩ := hM.rp u hu q hq
    rw [up_ne (by omega), up_ne (by omega)]
    by_cases e : u = s
    · subst e
      obtain ⟨z1, z2⟩ := hN.2.2.2.2.2 q hq
      by_cases e2 : q = p
      · subst e2
        constructor
        · simp [shpM, giv, mshp, up, upR]
        · simp [shpM, giv, mshp, up, upR]
      · constructor
        · rw [show shpM a u st ar w h p 25 u q = 0 from by simp [shpM, giv, up, upR, hq, e2]]
          unfold mshp
          rw [up_ne (by omega), up_ne (by omega), up_ne (by omega), up_ne (by omega), up_ne (by omega), up_ne (by omega), up_ne (by omega), h1, z1]
        · rw [show shpM a u st ar w h p 26 u q = 0 from by simp [shpM, giv, up, upR, hq, e2]]
          unfold mshp
          rw [up_ne (by omega), up_ne (by omega), up_ne (by omega), up_ne (by omega), up_ne (by omega), up_ne (by omega), up_ne (by omega), h2, z2]
    · constructor
      · rw [show shpM a s st ar w h p 25 u q = a 25 u q from by simp [shpM, giv, up, upR, e]]
        unfold mshp
        rw [up_ne (by omega), up_ne (by omega), up_ne (by omega), up_ne (by omega), up_ne (by omega), up_ne (by omega), up_ne (by omega), h1]
      · rw [show shpM a s st ar w h p 26 u q = a 26 u q from by simp [shpM, giv, up, upR, e]]
        unfold mshp
        rw [up_ne (by omega), up_ne (by omega), up_ne (by omega), up_ne (by omega), up_ne (by omega), up_ne (by omega), up_ne (by omega), h2]
  · intro u hu
    have hk : ∀ k, 4 ≤ k → shpM a s st ar w h p 5 u k = a 5 u k := fun k hk => by
      by_cases e : u = s
      · subst e; exact shpM_k hk
      · exact shpM_o e
    rw [up_ne (by omega), up_ne (by omega), up_ne (by omega), hk 6 (by decide), hk 7 (by decide), hk 8 (by decide)]
    exact hM.rl u hu
  · intro u hu
    have hk : ∀ k, 4 ≤ k → shpM a s st ar w h p 5 u k = a 5 u k := fun k hk => by
      by_cases e : u = s
      · subst e; exact shpM_k hk
      · exact shpM_o e
    rw [up_ne (by omega), hk 11 (by decide)]
    obtain ⟨g1, g2⟩ := hM.rq u hu
    refine ⟨g1, fun j hj => ?_⟩
    rw [up_ne (by omega), up_ne (by omega), shpM_f (by omega), shpM_f (by omega)]
    exact g2 j hj
theorem Sm_shp {N : Mem} {s p : Nat} {st ar w h : Int} : Sm (mshp N s st ar w h p) N := fun x y k h1 h2 => by
  unfold mshp
  rw [up_ne (by omega), up_ne (by omega), up_ne (by omega), up_ne (by omega), up_ne (by omega), up_ne (by omega), up_ne (by omega)]
theorem r_shop (l : Launch) (G : Gx) (M : Mem) {A : Mem} {n : Nat} {a b c : Int} (a1 : -2147483648 ≤ a) (a2 : a < 2147483648) (b1 : -2147483648 ≤ b) (b2 : b < 2147483648) (c1 : -2147483648 ≤ c) (c2 : c < 2147483648) (hI : Inv n A) (hn : n < 512) (hM : MR A M)  : Ct l G 4 yX9_shop cX9_shop 4 ((Option.some Jvm.ClassFile.FieldType.int)) [rf G 9 0, vi a, vi b, vi c] M (QR (f_shop A a b c) M) := by
  refine Ct.of rfl (Nat.le_of_ble_eq_true rfl) rfl (fun E X => ?_)
  have Y := X.ok
  obtain ⟨m1, m2, m3, m4, m5, m6⟩ := hM.r0
  obtain ⟨c1, c2⟩ := hI.count
  obtain ⟨d1, d2⟩ := hI.day
  refine J_iload_1 Y qX9_shop_0 ?_
  refine J_iconst Y qX9_shop_1 ?_
  refine J_sipush Y qX9_shop_2 (by decide) ?_
  refine J_cS3B Y qX9_shop_5 mX9_93 iyX9_in rfl (by decide) rfl (Nat.le_of_ble_eq_true rfl) (m_in _ _ _ (by omega) (by omega) (by omega) (by omega) (by omega) (by omega)) (fun h5 => ?_) (fun h5 => ?_)
  · refine J_eq1 Y qX9_shop_8 ?_
    refine J_iload_1 Y qX9_shop_11 ?_
    refine J_bipush Y qX9_shop_12 (by decide) ?_
    refine J_idiv Y qX9_shop_14 (by omega) (by omega) (by omega) (by omega) ?_
    refine J_bipush Y qX9_shop_15 (by decide) ?_
    refine J_irem Y qX9_shop_17 (by omega) (by omega) (by omega) (by omega) ?_
    refine J_iconst Y qX9_shop_18 ?_
    refine J_icmp_le Y qX9_shop_19 (by omega) (by omega) (by omega) (by omega) (fun h19 => ?_) (fun h19 => ?_)
    · refine J_iload_2 Y qX9_shop_29 ?_
      refine J_iconst Y qX9_shop_30 ?_
      refine J_sipush Y qX9_shop_31 (by decide) ?_
      refine J_cS3B Y qX9_shop_34 mX9_93 iyX9_in rfl (by decide) rfl (Nat.le_of_ble_eq_true rfl) (m_in _ _ _ (by omega) (by omega) (by omega) (by omega) (by omega) (by omega)) (fun h34 => ?_) (fun h34 => ?_)
      · refine J_eq1 Y qX9_shop_37 ?_
        refine J_iload_3 Y qX9_shop_40 ?_
        refine J_iconst Y qX9_shop_41 ?_
        refine J_bipush Y qX9_shop_42 (by decide) ?_
        refine J_cS3B Y qX9_shop_44 mX9_93 iyX9_in rfl (by decide) rfl (Nat.le_of_ble_eq_true rfl) (m_in _ _ _ (by omega) (by omega) (by omega) (by omega) (by omega) (by omega)) (fun h44 => ?_) (fun h44 => ?_)
        · refine J_ne1 Y qX9_shop_47 ?_
          refine J_aloadr_0 Y qX9_shop_57 ?_
          refine J_getI Y qX9_shop_58 fX9_89 (by decide) ?_
          refine J_bipush Y qX9_shop_61 (by decide) ?_
          refine J_icmp_ne Y qX9_shop_63 (by omega) (by omega) (by omega) (by omega) (fun h63 => ?_) (fun h63 => ?_)
          · obtain ⟨s, hs⟩ := nat_of c1
            have hs9 : M 9 0 2 = (s : Int) := by omega
            obtain ⟨p, hp⟩ := nat_of (show 0 ≤ a % 10 by omega)
            refine J_aloadr_0 Y qX9_shop_73 ?_
            refine J_getR Y qX9_shop_74 fX9_13 (by decide) ?_
            refine J_aloadr_0 Y qX9_shop_77 ?_
            refine J_getI Y qX9_shop_78 fX9_89 (by decide) ?_
            change J G E _ _ (vi (M 9 0 2) :: _) _
            rw [hs9]
            refine J_iload_1 Y qX9_shop_81 ?_
            refine J_bipush Y qX9_shop_82 (by decide) ?_
            refine J_idiv Y qX9_shop_84 (by omega) (by omega) (by omega) (by omega) ?_
            refine J_iastoreN (kx := s) Y qX9_shop_85 rfl (by decide) rfl (by omega) (by decide) ?_
            refine J_aloadr_0 Y qX9_shop_86 ?_
            refine J_getR Y qX9_shop_87 fX9_16 (by decide) ?_
            refine J_aloadr_0 Y qX9_shop_90 ?_
            refine J_getI Y qX9_shop_91 fX9_89 (by decide) ?_
            change J G E _ _ (vi (M 9 0 2) :: _) _
            rw [hs9]
            refine J_iload_1 Y qX9_shop_94 ?_
            refine J_bipush Y qX9_shop_95 (by decide) ?_
            refine J_idiv Y qX9_shop_97 (by omega) (by omega) (by omega) (by omega) ?_
            refine J_bipush Y qX9_shop_98 (by decide) ?_
            refine J_irem Y qX9_shop_100 (by omega) (by omega) (by omega) (by omega) ?_
            refine J_iastoreN (kx := s) Y qX9_shop_101 rfl (by decide) rfl (by omega) (by decide) ?_
            refine J_aloadr_0 Y qX9_shop_102 ?_
            refine J_getR Y qX9_shop_103 fX9_19 (by decide) ?_
            refine J_aloadr_0 Y qX9_shop_106 ?_
            refine J_getI Y qX9_shop_107 fX9_89 (by decide) ?_
            change J G E _ _ (vi (M 9 0 2) :: _) _
            rw [hs9]
            refine J_iload_2 Y qX9_shop_110 ?_
            refine J_iastoreN (kx := s) Y qX9_shop_111 rfl (by decide) rfl (by omega) (by decide) ?_
            refine J_aloadr_0 Y qX9_shop_112 ?_
            refine J_getR Y qX9_shop_113 fX9_22 (by decide) ?_
            refine J_aloadr_0 Y qX9_shop_116 ?_
            refine J_getI Y qX9_shop_117 fX9_89 (by decide) ?_
            change J G E _ _ (vi (M 9 0 2) :: _) _
            rw [hs9]
            refine J_iload_3 Y qX9_shop_120 ?_
            refine J_iastoreN (kx := s) Y qX9_shop_121 rfl (by decide) rfl (by omega) (by decide) ?_
            refine J_aloadr_0 Y qX9_shop_122 ?_
            refine J_getR Y qX9_shop_123 fX9_25 (by decide) ?_
            refine J_bipush Y qX9_shop_126 (by decide) ?_
            refine J_aloadr_0 Y qX9_shop_128 ?_
            refine J_getI Y qX9_shop_129 fX9_89 (by decide) ?_
            change J G E _ _ (vi (M 9 0 2) :: _) _
            rw [hs9]
            refine J_imul Y qX9_shop_132 ?_
            refine J_iload_1 Y qX9_shop_133 ?_
            refine J_bipush Y qX9_shop_134 (by decide) ?_
            refine J_irem Y qX9_shop_136 (by omega) (by omega) (by omega) (by omega) ?_
            refine J_iadd Y qX9_shop_137 ?_
            refine J_sipush Y qX9_shop_138 (by decide) ?_
            rw [show (20 : Int) * (s : Int) + a % 10 = ((20 * s + p : Nat) : Int) by omega]
            refine J_iastoreN (kx := (20 * s + p)) Y qX9_shop_141 rfl (by decide) rfl (by omega) (by decide) ?_
            refine J_aloadr_0 Y qX9_shop_142 ?_
            refine J_getR Y qX9_shop_143 fX9_25 (by decide) ?_
            refine J_bipush Y qX9_shop_146 (by decide) ?_
            refine J_aloadr_0 Y qX9_shop_148 ?_
            refine J_getI Y qX9_shop_149 fX9_89 (by decide) ?_
            change J G E _ _ (vi (M 9 0 2) :: _) _
            rw [hs9]
            refine J_imul Y qX9_shop_152 ?_
            refine J_bipush Y qX9_shop_153 (by decide) ?_
            refine J_iadd Y qX9_shop_155 ?_
            refine J_iload_1 Y qX9_shop_156 ?_
            refine J_bipush Y qX9_shop_157 (by decide) ?_
            refine J_irem Y qX9_shop_159 (by omega) (by omega) (by omega) (by omega) ?_
            refine J_iadd Y qX9_shop_160 ?_
            refine J_sipush Y qX9_shop_161 (by decide) ?_
            rw [show (20 : Int) * (s : Int) + 10 + a % 10 = ((20 * s + 10 + p : Nat) : Int) by omega]
            refine J_iastoreN (kx := (20 * s + 10 + p)) Y qX9_shop_164 rfl (by decide) rfl (by omega) (by decide) ?_
            refine J_aloadr_0 Y qX9_shop_165 ?_
            refine J_dup Y qX9_shop_166 rfl ?_
            refine J_getI Y qX9_shop_167 fX9_89 (by decide) ?_
            change J G E _ _ (vi (M 9 0 2) :: _) _
            rw [hs9]
            refine J_iconst Y qX9_shop_170 ?_
            refine J_iadd Y qX9_shop_171 ?_
            refine J_putI Y qX9_shop_172 fX9_89w (by decide) ?_
            refine J_aloadr_0 Y qX9_shop_175 ?_
            refine J_getI Y qX9_shop_176 fX9_89 (by decide) ?_
            change J G E _ _ (vi ((s : Int) + 1) :: _) _
            refine J_iconst Y qX9_shop_179 ?_
            refine J_isub Y qX9_shop_180 ?_
            have hF : f_shop A a b c = (A 0 0 2, up (shpM A s (a / 100) (a / 10 % 10) b c p) 0 0 2 ((s : Int) + 1)) := by
              unfold f_shop
              rw [if_neg (by omega), if_neg (by omega), if_neg (by omega), hs, hp]
              rfl
            exact J_iret X qX9_shop_181 (QR_e hF (by dsimp only; omega) (MR_shp hM hs (by omega) (by omega) (hI.fresh (by omega) (by omega))) Sm_shp)
          · refine J_aloadr_0 Y qX9_shop_66 ?_
            refine J_bipush Y qX9_shop_67 (by decide) ?_
            refine J_cV1F Y qX9_shop_69 mX9_97 iyX9_refuse (by decide) rfl (by decide) rfl (Nat.le_of_ble_eq_true rfl) (m_refuse _ _ _ 8 (by decide) rfl) ?_
            exact J_iret X qX9_shop_72 (QR_e (by
              unfold f_shop
              try simp only [Int.toNat_natCast]
              repeat (first | rewrite [if_pos trivial] | rewrite [if_pos (by omega)] | rewrite [if_neg (by omega)])
              exact rfl) (by first | rfl | (dsimp only; omega)) (by first | exact hM | exact MR_rfs hM (by decide)) (by first | exact Sm.rfl' | exact Sm_up (Or.inl (by decide))))
        · refine J_ne0 Y qX9_shop_47 ?_
          refine J_aloadr_0 Y qX9_shop_50 ?_
          refine J_bipush Y qX9_shop_51 (by decide) ?_
          refine J_cV1F Y qX9_shop_53 mX9_97 iyX9_refuse (by decide) rfl (by decide) rfl (Nat.le_of_ble_eq_true rfl) (m_refuse _ _ _ 7 (by decide) rfl) ?_
          exact J_iret X qX9_shop_56 (QR_e (by
            unfold f_shop
            try simp only [Int.toNat_natCast]
            repeat (first | rewrite [if_pos trivial] | rewrite [if_pos (by omega)] | rewrite [if_neg (by omega)])
            exact rfl) (by first | rfl | (dsimp only; omega)) (by first | exact hM | exact MR_rfs hM (by decide)) (by first | exact Sm.rfl' | exact Sm_up (Or.inl (by decide))))
      · refine J_eq0 Y qX9_shop_37 ?_
        refine J_aloadr_0 Y qX9_shop_50 ?_
        refine J_bipush Y qX9_shop_51 (by decide) ?_
        refine J_cV1F Y qX9_shop_53 mX9_97 iyX9_refuse (by decide) rfl (by decide) rfl (Nat.le_of_ble_eq_true rfl) (m_refuse _ _ _ 7 (by decide) rfl) ?_
        exact J_iret X qX9_shop_56 (QR_e (by
          unfold f_shop
          try simp only [Int.toNat_natCast]
          repeat (first | rewrite [if_pos trivial] | rewrite [if_pos (by omega)] | rewrite [if_neg (by omega)])
          exact rfl) (by first | rfl | (dsimp only; omega)) (by first | exact hM | exact MR_rfs hM (by decide)) (by first | exact Sm.rfl' | exact Sm_up (Or.inl (by decide))))
    · refine J_aloadr_0 Y qX9_shop_22 ?_
      refine J_bipush Y qX9_shop_23 (by decide) ?_
      refine J_cV1F Y qX9_shop_25 mX9_97 iyX9_refuse (by decide) rfl (by decide) rfl (Nat.le_of_ble_eq_true rfl) (m_refuse _ _ _ 3 (by decide) rfl) ?_
      exact J_iret X qX9_shop_28 (QR_e (by
        unfold f_shop
        try simp only [Int.toNat_natCast]
        repeat (first | rewrite [if_pos trivial] | rewrite [if_pos (by omega)] | rewrite [if_neg (by omega)])
        exact rfl) (by first | rfl | (dsimp only; omega)) (by first | exact hM | exact MR_rfs hM (by decide)) (by first | exact Sm.rfl' | exact Sm_up (Or.inl (by decide))))
  · refine J_eq0 Y qX9_shop_8 ?_
    refine J_aloadr_0 Y qX9_shop_22 ?_
    refine J_bipush Y qX9_shop_23 (by decide) ?_
    refine J_cV1F Y qX9_shop_25 mX9_97 iyX9_refuse (by decide) rfl (by decide) rfl (Nat.le_of_ble_eq_true rfl) (m_refuse _ _ _ 3 (by decide) rfl) ?_
    exact J_iret X qX9_shop_28 (QR_e (by
      unfold f_shop
      try simp only [Int.toNat_natCast]
      repeat (first | rewrite [if_pos trivial] | rewrite [if_pos (by omega)] | rewrite [if_neg (by omega)])
      exact rfl) (by first | rfl | (dsimp only; omega)) (by first | exact hM | exact MR_rfs hM (by decide)) (by first | exact Sm.rfl' | exact Sm_up (Or.inl (by decide))))


/-! ===== the reference: stop ===== -/
def sS (M : Mem) (B : Nat → Int) (acc : Int × Int) : Mem := up (up (upR M 63 0 B) 9 0 34 acc.2) 9 0 33 acc.1
theorem sS_row (M : Mem) (B B2 : Nat → Int) (acc : Int × Int) : upR (sS M B acc) 63 0 B2 = sS M B2 acc := by
  funext a b c
  simp only [sS, up, upR]
  grind
theorem sS_put (M : Mem) (B : Nat → Int) (acc : Int × Int) (x y : Int) : up (up (sS M B acc) 9 0 34 y) 9 0 33 x = sS M B (x, y) := by
  funext a b c
  simp only [sS, up, upR]
  grind
theorem sS_34 (M : Mem) (B : Nat → Int) (acc : Int × Int) : sS M B acc 9 0 34 = acc.2 := by simp [sS, up]
theorem sS_33 (M : Mem) (B : Nat → Int) (acc : Int × Int) : sS M B acc 9 0 33 = acc.1 := by simp [sS, up]
theorem sS_o {M : Mem} {B : Nat → Int} {acc : Int × Int} {x y k : Nat} (h : x ≠ 63) (h2 : x ≠ 9 ∨ (k ≠ 33 ∧ k ≠ 34)) : sS M B acc x y k = M x y k := by
  unfold sS
  rw [up_ne (by omega), up_ne (by omega), upR_ne (by omega)]
theorem sS_self (M : Mem) (z : Int) : up M 9 0 34 z = sS M (M 63 0) (M 9 0 33, z) := by
  funext a b c
  simp only [sS, up, upR]
  grind
theorem MR_sS {a N : Mem} {B : Nat → Int} {acc : Int × Int} (h : MR a N) : MR a (sS N B acc) := ⟨h.r0, h.rr, h.rs, h.rp, h.rl, h.rq, h.rh, h.rm, h.rt, h.ru, h.rf, h.rb, h.rw⟩
theorem Sm_sS {N : Mem} {B : Nat → Int} {acc : Int × Int} : Sm (sS N B acc) N := fun x y k h1 h2 => sS_o (by omega) (by omega)
theorem wgh_in {A : Mem} {fr set : Nat} {mi : Int} {acc : Int × Int} (h : set.testBit fr = true) : wgh A fr mi acc set = acc := by rw [wgh, if_pos h]
theorem lp_mtries {l : Launch} {G : Gx} {E : Fx} {M : Mem} {A : Mem} {m c : Nat} (hI : Inv m A) (hM : MR A M) (hc : A 0 0 2 = (c : Int)) (c14 : c ≤ 14) {fr : Nat} {mi : Int} (hfr : fr < c) (mi1 : 0 ≤ mi) (mi2 : mi ≤ 999) {set : Nat} (hset : set < 16384) (hsf : set.testBit fr = false) {B : Nat → Int} {acc : Int × Int} (ac1 : 0 ≤ acc.2) (ac2 : acc.2 ≤ 2147483647) (X : OkM l G E cX9_tries RX9 6 4 none (RV (fun M2 => ∃ B2 : Nat → Int, M2 = sS M B2 (wgh A fr mi acc set)))) : ∀ (n i : Nat), i ≤ c → c < i + n → J G E 6 [some (rf G 9 0), some (vi (fr : Int)), some (vi mi), some (vi (set : Int)), some (vi (worV A set i)), some (vi (i : Int))] [] (sS M B acc) := by
  have Y := X.ok
  intro n
  induction n with
  | zero => intro i h1 h2; exfalso; omega
  | succ n ih =>
    intro i h1 h2
    refine J_iload_5 Y qX9_tries_6 ?_
    refine J_aloadr_0 Y qX9_tries_8 ?_
    refine J_getI Y qX9_tries_9 fX9_89 (by decide) ?_
    rw [sS_o (by omega) (by omega), hM.r0.2.1, hc]
    refine J_icmp_ge Y qX9_tries_12 (by omega) (by omega) (by omega) (by omega) (fun h12 => ?_) (fun h12 => ?_)
    · obtain rfl : i = c := by omega
      refine J_aloadr_0 Y qX9_tries_47 ?_
      refine J_iload_1 Y qX9_tries_48 ?_
      refine J_iload_2 Y qX9_tries_49 ?_
      refine J_iload_3 Y qX9_tries_50 ?_
      refine J_cV3I Y qX9_tries_51 mX9_216 iyX9_lostBy (by decide) rfl (by decide) rfl (Nat.le_of_ble_eq_true rfl) (m_lostBy (A := A) (c := i) _ _ _ hI (MR_sS hM) hc c14 hfr hset mi1 mi2) (fun z M2 h51 => ?_)
      obtain ⟨rfl, B2, rfl⟩ := h51
      rw [sS_row]
      have wr := worV_rng hI hc c14 set (Nat.le_refl i)
      refine J_iload_4 Y qX9_tries_54 ?_
      refine J_iconst Y qX9_tries_56 ?_
      refine J_idiv Y qX9_tries_57 (by omega) (by omega) (by omega) (by omega) ?_
      refine J_iadd Y qX9_tries_58 ?_
      refine J_istore_5 Y qX9_tries_59 rfl ?_
      have hcv : losV A (fireD A fr set) mi i + worV A set i / 2 = costV A fr mi set := by unfold costV; rw [hc, Int.toNat_natCast]
      have cr := costV_rng hI hc c14 fr mi set
      rw [hcv]
      refine J_iload_5 Y qX9_tries_61 ?_
      refine J_aloadr_0 Y qX9_tries_63 ?_
      refine J_getI Y qX9_tries_64 fX9_219 (by decide) ?_
      rw [sS_34]
      refine J_icmp_ge Y qX9_tries_67 (by omega) (by omega) (by omega) (by omega) (fun h67 => ?_) (fun h67 => ?_)
      · first
          | exact J_vret X qX9_tries_81 ⟨rfl, B2, by rw [sS_put, wgh, if_neg (by rw [hsf]; decide), if_pos (by omega)]⟩
          | exact J_vret X qX9_tries_81 ⟨rfl, B2, by rw [wgh, if_neg (by rw [hsf]; decide), if_neg (by omega)]⟩
      · refine J_aloadr_0 Y qX9_tries_70 ?_
        refine J_iload_5 Y qX9_tries_71 ?_
        refine J_putI Y qX9_tries_73 fX9_219w (by decide) ?_
        refine J_aloadr_0 Y qX9_tries_76 ?_
        refine J_iload_3 Y qX9_tries_77 ?_
        refine J_putI Y qX9_tries_78 fX9_222w (by decide) ?_
        first
          | exact J_vret X qX9_tries_81 ⟨rfl, B2, by rw [sS_put, wgh, if_neg (by rw [hsf]; decide), if_pos (by omega)]⟩
          | exact J_vret X qX9_tries_81 ⟨rfl, B2, by rw [wgh, if_neg (by rw [hsf]; decide), if_neg (by omega)]⟩
    · refine J_iload_4 Y qX9_tries_15 ?_
      refine J_iload_3 Y qX9_tries_17 ?_
      refine J_iload_5 Y qX9_tries_18 ?_
      refine J_ishr Y i qX9_tries_20 rfl (by omega) (by omega) (by omega) ?_
      refine J_iconst Y qX9_tries_21 ?_
      refine J_mask Y 1 qX9_tries_22 (by decide) (by decide +kernel) ?_
      obtain ⟨bb, hbb⟩ : ∃ b, set / 2 ^ i % 2 = b := ⟨_, rfl⟩
      have hb2 := Nat.mod_lt (set / 2 ^ i) (show 0 < 2 by decide)
      have hbd := bit_div set i
      rw [hbb] at hb2 hbd
      rw [show (set : Int) / 2 ^ i % 2 ^ 1 = (bb : Int) from by rw [← hbb]; simp]
      refine J_iconst Y qX9_tries_23 ?_
      refine J_icmp_ne Y qX9_tries_24 (by omega) (by omega) (by omega) (by omega) (fun h24 => ?_) (fun h24 => ?_)
      · refine J_iconst Y qX9_tries_37 ?_
        refine J_iadd Y qX9_tries_38 ?_
        refine J_istore_4 Y qX9_tries_39 rfl ?_
        refine J_iinc_5 Y qX9_tries_41 rfl ?_
        refine J_goto Y qX9_tries_44 ?_
        have ih9 := ih (i + 1) (by omega) (by omega)
        unfold worV at ih9 ⊢
        rw [sumN] at ih9
        first
          | (rw [if_pos (hbd.mp (by omega))] at ih9; exact ih9)
          | (rw [if_neg (fun z => by have := hbd.mpr z; omega)] at ih9; exact ih9)
      · refine J_aloadr_0 Y qX9_tries_27 ?_
        refine J_getR Y qX9_tries_28 fX9_19 (by decide) ?_
        refine J_iload_5 Y qX9_tries_31 ?_
        refine J_ialoadN (kx := i) Y qX9_tries_33 rfl (by decide) rfl (by omega) (by decide) ?_
        rw [sS_o (by omega) (by omega), (hM.rs i (by omega)).2.2.1]
        refine J_goto Y qX9_tries_34 ?_
        refine J_iadd Y qX9_tries_38 ?_
        refine J_istore_4 Y qX9_tries_39 rfl ?_
        refine J_iinc_5 Y qX9_tries_41 rfl ?_
        refine J_goto Y qX9_tries_44 ?_
        have ih9 := ih (i + 1) (by omega) (by omega)
        unfold worV at ih9 ⊢
        rw [sumN] at ih9
        first
          | (rw [if_pos (hbd.mp (by omega))] at ih9; exact ih9)
          | (rw [if_neg (fun z => by have := hbd.mpr z; omega)] at ih9; exact ih9)

theorem m_tries (l : Launch) (G : Gx) (M : Mem) {A : Mem} {m c : Nat} (hI : Inv m A) (hM : MR A M) (hc : A 0 0 2 = (c : Int)) (c14 : c ≤ 14) {fr : Nat} {mi : Int} (hfr : fr < c) (mi1 : 0 ≤ mi) (mi2 : mi ≤ 999) {set : Nat} (hset : set < 16384) (hsf : set.testBit fr = false) {B : Nat → Int} {acc : Int × Int} (ac1 : 0 ≤ acc.2) (ac2 : acc.2 ≤ 2147483647) : Ct l G 4 yX9_tries cX9_tries 6 ((Option.none : Option Jvm.ClassFile.FieldType)) [rf G 9 0, vi (fr : Nat), vi mi, vi (set : Nat)] (sS M B acc) (RV (fun M2 => ∃ B2 : Nat → Int, M2 = sS M B2 (wgh A fr mi acc set))) := by
  refine Ct.of rfl (Nat.le_of_ble_eq_true rfl) rfl (fun E X => ?_)
  have Y := X.ok
  refine J_iconst Y qX9_tries_0 ?_
  refine J_istore_4 Y qX9_tries_1 rfl ?_
  refine J_iconst Y qX9_tries_3 ?_
  refine J_istore_5 Y qX9_tries_4 rfl ?_
  exact lp_mtries hI hM hc c14 hfr mi1 mi2 hset hsf ac1 ac2 X (c + 1) 0 (by omega) (by omega)

theorem lp_ms3 {l : Launch} {G : Gx} {E : Fx} {M : Mem} {A : Mem} {m c : Nat} (hI : Inv m A) (hM : MR A M) (hc : A 0 0 2 = (c : Int)) (c14 : c ≤ 14) {fr : Nat} {mi : Int} (hfr : fr < c) (mi1 : 0 ≤ mi) (mi2 : mi ≤ 999) {kk : Int} (k1 : 0 ≤ kk) (k2 : kk ≤ 2) {acc : Int × Int} (ac : 0 ≤ acc.2 ∧ acc.2 ≤ 2147483647) {h : Nat} (hh : h < c) {P : Option Value → Mem → Prop} (hK : ∀ B : Nat → Int, J G E 153 [some (rf G 9 0), some (vi (fr : Int)), some (vi mi), some (vi kk), some (vi (h : Int)), some (vi (h : Int))] [] (sS M B (wF2 A fr mi h acc h))) (X : OkM l G E cX9_stop RX9 6 5 (some .int) P) : ∀ (n i : Nat) (B : Nat → Int), i ≤ h → h < i + n → J G E 113 [some (rf G 9 0), some (vi (fr : Int)), some (vi mi), some (vi kk), some (vi (h : Int)), some (vi (i : Int))] [] (sS M B (wF2 A fr mi h acc i)) := by
  have Y := X.ok
  intro n
  induction n with
  | zero => intro i B h1 h2; exfalso; omega
  | succ n ih =>
    intro i B h1 h2
    refine J_iload_5 Y qX9_stop_113 ?_
    refine J_iload_4 Y qX9_stop_115 ?_
    refine J_icmp_ge Y qX9_stop_117 (by omega) (by omega) (by omega) (by omega) (fun h117 => ?_) (fun h117 => ?_)
    · obtain rfl : i = h := by omega
      exact hK B
    · refine J_iload_5 Y qX9_stop_120 ?_
      refine J_iload_1 Y qX9_stop_122 ?_
      refine J_icmp_eq Y qX9_stop_123 (by omega) (by omega) (by omega) (by omega) (fun h123 => ?_) (fun h123 => ?_)
      · refine J_iinc_5 Y qX9_stop_147 rfl ?_
        refine J_goto Y qX9_stop_150 ?_
        first
          | exact ih (i + 1) B2 (by omega) (by omega)
          | (have e : wgh A fr mi (wF2 A fr mi h acc i) (2 ^ h ||| 2 ^ i) = wF2 A fr mi h acc i := wgh_in (by
               rw [Nat.testBit_or, Nat.testBit_two_pow, Nat.testBit_two_pow]
               simp; omega)
             have ih9 := ih (i + 1) B (by omega) (by omega)
             rw [wF2, e] at ih9
             exact ih9)
      · refine J_iload_4 Y qX9_stop_126 ?_
        refine J_iload_1 Y qX9_stop_128 ?_
        refine J_icmp_eq Y qX9_stop_129 (by omega) (by omega) (by omega) (by omega) (fun h129 => ?_) (fun h129 => ?_)
        · refine J_iinc_5 Y qX9_stop_147 rfl ?_
          refine J_goto Y qX9_stop_150 ?_
          first
            | exact ih (i + 1) B2 (by omega) (by omega)
            | (have e : wgh A fr mi (wF2 A fr mi h acc i) (2 ^ h ||| 2 ^ i) = wF2 A fr mi h acc i := wgh_in (by
                 rw [Nat.testBit_or, Nat.testBit_two_pow, Nat.testBit_two_pow]
                 simp; omega)
               have ih9 := ih (i + 1) B (by omega) (by omega)
               rw [wF2, e] at ih9
               exact ih9)
        · refine J_aloadr_0 Y qX9_stop_132 ?_
          refine J_iload_1 Y qX9_stop_133 ?_
          refine J_iload_2 Y qX9_stop_134 ?_
          refine J_iconst Y qX9_stop_135 ?_
          refine J_iload_5 Y qX9_stop_136 ?_
          refine J_shl1 Y i qX9_stop_138 rfl (by omega) ?_
          refine J_iconst Y qX9_stop_139 ?_
          refine J_iload_4 Y qX9_stop_140 ?_
          refine J_shl1 Y h qX9_stop_142 rfl (by omega) ?_
          refine J_orN Y qX9_stop_143 ?_
          rw [Nat.or_comm]
          refine J_cV3V Y qX9_stop_144 mX9_225 iyX9_tries (by decide) rfl (by decide) rfl (Nat.le_of_ble_eq_true rfl) (m_tries (A := A) (c := c) _ _ _ hI hM hc c14 hfr mi1 mi2 (set := 2 ^ h ||| 2 ^ i) (or_pow_lt (by omega) (by omega)) (by rw [Nat.testBit_or, Nat.testBit_two_pow, Nat.testBit_two_pow]; simp; omega) (wF2_rng hI hc c14 fr mi h ac i).1 (wF2_rng hI hc c14 fr mi h ac i).2) (fun M2 h144 => ?_)
          obtain ⟨B2, rfl⟩ := h144
          refine J_iinc_5 Y qX9_stop_147 rfl ?_
          refine J_goto Y qX9_stop_150 ?_
          first
            | exact ih (i + 1) B2 (by omega) (by omega)
            | (have e : wgh A fr mi (wF2 A fr mi h acc i) (2 ^ h ||| 2 ^ i) = wF2 A fr mi h acc i := wgh_in (by
                 rw [Nat.testBit_or, Nat.testBit_two_pow, Nat.testBit_two_pow]
                 simp; omega)
               have ih9 := ih (i + 1) B (by omega) (by omega)
               rw [wF2, e] at ih9
               exact ih9)

theorem lp_ms2 {l : Launch} {G : Gx} {E : Fx} {M : Mem} {A : Mem} {m c : Nat} (hI : Inv m A) (hM : MR A M) (hc : A 0 0 2 = (c : Int)) (c14 : c ≤ 14) {fr : Nat} {mi : Int} (hfr : fr < c) (mi1 : 0 ≤ mi) (mi2 : mi ≤ 999) {kk : Int} (k1 : 0 ≤ kk) (k2 : kk ≤ 2) (k3 : 2 ≤ kk) {acc : Int × Int} (ac : 0 ≤ acc.2 ∧ acc.2 ≤ 2147483647) {P : Option Value → Mem → Prop} (hK : ∀ (B : Nat → Int) (x5 : Option Value), J G E 159 [some (rf G 9 0), some (vi (fr : Int)), some (vi mi), some (vi kk), some (vi (c : Int)), x5] [] (sS M B (wF3 A fr mi acc c))) (X : OkM l G E cX9_stop RX9 6 5 (some .int) P) : ∀ (n i : Nat) (B : Nat → Int) (x5 : Option Value), 1 ≤ i → i ≤ c → c < i + n → J G E 96 [some (rf G 9 0), some (vi (fr : Int)), some (vi mi), some (vi kk), some (vi (i : Int)), x5] [] (sS M B (wF3 A fr mi acc i)) := by
  have Y := X.ok
  intro n
  induction n with
  | zero => intro i B x5 h0 h1 h2; exfalso; omega
  | succ n ih =>
    intro i B x5 h0 h1 h2
    refine J_iload_4 Y qX9_stop_96 ?_
    refine J_aloadr_0 Y qX9_stop_98 ?_
    refine J_getI Y qX9_stop_99 fX9_89 (by decide) ?_
    rw [sS_o (by omega) (by omega), hM.r0.2.1, hc]
    refine J_icmp_ge Y qX9_stop_102 (by omega) (by omega) (by omega) (by omega) (fun h102 => ?_) (fun h102 => ?_)
    · obtain rfl : i = c := by omega
      exact hK B x5
    · refine J_iload_3 Y qX9_stop_105 ?_
      refine J_iconst Y qX9_stop_106 ?_
      refine J_icmp_le Y qX9_stop_107 (by omega) (by omega) (by omega) (by omega) (fun h107 => ?_) (fun h107 => ?_)
      · exfalso; omega
      · refine J_iconst Y qX9_stop_110 ?_
        refine J_istore_5 Y qX9_stop_111 rfl ?_
        refine lp_ms3 hI hM hc c14 hfr mi1 mi2 k1 k2 (wF3_rng hI hc c14 fr mi ac i) (by omega) (fun B2 => ?_) X (i + 1) 0 B (by omega) (by omega)
        refine J_iinc_4 Y qX9_stop_153 rfl ?_
        refine J_goto Y qX9_stop_156 ?_
        exact ih (i + 1) B2 _ (by omega) (by omega) (by omega)

theorem lp_ms1 {l : Launch} {G : Gx} {E : Fx} {M : Mem} {A : Mem} {m c : Nat} (hI : Inv m A) (hM : MR A M) (hc : A 0 0 2 = (c : Int)) (c14 : c ≤ 14) {fr : Nat} {mi : Int} (hfr : fr < c) (mi1 : 0 ≤ mi) (mi2 : mi ≤ 999) {kk : Int} (k1 : 0 ≤ kk) (k2 : kk ≤ 2) (k3 : 1 ≤ kk) {acc : Int × Int} (ac : 0 ≤ acc.2 ∧ acc.2 ≤ 2147483647) {P : Option Value → Mem → Prop} (hK : ∀ (B : Nat → Int) (x4 x5 : Option Value), J G E 93 [some (rf G 9 0), some (vi (fr : Int)), some (vi mi), some (vi kk), x4, x5] [] (sS M B (wF1 A fr mi acc c))) (X : OkM l G E cX9_stop RX9 6 5 (some .int) P) : ∀ (n i : Nat) (B : Nat → Int) (x5 : Option Value), i ≤ c → c < i + n → J G E 58 [some (rf G 9 0), some (vi (fr : Int)), some (vi mi), some (vi kk), some (vi (i : Int)), x5] [] (sS M B (wF1 A fr mi acc i)) := by
  have Y := X.ok
  intro n
  induction n with
  | zero => intro i B x5 h1 h2; exfalso; omega
  | succ n ih =>
    intro i B x5 h1 h2
    refine J_iload_4 Y qX9_stop_58 ?_
    refine J_aloadr_0 Y qX9_stop_60 ?_
    refine J_getI Y qX9_stop_61 fX9_89 (by decide) ?_
    rw [sS_o (by omega) (by omega), hM.r0.2.1, hc]
    refine J_icmp_ge Y qX9_stop_64 (by omega) (by omega) (by omega) (by omega) (fun h64 => ?_) (fun h64 => ?_)
    · obtain rfl : i = c := by omega
      exact hK B _ x5
    · refine J_iload_3 Y qX9_stop_67 ?_
      refine J_if_le Y qX9_stop_68 (by omega) (by omega) (fun h68 => ?_) (fun h68 => ?_)
      · exfalso; omega
      · refine J_iload_4 Y qX9_stop_71 ?_
        refine J_iload_1 Y qX9_stop_73 ?_
        refine J_icmp_eq Y qX9_stop_74 (by omega) (by omega) (by omega) (by omega) (fun h74 => ?_) (fun h74 => ?_)
        · refine J_iinc_4 Y qX9_stop_87 rfl ?_
          refine J_goto Y qX9_stop_90 ?_
          first
            | exact ih (i + 1) B2 _ (by omega) (by omega)
            | (have e : wgh A fr mi (wF1 A fr mi acc i) (2 ^ i) = wF1 A fr mi acc i := wgh_in (by
                 rw [Nat.testBit_two_pow]
                 simp; omega)
               have ih9 := ih (i + 1) B x5 (by omega) (by omega)
               rw [wF1, e] at ih9
               exact ih9)
        · refine J_aloadr_0 Y qX9_stop_77 ?_
          refine J_iload_1 Y qX9_stop_78 ?_
          refine J_iload_2 Y qX9_stop_79 ?_
          refine J_iconst Y qX9_stop_80 ?_
          refine J_iload_4 Y qX9_stop_81 ?_
          refine J_shl1 Y i qX9_stop_83 rfl (by omega) ?_
          refine J_cV3V Y qX9_stop_84 mX9_225 iyX9_tries (by decide) rfl (by decide) rfl (Nat.le_of_ble_eq_true rfl) (m_tries (A := A) (c := c) _ _ _ hI hM hc c14 hfr mi1 mi2 (set := 2 ^ i) (pow_lt14 (by omega)) (by rw [Nat.testBit_two_pow]; simp; omega) (wF1_rng hI hc c14 fr mi ac i).1 (wF1_rng hI hc c14 fr mi ac i).2) (fun M2 h84 => ?_)
          obtain ⟨B2, rfl⟩ := h84
          refine J_iinc_4 Y qX9_stop_87 rfl ?_
          refine J_goto Y qX9_stop_90 ?_
          first
            | exact ih (i + 1) B2 _ (by omega) (by omega)
            | (have e : wgh A fr mi (wF1 A fr mi acc i) (2 ^ i) = wF1 A fr mi acc i := wgh_in (by
                 rw [Nat.testBit_two_pow]
                 simp; omega)
               have ih9 := ih (i + 1) B x5 (by omega) (by omega)
               rw [wF1, e] at ih9
               exact ih9)

theorem lp_ms93 {l : Launch} {G : Gx} {E : Fx} {M : Mem} {A : Mem} {m c : Nat} (hI : Inv m A) (hM : MR A M) (hc : A 0 0 2 = (c : Int)) (c14 : c ≤ 14) {fr : Nat} {mi : Int} (hfr : fr < c) (mi1 : 0 ≤ mi) (mi2 : mi ≤ 999) {kk : Int} (k1 : 0 ≤ kk) (k2 : kk ≤ 2) {acc : Int × Int} (ac : 0 ≤ acc.2 ∧ acc.2 ≤ 2147483647) (hS : f_stop A (fr : Int) mi kk = (if 2 ≤ kk then (wF3 A fr mi acc c).1 else acc.1, A)) (X : OkM l G E cX9_stop RX9 6 5 (some .int) (QR (f_stop A (fr : Int) mi kk) M)) (B : Nat → Int) (x4 x5 : Option Value) : J G E 93 [some (rf G 9 0), some (vi (fr : Int)), some (vi mi), some (vi kk), x4, x5] [] (sS M B acc) := by
  have Y := X.ok
  refine J_iconst Y qX9_stop_93 ?_
  refine J_istore_4 Y qX9_stop_94 rfl ?_
  by_cases k3 : 2 ≤ kk
  · have hF : f_stop A (fr : Int) mi kk = ((wF3 A fr mi acc c).1, A) := by rw [hS, if_pos k3]
    have h := lp_ms2 hI hM hc c14 hfr mi1 mi2 k1 k2 k3 ac (fun B2 y5 => ?_) X c 1 B x5 (by omega) (by omega) (by omega)
    · exact h
    refine J_aloadr_0 Y qX9_stop_159 ?_
    refine J_getI Y qX9_stop_160 fX9_222 (by decide) ?_
    rw [sS_33]
    exact J_iret X qX9_stop_163 (QR_e hF rfl (MR_sS hM) Sm_sS)
  · have hF : f_stop A (fr : Int) mi kk = (acc.1, A) := by rw [hS, if_neg k3]
    refine J_iload_4 Y qX9_stop_96 ?_
    refine J_aloadr_0 Y qX9_stop_98 ?_
    refine J_getI Y qX9_stop_99 fX9_89 (by decide) ?_
    rw [sS_o (by omega) (by omega), hM.r0.2.1, hc]
    refine J_icmp_ge Y qX9_stop_102 (by omega) (by omega) (by omega) (by omega) (fun h102 => ?_) (fun h102 => ?_)
    · refine J_aloadr_0 Y qX9_stop_159 ?_
      refine J_getI Y qX9_stop_160 fX9_222 (by decide) ?_
      rw [sS_33]
      exact J_iret X qX9_stop_163 (QR_e hF rfl (MR_sS hM) Sm_sS)
    · refine J_iload_3 Y qX9_stop_105 ?_
      refine J_iconst Y qX9_stop_106 ?_
      refine J_icmp_le Y qX9_stop_107 (by omega) (by omega) (by omega) (by omega) (fun h107 => ?_) (fun h107 => ?_)
      · refine J_aloadr_0 Y qX9_stop_159 ?_
        refine J_getI Y qX9_stop_160 fX9_222 (by decide) ?_
        rw [sS_33]
        exact J_iret X qX9_stop_163 (QR_e hF rfl (MR_sS hM) Sm_sS)
      · exfalso; omega

theorem r_stop (l : Launch) (G : Gx) (M : Mem) {A : Mem} {n : Nat} {a b c : Int} (a1 : -2147483648 ≤ a) (a2 : a < 2147483648) (b1 : -2147483648 ≤ b) (b2 : b < 2147483648) (c1 : -2147483648 ≤ c) (c2 : c < 2147483648) (hI : Inv n A) (hn : n < 512) (hM : MR A M)  : Ct l G 5 yX9_stop cX9_stop 6 ((Option.some Jvm.ClassFile.FieldType.int)) [rf G 9 0, vi a, vi b, vi c] M (QR (f_stop A a b c) M) := by
  refine Ct.of rfl (Nat.le_of_ble_eq_true rfl) rfl (fun E X => ?_)
  have Y := X.ok
  obtain ⟨m1, m2, m3, m4, m5, m6⟩ := hM.r0
  obtain ⟨c1, c2⟩ := hI.count
  obtain ⟨d1, d2⟩ := hI.day
  refine J_aloadr_0 Y qX9_stop_0 ?_
  refine J_iload_1 Y qX9_stop_1 ?_
  refine J_cV1B Y qX9_stop_2 mX9_101 iyX9_isShop (by decide) rfl (by decide) rfl (Nat.le_of_ble_eq_true rfl) (m_isShop _ _ _ (by omega) (by omega) (by omega) (by omega)) (fun h2 => ?_) (fun h2 => ?_)
  · refine J_ne1 Y qX9_stop_5 ?_
    refine J_iload_2 Y qX9_stop_15 ?_
    refine J_iconst Y qX9_stop_16 ?_
    refine J_sipush Y qX9_stop_17 (by decide) ?_
    refine J_cS3B Y qX9_stop_20 mX9_93 iyX9_in rfl (by decide) rfl (Nat.le_of_ble_eq_true rfl) (m_in _ _ _ (by omega) (by omega) (by omega) (by omega) (by omega) (by omega)) (fun h20 => ?_) (fun h20 => ?_)
    · refine J_eq1 Y qX9_stop_23 ?_
      refine J_iload_3 Y qX9_stop_26 ?_
      refine J_iconst Y qX9_stop_27 ?_
      refine J_iconst Y qX9_stop_28 ?_
      refine J_cS3B Y qX9_stop_29 mX9_93 iyX9_in rfl (by decide) rfl (Nat.le_of_ble_eq_true rfl) (m_in _ _ _ (by omega) (by omega) (by omega) (by omega) (by omega) (by omega)) (fun h29 => ?_) (fun h29 => ?_)
      · refine J_ne1 Y qX9_stop_32 ?_
        obtain ⟨fr, rfl⟩ := nat_of (show 0 ≤ a by omega)
        obtain ⟨k, hk⟩ := nat_of c1
        have w0 := wgh_rng hI hk (by omega) fr b 0 (acc := (M 9 0 33, 1000000)) ⟨show (0 : Int) ≤ 1000000 by decide, show (1000000 : Int) ≤ 2147483647 by decide⟩
        refine J_aloadr_0 Y qX9_stop_42 ?_
        refine J_ldc Y qX9_stop_43 kX9_196 ?_
        refine J_putI Y qX9_stop_45 fX9_219w (by decide) ?_
        rw [sS_self]
        refine J_aloadr_0 Y qX9_stop_48 ?_
        refine J_iload_1 Y qX9_stop_49 ?_
        refine J_iload_2 Y qX9_stop_50 ?_
        refine J_iconst Y qX9_stop_51 ?_
        refine J_cV3V Y qX9_stop_52 mX9_225 iyX9_tries (by decide) rfl (by decide) rfl (Nat.le_of_ble_eq_true rfl) (m_tries (A := A) (c := k) _ _ _ hI hM hk (by omega) (by omega) (by omega) (by omega) (set := 0) (by decide) (by simp) (show (0 : Int) ≤ 1000000 by decide) (show (1000000 : Int) ≤ 2147483647 by decide)) (fun M2 h52 => ?_)
        obtain ⟨B2, rfl⟩ := h52
        refine J_iconst Y qX9_stop_55 ?_
        refine J_istore_4 Y qX9_stop_56 rfl ?_
        have hS : f_stop A (fr : Int) b c = ((stpV A fr b c (M 9 0 33, 1000000)).1, A) := by
          unfold f_stop
          rw [if_neg (by omega), if_neg (by omega), Int.toNat_natCast, stpV_first hI hk (by omega) fr b c (0, 1000000) (M 9 0 33, 1000000) (by decide) (Int.le_refl _)]
        unfold stpV at hS
        simp only [hk, Int.toNat_natCast] at hS
        by_cases k3 : 1 ≤ c
        · rw [if_pos k3] at hS
          refine lp_ms1 hI hM hk (by omega) (by omega) (by omega) (by omega) (by omega) (by omega) k3 w0 (fun B3 x4 x5 => ?_) X (k + 1) 0 B2 _ (by omega) (by omega)
          exact lp_ms93 hI hM hk (by omega) (by omega) (by omega) (by omega) (by omega) (by omega) (wF1_rng hI hk (by omega) fr b w0 k) (by rw [hS]; split <;> rfl) X B3 x4 x5
        · rw [if_neg k3] at hS
          have hS2 : f_stop A (fr : Int) b c = (if 2 ≤ c then (wF3 A fr b (wgh A fr b (M 9 0 33, 1000000) 0) k).1 else (wgh A fr b (M 9 0 33, 1000000) 0).1, A) := by rw [hS]; split <;> rfl
          refine J_iload_4 Y qX9_stop_58 ?_
          refine J_aloadr_0 Y qX9_stop_60 ?_
          refine J_getI Y qX9_stop_61 fX9_89 (by decide) ?_
          rw [sS_o (by omega) (by omega), hM.r0.2.1, hk]
          refine J_icmp_ge Y qX9_stop_64 (by omega) (by omega) (by omega) (by omega) (fun h64 => ?_) (fun h64 => ?_)
          · exact lp_ms93 hI hM hk (by omega) (by omega) (by omega) (by omega) (by omega) (by omega) w0 hS2 X _ _ _
          · refine J_iload_3 Y qX9_stop_67 ?_
            refine J_if_le Y qX9_stop_68 (by omega) (by omega) (fun h68 => ?_) (fun h68 => ?_)
            · exact lp_ms93 hI hM hk (by omega) (by omega) (by omega) (by omega) (by omega) (by omega) w0 hS2 X _ _ _
            · exfalso; omega
      · refine J_ne0 Y qX9_stop_32 ?_
        refine J_aloadr_0 Y qX9_stop_35 ?_
        refine J_bipush Y qX9_stop_36 (by decide) ?_
        refine J_cV1F Y qX9_stop_38 mX9_97 iyX9_refuse (by decide) rfl (by decide) rfl (Nat.le_of_ble_eq_true rfl) (m_refuse _ _ _ 7 (by decide) rfl) ?_
        exact J_iret X qX9_stop_41 (QR_e (by
          unfold f_stop
          try simp only [Int.toNat_natCast]
          repeat (first | rewrite [if_pos trivial] | rewrite [if_pos (by omega)] | rewrite [if_neg (by omega)])
          exact rfl) (by first | rfl | (dsimp only; omega)) (by first | exact hM | exact MR_rfs hM (by decide)) (by first | exact Sm.rfl' | exact Sm_up (Or.inl (by decide))))
    · refine J_eq0 Y qX9_stop_23 ?_
      refine J_aloadr_0 Y qX9_stop_35 ?_
      refine J_bipush Y qX9_stop_36 (by decide) ?_
      refine J_cV1F Y qX9_stop_38 mX9_97 iyX9_refuse (by decide) rfl (by decide) rfl (Nat.le_of_ble_eq_true rfl) (m_refuse _ _ _ 7 (by decide) rfl) ?_
      exact J_iret X qX9_stop_41 (QR_e (by
        unfold f_stop
        try simp only [Int.toNat_natCast]
        repeat (first | rewrite [if_pos trivial] | rewrite [if_pos (by omega)] | rewrite [if_neg (by omega)])
        exact rfl) (by first | rfl | (dsimp only; omega)) (by first | exact hM | exact MR_rfs hM (by decide)) (by first | exact Sm.rfl' | exact Sm_up (Or.inl (by decide))))
  · refine J_ne0 Y qX9_stop_5 ?_
    refine J_aloadr_0 Y qX9_stop_8 ?_
    refine J_bipush Y qX9_stop_9 (by decide) ?_
    refine J_cV1F Y qX9_stop_11 mX9_97 iyX9_refuse (by decide) rfl (by decide) rfl (Nat.le_of_ble_eq_true rfl) (m_refuse _ _ _ 3 (by decide) rfl) ?_
    exact J_iret X qX9_stop_14 (QR_e (by
      unfold f_stop
      try simp only [Int.toNat_natCast]
      repeat (first | rewrite [if_pos trivial] | rewrite [if_pos (by omega)] | rewrite [if_neg (by omega)])
      exact rfl) (by first | rfl | (dsimp only; omega)) (by first | exact hM | exact MR_rfs hM (by decide)) (by first | exact Sm.rfl' | exact Sm_up (Or.inl (by decide))))


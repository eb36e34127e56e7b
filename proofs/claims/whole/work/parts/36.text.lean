/-! ===== texts ===== -/
def tx (G : Gx) (i : Nat) : Value := .ref (adK G i)
def tv (G : Gx) (i : Nat) : Value := .ref (adV G i)
def sC (i j : Nat) : Int := ((sByt.getD i []).getD j 0).toInt
def sN (i : Nat) : Nat := sLen.getD i 0
theorem sC_rng : ∀ i, i < 10 → ∀ j, j < 6 → 0 ≤ sC i j ∧ sC i j ≤ 127 := by decide +kernel
theorem sN_rng : ∀ i, i < 10 → sN i ≤ 6 := by decide +kernel
def MTx (y : MethodName) : Prop := Cond.instanceMethod y ∈ lw_k ∧ Cond.selects "java/lang/String" y y ∈ lw_k
theorem ty_len : MTx yJ0_length_8abf5 := ⟨in_t 512 (by decide +kernel) (by decide +kernel), in_t 513 (by decide +kernel) (by decide +kernel)⟩
theorem ty_cod : MTx yJ0_coder_7d493 := ⟨in_t 516 (by decide +kernel) (by decide +kernel), in_t 517 (by decide +kernel) (by decide +kernel)⟩
theorem ty_chr : MTx yJ0_charAt_5068e := ⟨in_t 522 (by decide +kernel) (by decide +kernel), in_t 523 (by decide +kernel) (by decide +kernel)⟩
theorem ty_lat : MTx yJ0_isLatin1_aae02 := ⟨in_t 526 (by decide +kernel) (by decide +kernel), in_t 527 (by decide +kernel) (by decide +kernel)⟩
theorem tl_val : Cond.fieldLink "java/lang/String" 9 "java/lang/String" "value" "[B" ∈ lw_k := in_t 1159 (by decide +kernel) (by decide +kernel)
theorem tl_cod : Cond.fieldLink "java/lang/String" 15 "java/lang/String" "coder" "B" ∈ lw_k := in_t 1160 (by decide +kernel) (by decide +kernel)
theorem tl_cmp : Cond.fieldLink "java/lang/String" 38 "java/lang/String" "COMPACT_STRINGS" "Z" ∈ lw_k := in_t 519 (by decide +kernel) (by decide +kernel)
theorem tl_fmt : Cond.fieldLink "java/lang/String" 1053 "jdk/internal/util/Preconditions" "SIOOBE_FORMATTER" "Ljava/util/function/BiFunction;" ∈ lw_k := in_t 535 (by decide +kernel) (by decide +kernel)
section TEXT
variable {G : Gx} {E : Fx} {cc : ByteArray} {own : String} {nL d pc pc2 : Nat} {L : List (Option Value)} {st : List Value} {M : Mem}
theorem J_ldcS (X : Ok G E cc "BazaarBook$Tape" nL d) (i : Nat) {ix : Nat} (q : Ins cc pc 2 pc2 (.ldc ix)) (hi : i < 10) (hix : sIx.getD i 0 = ix) (k : J G E pc2 L (tx G i :: st) M) : J G E pc L st M := by
  obtain ⟨p, l, e, R, s, m, args, below, meth, c, cells, slots, Q⟩ := E
  obtain ⟨hx, hb, hml, hown, hK, hR, hce, hsl⟩ := X
  obtain ⟨q1, rfl⟩ := q
  intro H locs ls hw hs hl
  have hZ := hK.2.2.2.2.1 i hi
  rw [hix] at hZ
  exact va_ldcS hx hb hown hZ q1 (k H locs ls hw hs hl)
theorem J_getTv (X : Ok G E cc "java/lang/String" nL d) {i : Nat} (q : Ins cc pc 3 pc2 (.getfield 9)) (hi : i < 10) (k : J G E pc2 L (tv G i :: st) M) : J G E pc L (tx G i :: st) M := by
  obtain ⟨p, l, e, R, s, m, args, below, meth, c, cells, slots, Q⟩ := E
  obtain ⟨hx, hb, hml, hown, hK, hR, hce, hsl⟩ := X
  obtain ⟨q1, rfl⟩ := q
  intro H locs ls hw hs hl
  exact vk_getf hx hb (hK.2.2.2.1.1 i hi).2.2.1 hs hown (hK.wk tl_val args) (fun x h => h) q1 (k H locs ls hw hs hl)
theorem J_getTc (X : Ok G E cc "java/lang/String" nL d) {i : Nat} (q : Ins cc pc 3 pc2 (.getfield 15)) (hi : i < 10) (k : J G E pc2 L (vi 0 :: st) M) : J G E pc L (tx G i :: st) M := by
  obtain ⟨p, l, e, R, s, m, args, below, meth, c, cells, slots, Q⟩ := E
  obtain ⟨hx, hb, hml, hown, hK, hR, hce, hsl⟩ := X
  obtain ⟨q1, rfl⟩ := q
  intro H locs ls hw hs hl
  exact vk_getf hx hb (hK.2.2.2.1.1 i hi).2.1 hs hown (hK.wk tl_cod args) (fun x h => h) q1 (k H locs ls hw hs hl)
theorem J_alenT (X : Ok G E cc own nL d) {i : Nat} (q : Ins cc pc 1 pc2 (.arraylength)) (hi : i < 10) (k : J G E pc2 L (vi (sN i : Int) :: st) M) : J G E pc L (tv G i :: st) M := by
  obtain ⟨p, l, e, R, s, m, args, below, meth, c, cells, slots, Q⟩ := E
  obtain ⟨hx, hb, hml, hown, hK, hR, hce, hsl⟩ := X
  obtain ⟨q1, rfl⟩ := q
  intro H locs ls hw hs hl
  exact va_tlen hx hb (hK.2.2.2.1.1 i hi).2.2.2 hs (ofI_nat (sN i)).symm q1 (k H locs ls hw hs hl)
theorem J_baloadT (X : Ok G E cc own nL d) {i : Nat} (j : Nat) {x : Int} (q : Ins cc pc 1 pc2 (.baload)) (hi : i < 10) (hx9 : x = (j : Int)) (hj : j < sN i) (k : J G E pc2 L (vi (sC i j) :: st) M) : J G E pc L (vi x :: tv G i :: st) M := by
  obtain ⟨p, l, e, R, s, m, args, below, meth, c, cells, slots, Q⟩ := E
  obtain ⟨hx, hb, hml, hown, hK, hR, hce, hsl⟩ := X
  obtain ⟨q1, rfl⟩ := q
  subst hx9
  intro H locs ls hw hs hl
  have h6 := sN_rng i hi
  refine va_tb hx hb (hK.2.2.2.1.1 i hi).2.2.2 hs (i32_in (by omega) (by show (j : Int) < (sN i : Nat); omega) (by show sN i ≤ _; omega)) ?_ q1 (k H locs ls hw hs hl)
  rw [i32_cl (by omega) (by omega), Int.toNat_natCast]
  show Value.int _ = vi (sC i j)
  rw [vi, sC, ofI_toI]
theorem J_gets1 (X : Ok G E cc "java/lang/String" nL d) (q : Ins cc pc 3 pc2 (.getstatic 38)) (k : J G E pc2 L (vi 1 :: st) M) : J G E pc L st M := by
  obtain ⟨p, l, e, R, s, m, args, below, meth, c, cells, slots, Q⟩ := E
  obtain ⟨hx, hb, hml, hown, hK, hR, hce, hsl⟩ := X
  obtain ⟨q1, rfl⟩ := q
  intro H locs ls hw hs hl
  exact va_gets hx hb hK.2.2.2.2.2.1 hs hown (hK.wk tl_cmp args) (fun x h => h) q1 (k H locs ls hw hs hl)
theorem J_getsq (X : Ok G E cc "java/lang/String" nL d) (q : Ins cc pc 3 pc2 (.getstatic 1053)) (k0 : J G E pc2 L (.null :: st) M) (k : ∀ t : Nat, J G E pc2 L (.ref t :: st) M) : J G E pc L st M := by
  obtain ⟨p, l, e, R, s, m, args, below, meth, c, cells, slots, Q⟩ := E
  obtain ⟨hx, hb, hml, hown, hK, hR, hce, hsl⟩ := X
  obtain ⟨q1, rfl⟩ := q
  intro H locs ls hw hs hl
  rcases hK.2.2.2.2.2.2 with hZ | ⟨t, hZ⟩
  · exact va_gets hx hb hZ hs hown (hK.wk tl_fmt args) (fun x h => h) q1 (k0 H locs ls hw hs hl)
  · exact va_gets hx hb hZ hs hown (hK.wk tl_fmt args) (fun x h => h) q1 (k t H locs ls hw hs hl)
theorem J_i2c (X : Ok G E cc own nL d) {a : Int} (q : Ins cc pc 1 pc2 (.i2c)) (a1 : 0 ≤ a) (a2 : a ≤ 255) (k : J G E pc2 L (vi a :: st) M) : J G E pc L (vi a :: st) M := by
  obtain ⟨p, l, e, R, s, m, args, below, meth, c, cells, slots, Q⟩ := E
  obtain ⟨hx, hb, hml, hown, hK, hR, hce, hsl⟩ := X
  obtain ⟨q1, rfl⟩ := q
  intro H locs ls hw hs hl
  refine lv_i2c hx hb q1 ?_ (k H locs ls hw hs hl)
  obtain ⟨n, rfl⟩ := Int.eq_ofNat_of_zero_le a1
  rw [ofI_nat, pk_char, pk_tn (by omega), Nat.mod_eq_of_lt (by omega)]
theorem J_cret {l : Launch} {P : Option Value → Mem → Prop} {ty : FieldType} (X : OkM l G E cc own nL d (some ty) P) {z : Int} (q : Ins cc pc 1 pc2 (.ireturn)) (hn : narrow ty (vi z) = vi z) (hp : P (some (vi z)) M) : J G E pc L [vi z] M := by
  obtain ⟨p, l, e, R, s, m, args, below, meth, c, cells, slots, Q⟩ := E
  obtain ⟨⟨hx, hb, hml, hown, hK, hR, hce, hsl⟩, -, hr, hlk, hQ⟩ := X
  obtain ⟨q1, rfl⟩ := q
  subst hQ
  intro H locs ls hw hs hl
  exact W.zret (v := Int32.ofInt z) hx hb hr hn (fun t ht hW => ⟨⟨_, M, rfl, hp, by rw [ht]; exact hw⟩, hs.F ht⟩) hs.2.2 q1 hlk
theorem char_n {z : Int} (h1 : 0 ≤ z) (h2 : z ≤ 255) : narrow .char (vi z) = vi z := by
  obtain ⟨n, rfl⟩ := Int.eq_ofNat_of_zero_le h1
  rw [vi_nat]
  exact (pk_charN (by omega)).1
theorem J_callT (X : Ok G E cc own nL d) {ix : Nat} {y : MethodName} {bytes : ByteArray} {mL n i d0 : Nat} {ret : Option FieldType} {as : List Value} {P : Option Value → Mem → Prop} (q : Ins cc pc 3 pc2 (.invokevirtual ix)) (hm : MLk own ix y bytes mL ret n) (hin : MTx y) (hi : i < 10) (hn : as.length = n) (hd : d0 < d) (hL : L.length = nL) (hst : (st.map fun v => v.category).sum ≤ 8)
    (hc : Ct (lau E) G d0 y bytes mL ret (tx G i :: as) M P) (k : ∀ r M2, P r M2 → J G E pc2 L (r.toList ++ st) M2) : J G E pc L (as.reverse ++ tx G i :: st) M := by
  obtain ⟨p, l, e, R, s, m, args, below, meth, c, cells, slots, Q⟩ := E
  obtain ⟨hx, hb, hml, hown, hK, hR, hce, hsl⟩ := X
  obtain ⟨q1, rfl⟩ := q
  obtain ⟨hcode, hlk, hini, hd2, hmL⟩ := hm
  obtain ⟨hinst, hsel⟩ := hin
  intro H locs ls hw hs hl
  have hts : ∀ w ∈ lw_k, w.before args s = true := fun w h => hK.wk h args
  have hre := vk_recv hK.2.2.2.1 hi hs
  have hpre : PreV s H "java/lang/String" (adK G i) (va_Pc (tx G i :: as) (fun U => Kn G U ∧ HW G M U.heap)) as := ⟨blind, hre, fun U hU hW => ⟨rfl, hK.moved (locs := locs) hW (by rw [hU]; exact hs), by rw [hU]; exact hw⟩⟩
  have hRm : (rmd d0).frames + 1 ≤ R.frames ∧ 8 + (mL + 11) + (rmd d0).locals ≤ R.locals := by
    simp only [rmd]
    omega
  have hsz : (F0 m pc ls (as.reverse ++ tx G i :: st)).locals.size = nL := by show ls.size = nL; rw [hl.1, hL]
  rcases hlk with hlk | ⟨host, hlk⟩
  · exact J_back (va_runV (As := as) (rest := st) ⟨hx, hb, hml, hown, hts⟩ hc ⟨callB_of n hts (good1 hcode) rfl rfl rfl (hts _ hini) (hts _ hlk) hd2 hRm, hts _ hinst, hts _ hsel⟩ hpre rfl hn hsz rfl (lv_room hst) q1 ⟨hce, hsl⟩) hs hl k
  · exact J_back (va_runVN (As := as) (rest := st) ⟨hx, hb, hml, hown, hts⟩ hc ⟨va_cnB n hts (good1 hcode) rfl rfl rfl (va_Nw.of rfl (hts _ hlk)) (hts _ hini) hd2 hRm, hts _ hinst, hts _ hsel⟩ hpre rfl hn hsz rfl (lv_room hst) q1 ⟨hce, hsl⟩) hs hl k
theorem J_cT0P (X : Ok G E cc own nL d) {ix : Nat} {y : MethodName} {bytes : ByteArray} {mL n i d0 : Nat} {ret : Option FieldType} {e : Int} (q : Ins cc pc 3 pc2 (.invokevirtual ix)) (hm : MLk own ix y bytes mL ret n) (hin : MTx y) (hi : i < 10) (hn : 0 = n) (hd : d0 < d) (hL : L.length = nL) (hst : (st.map fun v => v.category).sum ≤ 8) (hc : Ct (lau E) G d0 y bytes mL ret [tx G i] M (RP M e)) (k : J G E pc2 L (vi e :: st) M) : J G E pc L (tx G i :: st) M := J_callT (as := []) X q hm hin hi hn hd hL hst hc (fun r M2 h9 => by obtain ⟨rfl, rfl⟩ := h9; exact k)
theorem J_cT1P (X : Ok G E cc own nL d) {ix : Nat} {y : MethodName} {bytes : ByteArray} {mL n i d0 : Nat} {ret : Option FieldType} {e : Int} {v : Value} (q : Ins cc pc 3 pc2 (.invokevirtual ix)) (hm : MLk own ix y bytes mL ret n) (hin : MTx y) (hi : i < 10) (hn : 1 = n) (hd : d0 < d) (hL : L.length = nL) (hst : (st.map fun v => v.category).sum ≤ 8) (hc : Ct (lau E) G d0 y bytes mL ret [tx G i, v] M (RP M e)) (k : J G E pc2 L (vi e :: st) M) : J G E pc L (v :: tx G i :: st) M := J_callT (as := [v]) X q hm hin hi hn hd hL hst hc (fun r M2 h9 => by obtain ⟨rfl, rfl⟩ := h9; exact k)
end TEXT
theorem c_coder (l : Launch) (G : Gx) (M : Mem) {i : Nat} (hi : i < 10) : Ct l G 1 yJ0_coder_7d493 cJ0_coder_7d493 1 (some .byte) [tx G i] M (RP M 0) := by
  refine Ct.of rfl (Nat.le_of_ble_eq_true rfl) rfl (fun E X => ?_)
  have Y := X.ok
  refine J_gets1 Y qJ0_coder_7d493_0 ?_
  refine J_eq1 Y qJ0_coder_7d493_3 ?_
  refine J_aload_0 Y qJ0_coder_7d493_6 ?_
  refine J_getTc Y qJ0_coder_7d493_7 hi ?_
  refine J_goto Y qJ0_coder_7d493_10 ?_
  exact J_cret X qJ0_coder_7d493_14 (by decide) (RP_i rfl)
theorem c_isLatin1 (l : Launch) (G : Gx) (M : Mem) {i : Nat} (hi : i < 10) : Ct l G 1 yJ0_isLatin1_aae02 cJ0_isLatin1_aae02 1 (some .boolean) [tx G i] M (RP M 1) := by
  refine Ct.of rfl (Nat.le_of_ble_eq_true rfl) rfl (fun E X => ?_)
  have Y := X.ok
  refine J_gets1 Y qJ0_isLatin1_aae02_0 ?_
  refine J_eq1 Y qJ0_isLatin1_aae02_3 ?_
  refine J_aload_0 Y qJ0_isLatin1_aae02_6 ?_
  refine J_getTc Y qJ0_isLatin1_aae02_7 hi ?_
  refine J_ne0 Y qJ0_isLatin1_aae02_10 ?_
  refine J_iconst Y qJ0_isLatin1_aae02_13 ?_
  refine J_goto Y qJ0_isLatin1_aae02_14 ?_
  exact J_cret X qJ0_isLatin1_aae02_18 (by decide) (RP_i rfl)
theorem c_length (l : Launch) (G : Gx) (M : Mem) {i : Nat} (hi : i < 10) : Ct l G 2 yJ0_length_8abf5 cJ0_length_8abf5 1 (some .int) [tx G i] M (RP M (sN i)) := by
  refine Ct.of rfl (Nat.le_of_ble_eq_true rfl) rfl (fun E X => ?_)
  have Y := X.ok
  have h6 := sN_rng i hi
  refine J_aload_0 Y qJ0_length_8abf5_0 ?_
  refine J_getTv Y qJ0_length_8abf5_1 hi ?_
  refine J_alenT Y qJ0_length_8abf5_4 hi ?_
  refine J_aload_0 Y qJ0_length_8abf5_5 ?_
  refine J_cT0P Y qJ0_length_8abf5_6 mJ0_335 ty_cod hi rfl (by decide) rfl (Nat.le_of_ble_eq_true rfl) (c_coder _ _ _ hi) ?_
  refine J_ishr Y 0 qJ0_length_8abf5_9 rfl (by decide) (by omega) (by omega) ?_
  exact J_iret X qJ0_length_8abf5_10 (RP_i (by simp))
theorem c_chk3 (l : Launch) (G : Gx) (M : Mem) {i n : Int} {v : Value} (hv : v = .null ∨ ∃ t, v = .ref t) (h0 : 0 ≤ i) (h1 : i < n) (h2 : n ≤ 100) : Ct l G 1 yJ3_checkIndex_8e157 cJ3_checkIndex_8e157 3 (some .int) [vi i, vi n, v] M (RP M i) := by
  rcases hv with rfl | ⟨t, rfl⟩ <;>
  · refine Ct.of rfl (Nat.le_of_ble_eq_true rfl) rfl (fun E X => ?_)
    have Y := X.ok
    refine J_iload_0 Y qJ3_checkIndex_8e157_0 ?_
    refine J_if_lt Y qJ3_checkIndex_8e157_1 (by omega) (by omega) (fun h => ?_) (fun h => ?_)
    · exfalso; omega
    · refine J_iload_0 Y qJ3_checkIndex_8e157_4 ?_
      refine J_iload_1 Y qJ3_checkIndex_8e157_5 ?_
      refine J_icmp_lt Y qJ3_checkIndex_8e157_6 (by omega) (by omega) (by omega) (by omega) (fun h => ?_) (fun h => ?_)
      · refine J_iload_0 Y qJ3_checkIndex_8e157_16 ?_
        exact J_iret X qJ3_checkIndex_8e157_17 (RP_i rfl)
      · exfalso; omega
theorem c_chk (l : Launch) (G : Gx) (M : Mem) {i n : Int} (h0 : 0 ≤ i) (h1 : i < n) (h2 : n ≤ 100) : Ct l G 2 yJ0_checkIndex_df160 cJ0_checkIndex_df160 2 none [vi i, vi n] M (VF M) := by
  refine Ct.of rfl (Nat.le_of_ble_eq_true rfl) rfl (fun E X => ?_)
  have Y := X.ok
  refine J_iload_0 Y qJ0_checkIndex_df160_0 ?_
  refine J_iload_1 Y qJ0_checkIndex_df160_1 ?_
  refine J_getsq Y qJ0_checkIndex_df160_2 ?_ (fun t => ?_)
  · refine J_cS3P Y qJ0_checkIndex_df160_5 mJ0_1059 iyJ3_checkIndex_8e157 rfl (by decide) rfl (Nat.le_of_ble_eq_true rfl) (c_chk3 _ _ _ (Or.inl rfl) h0 h1 h2) ?_
    refine J_pop Y qJ0_checkIndex_df160_8 rfl ?_
    exact J_vret X qJ0_checkIndex_df160_9 ⟨rfl, rfl⟩
  · refine J_cS3P Y qJ0_checkIndex_df160_5 mJ0_1059 iyJ3_checkIndex_8e157 rfl (by decide) rfl (Nat.le_of_ble_eq_true rfl) (c_chk3 _ _ _ (Or.inr ⟨t, rfl⟩) h0 h1 h2) ?_
    refine J_pop Y qJ0_checkIndex_df160_8 rfl ?_
    exact J_vret X qJ0_checkIndex_df160_9 ⟨rfl, rfl⟩
theorem c_l1charAt (l : Launch) (G : Gx) (M : Mem) {i j : Nat} (hi : i < 10) (hj : j < sN i) : Ct l G 3 yJ1_charAt_3b067 cJ1_charAt_3b067 2 (some .char) [tv G i, vi (j : Int)] M (RP M (sC i j)) := by
  refine Ct.of rfl (Nat.le_of_ble_eq_true rfl) rfl (fun E X => ?_)
  have Y := X.ok
  have h6 := sN_rng i hi
  have hc := sC_rng i hi j (by omega)
  refine J_iload_1 Y qJ1_charAt_3b067_0 ?_
  refine J_aload_0 Y qJ1_charAt_3b067_1 ?_
  refine J_alenT Y qJ1_charAt_3b067_2 hi ?_
  refine J_cS2W Y qJ1_charAt_3b067_3 mJ1_9 iyJ0_checkIndex_df160 rfl (by decide) rfl (Nat.le_of_ble_eq_true rfl) (c_chk _ _ _ (by omega) (by omega) (by omega)) ?_
  refine J_aload_0 Y qJ1_charAt_3b067_6 ?_
  refine J_iload_1 Y qJ1_charAt_3b067_7 ?_
  refine J_baloadT Y j qJ1_charAt_3b067_8 hi rfl hj ?_
  refine J_sipush Y qJ1_charAt_3b067_9 (by decide) ?_
  refine J_mask Y 8 qJ1_charAt_3b067_12 (by decide) (by decide +kernel) ?_
  rw [show sC i j % 2 ^ 8 = sC i j by omega]
  refine J_i2c Y qJ1_charAt_3b067_13 (by omega) (by omega) ?_
  exact J_cret X qJ1_charAt_3b067_14 (char_n (by omega) (by omega)) (RP_i rfl)
theorem c_charAt (l : Launch) (G : Gx) (M : Mem) {i j : Nat} (hi : i < 10) (hj : j < sN i) : Ct l G 4 yJ0_charAt_5068e cJ0_charAt_5068e 2 (some .char) [tx G i, vi (j : Int)] M (RP M (sC i j)) := by
  refine Ct.of rfl (Nat.le_of_ble_eq_true rfl) rfl (fun E X => ?_)
  have Y := X.ok
  have h6 := sN_rng i hi
  have hc := sC_rng i hi j (by omega)
  refine J_aload_0 Y qJ0_charAt_5068e_0 ?_
  refine J_cT0P Y qJ0_charAt_5068e_1 mJ0_492 ty_lat hi rfl (by decide) rfl (Nat.le_of_ble_eq_true rfl) (c_isLatin1 _ _ _ hi) ?_
  refine J_eq1 Y qJ0_charAt_5068e_4 ?_
  refine J_aload_0 Y qJ0_charAt_5068e_7 ?_
  refine J_getTv Y qJ0_charAt_5068e_8 hi ?_
  refine J_iload_1 Y qJ0_charAt_5068e_11 ?_
  refine J_cS2P Y qJ0_charAt_5068e_12 mJ0_495 iyJ1_charAt_3b067 rfl (by decide) rfl (Nat.le_of_ble_eq_true rfl) (c_l1charAt _ _ _ hi hj) ?_
  exact J_cret X qJ0_charAt_5068e_15 (char_n (by omega) (by omega)) (RP_i rfl)

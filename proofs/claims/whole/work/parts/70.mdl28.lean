/-! ===== the reference: the days of an order ===== -/
def plW (M : Mem) (mn : Int) (o b bo bb : Nat → Int) : Mem := upR (upR (upR (upR (up M 9 0 30 mn) 59 0 o) 60 0 b) 61 0 bo) 62 0 bb
section PLW
variable {M : Mem} {mn : Int} {o b bo bb : Nat → Int}
theorem plW_o {x y k : Nat} (h : x ≠ 59 ∧ x ≠ 60 ∧ x ≠ 61 ∧ x ≠ 62) (h2 : x ≠ 9 ∨ k ≠ 30) : plW M mn o b bo bb x y k = M x y k := by
  unfold plW
  rw [upR_ne (by omega), upR_ne (by omega), upR_ne (by omega), upR_ne (by omega), up_ne (by omega)]
theorem plW_30 : plW M mn o b bo bb 9 0 30 = mn := by simp [plW, up, upR]
theorem plW_59 (k : Nat) : plW M mn o b bo bb 59 0 k = o k := by simp [plW, upR]
theorem plW_60 (k : Nat) : plW M mn o b bo bb 60 0 k = b k := by simp [plW, upR]
theorem plW_61 (k : Nat) : plW M mn o b bo bb 61 0 k = bo k := by simp [plW, upR]
theorem plW_62 (k : Nat) : plW M mn o b bo bb 62 0 k = bb k := by simp [plW, upR]
theorem plW_u30 (z : Int) : up (plW M mn o b bo bb) 9 0 30 z = plW M z o b bo bb := by
  funext x y k
  simp only [plW, up, upR]
  grind
theorem plW_u59 (k : Nat) (z : Int) : up (plW M mn o b bo bb) 59 0 k z = plW M mn (fun c => if c = k then z else o c) b bo bb := by
  funext x y k
  simp only [plW, up, upR]
  grind
theorem plW_u60 (k : Nat) (z : Int) : up (plW M mn o b bo bb) 60 0 k z = plW M mn o (fun c => if c = k then z else b c) bo bb := by
  funext x y k
  simp only [plW, up, upR]
  grind
theorem plW_u61 (k : Nat) (z : Int) : up (plW M mn o b bo bb) 61 0 k z = plW M mn o b (fun c => if c = k then z else bo c) bb := by
  funext x y k
  simp only [plW, up, upR]
  grind
theorem plW_u62 (k : Nat) (z : Int) : up (plW M mn o b bo bb) 62 0 k z = plW M mn o b bo (fun c => if c = k then z else bb c) := by
  funext x y k
  simp only [plW, up, upR]
  grind
theorem plW_self (z : Int) : up M 9 0 30 z = plW M z (M 59 0) (M 60 0) (M 61 0) (M 62 0) := by
  funext x y k
  simp only [plW, up, upR]
  grind
end PLW
/-- what planning reads of the world -/
def PlH (A M : Mem) (c : Nat) : Prop := M 9 0 2 = (c : Int) ∧ (∀ s, s < c → M 42 0 s = A 5 s 1 ∧ M 41 0 s = A 5 s 0) ∧ ∀ k, k < 6 → M 56 0 k = A 12 0 k
theorem PlH_W {A M : Mem} {c : Nat} {mn : Int} {o b bo bb : Nat → Int} (h : PlH A M c) : PlH A (plW M mn o b bo bb) c := h
def stN (A : Mem) (a : Int) : Nat → Nat
  | 0 => 0
  | i + 1 => if A 5 i 1 = a then stN A a i ||| 2 ^ (A 5 i 0).toNat else stN A a i
theorem stN_bit {A : Mem} {a : Int} (t : Nat) : ∀ i, (∀ s, s < i → 0 ≤ A 5 s 0) → ((stN A a i).testBit t = true ↔ ∃ s, s < i ∧ A 5 s 1 = a ∧ A 5 s 0 = t)
  | 0, _ => by simp [stN]
  | i + 1, h => by
    have ih := stN_bit (a := a) t i (fun s hs => h s (by omega))
    have h0 := h i (by omega)
    rw [stN]
    split
    · next e =>
      rw [Nat.testBit_or, Bool.or_eq_true, ih, Nat.testBit_two_pow]
      constructor
      · rintro (⟨s, h1, h2, h3⟩ | h1)
        · exact ⟨s, by omega, h2, h3⟩
        · have : (A 5 i 0).toNat = t := by simpa using h1
          exact ⟨i, by omega, e, by omega⟩
      · rintro ⟨s, h1, h2, h3⟩
        by_cases es : s = i
        · subst es; right; simp; omega
        · left; exact ⟨s, by omega, h2, h3⟩
    · next e =>
      rw [ih]
      constructor
      · rintro ⟨s, h1, h2, h3⟩; exact ⟨s, by omega, h2, h3⟩
      · rintro ⟨s, h1, h2, h3⟩
        by_cases es : s = i
        · subst es; exact absurd h2 e
        · exact ⟨s, by omega, h2, h3⟩
theorem stN_eq {m : Nat} {A : Mem} (hI : Inv m A) {c a : Nat} (hc : A 0 0 2 = (c : Int)) (ha : a < 6) : A 13 0 a = (stN A a c : Int) := by
  obtain ⟨h1, h2⟩ := (hI.arch ha).2
  have : (A 13 0 a).toNat = stN A a c := by
    refine Nat.eq_of_testBit_eq (fun t => ?_)
    have e := stN_bit (A := A) (a := (a : Int)) t c (fun s hs => (hI.shopS (s := s) (by omega)).1.1)
    have e2 := h2 t
    cases hb : (stN A a c).testBit t with
    | true =>
      obtain ⟨s, q1, q2, q3⟩ := e.mp hb
      exact e2.mpr ⟨s, by omega, q2, q3⟩
    | false =>
      refine Bool_no (fun z => ?_)
      obtain ⟨s, q1, q2, q3⟩ := e2.mp z
      rw [e.mpr ⟨s, by omega, q2, q3⟩] at hb
      cases hb
  omega
theorem stN_lt {m : Nat} {A : Mem} (hI : Inv m A) {a : Int} : ∀ i : Nat, (i : Int) ≤ A 0 0 2 → stN A a i < 32
  | 0, _ => by simp [stN]
  | i + 1, h => by
    have ih := stN_lt hI (a := a) i (by omega)
    have := (hI.shopS (s := i) (by omega)).1
    rw [stN]
    split
    · exact Nat.or_lt_two_pow (n := 5) ih (Nat.pow_lt_pow_right (by decide) (by omega))
    · exact ih
theorem canB_end {A : Mem} {l : List (Nat × Int)} {a : Nat} {d : Int} (h : daysL A l ≤ d) : canB A l a d = true := by
  have h1 : ∀ x ∈ l, endD A x ≤ d := fun x hx => by have := daysL_ge A hx; omega
  rw [canB, Bool.and_eq_true, decide_eq_true_eq]
  constructor
  · rw [freeB, List.all_eq_true]
    intro x hx
    rw [decide_eq_true (h1 x hx)]; rfl
  · have : bsyN A d l = 0 := by
      clear h
      induction l with
      | nil => rfl
      | cons y l ih =>
        have := h1 y List.mem_cons_self
        rw [bsyN, ih (fun x hx => h1 x (List.mem_cons_of_mem _ hx)), if_neg (by omega)]; rfl
    omega
theorem lp_mstr {l : Launch} {G : Gx} {E : Fx} {d : Nat} {M : Mem} {A : Mem} {m c : Nat} (hI : Inv m A) (hH : PlH A M c) (hc : A 0 0 2 = (c : Int)) (c14 : c ≤ 14) {a : Nat} (ha : a < 6) (X : OkM l G E cX9_streets RX9 4 d (some .int) (RP M (A 13 0 a))) : ∀ (n i : Nat), i ≤ c → c < i + n → J G E 4 [some (rf G 9 0), some (vi (a : Int)), some (vi (stN A a i : Int)), some (vi (i : Int))] [] M := by
  have Y := X.ok
  intro n
  induction n with
  | zero => intro i h1 h2; exfalso; omega
  | succ n ih =>
    intro i h1 h2
    refine J_iload_3 Y qX9_streets_4 ?_
    refine J_aloadr_0 Y qX9_streets_5 ?_
    refine J_getI Y qX9_streets_6 fX9_89 (by decide) ?_
    rw [hH.1]
    refine J_icmp_ge Y qX9_streets_9 (by omega) (by omega) (by omega) (by omega) (fun h9 => ?_) (fun h9 => ?_)
    · obtain rfl : i = c := by omega
      refine J_iload_2 Y qX9_streets_43 ?_
      exact J_iret X qX9_streets_44 (RP_i (stN_eq hI hc ha).symm)
    · have si := hI.shopS (s := i) (by omega)
      unfold IvS at si
      obtain ⟨g1, g2⟩ := hH.2.1 i (by omega)
      obtain ⟨st, hst⟩ := nat_of si.1.1
      refine J_iload_2 Y qX9_streets_12 ?_
      refine J_aloadr_0 Y qX9_streets_13 ?_
      refine J_getR Y qX9_streets_14 fX9_16 (by decide) ?_
      refine J_iload_3 Y qX9_streets_17 ?_
      refine J_ialoadN (kx := i) Y qX9_streets_18 rfl (by decide) rfl (by omega) (by decide) ?_
      rw [g1]
      refine J_iload_1 Y qX9_streets_19 ?_
      refine J_icmp_ne Y qX9_streets_20 (by omega) (by omega) (by omega) (by omega) (fun h20 => ?_) (fun h20 => ?_)
      · refine J_iconst Y qX9_streets_34 ?_
        have ih9 := ih (i + 1) (by omega) (by omega)
        rw [stN] at ih9
        first
          | (rw [if_pos (by omega), hst, Int.toNat_natCast] at ih9
             refine J_orN (b := 2 ^ st) Y qX9_streets_35 ?_
             refine J_istore_2 Y qX9_streets_36 rfl ?_
             refine J_iinc_3 Y qX9_streets_37 rfl ?_
             refine J_goto Y qX9_streets_40 ?_
             exact ih9)
          | (rw [if_neg (by omega)] at ih9
             refine J_orN (b := 0) Y qX9_streets_35 ?_
             rw [Nat.or_zero]
             refine J_istore_2 Y qX9_streets_36 rfl ?_
             refine J_iinc_3 Y qX9_streets_37 rfl ?_
             refine J_goto Y qX9_streets_40 ?_
             exact ih9)
      · refine J_iconst Y qX9_streets_23 ?_
        refine J_aloadr_0 Y qX9_streets_24 ?_
        refine J_getR Y qX9_streets_25 fX9_13 (by decide) ?_
        refine J_iload_3 Y qX9_streets_28 ?_
        refine J_ialoadN (kx := i) Y qX9_streets_29 rfl (by decide) rfl (by omega) (by decide) ?_
        rw [g2, hst]
        refine J_shl1 Y st qX9_streets_30 rfl (by omega) ?_
        refine J_goto Y qX9_streets_31 ?_
        have ih9 := ih (i + 1) (by omega) (by omega)
        rw [stN] at ih9
        first
          | (rw [if_pos (by omega), hst, Int.toNat_natCast] at ih9
             refine J_orN (b := 2 ^ st) Y qX9_streets_35 ?_
             refine J_istore_2 Y qX9_streets_36 rfl ?_
             refine J_iinc_3 Y qX9_streets_37 rfl ?_
             refine J_goto Y qX9_streets_40 ?_
             exact ih9)
          | (rw [if_neg (by omega)] at ih9
             refine J_orN (b := 0) Y qX9_streets_35 ?_
             rw [Nat.or_zero]
             refine J_istore_2 Y qX9_streets_36 rfl ?_
             refine J_iinc_3 Y qX9_streets_37 rfl ?_
             refine J_goto Y qX9_streets_40 ?_
             exact ih9)

theorem m_streets (l : Launch) (G : Gx) (M : Mem) {A : Mem} {m c : Nat} (hI : Inv m A) (hH : PlH A M c) (hc : A 0 0 2 = (c : Int)) (c14 : c ≤ 14) {a : Nat} (ha : a < 6) : Ct l G 1 yX9_streets cX9_streets 4 ((Option.some Jvm.ClassFile.FieldType.int)) [rf G 9 0, vi (a : Nat)] M (RP M (A 13 0 a)) := by
  refine Ct.of rfl (Nat.le_of_ble_eq_true rfl) rfl (fun E X => ?_)
  have Y := X.ok
  refine J_iconst Y qX9_streets_0 ?_
  refine J_istore_2 Y qX9_streets_1 rfl ?_
  refine J_iconst Y qX9_streets_2 ?_
  refine J_istore_3 Y qX9_streets_3 rfl ?_
  exact lp_mstr hI hH hc c14 ha X (c + 1) 0 (by omega) (by omega)

theorem lp_mcanBegin {l : Launch} {G : Gx} {E : Fx} {M : Mem} {A : Mem} {m c : Nat} (hI : Inv m A) (hH : PlH A M c) (hc : A 0 0 2 = (c : Int)) (c14 : c ≤ 14) {mn : Int} {o b bo bb : Nat → Int} {l9 : List (Nat × Int)} (hh : holdL o b l9) (hok : okL A l9) (hdl : daysL A l9 ≤ 100) {pl : Nat} (hpl : l9.length = pl) (pl6 : pl < 6) {a : Nat} (ha : a < 6) (hoa : o pl = (a : Int)) {day : Int} (y0 : lastB l9 ≤ day) (y2 : day ≤ 200) (X : OkM l G E cX9_canBegin RX9 5 2 (some .boolean) (RB (plW M mn o b bo bb) (canB A l9 a day = true))) : ∀ (n i : Nat), i ≤ pl → pl < i + n → freeB A a day (l9.take i) = true → J G E 5 [some (rf G 9 0), some (vi (pl : Int)), some (vi day), some (vi (bsyN A day (l9.take i))), some (vi (i : Int))] [] (plW M mn o b bo bb) := by
  have Y := X.ok
  intro n
  induction n with
  | zero => intro i h1 h2; exfalso; omega
  | succ n ih =>
    intro i h1 h2 h3
    have hd : ∀ a, a < 6 → 1 ≤ A 12 0 a ∧ A 12 0 a ≤ 9 := fun a ha => (hI.arch ha).1
    have hT : ∀ a, a < 6 → 0 ≤ A 13 0 a ∧ A 13 0 a < 32 := fun a ha => by rw [stN_eq hI hc ha]; have := stN_lt hI (a := (a : Int)) c (by omega); omega
    have ln := lastB_nn hok
    have hb8 := bsyN_rng A day (l9.take i)
    have hl8 : (l9.take i).length ≤ 6 := by rw [List.length_take]; omega
    refine J_iload_4 Y qX9_canBegin_5 ?_
    refine J_iload_1 Y qX9_canBegin_7 ?_
    refine J_icmp_ge Y qX9_canBegin_8 (by omega) (by omega) (by omega) (by omega) (fun h8 => ?_) (fun h8 => ?_)
    · obtain rfl : i = pl := by omega
      rw [← hpl, take_all] at h3
      have hb9 := bsyN_rng A day l9
      rw [show l9.take i = l9 from by rw [← hpl]; exact take_all l9]
      refine J_iload_3 Y qX9_canBegin_82 ?_
      refine J_iconst Y qX9_canBegin_83 ?_
      refine J_icmp_ge Y qX9_canBegin_84 (by omega) (by omega) (by omega) (by omega) (fun h84 => ?_) (fun h84 => ?_)
      · refine J_iconst Y qX9_canBegin_91 ?_
        exact J_zret_f X qX9_canBegin_92 rfl (fun hz => by rw [canB, Bool.and_eq_true, decide_eq_true_eq] at hz; omega)
      · refine J_iconst Y qX9_canBegin_87 ?_
        refine J_goto Y qX9_canBegin_88 ?_
        exact J_zret_t X qX9_canBegin_92 rfl (by rw [canB, Bool.and_eq_true, decide_eq_true_eq]; exact ⟨h3, by omega⟩)
    · obtain ⟨x, hx⟩ : ∃ x, l9[i]? = some x := ⟨_, List.getElem?_eq_getElem (show i < l9.length by omega)⟩
      obtain ⟨z1, z2⟩ := hh i x hx
      obtain ⟨x1, x2, x3⟩ := hok.1 x (List.mem_of_getElem? hx)
      have xd := hd x.1 x1
      have xe := daysL_ge A (List.mem_of_getElem? hx)
      have xT := hT x.1 x1
      have aT := hT a ha
      obtain ⟨u1, hu1⟩ := nat_of xT.1
      obtain ⟨u2, hu2⟩ := nat_of aT.1
      have hts := take_s hx
      have hle : u1 &&& u2 ≤ u1 := Nat.and_le_left
      have ee : endD A x = x.2 + A 12 0 x.1 := rfl
      refine J_aloadr_0 Y qX9_canBegin_11 ?_
      refine J_getR Y qX9_canBegin_12 fX9_71 (by decide) ?_
      refine J_iload_4 Y qX9_canBegin_15 ?_
      refine J_ialoadN (kx := i) Y qX9_canBegin_17 rfl (by decide) rfl (by omega) (by decide) ?_
      rw [plW_60, z2]
      refine J_iload_2 Y qX9_canBegin_18 ?_
      refine J_icmp_gt Y qX9_canBegin_19 (by omega) (by omega) (by omega) (by omega) (fun h19 => ?_) (fun h19 => ?_)
      · exfalso; omega
      · refine J_iload_2 Y qX9_canBegin_22 ?_
        refine J_aloadr_0 Y qX9_canBegin_23 ?_
        refine J_getR Y qX9_canBegin_24 fX9_71 (by decide) ?_
        refine J_iload_4 Y qX9_canBegin_27 ?_
        refine J_ialoadN (kx := i) Y qX9_canBegin_29 rfl (by decide) rfl (by omega) (by decide) ?_
        rw [plW_60, z2]
        refine J_aloadr_0 Y qX9_canBegin_30 ?_
        refine J_getR Y qX9_canBegin_31 fX9_59 (by decide) ?_
        refine J_aloadr_0 Y qX9_canBegin_34 ?_
        refine J_getR Y qX9_canBegin_35 fX9_68 (by decide) ?_
        refine J_iload_4 Y qX9_canBegin_38 ?_
        refine J_ialoadN (kx := i) Y qX9_canBegin_40 rfl (by decide) rfl (by omega) (by decide) ?_
        rw [plW_59, z1]
        refine J_ialoadN (kx := x.1) Y qX9_canBegin_41 rfl (by decide) rfl (by omega) (by decide) ?_
        rw [plW_o (by decide) (Or.inl (by decide)), hH.2.2 x.1 x1]
        refine J_iadd Y qX9_canBegin_42 ?_
        refine J_icmp_ge Y qX9_canBegin_43 (by omega) (by omega) (by omega) (by omega) (fun h43 => ?_) (fun h43 => ?_)
        · refine J_iinc_4 Y qX9_canBegin_76 rfl ?_
          refine J_goto Y qX9_canBegin_79 ?_
          have ih9 := ih (i + 1) (by omega) (by omega)
          rw [hts, bsyN_app] at ih9
          have hfr : freeB A a day (l9.take i ++ [x]) = true := by
            rw [freeB, List.all_append, Bool.and_eq_true]
            refine ⟨h3, ?_⟩
            simp only [List.all_cons, List.all_nil, Bool.and_true, Bool.or_eq_true, decide_eq_true_eq, hu1, hu2, Int.toNat_natCast]
            omega
          first
            | (rw [if_pos (by omega)] at ih9; exact ih9 hfr)
            | (rw [if_neg (by omega), Int.add_zero] at ih9; exact ih9 hfr)
        · refine J_iinc_3 Y qX9_canBegin_46 rfl ?_
          refine J_aloadr_0 Y qX9_canBegin_49 ?_
          refine J_aloadr_0 Y qX9_canBegin_50 ?_
          refine J_getR Y qX9_canBegin_51 fX9_68 (by decide) ?_
          refine J_iload_4 Y qX9_canBegin_54 ?_
          refine J_ialoadN (kx := i) Y qX9_canBegin_56 rfl (by decide) rfl (by omega) (by decide) ?_
          rw [plW_59, z1]
          refine J_cV1P Y qX9_canBegin_57 mX9_183 iyX9_streets (by decide) rfl (by decide) rfl (Nat.le_of_ble_eq_true rfl) (m_streets (A := A) (c := c) _ _ _ hI (PlH_W hH) hc c14 x1) ?_
          rw [hu1]
          refine J_aloadr_0 Y qX9_canBegin_60 ?_
          refine J_aloadr_0 Y qX9_canBegin_61 ?_
          refine J_getR Y qX9_canBegin_62 fX9_68 (by decide) ?_
          refine J_iload_1 Y qX9_canBegin_65 ?_
          refine J_ialoadN (kx := pl) Y qX9_canBegin_66 rfl (by decide) rfl (by omega) (by decide) ?_
          rw [plW_59, hoa]
          refine J_cV1P Y qX9_canBegin_67 mX9_183 iyX9_streets (by decide) rfl (by decide) rfl (Nat.le_of_ble_eq_true rfl) (m_streets (A := A) (c := c) _ _ _ hI (PlH_W hH) hc c14 ha) ?_
          rw [hu2]
          refine J_andN Y qX9_canBegin_70 ?_
          refine J_if_eq Y qX9_canBegin_71 (by omega) (by omega) (fun h71 => ?_) (fun h71 => ?_)
          · refine J_iinc_4 Y qX9_canBegin_76 rfl ?_
            refine J_goto Y qX9_canBegin_79 ?_
            have ih9 := ih (i + 1) (by omega) (by omega)
            rw [hts, bsyN_app] at ih9
            have hfr : freeB A a day (l9.take i ++ [x]) = true := by
              rw [freeB, List.all_append, Bool.and_eq_true]
              refine ⟨h3, ?_⟩
              simp only [List.all_cons, List.all_nil, Bool.and_true, Bool.or_eq_true, decide_eq_true_eq, hu1, hu2, Int.toNat_natCast]
              omega
            first
              | (rw [if_pos (by omega)] at ih9; exact ih9 hfr)
              | (rw [if_neg (by omega), Int.add_zero] at ih9; exact ih9 hfr)
          · refine J_iconst Y qX9_canBegin_74 ?_
            exact J_zret_f X qX9_canBegin_75 rfl (fun hz => by
              rw [canB, Bool.and_eq_true, freeB, List.all_eq_true] at hz
              have := hz.1 x (List.mem_of_getElem? hx)
              simp only [Bool.or_eq_true, decide_eq_true_eq, hu1, hu2, Int.toNat_natCast] at this
              omega)

theorem m_canBegin (l : Launch) (G : Gx) (M : Mem) {A : Mem} {m c : Nat} (hI : Inv m A) (hH : PlH A M c) (hc : A 0 0 2 = (c : Int)) (c14 : c ≤ 14) {mn : Int} {o b bo bb : Nat → Int} {l9 : List (Nat × Int)} (hh : holdL o b l9) (hok : okL A l9) (hdl : daysL A l9 ≤ 100) {pl : Nat} (hpl : l9.length = pl) (pl6 : pl < 6) {a : Nat} (ha : a < 6) (hoa : o pl = (a : Int)) {day : Int} (y0 : lastB l9 ≤ day) (y2 : day ≤ 200) : Ct l G 2 yX9_canBegin cX9_canBegin 5 ((Option.some Jvm.ClassFile.FieldType.boolean)) [rf G 9 0, vi (pl : Nat), vi day] (plW M mn o b bo bb) (RB (plW M mn o b bo bb) (canB A l9 a day = true)) := by
  refine Ct.of rfl (Nat.le_of_ble_eq_true rfl) rfl (fun E X => ?_)
  have Y := X.ok
  refine J_iconst Y qX9_canBegin_0 ?_
  refine J_istore_3 Y qX9_canBegin_1 rfl ?_
  refine J_iconst Y qX9_canBegin_2 ?_
  refine J_istore_4 Y qX9_canBegin_3 rfl ?_
  exact lp_mcanBegin hI hH hc c14 hh hok hdl hpl pl6 ha hoa y0 y2 X (pl + 1) 0 (by omega) (by omega) rfl

theorem extS_snoc (A : Mem) (p : List Nat) (a : Nat) (l : List (Nat × Int)) : extS A l (p ++ [a]) = addA A (extS A l p) a := by
  unfold extS
  rw [List.foldl_append]; rfl
theorem extS_ok {A : Mem} (hd : ∀ a, a < 6 → 1 ≤ A 12 0 a ∧ A 12 0 a ≤ 9) : ∀ (p : List Nat) (l : List (Nat × Int)), okL A l → (∀ a ∈ p, a < 6) → okL A (extS A l p)
  | [], l, h, _ => h
  | a :: p, l, h, hp => extS_ok hd p (addA A l a) (okL_add h (hp a List.mem_cons_self) hd).1 (fun b hb => hp b (List.mem_cons_of_mem _ hb))
theorem extS_fst (A : Mem) : ∀ (p : List Nat) (l : List (Nat × Int)), (extS A l p).map (·.1) = l.map (·.1) ++ p
  | [], l => by simp [extS]
  | a :: p, l => by
    show (extS A (addA A l a) p).map (·.1) = _
    rw [extS_fst A p (addA A l a)]
    simp [addA]
/-- a row holds an order -/
def hoP (o : Nat → Int) (p : List Nat) : Prop := ∀ i a : Nat, p[i]? = some a → o i = (a : Int)
theorem hoP_hold {A : Mem} {o b : Nat → Int} {p : List Nat} {i : Nat} (h : hoP o p) (hi : i ≤ p.length) (hb : ∀ j x, (extS A [] (p.take i))[j]? = some x → b j = x.2) : holdL o b (extS A [] (p.take i)) := by
  intro j x hx
  refine ⟨?_, hb j x hx⟩
  have e := extS_fst A (p.take i) []
  simp only [List.map_nil, List.nil_append] at e
  have e2 : (p.take i)[j]? = some x.1 := by rw [← e, List.getElem?_map, hx]; rfl
  have hj : j < i := by
    have := (List.getElem?_eq_some_iff.mp e2).1
    rw [List.length_take] at this
    omega
  rw [List.getElem?_take_of_lt hj] at e2
  exact h j x.1 e2
theorem lp_mday2 {l : Launch} {G : Gx} {E : Fx} {M : Mem} {A : Mem} {m c : Nat} (hI : Inv m A) (hH : PlH A M c) (hc : A 0 0 2 = (c : Int)) (c14 : c ≤ 14) {mn : Int} {o b bo bb : Nat → Int} {l9 : List (Nat × Int)} (hh : holdL o b l9) (hok : okL A l9) (hdl : daysL A l9 ≤ 100) {i : Nat} (hpl : l9.length = i) (pl6 : i < 6) {a : Nat} (ha : a < 6) (hoa : o i = (a : Int)) {en : Int} {P : Option Value → Mem → Prop} (hK : ∀ d, d = fdy A l9 a → J G E 44 [some (rf G 9 0), some (vi en), some (vi (i : Int)), some (vi d)] [] (plW M mn o b bo bb)) (X : OkM l G E cX9_days RX9 4 3 (some .int) P) : ∀ (n : Nat) (d : Int), lastB l9 ≤ d → d + n = daysL A l9 → dayS A l9 a n d = fdy A l9 a → J G E 29 [some (rf G 9 0), some (vi en), some (vi (i : Int)), some (vi d)] [] (plW M mn o b bo bb) := by
  have Y := X.ok
  intro n
  induction n with
  | zero =>
    intro d h1 h2 h3
    refine J_aloadr_0 Y qX9_days_29 ?_
    refine J_iload_2 Y qX9_days_30 ?_
    refine J_iload_3 Y qX9_days_31 ?_
    refine J_cV2B Y qX9_days_32 mX9_189 iyX9_canBegin (by decide) rfl (by decide) rfl (Nat.le_of_ble_eq_true rfl) (m_canBegin (A := A) (c := c) _ _ _ hI hH hc c14 hh hok hdl hpl pl6 ha hoa (by omega) (by omega)) (fun h32 => ?_) (fun h32 => ?_)
    · refine J_ne1 Y qX9_days_35 ?_
      exact hK d (by rw [← h3]; rfl)
    · refine J_ne0 Y qX9_days_35 ?_
      exact absurd (canB_end (by omega)) h32

  | succ n ih =>
    intro d h1 h2 h3
    refine J_aloadr_0 Y qX9_days_29 ?_
    refine J_iload_2 Y qX9_days_30 ?_
    refine J_iload_3 Y qX9_days_31 ?_
    refine J_cV2B Y qX9_days_32 mX9_189 iyX9_canBegin (by decide) rfl (by decide) rfl (Nat.le_of_ble_eq_true rfl) (m_canBegin (A := A) (c := c) _ _ _ hI hH hc c14 hh hok hdl hpl pl6 ha hoa (by omega) (by omega)) (fun h32 => ?_) (fun h32 => ?_)
    · refine J_ne1 Y qX9_days_35 ?_
      exact hK d (by rw [← h3, dayS, if_pos h32])
    · refine J_ne0 Y qX9_days_35 ?_
      refine J_iinc_3 Y qX9_days_38 rfl ?_
      refine J_goto Y qX9_days_41 ?_
      refine ih (d + 1) (by omega) (by omega) (by rw [← h3, dayS, if_neg h32])

theorem lp_mdays {l : Launch} {G : Gx} {E : Fx} {M : Mem} {A : Mem} {m c : Nat} (hI : Inv m A) (hH : PlH A M c) (hc : A 0 0 2 = (c : Int)) (c14 : c ≤ 14) {o bo bb : Nat → Int} {p : List Nat} (hp6 : p.length ≤ 6) (hpa : ∀ a ∈ p, a < 6) (ho : hoP o p) (X : OkM l G E cX9_days RX9 4 3 (some .int) (RI (fun z M2 => z = daysL A (extS A [] p) ∧ ∃ b2 : Nat → Int, M2 = plW M p.length o b2 bo bb ∧ holdL o b2 (extS A [] p)))) : ∀ (n i : Nat), ∀ (b : Nat → Int) (x3 : Option Value), i ≤ p.length → p.length < i + n → (∀ j x, (extS A [] (p.take i))[j]? = some x → b j = x.2) → J G E 4 [some (rf G 9 0), some (vi (daysL A (extS A [] (p.take i)))), some (vi (i : Int)), x3] [] (plW M p.length o b bo bb) := by
  have Y := X.ok
  intro n
  induction n with
  | zero => intro i b x3 h1 h2 h3; exfalso; omega
  | succ n ih =>
    intro i b x3 h1 h2 h3
    have hd : ∀ a, a < 6 → 1 ≤ A 12 0 a ∧ A 12 0 a ≤ 9 := fun a ha => (hI.arch ha).1
    have hok : okL A (extS A [] (p.take i)) := extS_ok hd _ _ (okL_nil A) (fun a ha => hpa a (List.mem_of_mem_take ha))
    have hle := extS_le hd (p.take i) [] (okL_nil A) (fun a ha => hpa a (List.mem_of_mem_take ha))
    have hlen : (extS A [] (p.take i)).length = i := by rw [extS_len, List.length_take]; simp; omega
    have ht6 : (p.take i).length ≤ 6 := by rw [List.length_take]; omega
    have hd0 : daysL A [] = 0 := rfl
    have ln := lastB_nn hok
    have ld := hok.2
    refine J_iload_2 Y qX9_days_4 ?_
    refine J_aloadr_0 Y qX9_days_5 ?_
    refine J_getI Y qX9_days_6 fX9_186 (by decide) ?_
    rw [plW_30]
    refine J_icmp_ge Y qX9_days_9 (by omega) (by omega) (by omega) (by omega) (fun h9 => ?_) (fun h9 => ?_)
    · obtain rfl : i = p.length := by omega
      rw [List.take_length] at h3 ⊢
      refine J_iload_1 Y qX9_days_92 ?_
      exact J_iret X qX9_days_93 ⟨_, rfl, rfl, b, rfl, by have := hoP_hold (A := A) (b := b) ho (Nat.le_refl _) (by rw [List.take_length]; exact h3); rw [List.take_length] at this; exact this⟩
    · obtain ⟨a, hpi⟩ : ∃ a, p[i]? = some a := ⟨_, List.getElem?_eq_getElem (show i < p.length by omega)⟩
      have ha := hpa a (List.mem_of_getElem? hpi)
      have hoi := ho i a hpi
      have hhd := hoP_hold (A := A) ho h1 h3
      have hex : extS A [] (p.take (i + 1)) = addA A (extS A [] (p.take i)) a := by rw [List.take_add_one, hpi]; exact extS_snoc A (p.take i) a []
      have hda := (okL_add hok ha hd).2.1
      have fr := fdy_rng hok a
      have za := hd a ha
      obtain ⟨x0, hx0⟩ : ∃ x, i ≠ 0 → (extS A [] (p.take i))[i - 1]? = some x := by
        by_cases e : i = 0
        · exact ⟨(0, 0), fun h => absurd e h⟩
        · have hlt : i - 1 < (extS A [] (p.take i)).length := by omega
          exact ⟨(extS A [] (p.take i))[i - 1], fun _ => List.getElem?_eq_getElem hlt⟩
      refine J_iload_2 Y qX9_days_12 ?_
      refine J_if_ne Y qX9_days_13 (by omega) (by omega) (fun h13 => ?_) (fun h13 => ?_)
      · refine J_aloadr_0 Y qX9_days_20 ?_
        refine J_getR Y qX9_days_21 fX9_71 (by decide) ?_
        refine J_iload_2 Y qX9_days_24 ?_
        refine J_iconst Y qX9_days_25 ?_
        refine J_isub Y qX9_days_26 ?_
        rw [show (i : Int) - 1 = ((i - 1 : Nat) : Int) by omega]
        refine J_ialoadN (kx := (i - 1)) Y qX9_days_27 rfl (by decide) rfl (by omega) (by decide) ?_
        refine J_eqv (w := vi (lastB (extS A [] (p.take i)))) (congrArg vi (show _ = lastB (extS A [] (p.take i)) by
          first
            | (rw [List.eq_nil_of_length_eq_zero (show (extS A [] (p.take i)).length = 0 by omega)]; rfl)
            | (have hx1 := hx0 (by omega)
               rw [plW_60, h3 (i - 1) x0 hx1, lastB, List.getLast?_eq_getElem?, hlen, hx1]))) ?_
        refine J_istore_3 Y qX9_days_28 rfl ?_
        refine lp_mday2 (l9 := (extS A [] (p.take i))) hI hH hc c14 hhd hok (by omega) hlen (by omega) ha hoi (fun d hdd => ?_) X (daysL A (extS A [] (p.take i)) - lastB (extS A [] (p.take i))).toNat (lastB (extS A [] (p.take i))) (by omega) (by omega) rfl
        refine J_aloadr_0 Y qX9_days_44 ?_
        refine J_getR Y qX9_days_45 fX9_71 (by decide) ?_
        refine J_iload_2 Y qX9_days_48 ?_
        refine J_iload_3 Y qX9_days_49 ?_
        refine J_iastoreN (kx := i) Y qX9_days_50 rfl (by decide) rfl (by omega) (by decide) ?_
        rw [plW_u60]
        refine J_iload_3 Y qX9_days_51 ?_
        refine J_aloadr_0 Y qX9_days_52 ?_
        refine J_getR Y qX9_days_53 fX9_59 (by decide) ?_
        refine J_aloadr_0 Y qX9_days_56 ?_
        refine J_getR Y qX9_days_57 fX9_68 (by decide) ?_
        refine J_iload_2 Y qX9_days_60 ?_
        refine J_ialoadN (kx := i) Y qX9_days_61 rfl (by decide) rfl (by omega) (by decide) ?_
        rw [plW_59, hoi]
        refine J_ialoadN (kx := a) Y qX9_days_62 rfl (by decide) rfl (by omega) (by decide) ?_
        rw [plW_o (by decide) (Or.inl (by decide)), hH.2.2 a ha]
        refine J_iadd Y qX9_days_63 ?_
        refine J_iload_1 Y qX9_days_64 ?_
        refine J_icmp_le Y qX9_days_65 (by omega) (by omega) (by omega) (by omega) (fun h65 => ?_) (fun h65 => ?_)
        · refine J_iload_1 Y qX9_days_84 ?_
          refine J_eqv (w := vi (daysL A (extS A [] (p.take (i + 1))))) (congrArg vi (show _ = _ by rw [hex, hda]; omega)) ?_
          refine J_istore_1 Y qX9_days_85 rfl ?_
          refine J_iinc_2 Y qX9_days_86 rfl ?_
          refine J_goto Y qX9_days_89 ?_
          refine ih (i + 1) _ _ (by omega) (by omega) (fun j x hx => ?_)
          rw [hex, addA] at hx
          by_cases ej : j = i
          · subst ej
            rw [if_pos rfl]
            rw [show (extS A [] (p.take j) ++ [(a, fdy A (extS A [] (p.take j)) a)])[j]? = some (a, fdy A (extS A [] (p.take j)) a) from by rw [List.getElem?_append_right (by omega), hlen, Nat.sub_self]; rfl] at hx
            obtain rfl := Option.some.inj hx
            exact hdd
          · have hj : j < i := by
              have := (List.getElem?_eq_some_iff.mp hx).1
              rw [List.length_append, hlen] at this
              simp at this
              omega
            rw [if_neg ej]
            rw [List.getElem?_append_left (by omega)] at hx
            exact h3 j x hx
        · refine J_iload_3 Y qX9_days_68 ?_
          refine J_aloadr_0 Y qX9_days_69 ?_
          refine J_getR Y qX9_days_70 fX9_59 (by decide) ?_
          refine J_aloadr_0 Y qX9_days_73 ?_
          refine J_getR Y qX9_days_74 fX9_68 (by decide) ?_
          refine J_iload_2 Y qX9_days_77 ?_
          refine J_ialoadN (kx := i) Y qX9_days_78 rfl (by decide) rfl (by omega) (by decide) ?_
          rw [plW_59, hoi]
          refine J_ialoadN (kx := a) Y qX9_days_79 rfl (by decide) rfl (by omega) (by decide) ?_
          rw [plW_o (by decide) (Or.inl (by decide)), hH.2.2 a ha]
          refine J_iadd Y qX9_days_80 ?_
          refine J_goto Y qX9_days_81 ?_
          refine J_eqv (w := vi (daysL A (extS A [] (p.take (i + 1))))) (congrArg vi (show _ = _ by rw [hex, hda]; omega)) ?_
          refine J_istore_1 Y qX9_days_85 rfl ?_
          refine J_iinc_2 Y qX9_days_86 rfl ?_
          refine J_goto Y qX9_days_89 ?_
          refine ih (i + 1) _ _ (by omega) (by omega) (fun j x hx => ?_)
          rw [hex, addA] at hx
          by_cases ej : j = i
          · subst ej
            rw [if_pos rfl]
            rw [show (extS A [] (p.take j) ++ [(a, fdy A (extS A [] (p.take j)) a)])[j]? = some (a, fdy A (extS A [] (p.take j)) a) from by rw [List.getElem?_append_right (by omega), hlen, Nat.sub_self]; rfl] at hx
            obtain rfl := Option.some.inj hx
            exact hdd
          · have hj : j < i := by
              have := (List.getElem?_eq_some_iff.mp hx).1
              rw [List.length_append, hlen] at this
              simp at this
              omega
            rw [if_neg ej]
            rw [List.getElem?_append_left (by omega)] at hx
            exact h3 j x hx
      · refine J_iconst Y qX9_days_16 ?_
        refine J_goto Y qX9_days_17 ?_
        refine J_eqv (w := vi (lastB (extS A [] (p.take i)))) (congrArg vi (show _ = lastB (extS A [] (p.take i)) by
          first
            | (rw [List.eq_nil_of_length_eq_zero (show (extS A [] (p.take i)).length = 0 by omega)]; rfl)
            | (have hx1 := hx0 (by omega)
               rw [plW_60, h3 (i - 1) x0 hx1, lastB, List.getLast?_eq_getElem?, hlen, hx1]))) ?_
        refine J_istore_3 Y qX9_days_28 rfl ?_
        refine lp_mday2 (l9 := (extS A [] (p.take i))) hI hH hc c14 hhd hok (by omega) hlen (by omega) ha hoi (fun d hdd => ?_) X (daysL A (extS A [] (p.take i)) - lastB (extS A [] (p.take i))).toNat (lastB (extS A [] (p.take i))) (by omega) (by omega) rfl
        refine J_aloadr_0 Y qX9_days_44 ?_
        refine J_getR Y qX9_days_45 fX9_71 (by decide) ?_
        refine J_iload_2 Y qX9_days_48 ?_
        refine J_iload_3 Y qX9_days_49 ?_
        refine J_iastoreN (kx := i) Y qX9_days_50 rfl (by decide) rfl (by omega) (by decide) ?_
        rw [plW_u60]
        refine J_iload_3 Y qX9_days_51 ?_
        refine J_aloadr_0 Y qX9_days_52 ?_
        refine J_getR Y qX9_days_53 fX9_59 (by decide) ?_
        refine J_aloadr_0 Y qX9_days_56 ?_
        refine J_getR Y qX9_days_57 fX9_68 (by decide) ?_
        refine J_iload_2 Y qX9_days_60 ?_
        refine J_ialoadN (kx := i) Y qX9_days_61 rfl (by decide) rfl (by omega) (by decide) ?_
        rw [plW_59, hoi]
        refine J_ialoadN (kx := a) Y qX9_days_62 rfl (by decide) rfl (by omega) (by decide) ?_
        rw [plW_o (by decide) (Or.inl (by decide)), hH.2.2 a ha]
        refine J_iadd Y qX9_days_63 ?_
        refine J_iload_1 Y qX9_days_64 ?_
        refine J_icmp_le Y qX9_days_65 (by omega) (by omega) (by omega) (by omega) (fun h65 => ?_) (fun h65 => ?_)
        · refine J_iload_1 Y qX9_days_84 ?_
          refine J_eqv (w := vi (daysL A (extS A [] (p.take (i + 1))))) (congrArg vi (show _ = _ by rw [hex, hda]; omega)) ?_
          refine J_istore_1 Y qX9_days_85 rfl ?_
          refine J_iinc_2 Y qX9_days_86 rfl ?_
          refine J_goto Y qX9_days_89 ?_
          refine ih (i + 1) _ _ (by omega) (by omega) (fun j x hx => ?_)
          rw [hex, addA] at hx
          by_cases ej : j = i
          · subst ej
            rw [if_pos rfl]
            rw [show (extS A [] (p.take j) ++ [(a, fdy A (extS A [] (p.take j)) a)])[j]? = some (a, fdy A (extS A [] (p.take j)) a) from by rw [List.getElem?_append_right (by omega), hlen, Nat.sub_self]; rfl] at hx
            obtain rfl := Option.some.inj hx
            exact hdd
          · have hj : j < i := by
              have := (List.getElem?_eq_some_iff.mp hx).1
              rw [List.length_append, hlen] at this
              simp at this
              omega
            rw [if_neg ej]
            rw [List.getElem?_append_left (by omega)] at hx
            exact h3 j x hx
        · refine J_iload_3 Y qX9_days_68 ?_
          refine J_aloadr_0 Y qX9_days_69 ?_
          refine J_getR Y qX9_days_70 fX9_59 (by decide) ?_
          refine J_aloadr_0 Y qX9_days_73 ?_
          refine J_getR Y qX9_days_74 fX9_68 (by decide) ?_
          refine J_iload_2 Y qX9_days_77 ?_
          refine J_ialoadN (kx := i) Y qX9_days_78 rfl (by decide) rfl (by omega) (by decide) ?_
          rw [plW_59, hoi]
          refine J_ialoadN (kx := a) Y qX9_days_79 rfl (by decide) rfl (by omega) (by decide) ?_
          rw [plW_o (by decide) (Or.inl (by decide)), hH.2.2 a ha]
          refine J_iadd Y qX9_days_80 ?_
          refine J_goto Y qX9_days_81 ?_
          refine J_eqv (w := vi (daysL A (extS A [] (p.take (i + 1))))) (congrArg vi (show _ = _ by rw [hex, hda]; omega)) ?_
          refine J_istore_1 Y qX9_days_85 rfl ?_
          refine J_iinc_2 Y qX9_days_86 rfl ?_
          refine J_goto Y qX9_days_89 ?_
          refine ih (i + 1) _ _ (by omega) (by omega) (fun j x hx => ?_)
          rw [hex, addA] at hx
          by_cases ej : j = i
          · subst ej
            rw [if_pos rfl]
            rw [show (extS A [] (p.take j) ++ [(a, fdy A (extS A [] (p.take j)) a)])[j]? = some (a, fdy A (extS A [] (p.take j)) a) from by rw [List.getElem?_append_right (by omega), hlen, Nat.sub_self]; rfl] at hx
            obtain rfl := Option.some.inj hx
            exact hdd
          · have hj : j < i := by
              have := (List.getElem?_eq_some_iff.mp hx).1
              rw [List.length_append, hlen] at this
              simp at this
              omega
            rw [if_neg ej]
            rw [List.getElem?_append_left (by omega)] at hx
            exact h3 j x hx

theorem m_days (l : Launch) (G : Gx) (M : Mem) {A : Mem} {m c : Nat} (hI : Inv m A) (hH : PlH A M c) (hc : A 0 0 2 = (c : Int)) (c14 : c ≤ 14) {o bo bb : Nat → Int} {p : List Nat} (hp6 : p.length ≤ 6) (hpa : ∀ a ∈ p, a < 6) (ho : hoP o p) {b : Nat → Int} : Ct l G 3 yX9_days cX9_days 4 ((Option.some Jvm.ClassFile.FieldType.int)) [rf G 9 0] (plW M p.length o b bo bb) (RI (fun z M2 => z = daysL A (extS A [] p) ∧ ∃ b2 : Nat → Int, M2 = plW M p.length o b2 bo bb ∧ holdL o b2 (extS A [] p))) := by
  refine Ct.of rfl (Nat.le_of_ble_eq_true rfl) rfl (fun E X => ?_)
  have Y := X.ok
  refine J_iconst Y qX9_days_0 ?_
  refine J_istore_1 Y qX9_days_1 rfl ?_
  refine J_iconst Y qX9_days_2 ?_
  refine J_istore_2 Y qX9_days_3 rfl ?_
  exact lp_mdays hI hH hc c14 hp6 hpa ho X (p.length + 1) 0 b none (by omega) (by omega) (fun j x hx => by simp [extS] at hx)


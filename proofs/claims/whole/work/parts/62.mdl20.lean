/-! ===== the reference: bytes are read ===== -/
def rdS (M : Mem) (R : Nat → Int) (s : Int × Int) (v : Int) : Mem := up (up (up (upR M 57 0 R) 9 0 23 s.1) 9 0 24 s.2) 9 0 25 v
section RDS
variable {M : Mem} {R : Nat → Int} {s : Int × Int} {v : Int}
theorem rdS_23 : rdS M R s v 9 0 23 = s.1 := by simp [rdS, up]
theorem rdS_24 : rdS M R s v 9 0 24 = s.2 := by simp [rdS, up]
theorem rdS_25 : rdS M R s v 9 0 25 = v := by simp [rdS, up]
theorem rdS_57 (k : Nat) : rdS M R s v 57 0 k = R k := by simp [rdS, up, upR]
theorem rdS_o {x y k : Nat} (h : ¬ (x = 9 ∧ (k = 23 ∨ k = 24 ∨ k = 25))) (h2 : x ≠ 57) : rdS M R s v x y k = M x y k := by
  unfold rdS
  rw [up_ne (by omega), up_ne (by omega), up_ne (by omega), upR_ne (by omega)]
theorem rdS_u23 (z : Int) : up (rdS M R s v) 9 0 23 z = rdS M R (z, s.2) v := by
  funext a b c
  simp only [rdS, up, upR]
  grind
theorem rdS_u24 (z : Int) : up (rdS M R s v) 9 0 24 z = rdS M R (s.1, z) v := by
  funext a b c
  simp only [rdS, up, upR]
  grind
theorem rdS_u25 (z : Int) : up (rdS M R s v) 9 0 25 z = rdS M R s z := by
  funext a b c
  simp only [rdS, up, upR]
  grind
theorem rdS_u57 (k : Nat) (z : Int) : up (rdS M R s v) 57 0 k z = rdS M (fun c => if c = k then z else R c) s v := by
  funext a b c
  simp only [rdS, up, upR]
  grind
end RDS
theorem rdS_self (M : Mem) : rdS M (M 57 0) (M 9 0 23, M 9 0 24) (M 9 0 25) = M := by
  funext a b c
  simp only [rdS, up, upR]
  grind
def Sok (n : Int) (s : Int × Int) : Prop := 0 ≤ s.1 ∧ s.1 ≤ n ∧ (s.2 = 0 ∨ s.2 = 1)
/-- one byte is eaten -/
def e1 (T : Nat → Int) (n c : Int) (s : Int × Int) : Int × Int := if s.2 = 0 ∧ ahd T n s.1 = c then (s.1 + 1, 0) else (s.1, 1)
def eS (T : Nat → Int) (n : Int) : List Int → Int × Int → Int × Int
  | [], s => s
  | c :: l, s => eS T n l (e1 T n c s)
theorem e1_ok {T : Nat → Int} {n c : Int} {s : Int × Int} (hQ : TQ T n) (h : Sok n s) (c0 : 0 ≤ c) : Sok n (e1 T n c s) := by
  obtain ⟨h1, h2, h3⟩ := h
  unfold e1
  split
  · next e =>
    have := (ahd_rng hQ.2.2 h1).2.2 (by omega)
    exact ⟨by show 0 ≤ s.1 + 1; omega, by show s.1 + 1 ≤ n; omega, Or.inl rfl⟩
  · exact ⟨h1, h2, Or.inr rfl⟩
theorem e1_1 {T : Nat → Int} {n c p : Int} : e1 T n c (p, 1) = (p, 1) := by simp [e1]
theorem eS_1 {T : Nat → Int} {n p : Int} : ∀ l : List Int, eS T n l (p, 1) = (p, 1)
  | [] => rfl
  | c :: l => by rw [eS, e1_1]; exact eS_1 l
theorem eS_app {T : Nat → Int} {n : Int} : ∀ (l l2 : List Int) (s : Int × Int), eS T n (l ++ l2) s = eS T n l2 (eS T n l s)
  | [], l2, s => rfl
  | c :: l, l2, s => eS_app l l2 (e1 T n c s)
theorem eS_ok {T : Nat → Int} {n : Int} (hQ : TQ T n) : ∀ (l : List Int) (s : Int × Int), Sok n s → (∀ c ∈ l, 0 ≤ c) → Sok n (eS T n l s)
  | [], s, h, _ => h
  | c :: l, s, h, hl => eS_ok hQ l _ (e1_ok hQ h (hl c List.mem_cons_self)) (fun d hd => hl d (List.mem_cons_of_mem _ hd))
theorem eS_eat {T : Nat → Int} {n : Int} {g : Nat → Int} : ∀ (l : List Int) (j : Nat) (p : Int), (∀ i, i < l.length → l.getD i 0 = g (j + i)) → eS T n l (p, 0) = ((eatF T n g l.length j p).2, 1 - (eatF T n g l.length j p).1)
  | [], j, p, _ => by simp [eS, eatF]
  | c :: l, j, p, h => by
    have h0 := h 0 (by simp)
    simp at h0
    rw [eS, List.length_cons, eatF]
    by_cases e : ahd T n p = c
    · rw [if_pos (by rw [e, h0]), show e1 T n c (p, 0) = (p + 1, 0) by simp [e1, e], eS_eat l (j + 1) (p + 1) (fun i hi => by
        have := h (i + 1) (by simp; omega)
        simp only [List.getD_cons_succ] at this
        rw [this]; congr 1; omega)]
    · rw [if_neg (by rw [← h0]; exact e), show e1 T n c (p, 0) = (p, 1) by simp [e1, e], eS_1]
      simp
def wdL : List (List Int) := [[98, 97, 110, 32], [116, 97, 120, 32], [32, 105, 102, 32], [32, 97, 110, 100, 32], [110, 111, 116, 32], [115, 116, 114, 101, 101, 116], [115, 104, 111, 112], [97, 114, 99, 104], [112, 101, 114, 115, 111, 110], [103, 111, 111, 100]]
theorem wdL_ok : ∀ i, i < 10 → (wdL.getD i []).length = sN i ∧ ∀ j, j < (wdL.getD i []).length → (wdL.getD i []).getD j 0 = sC i (0 + j) := by decide +kernel
theorem eS_wd {T : Nat → Int} {n p : Int} {i : Nat} (hi : i < 10) : eS T n (wdL.getD i []) (p, 0) = ((eatW T n i p).2, 1 - (eatW T n i p).1) := by
  obtain ⟨h1, h2⟩ := wdL_ok i hi
  have := eS_eat (T := T) (n := n) (g := sC i) (wdL.getD i []) 0 p h2
  rw [h1] at this
  exact this
/-- digits are read -/
def dgF (T : Nat → Int) (n : Int) (s : Int × Int) : (Int × Int) × Int := if s.2 = 0 then (((numF T n 4 s.1 0).1, if (numF T n 4 s.1 0).1 = s.1 then 1 else 0), (numF T n 4 s.1 0).2) else ((s.1, 1), 0)
theorem dgF_ok {T : Nat → Int} {n : Int} {s : Int × Int} (hQ : TQ T n) (h : Sok n s) : Sok n (dgF T n s).1 := by
  obtain ⟨h1, h2, h3⟩ := h
  unfold dgF
  split
  · have := numF_rng hQ.2.2 4 s.1 0 h1 h2 (by omega)
    exact ⟨by show 0 ≤ (numF T n 4 s.1 0).1; omega, this.2.1, by dsimp only; split <;> simp⟩
  · exact ⟨h1, h2, Or.inr rfl⟩
theorem m_here (l : Launch) (G : Gx) (M : Mem) {T : Nat → Int} {n v : Int} {R : Nat → Int} {s : Int × Int} (hQ : TQ T n) (hT : ∀ k : Nat, (k : Int) < n → M 58 0 k = T k) (hn : M 9 0 22 = n) (hs : Sok n s) : Ct l G 1 yX9_here cX9_here 1 ((Option.some Jvm.ClassFile.FieldType.int)) [rf G 9 0] (rdS M R s v) (RP (rdS M R s v) (ahd T n s.1)) := by
  refine Ct.of rfl (Nat.le_of_ble_eq_true rfl) rfl (fun E X => ?_)
  have Y := X.ok
  obtain ⟨n0, n1, n2⟩ := id hQ
  obtain ⟨s0, s1, s2⟩ := id hs
  obtain ⟨a1, a2, a3⟩ := ahd_rng n2 s0
  refine J_aloadr_0 Y qX9_here_0 ?_
  refine J_getI Y qX9_here_1 fX9_133 (by decide) ?_
  rw [rdS_23]
  refine J_aloadr_0 Y qX9_here_4 ?_
  refine J_getI Y qX9_here_5 fX9_130 (by decide) ?_
  rw [rdS_o (by omega) (by omega), hn]
  refine J_icmp_ge Y qX9_here_8 (by omega) (by omega) (by omega) (by omega) (fun h8 => ?_) (fun h8 => ?_)
  · refine J_iconst Y qX9_here_23 ?_
    first
      | exact J_iret X qX9_here_24 (RP_i (by rw [ahd, if_neg (by omega)]))
      | exact J_iret X qX9_here_24 (RP_i (by rw [rdS_o (by omega) (by omega), hT k (by omega), ahd, if_pos (by omega), hk, Int.toNat_natCast]))
  · refine J_aloadr_0 Y qX9_here_11 ?_
    refine J_getR Y qX9_here_12 fX9_65 (by decide) ?_
    refine J_aloadr_0 Y qX9_here_15 ?_
    refine J_getI Y qX9_here_16 fX9_133 (by decide) ?_
    obtain ⟨k, hk⟩ := nat_of s0
    rw [rdS_23, hk]
    refine J_ialoadN (kx := k) Y qX9_here_19 rfl (by decide) rfl (by omega) (by decide) ?_
    refine J_goto Y qX9_here_20 ?_
    first
      | exact J_iret X qX9_here_24 (RP_i (by rw [ahd, if_neg (by omega)]))
      | exact J_iret X qX9_here_24 (RP_i (by rw [rdS_o (by omega) (by omega), hT k (by omega), ahd, if_pos (by omega), hk, Int.toNat_natCast]))

theorem m_hereP (l : Launch) (G : Gx) (M : Mem) {T : Nat → Int} {n v : Int} {R : Nat → Int} {p f : Int} (hQ : TQ T n) (hT : ∀ k : Nat, (k : Int) < n → M 58 0 k = T k) (hn : M 9 0 22 = n) (hs : Sok n (p, f)) : Ct l G 1 yX9_here cX9_here 1 ((Option.some Jvm.ClassFile.FieldType.int)) [rf G 9 0] (rdS M R (p, f) v) (RP (rdS M R (p, f) v) (ahd T n p)) := m_here l G M (s := (p, f)) hQ hT hn hs
theorem m_eats (l : Launch) (G : Gx) (M : Mem) {T : Nat → Int} {n v : Int} {R : Nat → Int} {s : Int × Int} (hQ : TQ T n) (hT : ∀ k : Nat, (k : Int) < n → M 58 0 k = T k) (hn : M 9 0 22 = n) (hs : Sok n s) {c : Int} (c0 : 0 ≤ c) (c1 : c ≤ 127) : Ct l G 2 yX9_eats cX9_eats 2 ((Option.none : Option Jvm.ClassFile.FieldType)) [rf G 9 0, vi c] (rdS M R s v) (VF (rdS M R (e1 T n c s) v)) := by
  refine Ct.of rfl (Nat.le_of_ble_eq_true rfl) rfl (fun E X => ?_)
  have Y := X.ok
  obtain ⟨n0, n1, n2⟩ := id hQ
  obtain ⟨s0, s1, s2⟩ := id hs
  obtain ⟨a1, a2, a3⟩ := ahd_rng n2 s0
  refine J_aloadr_0 Y qX9_eats_0 ?_
  refine J_getI Y qX9_eats_1 fX9_136 (by decide) ?_
  rw [rdS_24]
  refine J_if_ne Y qX9_eats_4 (by omega) (by omega) (fun h4 => ?_) (fun h4 => ?_)
  · refine J_aloadr_0 Y qX9_eats_28 ?_
    refine J_iconst Y qX9_eats_29 ?_
    refine J_putZ Y qX9_eats_30 fX9_136w (Or.inr rfl) (by decide) ?_
    first
      | exact J_vret X qX9_eats_33 ⟨rfl, by rw [rdS_u23, e1, if_pos (by omega), show s.2 = 0 by omega]⟩
      | exact J_vret X qX9_eats_33 ⟨rfl, by rw [rdS_u24, e1, if_neg (by omega)]⟩
  · refine J_aloadr_0 Y qX9_eats_7 ?_
    refine J_cV0P Y qX9_eats_8 mX9_140 iyX9_here (by decide) rfl (by decide) rfl (Nat.le_of_ble_eq_true rfl) (m_here _ _ _ hQ hT hn hs) ?_
    refine J_iload_1 Y qX9_eats_11 ?_
    refine J_icmp_ne Y qX9_eats_12 (by omega) (by omega) (by omega) (by omega) (fun h12 => ?_) (fun h12 => ?_)
    · refine J_aloadr_0 Y qX9_eats_28 ?_
      refine J_iconst Y qX9_eats_29 ?_
      refine J_putZ Y qX9_eats_30 fX9_136w (Or.inr rfl) (by decide) ?_
      first
        | exact J_vret X qX9_eats_33 ⟨rfl, by rw [rdS_u23, e1, if_pos (by omega), show s.2 = 0 by omega]⟩
        | exact J_vret X qX9_eats_33 ⟨rfl, by rw [rdS_u24, e1, if_neg (by omega)]⟩
    · refine J_aloadr_0 Y qX9_eats_15 ?_
      refine J_dup Y qX9_eats_16 rfl ?_
      refine J_getI Y qX9_eats_17 fX9_133 (by decide) ?_
      rw [rdS_23]
      refine J_iconst Y qX9_eats_20 ?_
      refine J_iadd Y qX9_eats_21 ?_
      refine J_putI Y qX9_eats_22 fX9_133w (by decide) ?_
      refine J_goto Y qX9_eats_25 ?_
      first
        | exact J_vret X qX9_eats_33 ⟨rfl, by rw [rdS_u23, e1, if_pos (by omega), show s.2 = 0 by omega]⟩
        | exact J_vret X qX9_eats_33 ⟨rfl, by rw [rdS_u24, e1, if_neg (by omega)]⟩

theorem m_eats3 (l : Launch) (G : Gx) (M : Mem) {T : Nat → Int} {n v : Int} {R : Nat → Int} {s : Int × Int} (hQ : TQ T n) (hT : ∀ k : Nat, (k : Int) < n → M 58 0 k = T k) (hn : M 9 0 22 = n) (hs : Sok n s) {a b c : Int} (a0 : 0 ≤ a) (a1 : a ≤ 127) (b0 : 0 ≤ b) (b1 : b ≤ 127) (c0 : 0 ≤ c) (c1 : c ≤ 127) : Ct l G 3 yX9_eats3 cX9_eats3 4 ((Option.none : Option Jvm.ClassFile.FieldType)) [rf G 9 0, vi a, vi b, vi c] (rdS M R s v) (VF (rdS M R (eS T n [a, b, c] s) v)) := by
  refine Ct.of rfl (Nat.le_of_ble_eq_true rfl) rfl (fun E X => ?_)
  have Y := X.ok
  refine J_aloadr_0 Y qX9_eats3_0 ?_
  refine J_iload_1 Y qX9_eats3_1 ?_
  refine J_cV1W Y qX9_eats3_2 mX9_144 iyX9_eats (by decide) rfl (by decide) rfl (Nat.le_of_ble_eq_true rfl) (m_eats _ _ _ hQ hT hn (by first | exact hs | exact e1_ok hQ (by first | exact hs | exact e1_ok hQ hs (by omega)) (by omega)) (by omega) (by omega)) ?_
  refine J_aloadr_0 Y qX9_eats3_5 ?_
  refine J_iload_2 Y qX9_eats3_6 ?_
  refine J_cV1W Y qX9_eats3_7 mX9_144 iyX9_eats (by decide) rfl (by decide) rfl (Nat.le_of_ble_eq_true rfl) (m_eats _ _ _ hQ hT hn (by first | exact hs | exact e1_ok hQ (by first | exact hs | exact e1_ok hQ hs (by omega)) (by omega)) (by omega) (by omega)) ?_
  refine J_aloadr_0 Y qX9_eats3_10 ?_
  refine J_iload_3 Y qX9_eats3_11 ?_
  refine J_cV1W Y qX9_eats3_12 mX9_144 iyX9_eats (by decide) rfl (by decide) rfl (Nat.le_of_ble_eq_true rfl) (m_eats _ _ _ hQ hT hn (by first | exact hs | exact e1_ok hQ (by first | exact hs | exact e1_ok hQ hs (by omega)) (by omega)) (by omega) (by omega)) ?_
  exact J_vret X qX9_eats3_15 ⟨rfl, rfl⟩

theorem lp_mdig {l : Launch} {G : Gx} {E : Fx} {M : Mem} {T : Nat → Int} {n : Int} {R : Nat → Int} {p : Int} (hQ : TQ T n) (hT : ∀ k : Nat, (k : Int) < n → M 58 0 k = T k) (hn : M 9 0 22 = n) (p0 : 0 ≤ p) (X : OkM l G E cX9_digits RX9 2 4 none (VF (rdS M R (dgF T n (p, 0)).1 (dgF T n (p, 0)).2))) : ∀ (m j : Nat) (q w : Int), j + m = 4 → q = p + j → q ≤ n → numF T n m q w = numF T n 4 p 0 → J G E 7 [some (rf G 9 0), some (vi (j : Int))] [] (rdS M R (q, 0) w) := by
  have Y := X.ok
  intro m
  induction m with
  | zero =>
    intro j q w h1 h2 h3 h4
    obtain ⟨n0, n1, n2⟩ := id hQ
    obtain ⟨a1, a2, a3⟩ := ahd_rng n2 (show 0 ≤ q by omega)
    refine J_aloadr_0 Y qX9_digits_7 ?_
    refine J_getI Y qX9_digits_8 fX9_136 (by decide) ?_
    rw [show rdS M R (q, 0) w 9 0 24 = 0 from rdS_24]
    refine J_ne0 Y qX9_digits_11 ?_
    refine J_iload_1 Y qX9_digits_14 ?_
    refine J_iconst Y qX9_digits_15 ?_
    refine J_icmp_ge Y qX9_digits_16 (by omega) (by omega) (by omega) (by omega) (fun h16 => ?_) (fun h16 => ?_)
    · refine J_aloadr_0 Y qX9_digits_68 ?_
      refine J_aloadr_0 Y qX9_digits_69 ?_
      refine J_getI Y qX9_digits_70 fX9_136 (by decide) ?_
      rw [show rdS M R (q, 0) w 9 0 24 = 0 from rdS_24]
      refine J_ne0 Y qX9_digits_73 ?_
      refine J_iload_1 Y qX9_digits_76 ?_
      refine J_if_ne Y qX9_digits_77 (by omega) (by omega) (fun h77 => ?_) (fun h77 => ?_)
      · refine J_iconst Y qX9_digits_84 ?_
        refine J_putZ Y qX9_digits_85 fX9_136w (Or.inl rfl) (by decide) ?_
        rw [rdS_u24]
        have hN : numF T n 4 p 0 = (q, w) := by
          rw [← h4]
          rfl
        exact J_vret X qX9_digits_88 ⟨rfl, by
          unfold dgF
          rw [if_pos rfl, hN]
          show rdS M R (q, _) w = rdS M R (q, if q = p then 1 else 0) w
          first
            | rw [if_pos (by omega)]
            | rw [if_neg (by omega)]⟩
      · refine J_iconst Y qX9_digits_80 ?_
        refine J_goto Y qX9_digits_81 ?_
        refine J_putZ Y qX9_digits_85 fX9_136w (Or.inr rfl) (by decide) ?_
        rw [rdS_u24]
        have hN : numF T n 4 p 0 = (q, w) := by
          rw [← h4]
          rfl
        exact J_vret X qX9_digits_88 ⟨rfl, by
          unfold dgF
          rw [if_pos rfl, hN]
          show rdS M R (q, _) w = rdS M R (q, if q = p then 1 else 0) w
          first
            | rw [if_pos (by omega)]
            | rw [if_neg (by omega)]⟩
    · exfalso; omega
  | succ m ih =>
    intro j q w h1 h2 h3 h4
    obtain ⟨n0, n1, n2⟩ := id hQ
    obtain ⟨a1, a2, a3⟩ := ahd_rng n2 (show 0 ≤ q by omega)
    refine J_aloadr_0 Y qX9_digits_7 ?_
    refine J_getI Y qX9_digits_8 fX9_136 (by decide) ?_
    rw [show rdS M R (q, 0) w 9 0 24 = 0 from rdS_24]
    refine J_ne0 Y qX9_digits_11 ?_
    refine J_iload_1 Y qX9_digits_14 ?_
    refine J_iconst Y qX9_digits_15 ?_
    refine J_icmp_ge Y qX9_digits_16 (by omega) (by omega) (by omega) (by omega) (fun h16 => ?_) (fun h16 => ?_)
    · exfalso; omega
    · refine J_aloadr_0 Y qX9_digits_19 ?_
      refine J_cV0P Y qX9_digits_20 mX9_140 iyX9_here (by decide) rfl (by decide) rfl (Nat.le_of_ble_eq_true rfl) (m_hereP (p := q) (f := 0) _ _ _ hQ hT hn ⟨by show 0 ≤ q; omega, h3, Or.inl rfl⟩) ?_
      refine J_bipush Y qX9_digits_23 (by decide) ?_
      refine J_bipush Y qX9_digits_25 (by decide) ?_
      refine J_cS3B Y qX9_digits_27 mX9_93 iyX9_in rfl (by decide) rfl (Nat.le_of_ble_eq_true rfl) (m_in _ _ _ (by omega) (by omega) (by omega) (by omega) (by omega) (by omega)) (fun h27 => ?_) (fun h27 => ?_)
      · refine J_eq1 Y qX9_digits_30 ?_
        refine J_aloadr_0 Y qX9_digits_33 ?_
        refine J_bipush Y qX9_digits_34 (by decide) ?_
        refine J_aloadr_0 Y qX9_digits_36 ?_
        refine J_getI Y qX9_digits_37 fX9_148 (by decide) ?_
        rw [rdS_25]
        refine J_imul Y qX9_digits_40 ?_
        refine J_aloadr_0 Y qX9_digits_41 ?_
        refine J_cV0P Y qX9_digits_42 mX9_140 iyX9_here (by decide) rfl (by decide) rfl (Nat.le_of_ble_eq_true rfl) (m_hereP (p := q) (f := 0) _ _ _ hQ hT hn ⟨by show 0 ≤ q; omega, h3, Or.inl rfl⟩) ?_
        refine J_iadd Y qX9_digits_45 ?_
        refine J_bipush Y qX9_digits_46 (by decide) ?_
        refine J_isub Y qX9_digits_48 ?_
        refine J_putI Y qX9_digits_49 fX9_148w (by decide) ?_
        rw [rdS_u25]
        refine J_aloadr_0 Y qX9_digits_52 ?_
        refine J_dup Y qX9_digits_53 rfl ?_
        refine J_getI Y qX9_digits_54 fX9_133 (by decide) ?_
        rw [rdS_23]
        refine J_iconst Y qX9_digits_57 ?_
        refine J_iadd Y qX9_digits_58 ?_
        refine J_putI Y qX9_digits_59 fX9_133w (by decide) ?_
        rw [rdS_u23]
        refine J_iinc_1 Y qX9_digits_62 rfl ?_
        rw [show (j : Int) + 1 = ((j + 1 : Nat) : Int) by omega]
        refine J_goto Y qX9_digits_65 ?_
        refine ih (j + 1) (q + 1) (10 * w + ahd T n q - 48) (by omega) (by omega) (by have := a3 (by omega); omega) ?_
        rw [← h4, numF, if_pos (by unfold isDg; omega)]
      · refine J_eq0 Y qX9_digits_30 ?_
        refine J_aloadr_0 Y qX9_digits_68 ?_
        refine J_aloadr_0 Y qX9_digits_69 ?_
        refine J_getI Y qX9_digits_70 fX9_136 (by decide) ?_
        rw [show rdS M R (q, 0) w 9 0 24 = 0 from rdS_24]
        refine J_ne0 Y qX9_digits_73 ?_
        refine J_iload_1 Y qX9_digits_76 ?_
        refine J_if_ne Y qX9_digits_77 (by omega) (by omega) (fun h77 => ?_) (fun h77 => ?_)
        · refine J_iconst Y qX9_digits_84 ?_
          refine J_putZ Y qX9_digits_85 fX9_136w (Or.inl rfl) (by decide) ?_
          rw [rdS_u24]
          have hN : numF T n 4 p 0 = (q, w) := by
            rw [← h4]
            first
              | (obtain rfl : m = 0 := by omega
                 rfl)
              | (rw [numF, if_neg (by unfold isDg; omega)])
          exact J_vret X qX9_digits_88 ⟨rfl, by
            unfold dgF
            rw [if_pos rfl, hN]
            show rdS M R (q, _) w = rdS M R (q, if q = p then 1 else 0) w
            first
              | rw [if_pos (by omega)]
              | rw [if_neg (by omega)]⟩
        · refine J_iconst Y qX9_digits_80 ?_
          refine J_goto Y qX9_digits_81 ?_
          refine J_putZ Y qX9_digits_85 fX9_136w (Or.inr rfl) (by decide) ?_
          rw [rdS_u24]
          have hN : numF T n 4 p 0 = (q, w) := by
            rw [← h4]
            first
              | (obtain rfl : m = 0 := by omega
                 rfl)
              | (rw [numF, if_neg (by unfold isDg; omega)])
          exact J_vret X qX9_digits_88 ⟨rfl, by
            unfold dgF
            rw [if_pos rfl, hN]
            show rdS M R (q, _) w = rdS M R (q, if q = p then 1 else 0) w
            first
              | rw [if_pos (by omega)]
              | rw [if_neg (by omega)]⟩

theorem m_digits (l : Launch) (G : Gx) (M : Mem) {T : Nat → Int} {n v : Int} {R : Nat → Int} {s : Int × Int} (hQ : TQ T n) (hT : ∀ k : Nat, (k : Int) < n → M 58 0 k = T k) (hn : M 9 0 22 = n) (hs : Sok n s) : Ct l G 4 yX9_digits cX9_digits 2 ((Option.none : Option Jvm.ClassFile.FieldType)) [rf G 9 0] (rdS M R s v) (VF (rdS M R (dgF T n s).1 (dgF T n s).2)) := by
  refine Ct.of rfl (Nat.le_of_ble_eq_true rfl) rfl (fun E X => ?_)
  have Y := X.ok
  obtain ⟨n0, n1, n2⟩ := id hQ
  obtain ⟨s0, s1, s2⟩ := id hs
  obtain ⟨a1, a2, a3⟩ := ahd_rng n2 s0
  refine J_aloadr_0 Y qX9_digits_0 ?_
  refine J_iconst Y qX9_digits_1 ?_
  refine J_putI Y qX9_digits_2 fX9_148w (by decide) ?_
  rw [rdS_u25]
  refine J_iconst Y qX9_digits_5 ?_
  refine J_istore_1 Y qX9_digits_6 rfl ?_
  obtain ⟨p, f⟩ := s
  rcases s2 with rfl | rfl
  · exact lp_mdig hQ hT hn s0 X 4 0 p 0 (by omega) (by omega) s1 rfl
  · refine J_aloadr_0 Y qX9_digits_7 ?_
    refine J_getI Y qX9_digits_8 fX9_136 (by decide) ?_
    rw [show rdS M R (p, 1) 0 9 0 24 = 1 from rdS_24]
    refine J_ne1 Y qX9_digits_11 ?_
    refine J_aloadr_0 Y qX9_digits_68 ?_
    refine J_aloadr_0 Y qX9_digits_69 ?_
    refine J_getI Y qX9_digits_70 fX9_136 (by decide) ?_
    rw [show rdS M R (p, 1) 0 9 0 24 = 1 from rdS_24]
    refine J_ne1 Y qX9_digits_73 ?_
    refine J_iconst Y qX9_digits_80 ?_
    refine J_goto Y qX9_digits_81 ?_
    refine J_putZ Y qX9_digits_85 fX9_136w (Or.inr rfl) (by decide) ?_
    rw [rdS_u24]
    exact J_vret X qX9_digits_88 ⟨rfl, by
      unfold dgF
      rw [if_neg (show ¬ (1 : Int) = 0 by decide)]⟩

theorem m_field (l : Launch) (G : Gx) (M : Mem) {T : Nat → Int} {n v : Int} {R : Nat → Int} {p : Int} (hQ : TQ T n) (hT : ∀ k : Nat, (k : Int) < n → M 58 0 k = T k) (hn : M 9 0 22 = n) (p0 : 0 ≤ p) (p1 : p ≤ n) : Ct l G 5 yX9_field cX9_field 2 ((Option.some Jvm.ClassFile.FieldType.int)) [rf G 9 0] (rdS M R (p, 0) v) (RI (fun z M2 => M2 = rdS M R ((eatW T n (5 + (fldF (ahd T n p) (ahd T n (p + 1))).toNat) p).2, 1 - (eatW T n (5 + (fldF (ahd T n p) (ahd T n (p + 1))).toNat) p).1) v ∧ ((eatW T n (5 + (fldF (ahd T n p) (ahd T n (p + 1))).toNat) p).1 = 1 → z = fldF (ahd T n p) (ahd T n (p + 1))) ∧ 0 ≤ z ∧ z ≤ 4)) := by
  refine Ct.of rfl (Nat.le_of_ble_eq_true rfl) rfl (fun E X => ?_)
  have Y := X.ok
  have hs : Sok n (p, 0) := ⟨p0, p1, Or.inl rfl⟩
  obtain ⟨n0, n1, n2⟩ := id hQ
  obtain ⟨a1, a2, a3⟩ := ahd_rng n2 p0
  obtain ⟨b1, b2, b3⟩ := ahd_rng n2 (show 0 ≤ p + 1 by omega)
  refine J_aloadr_0 Y qX9_field_0 ?_
  refine J_cV0P Y qX9_field_1 mX9_140 iyX9_here (by decide) rfl (by decide) rfl (Nat.le_of_ble_eq_true rfl) (m_hereP (p := p) (f := 0) _ _ _ hQ hT hn hs) ?_
  refine J_istore_1 Y qX9_field_4 rfl ?_
  refine J_iload_1 Y qX9_field_5 ?_
  rcases (show ahd T n p = 97 ∨ ahd T n p = 112 ∨ ahd T n p = 103 ∨ (ahd T n p ≠ 97 ∧ ahd T n p ≠ 112 ∧ ahd T n p ≠ 103) by omega) with hc | hc | hc | hc
  · rw [hc]
    refine J_lsw (off := 34) (tg := 40) Y qX9_field_6 (by decide) (by decide) (by decide) (by decide) (by decide) ?_
    refine J_aloadr_0 Y qX9_field_40 ?_
    refine J_bipush Y qX9_field_41 (by decide) ?_
    refine J_bipush Y qX9_field_43 (by decide) ?_
    refine J_bipush Y qX9_field_45 (by decide) ?_
    refine J_cV3W Y qX9_field_47 mX9_151 iyX9_eats3 (by decide) rfl (by decide) rfl (Nat.le_of_ble_eq_true rfl) (m_eats3 _ _ _ hQ hT hn hs (by decide) (by decide) (by decide) (by decide) (by decide) (by decide)) ?_
    refine J_aloadr_0 Y qX9_field_50 ?_
    refine J_bipush Y qX9_field_51 (by decide) ?_
    refine J_cV1W Y qX9_field_53 mX9_144 iyX9_eats (by decide) rfl (by decide) rfl (Nat.le_of_ble_eq_true rfl) (m_eats _ _ _ hQ hT hn (eS_ok hQ _ _ hs (by decide)) (by decide) (by decide)) ?_
    refine J_iconst Y qX9_field_56 ?_
    have hw := eS_wd (T := T) (n := n) (p := p) (i := 7) (by decide)
    have hfw : fldF (ahd T n p) (ahd T n (p + 1)) = 2 := by unfold fldF; simp [hc]; try omega
    exact J_iret X qX9_field_57 ⟨_, rfl, by rw [hfw]; show _ = rdS M R ((eatW T n 7 p).2, 1 - (eatW T n 7 p).1) v; rw [← hw]; rfl, fun _ => by rw [hfw], by decide, by decide⟩
  · rw [hc]
    refine J_lsw (off := 52) (tg := 58) Y qX9_field_6 (by decide) (by decide) (by decide) (by decide) (by decide) ?_
    refine J_aloadr_0 Y qX9_field_58 ?_
    refine J_bipush Y qX9_field_59 (by decide) ?_
    refine J_bipush Y qX9_field_61 (by decide) ?_
    refine J_bipush Y qX9_field_63 (by decide) ?_
    refine J_cV3W Y qX9_field_65 mX9_151 iyX9_eats3 (by decide) rfl (by decide) rfl (Nat.le_of_ble_eq_true rfl) (m_eats3 _ _ _ hQ hT hn hs (by decide) (by decide) (by decide) (by decide) (by decide) (by decide)) ?_
    refine J_aloadr_0 Y qX9_field_68 ?_
    refine J_bipush Y qX9_field_69 (by decide) ?_
    refine J_bipush Y qX9_field_71 (by decide) ?_
    refine J_bipush Y qX9_field_73 (by decide) ?_
    refine J_cV3W Y qX9_field_75 mX9_151 iyX9_eats3 (by decide) rfl (by decide) rfl (Nat.le_of_ble_eq_true rfl) (m_eats3 _ _ _ hQ hT hn (eS_ok hQ _ _ hs (by decide)) (by decide) (by decide) (by decide) (by decide) (by decide) (by decide)) ?_
    refine J_iconst Y qX9_field_78 ?_
    have hw := eS_wd (T := T) (n := n) (p := p) (i := 8) (by decide)
    have hfw : fldF (ahd T n p) (ahd T n (p + 1)) = 3 := by unfold fldF; simp [hc]; try omega
    exact J_iret X qX9_field_79 ⟨_, rfl, by rw [hfw]; show _ = rdS M R ((eatW T n 8 p).2, 1 - (eatW T n 8 p).1) v; rw [← hw]; rfl, fun _ => by rw [hfw], by decide, by decide⟩
  · rw [hc]
    refine J_lsw (off := 74) (tg := 80) Y qX9_field_6 (by decide) (by decide) (by decide) (by decide) (by decide) ?_
    refine J_aloadr_0 Y qX9_field_80 ?_
    refine J_bipush Y qX9_field_81 (by decide) ?_
    refine J_bipush Y qX9_field_83 (by decide) ?_
    refine J_bipush Y qX9_field_85 (by decide) ?_
    refine J_cV3W Y qX9_field_87 mX9_151 iyX9_eats3 (by decide) rfl (by decide) rfl (Nat.le_of_ble_eq_true rfl) (m_eats3 _ _ _ hQ hT hn hs (by decide) (by decide) (by decide) (by decide) (by decide) (by decide)) ?_
    refine J_aloadr_0 Y qX9_field_90 ?_
    refine J_bipush Y qX9_field_91 (by decide) ?_
    refine J_cV1W Y qX9_field_93 mX9_144 iyX9_eats (by decide) rfl (by decide) rfl (Nat.le_of_ble_eq_true rfl) (m_eats _ _ _ hQ hT hn (eS_ok hQ _ _ hs (by decide)) (by decide) (by decide)) ?_
    refine J_iconst Y qX9_field_96 ?_
    have hw := eS_wd (T := T) (n := n) (p := p) (i := 9) (by decide)
    have hfw : fldF (ahd T n p) (ahd T n (p + 1)) = 4 := by unfold fldF; simp [hc]; try omega
    exact J_iret X qX9_field_97 ⟨_, rfl, by rw [hfw]; show _ = rdS M R ((eatW T n 9 p).2, 1 - (eatW T n 9 p).1) v; rw [← hw]; rfl, fun _ => by rw [hfw], by decide, by decide⟩
  · refine J_lsw (off := 92) (tg := 98) Y qX9_field_6 (by omega) (by omega) (by decide) (by simp [Op.lookupswitch.offset]; omega) (by decide) ?_
    refine J_aloadr_0 Y qX9_field_98 ?_
    refine J_bipush Y qX9_field_99 (by decide) ?_
    refine J_cV1W Y qX9_field_101 mX9_144 iyX9_eats (by decide) rfl (by decide) rfl (Nat.le_of_ble_eq_true rfl) (m_eats _ _ _ hQ hT hn hs (by decide) (by decide)) ?_
    by_cases hc5 : ahd T n p = 115
    · have hE : e1 T n 115 (p, 0) = (p + 1, 0) := by simp [e1, hc5]
      rw [hE]
      have hlt := a3 (by omega)
      have hs2 : Sok n (p + 1, 0) := ⟨by show 0 ≤ p + 1; omega, by show p + 1 ≤ n; omega, Or.inl rfl⟩
      refine J_aloadr_0 Y qX9_field_104 ?_
      refine J_getI Y qX9_field_105 fX9_136 (by decide) ?_
      rw [show rdS M R (p + 1, 0) v 9 0 24 = 0 from rdS_24]
      refine J_ne0 Y qX9_field_108 ?_
      refine J_aloadr_0 Y qX9_field_111 ?_
      refine J_cV0P Y qX9_field_112 mX9_140 iyX9_here (by decide) rfl (by decide) rfl (Nat.le_of_ble_eq_true rfl) (m_hereP (p := p + 1) (f := 0) _ _ _ hQ hT hn hs2) ?_
      refine J_bipush Y qX9_field_115 (by decide) ?_
      refine J_icmp_ne Y qX9_field_117 (by omega) (by omega) (by omega) (by omega) (fun h117 => ?_) (fun h117 => ?_)
      · refine J_aloadr_0 Y qX9_field_132 ?_
        refine J_bipush Y qX9_field_133 (by decide) ?_
        refine J_bipush Y qX9_field_135 (by decide) ?_
        refine J_bipush Y qX9_field_137 (by decide) ?_
        refine J_cV3W Y qX9_field_139 mX9_151 iyX9_eats3 (by decide) rfl (by decide) rfl (Nat.le_of_ble_eq_true rfl) (m_eats3 _ _ _ hQ hT hn hs2 (by decide) (by decide) (by decide) (by decide) (by decide) (by decide)) ?_
        refine J_aloadr_0 Y qX9_field_142 ?_
        refine J_bipush Y qX9_field_143 (by decide) ?_
        refine J_cV1W Y qX9_field_145 mX9_144 iyX9_eats (by decide) rfl (by decide) rfl (Nat.le_of_ble_eq_true rfl) (m_eats _ _ _ hQ hT hn (eS_ok hQ _ _ hs2 (by decide)) (by decide) (by decide)) ?_
        refine J_aloadr_0 Y qX9_field_148 ?_
        refine J_bipush Y qX9_field_149 (by decide) ?_
        refine J_cV1W Y qX9_field_151 mX9_144 iyX9_eats (by decide) rfl (by decide) rfl (Nat.le_of_ble_eq_true rfl) (m_eats _ _ _ hQ hT hn (e1_ok hQ (eS_ok hQ _ _ hs2 (by decide)) (by decide)) (by decide) (by decide)) ?_
        refine J_iconst Y qX9_field_154 ?_
        by_cases ht : ahd T n (p + 1) = 116
        · have hw := eS_wd (T := T) (n := n) (p := p) (i := 5) (by decide)
          have hfw : fldF (ahd T n p) (ahd T n (p + 1)) = 0 := by unfold fldF; rw [if_neg (by omega), if_neg (by omega), if_pos hc5, if_pos ht]
          exact J_iret X qX9_field_155 ⟨_, rfl, by rw [hfw]; show _ = rdS M R ((eatW T n 5 p).2, 1 - (eatW T n 5 p).1) v; rw [← hw, show eS T n (wdL.getD 5 []) (p, 0) = e1 T n 116 (e1 T n 101 (eS T n [116, 114, 101] (e1 T n 115 (p, 0)))) from rfl, hE], fun _ => by rw [hfw], by decide, by decide⟩
        · have hw := eS_wd (T := T) (n := n) (p := p) (i := 6) (by decide)
          have hfw : fldF (ahd T n p) (ahd T n (p + 1)) = 1 := by unfold fldF; rw [if_neg (by omega), if_neg (by omega), if_pos hc5, if_neg ht]
          have k1 : eS T n (wdL.getD 6 []) (p, 0) = (p + 1, 1) := by
            rw [show eS T n (wdL.getD 6 []) (p, 0) = eS T n [111, 112] (e1 T n 104 (e1 T n 115 (p, 0))) from rfl, hE, show e1 T n 104 (p + 1, 0) = (p + 1, 1) by simp [e1]; omega, eS_1]
          have k2 : e1 T n 116 (e1 T n 101 (eS T n [116, 114, 101] (p + 1, 0))) = (p + 1, 1) := by
            rw [show eS T n [116, 114, 101] (p + 1, 0) = eS T n [114, 101] (e1 T n 116 (p + 1, 0)) from rfl, show e1 T n 116 (p + 1, 0) = (p + 1, 1) by simp [e1]; omega, eS_1, e1_1, e1_1]
          rw [k1] at hw
          have hz : (eatW T n 6 p).1 = 0 := by have := congrArg Prod.snd hw; simp at this; omega
          exact J_iret X qX9_field_155 ⟨_, rfl, by rw [hfw]; show _ = rdS M R ((eatW T n 6 p).2, 1 - (eatW T n 6 p).1) v; rw [← hw, k2], fun z => by rw [hfw] at z; exact absurd (hz.symm.trans z) (by decide), by decide, by decide⟩
      · refine J_aloadr_0 Y qX9_field_120 ?_
        refine J_bipush Y qX9_field_121 (by decide) ?_
        refine J_bipush Y qX9_field_123 (by decide) ?_
        refine J_bipush Y qX9_field_125 (by decide) ?_
        refine J_cV3W Y qX9_field_127 mX9_151 iyX9_eats3 (by decide) rfl (by decide) rfl (Nat.le_of_ble_eq_true rfl) (m_eats3 _ _ _ hQ hT hn hs2 (by decide) (by decide) (by decide) (by decide) (by decide) (by decide)) ?_
        refine J_iconst Y qX9_field_130 ?_
        have hw := eS_wd (T := T) (n := n) (p := p) (i := 6) (by decide)
        have hfw : fldF (ahd T n p) (ahd T n (p + 1)) = 1 := by unfold fldF; rw [if_neg (by omega), if_neg (by omega), if_pos hc5, if_neg (by omega)]
        exact J_iret X qX9_field_131 ⟨_, rfl, by rw [hfw]; show _ = rdS M R ((eatW T n 6 p).2, 1 - (eatW T n 6 p).1) v; rw [← hw, show eS T n (wdL.getD 6 []) (p, 0) = eS T n [104, 111, 112] (e1 T n 115 (p, 0)) from rfl, hE], fun _ => by rw [hfw], by decide, by decide⟩
    · have hE : e1 T n 115 (p, 0) = (p, 1) := by simp [e1, hc5]
      rw [hE]
      have hs2 : Sok n (p, 1) := ⟨p0, p1, Or.inr rfl⟩
      refine J_aloadr_0 Y qX9_field_104 ?_
      refine J_getI Y qX9_field_105 fX9_136 (by decide) ?_
      rw [show rdS M R (p, 1) v 9 0 24 = 1 from rdS_24]
      refine J_ne1 Y qX9_field_108 ?_
      refine J_aloadr_0 Y qX9_field_132 ?_
      refine J_bipush Y qX9_field_133 (by decide) ?_
      refine J_bipush Y qX9_field_135 (by decide) ?_
      refine J_bipush Y qX9_field_137 (by decide) ?_
      refine J_cV3W Y qX9_field_139 mX9_151 iyX9_eats3 (by decide) rfl (by decide) rfl (Nat.le_of_ble_eq_true rfl) (m_eats3 _ _ _ hQ hT hn hs2 (by decide) (by decide) (by decide) (by decide) (by decide) (by decide)) ?_
      refine J_aloadr_0 Y qX9_field_142 ?_
      refine J_bipush Y qX9_field_143 (by decide) ?_
      refine J_cV1W Y qX9_field_145 mX9_144 iyX9_eats (by decide) rfl (by decide) rfl (Nat.le_of_ble_eq_true rfl) (m_eats _ _ _ hQ hT hn (eS_ok hQ _ _ hs2 (by decide)) (by decide) (by decide)) ?_
      refine J_aloadr_0 Y qX9_field_148 ?_
      refine J_bipush Y qX9_field_149 (by decide) ?_
      refine J_cV1W Y qX9_field_151 mX9_144 iyX9_eats (by decide) rfl (by decide) rfl (Nat.le_of_ble_eq_true rfl) (m_eats _ _ _ hQ hT hn (e1_ok hQ (eS_ok hQ _ _ hs2 (by decide)) (by decide)) (by decide) (by decide)) ?_
      refine J_iconst Y qX9_field_154 ?_
      have hw := eS_wd (T := T) (n := n) (p := p) (i := 9) (by decide)
      have hfw : fldF (ahd T n p) (ahd T n (p + 1)) = 4 := by unfold fldF; rw [if_neg (by omega), if_neg (by omega), if_neg (by omega)]
      have k1 : eS T n (wdL.getD 9 []) (p, 0) = (p, 1) := by
        rw [show eS T n (wdL.getD 9 []) (p, 0) = eS T n [111, 111, 100] (e1 T n 103 (p, 0)) from rfl, show e1 T n 103 (p, 0) = (p, 1) by simp [e1]; omega, eS_1]
      rw [k1] at hw
      have hz : (eatW T n 9 p).1 = 0 := by have := congrArg Prod.snd hw; simp at this; omega
      exact J_iret X qX9_field_155 ⟨_, rfl, by rw [hfw]; show _ = rdS M R ((eatW T n 9 p).2, 1 - (eatW T n 9 p).1) v; rw [← hw, eS_1, e1_1, e1_1], fun z => by rw [hfw] at z; exact absurd (hz.symm.trans z) (by decide), by decide, by decide⟩


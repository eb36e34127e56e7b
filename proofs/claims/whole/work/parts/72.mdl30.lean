/-! ===== the reference: plan ===== -/
theorem asc_len (s : Nat) : ∀ i, (ascL s i).length ≤ i
  | 0 => by simp [ascL]
  | i + 1 => by
    have := asc_len s i
    rw [ascL]
    split
    · rw [List.length_append]; simp; omega
    · omega
def upd0 (A : Mem) (b : Bst) (p : List Nat) : Bst := updB A b (extS A [] p)
theorem ext_d {A : Mem} (hd : ∀ a, a < 6 → 1 ≤ A 12 0 a ∧ A 12 0 a ≤ 9) {p : List Nat} (h6 : p.length ≤ 6) (hp : ∀ a ∈ p, a < 6) : 0 ≤ daysL A (extS A [] p) ∧ daysL A (extS A [] p) ≤ 54 := by
  have h1 := extS_le hd p [] (okL_nil A) hp
  have h2 : daysL A [] = 0 := rfl
  have h3 := daysL_nn A (extS A [] p)
  omega
theorem pop6 (s : Nat) : popN s ≤ 6 := by
  have := ctN_rng (fun a => s.testBit a) 6
  unfold popN
  omega
theorem pln_eq {A : Mem} (hd : ∀ a, a < 6 → 1 ≤ A 12 0 a ∧ A 12 0 a ≤ 9) {s : Nat} (hs : s < 64) : (prm (popN s) s).foldl (upd0 A) (1000000, []) = plnB A s := by
  unfold plnB tryF
  have h1 := prm_ne ⟨s, hs⟩
  have h2 := prm_len (popN s) s
  have h3 := prm_lt (popN s) s
  have h6 := pop6 s
  simp only at h1
  cases hp : prm (popN s) s with
  | nil => exact absurd hp h1
  | cons p ps =>
    rw [hp] at h2 h3
    have e2 := h2 p List.mem_cons_self
    have e1 := ext_d hd (show p.length ≤ 6 by omega) (h3 p List.mem_cons_self)
    rw [List.foldl_cons, List.foldl_cons, upd0, updB, if_pos (by show _ < (1000000 : Int); omega)]
    rfl
theorem upd_rng {A : Mem} (hd : ∀ a, a < 6 → 1 ≤ A 12 0 a ∧ A 12 0 a ≤ 9) {b : Bst} {p : List Nat} (h6 : p.length ≤ 6) (hp : ∀ a ∈ p, a < 6) (hb : 0 ≤ b.1 ∧ b.1 ≤ 1000000) : 0 ≤ (upd0 A b p).1 ∧ (upd0 A b p).1 ≤ 1000000 := by
  have := ext_d hd h6 hp
  unfold upd0 updB
  split
  · show 0 ≤ daysL A (extS A [] p) ∧ _; omega
  · exact hb
def cpO (o bo : Nat → Int) (i : Nat) : Nat → Int := fun c => if c < i then o c else bo c
theorem cpO_s (o bo : Nat → Int) (i : Nat) : (fun c => if c = i then o i else cpO o bo i c) = cpO o bo (i + 1) := by
  funext c
  simp only [cpO]
  grind
theorem cpO_0 (o bo : Nat → Int) : cpO o bo 0 = bo := by funext c; simp [cpO]
theorem cpO_hold {o b bo bb : Nat → Int} {l : List (Nat × Int)} (h : holdL o b l) : holdL (cpO o bo l.length) (cpO b bb l.length) l := by
  intro i x hx
  have hl := (List.getElem?_eq_some_iff.mp hx).1
  simp only [cpO, if_pos hl]
  exact h i x hx
theorem MR_pln {A M : Mem} {s n : Nat} {o b bo bb : Nat → Int} (h : MR A M) (hn : n = popN s) (hl : (plnB A s).2.length = n) (hh : holdL bo bb (plnB A s).2) : MR (plnM A s) (up (plW M (n : Int) o b bo bb) 9 0 31 (n : Int)) := by
  subst hn
  have ex : ∀ x, x ≠ 1 → x ≠ 16 → x ≠ 17 → plnM A s x = A x := fun x h1 h2 h3 => funext fun y => funext fun z => by unfold plnM; rw [upR_ne (by omega), upR_ne (by omega), up_ne (by omega)]
  have eN : ∀ x, x ≠ 9 → ¬ (59 ≤ x ∧ x ≤ 62) → up (plW M (popN s : Int) o b bo bb) 9 0 31 (popN s : Int) x = M x := fun x h1 h2 => funext fun y => funext fun z => by rw [up_ne (by omega), plW_o (by omega) (by omega)]
  have e6 : plnM A s 1 0 6 = (popN s : Int) := by simp [plnM, up, upR]
  refine ⟨?_, ?_, ?_, ?_, ?_, ?_, ?_, ?_, ?_, ?_, ?_, ?_, ?_⟩
  · obtain ⟨m1, m2, m3, m4, m5, m6⟩ := h.r0
    unfold MR0
    rw [e6, ex 8 (by decide) (by decide) (by decide), ex 0 (by decide) (by decide) (by decide), ex 4 (by decide) (by decide) (by decide), ex 6 (by decide) (by decide) (by decide), up_same]
    refine ⟨?_, ?_, ?_, ?_, rfl, ?_⟩
    · rw [up_ne (by omega), plW_o (by omega) (by omega)]; exact m1
    · rw [up_ne (by omega), plW_o (by omega) (by omega)]; exact m2
    · rw [up_ne (by omega), plW_o (by omega) (by omega)]; exact m3
    · rw [up_ne (by omega), plW_o (by omega) (by omega)]; exact m4
    · rw [up_ne (by omega), plW_o (by omega) (by omega)]; exact m6
  · have q := h.rr; unfold MRr at q ⊢; rw [ex 34 (by decide) (by decide) (by decide), eN 40 (by decide) (by decide)]; exact q
  · have q := h.rs; unfold MRs at q ⊢; rw [ex 0 (by decide) (by decide) (by decide), ex 5 (by decide) (by decide) (by decide), eN 41 (by decide) (by decide), eN 42 (by decide) (by decide), eN 43 (by decide) (by decide), eN 44 (by decide) (by decide)]; exact q
  · have q := h.rp; unfold MRp at q ⊢; rw [ex 25 (by decide) (by decide) (by decide), ex 26 (by decide) (by decide) (by decide), eN 45 (by decide) (by decide)]; exact q
  · have q := h.rl; unfold MRl at q ⊢; rw [ex 5 (by decide) (by decide) (by decide), eN 46 (by decide) (by decide), eN 47 (by decide) (by decide), eN 48 (by decide) (by decide)]; exact q
  · have q := h.rq; unfold MRq at q ⊢; rw [ex 5 (by decide) (by decide) (by decide), ex 27 (by decide) (by decide) (by decide), ex 28 (by decide) (by decide) (by decide), eN 49 (by decide) (by decide), eN 50 (by decide) (by decide), eN 51 (by decide) (by decide)]; exact q
  · have q := h.rh; unfold MRh at q ⊢; rw [ex 7 (by decide) (by decide) (by decide), ex 30 (by decide) (by decide) (by decide), ex 31 (by decide) (by decide) (by decide), eN 52 (by decide) (by decide), eN 53 (by decide) (by decide), eN 54 (by decide) (by decide)]; exact q
  · have q := h.rm; unfold MRm at q ⊢; rw [ex 18 (by decide) (by decide) (by decide), eN 55 (by decide) (by decide)]; exact q
  · have q := h.rt; unfold MRt at q ⊢; rw [ex 12 (by decide) (by decide) (by decide), eN 56 (by decide) (by decide)]; exact q
  · have q := h.ru; unfold MRu at q ⊢; rw [ex 4 (by decide) (by decide) (by decide), ex 3 (by decide) (by decide) (by decide), ex 19 (by decide) (by decide) (by decide), ex 20 (by decide) (by decide) (by decide), ex 21 (by decide) (by decide) (by decide), ex 22 (by decide) (by decide) (by decide), eN 57 (by decide) (by decide)]; exact q
  · have q := h.rf; unfold MRf at q ⊢; rw [ex 6 (by decide) (by decide) (by decide), ex 29 (by decide) (by decide) (by decide), eN 58 (by decide) (by decide)]; exact q
  · intro k hk
    rw [e6] at hk
    obtain ⟨x, hx⟩ : ∃ x, (plnB A s).2[k]? = some x := ⟨_, List.getElem?_eq_getElem (show k < (plnB A s).2.length by omega)⟩
    have := hh k x hx
    rw [up_ne (by omega), up_ne (by omega), plW_61, plW_62]
    constructor
    · rw [this.1]; simp [plnM, up, upR, lkO, hx]
    · rw [this.2]; simp [plnM, up, upR, lkB, hx]
  · have q := h.rw; unfold MRw at q ⊢; rw [ex 33 (by decide) (by decide) (by decide), eN 64 (by decide) (by decide)]; exact q
theorem Sm_plW {M : Mem} {n z : Int} {o b bo bb : Nat → Int} : Sm (up (plW M n o b bo bb) 9 0 31 z) M := fun x y k h1 h2 => by rw [up_ne (by omega), plW_o (by omega) (by omega)]
theorem lp_mplE {l : Launch} {G : Gx} {E : Fx} {M : Mem} {A : Mem} {m s n : Nat} (hI : Inv m A) (hM : MR A M) (s0 : s ≠ 0) (hs : s < 64) (hn : n = popN s) (n1 : 1 ≤ n) {o b bo bb : Nat → Int} (hh : holdL bo bb (plnB A s).2) (X : OkM l G E cX9_plan RX9 6 4 (some .int) (QR (f_plan A (s : Int)) M)) {x4 x5 : Option Value} : J G E 81 [some (rf G 9 0), some (vi (s : Int)), some (vi (plnB A s).1), some (vi 0), x4, x5] [] (plW M (n : Int) o b bo bb) := by
  have Y := X.ok
  have hd : ∀ a, a < 6 → 1 ≤ A 12 0 a ∧ A 12 0 a ≤ 9 := fun a ha => (hI.arch ha).1
  refine J_iload_3 Y qX9_plan_81 ?_
  refine J_eq0 Y qX9_plan_82 ?_
  refine J_aloadr_0 Y qX9_plan_154 ?_
  refine J_aloadr_0 Y qX9_plan_155 ?_
  refine J_getI Y qX9_plan_156 fX9_186 (by decide) ?_
  rw [plW_30]
  refine J_putI Y qX9_plan_159 fX9_204w (by decide) ?_
  refine J_iload_2 Y qX9_plan_162 ?_
  have hF : f_plan A (s : Int) = ((plnB A s).1, plnM A s) := by
    unfold f_plan
    rw [if_neg (by omega), if_neg (by omega), Int.toNat_natCast]
  exact J_iret X qX9_plan_163 (QR_e hF rfl (MR_pln hM hn (by rw [hn]; exact plnB_len hd hs) hh) Sm_plW)

theorem lp_mplC {l : Launch} {G : Gx} {E : Fx} {M : Mem} {s n : Nat} (n6 : n ≤ 6) {o b bo bb : Nat → Int} {best z : Int} {P : Option Value → Mem → Prop} (hK : J G E 146 [some (rf G 9 0), some (vi (s : Int)), some (vi best), some (vi 1), some (vi z), some (vi (n : Int))] [] (plW M (n : Int) o b (cpO o bo n) (cpO b bb n))) (X : OkM l G E cX9_plan RX9 6 4 (some .int) P) : ∀ (t i : Nat), i ≤ n → n < i + t → J G E 103 [some (rf G 9 0), some (vi (s : Int)), some (vi best), some (vi 1), some (vi z), some (vi (i : Int))] [] (plW M (n : Int) o b (cpO o bo i) (cpO b bb i)) := by
  have Y := X.ok
  intro t
  induction t with
  | zero => intro i h1 h2; exfalso; omega
  | succ t ih =>
    intro i h1 h2
    refine J_iload_5 Y qX9_plan_103 ?_
    refine J_aloadr_0 Y qX9_plan_105 ?_
    refine J_getI Y qX9_plan_106 fX9_186 (by decide) ?_
    rw [plW_30]
    refine J_icmp_ge Y qX9_plan_109 (by omega) (by omega) (by omega) (by omega) (fun h109 => ?_) (fun h109 => ?_)
    · obtain rfl : i = n := by omega
      exact hK
    · refine J_aloadr_0 Y qX9_plan_112 ?_
      refine J_getR Y qX9_plan_113 fX9_74 (by decide) ?_
      refine J_iload_5 Y qX9_plan_116 ?_
      refine J_aloadr_0 Y qX9_plan_118 ?_
      refine J_getR Y qX9_plan_119 fX9_68 (by decide) ?_
      refine J_iload_5 Y qX9_plan_122 ?_
      refine J_ialoadN (kx := i) Y qX9_plan_124 rfl (by decide) rfl (by omega) (by decide) ?_
      rw [plW_59]
      refine J_iastoreN (kx := i) Y qX9_plan_125 rfl (by decide) rfl (by omega) (by decide) ?_
      rw [plW_u61, cpO_s]
      refine J_aloadr_0 Y qX9_plan_126 ?_
      refine J_getR Y qX9_plan_127 fX9_77 (by decide) ?_
      refine J_iload_5 Y qX9_plan_130 ?_
      refine J_aloadr_0 Y qX9_plan_132 ?_
      refine J_getR Y qX9_plan_133 fX9_71 (by decide) ?_
      refine J_iload_5 Y qX9_plan_136 ?_
      refine J_ialoadN (kx := i) Y qX9_plan_138 rfl (by decide) rfl (by omega) (by decide) ?_
      rw [plW_60]
      refine J_iastoreN (kx := i) Y qX9_plan_139 rfl (by decide) rfl (by omega) (by decide) ?_
      rw [plW_u62, cpO_s]
      refine J_iinc_5 Y qX9_plan_140 rfl ?_
      refine J_goto Y qX9_plan_143 ?_
      exact ih (i + 1) (by omega) (by omega)

theorem lp_mpl {l : Launch} {G : Gx} {E : Fx} {M : Mem} {A : Mem} {m s n : Nat} (hI : Inv m A) (hM : MR A M) (s0 : s ≠ 0) (hs : s < 64) (hn : n = popN s) (n1 : 1 ≤ n) (X : OkM l G E cX9_plan RX9 6 4 (some .int) (QR (f_plan A (s : Int)) M)) : ∀ (ps : List (List Nat)) (p : List Nat) (o b bo bb : Nat → Int) (bst : Bst) (x4 x5 : Option Value), hoG o p → (∀ q ∈ p :: ps, q.length = n ∧ ∀ a ∈ q, a < 6) → chnB (p :: ps) = true → holdL bo bb bst.2 → (0 ≤ bst.1 ∧ bst.1 ≤ 1000000) → (p :: ps).foldl (upd0 A) bst = plnB A s → J G E 81 [some (rf G 9 0), some (vi (s : Int)), some (vi bst.1), some (vi 1), x4, x5] [] (plW M (n : Int) o b bo bb) := by
  have Y := X.ok
  have hd : ∀ a, a < 6 → 1 ≤ A 12 0 a ∧ A 12 0 a ≤ 9 := fun a ha => (hI.arch ha).1
  have n6 : n ≤ 6 := by rw [hn]; exact pop6 s
  obtain ⟨c1, c2⟩ := hI.count
  obtain ⟨c, hc⟩ := nat_of c1
  have hH : PlH A M c := ⟨by rw [hM.r0.2.1]; exact hc, fun u hu => ⟨(hM.rs u (by omega)).2.1, (hM.rs u (by omega)).1⟩, fun k hk => hM.rt k hk⟩
  intro ps
  induction ps with
  | nil =>
    intro p o b bo bb bst x4 x5 h2 h3 h4 h5 h6 h7
    obtain ⟨hp1, hp2⟩ := h3 p List.mem_cons_self
    have xd := ext_d hd (show p.length ≤ 6 by omega) hp2
    rw [show (n : Int) = (p.length : Int) by omega]
    refine J_iload_3 Y qX9_plan_81 ?_
    refine J_eq1 Y qX9_plan_82 ?_
    refine J_aloadr_0 Y qX9_plan_85 ?_
    refine J_cV0I Y qX9_plan_86 mX9_197 iyX9_days (by decide) rfl (by decide) rfl (Nat.le_of_ble_eq_true rfl) (m_days (p := p) (A := A) (c := c) _ _ _ hI hH hc (by omega) (by omega) hp2 (hoG_P h2)) (fun z M2 h86 => ?_)
    obtain ⟨rfl, b2, rfl, hb2⟩ := h86
    rw [hp1]
    refine J_istore_4 Y qX9_plan_89 rfl ?_
    refine J_iload_4 Y qX9_plan_91 ?_
    refine J_iload_2 Y qX9_plan_93 ?_
    refine J_icmp_ge Y qX9_plan_94 (by omega) (by omega) (by omega) (by omega) (fun h94 => ?_) (fun h94 => ?_)
    · have hup : upd0 A bst p = bst := by unfold upd0 updB; rw [if_neg (by omega)]
      refine J_aloadr_0 Y qX9_plan_146 ?_
      refine J_cV0I Y qX9_plan_147 mX9_200 iyX9_turns (by decide) rfl (by decide) rfl (Nat.le_of_ble_eq_true rfl) (m_turns (p := p) _ _ _ n1 n6 hp1 h2 hp2) (fun z2 M2 h147 => ?_)
      obtain ⟨o2, rfl, hz2⟩ := h147
      rcases hz2 with ⟨rfl, -⟩ | ⟨-, q, hq, -⟩
      · refine J_istore_3 Y qX9_plan_150 rfl ?_
        refine J_goto Y qX9_plan_151 ?_
        exact by
          have e : plnB A s = bst := by rw [← h7, List.foldl_cons, List.foldl_nil]; exact hup
          have h := lp_mplE (o := o2) (b := b2) (bo := bo) (bb := bb) (x4 := some (vi (daysL A (extS A [] p)))) (x5 := x5) hI hM s0 hs hn n1 (by rw [e]; exact h5) X
          rw [e] at h
          exact h
      · rw [chnB, beq_iff_eq, hq] at h4; cases h4
    · refine J_iload_4 Y qX9_plan_97 ?_
      refine J_istore_2 Y qX9_plan_99 rfl ?_
      refine J_iconst Y qX9_plan_100 ?_
      refine J_istore_5 Y qX9_plan_101 rfl ?_
      have hup : upd0 A bst p = (daysL A (extS A [] p), extS A [] p) := by unfold upd0 updB; rw [if_pos (by omega)]
      have hcp : holdL (cpO o bo n) (cpO b2 bb n) (extS A [] p) := by have := cpO_hold (bo := bo) (bb := bb) hb2; rw [show (extS A [] p).length = n by rw [extS_len]; simp; omega] at this; exact this
      have h := lp_mplC (M := M) (s := s) (best := daysL A (extS A [] p)) (z := daysL A (extS A [] p)) (o := o) (b := b2) (bo := bo) (bb := bb) n6 ?_ X (n + 1) 0 (by omega) (by omega)
      · rw [cpO_0, cpO_0] at h
        exact h
      refine J_aloadr_0 Y qX9_plan_146 ?_
      refine J_cV0I Y qX9_plan_147 mX9_200 iyX9_turns (by decide) rfl (by decide) rfl (Nat.le_of_ble_eq_true rfl) (m_turns (p := p) _ _ _ n1 n6 hp1 h2 hp2) (fun z2 M2 h147 => ?_)
      obtain ⟨o2, rfl, hz2⟩ := h147
      rcases hz2 with ⟨rfl, -⟩ | ⟨-, q, hq, -⟩
      · refine J_istore_3 Y qX9_plan_150 rfl ?_
        refine J_goto Y qX9_plan_151 ?_
        exact by
          have e : plnB A s = (daysL A (extS A [] p), extS A [] p) := by rw [← h7, List.foldl_cons, List.foldl_nil]; exact hup
          have h := lp_mplE (o := o2) (b := b2) (bo := cpO o bo n) (bb := cpO b2 bb n) (x4 := some (vi (daysL A (extS A [] p)))) (x5 := some (vi (n : Int))) hI hM s0 hs hn n1 (by rw [e]; exact hcp) X
          rw [e] at h
          exact h
      · rw [chnB, beq_iff_eq, hq] at h4; cases h4

  | cons q ps ih =>
    intro p o b bo bb bst x4 x5 h2 h3 h4 h5 h6 h7
    obtain ⟨hp1, hp2⟩ := h3 p List.mem_cons_self
    have xd := ext_d hd (show p.length ≤ 6 by omega) hp2
    rw [show (n : Int) = (p.length : Int) by omega]
    refine J_iload_3 Y qX9_plan_81 ?_
    refine J_eq1 Y qX9_plan_82 ?_
    refine J_aloadr_0 Y qX9_plan_85 ?_
    refine J_cV0I Y qX9_plan_86 mX9_197 iyX9_days (by decide) rfl (by decide) rfl (Nat.le_of_ble_eq_true rfl) (m_days (p := p) (A := A) (c := c) _ _ _ hI hH hc (by omega) (by omega) hp2 (hoG_P h2)) (fun z M2 h86 => ?_)
    obtain ⟨rfl, b2, rfl, hb2⟩ := h86
    rw [hp1]
    refine J_istore_4 Y qX9_plan_89 rfl ?_
    refine J_iload_4 Y qX9_plan_91 ?_
    refine J_iload_2 Y qX9_plan_93 ?_
    refine J_icmp_ge Y qX9_plan_94 (by omega) (by omega) (by omega) (by omega) (fun h94 => ?_) (fun h94 => ?_)
    · have hup : upd0 A bst p = bst := by unfold upd0 updB; rw [if_neg (by omega)]
      refine J_aloadr_0 Y qX9_plan_146 ?_
      refine J_cV0I Y qX9_plan_147 mX9_200 iyX9_turns (by decide) rfl (by decide) rfl (Nat.le_of_ble_eq_true rfl) (m_turns (p := p) _ _ _ n1 n6 hp1 h2 hp2) (fun z2 M2 h147 => ?_)
      obtain ⟨o2, rfl, hz2⟩ := h147
      rw [chnB, Bool.and_eq_true, beq_iff_eq] at h4
      rcases hz2 with ⟨-, hq⟩ | ⟨rfl, q2, hq, hg⟩
      · rw [h4.1] at hq; cases hq
      · rw [h4.1] at hq
        obtain rfl := Option.some.inj hq
        refine J_istore_3 Y qX9_plan_150 rfl ?_
        refine J_goto Y qX9_plan_151 ?_
        exact ih q o2 b2 bo bb bst _ _ hg (fun w hw => h3 w (List.mem_cons_of_mem _ hw)) h4.2 h5 h6 (by rw [List.foldl_cons, hup] at h7; exact h7)
    · refine J_iload_4 Y qX9_plan_97 ?_
      refine J_istore_2 Y qX9_plan_99 rfl ?_
      refine J_iconst Y qX9_plan_100 ?_
      refine J_istore_5 Y qX9_plan_101 rfl ?_
      have hup : upd0 A bst p = (daysL A (extS A [] p), extS A [] p) := by unfold upd0 updB; rw [if_pos (by omega)]
      have hcp : holdL (cpO o bo n) (cpO b2 bb n) (extS A [] p) := by have := cpO_hold (bo := bo) (bb := bb) hb2; rw [show (extS A [] p).length = n by rw [extS_len]; simp; omega] at this; exact this
      have h := lp_mplC (M := M) (s := s) (best := daysL A (extS A [] p)) (z := daysL A (extS A [] p)) (o := o) (b := b2) (bo := bo) (bb := bb) n6 ?_ X (n + 1) 0 (by omega) (by omega)
      · rw [cpO_0, cpO_0] at h
        exact h
      refine J_aloadr_0 Y qX9_plan_146 ?_
      refine J_cV0I Y qX9_plan_147 mX9_200 iyX9_turns (by decide) rfl (by decide) rfl (Nat.le_of_ble_eq_true rfl) (m_turns (p := p) _ _ _ n1 n6 hp1 h2 hp2) (fun z2 M2 h147 => ?_)
      obtain ⟨o2, rfl, hz2⟩ := h147
      rw [chnB, Bool.and_eq_true, beq_iff_eq] at h4
      rcases hz2 with ⟨-, hq⟩ | ⟨rfl, q2, hq, hg⟩
      · rw [h4.1] at hq; cases hq
      · rw [h4.1] at hq
        obtain rfl := Option.some.inj hq
        refine J_istore_3 Y qX9_plan_150 rfl ?_
        refine J_goto Y qX9_plan_151 ?_
        exact ih q o2 b2 (cpO o bo n) (cpO b2 bb n) (daysL A (extS A [] p), extS A [] p) _ _ hg (fun w hw => h3 w (List.mem_cons_of_mem _ hw)) h4.2 hcp (by show 0 ≤ daysL A (extS A [] p) ∧ daysL A (extS A [] p) ≤ 1000000; omega) (by rw [List.foldl_cons, hup] at h7; exact h7)

theorem lp_mplA {l : Launch} {G : Gx} {E : Fx} {M : Mem} {A : Mem} {m s : Nat} (hI : Inv m A) (hM : MR A M) (s0 : s ≠ 0) (hs : s < 64) (X : OkM l G E cX9_plan RX9 6 4 (some .int) (QR (f_plan A (s : Int)) M)) {b bo bb : Nat → Int} {x3 x4 x5 : Option Value} : ∀ (n i : Nat) (o : Nat → Int), i ≤ 6 → 6 < i + n → hoG o (ascL s i) → J G E 35 [some (rf G 9 0), some (vi (s : Int)), some (vi (i : Int)), x3, x4, x5] [] (plW M ((ascL s i).length : Int) o b bo bb) := by
  have Y := X.ok
  have hd : ∀ a, a < 6 → 1 ≤ A 12 0 a ∧ A 12 0 a ≤ 9 := fun a ha => (hI.arch ha).1
  intro n
  induction n with
  | zero => intro i o h1 h2 h3; exfalso; omega
  | succ n ih =>
    intro i o h1 h2 h3
    have al := asc_len s i
    refine J_iload_2 Y qX9_plan_35 ?_
    refine J_bipush Y qX9_plan_36 (by decide) ?_
    refine J_icmp_ge Y qX9_plan_38 (by omega) (by omega) (by omega) (by omega) (fun h38 => ?_) (fun h38 => ?_)
    · obtain rfl : i = 6 := by omega
      refine J_ldc Y qX9_plan_76 kX9_196 ?_
      refine J_istore_2 Y qX9_plan_78 rfl ?_
      refine J_iconst Y qX9_plan_79 ?_
      refine J_istore_3 Y qX9_plan_80 rfl ?_
      have hhd := chn_hd ⟨s, hs⟩
      have hch := chn_ok ⟨s, hs⟩
      have hpl := prm_len (popN s) s
      have hlt := prm_lt (popN s) s
      have heq := pln_eq hd hs
      simp only at hhd hch
      cases hp : prm (popN s) s with
      | nil => rw [hp] at hhd; simp at hhd
      | cons p ps =>
        rw [hp] at hhd hch hpl hlt heq
        simp only [List.head?_cons, Option.some.injEq] at hhd
        subst hhd
        have hn2 := hpl _ List.mem_cons_self
        rw [hn2]
        exact lp_mpl (n := popN s) hI hM s0 hs rfl (by
          have h9 : ∀ t : Fin 64, t.val ≠ 0 → 1 ≤ popN t.val := by decide +kernel
          exact h9 ⟨s, hs⟩ s0) X ps _ o _ _ _ (1000000, []) _ _ h3 (fun q hq => ⟨hpl q hq, hlt q hq⟩) hch (fun i x hx => by simp at hx) ⟨by decide, by decide⟩ heq
    · refine J_iload_1 Y qX9_plan_41 ?_
      refine J_iload_2 Y qX9_plan_42 ?_
      refine J_ishr Y i qX9_plan_43 rfl (by omega) (by omega) (by omega) ?_
      refine J_iconst Y qX9_plan_44 ?_
      refine J_mask Y 1 qX9_plan_45 (by decide) (by decide +kernel) ?_
      obtain ⟨bb9, hbb⟩ : ∃ b, s / 2 ^ i % 2 = b := ⟨_, rfl⟩
      have hb2 := Nat.mod_lt (s / 2 ^ i) (show 0 < 2 by decide)
      have hbd := bit_div s i
      rw [hbb] at hb2 hbd
      rw [show (s : Int) / 2 ^ i % 2 ^ 1 = (bb9 : Int) from by rw [← hbb]; simp]
      refine J_iconst Y qX9_plan_46 ?_
      refine J_icmp_ne Y qX9_plan_47 (by omega) (by omega) (by omega) (by omega) (fun h47 => ?_) (fun h47 => ?_)
      · first
          | (have htb : s.testBit i = true := hbd.mp (by omega)
             rw [plW_u30]
             refine J_iinc_2 Y qX9_plan_70 rfl ?_
             refine J_goto Y qX9_plan_73 ?_
             have e : ascL s (i + 1) = ascL s i ++ [i] := by rw [ascL, if_pos htb]
             have ih9 := ih (i + 1) (fun c => if c = (ascL s i).length then (i : Int) else o c) (by omega) (by omega) (by
               rw [e]
               intro j hj
               rw [List.length_append] at hj
               simp only [List.length_cons, List.length_nil] at hj
               rw [List.getD_eq_getElem?_getD]
               dsimp only
               by_cases ej : j = (ascL s i).length
               · subst ej
                 rw [if_pos rfl, List.getElem?_append_right (Nat.le_refl _), Nat.sub_self]; rfl
               · rw [if_neg ej, List.getElem?_append_left (by omega), h3 j (by omega), List.getD_eq_getElem?_getD])
             rw [show ((ascL s (i + 1)).length : Int) = ((ascL s i).length : Int) + 1 by rw [e, List.length_append]; simp] at ih9
             exact ih9)
          | (have htb : ¬ s.testBit i = true := fun z => by have := hbd.mpr z; omega
             refine J_iinc_2 Y qX9_plan_70 rfl ?_
             refine J_goto Y qX9_plan_73 ?_
             have e : ascL s (i + 1) = ascL s i := by rw [ascL, if_neg htb]
             have ih9 := ih (i + 1) o (by omega) (by omega) (by rw [e]; exact h3)
             rw [e] at ih9
             exact ih9)
      · refine J_aloadr_0 Y qX9_plan_50 ?_
        refine J_getR Y qX9_plan_51 fX9_68 (by decide) ?_
        refine J_aloadr_0 Y qX9_plan_54 ?_
        refine J_getI Y qX9_plan_55 fX9_186 (by decide) ?_
        rw [plW_30]
        refine J_iload_2 Y qX9_plan_58 ?_
        refine J_iastoreN (kx := (ascL s i).length) Y qX9_plan_59 rfl (by decide) rfl (by omega) (by decide) ?_
        rw [plW_u59]
        refine J_aloadr_0 Y qX9_plan_60 ?_
        refine J_dup Y qX9_plan_61 rfl ?_
        refine J_getI Y qX9_plan_62 fX9_186 (by decide) ?_
        rw [plW_30]
        refine J_iconst Y qX9_plan_65 ?_
        refine J_iadd Y qX9_plan_66 ?_
        refine J_putI Y qX9_plan_67 fX9_186w (by decide) ?_
        first
          | (have htb : s.testBit i = true := hbd.mp (by omega)
             rw [plW_u30]
             refine J_iinc_2 Y qX9_plan_70 rfl ?_
             refine J_goto Y qX9_plan_73 ?_
             have e : ascL s (i + 1) = ascL s i ++ [i] := by rw [ascL, if_pos htb]
             have ih9 := ih (i + 1) (fun c => if c = (ascL s i).length then (i : Int) else o c) (by omega) (by omega) (by
               rw [e]
               intro j hj
               rw [List.length_append] at hj
               simp only [List.length_cons, List.length_nil] at hj
               rw [List.getD_eq_getElem?_getD]
               dsimp only
               by_cases ej : j = (ascL s i).length
               · subst ej
                 rw [if_pos rfl, List.getElem?_append_right (Nat.le_refl _), Nat.sub_self]; rfl
               · rw [if_neg ej, List.getElem?_append_left (by omega), h3 j (by omega), List.getD_eq_getElem?_getD])
             rw [show ((ascL s (i + 1)).length : Int) = ((ascL s i).length : Int) + 1 by rw [e, List.length_append]; simp] at ih9
             exact ih9)
          | (have htb : ¬ s.testBit i = true := fun z => by have := hbd.mpr z; omega
             refine J_iinc_2 Y qX9_plan_70 rfl ?_
             refine J_goto Y qX9_plan_73 ?_
             have e : ascL s (i + 1) = ascL s i := by rw [ascL, if_neg htb]
             have ih9 := ih (i + 1) o (by omega) (by omega) (by rw [e]; exact h3)
             rw [e] at ih9
             exact ih9)

theorem r_plan (l : Launch) (G : Gx) (M : Mem) {A : Mem} {n : Nat} {a : Int} (a1 : -2147483648 ≤ a) (a2 : a < 2147483648) (hI : Inv n A) (hn : n < 512) (hM : MR A M)  : Ct l G 4 yX9_plan cX9_plan 6 ((Option.some Jvm.ClassFile.FieldType.int)) [rf G 9 0, vi a] M (QR (f_plan A a) M) := by
  refine Ct.of rfl (Nat.le_of_ble_eq_true rfl) rfl (fun E X => ?_)
  have Y := X.ok
  obtain ⟨m1, m2, m3, m4, m5, m6⟩ := hM.r0
  obtain ⟨c1, c2⟩ := hI.count
  obtain ⟨d1, d2⟩ := hI.day
  refine J_iload_1 Y qX9_plan_0 ?_
  refine J_iconst Y qX9_plan_1 ?_
  refine J_bipush Y qX9_plan_2 (by decide) ?_
  refine J_cS3B Y qX9_plan_4 mX9_93 iyX9_in rfl (by decide) rfl (Nat.le_of_ble_eq_true rfl) (m_in _ _ _ (by omega) (by omega) (by omega) (by omega) (by omega) (by omega)) (fun h4 => ?_) (fun h4 => ?_)
  · refine J_ne1 Y qX9_plan_7 ?_
    refine J_iload_1 Y qX9_plan_17 ?_
    refine J_if_ne Y qX9_plan_18 (by omega) (by omega) (fun h18 => ?_) (fun h18 => ?_)
    · obtain ⟨s, rfl⟩ := nat_of (show 0 ≤ a by omega)
      refine J_aloadr_0 Y qX9_plan_28 ?_
      refine J_iconst Y qX9_plan_29 ?_
      refine J_putI Y qX9_plan_30 fX9_186w (by decide) ?_
      rw [plW_self]
      refine J_iconst Y qX9_plan_33 ?_
      refine J_istore_2 Y qX9_plan_34 rfl ?_
      exact lp_mplA hI hM (by omega) (by omega) X 7 0 _ (by omega) (by omega) (fun i hi => by simp [ascL] at hi)
    · refine J_aloadr_0 Y qX9_plan_21 ?_
      refine J_bipush Y qX9_plan_22 (by decide) ?_
      refine J_cV1F Y qX9_plan_24 mX9_97 iyX9_refuse (by decide) rfl (by decide) rfl (Nat.le_of_ble_eq_true rfl) (m_refuse _ _ _ 7 (by decide) rfl) ?_
      exact J_iret X qX9_plan_27 (QR_e (by
        unfold f_plan
        try simp only [Int.toNat_natCast]
        repeat (first | rewrite [if_pos trivial] | rewrite [if_pos (by omega)] | rewrite [if_neg (by omega)])
        exact rfl) (by first | rfl | (dsimp only; omega)) (by first | exact hM | exact MR_rfs hM (by decide)) (by first | exact Sm.rfl' | exact Sm_up (Or.inl (by decide))))
  · refine J_ne0 Y qX9_plan_7 ?_
    refine J_aloadr_0 Y qX9_plan_10 ?_
    refine J_bipush Y qX9_plan_11 (by decide) ?_
    refine J_cV1F Y qX9_plan_13 mX9_97 iyX9_refuse (by decide) rfl (by decide) rfl (Nat.le_of_ble_eq_true rfl) (m_refuse _ _ _ 3 (by decide) rfl) ?_
    exact J_iret X qX9_plan_16 (QR_e (by
      unfold f_plan
      try simp only [Int.toNat_natCast]
      repeat (first | rewrite [if_pos trivial] | rewrite [if_pos (by omega)] | rewrite [if_neg (by omega)])
      exact rfl) (by first | rfl | (dsimp only; omega)) (by first | exact hM | exact MR_rfs hM (by decide)) (by first | exact Sm.rfl' | exact Sm_up (Or.inl (by decide))))


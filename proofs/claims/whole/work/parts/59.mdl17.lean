/-! ===== the reference: days go by, the pure part ===== -/
theorem J_icmp_ge_any {G : Gx} {E : Fx} {cc : ByteArray} {own : String} {nL d pc pc2 tg : Nat} {L : List (Option Value)} {st : List Value} {M : Mem} (X : Ok G E cc own nL d) {a b : Int} (q : Br cc pc pc2 tg (.if_icmp .ge)) (kt : J G E tg L st M) (kf : J G E pc2 L st M) : J G E pc L (vi b :: vi a :: st) M := by
  obtain ⟨p, l, e, R, s, m, args, below, meth, c, cells, slots, Q⟩ := E
  obtain ⟨hx, hb, -⟩ := X
  obtain ⟨off, q1, rfl, htg⟩ := q
  intro H locs ls hw hs hl
  exact lv_icmp_ge hx hb q1 htg (fun h => kt H locs ls hw hs hl) (fun h => kf H locs ls hw hs hl)
def tmS (A : Mem) (s : Nat) (k : Int) : Int := if A 5 s 6 = -1 then 0 else min k (A 5 s 7 - A 8 0 9 + 1)
def dlV (A : Mem) (s p : Nat) : Int := prtV (A 26 s) (A 5 s 8) 1 p - (if (p : Int) = A 5 s 6 then A 5 s 8 else 0)
theorem prtV_t (g : Nat → Int) (sum t : Int) (p : Nat) : prtV g sum t p = t * prtV g sum 1 p := by
  unfold prtV
  split
  · rw [Int.mul_one, Int.mul_one, Int.mul_add, Int.mul_comm t, Int.mul_comm t]
  · rw [Int.mul_one, Int.add_zero, Int.add_zero, Int.mul_comm t]
theorem rnt_val {M : Mem} {s : Nat} {days : Int} {p : Nat} (hp : p < 10) (hst : -1 ≤ M 5 s 6) : rntM M s days 18 0 p = M 18 0 p + tmS M s days * dlV M s p := by
  unfold rntM tmS
  by_cases e : M 5 s 6 = -1
  · rw [if_pos e, if_pos e]; simp
  · rw [if_neg e, if_neg e]
    obtain ⟨t, ht⟩ : ∃ t, t = min days (M 5 s 7 - M 8 0 9 + 1) := ⟨_, rfl⟩
    obtain ⟨st, hst2⟩ := nat_of (show 0 ≤ M 5 s 6 by omega)
    simp only [← ht, hst2, Int.toNat_natCast]
    have key : prt (up M 18 0 st (M 18 0 st + -(M 5 s 8) * t)) 26 s (M 5 s 8) t 18 0 p = M 18 0 p + t * dlV M s p := by
      rw [prt_val _ _ _ _ _ hp (by decide), show up M 18 0 st (M 18 0 st + -(M 5 s 8) * t) 26 s = M 26 s from funext (fun j => up_ne (by omega)), prtV_t]
      unfold dlV
      rw [hst2, Int.mul_sub]
      by_cases e2 : p = st
      · subst e2
        rw [up_same, if_pos rfl, Int.neg_mul, Int.mul_comm t (M 5 s 8)]; omega
      · rw [up_ne (by omega), if_neg (by omega)]; simp
    split
    · unfold lett
      rw [up_ne (by omega), up_ne (by omega), up_ne (by omega)]; exact key
    · exact key
theorem run_val {A : Mem} {a : Int} {p : Nat} (hp : p < 10) (hl : ∀ s, s < 14 → -1 ≤ A 5 s 6) : ∀ c, c ≤ 14 → runM A a c 18 0 p = A 18 0 p + sumN (fun s => tmS A s a * dlV A s p) c
  | 0, _ => by simp [runM, sumN]
  | c + 1, hc => by
    have e5 : runM A a c 5 c = A 5 c := funext (fun j => runM_ne (by omega) c (by omega))
    have e26 : runM A a c 26 c = A 26 c := funext (fun j => runM_ne (by omega) c (by omega))
    have e8 : runM A a c 8 0 9 = A 8 0 9 := runM_ne (by omega) c (by omega)
    rw [runM, rnt_val hp (by rw [e5]; exact hl c (by omega)), run_val hp hl c (by omega), sumN]
    unfold tmS dlV
    rw [e5, e26, e8]
    omega
theorem run_let {A : Mem} {a : Int} : ∀ c y z, runM A a c 5 y z = if y < c ∧ (z = 6 ∨ z = 7 ∨ z = 8) ∧ A 5 y 6 ≠ -1 ∧ A 5 y 7 - A 8 0 9 + 1 ≤ a then -1 else A 5 y z
  | 0, y, z => by rw [if_neg (by omega)]; rfl
  | c + 1, y, z => by
    by_cases e : y = c
    · subst e
      have e5 : runM A a y 5 y = A 5 y := funext (fun j => runM_ne (by omega) y (by omega))
      have e8 : runM A a y 8 0 9 = A 8 0 9 := runM_ne (by omega) y (by omega)
      rw [runM]
      unfold rntM
      simp only [e5, e8]
      by_cases e6 : A 5 y 6 = -1
      · rw [if_pos e6, if_neg (by omega), e5]
      · rw [if_neg e6]
        have key : ∀ z, prt (up (runM A a y) 18 0 (A 5 y 6).toNat (runM A a y 18 0 (A 5 y 6).toNat + -(A 5 y 8) * min a (A 5 y 7 - A 8 0 9 + 1))) 26 y (A 5 y 8) (min a (A 5 y 7 - A 8 0 9 + 1)) 5 y z = A 5 y z := fun z => by rw [prt_ne (by decide), up_ne (by omega), e5]
        by_cases el : A 5 y 7 - A 8 0 9 + 1 ≤ a
        · rw [if_pos el]
          unfold lett
          by_cases ez : z = 6 ∨ z = 7 ∨ z = 8
          · rw [if_pos ⟨by omega, ez, e6, el⟩]
            simp only [up]
            rcases ez with rfl | rfl | rfl <;> simp
          · rw [if_neg (by omega), up_ne (by omega), up_ne (by omega), up_ne (by omega), key]
        · rw [if_neg el, if_neg (by omega), key]
    · rw [runM, rntM_ne (by decide) (by omega), run_let c y z]
      have g : (y < c) ↔ (y < c + 1) := by omega
      simp only [g]
/-- some days have gone by: td of rents, te of lets -/
def rnG (A : Mem) (c : Nat) (td te : Nat → Int) (dd : Int) : Mem := fun x y z =>
  if x = 18 ∧ y = 0 ∧ z < 10 then A 18 0 z + sumN (fun s => tmS A s (td s) * dlV A s z) c
  else if x = 5 ∧ y < c ∧ (z = 6 ∨ z = 7 ∨ z = 8) ∧ A 5 y 6 ≠ -1 ∧ A 5 y 7 - A 8 0 9 + 1 ≤ te y then -1
  else if x = 8 ∧ y = 0 ∧ z = 9 then A 8 0 9 + dd
  else A x y z
section RG
variable {A : Mem} {c : Nat} {td te : Nat → Int} {dd : Int}
theorem rnG_o {x : Nat} (h : x ≠ 18 ∧ x ≠ 5 ∧ x ≠ 8) : rnG A c td te dd x = A x := by
  funext y z
  unfold rnG
  rw [if_neg (by omega), if_neg (by omega), if_neg (by omega)]
theorem rnG_5 {y z : Nat} (h : z ≠ 6 ∧ z ≠ 7 ∧ z ≠ 8) : rnG A c td te dd 5 y z = A 5 y z := by
  unfold rnG
  rw [if_neg (by omega), if_neg (by omega), if_neg (by omega)]
theorem rnG_5n {y z : Nat} (h : c ≤ y ∨ A 5 y 6 = -1 ∨ te y < A 5 y 7 - A 8 0 9 + 1) : rnG A c td te dd 5 y z = A 5 y z := by
  unfold rnG
  rw [if_neg (by omega), if_neg (by omega), if_neg (by omega)]
theorem rnG_5y {y z : Nat} (h : y < c) (h2 : A 5 y 6 ≠ -1) (h3 : A 5 y 7 - A 8 0 9 + 1 ≤ te y) (hz : z = 6 ∨ z = 7 ∨ z = 8) : rnG A c td te dd 5 y z = -1 := by
  unfold rnG
  rw [if_neg (by omega), if_pos ⟨rfl, h, hz, h2, h3⟩]
theorem rnG_18 {z : Nat} (h : z < 10) : rnG A c td te dd 18 0 z = A 18 0 z + sumN (fun s => tmS A s (td s) * dlV A s z) c := by
  unfold rnG
  rw [if_pos ⟨rfl, rfl, h⟩]
theorem rnG_8 {y z : Nat} (h : z ≠ 9) : rnG A c td te dd 8 y z = A 8 y z := by
  unfold rnG
  rw [if_neg (by omega), if_neg (by omega), if_neg (by omega)]
theorem rnG_89 : rnG A c td te dd 8 0 9 = A 8 0 9 + dd := by
  unfold rnG
  rw [if_neg (by omega), if_neg (by omega), if_pos ⟨rfl, rfl, rfl⟩]
theorem rnG_td {td2 : Nat → Int} {x y z : Nat} (h : x ≠ 18) : rnG A c td2 te dd x y z = rnG A c td te dd x y z := by
  unfold rnG
  rw [if_neg (show ¬ (x = 18 ∧ y = 0 ∧ z < 10) by omega), if_neg (show ¬ (x = 18 ∧ y = 0 ∧ z < 10) by omega)]
end RG
theorem rnG_0 {A : Mem} {c : Nat} (h : ∀ s, s < c → A 5 s 6 ≠ -1 → A 8 0 9 ≤ A 5 s 7) : rnG A c (fun _ => 0) (fun _ => 0) 0 = A := by
  have hs : ∀ z m, m ≤ c → sumN (fun s => tmS A s 0 * dlV A s z) m = 0 := by
    intro z m
    induction m with
    | zero => intro _; rfl
    | succ m ih =>
      intro hm
      have := h m (by omega)
      rw [sumN, ih (by omega), show tmS A m 0 = 0 from by unfold tmS; split <;> omega]
      simp
  funext x y z
  unfold rnG
  split
  · next e => obtain ⟨rfl, rfl, e⟩ := e; rw [hs z c (Nat.le_refl c), Int.add_zero]
  · split
    · next e =>
      have := h y e.2.1 e.2.2.2.1
      have e5 : A 5 y 7 - A 8 0 9 + 1 ≤ 0 := e.2.2.2.2
      omega
    · split
      · next e => obtain ⟨rfl, rfl, rfl⟩ := e; omega
      · rfl
theorem MR_run {A N : Mem} {a : Int} {c : Nat} (hl : ∀ s, s < 14 → -1 ≤ A 5 s 6) (hc : c ≤ 14) (h : MR (rnG A c (fun _ => a) (fun _ => a) a) N) : MR (up (runM A a c) 8 0 9 (A 8 0 9 + a)) N := by
  refine MR_18 h (fun x y z hx => ?_) (fun x y z hx => rfl) ?_
  · by_cases e8 : x = 8 ∧ y = 0 ∧ z = 9
    · obtain ⟨rfl, rfl, rfl⟩ := e8
      rw [up_same, rnG_89]
    · rw [up_ne e8]
      by_cases e5 : x = 5
      · subst e5
        rw [run_let]
        unfold rnG
        rw [if_neg (show ¬ (5 = 18 ∧ y = 0 ∧ z < 10) by omega), if_neg (show ¬ (5 = 8 ∧ y = 0 ∧ z = 9) by omega)]
        simp
      · rw [runM_ne hx c (by omega)]
        unfold rnG
        rw [if_neg (by omega), if_neg (by omega), if_neg e8]
  · intro p hp
    rw [up_ne (by omega), run_val hp hl c hc, h.rm p hp, rnG_18 hp]
theorem sumN_upd {f g : Nat → Int} {i : Nat} {d : Int} (hi : f i = g i + d) : ∀ c, i < c → (∀ s, s < c → s ≠ i → f s = g s) → sumN f c = sumN g c + d
  | 0, h, _ => by omega
  | c + 1, h, e => by
    rw [sumN, sumN]
    by_cases q : i = c
    · subst q
      rw [hi, sumN_cong (g := f) (h := g) i (fun s hs => e s (by omega) (by omega))]; omega
    · rw [sumN_upd hi c (by omega) (fun s hs hn => e s (by omega) hn), e c (by omega) (fun z => q z.symm)]; omega
theorem MR_day {a N : Mem} {v : Int} (h : MR a N) : MR (up a 8 0 9 v) (up N 9 0 1 v) := by
  obtain ⟨m1, m2, m3, m4, m5, m6⟩ := h.r0
  exact ⟨⟨rfl, m2, m3, m4, m5, m6⟩, h.rr, h.rs, h.rp, h.rl, h.rq, h.rh, h.rm, h.rt, h.ru, h.rf, h.rb, h.rw⟩
theorem MR_let46 {a a2 N : Mem} {j : Nat} {v : Int} (h : MR a N) (he : ∀ x y z, ¬ (x = 5 ∧ y = j ∧ (z = 6 ∨ z = 7 ∨ z = 8)) → a2 x y z = a x y z) (hv : v = a2 5 j 6) (hv2 : a2 5 j 6 ≠ -1 → a 5 j 6 ≠ -1 ∧ a2 5 j 7 = a 5 j 7 ∧ a2 5 j 8 = a 5 j 8) : MR a2 (up N 46 0 j v) := by
  have ex : ∀ x, x ≠ 5 → a2 x = a x := fun x hx => funext fun y => funext fun z => he x y z (by omega)
  have eN : ∀ x, x ≠ 46 → up N 46 0 j v x = N x := fun x hx => funext fun y => funext fun z => up_ne (by omega)
  refine ⟨?_, ?_, ?_, ?_, ?_, ?_, ?_, ?_, ?_, ?_, ?_, ?_, ?_⟩
  · have q := h.r0; unfold MR0 at q ⊢; rw [ex 8 (by decide), ex 0 (by decide), ex 4 (by decide), ex 6 (by decide), ex 1 (by decide), eN 9 (by decide)]; exact q
  · have q := h.rr; unfold MRr at q ⊢; rw [ex 34 (by decide), eN 40 (by decide)]; exact q
  · intro u hu
    rw [ex 0 (by decide)] at hu
    rw [he 5 u 0 (by omega), he 5 u 1 (by omega), he 5 u 2 (by omega), he 5 u 3 (by omega), eN 41 (by decide), eN 42 (by decide), eN 43 (by decide), eN 44 (by decide)]
    exact h.rs u hu
  · have q := h.rp; unfold MRp at q ⊢; rw [ex 25 (by decide), ex 26 (by decide), eN 45 (by decide)]; exact q
  · intro u hu
    have q := h.rl u hu
    rw [eN 47 (by decide), eN 48 (by decide)]
    by_cases e : u = j
    · subst e
      rw [up_same, hv]
      refine ⟨rfl, fun hh => ?_⟩
      obtain ⟨q1, q2, q3⟩ := hv2 hh
      rw [q2, q3]
      exact q.2 q1
    · rw [up_ne (by omega), he 5 u 6 (by omega), he 5 u 7 (by omega), he 5 u 8 (by omega)]
      exact q
  · intro u hu
    have q := h.rq u hu
    rw [he 5 u 11 (by omega), ex 27 (by decide), ex 28 (by decide), eN 49 (by decide), eN 50 (by decide), eN 51 (by decide)]
    exact q
  · have q := h.rh; unfold MRh at q ⊢; rw [ex 7 (by decide), ex 30 (by decide), ex 31 (by decide), eN 52 (by decide), eN 53 (by decide), eN 54 (by decide)]; exact q
  · have q := h.rm; unfold MRm at q ⊢; rw [ex 18 (by decide), eN 55 (by decide)]; exact q
  · have q := h.rt; unfold MRt at q ⊢; rw [ex 12 (by decide), eN 56 (by decide)]; exact q
  · have q := h.ru; unfold MRu at q ⊢; rw [ex 4 (by decide), ex 3 (by decide), ex 19 (by decide), ex 20 (by decide), ex 21 (by decide), ex 22 (by decide), eN 57 (by decide)]; exact q
  · have q := h.rf; unfold MRf at q ⊢; rw [ex 6 (by decide), ex 29 (by decide), eN 58 (by decide)]; exact q
  · have q := h.rb; unfold MRb at q ⊢; rw [ex 1 (by decide), ex 16 (by decide), ex 17 (by decide), eN 61 (by decide), eN 62 (by decide)]; exact q
  · have q := h.rw; unfold MRw at q ⊢; rw [ex 33 (by decide), eN 64 (by decide)]; exact q
/-- days of rents within a day: the first i shops have paid -/
def tdF (k i : Nat) : Nat → Int := fun s => if s < i then (k : Int) + 1 else k
/-- a let that lasts on day k -/
abbrev lst (A : Mem) (i k : Nat) : Prop := A 5 i 6 ≠ -1 ∧ (k : Int) < A 5 i 7 - A 8 0 9 + 1
theorem tmS_on {A : Mem} {i k : Nat} (h : lst A i k) : tmS A i (tdF k (i + 1) i) = k + 1 ∧ tmS A i (tdF k i i) = k := by
  obtain ⟨h1, h2⟩ := h
  unfold tmS tdF
  rw [if_neg h1, if_neg h1, if_pos (by omega), if_neg (by omega)]
  omega
theorem tmS_off {A : Mem} {i k : Nat} (h : ¬ lst A i k) : tmS A i (tdF k (i + 1) i) = tmS A i (tdF k i i) := by
  unfold tmS tdF
  by_cases e : A 5 i 6 = -1
  · rw [if_pos e, if_pos e]
  · have : ¬ (k : Int) < A 5 i 7 - A 8 0 9 + 1 := fun z => h ⟨e, z⟩
    rw [if_neg e, if_neg e, if_pos (by omega), if_neg (by omega)]
    omega
theorem tdF_ne {k i s : Nat} (h : s ≠ i) : tdF k (i + 1) s = tdF k i s := by
  unfold tdF
  have : (s < i + 1) ↔ (s < i) := by omega
  simp only [this]
theorem pay_on {A : Mem} {N : Mem} {c i k st : Nat} {te : Nat → Int} {dd : Int} (hi : i < c) (h : MR (rnG A c (tdF k i) te dd) N) (hl : lst A i k) (hst : A 5 i 6 = (st : Int)) : MR (rnG A c (tdF k (i + 1)) te dd) (mpr (up N 55 0 st (N 55 0 st - A 5 i 8)) (A 26 i) (A 5 i 8) 1) := by
  refine MR_18 h (fun x y z hx => rnG_td hx) (fun x y z hx => by rw [mpr, upR_ne (by omega), up_ne (by omega)]) ?_
  intro p hp
  obtain ⟨t1, t2⟩ := tmS_on hl
  rw [rnG_18 hp, sumN_upd (f := fun s => tmS A s (tdF k (i + 1) s) * dlV A s p) (g := fun s => tmS A s (tdF k i s) * dlV A s p) (i := i) (d := dlV A i p) (by rw [t1, t2, Int.add_mul, Int.one_mul]) c hi (fun s hs hn => by rw [tdF_ne hn])]
  have hm := h.rm p hp
  rw [rnG_18 hp] at hm
  rw [← Int.add_assoc, ← hm, mpr, upR_at, if_pos hp]
  unfold dlV
  rw [hst]
  by_cases e : p = st
  · subst e; rw [up_same, if_pos rfl]; omega
  · rw [up_ne (by omega), if_neg (by omega)]; omega
theorem pay_off {A : Mem} {N : Mem} {c i k : Nat} {te : Nat → Int} {dd : Int} (h : MR (rnG A c (tdF k i) te dd) N) (hl : ¬ lst A i k) : MR (rnG A c (tdF k (i + 1)) te dd) N := by
  refine MR_18 h (fun x y z hx => rnG_td hx) (fun x y z hx => rfl) ?_
  intro p hp
  have hm := h.rm p hp
  rw [hm, rnG_18 hp, rnG_18 hp]
  congr 1
  refine sumN_cong c (fun s hs => ?_)
  by_cases e : s = i
  · subst e; rw [tmS_off hl]
  · rw [tdF_ne e]
def pdT (A : Mem) (c : Nat) (td : Nat → Int) : Int := sumN (fun s => A 5 s 8 * tmS A s (td s)) c
theorem pdT_on {A : Mem} {c i k : Nat} (hi : i < c) (hl : lst A i k) : pdT A c (tdF k (i + 1)) = pdT A c (tdF k i) + A 5 i 8 := by
  obtain ⟨t1, t2⟩ := tmS_on hl
  unfold pdT
  exact sumN_upd (i := i) (by rw [t1, t2, Int.mul_add, Int.mul_one]) c hi (fun s hs hn => by rw [tdF_ne hn])
theorem pdT_off {A : Mem} {c i k : Nat} (hl : ¬ lst A i k) : pdT A c (tdF k (i + 1)) = pdT A c (tdF k i) := by
  unfold pdT
  refine sumN_cong c (fun s hs => ?_)
  by_cases e : s = i
  · subst e; rw [tmS_off hl]
  · rw [tdF_ne e]
theorem pdT_c (A : Mem) (c k : Nat) : pdT A c (tdF k c) = pdT A c (tdF (k + 1) 0) := by
  unfold pdT
  refine sumN_cong c (fun s hs => ?_)
  congr 2
  unfold tdF
  rw [if_pos hs, if_neg (by omega)]; omega
theorem rnG_c (A : Mem) (c k : Nat) (te : Nat → Int) (dd : Int) : rnG A c (tdF k c) te dd = rnG A c (tdF (k + 1) 0) te dd := by
  funext x y z
  unfold rnG
  rw [show sumN (fun s => tmS A s (tdF k c s) * dlV A s z) c = sumN (fun s => tmS A s (tdF (k + 1) 0 s) * dlV A s z) c from sumN_cong c (fun s hs => by
    congr 2
    unfold tdF
    rw [if_pos hs, if_neg (by omega)]; omega)]
theorem rnG_te (A : Mem) (c k : Nat) (td : Nat → Int) (dd : Int) : rnG A c td (tdF k c) dd = rnG A c td (tdF (k + 1) 0) dd := by
  funext x y z
  unfold rnG
  by_cases e : y < c
  · rw [show tdF k c y = tdF (k + 1) 0 y by unfold tdF; rw [if_pos e, if_neg (by omega)]; omega]
  · rw [if_neg (show ¬ (x = 5 ∧ y < c ∧ _) by omega), if_neg (show ¬ (x = 5 ∧ y < c ∧ _) by omega)]
theorem rnG_dd (A : Mem) (c : Nat) (td te : Nat → Int) (dd d2 : Int) : up (rnG A c td te dd) 8 0 9 (A 8 0 9 + d2) = rnG A c td te d2 := by
  funext x y z
  by_cases e : x = 8 ∧ y = 0 ∧ z = 9
  · obtain ⟨rfl, rfl, rfl⟩ := e
    rw [up_same, rnG_89]
  · rw [up_ne e]
    unfold rnG
    rw [if_neg e, if_neg e]
theorem tdF_const (k : Nat) : tdF k 0 = fun _ => (k : Int) := by
  funext s
  unfold tdF
  rw [if_neg (by omega)]
theorem let_step {A N : Mem} {c j k : Nat} {td : Nat → Int} {dd v : Int} (hj : j < c) (h : MR (rnG A c td (tdF k j) dd) N) (hv : v = if lst A j (k + 1) then A 5 j 6 else -1) : MR (rnG A c td (tdF k (j + 1)) dd) (up N 46 0 j v) := by
  have e6 : rnG A c td (tdF k (j + 1)) dd 5 j 6 = if lst A j (k + 1) then A 5 j 6 else -1 := by
    have ht : tdF k (j + 1) j = (k : Int) + 1 := by unfold tdF; rw [if_pos (by omega)]
    by_cases q : lst A j (k + 1)
    · rw [if_pos q, rnG_5n (Or.inr (Or.inr (by rw [ht]; exact q.2)))]
    · rw [if_neg q]
      by_cases q6 : A 5 j 6 = -1
      · rw [rnG_5n (Or.inr (Or.inl q6))]; exact q6
      · have : ¬ ((k + 1 : Nat) : Int) < A 5 j 7 - A 8 0 9 + 1 := fun z => q ⟨q6, z⟩
        exact rnG_5y hj q6 (by rw [ht]; omega) (by omega)
  refine MR_let46 h (fun x y z hx => ?_) (by rw [hv, e6]) (fun hh => ?_)
  · unfold rnG
    by_cases e : x = 5 ∧ y = j
    · rw [if_neg (show ¬ (x = 5 ∧ y < c ∧ (z = 6 ∨ z = 7 ∨ z = 8) ∧ _) by omega), if_neg (show ¬ (x = 5 ∧ y < c ∧ (z = 6 ∨ z = 7 ∨ z = 8) ∧ _) by omega)]
    · by_cases e2 : x = 5
      · rw [tdF_ne (show y ≠ j by omega)]
      · rw [if_neg (show ¬ (x = 5 ∧ _) by omega), if_neg (show ¬ (x = 5 ∧ _) by omega)]
  · rw [e6] at hh
    by_cases q : lst A j (k + 1)
    · have hn : (k : Int) < A 5 j 7 - A 8 0 9 + 1 := by have := q.2; omega
      have ht : tdF k j j = (k : Int) := by unfold tdF; rw [if_neg (by omega)]
      have ht2 : tdF k (j + 1) j = (k : Int) + 1 := by unfold tdF; rw [if_pos (by omega)]
      rw [rnG_5n (te := tdF k j) (Or.inr (Or.inr (by rw [ht]; exact hn))), rnG_5n (te := tdF k j) (Or.inr (Or.inr (by rw [ht]; exact hn))), rnG_5n (te := tdF k j) (Or.inr (Or.inr (by rw [ht]; exact hn))), rnG_5n (te := tdF k (j + 1)) (Or.inr (Or.inr (by rw [ht2]; have := q.2; omega))), rnG_5n (te := tdF k (j + 1)) (Or.inr (Or.inr (by rw [ht2]; have := q.2; omega)))]
      exact ⟨q.1, rfl, rfl⟩
    · rw [if_neg q] at hh
      exact absurd rfl hh
theorem pdT_f {A : Mem} {c : Nat} {a : Int} : pdT A c (fun _ => a) = sumN (fun s => rntV A s a) c := by
  unfold pdT
  refine sumN_cong c (fun s hs => ?_)
  unfold tmS rntV
  split
  · simp
  · rfl

/-! ===== parting of sums, passing on, debts ===== -/
def prtS (M : Mem) (f s : Nat) (sum times : Int) (i : Nat) : Mem := upR M 18 0 (fun p => if p < i then M 18 0 p + shr (M f s) sum p * times else M 18 0 p)
def prt (M : Mem) (f s : Nat) (sum times : Int) : Mem := if fstP (M f s) 10 = -1 then prtS M f s sum times 10 else up (prtS M f s sum times 10) 18 0 (fstP (M f s) 10).toNat (prtS M f s sum times 10 18 0 (fstP (M f s) 10).toNat + (sum - sumN (shr (M f s) sum) 10) * times)
theorem prtS_ne {M : Mem} {f s : Nat} {sum times : Int} {i a b c : Nat} (h : a ≠ 18) : prtS M f s sum times i a b c = M a b c := by simp only [prtS, upR]; grind
theorem prt_ne {M : Mem} {f s : Nat} {sum times : Int} {a b c : Nat} (h : a ≠ 18) : prt M f s sum times a b c = M a b c := by
  unfold prt
  split
  · exact prtS_ne h
  · rw [up_ne (by omega)]; exact prtS_ne h
theorem prtS_0 (M : Mem) (f s : Nat) (sum times : Int) : prtS M f s sum times 0 = M := by
  funext a b c
  simp only [prtS, upR]
  grind
theorem prtS_t {M : Mem} {f s : Nat} {sum times : Int} {i : Nat} (h : 0 < M f s i) : up (prtS M f s sum times i) 18 0 i (prtS M f s sum times i 18 0 i + sum * M f s i / 5040 * times) = prtS M f s sum times (i + 1) := by
  have e : shr (M f s) sum i = sum * M f s i / 5040 := by simp [shr, h]
  funext a b c
  simp only [prtS, upR, up, ← e]
  grind
theorem prtS_f {M : Mem} {f s : Nat} {sum times : Int} {i : Nat} (h : ¬ 0 < M f s i) : prtS M f s sum times i = prtS M f s sum times (i + 1) := by
  have e : shr (M f s) sum i = 0 := by simp [shr, h]
  funext a b c
  simp only [prtS, upR]
  split
  · by_cases hc : c = i
    · subst hc
      simp [e]
    · have : c < i ↔ c < i + 1 := by omega
      simp only [this]
  · rfl
/-- what each heir gets, the first k of them -/
def dst (g hs ws : Nat → Int) (est all : Int) : Nat → Nat → Int
  | 0 => g
  | k + 1 => fun p => if (p : Int) = hs k then dst g hs ws est all k p + est * ws k / all else dst g hs ws est all k p
def pasR (g hs ws : Nat → Int) (n dead : Nat) : Nat → Int := fun p =>
  if p = dead then 0 else if (p : Int) = hs 0 then dst g hs ws (g dead) (sumN ws n) n p + (g dead - sumN (fun h => g dead * ws h / sumN ws n) n) else dst g hs ws (g dead) (sumN ws n) n p
theorem upR_upR (M : Mem) (f i : Nat) (g h : Nat → Int) : upR (upR M f i g) f i h = upR M f i h := by
  funext a b c
  simp only [upR]
  grind
theorem upR_at (M : Mem) (f i : Nat) (g : Nat → Int) (k : Nat) : upR M f i g f i k = g k := by simp [upR]
theorem upR_ne {M : Mem} {f i a b c : Nat} {g : Nat → Int} (h : ¬ (a = f ∧ b = i)) : upR M f i g a b c = M a b c := by simp only [upR, if_neg h]
/-- one shop at a death -/
def dthS (N : Mem) (p s : Nat) : Mem :=
  let N1 := upR N 25 s (pasR (N 25 s) (N 30 p) (N 31 p) (N 7 p 2).toNat p)
  let N2 := upR N1 26 s (pasR (N 26 s) (N 30 p) (N 31 p) (N 7 p 2).toNat p)
  let N3 := psd N2 s (N 5 s 11).toNat p (N 30 p 0)
  if N 5 s 6 = p then lett N3 s (-1) (-1) (-1) else N3
def dth (M : Mem) (p : Nat) : Nat → Mem
  | 0 => M
  | i + 1 => dthS (dth M p i) p i
theorem dthS_ne {N : Mem} {p s a b c : Nat} (h : b ≠ s ∨ (a ≠ 25 ∧ a ≠ 26 ∧ a ≠ 27 ∧ a ≠ 5)) : dthS N p s a b c = N a b c := by
  have e : psd (upR (upR N 25 s (pasR (N 25 s) (N 30 p) (N 31 p) (N 7 p 2).toNat p)) 26 s (pasR (N 26 s) (N 30 p) (N 31 p) (N 7 p 2).toNat p)) s (N 5 s 11).toNat p (N 30 p 0) a b c = N a b c := by
    rw [psd, upR_ne (by omega), upR_ne (by omega), upR_ne (by omega)]
  unfold dthS
  split
  · rw [lett, up_ne (by omega), up_ne (by omega), up_ne (by omega)]; exact e
  · exact e
theorem dth_ne {M : Mem} {p a b c : Nat} : ∀ i : Nat, (i ≤ b ∨ (a ≠ 25 ∧ a ≠ 26 ∧ a ≠ 27 ∧ a ≠ 5)) → dth M p i a b c = M a b c
  | 0, _ => rfl
  | i + 1, h => by
    rw [dth, dthS_ne (by omega)]
    exact dth_ne i (by omega)
def f_death (M : Mem) (a : Int) : Int × Mem :=
  if a < 0 ∨ 9 < a then (-3, rfs M 3) else if M 7 a.toNat 2 = 0 then (-2, rfs M 2)
  else (sumN (fun s => M 25 s a.toNat + M 26 s a.toNat) (M 0 0 2).toNat, dth M a.toNat (M 0 0 2).toNat)
/-- debts paid out of a price: what is left, how many stay, the world -/
def pdS (M : Mem) (s : Nat) (price : Int) : Nat → Int × Nat × Mem
  | 0 => (price, 0, up M 5 s 11 0)
  | i + 1 =>
    let t := pdS M s price i
    let paid := min t.1 (M 28 s i)
    let N := up t.2.2 18 0 (M 27 s i).toNat (t.2.2 18 0 (M 27 s i).toNat + paid)
    if paid < M 28 s i then (t.1 - paid, t.2.1 + 1, addP N s t.2.1 (M 27 s i) (M 28 s i - paid)) else (t.1 - paid, t.2.1, N)
theorem pdS_facts (M : Mem) (s : Nat) (price : Int) (h0 : 0 ≤ price) (hp : price ≤ 99999) : ∀ i : Nat, (∀ j, j < i → 1 ≤ M 28 s j) → (0 ≤ (pdS M s price i).1 ∧ (pdS M s price i).1 ≤ 99999) ∧ (pdS M s price i).2.1 ≤ i ∧ (pdS M s price i).2.2 5 s 11 = ((pdS M s price i).2.1 : Int) ∧ (∀ j, i ≤ j → (pdS M s price i).2.2 27 s j = M 27 s j ∧ (pdS M s price i).2.2 28 s j = M 28 s j) ∧ (∀ a b c, a ≠ 27 → a ≠ 28 → a ≠ 18 → ¬ (a = 5 ∧ b = s ∧ c = 11) → (pdS M s price i).2.2 a b c = M a b c)
  | 0, _ => by
    refine ⟨⟨h0, hp⟩, Nat.le_refl 0, by simp [pdS, up], fun j _ => ⟨?_, ?_⟩, fun a b c h1 h2 h3 h4 => ?_⟩
    · simp [pdS, up]
    · simp [pdS, up]
    · simp only [pdS]; exact up_ne h4
  | i + 1, h => by
    obtain ⟨⟨a1, a2⟩, b1, c1, d1, e1⟩ := pdS_facts M s price h0 hp i (fun j hj => h j (by omega))
    have hd := h i (by omega)
    simp only [pdS]
    split
    · refine ⟨⟨by show 0 ≤ _ - _; omega, by show _ - _ ≤ _; omega⟩, by show _ + 1 ≤ _; omega, by simp [addP, up], fun j hj => ?_, fun a b c h1 h2 h3 h4 => ?_⟩
      · have := d1 j (by omega)
        simp only [addP, up]
        refine ⟨?_, ?_⟩
        · rw [if_neg (by omega), if_neg (by omega), if_neg (by omega), if_neg (by omega)]; exact this.1
        · rw [if_neg (by omega), if_neg (by omega), if_neg (by omega), if_neg (by omega)]; exact this.2
      · simp only [addP, up]
        rw [if_neg (by omega), if_neg (by omega), if_neg (by omega), if_neg (by omega)]
        exact e1 a b c h1 h2 h3 h4
    · refine ⟨⟨by show 0 ≤ _ - _; omega, by show _ - _ ≤ _; omega⟩, by show (pdS M s price i).2.1 ≤ _; omega, by simp only [up]; rw [if_neg (by omega)]; exact c1, fun j hj => ?_, fun a b c h1 h2 h3 h4 => ?_⟩
      · have := d1 j (by omega)
        simp only [up]
        refine ⟨?_, ?_⟩
        · rw [if_neg (by omega)]; exact this.1
        · rw [if_neg (by omega)]; exact this.2
      · simp only [up]
        rw [if_neg (by omega)]
        exact e1 a b c h1 h2 h3 h4
def soldM (M : Mem) (s p : Nat) (price : Int) : Mem := giv (prt (pdS M s price (M 5 s 11).toNat).2.2 26 s (pdS M s price (M 5 s 11).toNat).1 1) 26 s p
def f_sold (M : Mem) (a b c : Int) : Int × Mem :=
  if a < 0 ∨ M 0 0 2 ≤ a ∨ b < 0 ∨ 9 < b then (-3, rfs M 3) else if c < 0 ∨ 99999 < c then (-7, rfs M 7)
  else ((pdS M a.toNat c (M 5 a.toNat 11).toNat).1, soldM M a.toNat b.toNat c)
/-- the rents of a shop for some days -/
def rntM (M : Mem) (s : Nat) (days : Int) : Mem :=
  if M 5 s 6 = -1 then M else
  let l := M 5 s 7 - M 8 0 9 + 1
  let t := min days l
  let N := prt (up M 18 0 (M 5 s 6).toNat (M 18 0 (M 5 s 6).toNat + -(M 5 s 8) * t)) 26 s (M 5 s 8) t
  if l ≤ days then lett N s (-1) (-1) (-1) else N
def rntV (M : Mem) (s : Nat) (days : Int) : Int := if M 5 s 6 = -1 then 0 else M 5 s 8 * min days (M 5 s 7 - M 8 0 9 + 1)
theorem rntM_ne {M : Mem} {s : Nat} {days : Int} {a b c : Nat} (h : a ≠ 18) (h2 : a ≠ 5 ∨ b ≠ s) : rntM M s days a b c = M a b c := by
  unfold rntM
  split
  · rfl
  · have e : prt (up M 18 0 (M 5 s 6).toNat (M 18 0 (M 5 s 6).toNat + -(M 5 s 8) * min days (M 5 s 7 - M 8 0 9 + 1))) 26 s (M 5 s 8) (min days (M 5 s 7 - M 8 0 9 + 1)) a b c = M a b c := by rw [prt_ne h, up_ne (by omega)]
    simp only []
    split
    · simp only [lett]
      rw [up_ne (by omega), up_ne (by omega), up_ne (by omega)]
      exact e
    · exact e
def runM (M : Mem) (days : Int) : Nat → Mem
  | 0 => M
  | i + 1 => rntM (runM M days i) i days
theorem runM_ne {M : Mem} {days : Int} {a b c : Nat} (h : a ≠ 18) : ∀ i : Nat, (a ≠ 5 ∨ i ≤ b) → runM M days i a b c = M a b c
  | 0, _ => rfl
  | i + 1, h2 => by rw [runM, rntM_ne h (by omega)]; exact runM_ne h i (by omega)
def f_run (M : Mem) (a : Int) : Int × Mem :=
  if a < 0 then (-4, rfs M 4) else if a < 1 ∨ 100 < a then (-7, rfs M 7)
  else (sumN (fun s => rntV M s a) (M 0 0 2).toNat, up (runM M a (M 0 0 2).toNat) 8 0 9 (M 8 0 9 + a))
def chgM (M : Mem) (s : Nat) (cost : Int) : Mem := prt (prt M 25 s (cost * 2 / 3) (-1)) 26 s (cost - cost * 2 / 3) (-1)
/-- the first i shops of an arch bear a cost: what is still left of the rest, the world -/
def repM (M : Mem) (a each left : Int) : Nat → Int × Mem
  | 0 => (left, M)
  | i + 1 => if M 5 i 1 = a then (0, chgM (repM M a each left i).2 i (each + (repM M a each left i).1)) else repM M a each left i
def undN (M : Mem) (a : Int) (n : Nat) : Int := ctN (fun s => decide (M 5 s 1 = a)) n
theorem ctN_rng (c : Nat → Bool) : ∀ n : Nat, 0 ≤ ctN c n ∧ ctN c n ≤ n
  | 0 => by simp [ctN]
  | n + 1 => by
    have := ctN_rng c n
    simp only [ctN]
    split <;> omega
def f_repair (M : Mem) (a b : Int) : Int × Mem :=
  if a < 0 ∨ 5 < a then (-3, rfs M 3) else if b < 0 ∨ 99999 < b then (-7, rfs M 7)
  else if undN M a (M 0 0 2).toNat = 0 then (-2, rfs M 2)
  else (undN M a (M 0 0 2).toNat, (repM M a (b / undN M a (M 0 0 2).toNat) (b - b / undN M a (M 0 0 2).toNat * undN M a (M 0 0 2).toNat) (M 0 0 2).toNat).2)
theorem repM_ne {M : Mem} {a each left : Int} {x y z : Nat} (h : x ≠ 18) : ∀ i : Nat, (repM M a each left i).2 x y z = M x y z
  | 0 => rfl
  | i + 1 => by
    simp only [repM]
    split
    · simp only [chgM]; rw [prt_ne h, prt_ne h]; exact repM_ne h i
    · exact repM_ne h i

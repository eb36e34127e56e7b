/-! ===== what is opened so that least is lost ===== -/
def Scr (M2 M : Mem) : Prop := ∃ (g : Nat → Int) (c k : Int), M2 = scr M g c k
theorem scr_self (M : Mem) : scr M (M 11 0) (M 0 0 3) (M 0 0 4) = M := by
  unfold scr
  rw [upR_self, up_eq rfl, up_eq rfl]
theorem Scr_rf (M : Mem) : Scr M M := ⟨_, _, _, (scr_self M).symm⟩
theorem scr_row (M : Mem) (g D : Nat → Int) (c k : Int) : upR (scr M g c k) 11 0 D = scr M D c k := by
  funext a b e
  simp only [scr, up, upR]
  grind
theorem Scr_row (M : Mem) (D : Nat → Int) : Scr (upR M 11 0 D) M := ⟨D, M 0 0 3, M 0 0 4, by
  have h := scr_row M (M 11 0) D (M 0 0 3) (M 0 0 4)
  rw [scr_self] at h
  exact h⟩
theorem scr_put (M : Mem) (g : Nat → Int) (c k c2 k2 : Int) : up (up (scr M g c k) 0 0 4 k2) 0 0 3 c2 = scr M g c2 k2 := by
  funext a b e
  simp only [scr, up, upR]
  grind
theorem scr_5 (M : Mem) (g : Nat → Int) (c k : Int) (b e : Nat) : scr M g c k 5 b e = M 5 b e := scr_ne (by decide) (Or.inl (by decide))
theorem scr_02 (M : Mem) (g : Nat → Int) (c k : Int) : scr M g c k 0 0 2 = M 0 0 2 := scr_ne (by decide) (Or.inr rfl)
theorem fireD_scr (M : Mem) (g : Nat → Int) (c k : Int) (fr op : Nat) : fireD (scr M g c k) fr op = fireD M fr op := by
  unfold fireD
  congr 1
theorem losV_scr (M : Mem) (g : Nat → Int) (c k : Int) (D : Nat → Int) (mi : Int) (n : Nat) : losV (scr M g c k) D mi n = losV M D mi n := by simp only [losV, scr_5]
theorem worV_scr (M : Mem) (g : Nat → Int) (c k : Int) (set n : Nat) : worV (scr M g c k) set n = worV M set n := by simp only [worV, scr_5]
/-- the best set and its cost, with one more weighed -/
noncomputable def wgh (M : Mem) (fr : Nat) (mi : Int) (acc : Int × Int) (set : Nat) : Int × Int := if set.testBit fr = true then acc else if costV M fr mi set < acc.2 then ((set : Int), costV M fr mi set) else acc
noncomputable def wF1 (M : Mem) (fr : Nat) (mi : Int) (acc : Int × Int) : Nat → Int × Int
  | 0 => acc
  | i + 1 => wgh M fr mi (wF1 M fr mi acc i) (2 ^ i)
noncomputable def wF2 (M : Mem) (fr : Nat) (mi : Int) (h : Nat) (acc : Int × Int) : Nat → Int × Int
  | 0 => acc
  | i + 1 => wgh M fr mi (wF2 M fr mi h acc i) (2 ^ h ||| 2 ^ i)
noncomputable def wF3 (M : Mem) (fr : Nat) (mi : Int) (acc : Int × Int) : Nat → Int × Int
  | 0 => acc
  | h + 1 => wF2 M fr mi h (wF3 M fr mi acc h) h
noncomputable def stpV (M : Mem) (fr : Nat) (mi kk : Int) (acc : Int × Int) : Int × Int :=
  let n := (M 0 0 2).toNat
  let a := wgh M fr mi acc 0
  let b := if 1 ≤ kk then wF1 M fr mi a n else a
  if 2 ≤ kk then wF3 M fr mi b n else b
noncomputable def f_burns (M : Mem) (a b c : Int) : Int × Mem :=
  if a < 0 ∨ M 0 0 2 ≤ a ∨ b < 0 ∨ M 0 0 2 ≤ b ∨ c < 0 ∨ ((2 ^ (M 0 0 2).toNat : Nat) : Int) ≤ c then (-3, rfs M 3)
  else if c.toNat.testBit a.toNat = true then (-7, rfs M 7) else (fireD M a.toNat c.toNat b.toNat, M)
noncomputable def f_lost (M : Mem) (a b c : Int) : Int × Mem :=
  if a < 0 ∨ M 0 0 2 ≤ a ∨ c < 0 ∨ ((2 ^ (M 0 0 2).toNat : Nat) : Int) ≤ c then (-3, rfs M 3)
  else if c.toNat.testBit a.toNat = true then (-7, rfs M 7) else if b < 0 ∨ 999 < b then (-7, rfs M 7)
  else (losV M (fireD M a.toNat c.toNat) b (M 0 0 2).toNat, M)
noncomputable def f_stop (M : Mem) (a b c : Int) : Int × Mem :=
  if a < 0 ∨ M 0 0 2 ≤ a then (-3, rfs M 3) else if b < 0 ∨ 999 < b ∨ c < 0 ∨ 2 < c then (-7, rfs M 7)
  else ((stpV M a.toNat b c (0, 1000000)).1, M)
/-- a number, and a world but for the fire's scratch -/
def RS (p : Int × Mem) : Option Value → Mem → Prop := fun r M2 => r = some (vi p.1) ∧ Scr M2 p.2
theorem RS_i {p : Int × Mem} {z : Int} {M M2 : Mem} (h : p = (z, M)) (h2 : Scr M2 M) : RS p (some (vi z)) M2 := by rw [h]; exact ⟨rfl, h2⟩

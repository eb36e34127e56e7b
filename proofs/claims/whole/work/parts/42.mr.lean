/-! ===== the class's world and the reference's ===== -/
def MR0 (a N : Mem) : Prop := N 9 0 1 = a 8 0 9 ∧ N 9 0 2 = a 0 0 2 ∧ N 9 0 19 = a 4 0 2 ∧ N 9 0 22 = a 6 0 1 ∧ N 9 0 31 = a 1 0 6 ∧ N 9 0 35 = a 8 0 8
def MRr (a N : Mem) : Prop := ∀ k : Nat, k < 9 → N 40 0 k = a 34 0 k
def MRs (a N : Mem) : Prop := ∀ s : Nat, (s : Int) < a 0 0 2 → N 41 0 s = a 5 s 0 ∧ N 42 0 s = a 5 s 1 ∧ N 43 0 s = a 5 s 2 ∧ N 44 0 s = a 5 s 3
def MRp (a N : Mem) : Prop := ∀ s : Nat, s < 14 → ∀ p : Nat, p < 10 → N 45 0 (20 * s + p) = a 25 s p ∧ N 45 0 (20 * s + 10 + p) = a 26 s p
def MRl (a N : Mem) : Prop := ∀ s : Nat, s < 14 → N 46 0 s = a 5 s 6 ∧ (a 5 s 6 ≠ -1 → N 47 0 s = a 5 s 7 ∧ N 48 0 s = a 5 s 8)
def MRq (a N : Mem) : Prop := ∀ s : Nat, s < 14 → N 49 0 s = a 5 s 11 ∧ ∀ j : Nat, (j : Int) < a 5 s 11 → N 50 0 (8 * s + j) = a 27 s j ∧ N 51 0 (8 * s + j) = a 28 s j
def MRh (a N : Mem) : Prop := ∀ p : Nat, p < 10 → N 52 0 p = a 7 p 2 ∧ ∀ j : Nat, (j : Int) < a 7 p 2 → N 53 0 (4 * p + j) = a 30 p j ∧ N 54 0 (4 * p + j) = a 31 p j
def MRm (a N : Mem) : Prop := ∀ p : Nat, p < 10 → N 55 0 p = a 18 0 p
def MRt (a N : Mem) : Prop := ∀ k : Nat, k < 6 → N 56 0 k = a 12 0 k
def MRu (a N : Mem) : Prop := ∀ r : Nat, (r : Int) < a 4 0 2 → N 57 0 (17 * r) = a 3 r 2 ∧ N 57 0 (17 * r + 1) = a 3 r 3 ∧ N 57 0 (17 * r + 2) = 1 - a 3 r 0 ∧ N 57 0 (17 * r + 3) = a 3 r 1 ∧ N 57 0 (17 * r + 4) = a 3 r 8 ∧ ∀ j : Nat, (j : Int) < a 3 r 8 → N 57 0 (17 * r + 5 + 4 * j) = a 22 r j ∧ N 57 0 (17 * r + 5 + 4 * j + 1) = a 19 r j ∧ N 57 0 (17 * r + 5 + 4 * j + 2) = a 20 r j ∧ N 57 0 (17 * r + 5 + 4 * j + 3) = a 21 r j
def MRf (a N : Mem) : Prop := ∀ k : Nat, (k : Int) < a 6 0 1 → N 58 0 k = a 29 0 k
def MRb (a N : Mem) : Prop := ∀ k : Nat, (k : Int) < a 1 0 6 → N 61 0 k = a 16 0 k ∧ N 62 0 k = a 17 0 k
def MRw (a N : Mem) : Prop := ∀ k : Nat, k < 10 → N 64 0 k = a 33 0 k
def MR (a N : Mem) : Prop := MR0 a N ∧ MRr a N ∧ MRs a N ∧ MRp a N ∧ MRl a N ∧ MRq a N ∧ MRh a N ∧ MRm a N ∧ MRt a N ∧ MRu a N ∧ MRf a N ∧ MRb a N ∧ MRw a N
section MRA
variable {a N : Mem}
theorem MR.r0 (h : MR a N) : MR0 a N := h.1
theorem MR.rr (h : MR a N) : MRr a N := h.2.1
theorem MR.rs (h : MR a N) : MRs a N := h.2.2.1
theorem MR.rp (h : MR a N) : MRp a N := h.2.2.2.1
theorem MR.rl (h : MR a N) : MRl a N := h.2.2.2.2.1
theorem MR.rq (h : MR a N) : MRq a N := h.2.2.2.2.2.1
theorem MR.rh (h : MR a N) : MRh a N := h.2.2.2.2.2.2.1
theorem MR.rm (h : MR a N) : MRm a N := h.2.2.2.2.2.2.2.1
theorem MR.rt (h : MR a N) : MRt a N := h.2.2.2.2.2.2.2.2.1
theorem MR.ru (h : MR a N) : MRu a N := h.2.2.2.2.2.2.2.2.2.1
theorem MR.rf (h : MR a N) : MRf a N := h.2.2.2.2.2.2.2.2.2.2.1
theorem MR.rb (h : MR a N) : MRb a N := h.2.2.2.2.2.2.2.2.2.2.2.1
theorem MR.rw (h : MR a N) : MRw a N := h.2.2.2.2.2.2.2.2.2.2.2.2
end MRA
/-- the class's families are the same -/
def Sm (N2 N : Mem) : Prop := ∀ x y k : Nat, x < 40 → x ≠ 9 → N2 x y k = N x y k
theorem Sm.rfl' {N : Mem} : Sm N N := fun _ _ _ _ _ => rfl
theorem Sm.tr {A B C : Mem} (h : Sm A B) (g : Sm B C) : Sm A C := fun x y k h1 h2 => (h x y k h1 h2).trans (g x y k h1 h2)
theorem Sm_up {N : Mem} {x y k : Nat} {z : Int} (h : 40 ≤ x ∨ x = 9) : Sm (up N x y k z) N := fun a b c h1 h2 => up_ne (by omega)
theorem Sm_upR {N : Mem} {x y : Nat} {g : Nat → Int} (h : 40 ≤ x ∨ x = 9) : Sm (upR N x y g) N := fun a b c h1 h2 => by grind [upR]
def QR (p : Int × Mem) (N : Mem) : Option Value → Mem → Prop := RI (fun z N2 => z = p.1 ∧ MR p.2 N2 ∧ Sm N2 N)
theorem QR_e {p q : Int × Mem} {N N2 : Mem} {z : Int} (h : p = q) (hz : z = q.1) (hM : MR q.2 N2) (hS : Sm N2 N) : QR p N (some (vi z)) N2 := by subst h; exact ⟨z, rfl, hz, hM, hS⟩
theorem QR_i {p : Int × Mem} {N N2 a2 : Mem} {z : Int} (h : p = (z, a2)) (hM : MR a2 N2) (hS : Sm N2 N) : QR p N (some (vi z)) N2 := by subst h; exact ⟨z, rfl, rfl, hM, hS⟩
theorem MR_rfs {a N : Mem} {w : Nat} (h : MR a N) (hw : w < 9) : MR (rfs a w) (up N 40 0 w (N 40 0 w + 1)) := by
  refine ⟨h.r0, ?_, h.rs, h.rp, h.rl, h.rq, h.rh, h.rm, h.rt, h.ru, h.rf, h.rb, h.rw⟩
  intro k hk
  have := h.rr k hk
  have h9 := h.rr w hw
  simp only [rfs, up]
  grind

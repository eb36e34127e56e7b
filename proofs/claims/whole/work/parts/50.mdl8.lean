/-! ===== the reference: copy ===== -/
def cp1 (M : Mem) (x t : Nat) : Mem := upR M 65 0 (fun q => if q < t then M 64 0 (x + q) else M 65 0 q)
def cp2 (M : Mem) (x y n t : Nat) : Mem := upR (cp1 M x n) 64 0 (fun q => if y ≤ q ∧ q < y + t then M 64 0 (x + (q - y)) else M 64 0 q)
theorem cp1_step (M : Mem) (x t : Nat) : up (cp1 M x t) 65 0 t (M 64 0 (x + t)) = cp1 M x (t + 1) := by
  funext a b c
  simp only [cp1, up, upR]
  grind
theorem cp1_0 (M : Mem) (x : Nat) : cp1 M x 0 = M := by
  funext a b c
  simp only [cp1, upR]
  grind
theorem cp2_step (M : Mem) (x y n t : Nat) : up (cp2 M x y n t) 64 0 (y + t) (M 64 0 (x + t)) = cp2 M x y n (t + 1) := by
  funext a b c
  simp only [cp2, up, upR]
  by_cases h : a = 64 ∧ b = 0
  · obtain ⟨rfl, rfl⟩ := h
    by_cases h2 : c = y + t
    · subst h2
      simp
    · simp only [h2]
      grind
  · grind
theorem cp2_0 (M : Mem) (x y n : Nat) : cp2 M x y n 0 = cp1 M x n := by
  funext a b c
  simp only [cp2, cp1, upR]
  grind
theorem Sm_cp {N : Mem} {x y n t : Nat} : Sm (cp2 N x y n t) N := (Sm_upR (Or.inl (by decide))).tr (Sm_upR (Or.inl (by decide)))

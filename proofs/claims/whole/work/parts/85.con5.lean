/-! ===== the world when both are made ===== -/
theorem arrV_cong {c : ClassId} {N : Nat} {f g : Nat → Value} (h : ∀ j, j < N → f j = g j) : arrV c N f = arrV c N g := by
  simp only [arrV]
  congr 2
  funext j
  exact h j.val j.isLt
theorem at_q {D : va_G} {a N : Nat} {c : ClassId} {g : Nat → Nat} {H : Heap} (h : va_at D vwCl (a, aq c N N g) H) : va_at D vwCl (a, .inl (c, N, .inr (.inr (.inr (.inr (fun p => some (g p))))))) H := by
  have h1 : H[a]? = some (vp_cell c (N, .inr (.inr (.inr (.inr (fun p => if p < N then some (g p) else none)))))) := h
  show H[a]? = some (vp_cell c (N, .inr (.inr (.inr (.inr (fun p => some (g p)))))))
  rw [h1, vp_cell_q, vp_cell_q, arrV_cong (fun j hj => by rw [if_pos hj])]
theorem fz_M (n : Nat) (z : Int) : (fun p => Int32.ofInt (if p < n then z else 0)) = fz n z := by
  funext p
  by_cases h : p < n <;> simp [fz, h]
def M0 : Mem := fun f _ k => match f with
  | 5 => (match k with
    | 6 => -1
    | 7 => -1
    | 8 => -1
    | _ => 0)
  | 12 => if k < 6 then 1 else 0
  | 46 => if k < 14 then -1 else 0
  | 56 => if k < 6 then 1 else 0
  | _ => 0
def adr (z f i : Nat) : Nat := match f with
  | 0 => z + 1
  | 1 => z + 1 + 131
  | 2 => z + 1 + 74
  | 3 => z + 1 + 79 + 2 + 5 * i
  | 4 => z + 1 + 78
  | 5 => z + 1 + 1 + 2 + 5 * i
  | 6 => z + 1 + 76
  | 7 => z + 1 + 140 + 3 * i
  | 8 => z
  | 9 => z + 171
  | 10 => z + 1 + 1
  | 11 => z + 1 + 1 + 1
  | 12 => z + 1 + 132
  | 13 => z + 1 + 132 + 1
  | 14 => z + 1 + 132 + 2
  | 15 => z + 1 + 132 + 3
  | 16 => z + 1 + 132 + 4
  | 17 => z + 1 + 132 + 5
  | 18 => z + 1 + 75
  | 19 => z + 1 + 79 + 2 + 5 * i + 1
  | 20 => z + 1 + 79 + 2 + 5 * i + 1 + 1
  | 21 => z + 1 + 79 + 2 + 5 * i + 1 + 2
  | 22 => z + 1 + 79 + 2 + 5 * i + 1 + 3
  | 23 => z + 1 + 79
  | 24 => z + 1 + 79 + 1
  | 25 => z + 1 + 1 + 2 + 5 * i + 1
  | 26 => z + 1 + 1 + 2 + 5 * i + 1 + 1
  | 27 => z + 1 + 1 + 2 + 5 * i + 1 + 2
  | 28 => z + 1 + 1 + 2 + 5 * i + 1 + 3
  | 29 => z + 1 + 77
  | 30 => z + 1 + 140 + 3 * i + 1
  | 31 => z + 1 + 140 + 3 * i + 1 + 1
  | 32 => z + 1 + 73
  | 33 => z + 1 + 138
  | 34 => z + 1 + 139
  | 40 => z + 172
  | 41 => z + 172 + 1
  | 42 => z + 172 + 2
  | 43 => z + 172 + 3
  | 44 => z + 172 + 4
  | 45 => z + 172 + 5
  | 46 => z + 172 + 6
  | 47 => z + 172 + 7
  | 48 => z + 172 + 8
  | 49 => z + 172 + 9
  | 50 => z + 172 + 10
  | 51 => z + 172 + 11
  | 52 => z + 172 + 12
  | 53 => z + 172 + 13
  | 54 => z + 172 + 14
  | 55 => z + 172 + 15
  | 56 => z + 172 + 16
  | 57 => z + 172 + 17
  | 58 => z + 172 + 18
  | 59 => z + 172 + 19
  | 60 => z + 172 + 20
  | 61 => z + 172 + 21
  | 62 => z + 172 + 22
  | 63 => z + 172 + 23
  | 64 => z + 172 + 24
  | 65 => z + 172 + 25
  | _ => 0
def off (f i : Nat) : Nat := match f with
  | 0 => 1
  | 1 => 132
  | 2 => 75
  | 3 => 82 + 5 * i
  | 4 => 79
  | 5 => 4 + 5 * i
  | 6 => 77
  | 7 => 141 + 3 * i
  | 8 => 0
  | 9 => 171
  | 10 => 2
  | 11 => 3
  | 12 => 133
  | 13 => 134
  | 14 => 135
  | 15 => 136
  | 16 => 137
  | 17 => 138
  | 18 => 76
  | 19 => 83 + 5 * i
  | 20 => 84 + 5 * i
  | 21 => 85 + 5 * i
  | 22 => 86 + 5 * i
  | 23 => 80
  | 24 => 81
  | 25 => 5 + 5 * i
  | 26 => 6 + 5 * i
  | 27 => 7 + 5 * i
  | 28 => 8 + 5 * i
  | 29 => 78
  | 30 => 142 + 3 * i
  | 31 => 143 + 3 * i
  | 32 => 74
  | 33 => 139
  | 34 => 140
  | 40 => 172
  | 41 => 173
  | 42 => 174
  | 43 => 175
  | 44 => 176
  | 45 => 177
  | 46 => 178
  | 47 => 179
  | 48 => 180
  | 49 => 181
  | 50 => 182
  | 51 => 183
  | 52 => 184
  | 53 => 185
  | 54 => 186
  | 55 => 187
  | 56 => 188
  | 57 => 189
  | 58 => 190
  | 59 => 191
  | 60 => 192
  | 61 => 193
  | 62 => 194
  | 63 => 195
  | 64 => 196
  | 65 => 197
  | _ => 0
theorem adr_off (z : Nat) : ∀ f i : Nat, i < cnt f → adr z f i = z + off f i
  | 0, i, hi => by show z + 1 = z + (1); omega
  | 1, i, hi => by show z + 1 + 131 = z + (132); omega
  | 2, i, hi => by show z + 1 + 74 = z + (75); omega
  | 3, i, hi => by show z + 1 + 79 + 2 + 5 * i = z + (82 + 5 * i); omega
  | 4, i, hi => by show z + 1 + 78 = z + (79); omega
  | 5, i, hi => by show z + 1 + 1 + 2 + 5 * i = z + (4 + 5 * i); omega
  | 6, i, hi => by show z + 1 + 76 = z + (77); omega
  | 7, i, hi => by show z + 1 + 140 + 3 * i = z + (141 + 3 * i); omega
  | 8, i, hi => by show z = z + (0); omega
  | 9, i, hi => by show z + 171 = z + (171); omega
  | 10, i, hi => by show z + 1 + 1 = z + (2); omega
  | 11, i, hi => by show z + 1 + 1 + 1 = z + (3); omega
  | 12, i, hi => by show z + 1 + 132 = z + (133); omega
  | 13, i, hi => by show z + 1 + 132 + 1 = z + (134); omega
  | 14, i, hi => by show z + 1 + 132 + 2 = z + (135); omega
  | 15, i, hi => by show z + 1 + 132 + 3 = z + (136); omega
  | 16, i, hi => by show z + 1 + 132 + 4 = z + (137); omega
  | 17, i, hi => by show z + 1 + 132 + 5 = z + (138); omega
  | 18, i, hi => by show z + 1 + 75 = z + (76); omega
  | 19, i, hi => by show z + 1 + 79 + 2 + 5 * i + 1 = z + (83 + 5 * i); omega
  | 20, i, hi => by show z + 1 + 79 + 2 + 5 * i + 1 + 1 = z + (84 + 5 * i); omega
  | 21, i, hi => by show z + 1 + 79 + 2 + 5 * i + 1 + 2 = z + (85 + 5 * i); omega
  | 22, i, hi => by show z + 1 + 79 + 2 + 5 * i + 1 + 3 = z + (86 + 5 * i); omega
  | 23, i, hi => by show z + 1 + 79 = z + (80); omega
  | 24, i, hi => by show z + 1 + 79 + 1 = z + (81); omega
  | 25, i, hi => by show z + 1 + 1 + 2 + 5 * i + 1 = z + (5 + 5 * i); omega
  | 26, i, hi => by show z + 1 + 1 + 2 + 5 * i + 1 + 1 = z + (6 + 5 * i); omega
  | 27, i, hi => by show z + 1 + 1 + 2 + 5 * i + 1 + 2 = z + (7 + 5 * i); omega
  | 28, i, hi => by show z + 1 + 1 + 2 + 5 * i + 1 + 3 = z + (8 + 5 * i); omega
  | 29, i, hi => by show z + 1 + 77 = z + (78); omega
  | 30, i, hi => by show z + 1 + 140 + 3 * i + 1 = z + (142 + 3 * i); omega
  | 31, i, hi => by show z + 1 + 140 + 3 * i + 1 + 1 = z + (143 + 3 * i); omega
  | 32, i, hi => by show z + 1 + 73 = z + (74); omega
  | 33, i, hi => by show z + 1 + 138 = z + (139); omega
  | 34, i, hi => by show z + 1 + 139 = z + (140); omega
  | 35, i, hi => absurd hi (Nat.not_lt_zero i)
  | 36, i, hi => absurd hi (Nat.not_lt_zero i)
  | 37, i, hi => absurd hi (Nat.not_lt_zero i)
  | 38, i, hi => absurd hi (Nat.not_lt_zero i)
  | 39, i, hi => absurd hi (Nat.not_lt_zero i)
  | 40, i, hi => by show z + 172 = z + (172); omega
  | 41, i, hi => by show z + 172 + 1 = z + (173); omega
  | 42, i, hi => by show z + 172 + 2 = z + (174); omega
  | 43, i, hi => by show z + 172 + 3 = z + (175); omega
  | 44, i, hi => by show z + 172 + 4 = z + (176); omega
  | 45, i, hi => by show z + 172 + 5 = z + (177); omega
  | 46, i, hi => by show z + 172 + 6 = z + (178); omega
  | 47, i, hi => by show z + 172 + 7 = z + (179); omega
  | 48, i, hi => by show z + 172 + 8 = z + (180); omega
  | 49, i, hi => by show z + 172 + 9 = z + (181); omega
  | 50, i, hi => by show z + 172 + 10 = z + (182); omega
  | 51, i, hi => by show z + 172 + 11 = z + (183); omega
  | 52, i, hi => by show z + 172 + 12 = z + (184); omega
  | 53, i, hi => by show z + 172 + 13 = z + (185); omega
  | 54, i, hi => by show z + 172 + 14 = z + (186); omega
  | 55, i, hi => by show z + 172 + 15 = z + (187); omega
  | 56, i, hi => by show z + 172 + 16 = z + (188); omega
  | 57, i, hi => by show z + 172 + 17 = z + (189); omega
  | 58, i, hi => by show z + 172 + 18 = z + (190); omega
  | 59, i, hi => by show z + 172 + 19 = z + (191); omega
  | 60, i, hi => by show z + 172 + 20 = z + (192); omega
  | 61, i, hi => by show z + 172 + 21 = z + (193); omega
  | 62, i, hi => by show z + 172 + 22 = z + (194); omega
  | 63, i, hi => by show z + 172 + 23 = z + (195); omega
  | 64, i, hi => by show z + 172 + 24 = z + (196); omega
  | 65, i, hi => by show z + 172 + 25 = z + (197); omega
  | f + 66, i, hi => by have := cnt_lt hi; omega
theorem off_nd : (fi.map (fun x => off x.1 x.2)).Nodup := by decide +kernel
def Gz (D : va_G) (cy : Nat → ClassId) (z : Nat) (a v : Nat → Nat) : Gx := (D, cy, adr z, a, v)
theorem Gz_ok (D : va_G) (cy : Nat → ClassId) (z : Nat) (a v : Nat → Nat) : GOk (Gz D cy z a v) := by
  intro f i f2 i2 h1 h2 h
  have e : adr z f i = adr z f2 i2 := h
  rw [adr_off z f i h1, adr_off z f2 i2 h2] at e
  have e2 : off f i = off f2 i2 := by omega
  obtain ⟨k1, q1⟩ := fi_mem h1
  obtain ⟨k2, q2⟩ := fi_mem h2
  have l1 : (fi.map (fun x => off x.1 x.2))[k1]? = some (off f i) := by rw [List.getElem?_map, q1]; rfl
  have l2 : (fi.map (fun x => off x.1 x.2))[k2]? = some (off f2 i2) := by rw [List.getElem?_map, q2]; rfl
  have hk : k1 = k2 := (List.getElem?_inj (List.getElem?_eq_some_iff.mp l1).1 off_nd).mp (by rw [l1, l2, e2])
  subst hk
  have := q1.symm.trans q2
  simp at this
  exact this
theorem Gz_Ar {D : va_G} {cy : Nat → ClassId} {z : Nat} {a v : Nat → Nat} {q : Nat} (h : Ar (Gz D cy z a v) q) : z ≤ q := by
  obtain ⟨f, i, hi, rfl⟩ := h
  show z ≤ adr z f i
  rw [adr_off z f i hi]
  omega
theorem pX2_a0 {cy : Nat → ClassId} {h sz : Nat} (hh : h < sz) : pX2 cy h sz (sz) = some (al cy 10) := by
  unfold pX2
  rw [cup_ne (by omega), cup_same]
theorem pX2_o {cy : Nat → ClassId} {h sz : Nat} (hh : h < sz) : pX2 cy h sz h = some (.inr (2, [.ref sz])) := by
  unfold pX2
  rw [cup_same]
theorem pX3_a0 {cy : Nat → ClassId} {h sz : Nat} (hh : h < sz) : pX3 cy h sz (sz) = some (ai cy 3) := by
  unfold pX3
  rw [cup_ne (by omega), cup_ne (by omega), cup_ne (by omega), cup_ne (by omega), cup_same]
theorem pX3_a1 {cy : Nat → ClassId} {h sz : Nat} (hh : h < sz) : pX3 cy h sz (sz + 1) = some (ai cy 3) := by
  unfold pX3
  rw [cup_ne (by omega), cup_ne (by omega), cup_ne (by omega), cup_same]
theorem pX3_a2 {cy : Nat → ClassId} {h sz : Nat} (hh : h < sz) : pX3 cy h sz (sz + 2) = some (ai cy 3) := by
  unfold pX3
  rw [cup_ne (by omega), cup_ne (by omega), cup_same]
theorem pX3_a3 {cy : Nat → ClassId} {h sz : Nat} (hh : h < sz) : pX3 cy h sz (sz + 3) = some (az cy 3) := by
  unfold pX3
  rw [cup_ne (by omega), cup_same]
theorem pX3_o {cy : Nat → ClassId} {h sz : Nat} (hh : h < sz) : pX3 cy h sz h = some (.inr (3, [vi 0, vi 0, vi 0, vi 0, .ref sz, .ref (sz + 1), .ref (sz + 2), .ref (sz + 3), vi 0])) := by
  unfold pX3
  rw [cup_same]
theorem pX5_a0 {cy : Nat → ClassId} {h sz : Nat} (hh : h < sz) : pX5 cy h sz (sz) = some (ai cy 10) := by
  unfold pX5
  rw [cup_ne (by omega), cup_ne (by omega), cup_ne (by omega), cup_ne (by omega), cup_same]
theorem pX5_a1 {cy : Nat → ClassId} {h sz : Nat} (hh : h < sz) : pX5 cy h sz (sz + 1) = some (ai cy 10) := by
  unfold pX5
  rw [cup_ne (by omega), cup_ne (by omega), cup_ne (by omega), cup_same]
theorem pX5_a2 {cy : Nat → ClassId} {h sz : Nat} (hh : h < sz) : pX5 cy h sz (sz + 2) = some (ai cy 8) := by
  unfold pX5
  rw [cup_ne (by omega), cup_ne (by omega), cup_same]
theorem pX5_a3 {cy : Nat → ClassId} {h sz : Nat} (hh : h < sz) : pX5 cy h sz (sz + 3) = some (ai cy 8) := by
  unfold pX5
  rw [cup_ne (by omega), cup_same]
theorem pX5_o {cy : Nat → ClassId} {h sz : Nat} (hh : h < sz) : pX5 cy h sz h = some (.inr (5, [vi 0, vi 0, vi 0, vi 0, .ref sz, .ref (sz + 1), vi (-1), vi (-1), vi (-1), .ref (sz + 2), .ref (sz + 3), vi 0, vi 0])) := by
  unfold pX5
  rw [cup_same]
theorem pX6_a0 {cy : Nat → ClassId} {h sz : Nat} (hh : h < sz) : pX6 cy h sz (sz) = some (ai cy 80) := by
  unfold pX6
  rw [cup_ne (by omega), cup_same]
theorem pX6_o {cy : Nat → ClassId} {h sz : Nat} (hh : h < sz) : pX6 cy h sz h = some (.inr (6, [.ref sz, vi 0, vi 0, vi 0])) := by
  unfold pX6
  rw [cup_same]
theorem pX7_a0 {cy : Nat → ClassId} {h sz : Nat} (hh : h < sz) : pX7 cy h sz (sz) = some (ai cy 4) := by
  unfold pX7
  rw [cup_ne (by omega), cup_ne (by omega), cup_same]
theorem pX7_a1 {cy : Nat → ClassId} {h sz : Nat} (hh : h < sz) : pX7 cy h sz (sz + 1) = some (ai cy 4) := by
  unfold pX7
  rw [cup_ne (by omega), cup_same]
theorem pX7_o {cy : Nat → ClassId} {h sz : Nat} (hh : h < sz) : pX7 cy h sz h = some (.inr (7, [.ref sz, .ref (sz + 1), vi 0])) := by
  unfold pX7
  rw [cup_same]
theorem pX1_a0 {cy : Nat → ClassId} {h sz : Nat} (hh : h < sz) : pX1 cy h sz (sz) = some (af cy 6 6 1) := by
  unfold pX1
  rw [cup_same]
theorem pX1_a1 {cy : Nat → ClassId} {h sz : Nat} (hh : h < sz) : pX1 cy h sz (sz + 1) = some (ai cy 6) := by
  unfold pX1
  rw [cup_ne (by omega), cup_ne (by omega), cup_ne (by omega), cup_ne (by omega), cup_ne (by omega), cup_ne (by omega), cup_same]
theorem pX1_a2 {cy : Nat → ClassId} {h sz : Nat} (hh : h < sz) : pX1 cy h sz (sz + 2) = some (ai cy 6) := by
  unfold pX1
  rw [cup_ne (by omega), cup_ne (by omega), cup_ne (by omega), cup_ne (by omega), cup_ne (by omega), cup_same]
theorem pX1_a3 {cy : Nat → ClassId} {h sz : Nat} (hh : h < sz) : pX1 cy h sz (sz + 3) = some (ai cy 6) := by
  unfold pX1
  rw [cup_ne (by omega), cup_ne (by omega), cup_ne (by omega), cup_ne (by omega), cup_same]
theorem pX1_a4 {cy : Nat → ClassId} {h sz : Nat} (hh : h < sz) : pX1 cy h sz (sz + 4) = some (ai cy 6) := by
  unfold pX1
  rw [cup_ne (by omega), cup_ne (by omega), cup_ne (by omega), cup_same]
theorem pX1_a5 {cy : Nat → ClassId} {h sz : Nat} (hh : h < sz) : pX1 cy h sz (sz + 5) = some (ai cy 6) := by
  unfold pX1
  rw [cup_ne (by omega), cup_ne (by omega), cup_same]
theorem pX1_o {cy : Nat → ClassId} {h sz : Nat} (hh : h < sz) : pX1 cy h sz h = some (.inr (1, [.ref sz, .ref (sz + 1), .ref (sz + 2), .ref (sz + 3), .ref (sz + 4), .ref (sz + 5), vi 0, vi 0])) := by
  unfold pX1
  rw [cup_ne (by omega), cup_same]
theorem pX9_a0 {cy : Nat → ClassId} {h sz : Nat} (hh : h < sz) : pX9 cy h sz (sz) = some (ai cy 9) := by
  unfold pX9
  rw [cup_ne (by omega), cup_ne (by omega), cup_ne (by omega), cup_ne (by omega), cup_ne (by omega), cup_ne (by omega), cup_ne (by omega), cup_ne (by omega), cup_ne (by omega), cup_ne (by omega), cup_ne (by omega), cup_ne (by omega), cup_ne (by omega), cup_ne (by omega), cup_ne (by omega), cup_ne (by omega), cup_ne (by omega), cup_ne (by omega), cup_ne (by omega), cup_ne (by omega), cup_ne (by omega), cup_ne (by omega), cup_ne (by omega), cup_ne (by omega), cup_ne (by omega), cup_ne (by omega), cup_same]
theorem pX9_a1 {cy : Nat → ClassId} {h sz : Nat} (hh : h < sz) : pX9 cy h sz (sz + 1) = some (ai cy 14) := by
  unfold pX9
  rw [cup_ne (by omega), cup_ne (by omega), cup_ne (by omega), cup_ne (by omega), cup_ne (by omega), cup_ne (by omega), cup_ne (by omega), cup_ne (by omega), cup_ne (by omega), cup_ne (by omega), cup_ne (by omega), cup_ne (by omega), cup_ne (by omega), cup_ne (by omega), cup_ne (by omega), cup_ne (by omega), cup_ne (by omega), cup_ne (by omega), cup_ne (by omega), cup_ne (by omega), cup_ne (by omega), cup_ne (by omega), cup_ne (by omega), cup_ne (by omega), cup_ne (by omega), cup_same]
theorem pX9_a2 {cy : Nat → ClassId} {h sz : Nat} (hh : h < sz) : pX9 cy h sz (sz + 2) = some (ai cy 14) := by
  unfold pX9
  rw [cup_ne (by omega), cup_ne (by omega), cup_ne (by omega), cup_ne (by omega), cup_ne (by omega), cup_ne (by omega), cup_ne (by omega), cup_ne (by omega), cup_ne (by omega), cup_ne (by omega), cup_ne (by omega), cup_ne (by omega), cup_ne (by omega), cup_ne (by omega), cup_ne (by omega), cup_ne (by omega), cup_ne (by omega), cup_ne (by omega), cup_ne (by omega), cup_ne (by omega), cup_ne (by omega), cup_ne (by omega), cup_ne (by omega), cup_ne (by omega), cup_same]
theorem pX9_a3 {cy : Nat → ClassId} {h sz : Nat} (hh : h < sz) : pX9 cy h sz (sz + 3) = some (ai cy 14) := by
  unfold pX9
  rw [cup_ne (by omega), cup_ne (by omega), cup_ne (by omega), cup_ne (by omega), cup_ne (by omega), cup_ne (by omega), cup_ne (by omega), cup_ne (by omega), cup_ne (by omega), cup_ne (by omega), cup_ne (by omega), cup_ne (by omega), cup_ne (by omega), cup_ne (by omega), cup_ne (by omega), cup_ne (by omega), cup_ne (by omega), cup_ne (by omega), cup_ne (by omega), cup_ne (by omega), cup_ne (by omega), cup_ne (by omega), cup_ne (by omega), cup_same]
theorem pX9_a4 {cy : Nat → ClassId} {h sz : Nat} (hh : h < sz) : pX9 cy h sz (sz + 4) = some (ai cy 14) := by
  unfold pX9
  rw [cup_ne (by omega), cup_ne (by omega), cup_ne (by omega), cup_ne (by omega), cup_ne (by omega), cup_ne (by omega), cup_ne (by omega), cup_ne (by omega), cup_ne (by omega), cup_ne (by omega), cup_ne (by omega), cup_ne (by omega), cup_ne (by omega), cup_ne (by omega), cup_ne (by omega), cup_ne (by omega), cup_ne (by omega), cup_ne (by omega), cup_ne (by omega), cup_ne (by omega), cup_ne (by omega), cup_ne (by omega), cup_same]
theorem pX9_a5 {cy : Nat → ClassId} {h sz : Nat} (hh : h < sz) : pX9 cy h sz (sz + 5) = some (ai cy 280) := by
  unfold pX9
  rw [cup_ne (by omega), cup_ne (by omega), cup_ne (by omega), cup_ne (by omega), cup_ne (by omega), cup_ne (by omega), cup_ne (by omega), cup_ne (by omega), cup_ne (by omega), cup_ne (by omega), cup_ne (by omega), cup_ne (by omega), cup_ne (by omega), cup_ne (by omega), cup_ne (by omega), cup_ne (by omega), cup_ne (by omega), cup_ne (by omega), cup_ne (by omega), cup_ne (by omega), cup_ne (by omega), cup_same]
theorem pX9_a6 {cy : Nat → ClassId} {h sz : Nat} (hh : h < sz) : pX9 cy h sz (sz + 6) = some (af cy 14 14 (-1)) := by
  unfold pX9
  rw [cup_ne (by omega), cup_ne (by omega), cup_ne (by omega), cup_ne (by omega), cup_ne (by omega), cup_ne (by omega), cup_ne (by omega), cup_ne (by omega), cup_ne (by omega), cup_ne (by omega), cup_ne (by omega), cup_ne (by omega), cup_ne (by omega), cup_ne (by omega), cup_ne (by omega), cup_ne (by omega), cup_ne (by omega), cup_ne (by omega), cup_ne (by omega), cup_ne (by omega), cup_same]
theorem pX9_a7 {cy : Nat → ClassId} {h sz : Nat} (hh : h < sz) : pX9 cy h sz (sz + 7) = some (ai cy 14) := by
  unfold pX9
  rw [cup_ne (by omega), cup_ne (by omega), cup_ne (by omega), cup_ne (by omega), cup_ne (by omega), cup_ne (by omega), cup_ne (by omega), cup_ne (by omega), cup_ne (by omega), cup_ne (by omega), cup_ne (by omega), cup_ne (by omega), cup_ne (by omega), cup_ne (by omega), cup_ne (by omega), cup_ne (by omega), cup_ne (by omega), cup_ne (by omega), cup_ne (by omega), cup_same]
theorem pX9_a8 {cy : Nat → ClassId} {h sz : Nat} (hh : h < sz) : pX9 cy h sz (sz + 8) = some (ai cy 14) := by
  unfold pX9
  rw [cup_ne (by omega), cup_ne (by omega), cup_ne (by omega), cup_ne (by omega), cup_ne (by omega), cup_ne (by omega), cup_ne (by omega), cup_ne (by omega), cup_ne (by omega), cup_ne (by omega), cup_ne (by omega), cup_ne (by omega), cup_ne (by omega), cup_ne (by omega), cup_ne (by omega), cup_ne (by omega), cup_ne (by omega), cup_ne (by omega), cup_same]
theorem pX9_a9 {cy : Nat → ClassId} {h sz : Nat} (hh : h < sz) : pX9 cy h sz (sz + 9) = some (ai cy 14) := by
  unfold pX9
  rw [cup_ne (by omega), cup_ne (by omega), cup_ne (by omega), cup_ne (by omega), cup_ne (by omega), cup_ne (by omega), cup_ne (by omega), cup_ne (by omega), cup_ne (by omega), cup_ne (by omega), cup_ne (by omega), cup_ne (by omega), cup_ne (by omega), cup_ne (by omega), cup_ne (by omega), cup_ne (by omega), cup_ne (by omega), cup_same]
theorem pX9_a10 {cy : Nat → ClassId} {h sz : Nat} (hh : h < sz) : pX9 cy h sz (sz + 10) = some (ai cy 112) := by
  unfold pX9
  rw [cup_ne (by omega), cup_ne (by omega), cup_ne (by omega), cup_ne (by omega), cup_ne (by omega), cup_ne (by omega), cup_ne (by omega), cup_ne (by omega), cup_ne (by omega), cup_ne (by omega), cup_ne (by omega), cup_ne (by omega), cup_ne (by omega), cup_ne (by omega), cup_ne (by omega), cup_ne (by omega), cup_same]
theorem pX9_a11 {cy : Nat → ClassId} {h sz : Nat} (hh : h < sz) : pX9 cy h sz (sz + 11) = some (ai cy 112) := by
  unfold pX9
  rw [cup_ne (by omega), cup_ne (by omega), cup_ne (by omega), cup_ne (by omega), cup_ne (by omega), cup_ne (by omega), cup_ne (by omega), cup_ne (by omega), cup_ne (by omega), cup_ne (by omega), cup_ne (by omega), cup_ne (by omega), cup_ne (by omega), cup_ne (by omega), cup_ne (by omega), cup_same]
theorem pX9_a12 {cy : Nat → ClassId} {h sz : Nat} (hh : h < sz) : pX9 cy h sz (sz + 12) = some (ai cy 10) := by
  unfold pX9
  rw [cup_ne (by omega), cup_ne (by omega), cup_ne (by omega), cup_ne (by omega), cup_ne (by omega), cup_ne (by omega), cup_ne (by omega), cup_ne (by omega), cup_ne (by omega), cup_ne (by omega), cup_ne (by omega), cup_ne (by omega), cup_ne (by omega), cup_ne (by omega), cup_same]
theorem pX9_a13 {cy : Nat → ClassId} {h sz : Nat} (hh : h < sz) : pX9 cy h sz (sz + 13) = some (ai cy 40) := by
  unfold pX9
  rw [cup_ne (by omega), cup_ne (by omega), cup_ne (by omega), cup_ne (by omega), cup_ne (by omega), cup_ne (by omega), cup_ne (by omega), cup_ne (by omega), cup_ne (by omega), cup_ne (by omega), cup_ne (by omega), cup_ne (by omega), cup_ne (by omega), cup_same]
theorem pX9_a14 {cy : Nat → ClassId} {h sz : Nat} (hh : h < sz) : pX9 cy h sz (sz + 14) = some (ai cy 40) := by
  unfold pX9
  rw [cup_ne (by omega), cup_ne (by omega), cup_ne (by omega), cup_ne (by omega), cup_ne (by omega), cup_ne (by omega), cup_ne (by omega), cup_ne (by omega), cup_ne (by omega), cup_ne (by omega), cup_ne (by omega), cup_ne (by omega), cup_same]
theorem pX9_a15 {cy : Nat → ClassId} {h sz : Nat} (hh : h < sz) : pX9 cy h sz (sz + 15) = some (al cy 10) := by
  unfold pX9
  rw [cup_ne (by omega), cup_ne (by omega), cup_ne (by omega), cup_ne (by omega), cup_ne (by omega), cup_ne (by omega), cup_ne (by omega), cup_ne (by omega), cup_ne (by omega), cup_ne (by omega), cup_ne (by omega), cup_same]
theorem pX9_a16 {cy : Nat → ClassId} {h sz : Nat} (hh : h < sz) : pX9 cy h sz (sz + 16) = some (af cy 6 6 (1)) := by
  unfold pX9
  rw [cup_ne (by omega), cup_ne (by omega), cup_ne (by omega), cup_ne (by omega), cup_ne (by omega), cup_ne (by omega), cup_ne (by omega), cup_ne (by omega), cup_ne (by omega), cup_ne (by omega), cup_same]
theorem pX9_a17 {cy : Nat → ClassId} {h sz : Nat} (hh : h < sz) : pX9 cy h sz (sz + 17) = some (ai cy 170) := by
  unfold pX9
  rw [cup_ne (by omega), cup_ne (by omega), cup_ne (by omega), cup_ne (by omega), cup_ne (by omega), cup_ne (by omega), cup_ne (by omega), cup_ne (by omega), cup_ne (by omega), cup_same]
theorem pX9_a18 {cy : Nat → ClassId} {h sz : Nat} (hh : h < sz) : pX9 cy h sz (sz + 18) = some (ai cy 80) := by
  unfold pX9
  rw [cup_ne (by omega), cup_ne (by omega), cup_ne (by omega), cup_ne (by omega), cup_ne (by omega), cup_ne (by omega), cup_ne (by omega), cup_ne (by omega), cup_same]
theorem pX9_a19 {cy : Nat → ClassId} {h sz : Nat} (hh : h < sz) : pX9 cy h sz (sz + 19) = some (ai cy 6) := by
  unfold pX9
  rw [cup_ne (by omega), cup_ne (by omega), cup_ne (by omega), cup_ne (by omega), cup_ne (by omega), cup_ne (by omega), cup_ne (by omega), cup_same]
theorem pX9_a20 {cy : Nat → ClassId} {h sz : Nat} (hh : h < sz) : pX9 cy h sz (sz + 20) = some (ai cy 6) := by
  unfold pX9
  rw [cup_ne (by omega), cup_ne (by omega), cup_ne (by omega), cup_ne (by omega), cup_ne (by omega), cup_ne (by omega), cup_same]
theorem pX9_a21 {cy : Nat → ClassId} {h sz : Nat} (hh : h < sz) : pX9 cy h sz (sz + 21) = some (ai cy 6) := by
  unfold pX9
  rw [cup_ne (by omega), cup_ne (by omega), cup_ne (by omega), cup_ne (by omega), cup_ne (by omega), cup_same]
theorem pX9_a22 {cy : Nat → ClassId} {h sz : Nat} (hh : h < sz) : pX9 cy h sz (sz + 22) = some (ai cy 6) := by
  unfold pX9
  rw [cup_ne (by omega), cup_ne (by omega), cup_ne (by omega), cup_ne (by omega), cup_same]
theorem pX9_a23 {cy : Nat → ClassId} {h sz : Nat} (hh : h < sz) : pX9 cy h sz (sz + 23) = some (ai cy 14) := by
  unfold pX9
  rw [cup_ne (by omega), cup_ne (by omega), cup_ne (by omega), cup_same]
theorem pX9_a24 {cy : Nat → ClassId} {h sz : Nat} (hh : h < sz) : pX9 cy h sz (sz + 24) = some (ai cy 10) := by
  unfold pX9
  rw [cup_ne (by omega), cup_ne (by omega), cup_same]
theorem pX9_a25 {cy : Nat → ClassId} {h sz : Nat} (hh : h < sz) : pX9 cy h sz (sz + 25) = some (ai cy 10) := by
  unfold pX9
  rw [cup_ne (by omega), cup_same]
theorem pX9_o {cy : Nat → ClassId} {h sz : Nat} (hh : h < sz) : pX9 cy h sz h = some (.inr (9, [.ref sz, vi 0, vi 0, .ref (sz + 1), .ref (sz + 2), .ref (sz + 3), .ref (sz + 4), .ref (sz + 5), .ref (sz + 6), .ref (sz + 7), .ref (sz + 8), .ref (sz + 9), .ref (sz + 10), .ref (sz + 11), .ref (sz + 12), .ref (sz + 13), .ref (sz + 14), .ref (sz + 15), .ref (sz + 16), vi 0, .ref (sz + 17), .ref (sz + 18), vi 0, vi 0, vi 0, vi 0, .ref (sz + 19), .ref (sz + 20), .ref (sz + 21), .ref (sz + 22), vi 0, vi 0, .ref (sz + 23), vi 0, vi 0, vi 0, .ref (sz + 24), .ref (sz + 25)])) := by
  unfold pX9
  rw [cup_same]
theorem pX0_o {cy : Nat → ClassId} {h sz : Nat} (hh : h < sz) : pX0 cy h sz h = some (.inr (0, [.ref sz, .ref (sz + 1), vi 0, vi 0, vi 0])) := by
  unfold pX0
  rw [cup_same]
theorem pX0_q {cy : Nat → ClassId} {h sz : Nat} (hh : h < sz) : pX0 cy h sz sz = some (aq (cy 4) 14 14 (fun p => sz + 2 + 5 * p)) := by
  unfold pX0
  rw [cup_ne (by omega), cup_same]
theorem pX0_i {cy : Nat → ClassId} {h sz : Nat} (hh : h < sz) : pX0 cy h sz (sz + 1) = some (ai cy 14) := by
  unfold pX0
  rw [cup_ne (by omega), cup_ne (by omega), rep_base (fun i => pX5_lo (by omega) (by omega)), cup_same]
theorem pX0_c {cy : Nat → ClassId} {h sz i q : Nat} {e : va_E} (hh : h < sz) (hi : i < 14) (h1 : sz + 2 + 5 * i ≤ q) (h2 : q < sz + 2 + 5 * i + 5) (he : pX5 cy (sz + 2 + 5 * i) (sz + 2 + 5 * i + 1) q = some e) : pX0 cy h sz q = some e := by
  unfold pX0
  rw [cup_ne (by omega), cup_ne (by omega)]
  refine rep_at (i := i) he (fun k hk => ?_) 14 hi
  rcases Nat.lt_or_gt_of_ne hk with h9 | h9
  · exact pX5_hi (by omega) (by omega)
  · exact pX5_lo (by omega) (by omega)
theorem pX4_o {cy : Nat → ClassId} {h sz : Nat} (hh : h < sz) : pX4 cy h sz h = some (.inr (4, [.ref sz, .ref (sz + 1), vi 0])) := by
  unfold pX4
  rw [cup_same]
theorem pX4_q {cy : Nat → ClassId} {h sz : Nat} (hh : h < sz) : pX4 cy h sz sz = some (aq (cy 3) 10 10 (fun p => sz + 2 + 5 * p)) := by
  unfold pX4
  rw [cup_ne (by omega), cup_same]
theorem pX4_i {cy : Nat → ClassId} {h sz : Nat} (hh : h < sz) : pX4 cy h sz (sz + 1) = some (ai cy 5) := by
  unfold pX4
  rw [cup_ne (by omega), cup_ne (by omega), rep_base (fun i => pX3_lo (by omega) (by omega)), cup_same]
theorem pX4_c {cy : Nat → ClassId} {h sz i q : Nat} {e : va_E} (hh : h < sz) (hi : i < 10) (h1 : sz + 2 + 5 * i ≤ q) (h2 : q < sz + 2 + 5 * i + 5) (he : pX3 cy (sz + 2 + 5 * i) (sz + 2 + 5 * i + 1) q = some e) : pX4 cy h sz q = some e := by
  unfold pX4
  rw [cup_ne (by omega), cup_ne (by omega)]
  refine rep_at (i := i) he (fun k hk => ?_) 10 hi
  rcases Nat.lt_or_gt_of_ne hk with h9 | h9
  · exact pX3_hi (by omega) (by omega)
  · exact pX3_lo (by omega) (by omega)
theorem pX8_o {cy : Nat → ClassId} {h sz : Nat} (hh : h < sz) : pX8 cy h sz h = some (.inr (8, [.ref sz, .ref (sz + 73), .ref (sz + 74), .ref (sz + 76), .ref (sz + 78), .ref (sz + 131), .ref (sz + 138), .ref (sz + 139), vi 0, vi 0])) := by
  unfold pX8
  rw [cup_same]
theorem pX8_q {cy : Nat → ClassId} {h sz : Nat} (hh : h < sz) : pX8 cy h sz (sz + 73) = some (aq (cy 5) 10 10 (fun p => sz + 140 + 3 * p)) := by
  unfold pX8
  rw [cup_ne (by omega), cup_same]
theorem pX8_i0 {cy : Nat → ClassId} {h sz : Nat} (hh : h < sz) : pX8 cy h sz (sz + 138) = some (ai cy 10) := by
  unfold pX8
  rw [cup_ne (by omega), cup_ne (by omega), rep_base (fun i => pX7_lo (by omega) (by omega)), cup_ne (by omega), cup_same]
theorem pX8_i1 {cy : Nat → ClassId} {h sz : Nat} (hh : h < sz) : pX8 cy h sz (sz + 139) = some (ai cy 9) := by
  unfold pX8
  rw [cup_ne (by omega), cup_ne (by omega), rep_base (fun i => pX7_lo (by omega) (by omega)), cup_same]
theorem pX8_c {cy : Nat → ClassId} {h sz i q : Nat} {e : va_E} (hh : h < sz) (hi : i < 10) (h1 : sz + 140 + 3 * i ≤ q) (h2 : q < sz + 140 + 3 * i + 3) (he : pX7 cy (sz + 140 + 3 * i) (sz + 140 + 3 * i + 1) q = some e) : pX8 cy h sz q = some e := by
  unfold pX8
  rw [cup_ne (by omega), cup_ne (by omega)]
  refine rep_at (i := i) he (fun k hk => ?_) 10 hi
  rcases Nat.lt_or_gt_of_ne hk with h9 | h9
  · exact pX7_hi (by omega) (by omega)
  · exact pX7_lo (by omega) (by omega)
theorem pX8_X0 {cy : Nat → ClassId} {h sz q : Nat} {e : va_E} (hh : h < sz) (h1 : sz ≤ q) (h2 : q < sz + 73) (he : pX0 cy (sz) (sz + 1) q = some e) : pX8 cy h sz q = some e := by
  unfold pX8
  rw [cup_ne (by omega), cup_ne (by omega), rep_base (fun i => pX7_lo (by omega) (by omega)), cup_ne (by omega), cup_ne (by omega)]
  simp only [und, pX1_lo (cy := cy) (h := sz + 131) (sz := sz + 132) (q := q) (by omega) (by omega), pX4_lo (cy := cy) (h := sz + 78) (sz := sz + 79) (q := q) (by omega) (by omega), pX6_lo (cy := cy) (h := sz + 76) (sz := sz + 77) (q := q) (by omega) (by omega), pX2_lo (cy := cy) (h := sz + 74) (sz := sz + 75) (q := q) (by omega) (by omega), he]
theorem pX8_X2 {cy : Nat → ClassId} {h sz q : Nat} {e : va_E} (hh : h < sz) (h1 : sz + 74 ≤ q) (h2 : q < sz + 76) (he : pX2 cy (sz + 74) (sz + 75) q = some e) : pX8 cy h sz q = some e := by
  unfold pX8
  rw [cup_ne (by omega), cup_ne (by omega), rep_base (fun i => pX7_lo (by omega) (by omega)), cup_ne (by omega), cup_ne (by omega)]
  simp only [und, pX1_lo (cy := cy) (h := sz + 131) (sz := sz + 132) (q := q) (by omega) (by omega), pX4_lo (cy := cy) (h := sz + 78) (sz := sz + 79) (q := q) (by omega) (by omega), pX6_lo (cy := cy) (h := sz + 76) (sz := sz + 77) (q := q) (by omega) (by omega), he]
theorem pX8_X6 {cy : Nat → ClassId} {h sz q : Nat} {e : va_E} (hh : h < sz) (h1 : sz + 76 ≤ q) (h2 : q < sz + 78) (he : pX6 cy (sz + 76) (sz + 77) q = some e) : pX8 cy h sz q = some e := by
  unfold pX8
  rw [cup_ne (by omega), cup_ne (by omega), rep_base (fun i => pX7_lo (by omega) (by omega)), cup_ne (by omega), cup_ne (by omega)]
  simp only [und, pX1_lo (cy := cy) (h := sz + 131) (sz := sz + 132) (q := q) (by omega) (by omega), pX4_lo (cy := cy) (h := sz + 78) (sz := sz + 79) (q := q) (by omega) (by omega), he]
theorem pX8_X4 {cy : Nat → ClassId} {h sz q : Nat} {e : va_E} (hh : h < sz) (h1 : sz + 78 ≤ q) (h2 : q < sz + 131) (he : pX4 cy (sz + 78) (sz + 79) q = some e) : pX8 cy h sz q = some e := by
  unfold pX8
  rw [cup_ne (by omega), cup_ne (by omega), rep_base (fun i => pX7_lo (by omega) (by omega)), cup_ne (by omega), cup_ne (by omega)]
  simp only [und, pX1_lo (cy := cy) (h := sz + 131) (sz := sz + 132) (q := q) (by omega) (by omega), he]
theorem pX8_X1 {cy : Nat → ClassId} {h sz q : Nat} {e : va_E} (hh : h < sz) (h1 : sz + 131 ≤ q) (h2 : q < sz + 138) (he : pX1 cy (sz + 131) (sz + 132) q = some e) : pX8 cy h sz q = some e := by
  unfold pX8
  rw [cup_ne (by omega), cup_ne (by omega), rep_base (fun i => pX7_lo (by omega) (by omega)), cup_ne (by omega), cup_ne (by omega)]
  simp only [und, he]
theorem pX9_lo {cy : Nat → ClassId} {h sz q : Nat} (hh : h < sz) (hq : q < h) : pX9 cy h sz q = none := by
  unfold pX9
  rw [cup_ne (by omega)]
  rw [cup_ne (by omega)]
  rw [cup_ne (by omega)]
  rw [cup_ne (by omega)]
  rw [cup_ne (by omega)]
  rw [cup_ne (by omega)]
  rw [cup_ne (by omega)]
  rw [cup_ne (by omega)]
  rw [cup_ne (by omega)]
  rw [cup_ne (by omega)]
  rw [cup_ne (by omega)]
  rw [cup_ne (by omega)]
  rw [cup_ne (by omega)]
  rw [cup_ne (by omega)]
  rw [cup_ne (by omega)]
  rw [cup_ne (by omega)]
  rw [cup_ne (by omega)]
  rw [cup_ne (by omega)]
  rw [cup_ne (by omega)]
  rw [cup_ne (by omega)]
  rw [cup_ne (by omega)]
  rw [cup_ne (by omega)]
  rw [cup_ne (by omega)]
  rw [cup_ne (by omega)]
  rw [cup_ne (by omega)]
  rw [cup_ne (by omega)]
  rw [cup_ne (by omega)]
  rfl
section HWM
variable {D : va_G} {cy : Nat → ClassId} {z : Nat} {a v : Nat → Nat} {H : Heap}
def H8 (D : va_G) (cy : Nat → ClassId) (z : Nat) (H : Heap) : Prop := ∀ (x : Nat) (e : va_E), x < z + 171 → pX8 cy z (z + 1) x = some e → va_at D vwCl (x, e) H
def H9 (D : va_G) (cy : Nat → ClassId) (z : Nat) (H : Heap) : Prop := ∀ (x : Nat) (e : va_E), pX9 cy (z + 171) (z + 172) x = some e → va_at D vwCl (x, e) H
theorem hw0 (h8 : H8 D cy z H) (h9 : H9 D cy z H) {i : Nat} (hi : i < cnt 0) : va_at D vwCl (adr z 0 i, cellOf (Gz D cy z a v) M0 0 i) H := by
  have hi9 : i < 1 := hi
  show va_at D vwCl (z + 1, .inr (0, [.ref (z + 1 + 1), .ref (z + 1 + 1 + 1), vi 0, vi 0, vi 0])) H
  exact (h8 _ _ (by omega) (pX8_X0 (by omega) (by omega) (by omega) (pX0_o (by omega))))
theorem hw1 (h8 : H8 D cy z H) (h9 : H9 D cy z H) {i : Nat} (hi : i < cnt 1) : va_at D vwCl (adr z 1 i, cellOf (Gz D cy z a v) M0 1 i) H := by
  have hi9 : i < 1 := hi
  show va_at D vwCl (z + 1 + 131, .inr (1, [.ref (z + 1 + 132), .ref (z + 1 + 132 + 1), .ref (z + 1 + 132 + 2), .ref (z + 1 + 132 + 3), .ref (z + 1 + 132 + 4), .ref (z + 1 + 132 + 5), vi 0, vi 0])) H
  exact (h8 _ _ (by omega) (pX8_X1 (by omega) (by omega) (by omega) (pX1_o (by omega))))
theorem hw2 (h8 : H8 D cy z H) (h9 : H9 D cy z H) {i : Nat} (hi : i < cnt 2) : va_at D vwCl (adr z 2 i, cellOf (Gz D cy z a v) M0 2 i) H := by
  have hi9 : i < 1 := hi
  show va_at D vwCl (z + 1 + 74, .inr (2, [.ref (z + 1 + 75)])) H
  exact (h8 _ _ (by omega) (pX8_X2 (by omega) (by omega) (by omega) (pX2_o (by omega))))
theorem hw3 (h8 : H8 D cy z H) (h9 : H9 D cy z H) {i : Nat} (hi : i < cnt 3) : va_at D vwCl (adr z 3 i, cellOf (Gz D cy z a v) M0 3 i) H := by
  have hi9 : i < 10 := hi
  show va_at D vwCl (z + 1 + 79 + 2 + 5 * i, .inr (3, [vi 0, vi 0, vi 0, vi 0, .ref (z + 1 + 79 + 2 + 5 * i + 1), .ref (z + 1 + 79 + 2 + 5 * i + 1 + 1), .ref (z + 1 + 79 + 2 + 5 * i + 1 + 2), .ref (z + 1 + 79 + 2 + 5 * i + 1 + 3), vi 0])) H
  exact (h8 _ _ (by omega) (pX8_X4 (by omega) (by omega) (by omega) (pX4_c (by omega) hi9 (by omega) (by omega) (pX3_o (by omega)))))
theorem hw4 (h8 : H8 D cy z H) (h9 : H9 D cy z H) {i : Nat} (hi : i < cnt 4) : va_at D vwCl (adr z 4 i, cellOf (Gz D cy z a v) M0 4 i) H := by
  have hi9 : i < 1 := hi
  show va_at D vwCl (z + 1 + 78, .inr (4, [.ref (z + 1 + 79), .ref (z + 1 + 79 + 1), vi 0])) H
  exact (h8 _ _ (by omega) (pX8_X4 (by omega) (by omega) (by omega) (pX4_o (by omega))))
theorem hw5 (h8 : H8 D cy z H) (h9 : H9 D cy z H) {i : Nat} (hi : i < cnt 5) : va_at D vwCl (adr z 5 i, cellOf (Gz D cy z a v) M0 5 i) H := by
  have hi9 : i < 14 := hi
  show va_at D vwCl (z + 1 + 1 + 2 + 5 * i, .inr (5, [vi 0, vi 0, vi 0, vi 0, .ref (z + 1 + 1 + 2 + 5 * i + 1), .ref (z + 1 + 1 + 2 + 5 * i + 1 + 1), vi (-1), vi (-1), vi (-1), .ref (z + 1 + 1 + 2 + 5 * i + 1 + 2), .ref (z + 1 + 1 + 2 + 5 * i + 1 + 3), vi 0, vi 0])) H
  exact (h8 _ _ (by omega) (pX8_X0 (by omega) (by omega) (by omega) (pX0_c (by omega) hi9 (by omega) (by omega) (pX5_o (by omega)))))
theorem hw6 (h8 : H8 D cy z H) (h9 : H9 D cy z H) {i : Nat} (hi : i < cnt 6) : va_at D vwCl (adr z 6 i, cellOf (Gz D cy z a v) M0 6 i) H := by
  have hi9 : i < 1 := hi
  show va_at D vwCl (z + 1 + 76, .inr (6, [.ref (z + 1 + 77), vi 0, vi 0, vi 0])) H
  exact (h8 _ _ (by omega) (pX8_X6 (by omega) (by omega) (by omega) (pX6_o (by omega))))
theorem hw7 (h8 : H8 D cy z H) (h9 : H9 D cy z H) {i : Nat} (hi : i < cnt 7) : va_at D vwCl (adr z 7 i, cellOf (Gz D cy z a v) M0 7 i) H := by
  have hi9 : i < 10 := hi
  show va_at D vwCl (z + 1 + 140 + 3 * i, .inr (7, [.ref (z + 1 + 140 + 3 * i + 1), .ref (z + 1 + 140 + 3 * i + 1 + 1), vi 0])) H
  exact (h8 _ _ (by omega) (pX8_c (by omega) hi9 (by omega) (by omega) (pX7_o (by omega))))
theorem hw8 (h8 : H8 D cy z H) (h9 : H9 D cy z H) {i : Nat} (hi : i < cnt 8) : va_at D vwCl (adr z 8 i, cellOf (Gz D cy z a v) M0 8 i) H := by
  have hi9 : i < 1 := hi
  show va_at D vwCl (z, .inr (8, [.ref (z + 1), .ref (z + 1 + 73), .ref (z + 1 + 74), .ref (z + 1 + 76), .ref (z + 1 + 78), .ref (z + 1 + 131), .ref (z + 1 + 138), .ref (z + 1 + 139), vi 0, vi 0])) H
  exact (h8 _ _ (by omega) (pX8_o (by omega)))
theorem hw9 (h8 : H8 D cy z H) (h9 : H9 D cy z H) {i : Nat} (hi : i < cnt 9) : va_at D vwCl (adr z 9 i, cellOf (Gz D cy z a v) M0 9 i) H := by
  have hi9 : i < 1 := hi
  have hk : kd 9 = (0, 9, [41, 0, 0, 42, 43, 44, 45, 46, 47, 48, 49, 50, 51, 52, 53, 54, 55, 56, 57, 0, 58, 59, 0, 0, 0, 0, 60, 61, 62, 63, 0, 0, 64, 0, 0, 0, 65, 66]) := rfl
  have e : objF (Gz D cy z a v) M0 9 i = [.ref (z + 172), vi 0, vi 0, .ref (z + 172 + 1), .ref (z + 172 + 2), .ref (z + 172 + 3), .ref (z + 172 + 4), .ref (z + 172 + 5), .ref (z + 172 + 6), .ref (z + 172 + 7), .ref (z + 172 + 8), .ref (z + 172 + 9), .ref (z + 172 + 10), .ref (z + 172 + 11), .ref (z + 172 + 12), .ref (z + 172 + 13), .ref (z + 172 + 14), .ref (z + 172 + 15), .ref (z + 172 + 16), vi 0, .ref (z + 172 + 17), .ref (z + 172 + 18), vi 0, vi 0, vi 0, vi 0, .ref (z + 172 + 19), .ref (z + 172 + 20), .ref (z + 172 + 21), .ref (z + 172 + 22), vi 0, vi 0, .ref (z + 172 + 23), vi 0, vi 0, vi 0, .ref (z + 172 + 24), .ref (z + 172 + 25)] := by
    rw [objF, hk]
    simp only [List.mapIdx_cons, List.mapIdx_nil]
    rfl
  rw [cellOf_obj _ _ i hk, e]
  show va_at D vwCl (z + 171, .inr (9, [.ref (z + 172), vi 0, vi 0, .ref (z + 172 + 1), .ref (z + 172 + 2), .ref (z + 172 + 3), .ref (z + 172 + 4), .ref (z + 172 + 5), .ref (z + 172 + 6), .ref (z + 172 + 7), .ref (z + 172 + 8), .ref (z + 172 + 9), .ref (z + 172 + 10), .ref (z + 172 + 11), .ref (z + 172 + 12), .ref (z + 172 + 13), .ref (z + 172 + 14), .ref (z + 172 + 15), .ref (z + 172 + 16), vi 0, .ref (z + 172 + 17), .ref (z + 172 + 18), vi 0, vi 0, vi 0, vi 0, .ref (z + 172 + 19), .ref (z + 172 + 20), .ref (z + 172 + 21), .ref (z + 172 + 22), vi 0, vi 0, .ref (z + 172 + 23), vi 0, vi 0, vi 0, .ref (z + 172 + 24), .ref (z + 172 + 25)])) H
  exact (h9 _ _ (pX9_o (by omega)))
theorem hw10 (h8 : H8 D cy z H) (h9 : H9 D cy z H) {i : Nat} (hi : i < cnt 10) : va_at D vwCl (adr z 10 i, cellOf (Gz D cy z a v) M0 10 i) H := by
  have hi9 : i < 1 := hi
  show va_at D vwCl (z + 1 + 1, cellOf (Gz D cy z a v) M0 10 i) H
  exact at_q (h8 _ _ (by omega) (pX8_X0 (by omega) (by omega) (by omega) (pX0_q (by omega))))
theorem hw11 (h8 : H8 D cy z H) (h9 : H9 D cy z H) {i : Nat} (hi : i < cnt 11) : va_at D vwCl (adr z 11 i, cellOf (Gz D cy z a v) M0 11 i) H := by
  have hi9 : i < 1 := hi
  show va_at D vwCl (z + 1 + 1 + 1, cellOf (Gz D cy z a v) M0 11 i) H
  exact (h8 _ _ (by omega) (pX8_X0 (by omega) (by omega) (by omega) (pX0_i (by omega))))
theorem hw12 (h8 : H8 D cy z H) (h9 : H9 D cy z H) {i : Nat} (hi : i < cnt 12) : va_at D vwCl (adr z 12 i, cellOf (Gz D cy z a v) M0 12 i) H := by
  have hi9 : i < 1 := hi
  show va_at D vwCl (z + 1 + 132, .inl (cy 0, 6, .inl (fun p => Int32.ofInt (if p < 6 then 1 else 0)))) H
  rw [fz_M]
  exact (h8 _ _ (by omega) (pX8_X1 (by omega) (by omega) (by omega) (pX1_a0 (by omega))))
theorem hw13 (h8 : H8 D cy z H) (h9 : H9 D cy z H) {i : Nat} (hi : i < cnt 13) : va_at D vwCl (adr z 13 i, cellOf (Gz D cy z a v) M0 13 i) H := by
  have hi9 : i < 1 := hi
  show va_at D vwCl (z + 1 + 132 + 1, cellOf (Gz D cy z a v) M0 13 i) H
  exact (h8 _ _ (by omega) (pX8_X1 (by omega) (by omega) (by omega) (pX1_a1 (by omega))))
theorem hw14 (h8 : H8 D cy z H) (h9 : H9 D cy z H) {i : Nat} (hi : i < cnt 14) : va_at D vwCl (adr z 14 i, cellOf (Gz D cy z a v) M0 14 i) H := by
  have hi9 : i < 1 := hi
  show va_at D vwCl (z + 1 + 132 + 2, cellOf (Gz D cy z a v) M0 14 i) H
  exact (h8 _ _ (by omega) (pX8_X1 (by omega) (by omega) (by omega) (pX1_a2 (by omega))))
theorem hw15 (h8 : H8 D cy z H) (h9 : H9 D cy z H) {i : Nat} (hi : i < cnt 15) : va_at D vwCl (adr z 15 i, cellOf (Gz D cy z a v) M0 15 i) H := by
  have hi9 : i < 1 := hi
  show va_at D vwCl (z + 1 + 132 + 3, cellOf (Gz D cy z a v) M0 15 i) H
  exact (h8 _ _ (by omega) (pX8_X1 (by omega) (by omega) (by omega) (pX1_a3 (by omega))))
theorem hw16 (h8 : H8 D cy z H) (h9 : H9 D cy z H) {i : Nat} (hi : i < cnt 16) : va_at D vwCl (adr z 16 i, cellOf (Gz D cy z a v) M0 16 i) H := by
  have hi9 : i < 1 := hi
  show va_at D vwCl (z + 1 + 132 + 4, cellOf (Gz D cy z a v) M0 16 i) H
  exact (h8 _ _ (by omega) (pX8_X1 (by omega) (by omega) (by omega) (pX1_a4 (by omega))))
theorem hw17 (h8 : H8 D cy z H) (h9 : H9 D cy z H) {i : Nat} (hi : i < cnt 17) : va_at D vwCl (adr z 17 i, cellOf (Gz D cy z a v) M0 17 i) H := by
  have hi9 : i < 1 := hi
  show va_at D vwCl (z + 1 + 132 + 5, cellOf (Gz D cy z a v) M0 17 i) H
  exact (h8 _ _ (by omega) (pX8_X1 (by omega) (by omega) (by omega) (pX1_a5 (by omega))))
theorem hw18 (h8 : H8 D cy z H) (h9 : H9 D cy z H) {i : Nat} (hi : i < cnt 18) : va_at D vwCl (adr z 18 i, cellOf (Gz D cy z a v) M0 18 i) H := by
  have hi9 : i < 1 := hi
  show va_at D vwCl (z + 1 + 75, cellOf (Gz D cy z a v) M0 18 i) H
  exact (h8 _ _ (by omega) (pX8_X2 (by omega) (by omega) (by omega) (pX2_a0 (by omega))))
theorem hw19 (h8 : H8 D cy z H) (h9 : H9 D cy z H) {i : Nat} (hi : i < cnt 19) : va_at D vwCl (adr z 19 i, cellOf (Gz D cy z a v) M0 19 i) H := by
  have hi9 : i < 10 := hi
  show va_at D vwCl (z + 1 + 79 + 2 + 5 * i + 1, cellOf (Gz D cy z a v) M0 19 i) H
  exact (h8 _ _ (by omega) (pX8_X4 (by omega) (by omega) (by omega) (pX4_c (by omega) hi9 (by omega) (by omega) (pX3_a0 (by omega)))))
theorem hw20 (h8 : H8 D cy z H) (h9 : H9 D cy z H) {i : Nat} (hi : i < cnt 20) : va_at D vwCl (adr z 20 i, cellOf (Gz D cy z a v) M0 20 i) H := by
  have hi9 : i < 10 := hi
  show va_at D vwCl (z + 1 + 79 + 2 + 5 * i + 1 + 1, cellOf (Gz D cy z a v) M0 20 i) H
  exact (h8 _ _ (by omega) (pX8_X4 (by omega) (by omega) (by omega) (pX4_c (by omega) hi9 (by omega) (by omega) (pX3_a1 (by omega)))))
theorem hw21 (h8 : H8 D cy z H) (h9 : H9 D cy z H) {i : Nat} (hi : i < cnt 21) : va_at D vwCl (adr z 21 i, cellOf (Gz D cy z a v) M0 21 i) H := by
  have hi9 : i < 10 := hi
  show va_at D vwCl (z + 1 + 79 + 2 + 5 * i + 1 + 2, cellOf (Gz D cy z a v) M0 21 i) H
  exact (h8 _ _ (by omega) (pX8_X4 (by omega) (by omega) (by omega) (pX4_c (by omega) hi9 (by omega) (by omega) (pX3_a2 (by omega)))))
theorem hw22 (h8 : H8 D cy z H) (h9 : H9 D cy z H) {i : Nat} (hi : i < cnt 22) : va_at D vwCl (adr z 22 i, cellOf (Gz D cy z a v) M0 22 i) H := by
  have hi9 : i < 10 := hi
  show va_at D vwCl (z + 1 + 79 + 2 + 5 * i + 1 + 3, cellOf (Gz D cy z a v) M0 22 i) H
  exact (h8 _ _ (by omega) (pX8_X4 (by omega) (by omega) (by omega) (pX4_c (by omega) hi9 (by omega) (by omega) (pX3_a3 (by omega)))))
theorem hw23 (h8 : H8 D cy z H) (h9 : H9 D cy z H) {i : Nat} (hi : i < cnt 23) : va_at D vwCl (adr z 23 i, cellOf (Gz D cy z a v) M0 23 i) H := by
  have hi9 : i < 1 := hi
  show va_at D vwCl (z + 1 + 79, cellOf (Gz D cy z a v) M0 23 i) H
  exact at_q (h8 _ _ (by omega) (pX8_X4 (by omega) (by omega) (by omega) (pX4_q (by omega))))
theorem hw24 (h8 : H8 D cy z H) (h9 : H9 D cy z H) {i : Nat} (hi : i < cnt 24) : va_at D vwCl (adr z 24 i, cellOf (Gz D cy z a v) M0 24 i) H := by
  have hi9 : i < 1 := hi
  show va_at D vwCl (z + 1 + 79 + 1, cellOf (Gz D cy z a v) M0 24 i) H
  exact (h8 _ _ (by omega) (pX8_X4 (by omega) (by omega) (by omega) (pX4_i (by omega))))
theorem hw25 (h8 : H8 D cy z H) (h9 : H9 D cy z H) {i : Nat} (hi : i < cnt 25) : va_at D vwCl (adr z 25 i, cellOf (Gz D cy z a v) M0 25 i) H := by
  have hi9 : i < 14 := hi
  show va_at D vwCl (z + 1 + 1 + 2 + 5 * i + 1, cellOf (Gz D cy z a v) M0 25 i) H
  exact (h8 _ _ (by omega) (pX8_X0 (by omega) (by omega) (by omega) (pX0_c (by omega) hi9 (by omega) (by omega) (pX5_a0 (by omega)))))
theorem hw26 (h8 : H8 D cy z H) (h9 : H9 D cy z H) {i : Nat} (hi : i < cnt 26) : va_at D vwCl (adr z 26 i, cellOf (Gz D cy z a v) M0 26 i) H := by
  have hi9 : i < 14 := hi
  show va_at D vwCl (z + 1 + 1 + 2 + 5 * i + 1 + 1, cellOf (Gz D cy z a v) M0 26 i) H
  exact (h8 _ _ (by omega) (pX8_X0 (by omega) (by omega) (by omega) (pX0_c (by omega) hi9 (by omega) (by omega) (pX5_a1 (by omega)))))
theorem hw27 (h8 : H8 D cy z H) (h9 : H9 D cy z H) {i : Nat} (hi : i < cnt 27) : va_at D vwCl (adr z 27 i, cellOf (Gz D cy z a v) M0 27 i) H := by
  have hi9 : i < 14 := hi
  show va_at D vwCl (z + 1 + 1 + 2 + 5 * i + 1 + 2, cellOf (Gz D cy z a v) M0 27 i) H
  exact (h8 _ _ (by omega) (pX8_X0 (by omega) (by omega) (by omega) (pX0_c (by omega) hi9 (by omega) (by omega) (pX5_a2 (by omega)))))
theorem hw28 (h8 : H8 D cy z H) (h9 : H9 D cy z H) {i : Nat} (hi : i < cnt 28) : va_at D vwCl (adr z 28 i, cellOf (Gz D cy z a v) M0 28 i) H := by
  have hi9 : i < 14 := hi
  show va_at D vwCl (z + 1 + 1 + 2 + 5 * i + 1 + 3, cellOf (Gz D cy z a v) M0 28 i) H
  exact (h8 _ _ (by omega) (pX8_X0 (by omega) (by omega) (by omega) (pX0_c (by omega) hi9 (by omega) (by omega) (pX5_a3 (by omega)))))
theorem hw29 (h8 : H8 D cy z H) (h9 : H9 D cy z H) {i : Nat} (hi : i < cnt 29) : va_at D vwCl (adr z 29 i, cellOf (Gz D cy z a v) M0 29 i) H := by
  have hi9 : i < 1 := hi
  show va_at D vwCl (z + 1 + 77, cellOf (Gz D cy z a v) M0 29 i) H
  exact (h8 _ _ (by omega) (pX8_X6 (by omega) (by omega) (by omega) (pX6_a0 (by omega))))
theorem hw30 (h8 : H8 D cy z H) (h9 : H9 D cy z H) {i : Nat} (hi : i < cnt 30) : va_at D vwCl (adr z 30 i, cellOf (Gz D cy z a v) M0 30 i) H := by
  have hi9 : i < 10 := hi
  show va_at D vwCl (z + 1 + 140 + 3 * i + 1, cellOf (Gz D cy z a v) M0 30 i) H
  exact (h8 _ _ (by omega) (pX8_c (by omega) hi9 (by omega) (by omega) (pX7_a0 (by omega))))
theorem hw31 (h8 : H8 D cy z H) (h9 : H9 D cy z H) {i : Nat} (hi : i < cnt 31) : va_at D vwCl (adr z 31 i, cellOf (Gz D cy z a v) M0 31 i) H := by
  have hi9 : i < 10 := hi
  show va_at D vwCl (z + 1 + 140 + 3 * i + 1 + 1, cellOf (Gz D cy z a v) M0 31 i) H
  exact (h8 _ _ (by omega) (pX8_c (by omega) hi9 (by omega) (by omega) (pX7_a1 (by omega))))
theorem hw32 (h8 : H8 D cy z H) (h9 : H9 D cy z H) {i : Nat} (hi : i < cnt 32) : va_at D vwCl (adr z 32 i, cellOf (Gz D cy z a v) M0 32 i) H := by
  have hi9 : i < 1 := hi
  show va_at D vwCl (z + 1 + 73, cellOf (Gz D cy z a v) M0 32 i) H
  exact at_q (h8 _ _ (by omega) (pX8_q (by omega)))
theorem hw33 (h8 : H8 D cy z H) (h9 : H9 D cy z H) {i : Nat} (hi : i < cnt 33) : va_at D vwCl (adr z 33 i, cellOf (Gz D cy z a v) M0 33 i) H := by
  have hi9 : i < 1 := hi
  show va_at D vwCl (z + 1 + 138, cellOf (Gz D cy z a v) M0 33 i) H
  exact (h8 _ _ (by omega) (pX8_i0 (by omega)))
theorem hw34 (h8 : H8 D cy z H) (h9 : H9 D cy z H) {i : Nat} (hi : i < cnt 34) : va_at D vwCl (adr z 34 i, cellOf (Gz D cy z a v) M0 34 i) H := by
  have hi9 : i < 1 := hi
  show va_at D vwCl (z + 1 + 139, cellOf (Gz D cy z a v) M0 34 i) H
  exact (h8 _ _ (by omega) (pX8_i1 (by omega)))
theorem hw40 (h8 : H8 D cy z H) (h9 : H9 D cy z H) {i : Nat} (hi : i < cnt 40) : va_at D vwCl (adr z 40 i, cellOf (Gz D cy z a v) M0 40 i) H := by
  have hi9 : i < 1 := hi
  show va_at D vwCl (z + 172, cellOf (Gz D cy z a v) M0 40 i) H
  exact (h9 _ _ (pX9_a0 (by omega)))
theorem hw41 (h8 : H8 D cy z H) (h9 : H9 D cy z H) {i : Nat} (hi : i < cnt 41) : va_at D vwCl (adr z 41 i, cellOf (Gz D cy z a v) M0 41 i) H := by
  have hi9 : i < 1 := hi
  show va_at D vwCl (z + 172 + 1, cellOf (Gz D cy z a v) M0 41 i) H
  exact (h9 _ _ (pX9_a1 (by omega)))
theorem hw42 (h8 : H8 D cy z H) (h9 : H9 D cy z H) {i : Nat} (hi : i < cnt 42) : va_at D vwCl (adr z 42 i, cellOf (Gz D cy z a v) M0 42 i) H := by
  have hi9 : i < 1 := hi
  show va_at D vwCl (z + 172 + 2, cellOf (Gz D cy z a v) M0 42 i) H
  exact (h9 _ _ (pX9_a2 (by omega)))
theorem hw43 (h8 : H8 D cy z H) (h9 : H9 D cy z H) {i : Nat} (hi : i < cnt 43) : va_at D vwCl (adr z 43 i, cellOf (Gz D cy z a v) M0 43 i) H := by
  have hi9 : i < 1 := hi
  show va_at D vwCl (z + 172 + 3, cellOf (Gz D cy z a v) M0 43 i) H
  exact (h9 _ _ (pX9_a3 (by omega)))
theorem hw44 (h8 : H8 D cy z H) (h9 : H9 D cy z H) {i : Nat} (hi : i < cnt 44) : va_at D vwCl (adr z 44 i, cellOf (Gz D cy z a v) M0 44 i) H := by
  have hi9 : i < 1 := hi
  show va_at D vwCl (z + 172 + 4, cellOf (Gz D cy z a v) M0 44 i) H
  exact (h9 _ _ (pX9_a4 (by omega)))
theorem hw45 (h8 : H8 D cy z H) (h9 : H9 D cy z H) {i : Nat} (hi : i < cnt 45) : va_at D vwCl (adr z 45 i, cellOf (Gz D cy z a v) M0 45 i) H := by
  have hi9 : i < 1 := hi
  show va_at D vwCl (z + 172 + 5, cellOf (Gz D cy z a v) M0 45 i) H
  exact (h9 _ _ (pX9_a5 (by omega)))
theorem hw46 (h8 : H8 D cy z H) (h9 : H9 D cy z H) {i : Nat} (hi : i < cnt 46) : va_at D vwCl (adr z 46 i, cellOf (Gz D cy z a v) M0 46 i) H := by
  have hi9 : i < 1 := hi
  show va_at D vwCl (z + 172 + 6, .inl (cy 0, 14, .inl (fun p => Int32.ofInt (if p < 14 then (-1) else 0)))) H
  rw [fz_M]
  exact (h9 _ _ (pX9_a6 (by omega)))
theorem hw47 (h8 : H8 D cy z H) (h9 : H9 D cy z H) {i : Nat} (hi : i < cnt 47) : va_at D vwCl (adr z 47 i, cellOf (Gz D cy z a v) M0 47 i) H := by
  have hi9 : i < 1 := hi
  show va_at D vwCl (z + 172 + 7, cellOf (Gz D cy z a v) M0 47 i) H
  exact (h9 _ _ (pX9_a7 (by omega)))
theorem hw48 (h8 : H8 D cy z H) (h9 : H9 D cy z H) {i : Nat} (hi : i < cnt 48) : va_at D vwCl (adr z 48 i, cellOf (Gz D cy z a v) M0 48 i) H := by
  have hi9 : i < 1 := hi
  show va_at D vwCl (z + 172 + 8, cellOf (Gz D cy z a v) M0 48 i) H
  exact (h9 _ _ (pX9_a8 (by omega)))
theorem hw49 (h8 : H8 D cy z H) (h9 : H9 D cy z H) {i : Nat} (hi : i < cnt 49) : va_at D vwCl (adr z 49 i, cellOf (Gz D cy z a v) M0 49 i) H := by
  have hi9 : i < 1 := hi
  show va_at D vwCl (z + 172 + 9, cellOf (Gz D cy z a v) M0 49 i) H
  exact (h9 _ _ (pX9_a9 (by omega)))
theorem hw50 (h8 : H8 D cy z H) (h9 : H9 D cy z H) {i : Nat} (hi : i < cnt 50) : va_at D vwCl (adr z 50 i, cellOf (Gz D cy z a v) M0 50 i) H := by
  have hi9 : i < 1 := hi
  show va_at D vwCl (z + 172 + 10, cellOf (Gz D cy z a v) M0 50 i) H
  exact (h9 _ _ (pX9_a10 (by omega)))
theorem hw51 (h8 : H8 D cy z H) (h9 : H9 D cy z H) {i : Nat} (hi : i < cnt 51) : va_at D vwCl (adr z 51 i, cellOf (Gz D cy z a v) M0 51 i) H := by
  have hi9 : i < 1 := hi
  show va_at D vwCl (z + 172 + 11, cellOf (Gz D cy z a v) M0 51 i) H
  exact (h9 _ _ (pX9_a11 (by omega)))
theorem hw52 (h8 : H8 D cy z H) (h9 : H9 D cy z H) {i : Nat} (hi : i < cnt 52) : va_at D vwCl (adr z 52 i, cellOf (Gz D cy z a v) M0 52 i) H := by
  have hi9 : i < 1 := hi
  show va_at D vwCl (z + 172 + 12, cellOf (Gz D cy z a v) M0 52 i) H
  exact (h9 _ _ (pX9_a12 (by omega)))
theorem hw53 (h8 : H8 D cy z H) (h9 : H9 D cy z H) {i : Nat} (hi : i < cnt 53) : va_at D vwCl (adr z 53 i, cellOf (Gz D cy z a v) M0 53 i) H := by
  have hi9 : i < 1 := hi
  show va_at D vwCl (z + 172 + 13, cellOf (Gz D cy z a v) M0 53 i) H
  exact (h9 _ _ (pX9_a13 (by omega)))
theorem hw54 (h8 : H8 D cy z H) (h9 : H9 D cy z H) {i : Nat} (hi : i < cnt 54) : va_at D vwCl (adr z 54 i, cellOf (Gz D cy z a v) M0 54 i) H := by
  have hi9 : i < 1 := hi
  show va_at D vwCl (z + 172 + 14, cellOf (Gz D cy z a v) M0 54 i) H
  exact (h9 _ _ (pX9_a14 (by omega)))
theorem hw55 (h8 : H8 D cy z H) (h9 : H9 D cy z H) {i : Nat} (hi : i < cnt 55) : va_at D vwCl (adr z 55 i, cellOf (Gz D cy z a v) M0 55 i) H := by
  have hi9 : i < 1 := hi
  show va_at D vwCl (z + 172 + 15, cellOf (Gz D cy z a v) M0 55 i) H
  exact (h9 _ _ (pX9_a15 (by omega)))
theorem hw56 (h8 : H8 D cy z H) (h9 : H9 D cy z H) {i : Nat} (hi : i < cnt 56) : va_at D vwCl (adr z 56 i, cellOf (Gz D cy z a v) M0 56 i) H := by
  have hi9 : i < 1 := hi
  show va_at D vwCl (z + 172 + 16, .inl (cy 0, 6, .inl (fun p => Int32.ofInt (if p < 6 then (1) else 0)))) H
  rw [fz_M]
  exact (h9 _ _ (pX9_a16 (by omega)))
theorem hw57 (h8 : H8 D cy z H) (h9 : H9 D cy z H) {i : Nat} (hi : i < cnt 57) : va_at D vwCl (adr z 57 i, cellOf (Gz D cy z a v) M0 57 i) H := by
  have hi9 : i < 1 := hi
  show va_at D vwCl (z + 172 + 17, cellOf (Gz D cy z a v) M0 57 i) H
  exact (h9 _ _ (pX9_a17 (by omega)))
theorem hw58 (h8 : H8 D cy z H) (h9 : H9 D cy z H) {i : Nat} (hi : i < cnt 58) : va_at D vwCl (adr z 58 i, cellOf (Gz D cy z a v) M0 58 i) H := by
  have hi9 : i < 1 := hi
  show va_at D vwCl (z + 172 + 18, cellOf (Gz D cy z a v) M0 58 i) H
  exact (h9 _ _ (pX9_a18 (by omega)))
theorem hw59 (h8 : H8 D cy z H) (h9 : H9 D cy z H) {i : Nat} (hi : i < cnt 59) : va_at D vwCl (adr z 59 i, cellOf (Gz D cy z a v) M0 59 i) H := by
  have hi9 : i < 1 := hi
  show va_at D vwCl (z + 172 + 19, cellOf (Gz D cy z a v) M0 59 i) H
  exact (h9 _ _ (pX9_a19 (by omega)))
theorem hw60 (h8 : H8 D cy z H) (h9 : H9 D cy z H) {i : Nat} (hi : i < cnt 60) : va_at D vwCl (adr z 60 i, cellOf (Gz D cy z a v) M0 60 i) H := by
  have hi9 : i < 1 := hi
  show va_at D vwCl (z + 172 + 20, cellOf (Gz D cy z a v) M0 60 i) H
  exact (h9 _ _ (pX9_a20 (by omega)))
theorem hw61 (h8 : H8 D cy z H) (h9 : H9 D cy z H) {i : Nat} (hi : i < cnt 61) : va_at D vwCl (adr z 61 i, cellOf (Gz D cy z a v) M0 61 i) H := by
  have hi9 : i < 1 := hi
  show va_at D vwCl (z + 172 + 21, cellOf (Gz D cy z a v) M0 61 i) H
  exact (h9 _ _ (pX9_a21 (by omega)))
theorem hw62 (h8 : H8 D cy z H) (h9 : H9 D cy z H) {i : Nat} (hi : i < cnt 62) : va_at D vwCl (adr z 62 i, cellOf (Gz D cy z a v) M0 62 i) H := by
  have hi9 : i < 1 := hi
  show va_at D vwCl (z + 172 + 22, cellOf (Gz D cy z a v) M0 62 i) H
  exact (h9 _ _ (pX9_a22 (by omega)))
theorem hw63 (h8 : H8 D cy z H) (h9 : H9 D cy z H) {i : Nat} (hi : i < cnt 63) : va_at D vwCl (adr z 63 i, cellOf (Gz D cy z a v) M0 63 i) H := by
  have hi9 : i < 1 := hi
  show va_at D vwCl (z + 172 + 23, cellOf (Gz D cy z a v) M0 63 i) H
  exact (h9 _ _ (pX9_a23 (by omega)))
theorem hw64 (h8 : H8 D cy z H) (h9 : H9 D cy z H) {i : Nat} (hi : i < cnt 64) : va_at D vwCl (adr z 64 i, cellOf (Gz D cy z a v) M0 64 i) H := by
  have hi9 : i < 1 := hi
  show va_at D vwCl (z + 172 + 24, cellOf (Gz D cy z a v) M0 64 i) H
  exact (h9 _ _ (pX9_a24 (by omega)))
theorem hw65 (h8 : H8 D cy z H) (h9 : H9 D cy z H) {i : Nat} (hi : i < cnt 65) : va_at D vwCl (adr z 65 i, cellOf (Gz D cy z a v) M0 65 i) H := by
  have hi9 : i < 1 := hi
  show va_at D vwCl (z + 172 + 25, cellOf (Gz D cy z a v) M0 65 i) H
  exact (h9 _ _ (pX9_a25 (by omega)))
theorem hw_all (h8 : H8 D cy z H) (h9 : H9 D cy z H) : HW (Gz D cy z a v) M0 H := by
  intro f i hi
  show va_at D vwCl (adr z f i, cellOf (Gz D cy z a v) M0 f i) H
  exact (match f, i, hi with
  | 0, i, hi => hw0 h8 h9 hi
  | 1, i, hi => hw1 h8 h9 hi
  | 2, i, hi => hw2 h8 h9 hi
  | 3, i, hi => hw3 h8 h9 hi
  | 4, i, hi => hw4 h8 h9 hi
  | 5, i, hi => hw5 h8 h9 hi
  | 6, i, hi => hw6 h8 h9 hi
  | 7, i, hi => hw7 h8 h9 hi
  | 8, i, hi => hw8 h8 h9 hi
  | 9, i, hi => hw9 h8 h9 hi
  | 10, i, hi => hw10 h8 h9 hi
  | 11, i, hi => hw11 h8 h9 hi
  | 12, i, hi => hw12 h8 h9 hi
  | 13, i, hi => hw13 h8 h9 hi
  | 14, i, hi => hw14 h8 h9 hi
  | 15, i, hi => hw15 h8 h9 hi
  | 16, i, hi => hw16 h8 h9 hi
  | 17, i, hi => hw17 h8 h9 hi
  | 18, i, hi => hw18 h8 h9 hi
  | 19, i, hi => hw19 h8 h9 hi
  | 20, i, hi => hw20 h8 h9 hi
  | 21, i, hi => hw21 h8 h9 hi
  | 22, i, hi => hw22 h8 h9 hi
  | 23, i, hi => hw23 h8 h9 hi
  | 24, i, hi => hw24 h8 h9 hi
  | 25, i, hi => hw25 h8 h9 hi
  | 26, i, hi => hw26 h8 h9 hi
  | 27, i, hi => hw27 h8 h9 hi
  | 28, i, hi => hw28 h8 h9 hi
  | 29, i, hi => hw29 h8 h9 hi
  | 30, i, hi => hw30 h8 h9 hi
  | 31, i, hi => hw31 h8 h9 hi
  | 32, i, hi => hw32 h8 h9 hi
  | 33, i, hi => hw33 h8 h9 hi
  | 34, i, hi => hw34 h8 h9 hi
  | 35, i, hi => absurd hi (Nat.not_lt_zero i)
  | 36, i, hi => absurd hi (Nat.not_lt_zero i)
  | 37, i, hi => absurd hi (Nat.not_lt_zero i)
  | 38, i, hi => absurd hi (Nat.not_lt_zero i)
  | 39, i, hi => absurd hi (Nat.not_lt_zero i)
  | 40, i, hi => hw40 h8 h9 hi
  | 41, i, hi => hw41 h8 h9 hi
  | 42, i, hi => hw42 h8 h9 hi
  | 43, i, hi => hw43 h8 h9 hi
  | 44, i, hi => hw44 h8 h9 hi
  | 45, i, hi => hw45 h8 h9 hi
  | 46, i, hi => hw46 h8 h9 hi
  | 47, i, hi => hw47 h8 h9 hi
  | 48, i, hi => hw48 h8 h9 hi
  | 49, i, hi => hw49 h8 h9 hi
  | 50, i, hi => hw50 h8 h9 hi
  | 51, i, hi => hw51 h8 h9 hi
  | 52, i, hi => hw52 h8 h9 hi
  | 53, i, hi => hw53 h8 h9 hi
  | 54, i, hi => hw54 h8 h9 hi
  | 55, i, hi => hw55 h8 h9 hi
  | 56, i, hi => hw56 h8 h9 hi
  | 57, i, hi => hw57 h8 h9 hi
  | 58, i, hi => hw58 h8 h9 hi
  | 59, i, hi => hw59 h8 h9 hi
  | 60, i, hi => hw60 h8 h9 hi
  | 61, i, hi => hw61 h8 h9 hi
  | 62, i, hi => hw62 h8 h9 hi
  | 63, i, hi => hw63 h8 h9 hi
  | 64, i, hi => hw64 h8 h9 hi
  | 65, i, hi => hw65 h8 h9 hi
  | f + 66, i, hi => by have := cnt_lt hi; omega)
end HWM
theorem Inv_0 : Inv 0 M0 := by
  refine ⟨⟨by decide, by decide⟩, fun s hs => ?_, fun s hs => ⟨⟨by show (-1 : Int) ≤ -1; omega, by show (-1 : Int) ≤ 9; omega, fun _ => ⟨rfl, rfl⟩, fun h => absurd rfl h⟩, ⟨by show (0 : Int) ≤ 0; omega, by show (0 : Int) ≤ 8; omega, fun j hj => ?_⟩, ⟨by show (0 : Int) ≤ 0; omega, fun t => ?_⟩, fun _ => ⟨rfl, rfl, rfl, rfl, rfl, fun p hp => ⟨rfl, rfl⟩⟩⟩, fun p hp => ⟨by show (0 : Int) ≤ 0; omega, by show (0 : Int) ≤ 4; omega, fun j hj => ?_⟩, ⟨by decide, by decide⟩, fun a ha => ⟨⟨?_, ?_⟩, ⟨by show (0 : Int) ≤ 0; omega, fun t => ?_⟩⟩, ⟨by decide, by decide⟩, ⟨by decide, by decide⟩, fun r hr => ?_, ⟨by decide, by decide⟩, fun k hk => ?_, Or.inl rfl⟩
  · have h : (s : Int) < 0 := hs
    omega
  · have h : (j : Int) < 0 := hj
    omega
  · show (0 : Nat).testBit t = true ↔ ((s : Int) < 0 ∧ _)
    simp only [Nat.zero_testBit]
    constructor
    · intro h; cases h
    · intro h; have := h.1; omega
  · have h : (j : Int) < 0 := hj
    omega
  · show (1 : Int) ≤ if a < 6 then 1 else 0
    rw [if_pos ha]; omega
  · show (if a < 6 then (1 : Int) else 0) ≤ 9
    rw [if_pos ha]; omega
  · show (0 : Nat).testBit t = true ↔ ∃ s : Nat, (s : Int) < 0 ∧ _
    simp only [Nat.zero_testBit]
    constructor
    · intro h; cases h
    · rintro ⟨s, h, -⟩; omega
  · have h : (r : Int) < 0 := hr
    omega
  · have h : (k : Int) < 0 := hk
    omega
theorem MR_0 : MR M0 M0 := by
  refine ⟨⟨rfl, rfl, rfl, rfl, rfl, rfl⟩, fun k hk => rfl, fun s hs => ?_, fun s hs p hp => ⟨rfl, rfl⟩, fun s hs => ⟨?_, fun h => absurd rfl h⟩, fun s hs => ⟨rfl, fun j hj => ?_⟩, fun p hp => ⟨rfl, fun j hj => ?_⟩, fun p hp => rfl, fun k hk => ?_, fun r hr => ?_, fun k hk => ?_, fun k hk => ?_, fun k hk => rfl⟩
  · have h : (s : Int) < 0 := hs
    omega
  · show (if s < 14 then (-1 : Int) else 0) = -1
    rw [if_pos hs]
  · have h : (j : Int) < 0 := hj
    omega
  · have h : (j : Int) < 0 := hj
    omega
  · rfl
  · have h : (r : Int) < 0 := hr
    omega
  · have h : (k : Int) < 0 := hk
    omega
  · have h : (k : Int) < 0 := hk
    omega

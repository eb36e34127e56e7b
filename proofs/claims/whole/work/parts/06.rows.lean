/-! ===== one law an instruction ===== -/
theorem i32_rng {z : Int} (h1 : -2147483648 ≤ z) (h2 : z < 2147483648) : (Int32.ofInt z).toInt = z := Int32.toInt_ofInt_of_le (by omega) (by omega)
theorem i64_rng {z : Int} (h1 : -9223372036854775808 ≤ z) (h2 : z < 9223372036854775808) : (Int64.ofInt z).toInt = z := Int64.toInt_ofInt_of_le (by omega) (by omega)
theorem i32_lt {a b : Int} (h1 : -2147483648 ≤ a) (h2 : a < 2147483648) (h3 : -2147483648 ≤ b) (h4 : b < 2147483648) : Int32.ofInt a < Int32.ofInt b ↔ a < b := by rw [Int32.lt_iff_toInt_lt, i32_rng h1 h2, i32_rng h3 h4]
theorem i32_le {a b : Int} (h1 : -2147483648 ≤ a) (h2 : a < 2147483648) (h3 : -2147483648 ≤ b) (h4 : b < 2147483648) : Int32.ofInt a ≤ Int32.ofInt b ↔ a ≤ b := by rw [Int32.le_iff_toInt_le, i32_rng h1 h2, i32_rng h3 h4]
theorem i32_eq {a b : Int} (h1 : -2147483648 ≤ a) (h2 : a < 2147483648) (h3 : -2147483648 ≤ b) (h4 : b < 2147483648) : Int32.ofInt a = Int32.ofInt b ↔ a = b := by rw [← Int32.toInt_inj, i32_rng h1 h2, i32_rng h3 h4]
theorem i32_cl {a : Int} (h1 : 0 ≤ a) (h2 : a < 2147483648) : (Int32.ofInt a).toNatClampNeg = a.toNat := by
  show (Int32.ofInt a).toInt.toNat = a.toNat
  rw [i32_rng (by omega) h2]
theorem i32_in {a : Int} {n : Nat} (h1 : 0 ≤ a) (h2 : a < n) (hn : n ≤ 2147483647) : vp_in (Int32.ofInt a) n := by
  rw [vp_in_iff, i32_rng (by omega) (by omega)]
  exact ⟨h1, h2⟩

section ROWS
variable {G : Gx} {E : Fx} {cc : ByteArray} {own : String} {nL d pc pc2 tg : Nat} {L : List (Option Value)} {st : List Value} {M : Mem}
theorem J_iconst (X : Ok G E cc own nL d) {n : Int} (q : Ins cc pc 1 pc2 (.iconst n)) (k : J G E pc2 L (vi n :: st) M) : J G E pc L st M := by
  obtain ⟨p, l, e, R, s, m, args, below, meth, c, cells, slots, Q⟩ := E
  obtain ⟨hx, hb, hml, hown, hK, hR, hce, hsl⟩ := X
  obtain ⟨q1, rfl⟩ := q
  intro H locs ls hw hs hl
  exact lv_iconst hx hb q1 rfl (k H locs ls hw hs hl)
theorem J_bipush (X : Ok G E cc own nL d) {n : Int} (q : Ins cc pc 2 pc2 (.bipush n)) (hn : (Int8.ofInt n).toInt32 = Int32.ofInt n) (k : J G E pc2 L (vi n :: st) M) : J G E pc L st M := by
  obtain ⟨p, l, e, R, s, m, args, below, meth, c, cells, slots, Q⟩ := E
  obtain ⟨hx, hb, hml, hown, hK, hR, hce, hsl⟩ := X
  obtain ⟨q1, rfl⟩ := q
  intro H locs ls hw hs hl
  exact lv_bipush hx hb q1 (by simpa using hn) (k H locs ls hw hs hl)
theorem J_sipush (X : Ok G E cc own nL d) {n : Int} (q : Ins cc pc 3 pc2 (.sipush n)) (hn : (Int16.ofInt n).toInt32 = Int32.ofInt n) (k : J G E pc2 L (vi n :: st) M) : J G E pc L st M := by
  obtain ⟨p, l, e, R, s, m, args, below, meth, c, cells, slots, Q⟩ := E
  obtain ⟨hx, hb, hml, hown, hK, hR, hce, hsl⟩ := X
  obtain ⟨q1, rfl⟩ := q
  intro H locs ls hw hs hl
  exact lv_sipush hx hb q1 (by simpa using hn) (k H locs ls hw hs hl)
theorem J_ldc (X : Ok G E cc own nL d) {ix : Nat} {n : Int} (q : Ins cc pc 2 pc2 (.ldc ix)) (hn : Cond.constant own ix (Int32.ofInt n) ∈ lw_k) (k : J G E pc2 L (vi n :: st) M) : J G E pc L st M := by
  obtain ⟨p, l, e, R, s, m, args, below, meth, c, cells, slots, Q⟩ := E
  obtain ⟨hx, hb, hml, hown, hK, hR, hce, hsl⟩ := X
  obtain ⟨q1, rfl⟩ := q
  intro H locs ls hw hs hl
  exact lv_ldc hx hb hown (hK.w (List.mem_filter.mp hn).1 (List.mem_filter.mp hn).2 args) q1 (k H locs ls hw hs hl)
theorem J_ldc2 (X : Ok G E cc own nL d) {ix : Nat} {n : Int} (q : Ins cc pc 3 pc2 (.ldc2_w ix)) (hn : Cond.constantLong own ix (Int64.ofInt n) ∈ lw_k) (k : J G E pc2 L (vl n :: st) M) : J G E pc L st M := by
  obtain ⟨p, l, e, R, s, m, args, below, meth, c, cells, slots, Q⟩ := E
  obtain ⟨hx, hb, hml, hown, hK, hR, hce, hsl⟩ := X
  obtain ⟨q1, rfl⟩ := q
  intro H locs ls hw hs hl
  exact lv_ldc2 hx hb hown (hK.w (List.mem_filter.mp hn).1 (List.mem_filter.mp hn).2 args) q1 (k H locs ls hw hs hl)
theorem J_lconst0 (X : Ok G E cc own nL d)  (q : Ins cc pc 1 pc2 (.lconst 0)) (k : J G E pc2 L (vl 0 :: st) M) : J G E pc L st M := by
  obtain ⟨p, l, e, R, s, m, args, below, meth, c, cells, slots, Q⟩ := E
  obtain ⟨hx, hb, hml, hown, hK, hR, hce, hsl⟩ := X
  obtain ⟨q1, rfl⟩ := q
  intro H locs ls hw hs hl
  exact lv_lconst hx hb q1 rfl (k H locs ls hw hs hl)
theorem J_iload_0 (X : Ok G E cc own nL d) {z : Int} (q : Ins cc pc 1 pc2 (.iload_n 0)) (k : J G E pc2 (some (vi z) :: L) (vi z :: st) M) : J G E pc (some (vi z) :: L) st M := by
  obtain ⟨p, l, e, R, s, m, args, below, meth, c, cells, slots, Q⟩ := E
  obtain ⟨hx, hb, hml, hown, hK, hR, hce, hsl⟩ := X
  obtain ⟨q1, rfl⟩ := q
  intro H locs ls hw hs hl
  exact lv_iload_n hx hb q1 rfl (hl.2.2 0 _ rfl) (k H locs ls hw hs hl)
theorem J_iload_1 (X : Ok G E cc own nL d) {a0 : Option Value} {z : Int} (q : Ins cc pc 1 pc2 (.iload_n 1)) (k : J G E pc2 (a0 :: some (vi z) :: L) (vi z :: st) M) : J G E pc (a0 :: some (vi z) :: L) st M := by
  obtain ⟨p, l, e, R, s, m, args, below, meth, c, cells, slots, Q⟩ := E
  obtain ⟨hx, hb, hml, hown, hK, hR, hce, hsl⟩ := X
  obtain ⟨q1, rfl⟩ := q
  intro H locs ls hw hs hl
  exact lv_iload_n hx hb q1 rfl (hl.2.2 1 _ rfl) (k H locs ls hw hs hl)
theorem J_iload_2 (X : Ok G E cc own nL d) {a0 a1 : Option Value} {z : Int} (q : Ins cc pc 1 pc2 (.iload_n 2)) (k : J G E pc2 (a0 :: a1 :: some (vi z) :: L) (vi z :: st) M) : J G E pc (a0 :: a1 :: some (vi z) :: L) st M := by
  obtain ⟨p, l, e, R, s, m, args, below, meth, c, cells, slots, Q⟩ := E
  obtain ⟨hx, hb, hml, hown, hK, hR, hce, hsl⟩ := X
  obtain ⟨q1, rfl⟩ := q
  intro H locs ls hw hs hl
  exact lv_iload_n hx hb q1 rfl (hl.2.2 2 _ rfl) (k H locs ls hw hs hl)
theorem J_iload_3 (X : Ok G E cc own nL d) {a0 a1 a2 : Option Value} {z : Int} (q : Ins cc pc 1 pc2 (.iload_n 3)) (k : J G E pc2 (a0 :: a1 :: a2 :: some (vi z) :: L) (vi z :: st) M) : J G E pc (a0 :: a1 :: a2 :: some (vi z) :: L) st M := by
  obtain ⟨p, l, e, R, s, m, args, below, meth, c, cells, slots, Q⟩ := E
  obtain ⟨hx, hb, hml, hown, hK, hR, hce, hsl⟩ := X
  obtain ⟨q1, rfl⟩ := q
  intro H locs ls hw hs hl
  exact lv_iload_n hx hb q1 rfl (hl.2.2 3 _ rfl) (k H locs ls hw hs hl)
theorem J_iload_4 (X : Ok G E cc own nL d) {a0 a1 a2 a3 : Option Value} {z : Int} (q : Ins cc pc 2 pc2 (.iload 4)) (k : J G E pc2 (a0 :: a1 :: a2 :: a3 :: some (vi z) :: L) (vi z :: st) M) : J G E pc (a0 :: a1 :: a2 :: a3 :: some (vi z) :: L) st M := by
  obtain ⟨p, l, e, R, s, m, args, below, meth, c, cells, slots, Q⟩ := E
  obtain ⟨hx, hb, hml, hown, hK, hR, hce, hsl⟩ := X
  obtain ⟨q1, rfl⟩ := q
  intro H locs ls hw hs hl
  exact lv_iload hx hb q1 (hl.2.2 4 _ rfl) (k H locs ls hw hs hl)
theorem J_iload_5 (X : Ok G E cc own nL d) {a0 a1 a2 a3 a4 : Option Value} {z : Int} (q : Ins cc pc 2 pc2 (.iload 5)) (k : J G E pc2 (a0 :: a1 :: a2 :: a3 :: a4 :: some (vi z) :: L) (vi z :: st) M) : J G E pc (a0 :: a1 :: a2 :: a3 :: a4 :: some (vi z) :: L) st M := by
  obtain ⟨p, l, e, R, s, m, args, below, meth, c, cells, slots, Q⟩ := E
  obtain ⟨hx, hb, hml, hown, hK, hR, hce, hsl⟩ := X
  obtain ⟨q1, rfl⟩ := q
  intro H locs ls hw hs hl
  exact lv_iload hx hb q1 (hl.2.2 5 _ rfl) (k H locs ls hw hs hl)
theorem J_iload_6 (X : Ok G E cc own nL d) {a0 a1 a2 a3 a4 a5 : Option Value} {z : Int} (q : Ins cc pc 2 pc2 (.iload 6)) (k : J G E pc2 (a0 :: a1 :: a2 :: a3 :: a4 :: a5 :: some (vi z) :: L) (vi z :: st) M) : J G E pc (a0 :: a1 :: a2 :: a3 :: a4 :: a5 :: some (vi z) :: L) st M := by
  obtain ⟨p, l, e, R, s, m, args, below, meth, c, cells, slots, Q⟩ := E
  obtain ⟨hx, hb, hml, hown, hK, hR, hce, hsl⟩ := X
  obtain ⟨q1, rfl⟩ := q
  intro H locs ls hw hs hl
  exact lv_iload hx hb q1 (hl.2.2 6 _ rfl) (k H locs ls hw hs hl)
theorem J_iload_7 (X : Ok G E cc own nL d) {a0 a1 a2 a3 a4 a5 a6 : Option Value} {z : Int} (q : Ins cc pc 2 pc2 (.iload 7)) (k : J G E pc2 (a0 :: a1 :: a2 :: a3 :: a4 :: a5 :: a6 :: some (vi z) :: L) (vi z :: st) M) : J G E pc (a0 :: a1 :: a2 :: a3 :: a4 :: a5 :: a6 :: some (vi z) :: L) st M := by
  obtain ⟨p, l, e, R, s, m, args, below, meth, c, cells, slots, Q⟩ := E
  obtain ⟨hx, hb, hml, hown, hK, hR, hce, hsl⟩ := X
  obtain ⟨q1, rfl⟩ := q
  intro H locs ls hw hs hl
  exact lv_iload hx hb q1 (hl.2.2 7 _ rfl) (k H locs ls hw hs hl)
theorem J_iload_8 (X : Ok G E cc own nL d) {a0 a1 a2 a3 a4 a5 a6 a7 : Option Value} {z : Int} (q : Ins cc pc 2 pc2 (.iload 8)) (k : J G E pc2 (a0 :: a1 :: a2 :: a3 :: a4 :: a5 :: a6 :: a7 :: some (vi z) :: L) (vi z :: st) M) : J G E pc (a0 :: a1 :: a2 :: a3 :: a4 :: a5 :: a6 :: a7 :: some (vi z) :: L) st M := by
  obtain ⟨p, l, e, R, s, m, args, below, meth, c, cells, slots, Q⟩ := E
  obtain ⟨hx, hb, hml, hown, hK, hR, hce, hsl⟩ := X
  obtain ⟨q1, rfl⟩ := q
  intro H locs ls hw hs hl
  exact lv_iload hx hb q1 (hl.2.2 8 _ rfl) (k H locs ls hw hs hl)
theorem J_iload_9 (X : Ok G E cc own nL d) {a0 a1 a2 a3 a4 a5 a6 a7 a8 : Option Value} {z : Int} (q : Ins cc pc 2 pc2 (.iload 9)) (k : J G E pc2 (a0 :: a1 :: a2 :: a3 :: a4 :: a5 :: a6 :: a7 :: a8 :: some (vi z) :: L) (vi z :: st) M) : J G E pc (a0 :: a1 :: a2 :: a3 :: a4 :: a5 :: a6 :: a7 :: a8 :: some (vi z) :: L) st M := by
  obtain ⟨p, l, e, R, s, m, args, below, meth, c, cells, slots, Q⟩ := E
  obtain ⟨hx, hb, hml, hown, hK, hR, hce, hsl⟩ := X
  obtain ⟨q1, rfl⟩ := q
  intro H locs ls hw hs hl
  exact lv_iload hx hb q1 (hl.2.2 9 _ rfl) (k H locs ls hw hs hl)
theorem J_iload_10 (X : Ok G E cc own nL d) {a0 a1 a2 a3 a4 a5 a6 a7 a8 a9 : Option Value} {z : Int} (q : Ins cc pc 2 pc2 (.iload 10)) (k : J G E pc2 (a0 :: a1 :: a2 :: a3 :: a4 :: a5 :: a6 :: a7 :: a8 :: a9 :: some (vi z) :: L) (vi z :: st) M) : J G E pc (a0 :: a1 :: a2 :: a3 :: a4 :: a5 :: a6 :: a7 :: a8 :: a9 :: some (vi z) :: L) st M := by
  obtain ⟨p, l, e, R, s, m, args, below, meth, c, cells, slots, Q⟩ := E
  obtain ⟨hx, hb, hml, hown, hK, hR, hce, hsl⟩ := X
  obtain ⟨q1, rfl⟩ := q
  intro H locs ls hw hs hl
  exact lv_iload hx hb q1 (hl.2.2 10 _ rfl) (k H locs ls hw hs hl)
theorem J_iload_11 (X : Ok G E cc own nL d) {a0 a1 a2 a3 a4 a5 a6 a7 a8 a9 a10 : Option Value} {z : Int} (q : Ins cc pc 2 pc2 (.iload 11)) (k : J G E pc2 (a0 :: a1 :: a2 :: a3 :: a4 :: a5 :: a6 :: a7 :: a8 :: a9 :: a10 :: some (vi z) :: L) (vi z :: st) M) : J G E pc (a0 :: a1 :: a2 :: a3 :: a4 :: a5 :: a6 :: a7 :: a8 :: a9 :: a10 :: some (vi z) :: L) st M := by
  obtain ⟨p, l, e, R, s, m, args, below, meth, c, cells, slots, Q⟩ := E
  obtain ⟨hx, hb, hml, hown, hK, hR, hce, hsl⟩ := X
  obtain ⟨q1, rfl⟩ := q
  intro H locs ls hw hs hl
  exact lv_iload hx hb q1 (hl.2.2 11 _ rfl) (k H locs ls hw hs hl)
theorem J_iload_12 (X : Ok G E cc own nL d) {a0 a1 a2 a3 a4 a5 a6 a7 a8 a9 a10 a11 : Option Value} {z : Int} (q : Ins cc pc 2 pc2 (.iload 12)) (k : J G E pc2 (a0 :: a1 :: a2 :: a3 :: a4 :: a5 :: a6 :: a7 :: a8 :: a9 :: a10 :: a11 :: some (vi z) :: L) (vi z :: st) M) : J G E pc (a0 :: a1 :: a2 :: a3 :: a4 :: a5 :: a6 :: a7 :: a8 :: a9 :: a10 :: a11 :: some (vi z) :: L) st M := by
  obtain ⟨p, l, e, R, s, m, args, below, meth, c, cells, slots, Q⟩ := E
  obtain ⟨hx, hb, hml, hown, hK, hR, hce, hsl⟩ := X
  obtain ⟨q1, rfl⟩ := q
  intro H locs ls hw hs hl
  exact lv_iload hx hb q1 (hl.2.2 12 _ rfl) (k H locs ls hw hs hl)
theorem J_aload_0 (X : Ok G E cc own nL d) {z : Nat} (q : Ins cc pc 1 pc2 (.aload_n 0)) (k : J G E pc2 (some (.ref z) :: L) (.ref z :: st) M) : J G E pc (some (.ref z) :: L) st M := by
  obtain ⟨p, l, e, R, s, m, args, below, meth, c, cells, slots, Q⟩ := E
  obtain ⟨hx, hb, hml, hown, hK, hR, hce, hsl⟩ := X
  obtain ⟨q1, rfl⟩ := q
  intro H locs ls hw hs hl
  exact lv_aload_n hx hb q1 rfl (hl.2.2 0 _ rfl) (k H locs ls hw hs hl)
theorem J_aloadr_0 (X : Ok G E cc own nL d) {f i : Nat} (q : Ins cc pc 1 pc2 (.aload_n 0)) (k : J G E pc2 (some (rf G f i) :: L) (rf G f i :: st) M) : J G E pc (some (rf G f i) :: L) st M := J_aload_0 X q k
theorem J_aload_1 (X : Ok G E cc own nL d) {a0 : Option Value} {z : Nat} (q : Ins cc pc 1 pc2 (.aload_n 1)) (k : J G E pc2 (a0 :: some (.ref z) :: L) (.ref z :: st) M) : J G E pc (a0 :: some (.ref z) :: L) st M := by
  obtain ⟨p, l, e, R, s, m, args, below, meth, c, cells, slots, Q⟩ := E
  obtain ⟨hx, hb, hml, hown, hK, hR, hce, hsl⟩ := X
  obtain ⟨q1, rfl⟩ := q
  intro H locs ls hw hs hl
  exact lv_aload_n hx hb q1 rfl (hl.2.2 1 _ rfl) (k H locs ls hw hs hl)
theorem J_aloadr_1 (X : Ok G E cc own nL d) {a0 : Option Value} {f i : Nat} (q : Ins cc pc 1 pc2 (.aload_n 1)) (k : J G E pc2 (a0 :: some (rf G f i) :: L) (rf G f i :: st) M) : J G E pc (a0 :: some (rf G f i) :: L) st M := J_aload_1 X q k
theorem J_aload_2 (X : Ok G E cc own nL d) {a0 a1 : Option Value} {z : Nat} (q : Ins cc pc 1 pc2 (.aload_n 2)) (k : J G E pc2 (a0 :: a1 :: some (.ref z) :: L) (.ref z :: st) M) : J G E pc (a0 :: a1 :: some (.ref z) :: L) st M := by
  obtain ⟨p, l, e, R, s, m, args, below, meth, c, cells, slots, Q⟩ := E
  obtain ⟨hx, hb, hml, hown, hK, hR, hce, hsl⟩ := X
  obtain ⟨q1, rfl⟩ := q
  intro H locs ls hw hs hl
  exact lv_aload_n hx hb q1 rfl (hl.2.2 2 _ rfl) (k H locs ls hw hs hl)
theorem J_aloadr_2 (X : Ok G E cc own nL d) {a0 a1 : Option Value} {f i : Nat} (q : Ins cc pc 1 pc2 (.aload_n 2)) (k : J G E pc2 (a0 :: a1 :: some (rf G f i) :: L) (rf G f i :: st) M) : J G E pc (a0 :: a1 :: some (rf G f i) :: L) st M := J_aload_2 X q k
theorem J_aload_3 (X : Ok G E cc own nL d) {a0 a1 a2 : Option Value} {z : Nat} (q : Ins cc pc 1 pc2 (.aload_n 3)) (k : J G E pc2 (a0 :: a1 :: a2 :: some (.ref z) :: L) (.ref z :: st) M) : J G E pc (a0 :: a1 :: a2 :: some (.ref z) :: L) st M := by
  obtain ⟨p, l, e, R, s, m, args, below, meth, c, cells, slots, Q⟩ := E
  obtain ⟨hx, hb, hml, hown, hK, hR, hce, hsl⟩ := X
  obtain ⟨q1, rfl⟩ := q
  intro H locs ls hw hs hl
  exact lv_aload_n hx hb q1 rfl (hl.2.2 3 _ rfl) (k H locs ls hw hs hl)
theorem J_aloadr_3 (X : Ok G E cc own nL d) {a0 a1 a2 : Option Value} {f i : Nat} (q : Ins cc pc 1 pc2 (.aload_n 3)) (k : J G E pc2 (a0 :: a1 :: a2 :: some (rf G f i) :: L) (rf G f i :: st) M) : J G E pc (a0 :: a1 :: a2 :: some (rf G f i) :: L) st M := J_aload_3 X q k
theorem J_aload_4 (X : Ok G E cc own nL d) {a0 a1 a2 a3 : Option Value} {z : Nat} (q : Ins cc pc 2 pc2 (.aload 4)) (k : J G E pc2 (a0 :: a1 :: a2 :: a3 :: some (.ref z) :: L) (.ref z :: st) M) : J G E pc (a0 :: a1 :: a2 :: a3 :: some (.ref z) :: L) st M := by
  obtain ⟨p, l, e, R, s, m, args, below, meth, c, cells, slots, Q⟩ := E
  obtain ⟨hx, hb, hml, hown, hK, hR, hce, hsl⟩ := X
  obtain ⟨q1, rfl⟩ := q
  intro H locs ls hw hs hl
  exact lv_aload hx hb q1 (hl.2.2 4 _ rfl) (k H locs ls hw hs hl)
theorem J_aloadr_4 (X : Ok G E cc own nL d) {a0 a1 a2 a3 : Option Value} {f i : Nat} (q : Ins cc pc 2 pc2 (.aload 4)) (k : J G E pc2 (a0 :: a1 :: a2 :: a3 :: some (rf G f i) :: L) (rf G f i :: st) M) : J G E pc (a0 :: a1 :: a2 :: a3 :: some (rf G f i) :: L) st M := J_aload_4 X q k
theorem J_aload_5 (X : Ok G E cc own nL d) {a0 a1 a2 a3 a4 : Option Value} {z : Nat} (q : Ins cc pc 2 pc2 (.aload 5)) (k : J G E pc2 (a0 :: a1 :: a2 :: a3 :: a4 :: some (.ref z) :: L) (.ref z :: st) M) : J G E pc (a0 :: a1 :: a2 :: a3 :: a4 :: some (.ref z) :: L) st M := by
  obtain ⟨p, l, e, R, s, m, args, below, meth, c, cells, slots, Q⟩ := E
  obtain ⟨hx, hb, hml, hown, hK, hR, hce, hsl⟩ := X
  obtain ⟨q1, rfl⟩ := q
  intro H locs ls hw hs hl
  exact lv_aload hx hb q1 (hl.2.2 5 _ rfl) (k H locs ls hw hs hl)
theorem J_aloadr_5 (X : Ok G E cc own nL d) {a0 a1 a2 a3 a4 : Option Value} {f i : Nat} (q : Ins cc pc 2 pc2 (.aload 5)) (k : J G E pc2 (a0 :: a1 :: a2 :: a3 :: a4 :: some (rf G f i) :: L) (rf G f i :: st) M) : J G E pc (a0 :: a1 :: a2 :: a3 :: a4 :: some (rf G f i) :: L) st M := J_aload_5 X q k
theorem J_aload_6 (X : Ok G E cc own nL d) {a0 a1 a2 a3 a4 a5 : Option Value} {z : Nat} (q : Ins cc pc 2 pc2 (.aload 6)) (k : J G E pc2 (a0 :: a1 :: a2 :: a3 :: a4 :: a5 :: some (.ref z) :: L) (.ref z :: st) M) : J G E pc (a0 :: a1 :: a2 :: a3 :: a4 :: a5 :: some (.ref z) :: L) st M := by
  obtain ⟨p, l, e, R, s, m, args, below, meth, c, cells, slots, Q⟩ := E
  obtain ⟨hx, hb, hml, hown, hK, hR, hce, hsl⟩ := X
  obtain ⟨q1, rfl⟩ := q
  intro H locs ls hw hs hl
  exact lv_aload hx hb q1 (hl.2.2 6 _ rfl) (k H locs ls hw hs hl)
theorem J_aloadr_6 (X : Ok G E cc own nL d) {a0 a1 a2 a3 a4 a5 : Option Value} {f i : Nat} (q : Ins cc pc 2 pc2 (.aload 6)) (k : J G E pc2 (a0 :: a1 :: a2 :: a3 :: a4 :: a5 :: some (rf G f i) :: L) (rf G f i :: st) M) : J G E pc (a0 :: a1 :: a2 :: a3 :: a4 :: a5 :: some (rf G f i) :: L) st M := J_aload_6 X q k
theorem J_aload_7 (X : Ok G E cc own nL d) {a0 a1 a2 a3 a4 a5 a6 : Option Value} {z : Nat} (q : Ins cc pc 2 pc2 (.aload 7)) (k : J G E pc2 (a0 :: a1 :: a2 :: a3 :: a4 :: a5 :: a6 :: some (.ref z) :: L) (.ref z :: st) M) : J G E pc (a0 :: a1 :: a2 :: a3 :: a4 :: a5 :: a6 :: some (.ref z) :: L) st M := by
  obtain ⟨p, l, e, R, s, m, args, below, meth, c, cells, slots, Q⟩ := E
  obtain ⟨hx, hb, hml, hown, hK, hR, hce, hsl⟩ := X
  obtain ⟨q1, rfl⟩ := q
  intro H locs ls hw hs hl
  exact lv_aload hx hb q1 (hl.2.2 7 _ rfl) (k H locs ls hw hs hl)
theorem J_aloadr_7 (X : Ok G E cc own nL d) {a0 a1 a2 a3 a4 a5 a6 : Option Value} {f i : Nat} (q : Ins cc pc 2 pc2 (.aload 7)) (k : J G E pc2 (a0 :: a1 :: a2 :: a3 :: a4 :: a5 :: a6 :: some (rf G f i) :: L) (rf G f i :: st) M) : J G E pc (a0 :: a1 :: a2 :: a3 :: a4 :: a5 :: a6 :: some (rf G f i) :: L) st M := J_aload_7 X q k
theorem J_aload_8 (X : Ok G E cc own nL d) {a0 a1 a2 a3 a4 a5 a6 a7 : Option Value} {z : Nat} (q : Ins cc pc 2 pc2 (.aload 8)) (k : J G E pc2 (a0 :: a1 :: a2 :: a3 :: a4 :: a5 :: a6 :: a7 :: some (.ref z) :: L) (.ref z :: st) M) : J G E pc (a0 :: a1 :: a2 :: a3 :: a4 :: a5 :: a6 :: a7 :: some (.ref z) :: L) st M := by
  obtain ⟨p, l, e, R, s, m, args, below, meth, c, cells, slots, Q⟩ := E
  obtain ⟨hx, hb, hml, hown, hK, hR, hce, hsl⟩ := X
  obtain ⟨q1, rfl⟩ := q
  intro H locs ls hw hs hl
  exact lv_aload hx hb q1 (hl.2.2 8 _ rfl) (k H locs ls hw hs hl)
theorem J_aloadr_8 (X : Ok G E cc own nL d) {a0 a1 a2 a3 a4 a5 a6 a7 : Option Value} {f i : Nat} (q : Ins cc pc 2 pc2 (.aload 8)) (k : J G E pc2 (a0 :: a1 :: a2 :: a3 :: a4 :: a5 :: a6 :: a7 :: some (rf G f i) :: L) (rf G f i :: st) M) : J G E pc (a0 :: a1 :: a2 :: a3 :: a4 :: a5 :: a6 :: a7 :: some (rf G f i) :: L) st M := J_aload_8 X q k
theorem J_aload_9 (X : Ok G E cc own nL d) {a0 a1 a2 a3 a4 a5 a6 a7 a8 : Option Value} {z : Nat} (q : Ins cc pc 2 pc2 (.aload 9)) (k : J G E pc2 (a0 :: a1 :: a2 :: a3 :: a4 :: a5 :: a6 :: a7 :: a8 :: some (.ref z) :: L) (.ref z :: st) M) : J G E pc (a0 :: a1 :: a2 :: a3 :: a4 :: a5 :: a6 :: a7 :: a8 :: some (.ref z) :: L) st M := by
  obtain ⟨p, l, e, R, s, m, args, below, meth, c, cells, slots, Q⟩ := E
  obtain ⟨hx, hb, hml, hown, hK, hR, hce, hsl⟩ := X
  obtain ⟨q1, rfl⟩ := q
  intro H locs ls hw hs hl
  exact lv_aload hx hb q1 (hl.2.2 9 _ rfl) (k H locs ls hw hs hl)
theorem J_aloadr_9 (X : Ok G E cc own nL d) {a0 a1 a2 a3 a4 a5 a6 a7 a8 : Option Value} {f i : Nat} (q : Ins cc pc 2 pc2 (.aload 9)) (k : J G E pc2 (a0 :: a1 :: a2 :: a3 :: a4 :: a5 :: a6 :: a7 :: a8 :: some (rf G f i) :: L) (rf G f i :: st) M) : J G E pc (a0 :: a1 :: a2 :: a3 :: a4 :: a5 :: a6 :: a7 :: a8 :: some (rf G f i) :: L) st M := J_aload_9 X q k
theorem J_aload_10 (X : Ok G E cc own nL d) {a0 a1 a2 a3 a4 a5 a6 a7 a8 a9 : Option Value} {z : Nat} (q : Ins cc pc 2 pc2 (.aload 10)) (k : J G E pc2 (a0 :: a1 :: a2 :: a3 :: a4 :: a5 :: a6 :: a7 :: a8 :: a9 :: some (.ref z) :: L) (.ref z :: st) M) : J G E pc (a0 :: a1 :: a2 :: a3 :: a4 :: a5 :: a6 :: a7 :: a8 :: a9 :: some (.ref z) :: L) st M := by
  obtain ⟨p, l, e, R, s, m, args, below, meth, c, cells, slots, Q⟩ := E
  obtain ⟨hx, hb, hml, hown, hK, hR, hce, hsl⟩ := X
  obtain ⟨q1, rfl⟩ := q
  intro H locs ls hw hs hl
  exact lv_aload hx hb q1 (hl.2.2 10 _ rfl) (k H locs ls hw hs hl)
theorem J_aloadr_10 (X : Ok G E cc own nL d) {a0 a1 a2 a3 a4 a5 a6 a7 a8 a9 : Option Value} {f i : Nat} (q : Ins cc pc 2 pc2 (.aload 10)) (k : J G E pc2 (a0 :: a1 :: a2 :: a3 :: a4 :: a5 :: a6 :: a7 :: a8 :: a9 :: some (rf G f i) :: L) (rf G f i :: st) M) : J G E pc (a0 :: a1 :: a2 :: a3 :: a4 :: a5 :: a6 :: a7 :: a8 :: a9 :: some (rf G f i) :: L) st M := J_aload_10 X q k
theorem J_aload_11 (X : Ok G E cc own nL d) {a0 a1 a2 a3 a4 a5 a6 a7 a8 a9 a10 : Option Value} {z : Nat} (q : Ins cc pc 2 pc2 (.aload 11)) (k : J G E pc2 (a0 :: a1 :: a2 :: a3 :: a4 :: a5 :: a6 :: a7 :: a8 :: a9 :: a10 :: some (.ref z) :: L) (.ref z :: st) M) : J G E pc (a0 :: a1 :: a2 :: a3 :: a4 :: a5 :: a6 :: a7 :: a8 :: a9 :: a10 :: some (.ref z) :: L) st M := by
  obtain ⟨p, l, e, R, s, m, args, below, meth, c, cells, slots, Q⟩ := E
  obtain ⟨hx, hb, hml, hown, hK, hR, hce, hsl⟩ := X
  obtain ⟨q1, rfl⟩ := q
  intro H locs ls hw hs hl
  exact lv_aload hx hb q1 (hl.2.2 11 _ rfl) (k H locs ls hw hs hl)
theorem J_aloadr_11 (X : Ok G E cc own nL d) {a0 a1 a2 a3 a4 a5 a6 a7 a8 a9 a10 : Option Value} {f i : Nat} (q : Ins cc pc 2 pc2 (.aload 11)) (k : J G E pc2 (a0 :: a1 :: a2 :: a3 :: a4 :: a5 :: a6 :: a7 :: a8 :: a9 :: a10 :: some (rf G f i) :: L) (rf G f i :: st) M) : J G E pc (a0 :: a1 :: a2 :: a3 :: a4 :: a5 :: a6 :: a7 :: a8 :: a9 :: a10 :: some (rf G f i) :: L) st M := J_aload_11 X q k
theorem J_aload_12 (X : Ok G E cc own nL d) {a0 a1 a2 a3 a4 a5 a6 a7 a8 a9 a10 a11 : Option Value} {z : Nat} (q : Ins cc pc 2 pc2 (.aload 12)) (k : J G E pc2 (a0 :: a1 :: a2 :: a3 :: a4 :: a5 :: a6 :: a7 :: a8 :: a9 :: a10 :: a11 :: some (.ref z) :: L) (.ref z :: st) M) : J G E pc (a0 :: a1 :: a2 :: a3 :: a4 :: a5 :: a6 :: a7 :: a8 :: a9 :: a10 :: a11 :: some (.ref z) :: L) st M := by
  obtain ⟨p, l, e, R, s, m, args, below, meth, c, cells, slots, Q⟩ := E
  obtain ⟨hx, hb, hml, hown, hK, hR, hce, hsl⟩ := X
  obtain ⟨q1, rfl⟩ := q
  intro H locs ls hw hs hl
  exact lv_aload hx hb q1 (hl.2.2 12 _ rfl) (k H locs ls hw hs hl)
theorem J_aloadr_12 (X : Ok G E cc own nL d) {a0 a1 a2 a3 a4 a5 a6 a7 a8 a9 a10 a11 : Option Value} {f i : Nat} (q : Ins cc pc 2 pc2 (.aload 12)) (k : J G E pc2 (a0 :: a1 :: a2 :: a3 :: a4 :: a5 :: a6 :: a7 :: a8 :: a9 :: a10 :: a11 :: some (rf G f i) :: L) (rf G f i :: st) M) : J G E pc (a0 :: a1 :: a2 :: a3 :: a4 :: a5 :: a6 :: a7 :: a8 :: a9 :: a10 :: a11 :: some (rf G f i) :: L) st M := J_aload_12 X q k
theorem J_lload_2 (X : Ok G E cc own nL d) {a0 a1 : Option Value} {z : Int} (q : Ins cc pc 1 pc2 (.lload_n 2)) (k : J G E pc2 (a0 :: a1 :: some (vl z) :: L) (vl z :: st) M) : J G E pc (a0 :: a1 :: some (vl z) :: L) st M := by
  obtain ⟨p, l, e, R, s, m, args, below, meth, c, cells, slots, Q⟩ := E
  obtain ⟨hx, hb, hml, hown, hK, hR, hce, hsl⟩ := X
  obtain ⟨q1, rfl⟩ := q
  intro H locs ls hw hs hl
  exact lv_lload_n hx hb q1 rfl (hl.2.2 2 _ rfl) (k H locs ls hw hs hl)
theorem LH_pairs {ls : Array Slot} {L : List (Option Value)} (h : LH ls L) : lv_has ls L.length ((List.range L.length).filterMap (fun k => (L.getD k none).map (fun v => (k, v)))) := by
  refine ⟨h.1, h.2.1, fun q hq => ?_⟩
  obtain ⟨k, -, hk⟩ := List.mem_filterMap.mp hq
  cases hv : L.getD k none with
  | none => rw [hv] at hk; cases hk
  | some v =>
    rw [hv] at hk
    cases hk
    refine h.2.2 k v ?_
    rw [List.getD_eq_getElem?_getD] at hv
    cases h2 : L[k]? with
    | none => rw [h2] at hv; cases hv
    | some w => rw [h2] at hv; exact congrArg some hv
theorem LH_set {ls' : Array Slot} {L : List (Option Value)} {i : Nat} {v : Value} (hi : i < L.length) (hno : ∀ (k : Nat) (w : Value), L[k]? = some (some w) → k + 1 = i → w.category = 1) (h : lv_has ls' L.length ((i, v) :: ((List.range L.length).filterMap (fun k => (L.getD k none).map (fun v => (k, v)))).filter (fun q => !(q.1 == i) && !(q.1 + 1 == i && q.2.category == 2)))) : LH ls' (L.set i (some v)) := by
  refine ⟨by rw [List.length_set]; exact h.1, h.2.1, fun k w hk => ?_⟩
  by_cases e : k = i
  · subst e
    rw [List.getElem?_set_self hi] at hk
    cases hk
    exact h.2.2 _ List.mem_cons_self
  · rw [List.getElem?_set_ne (fun q => e q.symm)] at hk
    refine h.2.2 (k, w) (List.mem_cons_of_mem _ (List.mem_filter.mpr ⟨?_, ?_⟩))
    · refine List.mem_filterMap.mpr ⟨k, List.mem_range.mpr (List.getElem?_eq_some_iff.mp hk).1, ?_⟩
      rw [List.getD_eq_getElem?_getD, hk]
      rfl
    · have h3 : (k == i) = false := by simpa using e
      by_cases h4 : k + 1 = i
      · simp [e, hno k w hk h4]
      · simp [e, h4]
def okc (x : Option Value) : Bool := match x with
  | none => true
  | some w => w.category == 1
theorem LH_cat {L : List (Option Value)} (i : Nat) (h : i = 0 ∨ okc (L.getD (i - 1) none) = true) : ∀ (k : Nat) (w : Value), L[k]? = some (some w) → k + 1 = i → w.category = 1 := by
  intro k w hk e
  subst e
  rcases h with h | h
  · omega
  · simp only [Nat.add_sub_cancel, List.getD_eq_getElem?_getD, hk, okc, Option.getD_some] at h
    simpa using h
theorem J_istore {ii : Nat} (X : Ok G E cc own nL d) {z : Int} (hi : ii < L.length) (hno : ∀ (k : Nat) (w : Value), L[k]? = some (some w) → k + 1 = ii → w.category = 1) (hq : (∃ k : Fin 4, (k : Nat) = ii ∧ Ins cc pc 1 pc2 (.istore_n k)) ∨ Ins cc pc 2 pc2 (.istore ii)) (k : J G E pc2 (L.set ii (some (vi z))) st M) : J G E pc L (vi z :: st) M := by
  obtain ⟨p, l, e, R, s, m, args, below, meth, c, cells, slots, Q⟩ := E
  obtain ⟨hx, hb, hml, hown, hK, hR, hce, hsl⟩ := X
  intro H locs ls hw hs hl
  rcases hq with ⟨kf, hk, q1, rfl⟩ | ⟨q1, rfl⟩
  · exact lv_istore_n hx hb q1 hk (LH_pairs hl) hi rfl (fun ls' h' => k H locs ls' hw hs (LH_set hi hno h'))
  · exact lv_istore hx hb q1 (LH_pairs hl) hi rfl (fun ls' h' => k H locs ls' hw hs (LH_set hi hno h'))
theorem J_astore {ii : Nat} (X : Ok G E cc own nL d) {z : Nat} (hi : ii < L.length) (hno : ∀ (k : Nat) (w : Value), L[k]? = some (some w) → k + 1 = ii → w.category = 1) (hq : (∃ k : Fin 4, (k : Nat) = ii ∧ Ins cc pc 1 pc2 (.astore_n k)) ∨ Ins cc pc 2 pc2 (.astore ii)) (k : J G E pc2 (L.set ii (some (.ref z))) st M) : J G E pc L (.ref z :: st) M := by
  obtain ⟨p, l, e, R, s, m, args, below, meth, c, cells, slots, Q⟩ := E
  obtain ⟨hx, hb, hml, hown, hK, hR, hce, hsl⟩ := X
  intro H locs ls hw hs hl
  rcases hq with ⟨kf, hk, q1, rfl⟩ | ⟨q1, rfl⟩
  · exact lv_astore_n hx hb q1 hk (LH_pairs hl) hi rfl (fun ls' h' => k H locs ls' hw hs (LH_set hi hno h'))
  · exact lv_astore hx hb q1 (LH_pairs hl) hi rfl (fun ls' h' => k H locs ls' hw hs (LH_set hi hno h'))
theorem J_iinc {ii : Nat} (X : Ok G E cc own nL d) {z n : Int} (hi : ii < L.length) (hno : ∀ (k : Nat) (w : Value), L[k]? = some (some w) → k + 1 = ii → w.category = 1) (hz : L[ii]? = some (some (vi z))) (q : Ins cc pc 3 pc2 (.iinc ii n)) (k : J G E pc2 (L.set ii (some (vi (z + n)))) st M) : J G E pc L st M := by
  obtain ⟨p, l, e, R, s, m, args, below, meth, c, cells, slots, Q⟩ := E
  obtain ⟨hx, hb, hml, hown, hK, hR, hce, hsl⟩ := X
  obtain ⟨q1, rfl⟩ := q
  intro H locs ls hw hs hl
  have hp := LH_pairs hl
  have hm : (ii, vi z) ∈ (List.range L.length).filterMap (fun k => (L.getD k none).map (fun v => (k, v))) := by
    refine List.mem_filterMap.mpr ⟨ii, List.mem_range.mpr hi, ?_⟩
    rw [List.getD_eq_getElem?_getD, hz]
    rfl
  obtain ⟨kk, hkk⟩ := List.getElem?_of_mem hm
  exact lv_iinc hx hb q1 hp hkk (Int32.ofInt_add z n).symm hi rfl (fun ls' h' => k H locs ls' hw hs (LH_set hi hno h'))
theorem J_istore_0 (X : Ok G E cc own nL d) {x : Option Value} {z : Int} (q : Ins cc pc 1 pc2 (.istore_n 0)) (k : J G E pc2 (some (vi z) :: L) st M) : J G E pc (x :: L) (vi z :: st) M := J_istore X (by simp) (LH_cat 0 (Or.inl rfl)) (Or.inl ⟨0, rfl, q⟩) k
theorem J_astore_0 (X : Ok G E cc own nL d) {x : Option Value} {f i : Nat} (q : Ins cc pc 1 pc2 (.astore_n 0)) (k : J G E pc2 (some (rf G f i) :: L) st M) : J G E pc (x :: L) (rf G f i :: st) M := J_astore X (by simp) (LH_cat 0 (Or.inl rfl)) (Or.inl ⟨0, rfl, q⟩) k
theorem J_iinc_0 (X : Ok G E cc own nL d) {z n : Int} (q : Ins cc pc 3 pc2 (.iinc 0 n)) (k : J G E pc2 (some (vi (z + n)) :: L) st M) : J G E pc (some (vi z) :: L) st M := J_iinc X (by simp) (LH_cat 0 (Or.inl rfl)) rfl q k
theorem J_istore_1 (X : Ok G E cc own nL d) {a0 : Option Value} {x : Option Value} {z : Int} (q : Ins cc pc 1 pc2 (.istore_n 1)) (hc : okc a0 = true) (k : J G E pc2 (a0 :: some (vi z) :: L) st M) : J G E pc (a0 :: x :: L) (vi z :: st) M := J_istore X (by simp) (LH_cat 1 (Or.inr hc)) (Or.inl ⟨1, rfl, q⟩) k
theorem J_astore_1 (X : Ok G E cc own nL d) {a0 : Option Value} {x : Option Value} {f i : Nat} (q : Ins cc pc 1 pc2 (.astore_n 1)) (hc : okc a0 = true) (k : J G E pc2 (a0 :: some (rf G f i) :: L) st M) : J G E pc (a0 :: x :: L) (rf G f i :: st) M := J_astore X (by simp) (LH_cat 1 (Or.inr hc)) (Or.inl ⟨1, rfl, q⟩) k
theorem J_iinc_1 (X : Ok G E cc own nL d) {a0 : Option Value} {z n : Int} (q : Ins cc pc 3 pc2 (.iinc 1 n)) (hc : okc a0 = true) (k : J G E pc2 (a0 :: some (vi (z + n)) :: L) st M) : J G E pc (a0 :: some (vi z) :: L) st M := J_iinc X (by simp) (LH_cat 1 (Or.inr hc)) rfl q k
theorem J_istore_2 (X : Ok G E cc own nL d) {a0 a1 : Option Value} {x : Option Value} {z : Int} (q : Ins cc pc 1 pc2 (.istore_n 2)) (hc : okc a1 = true) (k : J G E pc2 (a0 :: a1 :: some (vi z) :: L) st M) : J G E pc (a0 :: a1 :: x :: L) (vi z :: st) M := J_istore X (by simp) (LH_cat 2 (Or.inr hc)) (Or.inl ⟨2, rfl, q⟩) k
theorem J_astore_2 (X : Ok G E cc own nL d) {a0 a1 : Option Value} {x : Option Value} {f i : Nat} (q : Ins cc pc 1 pc2 (.astore_n 2)) (hc : okc a1 = true) (k : J G E pc2 (a0 :: a1 :: some (rf G f i) :: L) st M) : J G E pc (a0 :: a1 :: x :: L) (rf G f i :: st) M := J_astore X (by simp) (LH_cat 2 (Or.inr hc)) (Or.inl ⟨2, rfl, q⟩) k
theorem J_iinc_2 (X : Ok G E cc own nL d) {a0 a1 : Option Value} {z n : Int} (q : Ins cc pc 3 pc2 (.iinc 2 n)) (hc : okc a1 = true) (k : J G E pc2 (a0 :: a1 :: some (vi (z + n)) :: L) st M) : J G E pc (a0 :: a1 :: some (vi z) :: L) st M := J_iinc X (by simp) (LH_cat 2 (Or.inr hc)) rfl q k
theorem J_istore_3 (X : Ok G E cc own nL d) {a0 a1 a2 : Option Value} {x : Option Value} {z : Int} (q : Ins cc pc 1 pc2 (.istore_n 3)) (hc : okc a2 = true) (k : J G E pc2 (a0 :: a1 :: a2 :: some (vi z) :: L) st M) : J G E pc (a0 :: a1 :: a2 :: x :: L) (vi z :: st) M := J_istore X (by simp) (LH_cat 3 (Or.inr hc)) (Or.inl ⟨3, rfl, q⟩) k
theorem J_astore_3 (X : Ok G E cc own nL d) {a0 a1 a2 : Option Value} {x : Option Value} {f i : Nat} (q : Ins cc pc 1 pc2 (.astore_n 3)) (hc : okc a2 = true) (k : J G E pc2 (a0 :: a1 :: a2 :: some (rf G f i) :: L) st M) : J G E pc (a0 :: a1 :: a2 :: x :: L) (rf G f i :: st) M := J_astore X (by simp) (LH_cat 3 (Or.inr hc)) (Or.inl ⟨3, rfl, q⟩) k
theorem J_iinc_3 (X : Ok G E cc own nL d) {a0 a1 a2 : Option Value} {z n : Int} (q : Ins cc pc 3 pc2 (.iinc 3 n)) (hc : okc a2 = true) (k : J G E pc2 (a0 :: a1 :: a2 :: some (vi (z + n)) :: L) st M) : J G E pc (a0 :: a1 :: a2 :: some (vi z) :: L) st M := J_iinc X (by simp) (LH_cat 3 (Or.inr hc)) rfl q k
theorem J_istore_4 (X : Ok G E cc own nL d) {a0 a1 a2 a3 : Option Value} {x : Option Value} {z : Int} (q : Ins cc pc 2 pc2 (.istore 4)) (hc : okc a3 = true) (k : J G E pc2 (a0 :: a1 :: a2 :: a3 :: some (vi z) :: L) st M) : J G E pc (a0 :: a1 :: a2 :: a3 :: x :: L) (vi z :: st) M := J_istore X (by simp) (LH_cat 4 (Or.inr hc)) (Or.inr q) k
theorem J_astore_4 (X : Ok G E cc own nL d) {a0 a1 a2 a3 : Option Value} {x : Option Value} {f i : Nat} (q : Ins cc pc 2 pc2 (.astore 4)) (hc : okc a3 = true) (k : J G E pc2 (a0 :: a1 :: a2 :: a3 :: some (rf G f i) :: L) st M) : J G E pc (a0 :: a1 :: a2 :: a3 :: x :: L) (rf G f i :: st) M := J_astore X (by simp) (LH_cat 4 (Or.inr hc)) (Or.inr q) k
theorem J_iinc_4 (X : Ok G E cc own nL d) {a0 a1 a2 a3 : Option Value} {z n : Int} (q : Ins cc pc 3 pc2 (.iinc 4 n)) (hc : okc a3 = true) (k : J G E pc2 (a0 :: a1 :: a2 :: a3 :: some (vi (z + n)) :: L) st M) : J G E pc (a0 :: a1 :: a2 :: a3 :: some (vi z) :: L) st M := J_iinc X (by simp) (LH_cat 4 (Or.inr hc)) rfl q k
theorem J_istore_5 (X : Ok G E cc own nL d) {a0 a1 a2 a3 a4 : Option Value} {x : Option Value} {z : Int} (q : Ins cc pc 2 pc2 (.istore 5)) (hc : okc a4 = true) (k : J G E pc2 (a0 :: a1 :: a2 :: a3 :: a4 :: some (vi z) :: L) st M) : J G E pc (a0 :: a1 :: a2 :: a3 :: a4 :: x :: L) (vi z :: st) M := J_istore X (by simp) (LH_cat 5 (Or.inr hc)) (Or.inr q) k
theorem J_astore_5 (X : Ok G E cc own nL d) {a0 a1 a2 a3 a4 : Option Value} {x : Option Value} {f i : Nat} (q : Ins cc pc 2 pc2 (.astore 5)) (hc : okc a4 = true) (k : J G E pc2 (a0 :: a1 :: a2 :: a3 :: a4 :: some (rf G f i) :: L) st M) : J G E pc (a0 :: a1 :: a2 :: a3 :: a4 :: x :: L) (rf G f i :: st) M := J_astore X (by simp) (LH_cat 5 (Or.inr hc)) (Or.inr q) k
theorem J_iinc_5 (X : Ok G E cc own nL d) {a0 a1 a2 a3 a4 : Option Value} {z n : Int} (q : Ins cc pc 3 pc2 (.iinc 5 n)) (hc : okc a4 = true) (k : J G E pc2 (a0 :: a1 :: a2 :: a3 :: a4 :: some (vi (z + n)) :: L) st M) : J G E pc (a0 :: a1 :: a2 :: a3 :: a4 :: some (vi z) :: L) st M := J_iinc X (by simp) (LH_cat 5 (Or.inr hc)) rfl q k
theorem J_istore_6 (X : Ok G E cc own nL d) {a0 a1 a2 a3 a4 a5 : Option Value} {x : Option Value} {z : Int} (q : Ins cc pc 2 pc2 (.istore 6)) (hc : okc a5 = true) (k : J G E pc2 (a0 :: a1 :: a2 :: a3 :: a4 :: a5 :: some (vi z) :: L) st M) : J G E pc (a0 :: a1 :: a2 :: a3 :: a4 :: a5 :: x :: L) (vi z :: st) M := J_istore X (by simp) (LH_cat 6 (Or.inr hc)) (Or.inr q) k
theorem J_astore_6 (X : Ok G E cc own nL d) {a0 a1 a2 a3 a4 a5 : Option Value} {x : Option Value} {f i : Nat} (q : Ins cc pc 2 pc2 (.astore 6)) (hc : okc a5 = true) (k : J G E pc2 (a0 :: a1 :: a2 :: a3 :: a4 :: a5 :: some (rf G f i) :: L) st M) : J G E pc (a0 :: a1 :: a2 :: a3 :: a4 :: a5 :: x :: L) (rf G f i :: st) M := J_astore X (by simp) (LH_cat 6 (Or.inr hc)) (Or.inr q) k
theorem J_iinc_6 (X : Ok G E cc own nL d) {a0 a1 a2 a3 a4 a5 : Option Value} {z n : Int} (q : Ins cc pc 3 pc2 (.iinc 6 n)) (hc : okc a5 = true) (k : J G E pc2 (a0 :: a1 :: a2 :: a3 :: a4 :: a5 :: some (vi (z + n)) :: L) st M) : J G E pc (a0 :: a1 :: a2 :: a3 :: a4 :: a5 :: some (vi z) :: L) st M := J_iinc X (by simp) (LH_cat 6 (Or.inr hc)) rfl q k
theorem J_istore_7 (X : Ok G E cc own nL d) {a0 a1 a2 a3 a4 a5 a6 : Option Value} {x : Option Value} {z : Int} (q : Ins cc pc 2 pc2 (.istore 7)) (hc : okc a6 = true) (k : J G E pc2 (a0 :: a1 :: a2 :: a3 :: a4 :: a5 :: a6 :: some (vi z) :: L) st M) : J G E pc (a0 :: a1 :: a2 :: a3 :: a4 :: a5 :: a6 :: x :: L) (vi z :: st) M := J_istore X (by simp) (LH_cat 7 (Or.inr hc)) (Or.inr q) k
theorem J_astore_7 (X : Ok G E cc own nL d) {a0 a1 a2 a3 a4 a5 a6 : Option Value} {x : Option Value} {f i : Nat} (q : Ins cc pc 2 pc2 (.astore 7)) (hc : okc a6 = true) (k : J G E pc2 (a0 :: a1 :: a2 :: a3 :: a4 :: a5 :: a6 :: some (rf G f i) :: L) st M) : J G E pc (a0 :: a1 :: a2 :: a3 :: a4 :: a5 :: a6 :: x :: L) (rf G f i :: st) M := J_astore X (by simp) (LH_cat 7 (Or.inr hc)) (Or.inr q) k
theorem J_iinc_7 (X : Ok G E cc own nL d) {a0 a1 a2 a3 a4 a5 a6 : Option Value} {z n : Int} (q : Ins cc pc 3 pc2 (.iinc 7 n)) (hc : okc a6 = true) (k : J G E pc2 (a0 :: a1 :: a2 :: a3 :: a4 :: a5 :: a6 :: some (vi (z + n)) :: L) st M) : J G E pc (a0 :: a1 :: a2 :: a3 :: a4 :: a5 :: a6 :: some (vi z) :: L) st M := J_iinc X (by simp) (LH_cat 7 (Or.inr hc)) rfl q k
theorem J_istore_8 (X : Ok G E cc own nL d) {a0 a1 a2 a3 a4 a5 a6 a7 : Option Value} {x : Option Value} {z : Int} (q : Ins cc pc 2 pc2 (.istore 8)) (hc : okc a7 = true) (k : J G E pc2 (a0 :: a1 :: a2 :: a3 :: a4 :: a5 :: a6 :: a7 :: some (vi z) :: L) st M) : J G E pc (a0 :: a1 :: a2 :: a3 :: a4 :: a5 :: a6 :: a7 :: x :: L) (vi z :: st) M := J_istore X (by simp) (LH_cat 8 (Or.inr hc)) (Or.inr q) k
theorem J_astore_8 (X : Ok G E cc own nL d) {a0 a1 a2 a3 a4 a5 a6 a7 : Option Value} {x : Option Value} {f i : Nat} (q : Ins cc pc 2 pc2 (.astore 8)) (hc : okc a7 = true) (k : J G E pc2 (a0 :: a1 :: a2 :: a3 :: a4 :: a5 :: a6 :: a7 :: some (rf G f i) :: L) st M) : J G E pc (a0 :: a1 :: a2 :: a3 :: a4 :: a5 :: a6 :: a7 :: x :: L) (rf G f i :: st) M := J_astore X (by simp) (LH_cat 8 (Or.inr hc)) (Or.inr q) k
theorem J_iinc_8 (X : Ok G E cc own nL d) {a0 a1 a2 a3 a4 a5 a6 a7 : Option Value} {z n : Int} (q : Ins cc pc 3 pc2 (.iinc 8 n)) (hc : okc a7 = true) (k : J G E pc2 (a0 :: a1 :: a2 :: a3 :: a4 :: a5 :: a6 :: a7 :: some (vi (z + n)) :: L) st M) : J G E pc (a0 :: a1 :: a2 :: a3 :: a4 :: a5 :: a6 :: a7 :: some (vi z) :: L) st M := J_iinc X (by simp) (LH_cat 8 (Or.inr hc)) rfl q k
theorem J_istore_9 (X : Ok G E cc own nL d) {a0 a1 a2 a3 a4 a5 a6 a7 a8 : Option Value} {x : Option Value} {z : Int} (q : Ins cc pc 2 pc2 (.istore 9)) (hc : okc a8 = true) (k : J G E pc2 (a0 :: a1 :: a2 :: a3 :: a4 :: a5 :: a6 :: a7 :: a8 :: some (vi z) :: L) st M) : J G E pc (a0 :: a1 :: a2 :: a3 :: a4 :: a5 :: a6 :: a7 :: a8 :: x :: L) (vi z :: st) M := J_istore X (by simp) (LH_cat 9 (Or.inr hc)) (Or.inr q) k
theorem J_astore_9 (X : Ok G E cc own nL d) {a0 a1 a2 a3 a4 a5 a6 a7 a8 : Option Value} {x : Option Value} {f i : Nat} (q : Ins cc pc 2 pc2 (.astore 9)) (hc : okc a8 = true) (k : J G E pc2 (a0 :: a1 :: a2 :: a3 :: a4 :: a5 :: a6 :: a7 :: a8 :: some (rf G f i) :: L) st M) : J G E pc (a0 :: a1 :: a2 :: a3 :: a4 :: a5 :: a6 :: a7 :: a8 :: x :: L) (rf G f i :: st) M := J_astore X (by simp) (LH_cat 9 (Or.inr hc)) (Or.inr q) k
theorem J_iinc_9 (X : Ok G E cc own nL d) {a0 a1 a2 a3 a4 a5 a6 a7 a8 : Option Value} {z n : Int} (q : Ins cc pc 3 pc2 (.iinc 9 n)) (hc : okc a8 = true) (k : J G E pc2 (a0 :: a1 :: a2 :: a3 :: a4 :: a5 :: a6 :: a7 :: a8 :: some (vi (z + n)) :: L) st M) : J G E pc (a0 :: a1 :: a2 :: a3 :: a4 :: a5 :: a6 :: a7 :: a8 :: some (vi z) :: L) st M := J_iinc X (by simp) (LH_cat 9 (Or.inr hc)) rfl q k
theorem J_istore_10 (X : Ok G E cc own nL d) {a0 a1 a2 a3 a4 a5 a6 a7 a8 a9 : Option Value} {x : Option Value} {z : Int} (q : Ins cc pc 2 pc2 (.istore 10)) (hc : okc a9 = true) (k : J G E pc2 (a0 :: a1 :: a2 :: a3 :: a4 :: a5 :: a6 :: a7 :: a8 :: a9 :: some (vi z) :: L) st M) : J G E pc (a0 :: a1 :: a2 :: a3 :: a4 :: a5 :: a6 :: a7 :: a8 :: a9 :: x :: L) (vi z :: st) M := J_istore X (by simp) (LH_cat 10 (Or.inr hc)) (Or.inr q) k
theorem J_astore_10 (X : Ok G E cc own nL d) {a0 a1 a2 a3 a4 a5 a6 a7 a8 a9 : Option Value} {x : Option Value} {f i : Nat} (q : Ins cc pc 2 pc2 (.astore 10)) (hc : okc a9 = true) (k : J G E pc2 (a0 :: a1 :: a2 :: a3 :: a4 :: a5 :: a6 :: a7 :: a8 :: a9 :: some (rf G f i) :: L) st M) : J G E pc (a0 :: a1 :: a2 :: a3 :: a4 :: a5 :: a6 :: a7 :: a8 :: a9 :: x :: L) (rf G f i :: st) M := J_astore X (by simp) (LH_cat 10 (Or.inr hc)) (Or.inr q) k
theorem J_iinc_10 (X : Ok G E cc own nL d) {a0 a1 a2 a3 a4 a5 a6 a7 a8 a9 : Option Value} {z n : Int} (q : Ins cc pc 3 pc2 (.iinc 10 n)) (hc : okc a9 = true) (k : J G E pc2 (a0 :: a1 :: a2 :: a3 :: a4 :: a5 :: a6 :: a7 :: a8 :: a9 :: some (vi (z + n)) :: L) st M) : J G E pc (a0 :: a1 :: a2 :: a3 :: a4 :: a5 :: a6 :: a7 :: a8 :: a9 :: some (vi z) :: L) st M := J_iinc X (by simp) (LH_cat 10 (Or.inr hc)) rfl q k
theorem J_istore_11 (X : Ok G E cc own nL d) {a0 a1 a2 a3 a4 a5 a6 a7 a8 a9 a10 : Option Value} {x : Option Value} {z : Int} (q : Ins cc pc 2 pc2 (.istore 11)) (hc : okc a10 = true) (k : J G E pc2 (a0 :: a1 :: a2 :: a3 :: a4 :: a5 :: a6 :: a7 :: a8 :: a9 :: a10 :: some (vi z) :: L) st M) : J G E pc (a0 :: a1 :: a2 :: a3 :: a4 :: a5 :: a6 :: a7 :: a8 :: a9 :: a10 :: x :: L) (vi z :: st) M := J_istore X (by simp) (LH_cat 11 (Or.inr hc)) (Or.inr q) k
theorem J_astore_11 (X : Ok G E cc own nL d) {a0 a1 a2 a3 a4 a5 a6 a7 a8 a9 a10 : Option Value} {x : Option Value} {f i : Nat} (q : Ins cc pc 2 pc2 (.astore 11)) (hc : okc a10 = true) (k : J G E pc2 (a0 :: a1 :: a2 :: a3 :: a4 :: a5 :: a6 :: a7 :: a8 :: a9 :: a10 :: some (rf G f i) :: L) st M) : J G E pc (a0 :: a1 :: a2 :: a3 :: a4 :: a5 :: a6 :: a7 :: a8 :: a9 :: a10 :: x :: L) (rf G f i :: st) M := J_astore X (by simp) (LH_cat 11 (Or.inr hc)) (Or.inr q) k
theorem J_iinc_11 (X : Ok G E cc own nL d) {a0 a1 a2 a3 a4 a5 a6 a7 a8 a9 a10 : Option Value} {z n : Int} (q : Ins cc pc 3 pc2 (.iinc 11 n)) (hc : okc a10 = true) (k : J G E pc2 (a0 :: a1 :: a2 :: a3 :: a4 :: a5 :: a6 :: a7 :: a8 :: a9 :: a10 :: some (vi (z + n)) :: L) st M) : J G E pc (a0 :: a1 :: a2 :: a3 :: a4 :: a5 :: a6 :: a7 :: a8 :: a9 :: a10 :: some (vi z) :: L) st M := J_iinc X (by simp) (LH_cat 11 (Or.inr hc)) rfl q k
theorem J_istore_12 (X : Ok G E cc own nL d) {a0 a1 a2 a3 a4 a5 a6 a7 a8 a9 a10 a11 : Option Value} {x : Option Value} {z : Int} (q : Ins cc pc 2 pc2 (.istore 12)) (hc : okc a11 = true) (k : J G E pc2 (a0 :: a1 :: a2 :: a3 :: a4 :: a5 :: a6 :: a7 :: a8 :: a9 :: a10 :: a11 :: some (vi z) :: L) st M) : J G E pc (a0 :: a1 :: a2 :: a3 :: a4 :: a5 :: a6 :: a7 :: a8 :: a9 :: a10 :: a11 :: x :: L) (vi z :: st) M := J_istore X (by simp) (LH_cat 12 (Or.inr hc)) (Or.inr q) k
theorem J_astore_12 (X : Ok G E cc own nL d) {a0 a1 a2 a3 a4 a5 a6 a7 a8 a9 a10 a11 : Option Value} {x : Option Value} {f i : Nat} (q : Ins cc pc 2 pc2 (.astore 12)) (hc : okc a11 = true) (k : J G E pc2 (a0 :: a1 :: a2 :: a3 :: a4 :: a5 :: a6 :: a7 :: a8 :: a9 :: a10 :: a11 :: some (rf G f i) :: L) st M) : J G E pc (a0 :: a1 :: a2 :: a3 :: a4 :: a5 :: a6 :: a7 :: a8 :: a9 :: a10 :: a11 :: x :: L) (rf G f i :: st) M := J_astore X (by simp) (LH_cat 12 (Or.inr hc)) (Or.inr q) k
theorem J_iinc_12 (X : Ok G E cc own nL d) {a0 a1 a2 a3 a4 a5 a6 a7 a8 a9 a10 a11 : Option Value} {z n : Int} (q : Ins cc pc 3 pc2 (.iinc 12 n)) (hc : okc a11 = true) (k : J G E pc2 (a0 :: a1 :: a2 :: a3 :: a4 :: a5 :: a6 :: a7 :: a8 :: a9 :: a10 :: a11 :: some (vi (z + n)) :: L) st M) : J G E pc (a0 :: a1 :: a2 :: a3 :: a4 :: a5 :: a6 :: a7 :: a8 :: a9 :: a10 :: a11 :: some (vi z) :: L) st M := J_iinc X (by simp) (LH_cat 12 (Or.inr hc)) rfl q k
theorem J_iadd (X : Ok G E cc own nL d) {a b : Int} (q : Ins cc pc 1 pc2 (.iadd)) (k : J G E pc2 L (vi (a + b) :: st) M) : J G E pc L (vi b :: vi a :: st) M := by
  obtain ⟨p, l, e, R, s, m, args, below, meth, c, cells, slots, Q⟩ := E
  obtain ⟨hx, hb, hml, hown, hK, hR, hce, hsl⟩ := X
  obtain ⟨q1, rfl⟩ := q
  intro H locs ls hw hs hl
  refine lv_iadd hx hb q1 ?_
  rw [← Int32.ofInt_add]
  exact k H locs ls hw hs hl
theorem J_isub (X : Ok G E cc own nL d) {a b : Int} (q : Ins cc pc 1 pc2 (.isub)) (k : J G E pc2 L (vi (a - b) :: st) M) : J G E pc L (vi b :: vi a :: st) M := by
  obtain ⟨p, l, e, R, s, m, args, below, meth, c, cells, slots, Q⟩ := E
  obtain ⟨hx, hb, hml, hown, hK, hR, hce, hsl⟩ := X
  obtain ⟨q1, rfl⟩ := q
  intro H locs ls hw hs hl
  refine lv_isub hx hb q1 ?_
  rw [← Int32.ofInt_sub]
  exact k H locs ls hw hs hl
theorem J_imul (X : Ok G E cc own nL d) {a b : Int} (q : Ins cc pc 1 pc2 (.imul)) (k : J G E pc2 L (vi (a * b) :: st) M) : J G E pc L (vi b :: vi a :: st) M := by
  obtain ⟨p, l, e, R, s, m, args, below, meth, c, cells, slots, Q⟩ := E
  obtain ⟨hx, hb, hml, hown, hK, hR, hce, hsl⟩ := X
  obtain ⟨q1, rfl⟩ := q
  intro H locs ls hw hs hl
  refine lv_imul hx hb q1 ?_
  rw [← Int32.ofInt_mul]
  exact k H locs ls hw hs hl
theorem i32_tdiv {a b : Int} (a1 : -2147483648 ≤ a) (a2 : a < 2147483648) (b1 : -2147483648 ≤ b) (b2 : b < 2147483648) : Int32.ofInt a / Int32.ofInt b = Int32.ofInt (a.tdiv b) := by
  rw [← Int32.toInt_inj, Int32.toInt_div, i32_rng a1 a2, i32_rng b1 b2, Int32.toInt_ofInt]
theorem i32_ne0 {b : Int} (h : b ≠ 0) (b1 : -2147483648 ≤ b) (b2 : b < 2147483648) : ¬ Int32.ofInt b = 0 := by
  have h1 := i32_eq (a := b) (b := 0) b1 b2 (by omega) (by omega)
  exact fun q => h (h1.mp q)
theorem J_idivT (X : Ok G E cc own nL d) {a b : Int} (q : Ins cc pc 1 pc2 (.idiv)) (h0 : b ≠ 0) (a1 : -2147483648 ≤ a) (a2 : a < 2147483648) (b1 : -2147483648 ≤ b) (b2 : b < 2147483648) (k : J G E pc2 L (vi (a.tdiv b) :: st) M) : J G E pc L (vi b :: vi a :: st) M := by
  obtain ⟨p, l, e, R, s, m, args, below, meth, c, cells, slots, Q⟩ := E
  obtain ⟨hx, hb, hml, hown, hK, hR, hce, hsl⟩ := X
  obtain ⟨q1, rfl⟩ := q
  intro H locs ls hw hs hl
  refine lv_idiv hx hb q1 (i32_ne0 h0 b1 b2) ?_
  rw [i32_tdiv a1 a2 b1 b2]
  exact k H locs ls hw hs hl
theorem J_iremT (X : Ok G E cc own nL d) {a b : Int} (q : Ins cc pc 1 pc2 (.irem)) (h0 : b ≠ 0) (a1 : -2147483648 ≤ a) (a2 : a < 2147483648) (b1 : -2147483648 ≤ b) (b2 : b < 2147483648) (k : J G E pc2 L (vi (a.tmod b) :: st) M) : J G E pc L (vi b :: vi a :: st) M := by
  obtain ⟨p, l, e, R, s, m, args, below, meth, c, cells, slots, Q⟩ := E
  obtain ⟨hx, hb, hml, hown, hK, hR, hce, hsl⟩ := X
  obtain ⟨q1, rfl⟩ := q
  intro H locs ls hw hs hl
  refine lv_irem hx hb q1 (i32_ne0 h0 b1 b2) ?_
  rw [i32_tdiv a1 a2 b1 b2, ← Int32.ofInt_mul, ← Int32.ofInt_sub, show a - a.tdiv b * b = a.tmod b by rw [Int.tmod_def, Int.mul_comm]]
  exact k H locs ls hw hs hl
theorem J_idiv (X : Ok G E cc own nL d) {a b : Int} (q : Ins cc pc 1 pc2 (.idiv)) (a1 : 0 ≤ a) (a2 : a < 2147483648) (b1 : 0 < b) (b2 : b < 2147483648) (k : J G E pc2 L (vi (a / b) :: st) M) : J G E pc L (vi b :: vi a :: st) M := by
  refine J_idivT X q (by omega) (by omega) a2 (by omega) b2 ?_
  rw [Int.tdiv_eq_ediv_of_nonneg a1]
  exact k
theorem J_irem (X : Ok G E cc own nL d) {a b : Int} (q : Ins cc pc 1 pc2 (.irem)) (a1 : 0 ≤ a) (a2 : a < 2147483648) (b1 : 0 < b) (b2 : b < 2147483648) (k : J G E pc2 L (vi (a % b) :: st) M) : J G E pc L (vi b :: vi a :: st) M := by
  refine J_iremT X q (by omega) (by omega) a2 (by omega) b2 ?_
  rw [Int.tmod_eq_emod_of_nonneg a1]
  exact k
theorem J_ineg (X : Ok G E cc own nL d) {a : Int} (q : Ins cc pc 1 pc2 (.ineg)) (k : J G E pc2 L (vi (-a) :: st) M) : J G E pc L (vi a :: st) M := by
  obtain ⟨p, l, e, R, s, m, args, below, meth, c, cells, slots, Q⟩ := E
  obtain ⟨hx, hb, hml, hown, hK, hR, hce, hsl⟩ := X
  obtain ⟨q1, rfl⟩ := q
  intro H locs ls hw hs hl
  refine lv_ineg hx hb q1 ?_
  rw [← Int32.ofInt_neg]
  exact k H locs ls hw hs hl
theorem J_ladd (X : Ok G E cc own nL d) {a b : Int} (q : Ins cc pc 1 pc2 (.ladd)) (k : J G E pc2 L (vl (a + b) :: st) M) : J G E pc L (vl b :: vl a :: st) M := by
  obtain ⟨p, l, e, R, s, m, args, below, meth, c, cells, slots, Q⟩ := E
  obtain ⟨hx, hb, hml, hown, hK, hR, hce, hsl⟩ := X
  obtain ⟨q1, rfl⟩ := q
  intro H locs ls hw hs hl
  refine lv_ladd hx hb q1 ?_
  rw [← Int64.ofInt_add]
  exact k H locs ls hw hs hl
theorem J_lsub (X : Ok G E cc own nL d) {a b : Int} (q : Ins cc pc 1 pc2 (.lsub)) (k : J G E pc2 L (vl (a - b) :: st) M) : J G E pc L (vl b :: vl a :: st) M := by
  obtain ⟨p, l, e, R, s, m, args, below, meth, c, cells, slots, Q⟩ := E
  obtain ⟨hx, hb, hml, hown, hK, hR, hce, hsl⟩ := X
  obtain ⟨q1, rfl⟩ := q
  intro H locs ls hw hs hl
  refine lv_lsub hx hb q1 ?_
  rw [← Int64.ofInt_sub]
  exact k H locs ls hw hs hl
theorem J_lmul (X : Ok G E cc own nL d) {a b : Int} (q : Ins cc pc 1 pc2 (.lmul)) (k : J G E pc2 L (vl (a * b) :: st) M) : J G E pc L (vl b :: vl a :: st) M := by
  obtain ⟨p, l, e, R, s, m, args, below, meth, c, cells, slots, Q⟩ := E
  obtain ⟨hx, hb, hml, hown, hK, hR, hce, hsl⟩ := X
  obtain ⟨q1, rfl⟩ := q
  intro H locs ls hw hs hl
  refine lv_lmul hx hb q1 ?_
  rw [← Int64.ofInt_mul]
  exact k H locs ls hw hs hl
theorem J_lneg (X : Ok G E cc own nL d) {a : Int} (q : Ins cc pc 1 pc2 (.lneg)) (k : J G E pc2 L (vl (-a) :: st) M) : J G E pc L (vl a :: st) M := by
  obtain ⟨p, l, e, R, s, m, args, below, meth, c, cells, slots, Q⟩ := E
  obtain ⟨hx, hb, hml, hown, hK, hR, hce, hsl⟩ := X
  obtain ⟨q1, rfl⟩ := q
  intro H locs ls hw hs hl
  refine lv_lneg hx hb q1 ?_
  rw [← Int64.ofInt_neg]
  exact k H locs ls hw hs hl
theorem J_i2l (X : Ok G E cc own nL d) {a : Int} (q : Ins cc pc 1 pc2 (.i2l)) (a1 : -2147483648 ≤ a) (a2 : a < 2147483648) (k : J G E pc2 L (vl a :: st) M) : J G E pc L (vi a :: st) M := by
  obtain ⟨p, l, e, R, s, m, args, below, meth, c, cells, slots, Q⟩ := E
  obtain ⟨hx, hb, hml, hown, hK, hR, hce, hsl⟩ := X
  obtain ⟨q1, rfl⟩ := q
  intro H locs ls hw hs hl
  exact lv_i2l hx hb q1 (by rw [← Int64.toInt_inj, Int32.toInt_toInt64, i32_rng a1 a2, i64_rng (by omega) (by omega)]) (k H locs ls hw hs hl)
theorem J_l2i (X : Ok G E cc own nL d) {a : Int} (q : Ins cc pc 1 pc2 (.l2i)) (a1 : -2147483648 ≤ a) (a2 : a < 2147483648) (k : J G E pc2 L (vi a :: st) M) : J G E pc L (vl a :: st) M := by
  obtain ⟨p, l, e, R, s, m, args, below, meth, c, cells, slots, Q⟩ := E
  obtain ⟨hx, hb, hml, hown, hK, hR, hce, hsl⟩ := X
  obtain ⟨q1, rfl⟩ := q
  intro H locs ls hw hs hl
  exact lv_l2i hx hb q1 (by rw [← Int32.toInt_inj, Int64.toInt_toInt32, i32_rng a1 a2, i64_rng (by omega) (by omega)]; exact Int.bmod_eq_of_le (by omega) (by omega)) (k H locs ls hw hs hl)
theorem J_ldiv (X : Ok G E cc own nL d) {a b : Int} (q : Ins cc pc 1 pc2 (.ldiv)) (a1 : 0 ≤ a) (a2 : a < 9223372036854775808) (b1 : 0 < b) (b2 : b < 9223372036854775808) (k : J G E pc2 L (vl (a / b) :: st) M) : J G E pc L (vl b :: vl a :: st) M := by
  obtain ⟨p, l, e, R, s, m, args, below, meth, c, cells, slots, Q⟩ := E
  obtain ⟨hx, hb, hml, hown, hK, hR, hce, hsl⟩ := X
  obtain ⟨q1, rfl⟩ := q
  intro H locs ls hw hs hl
  refine lv_ldiv hx hb q1 (fun q => ?_) ?_
  · have h2 := congrArg Int64.toInt q
    rw [i64_rng (by omega) b2] at h2
    have h3 : (0 : Int64).toInt = 0 := rfl
    omega
  · have e : Int64.ofInt a / Int64.ofInt b = Int64.ofInt (a / b) := by
      rw [← Int64.toInt_inj, Int64.toInt_div, i64_rng (by omega) a2, i64_rng (by omega) b2, Int64.toInt_ofInt, Int.tdiv_eq_ediv_of_nonneg a1]
    rw [e]
    exact k H locs ls hw hs hl
theorem J_dup (X : Ok G E cc own nL d) {v : Value} (q : Ins cc pc 1 pc2 (.dup)) (hv : v.category = 1) (k : J G E pc2 L (v :: v :: st) M) : J G E pc L (v :: st) M := by
  obtain ⟨p, l, e, R, s, m, args, below, meth, c, cells, slots, Q⟩ := E
  obtain ⟨hx, hb, hml, hown, hK, hR, hce, hsl⟩ := X
  obtain ⟨q1, rfl⟩ := q
  intro H locs ls hw hs hl
  exact lv_dup hx hb q1 hv (k H locs ls hw hs hl)
theorem J_dup2 (X : Ok G E cc own nL d) {v w : Value} (q : Ins cc pc 1 pc2 (.dup2)) (hv : v.category = 1) (hw9 : w.category = 1) (k : J G E pc2 L (v :: w :: v :: w :: st) M) : J G E pc L (v :: w :: st) M := by
  obtain ⟨p, l, e, R, s, m, args, below, meth, c, cells, slots, Q⟩ := E
  obtain ⟨hx, hb, hml, hown, hK, hR, hce, hsl⟩ := X
  obtain ⟨q1, rfl⟩ := q
  intro H locs ls hw hs hl
  exact lv_dup2_11 hx hb q1 hv hw9 (k H locs ls hw hs hl)
theorem J_pop (X : Ok G E cc own nL d) {v : Value} (q : Ins cc pc 1 pc2 (.pop)) (hv : v.category = 1) (k : J G E pc2 L st M) : J G E pc L (v :: st) M := by
  obtain ⟨p, l, e, R, s, m, args, below, meth, c, cells, slots, Q⟩ := E
  obtain ⟨hx, hb, hml, hown, hK, hR, hce, hsl⟩ := X
  obtain ⟨q1, rfl⟩ := q
  intro H locs ls hw hs hl
  exact lv_pop hx hb q1 hv (k H locs ls hw hs hl)
theorem J_goto (X : Ok G E cc own nL d) (q : Br cc pc pc2 tg (.goto)) (k : J G E tg L st M) : J G E pc L st M := by
  obtain ⟨p, l, e, R, s, m, args, below, meth, c, cells, slots, Q⟩ := E
  obtain ⟨hx, hb, hml, hown, hK, hR, hce, hsl⟩ := X
  obtain ⟨off, q1, q2, q3⟩ := q
  intro H locs ls hw hs hl
  exact lv_goto hx hb q1 q3 (k H locs ls hw hs hl)
theorem J_icmp_eq (X : Ok G E cc own nL d) {a b : Int} (q : Br cc pc pc2 tg (.if_icmp .eq)) (a1 : -2147483648 ≤ a) (a2 : a < 2147483648) (b1 : -2147483648 ≤ b) (b2 : b < 2147483648) (kt : a = b → J G E tg L st M) (kf : ¬ a = b → J G E pc2 L st M) : J G E pc L (vi b :: vi a :: st) M := by
  obtain ⟨p, l, e, R, s, m, args, below, meth, c, cells, slots, Q⟩ := E
  obtain ⟨hx, hb, hml, hown, hK, hR, hce, hsl⟩ := X
  obtain ⟨off, q1, rfl, q3⟩ := q
  intro H locs ls hw hs hl
  exact lv_icmp_eq hx hb q1 q3 (fun h => kt ((i32_eq a1 a2 b1 b2).mp h) H locs ls hw hs hl) (fun h => kf (fun q => h ((i32_eq a1 a2 b1 b2).mpr q)) H locs ls hw hs hl)
theorem J_if_eq (X : Ok G E cc own nL d) {a : Int} (q : Br cc pc pc2 tg (.ifCond .eq)) (a1 : -2147483648 ≤ a) (a2 : a < 2147483648) (kt : a = 0 → J G E tg L st M) (kf : ¬ a = 0 → J G E pc2 L st M) : J G E pc L (vi a :: st) M := by
  obtain ⟨p, l, e, R, s, m, args, below, meth, c, cells, slots, Q⟩ := E
  obtain ⟨hx, hb, hml, hown, hK, hR, hce, hsl⟩ := X
  obtain ⟨off, q1, rfl, q3⟩ := q
  have b1 : -2147483648 ≤ (0 : Int) := by omega
  have b2 : (0 : Int) < 2147483648 := by omega
  intro H locs ls hw hs hl
  exact lv_if_eq hx hb q1 q3 (fun h => kt ((i32_eq a1 a2 b1 b2).mp h) H locs ls hw hs hl) (fun h => kf (fun q => h ((i32_eq a1 a2 b1 b2).mpr q)) H locs ls hw hs hl)
theorem J_icmp_ne (X : Ok G E cc own nL d) {a b : Int} (q : Br cc pc pc2 tg (.if_icmp .ne)) (a1 : -2147483648 ≤ a) (a2 : a < 2147483648) (b1 : -2147483648 ≤ b) (b2 : b < 2147483648) (kt : ¬ a = b → J G E tg L st M) (kf : a = b → J G E pc2 L st M) : J G E pc L (vi b :: vi a :: st) M := by
  obtain ⟨p, l, e, R, s, m, args, below, meth, c, cells, slots, Q⟩ := E
  obtain ⟨hx, hb, hml, hown, hK, hR, hce, hsl⟩ := X
  obtain ⟨off, q1, rfl, q3⟩ := q
  intro H locs ls hw hs hl
  exact lv_icmp_ne hx hb q1 q3 (fun h => kt (fun q => h (congrArg Int32.ofInt q)) H locs ls hw hs hl) (fun h => kf ((i32_eq a1 a2 b1 b2).mp h) H locs ls hw hs hl)
theorem J_if_ne (X : Ok G E cc own nL d) {a : Int} (q : Br cc pc pc2 tg (.ifCond .ne)) (a1 : -2147483648 ≤ a) (a2 : a < 2147483648) (kt : ¬ a = 0 → J G E tg L st M) (kf : a = 0 → J G E pc2 L st M) : J G E pc L (vi a :: st) M := by
  obtain ⟨p, l, e, R, s, m, args, below, meth, c, cells, slots, Q⟩ := E
  obtain ⟨hx, hb, hml, hown, hK, hR, hce, hsl⟩ := X
  obtain ⟨off, q1, rfl, q3⟩ := q
  have b1 : -2147483648 ≤ (0 : Int) := by omega
  have b2 : (0 : Int) < 2147483648 := by omega
  intro H locs ls hw hs hl
  exact lv_if_ne hx hb q1 q3 (fun h => kt (fun q => h (by rw [q]; rfl)) H locs ls hw hs hl) (fun h => kf ((i32_eq a1 a2 b1 b2).mp h) H locs ls hw hs hl)
theorem J_icmp_lt (X : Ok G E cc own nL d) {a b : Int} (q : Br cc pc pc2 tg (.if_icmp .lt)) (a1 : -2147483648 ≤ a) (a2 : a < 2147483648) (b1 : -2147483648 ≤ b) (b2 : b < 2147483648) (kt : a < b → J G E tg L st M) (kf : ¬ a < b → J G E pc2 L st M) : J G E pc L (vi b :: vi a :: st) M := by
  obtain ⟨p, l, e, R, s, m, args, below, meth, c, cells, slots, Q⟩ := E
  obtain ⟨hx, hb, hml, hown, hK, hR, hce, hsl⟩ := X
  obtain ⟨off, q1, rfl, q3⟩ := q
  intro H locs ls hw hs hl
  exact lv_icmp_lt hx hb q1 q3 (fun h => kt ((i32_lt a1 a2 b1 b2).mp h) H locs ls hw hs hl) (fun h => kf (fun q => h ((i32_lt a1 a2 b1 b2).mpr q)) H locs ls hw hs hl)
theorem J_if_lt (X : Ok G E cc own nL d) {a : Int} (q : Br cc pc pc2 tg (.ifCond .lt)) (a1 : -2147483648 ≤ a) (a2 : a < 2147483648) (kt : a < 0 → J G E tg L st M) (kf : ¬ a < 0 → J G E pc2 L st M) : J G E pc L (vi a :: st) M := by
  obtain ⟨p, l, e, R, s, m, args, below, meth, c, cells, slots, Q⟩ := E
  obtain ⟨hx, hb, hml, hown, hK, hR, hce, hsl⟩ := X
  obtain ⟨off, q1, rfl, q3⟩ := q
  have b1 : -2147483648 ≤ (0 : Int) := by omega
  have b2 : (0 : Int) < 2147483648 := by omega
  intro H locs ls hw hs hl
  exact lv_if_lt hx hb q1 q3 (fun h => kt ((i32_lt a1 a2 b1 b2).mp h) H locs ls hw hs hl) (fun h => kf (fun q => h ((i32_lt a1 a2 b1 b2).mpr q)) H locs ls hw hs hl)
theorem J_icmp_ge (X : Ok G E cc own nL d) {a b : Int} (q : Br cc pc pc2 tg (.if_icmp .ge)) (a1 : -2147483648 ≤ a) (a2 : a < 2147483648) (b1 : -2147483648 ≤ b) (b2 : b < 2147483648) (kt : b ≤ a → J G E tg L st M) (kf : ¬ b ≤ a → J G E pc2 L st M) : J G E pc L (vi b :: vi a :: st) M := by
  obtain ⟨p, l, e, R, s, m, args, below, meth, c, cells, slots, Q⟩ := E
  obtain ⟨hx, hb, hml, hown, hK, hR, hce, hsl⟩ := X
  obtain ⟨off, q1, rfl, q3⟩ := q
  intro H locs ls hw hs hl
  exact lv_icmp_ge hx hb q1 q3 (fun h => kt ((i32_le b1 b2 a1 a2).mp h) H locs ls hw hs hl) (fun h => kf (fun q => h ((i32_le b1 b2 a1 a2).mpr q)) H locs ls hw hs hl)
theorem J_if_ge (X : Ok G E cc own nL d) {a : Int} (q : Br cc pc pc2 tg (.ifCond .ge)) (a1 : -2147483648 ≤ a) (a2 : a < 2147483648) (kt : 0 ≤ a → J G E tg L st M) (kf : ¬ 0 ≤ a → J G E pc2 L st M) : J G E pc L (vi a :: st) M := by
  obtain ⟨p, l, e, R, s, m, args, below, meth, c, cells, slots, Q⟩ := E
  obtain ⟨hx, hb, hml, hown, hK, hR, hce, hsl⟩ := X
  obtain ⟨off, q1, rfl, q3⟩ := q
  have b1 : -2147483648 ≤ (0 : Int) := by omega
  have b2 : (0 : Int) < 2147483648 := by omega
  intro H locs ls hw hs hl
  exact lv_if_ge hx hb q1 q3 (fun h => kt ((i32_le b1 b2 a1 a2).mp h) H locs ls hw hs hl) (fun h => kf (fun q => h ((i32_le b1 b2 a1 a2).mpr q)) H locs ls hw hs hl)
theorem J_icmp_gt (X : Ok G E cc own nL d) {a b : Int} (q : Br cc pc pc2 tg (.if_icmp .gt)) (a1 : -2147483648 ≤ a) (a2 : a < 2147483648) (b1 : -2147483648 ≤ b) (b2 : b < 2147483648) (kt : b < a → J G E tg L st M) (kf : ¬ b < a → J G E pc2 L st M) : J G E pc L (vi b :: vi a :: st) M := by
  obtain ⟨p, l, e, R, s, m, args, below, meth, c, cells, slots, Q⟩ := E
  obtain ⟨hx, hb, hml, hown, hK, hR, hce, hsl⟩ := X
  obtain ⟨off, q1, rfl, q3⟩ := q
  intro H locs ls hw hs hl
  exact lv_icmp_gt hx hb q1 q3 (fun h => kt ((i32_lt b1 b2 a1 a2).mp h) H locs ls hw hs hl) (fun h => kf (fun q => h ((i32_lt b1 b2 a1 a2).mpr q)) H locs ls hw hs hl)
theorem J_if_gt (X : Ok G E cc own nL d) {a : Int} (q : Br cc pc pc2 tg (.ifCond .gt)) (a1 : -2147483648 ≤ a) (a2 : a < 2147483648) (kt : 0 < a → J G E tg L st M) (kf : ¬ 0 < a → J G E pc2 L st M) : J G E pc L (vi a :: st) M := by
  obtain ⟨p, l, e, R, s, m, args, below, meth, c, cells, slots, Q⟩ := E
  obtain ⟨hx, hb, hml, hown, hK, hR, hce, hsl⟩ := X
  obtain ⟨off, q1, rfl, q3⟩ := q
  have b1 : -2147483648 ≤ (0 : Int) := by omega
  have b2 : (0 : Int) < 2147483648 := by omega
  intro H locs ls hw hs hl
  exact lv_if_gt hx hb q1 q3 (fun h => kt ((i32_lt b1 b2 a1 a2).mp h) H locs ls hw hs hl) (fun h => kf (fun q => h ((i32_lt b1 b2 a1 a2).mpr q)) H locs ls hw hs hl)
theorem J_icmp_le (X : Ok G E cc own nL d) {a b : Int} (q : Br cc pc pc2 tg (.if_icmp .le)) (a1 : -2147483648 ≤ a) (a2 : a < 2147483648) (b1 : -2147483648 ≤ b) (b2 : b < 2147483648) (kt : a ≤ b → J G E tg L st M) (kf : ¬ a ≤ b → J G E pc2 L st M) : J G E pc L (vi b :: vi a :: st) M := by
  obtain ⟨p, l, e, R, s, m, args, below, meth, c, cells, slots, Q⟩ := E
  obtain ⟨hx, hb, hml, hown, hK, hR, hce, hsl⟩ := X
  obtain ⟨off, q1, rfl, q3⟩ := q
  intro H locs ls hw hs hl
  exact lv_icmp_le hx hb q1 q3 (fun h => kt ((i32_le a1 a2 b1 b2).mp h) H locs ls hw hs hl) (fun h => kf (fun q => h ((i32_le a1 a2 b1 b2).mpr q)) H locs ls hw hs hl)
theorem J_if_le (X : Ok G E cc own nL d) {a : Int} (q : Br cc pc pc2 tg (.ifCond .le)) (a1 : -2147483648 ≤ a) (a2 : a < 2147483648) (kt : a ≤ 0 → J G E tg L st M) (kf : ¬ a ≤ 0 → J G E pc2 L st M) : J G E pc L (vi a :: st) M := by
  obtain ⟨p, l, e, R, s, m, args, below, meth, c, cells, slots, Q⟩ := E
  obtain ⟨hx, hb, hml, hown, hK, hR, hce, hsl⟩ := X
  obtain ⟨off, q1, rfl, q3⟩ := q
  have b1 : -2147483648 ≤ (0 : Int) := by omega
  have b2 : (0 : Int) < 2147483648 := by omega
  intro H locs ls hw hs hl
  exact lv_if_le hx hb q1 q3 (fun h => kt ((i32_le a1 a2 b1 b2).mp h) H locs ls hw hs hl) (fun h => kf (fun q => h ((i32_le a1 a2 b1 b2).mpr q)) H locs ls hw hs hl)
theorem J_tswIn (X : Ok G E cc own nL d) {a : Int} {dflt lo hi off : Int} {offs : Array Int} {len : Nat} (q : decode cc pc = .ok (.tableswitch dflt lo hi offs, len)) (a1 : -2147483648 ≤ a) (a2 : a < 2147483648) (h1 : lo ≤ a) (h2 : a ≤ hi) (ho : offs[(a - lo).toNat]? = some off) (ht : (pc : Int) + off = (tg : Int)) (k : J G E tg L st M) : J G E pc L (vi a :: st) M := by
  obtain ⟨p, l, e, R, s, m, args, below, meth, c, cells, slots, Q⟩ := E
  obtain ⟨hx, hb, hml, hown, hK, hR, hce, hsl⟩ := X
  intro H locs ls hw hs hl
  exact lv_tableIn hx hb q (by rw [i32_rng a1 a2]; omega) (by rw [i32_rng a1 a2]; omega) (by rw [i32_rng a1 a2]; exact ho) ht (k H locs ls hw hs hl)
theorem J_tswOut (X : Ok G E cc own nL d) {a : Int} {dflt lo hi : Int} {offs : Array Int} {len : Nat} (q : decode cc pc = .ok (.tableswitch dflt lo hi offs, len)) (a1 : -2147483648 ≤ a) (a2 : a < 2147483648) (h1 : a < lo ∨ hi < a) (ht : (pc : Int) + dflt = (tg : Int)) (k : J G E tg L st M) : J G E pc L (vi a :: st) M := by
  obtain ⟨p, l, e, R, s, m, args, below, meth, c, cells, slots, Q⟩ := E
  obtain ⟨hx, hb, hml, hown, hK, hR, hce, hsl⟩ := X
  intro H locs ls hw hs hl
  exact lv_tableOut hx hb q (by rw [i32_rng a1 a2]; exact h1) ht (k H locs ls hw hs hl)
theorem J_lsw (X : Ok G E cc own nL d) {a : Int} {dflt off : Int} {ps : Array (Int × Int)} {len : Nat} (q : decode cc pc = .ok (.lookupswitch dflt ps, len)) (a1 : -2147483648 ≤ a) (a2 : a < 2147483648) (hp : (ps.toList.zip (ps.toList.drop 1)).all (fun (a, next) => a.1 < next.1) = true) (ho : Op.lookupswitch.offset ps.toList dflt a = off) (ht : (pc : Int) + off = (tg : Int)) (k : J G E tg L st M) : J G E pc L (vi a :: st) M := by
  obtain ⟨p, l, e, R, s, m, args, below, meth, c, cells, slots, Q⟩ := E
  obtain ⟨hx, hb, hml, hown, hK, hR, hce, hsl⟩ := X
  intro H locs ls hw hs hl
  exact lv_lookup hx hb q hp (by rw [i32_rng a1 a2]; exact ho) ht (k H locs ls hw hs hl)
end ROWS

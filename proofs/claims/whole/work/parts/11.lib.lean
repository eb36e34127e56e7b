/-! ===== bits, lengths, whole rows ===== -/
theorem ofI_nat (n : Nat) : Int32.ofInt (n : Int) = nI n := Int32.toBitVec_inj.mp (by show BitVec.ofInt 32 (n : Int) = BitVec.ofNat 32 n; exact BitVec.ofInt_natCast 32 n)
theorem vi_nat (n : Nat) : vi (n : Int) = .int (nI n) := by rw [vi, ofI_nat]
theorem ofI_toI (x : Int32) : Int32.ofInt x.toInt = x := by simp
theorem zs_l : ∀ n, n < 32 → ((nI n &&& 31).toBitVec.smod 32).toNat = n := by decide +kernel
theorem zs_u : ∀ n, n < 32 → (((nI n).toUInt32 &&& Int32.toUInt32 31).toBitVec % 32).toNat = n := by decide +kernel
theorem z_and (a b : Nat) : nI a &&& nI b = nI (a &&& b) := by
  apply Int32.toBitVec_inj.1
  show BitVec.ofNat 32 a &&& BitVec.ofNat 32 b = BitVec.ofNat 32 (a &&& b)
  apply BitVec.eq_of_getLsbD_eq
  intro i hi
  simp [hi]
theorem z_or (a b : Nat) : nI a ||| nI b = nI (a ||| b) := by
  apply Int32.toBitVec_inj.1
  show BitVec.ofNat 32 a ||| BitVec.ofNat 32 b = BitVec.ofNat 32 (a ||| b)
  apply BitVec.eq_of_getLsbD_eq
  intro i hi
  simp [hi]
theorem z_andn (a b : Nat) : nI a &&& (nI b ^^^ (-1)) = nI (a ^^^ (a &&& b)) := by
  apply Int32.toBitVec_inj.1
  show BitVec.ofNat 32 a &&& (BitVec.ofNat 32 b ^^^ BitVec.allOnes 32) = BitVec.ofNat 32 (a ^^^ (a &&& b))
  apply BitVec.eq_of_getLsbD_eq
  intro i hi
  simp only [BitVec.getLsbD_and, BitVec.getLsbD_xor, BitVec.getLsbD_allOnes, BitVec.getLsbD_ofNat, hi, decide_true, Bool.true_and, Nat.testBit_xor, Nat.testBit_and]
  cases a.testBit i <;> cases b.testBit i <;> rfl
theorem z_not (b : Int) : Int32.ofInt b ^^^ (-1) = Int32.ofInt (-b - 1) := by
  rw [Int32.ofInt_sub, Int32.ofInt_neg]
  apply Int32.toBitVec_inj.1
  show BitVec.ofInt 32 b ^^^ BitVec.allOnes 32 = -(BitVec.ofInt 32 b) - 1#32
  rw [BitVec.xor_allOnes, BitVec.neg_eq_not_add, BitVec.add_sub_cancel]
theorem z_mask (a : Int) (m : Int32) (k : Nat) (hk : k ≤ 30) (hm : m.toBitVec.toNat = 2 ^ k - 1) : Int32.ofInt a &&& m = Int32.ofInt (a % 2 ^ k) := by
  rw [pk_and _ k hm]
  have h0 : (0 : Int) ≤ a % 2 ^ k := Int.emod_nonneg _ (by have : (0 : Int) < 2 ^ k := Int.pow_pos (by decide); omega)
  have h1 : Int32.ofInt (a % 2 ^ k) = nI (a % 2 ^ k).toNat := by rw [← ofI_nat, Int.toNat_of_nonneg h0]
  rw [h1]
  congr 1
  show (BitVec.ofInt 32 a).toNat % 2 ^ k = _
  rw [BitVec.toNat_ofInt]
  have h2 : (0 : Int) ≤ a % 2 ^ 32 := by omega
  apply Int.ofNat_inj.mp
  rw [Int.natCast_emod, Int.toNat_of_nonneg h0]
  show ((a % ((2 ^ 32 : Nat) : Int)).toNat : Int) % ((2 ^ k : Nat) : Int) = a % 2 ^ k
  rw [Int.toNat_of_nonneg (by omega)]
  have h3 : ((2 ^ k : Nat) : Int) = 2 ^ k := by simp
  rw [h3, Int.emod_emod_of_dvd]
  have : (2 : Nat) ^ k ∣ 2 ^ 32 := Nat.pow_dvd_pow 2 (by omega)
  rw [← h3]
  exact Int.ofNat_dvd.mpr this
/-- a whole row of numbers -/
def upR (M : Mem) (f i : Nat) (g : Nat → Int) : Mem := fun a b c => if a = f ∧ b = i then g c else M a b c
theorem cellOf_upR_ne {G : Gx} {M : Mem} {f i f2 i2 : Nat} {g : Nat → Int} (h : ¬ (f2 = f ∧ i2 = i)) : cellOf G (upR M f i g) f2 i2 = cellOf G M f2 i2 := cellOf_cong (fun j => by simp only [upR, if_neg h])
theorem HW_putR {G : Gx} {M : Mem} {H H1 : Heap} {f i : Nat} {g : Nat → Int} (hg : GOk G) (h : HW G M H) (hi : i < cnt f) (h1 : va_at G.1 vwCl (ad G f i, cellOf G (upR M f i g) f i) H1) (ho : ∀ q : Nat, q ≠ ad G f i → H1[q]? = H[q]?) : HW G (upR M f i g) H1 := by
  intro f2 i2 h2
  by_cases hq : f2 = f ∧ i2 = i
  · obtain ⟨rfl, rfl⟩ := hq
    exact h1
  · rw [cellOf_upR_ne hq]
    exact (h f2 i2 h2).kept (ho _ (fun e => hq (hg f2 i2 f i h2 hi e)))
/-- every cell of the world in a row -/
def fi : List (Nat × Nat) := (List.range 66).flatMap (fun f => (List.range (cnt f)).map (fun i => (f, i)))
theorem cnt_lt {f i : Nat} (h : i < cnt f) : f < 66 := by
  unfold cnt at h
  split at h
  · omega
  · split at h
    · omega
    · split at h
      · omega
      · split at h <;> omega
theorem fi_mem {f i : Nat} (h : i < cnt f) : ∃ k : Nat, fi[k]? = some (f, i) := by
  apply List.getElem?_of_mem
  exact List.mem_flatMap.mpr ⟨f, List.mem_range.mpr (cnt_lt h), List.mem_map.mpr ⟨i, List.mem_range.mpr h, rfl⟩⟩
theorem fi_in {k f i : Nat} (h : fi[k]? = some (f, i)) : i < cnt f := by
  obtain ⟨f2, -, h2⟩ := List.mem_flatMap.mp (List.mem_of_getElem? h)
  obtain ⟨i2, h3, h4⟩ := List.mem_map.mp h2
  cases h4
  exact List.mem_range.mp h3
theorem fi_nd : fi.Nodup := by decide +kernel
theorem fi_one {a b : Nat} {x : Nat × Nat} (h1 : fi[a]? = some x) (h2 : fi[b]? = some x) : a = b := by
  obtain ⟨l1, e1⟩ := List.getElem?_eq_some_iff.mp h1
  obtain ⟨l2, e2⟩ := List.getElem?_eq_some_iff.mp h2
  have h := List.pairwise_iff_getElem.mp fi_nd
  rcases Nat.lt_trichotomy a b with q | q | q
  · exact absurd (e1.trans e2.symm) (h a b l1 l2 q)
  · exact q
  · exact absurd (e2.trans e1.symm) (h b a l2 l1 q)
def wl (G : Gx) (M : Mem) : va_W := fi.map (fun x => (ad G x.1 x.2, cellOf G M x.1 x.2))
theorem wl_at {G : Gx} {M : Mem} {k f i : Nat} {e : va_E} (h : fi[k]? = some (f, i)) (he : cellOf G M f i = e) : (wl G M)[k]? = some (ad G f i, e) := by
  rw [wl, List.getElem?_map, h, ← he]; rfl
theorem wl_inv {G : Gx} {M : Mem} {k : Nat} {q : Nat × va_E} (h : (wl G M)[k]? = some q) : ∃ f i : Nat, fi[k]? = some (f, i) ∧ q = (ad G f i, cellOf G M f i) := by
  rw [wl, List.getElem?_map] at h
  cases hx : fi[k]? with
  | none => rw [hx] at h; cases h
  | some x => rw [hx] at h; exact ⟨x.1, x.2, rfl, (Option.some.inj h).symm⟩
theorem wl_P {G : Gx} {M : Mem} {H : Heap} (h : HW G M H) : va_P G.1 vwCl (wl G M) H := by
  intro k q hk
  obtain ⟨f, i, h1, rfl⟩ := wl_inv hk
  exact h f i (fi_in h1)
theorem wl_D {G : Gx} {M : Mem} (hg : GOk G) : va_D (Ar G) (wl G M) := by
  refine ⟨fun a b p q h1 h2 e => ?_, fun k q hk => ?_⟩
  · obtain ⟨f, i, g1, rfl⟩ := wl_inv h1
    obtain ⟨f2, i2, g2, rfl⟩ := wl_inv h2
    obtain ⟨rfl, rfl⟩ := hg f i f2 i2 (fi_in g1) (fi_in g2) e
    exact fi_one g1 g2
  · obtain ⟨f, i, h1, rfl⟩ := wl_inv hk
    exact HW_Ar (fi_in h1)
theorem wl_set {G : Gx} {M : Mem} {H : Heap} {k f i : Nat} {g : Nat → Int} {e : va_E} (hk : fi[k]? = some (f, i)) (h : va_P G.1 vwCl ((wl G M).set k (ad G f i, e)) H) (he : cellOf G (upR M f i g) f i = e) : HW G (upR M f i g) H := by
  intro f2 i2 h2
  by_cases hq : f2 = f ∧ i2 = i
  · obtain ⟨rfl, rfl⟩ := hq
    rw [he]
    refine h k _ ?_
    rw [List.getElem?_set_self]
    rw [wl, List.length_map]
    exact (List.getElem?_eq_some_iff.mp hk).1
  · obtain ⟨k2, hk2⟩ := fi_mem h2
    rw [cellOf_upR_ne hq]
    refine h k2 _ ?_
    rw [List.getElem?_set_ne (fun q => hq (by subst q; rw [hk] at hk2; cases hk2; exact ⟨rfl, rfl⟩))]
    exact wl_at hk2 rfl
section LIB
variable {G : Gx} {E : Fx} {cc : ByteArray} {own : String} {nL d pc pc2 tg : Nat} {L : List (Option Value)} {st : List Value} {M : Mem}
theorem J_eqv {v w : Value} (e : v = w) (k : J G E pc L (w :: st) M) : J G E pc L (v :: st) M := by rw [e]; exact k
theorem J_shl1 (X : Ok G E cc own nL d) {x : Int} (kx : Nat) (q : Ins cc pc 1 pc2 (.ishl)) (hx : x = (kx : Int)) (hk : kx < 31) (k : J G E pc2 L (vi ((2 ^ kx : Nat) : Int) :: st) M) : J G E pc L (vi x :: vi 1 :: st) M := by
  obtain ⟨p, l, e, R, s, m, args, below, meth, c, cells, slots, Q⟩ := E
  obtain ⟨hx9, hb, hml, hown, hK, hR, hce, hsl⟩ := X
  obtain ⟨q1, rfl⟩ := q
  subst hx
  intro H locs ls hw hs hl
  refine lv_ishl hx9 hb q1 ?_
  have e : Int32.ofInt 1 <<< (Int32.ofInt (kx : Int) &&& 31) = Int32.ofInt ((2 ^ kx : Nat) : Int) := by
    rw [ofI_nat, ofI_nat, show Int32.ofInt 1 = nI 1 from rfl, pk_shlN (nI kx &&& 31) kx (zs_l kx (by omega)) (by rw [Nat.one_mul]; exact Nat.pow_lt_pow_right (by decide) (by omega)), Nat.one_mul]
  rw [e]
  exact k H locs ls hw hs hl
theorem J_ishr (X : Ok G E cc own nL d) {a x : Int} (kx : Nat) (q : Ins cc pc 1 pc2 (.ishr)) (hx : x = (kx : Int)) (hk : kx < 32) (a1 : -2147483648 ≤ a) (a2 : a < 2147483648) (k : J G E pc2 L (vi (a / 2 ^ kx) :: st) M) : J G E pc L (vi x :: vi a :: st) M := by
  obtain ⟨p, l, e, R, s, m, args, below, meth, c, cells, slots, Q⟩ := E
  obtain ⟨hx9, hb, hml, hown, hK, hR, hce, hsl⟩ := X
  obtain ⟨q1, rfl⟩ := q
  subst hx
  intro H locs ls hw hs hl
  refine lv_ishr hx9 hb q1 ?_
  have e : Int32.ofInt a >>> (Int32.ofInt (kx : Int) &&& 31) = Int32.ofInt (a / 2 ^ kx) := by
    rw [← ofI_toI (Int32.ofInt a >>> _), ofI_nat, pk_shr _ _ kx (zs_l kx hk), i32_rng a1 a2, Int.shiftRight_eq_div_pow]
    simp
  rw [e]
  exact k H locs ls hw hs hl
theorem J_mask (X : Ok G E cc own nL d) {a : Int} (n : Nat) {b : Int} (q : Ins cc pc 1 pc2 (.iand)) (hn : n ≤ 30) (hm : (Int32.ofInt b).toBitVec.toNat = 2 ^ n - 1) (k : J G E pc2 L (vi (a % 2 ^ n) :: st) M) : J G E pc L (vi b :: vi a :: st) M := by
  obtain ⟨p, l, e, R, s, m, args, below, meth, c, cells, slots, Q⟩ := E
  obtain ⟨hx9, hb, hml, hown, hK, hR, hce, hsl⟩ := X
  obtain ⟨q1, rfl⟩ := q
  intro H locs ls hw hs hl
  refine lv_iand hx9 hb q1 ?_
  rw [z_mask a _ n hn hm]
  exact k H locs ls hw hs hl
theorem J_iushr (X : Ok G E cc own nL d) {a x : Int} (kx : Nat) (q : Ins cc pc 1 pc2 (.iushr)) (hx : x = (kx : Int)) (hk : kx < 32) (k : J G E pc2 L (vi (a % 4294967296 / 2 ^ kx) :: st) M) : J G E pc L (vi x :: vi a :: st) M := by
  obtain ⟨p, l, e, R, s, m, args, below, meth, c, cells, slots, Q⟩ := E
  obtain ⟨hx9, hb, hml, hown, hK, hR, hce, hsl⟩ := X
  obtain ⟨q1, rfl⟩ := q
  subst hx
  intro H locs ls hw hs hl
  refine lv_iushr hx9 hb q1 ?_ (k H locs ls hw hs hl)
  have hn := pk_ushr (Int32.ofInt a) (Int32.ofInt (kx : Int)) kx (by rw [ofI_nat]; exact zs_u kx hk)
  apply Int32.toBitVec_inj.1
  apply BitVec.eq_of_toNat_eq
  rw [hn]
  show (BitVec.ofInt 32 a).toNat / 2 ^ kx = (BitVec.ofInt 32 (a % 4294967296 / 2 ^ kx)).toNat
  rw [BitVec.toNat_ofInt, BitVec.toNat_ofInt]
  have h0 : (0 : Int) ≤ a % 4294967296 := by omega
  have h1 : a % 4294967296 < 4294967296 := by omega
  obtain ⟨n, hn2⟩ := Int.eq_ofNat_of_zero_le h0
  have e1 : (a % ((2 ^ 32 : Nat) : Int)) = (n : Int) := hn2
  rw [e1, hn2]
  have e2 : (n : Int) / 2 ^ kx = ((n / 2 ^ kx : Nat) : Int) := by simp
  rw [e2]
  have e3 : n / 2 ^ kx ≤ n := Nat.div_le_self _ _
  have e4 : ((n / 2 ^ kx : Nat) : Int) % ((2 ^ 32 : Nat) : Int) = ((n / 2 ^ kx : Nat) : Int) := by
    apply Int.emod_eq_of_lt (Int.natCast_nonneg _)
    have : n < 4294967296 := by omega
    show ((n / 2 ^ kx : Nat) : Int) < 4294967296
    omega
  rw [e4, Int.toNat_natCast, Int.toNat_natCast]
theorem J_andN (X : Ok G E cc own nL d) {a b : Nat} (q : Ins cc pc 1 pc2 (.iand)) (k : J G E pc2 L (vi ((a &&& b : Nat) : Int) :: st) M) : J G E pc L (vi (b : Int) :: vi (a : Int) :: st) M := by
  obtain ⟨p, l, e, R, s, m, args, below, meth, c, cells, slots, Q⟩ := E
  obtain ⟨hx9, hb, hml, hown, hK, hR, hce, hsl⟩ := X
  obtain ⟨q1, rfl⟩ := q
  intro H locs ls hw hs hl
  refine lv_iand hx9 hb q1 ?_
  rw [ofI_nat, ofI_nat, z_and, ← ofI_nat]
  exact k H locs ls hw hs hl
theorem J_orN (X : Ok G E cc own nL d) {a b : Nat} (q : Ins cc pc 1 pc2 (.ior)) (k : J G E pc2 L (vi ((a ||| b : Nat) : Int) :: st) M) : J G E pc L (vi (b : Int) :: vi (a : Int) :: st) M := by
  obtain ⟨p, l, e, R, s, m, args, below, meth, c, cells, slots, Q⟩ := E
  obtain ⟨hx9, hb, hml, hown, hK, hR, hce, hsl⟩ := X
  obtain ⟨q1, rfl⟩ := q
  intro H locs ls hw hs hl
  refine lv_ior hx9 hb q1 ?_
  rw [ofI_nat, ofI_nat, z_or, ← ofI_nat]
  exact k H locs ls hw hs hl
theorem J_xorm1 (X : Ok G E cc own nL d) {b : Int} (q : Ins cc pc 1 pc2 (.ixor)) (k : J G E pc2 L (vi (-b - 1) :: st) M) : J G E pc L (vi (-1) :: vi b :: st) M := by
  obtain ⟨p, l, e, R, s, m, args, below, meth, c, cells, slots, Q⟩ := E
  obtain ⟨hx9, hb, hml, hown, hK, hR, hce, hsl⟩ := X
  obtain ⟨q1, rfl⟩ := q
  intro H locs ls hw hs hl
  refine lv_ixor hx9 hb q1 ?_
  rw [show Int32.ofInt (-1) = -1 from rfl, z_not]
  exact k H locs ls hw hs hl
theorem J_andn (X : Ok G E cc own nL d) {a b : Nat} (q : Ins cc pc 1 pc2 (.iand)) (k : J G E pc2 L (vi ((a ^^^ (a &&& b) : Nat) : Int) :: st) M) : J G E pc L (vi (-(b : Int) - 1) :: vi (a : Int) :: st) M := by
  obtain ⟨p, l, e, R, s, m, args, below, meth, c, cells, slots, Q⟩ := E
  obtain ⟨hx9, hb, hml, hown, hK, hR, hce, hsl⟩ := X
  obtain ⟨q1, rfl⟩ := q
  intro H locs ls hw hs hl
  refine lv_iand hx9 hb q1 ?_
  rw [← z_not, ofI_nat, ofI_nat, z_andn, ← ofI_nat]
  exact k H locs ls hw hs hl
/-- any two, as the machine has it -/
theorem J_andG (X : Ok G E cc own nL d) {a b : Int} (q : Ins cc pc 1 pc2 (.iand)) (k : J G E pc2 L (vi ((Int32.ofInt a &&& Int32.ofInt b).toInt) :: st) M) : J G E pc L (vi b :: vi a :: st) M := by
  obtain ⟨p, l, e, R, s, m, args, below, meth, c, cells, slots, Q⟩ := E
  obtain ⟨hx9, hb, hml, hown, hK, hR, hce, hsl⟩ := X
  obtain ⟨q1, rfl⟩ := q
  intro H locs ls hw hs hl
  refine lv_iand hx9 hb q1 ?_
  have := k H locs ls hw hs hl
  rwa [vi, ofI_toI] at this
theorem J_alen (X : Ok G E cc own nL d) {f i n : Nat} (q : Ins cc pc 1 pc2 (.arraylength)) (hk : kd f = (1, n, [])) (hi : i < cnt f) (hn : n ≤ 2147483647) (k : J G E pc2 L (vi (n : Int) :: st) M) : J G E pc L (rf G f i :: st) M := by
  obtain ⟨p, l, e, R, s, m, args, below, meth, c, cells, slots, Q⟩ := E
  obtain ⟨hx9, hb, hml, hown, hK, hR, hce, hsl⟩ := X
  obtain ⟨q1, rfl⟩ := q
  intro H locs ls hw hs hl
  have hcell := hw f i hi
  rw [cellOf_i G M i hk] at hcell
  refine W.alen hx9 hb hcell ((hK.2.1.2 0 _ rfl).1 n (fun j => .int (Int32.ofInt (M f i j)))) ?_ rfl rfl q1 (k H locs ls hw hs hl)
  show (arrV _ _ _).slots.size.toInt32 = _
  rw [arrV_size, ofI_nat]
  rfl
theorem J_acopy (X : Ok G E cc own nL d) {ix f i f0 i0 n0 n1 : Nat} {sp dp n : Int} (q : Ins cc pc 3 pc2 (.invokestatic ix)) (hlk : Cond.methodLink own ix arraycopyName ∈ lw_k) (hwn : Cond.native arraycopyName ∈ lw_k ∧ Cond.static arraycopyName ∈ lw_k ∧ Cond.initialized "java/lang/System" ∈ lw_k) (hk0 : kd f0 = (1, n0, [])) (hk1 : kd f = (1, n1, [])) (hi0 : i0 < cnt f0) (hi : i < cnt f) (hL : L.length = nL) (hd : 2 ≤ d) (hst : (st.map fun v => v.category).sum ≤ 8)
    (h1 : 0 ≤ sp) (h2 : 0 ≤ dp) (h3 : 0 ≤ n) (h4 : sp + n ≤ n0) (h5 : dp + n ≤ n1) (hn0 : n0 ≤ 2147483647) (hn1 : n1 ≤ 2147483647)
    (k : J G E pc2 L st (upR M f i (va_cpy (M f0 i0) (M f i) sp.toNat dp.toNat n.toNat))) : J G E pc L (vi n :: vi dp :: rf G f i :: vi sp :: rf G f0 i0 :: st) M := by
  obtain ⟨p, l, e, R, s, m, args, below, meth, c, cells, slots, Q⟩ := E
  obtain ⟨hx9, hb, hml, hown, hK, hR, hce, hsl⟩ := X
  obtain ⟨q1, rfl⟩ := q
  intro H locs ls hw hs hl
  have e0 := cellOf_i G M i0 hk0
  have e1 := cellOf_i G M i hk1
  have hts : ∀ w ∈ lw_k, w.before args s = true := fun w h => hK.wk h args
  have nn : ∀ z : Int, 0 ≤ z → z ≤ 2147483647 → ¬ Int32.ofInt z < 0 := fun z a b c => by
    have := (i32_lt (a := z) (b := 0) (by omega) (by omega) (by omega) (by omega)).mp c
    omega
  have hloc : (st.map fun v => v.category).sum + (nativeFrameWords "java/lang/System" "arraycopy" 5 + 11) ≤ R.locals := by
    have : nativeFrameWords "java/lang/System" "arraycopy" 5 + 11 ≤ 56 := by decide +kernel
    omega
  obtain ⟨w0, hw0⟩ := fi_mem hi0
  obtain ⟨w1, hw1⟩ := fi_mem hi
  refine va_copyi hx9 hb (by rw [hml, hl.1, hL]) hown (hts _ hlk) (hts _ hwn.1) (hts _ hwn.2.1) (hts _ hwn.2.2) hK.2.1 (wl_P hw) (wl_D hK.2.2.1) hs w0 w1 0 0 (f := fun p => Int32.ofInt (M f0 i0 p)) (g := fun p => Int32.ofInt (M f i p)) (wl_at hw0 e0) (wl_at hw1 e1) rfl rfl rfl (nn sp h1 (by omega)) (nn dp h2 (by omega)) (nn n h3 (by omega)) (by rw [i32_cl h1 (by omega), i32_cl h3 (by omega)]; omega) (by rw [i32_cl h2 (by omega), i32_cl h3 (by omega)]; omega) (fun _ _ => rfl) (by omega) hloc q1 (fun H1 locs1 hP1 hD1 hS1 => ?_)
  rw [i32_cl h1 (by omega), i32_cl h2 (by omega), i32_cl h3 (by omega)] at hP1
  refine k H1 locs1 ls (wl_set hw1 hP1 ?_) hS1 hl
  rw [cellOf_i G _ i hk1]
  congr 4
  funext p
  simp only [upR, and_self, if_true, va_cpy]
  split <;> rfl
theorem min_code : cJ9_min_7cf53 = Lib.Math.min.code := by decide +kernel
theorem J_min (X : Ok G E cc own nL d) {ix n : Nat} {a b : Int} (q : Ins cc pc 3 pc2 (.invokestatic ix)) (hm : MLk own ix yJ9_min_7cf53 cJ9_min_7cf53 2 (some .int) n) (hpl : Cond.methodLink own ix yJ9_min_7cf53 ∈ lw_k) (hin : MSt yJ9_min_7cf53) (hL : L.length = nL) (hd : 1 ≤ d) (hst : (st.map fun v => v.category).sum ≤ 8) (a1 : -2147483648 ≤ a) (a2 : a < 2147483648) (b1 : -2147483648 ≤ b) (b2 : b < 2147483648) (k : J G E pc2 L (vi (min a b) :: st) M) : J G E pc L (vi b :: vi a :: st) M := by
  obtain ⟨p, l, e, R, s, m, args, below, meth, c, cells, slots, Q⟩ := E
  obtain ⟨hx9, hb, hml, hown, hK, hR, hce, hsl⟩ := X
  obtain ⟨q1, rfl⟩ := q
  obtain ⟨hcode, hlk, hini, hd2, hmL⟩ := hm
  have hts : ∀ w ∈ lw_k, w.before args s = true := fun w h => hK.wk h args
  intro H locs ls hw hs hl
  rw [min_code] at hcode
  refine va_mmin hx9 hb (by rw [hml, hl.1, hL]) hown (hts _ hpl) (hts _ hin) (hts _ hini) (hts _ hcode) (by omega) (by omega) hce hsl q1 ?_
  have e9 : (if Int32.ofInt b < Int32.ofInt a then Int32.ofInt b else Int32.ofInt a) = Int32.ofInt (min a b) := by
    split
    · next h => rw [i32_lt b1 b2 a1 a2] at h; congr 1; omega
    · next h => rw [i32_lt b1 b2 a1 a2] at h; congr 1; omega
  rw [e9]
  exact k H locs ls hw hs hl
theorem max_code : cJ9_max_7cf53 = Lib.Math.max.code := by decide +kernel
theorem J_max (X : Ok G E cc own nL d) {ix n : Nat} {a b : Int} (q : Ins cc pc 3 pc2 (.invokestatic ix)) (hm : MLk own ix yJ9_max_7cf53 cJ9_max_7cf53 2 (some .int) n) (hpl : Cond.methodLink own ix yJ9_max_7cf53 ∈ lw_k) (hin : MSt yJ9_max_7cf53) (hL : L.length = nL) (hd : 1 ≤ d) (hst : (st.map fun v => v.category).sum ≤ 8) (a1 : -2147483648 ≤ a) (a2 : a < 2147483648) (b1 : -2147483648 ≤ b) (b2 : b < 2147483648) (k : J G E pc2 L (vi (max a b) :: st) M) : J G E pc L (vi b :: vi a :: st) M := by
  obtain ⟨p, l, e, R, s, m, args, below, meth, c, cells, slots, Q⟩ := E
  obtain ⟨hx9, hb, hml, hown, hK, hR, hce, hsl⟩ := X
  obtain ⟨q1, rfl⟩ := q
  obtain ⟨hcode, hlk, hini, hd2, hmL⟩ := hm
  have hts : ∀ w ∈ lw_k, w.before args s = true := fun w h => hK.wk h args
  intro H locs ls hw hs hl
  rw [max_code] at hcode
  refine va_mmax hx9 hb (by rw [hml, hl.1, hL]) hown (hts _ hpl) (hts _ hin) (hts _ hini) (hts _ hcode) (by omega) (by omega) hce hsl q1 ?_
  have e9 : (if Int32.ofInt a < Int32.ofInt b then Int32.ofInt b else Int32.ofInt a) = Int32.ofInt (max a b) := by
    split
    · next h => rw [i32_lt a1 a2 b1 b2] at h; congr 1; omega
    · next h => rw [i32_lt a1 a2 b1 b2] at h; congr 1; omega
  rw [e9]
  exact k H locs ls hw hs hl
end LIB

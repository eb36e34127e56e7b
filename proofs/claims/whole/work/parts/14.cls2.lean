/-! ===== the class: shops, wills, purses ===== -/
def filN (M : Mem) (f s n : Nat) (v : Int) : Mem := upR M f s (fun p => if p < n then v else M f s p)
theorem lp_fill25 {l : Launch} {G : Gx} {E : Fx} {d : Nat} {M : Mem} {v : Int} {s : Nat} (hs : s < 14) (X : OkM l G E cJ7_fill_53178 RJ7 4 d none (VF (filN M 25 s 10 v))) : ∀ (n i : Nat), i ≤ 10 → 10 < i + n → J G E 5 [some (rf G 25 s), some (vi v), some (vi (i : Int)), some (vi (10 : Nat))] [] (filN M 25 s i v) := by
  have Y := X.ok
  intro n
  induction n with
  | zero => intro i h1 h2; exfalso; omega
  | succ n ih =>
    intro i h1 h2
    refine J_iload_2 Y qJ7_fill_53178_5 ?_
    refine J_iload_3 Y qJ7_fill_53178_6 ?_
    refine J_icmp_ge Y qJ7_fill_53178_7 (by omega) (by omega) (by omega) (by omega) (fun h7 => ?_) (fun h7 => ?_)
    · obtain rfl : i = 10 := by omega
      exact J_vret X qJ7_fill_53178_20 ⟨rfl, rfl⟩
    · refine J_aloadr_0 Y qJ7_fill_53178_10 ?_
      refine J_iload_2 Y qJ7_fill_53178_11 ?_
      refine J_iload_1 Y qJ7_fill_53178_12 ?_
      refine J_iastoreN (kx := i) Y qJ7_fill_53178_13 rfl (by show _ < 14; omega) rfl (by omega) (by decide) ?_
      rw [filN, upR_up, show (fun c => if c = i then v else if c < i then v else M 25 s c) = (fun c => if c < i + 1 then v else M 25 s c) from by funext c; grind]
      refine J_iinc_2 Y qJ7_fill_53178_14 rfl ?_
      refine J_goto Y qJ7_fill_53178_17 ?_
      exact ih (i + 1) (by omega) (by omega)

theorem c_fill25 (l : Launch) (G : Gx) (M : Mem) {v : Int} {s : Nat} (hs : s < 14)  : Ct l G 1 yJ7_fill_53178 cJ7_fill_53178 4 ((Option.none : Option Jvm.ClassFile.FieldType)) [rf G 25 s, vi v] M (VF (filN M 25 s 10 v)) := by
  refine Ct.of rfl (Nat.le_of_ble_eq_true rfl) rfl (fun E X => ?_)
  have Y := X.ok
  refine J_iconst Y qJ7_fill_53178_0 ?_
  refine J_istore_2 Y qJ7_fill_53178_1 rfl ?_
  refine J_aloadr_0 Y qJ7_fill_53178_2 ?_
  refine J_alen Y qJ7_fill_53178_3 rfl (by show _ < 14; omega) (by decide) ?_
  refine J_istore_3 Y qJ7_fill_53178_4 rfl ?_
  have h := lp_fill25 hs X 11 0 (by decide) (by decide)
  rwa [show filN M 25 s 0 v = M from by simp [filN, upR_self]] at h

theorem lp_fill26 {l : Launch} {G : Gx} {E : Fx} {d : Nat} {M : Mem} {v : Int} {s : Nat} (hs : s < 14) (X : OkM l G E cJ7_fill_53178 RJ7 4 d none (VF (filN M 26 s 10 v))) : ∀ (n i : Nat), i ≤ 10 → 10 < i + n → J G E 5 [some (rf G 26 s), some (vi v), some (vi (i : Int)), some (vi (10 : Nat))] [] (filN M 26 s i v) := by
  have Y := X.ok
  intro n
  induction n with
  | zero => intro i h1 h2; exfalso; omega
  | succ n ih =>
    intro i h1 h2
    refine J_iload_2 Y qJ7_fill_53178_5 ?_
    refine J_iload_3 Y qJ7_fill_53178_6 ?_
    refine J_icmp_ge Y qJ7_fill_53178_7 (by omega) (by omega) (by omega) (by omega) (fun h7 => ?_) (fun h7 => ?_)
    · obtain rfl : i = 10 := by omega
      exact J_vret X qJ7_fill_53178_20 ⟨rfl, rfl⟩
    · refine J_aloadr_0 Y qJ7_fill_53178_10 ?_
      refine J_iload_2 Y qJ7_fill_53178_11 ?_
      refine J_iload_1 Y qJ7_fill_53178_12 ?_
      refine J_iastoreN (kx := i) Y qJ7_fill_53178_13 rfl (by show _ < 14; omega) rfl (by omega) (by decide) ?_
      rw [filN, upR_up, show (fun c => if c = i then v else if c < i then v else M 26 s c) = (fun c => if c < i + 1 then v else M 26 s c) from by funext c; grind]
      refine J_iinc_2 Y qJ7_fill_53178_14 rfl ?_
      refine J_goto Y qJ7_fill_53178_17 ?_
      exact ih (i + 1) (by omega) (by omega)

theorem c_fill26 (l : Launch) (G : Gx) (M : Mem) {v : Int} {s : Nat} (hs : s < 14)  : Ct l G 1 yJ7_fill_53178 cJ7_fill_53178 4 ((Option.none : Option Jvm.ClassFile.FieldType)) [rf G 26 s, vi v] M (VF (filN M 26 s 10 v)) := by
  refine Ct.of rfl (Nat.le_of_ble_eq_true rfl) rfl (fun E X => ?_)
  have Y := X.ok
  refine J_iconst Y qJ7_fill_53178_0 ?_
  refine J_istore_2 Y qJ7_fill_53178_1 rfl ?_
  refine J_aloadr_0 Y qJ7_fill_53178_2 ?_
  refine J_alen Y qJ7_fill_53178_3 rfl (by show _ < 14; omega) (by decide) ?_
  refine J_istore_3 Y qJ7_fill_53178_4 rfl ?_
  have h := lp_fill26 hs X 11 0 (by decide) (by decide)
  rwa [show filN M 26 s 0 v = M from by simp [filN, upR_self]] at h

theorem lp_fill11 {l : Launch} {G : Gx} {E : Fx} {d : Nat} {M : Mem} {v : Int} (X : OkM l G E cJ7_fill_53178 RJ7 4 d none (VF (filN M 11 0 14 v))) : ∀ (n i : Nat), i ≤ 14 → 14 < i + n → J G E 5 [some (rf G 11 0), some (vi v), some (vi (i : Int)), some (vi (14 : Nat))] [] (filN M 11 0 i v) := by
  have Y := X.ok
  intro n
  induction n with
  | zero => intro i h1 h2; exfalso; omega
  | succ n ih =>
    intro i h1 h2
    refine J_iload_2 Y qJ7_fill_53178_5 ?_
    refine J_iload_3 Y qJ7_fill_53178_6 ?_
    refine J_icmp_ge Y qJ7_fill_53178_7 (by omega) (by omega) (by omega) (by omega) (fun h7 => ?_) (fun h7 => ?_)
    · obtain rfl : i = 14 := by omega
      exact J_vret X qJ7_fill_53178_20 ⟨rfl, rfl⟩
    · refine J_aloadr_0 Y qJ7_fill_53178_10 ?_
      refine J_iload_2 Y qJ7_fill_53178_11 ?_
      refine J_iload_1 Y qJ7_fill_53178_12 ?_
      refine J_iastoreN (kx := i) Y qJ7_fill_53178_13 rfl (by decide) rfl (by omega) (by decide) ?_
      rw [filN, upR_up, show (fun c => if c = i then v else if c < i then v else M 11 0 c) = (fun c => if c < i + 1 then v else M 11 0 c) from by funext c; grind]
      refine J_iinc_2 Y qJ7_fill_53178_14 rfl ?_
      refine J_goto Y qJ7_fill_53178_17 ?_
      exact ih (i + 1) (by omega) (by omega)

theorem c_fill11 (l : Launch) (G : Gx) (M : Mem) {v : Int}  : Ct l G 1 yJ7_fill_53178 cJ7_fill_53178 4 ((Option.none : Option Jvm.ClassFile.FieldType)) [rf G 11 0, vi v] M (VF (filN M 11 0 14 v)) := by
  refine Ct.of rfl (Nat.le_of_ble_eq_true rfl) rfl (fun E X => ?_)
  have Y := X.ok
  refine J_iconst Y qJ7_fill_53178_0 ?_
  refine J_istore_2 Y qJ7_fill_53178_1 rfl ?_
  refine J_aloadr_0 Y qJ7_fill_53178_2 ?_
  refine J_alen Y qJ7_fill_53178_3 rfl (by decide) (by decide) ?_
  refine J_istore_3 Y qJ7_fill_53178_4 rfl ?_
  have h := lp_fill11 X 15 0 (by decide) (by decide)
  rwa [show filN M 11 0 0 v = M from by simp [filN, upR_self]] at h

theorem lp_fill12 {l : Launch} {G : Gx} {E : Fx} {d : Nat} {M : Mem} {v : Int} (X : OkM l G E cJ7_fill_53178 RJ7 4 d none (VF (filN M 12 0 6 v))) : ∀ (n i : Nat), i ≤ 6 → 6 < i + n → J G E 5 [some (rf G 12 0), some (vi v), some (vi (i : Int)), some (vi (6 : Nat))] [] (filN M 12 0 i v) := by
  have Y := X.ok
  intro n
  induction n with
  | zero => intro i h1 h2; exfalso; omega
  | succ n ih =>
    intro i h1 h2
    refine J_iload_2 Y qJ7_fill_53178_5 ?_
    refine J_iload_3 Y qJ7_fill_53178_6 ?_
    refine J_icmp_ge Y qJ7_fill_53178_7 (by omega) (by omega) (by omega) (by omega) (fun h7 => ?_) (fun h7 => ?_)
    · obtain rfl : i = 6 := by omega
      exact J_vret X qJ7_fill_53178_20 ⟨rfl, rfl⟩
    · refine J_aloadr_0 Y qJ7_fill_53178_10 ?_
      refine J_iload_2 Y qJ7_fill_53178_11 ?_
      refine J_iload_1 Y qJ7_fill_53178_12 ?_
      refine J_iastoreN (kx := i) Y qJ7_fill_53178_13 rfl (by decide) rfl (by omega) (by decide) ?_
      rw [filN, upR_up, show (fun c => if c = i then v else if c < i then v else M 12 0 c) = (fun c => if c < i + 1 then v else M 12 0 c) from by funext c; grind]
      refine J_iinc_2 Y qJ7_fill_53178_14 rfl ?_
      refine J_goto Y qJ7_fill_53178_17 ?_
      exact ih (i + 1) (by omega) (by omega)

theorem c_fill12 (l : Launch) (G : Gx) (M : Mem) {v : Int}  : Ct l G 1 yJ7_fill_53178 cJ7_fill_53178 4 ((Option.none : Option Jvm.ClassFile.FieldType)) [rf G 12 0, vi v] M (VF (filN M 12 0 6 v)) := by
  refine Ct.of rfl (Nat.le_of_ble_eq_true rfl) rfl (fun E X => ?_)
  have Y := X.ok
  refine J_iconst Y qJ7_fill_53178_0 ?_
  refine J_istore_2 Y qJ7_fill_53178_1 rfl ?_
  refine J_aloadr_0 Y qJ7_fill_53178_2 ?_
  refine J_alen Y qJ7_fill_53178_3 rfl (by decide) (by decide) ?_
  refine J_istore_3 Y qJ7_fill_53178_4 rfl ?_
  have h := lp_fill12 X 7 0 (by decide) (by decide)
  rwa [show filN M 12 0 0 v = M from by simp [filN, upR_self]] at h

theorem c_giveAll25 (l : Launch) (G : Gx) (M : Mem) {s p : Nat} (hs : s < 14) (hp : p < 10) : Ct l G 2 yX8_giveAll cX8_giveAll 2 ((Option.none : Option Jvm.ClassFile.FieldType)) [rf G 25 s, vi (p : Nat)] M (VF (giv M 25 s p)) := by
  refine Ct.of rfl (Nat.le_of_ble_eq_true rfl) rfl (fun E X => ?_)
  have Y := X.ok
  refine J_aloadr_0 Y qX8_giveAll_0 ?_
  refine J_iconst Y qX8_giveAll_1 ?_
  refine J_cS2W Y qX8_giveAll_2 mX8_308 iyJ7_fill_53178 rfl (by decide) rfl (Nat.le_of_ble_eq_true rfl) (c_fill25 _ _ _ hs) ?_
  refine J_aloadr_0 Y qX8_giveAll_5 ?_
  refine J_iload_1 Y qX8_giveAll_6 ?_
  refine J_sipush Y qX8_giveAll_7 (by decide) ?_
  refine J_iastoreN (kx := p) Y qX8_giveAll_10 rfl (by show _ < 14; omega) rfl (by omega) (by decide) ?_
  exact J_vret X qX8_giveAll_11 ⟨rfl, rfl⟩

theorem c_giveAll26 (l : Launch) (G : Gx) (M : Mem) {s p : Nat} (hs : s < 14) (hp : p < 10) : Ct l G 2 yX8_giveAll cX8_giveAll 2 ((Option.none : Option Jvm.ClassFile.FieldType)) [rf G 26 s, vi (p : Nat)] M (VF (giv M 26 s p)) := by
  refine Ct.of rfl (Nat.le_of_ble_eq_true rfl) rfl (fun E X => ?_)
  have Y := X.ok
  refine J_aloadr_0 Y qX8_giveAll_0 ?_
  refine J_iconst Y qX8_giveAll_1 ?_
  refine J_cS2W Y qX8_giveAll_2 mX8_308 iyJ7_fill_53178 rfl (by decide) rfl (Nat.le_of_ble_eq_true rfl) (c_fill26 _ _ _ hs) ?_
  refine J_aloadr_0 Y qX8_giveAll_5 ?_
  refine J_iload_1 Y qX8_giveAll_6 ?_
  refine J_sipush Y qX8_giveAll_7 (by decide) ?_
  refine J_iastoreN (kx := p) Y qX8_giveAll_10 rfl (by show _ < 14; omega) rfl (by omega) (by decide) ?_
  exact J_vret X qX8_giveAll_11 ⟨rfl, rfl⟩

theorem c_found (l : Launch) (G : Gx) (M : Mem) {s p : Nat} {a b : Int} (hs : s < 14) (hp : p < 10) : Ct l G 3 yX5_found cX5_found 4 ((Option.none : Option Jvm.ClassFile.FieldType)) [rf G 5 s, vi a, vi b, vi (p : Nat)] M (VF (giv (giv (up (up M 5 s 0 a) 5 s 1 b) 25 s p) 26 s p)) := by
  refine Ct.of rfl (Nat.le_of_ble_eq_true rfl) rfl (fun E X => ?_)
  have Y := X.ok
  refine J_aloadr_0 Y qX5_found_0 ?_
  refine J_iload_1 Y qX5_found_1 ?_
  refine J_putI Y qX5_found_2 fX5_9w (by show _ < 14; omega) ?_
  refine J_aloadr_0 Y qX5_found_5 ?_
  refine J_iload_2 Y qX5_found_6 ?_
  refine J_putI Y qX5_found_7 fX5_15w (by show _ < 14; omega) ?_
  refine J_aloadr_0 Y qX5_found_10 ?_
  refine J_getR Y qX5_found_11 fX5_24 (by show _ < 14; omega) ?_
  refine J_iload_3 Y qX5_found_14 ?_
  refine J_cS2W Y qX5_found_15 mX5_52 iyX8_giveAll rfl (by decide) rfl (Nat.le_of_ble_eq_true rfl) (c_giveAll25 _ _ _ hs hp) ?_
  refine J_aloadr_0 Y qX5_found_18 ?_
  refine J_getR Y qX5_found_19 fX5_28 (by show _ < 14; omega) ?_
  refine J_iload_3 Y qX5_found_22 ?_
  refine J_cS2W Y qX5_found_23 mX5_52 iyX8_giveAll rfl (by decide) rfl (Nat.le_of_ble_eq_true rfl) (c_giveAll26 _ _ _ hs hp) ?_
  exact J_vret X qX5_found_26 ⟨rfl, rfl⟩

theorem c_partsOf0 (l : Launch) (G : Gx) (M : Mem) {s : Nat} (hs : s < 14) : Ct l G 1 yX5_partsOf cX5_partsOf 2 ((Option.some (Jvm.ClassFile.FieldType.array Jvm.ClassFile.FieldType.int))) [rf G 5 s, vi 0] M (RR G M 25 s) := by
  refine Ct.of rfl (Nat.le_of_ble_eq_true rfl) rfl (fun E X => ?_)
  have Y := X.ok
  refine J_iload_1 Y qX5_partsOf_0 ?_
  refine J_ne0 Y qX5_partsOf_1 ?_
  refine J_aloadr_0 Y qX5_partsOf_4 ?_
  refine J_getR Y qX5_partsOf_5 fX5_24 (by show _ < 14; omega) ?_
  refine J_goto Y qX5_partsOf_8 ?_
  exact J_rret X qX5_partsOf_15 (Or.inr ⟨_, rfl⟩) rfl

theorem c_partsOf1 (l : Launch) (G : Gx) (M : Mem) {s : Nat} (hs : s < 14) : Ct l G 1 yX5_partsOf cX5_partsOf 2 ((Option.some (Jvm.ClassFile.FieldType.array Jvm.ClassFile.FieldType.int))) [rf G 5 s, vi 1] M (RR G M 26 s) := by
  refine Ct.of rfl (Nat.le_of_ble_eq_true rfl) rfl (fun E X => ?_)
  have Y := X.ok
  refine J_iload_1 Y qX5_partsOf_0 ?_
  refine J_ne1 Y qX5_partsOf_1 ?_
  refine J_aloadr_0 Y qX5_partsOf_11 ?_
  refine J_getR Y qX5_partsOf_12 fX5_28 (by show _ < 14; omega) ?_
  exact J_rret X qX5_partsOf_15 (Or.inr ⟨_, rfl⟩) rfl

theorem c_isLet (l : Launch) (G : Gx) (M : Mem) {s : Nat} (hs : s < 14) (h1 : -1 ≤ M 5 s 6) (h2 : M 5 s 6 ≤ 9) : Ct l G 1 yX5_isLet cX5_isLet 1 ((Option.some Jvm.ClassFile.FieldType.boolean)) [rf G 5 s] M (RB M (M 5 s 6 ≠ -1)) := by
  refine Ct.of rfl (Nat.le_of_ble_eq_true rfl) rfl (fun E X => ?_)
  have Y := X.ok
  refine J_aloadr_0 Y qX5_isLet_0 ?_
  refine J_getI Y qX5_isLet_1 fX5_31 (by show _ < 14; omega) ?_
  refine J_iconst Y qX5_isLet_4 ?_
  refine J_icmp_eq Y qX5_isLet_5 (by omega) (by omega) (by omega) (by omega) (fun h5 => ?_) (fun h5 => ?_)
  · refine J_iconst Y qX5_isLet_12 ?_
    exact J_zret_f X qX5_isLet_13 rfl (by omega)
  · refine J_iconst Y qX5_isLet_8 ?_
    refine J_goto Y qX5_isLet_9 ?_
    exact J_zret_t X qX5_isLet_13 rfl (by omega)

def lett (M : Mem) (s : Nat) (p t r : Int) : Mem := up (up (up M 5 s 6 p) 5 s 7 t) 5 s 8 r
theorem c_beginLet (l : Launch) (G : Gx) (M : Mem) {s : Nat} {p t r : Int} (hs : s < 14) : Ct l G 1 yX5_beginLet cX5_beginLet 4 ((Option.none : Option Jvm.ClassFile.FieldType)) [rf G 5 s, vi p, vi t, vi r] M (VF (lett M s p t r)) := by
  refine Ct.of rfl (Nat.le_of_ble_eq_true rfl) rfl (fun E X => ?_)
  have Y := X.ok
  refine J_aloadr_0 Y qX5_beginLet_0 ?_
  refine J_iload_1 Y qX5_beginLet_1 ?_
  refine J_putI Y qX5_beginLet_2 fX5_31w (by show _ < 14; omega) ?_
  refine J_aloadr_0 Y qX5_beginLet_5 ?_
  refine J_iload_2 Y qX5_beginLet_6 ?_
  refine J_putI Y qX5_beginLet_7 fX5_34w (by show _ < 14; omega) ?_
  refine J_aloadr_0 Y qX5_beginLet_10 ?_
  refine J_iload_3 Y qX5_beginLet_11 ?_
  refine J_putI Y qX5_beginLet_12 fX5_37w (by show _ < 14; omega) ?_
  exact J_vret X qX5_beginLet_15 ⟨rfl, rfl⟩

theorem c_endLet (l : Launch) (G : Gx) (M : Mem) {s : Nat} (hs : s < 14) : Ct l G 2 yX5_endLet cX5_endLet 1 ((Option.none : Option Jvm.ClassFile.FieldType)) [rf G 5 s] M (VF (lett M s (-1) (-1) (-1))) := by
  refine Ct.of rfl (Nat.le_of_ble_eq_true rfl) rfl (fun E X => ?_)
  have Y := X.ok
  refine J_aloadr_0 Y qX5_endLet_0 ?_
  refine J_iconst Y qX5_endLet_1 ?_
  refine J_iconst Y qX5_endLet_2 ?_
  refine J_iconst Y qX5_endLet_3 ?_
  refine J_cV3W Y qX5_endLet_4 mX5_56 iyX5_beginLet (by show _ < 14; omega) rfl (by decide) rfl (Nat.le_of_ble_eq_true rfl) (c_beginLet _ _ _ (by omega)) ?_
  exact J_vret X qX5_endLet_7 ⟨rfl, rfl⟩

theorem lp_allDebts {l : Launch} {G : Gx} {E : Fx} {d : Nat} {M : Mem} {s k : Nat} (hs : s < 14) (hk : M 5 s 11 = (k : Int)) (hk8 : k ≤ 8) (X : OkM l G E cX5_allDebts RX5 3 d (some .int) (RP M (sumN (M 28 s) k))) : ∀ (n i : Nat), i ≤ k → k < i + n → J G E 4 [some (rf G 5 s), some (vi (sumN (M 28 s) i)), some (vi (i : Int))] [] M := by
  have Y := X.ok
  intro n
  induction n with
  | zero => intro i h1 h2; exfalso; omega
  | succ n ih =>
    intro i h1 h2
    refine J_iload_2 Y qX5_allDebts_4 ?_
    refine J_aloadr_0 Y qX5_allDebts_5 ?_
    refine J_getI Y qX5_allDebts_6 fX5_46 (by show _ < 14; omega) ?_
    refine J_icmp_ge Y qX5_allDebts_9 (by omega) (by omega) (by omega) (by omega) (fun h9 => ?_) (fun h9 => ?_)
    · obtain rfl : i = k := by omega
      refine J_iload_1 Y qX5_allDebts_27 ?_
      exact J_iret X qX5_allDebts_28 (RP_i rfl)
    · refine J_iload_1 Y qX5_allDebts_12 ?_
      refine J_aloadr_0 Y qX5_allDebts_13 ?_
      refine J_getR Y qX5_allDebts_14 fX5_43 (by show _ < 14; omega) ?_
      refine J_iload_2 Y qX5_allDebts_17 ?_
      refine J_ialoadN (kx := i) Y qX5_allDebts_18 rfl (by show _ < 14; omega) rfl (by omega) (by decide) ?_
      refine J_iadd Y qX5_allDebts_19 ?_
      refine J_istore_1 Y qX5_allDebts_20 rfl ?_
      refine J_iinc_2 Y qX5_allDebts_21 rfl ?_
      refine J_goto Y qX5_allDebts_24 ?_
      exact ih (i + 1) (by omega) (by omega)

theorem c_allDebts (l : Launch) (G : Gx) (M : Mem) {s k : Nat} (hs : s < 14) (hk : M 5 s 11 = (k : Int)) (hk8 : k ≤ 8) : Ct l G 1 yX5_allDebts cX5_allDebts 3 ((Option.some Jvm.ClassFile.FieldType.int)) [rf G 5 s] M (RP M (sumN (M 28 s) k)) := by
  refine Ct.of rfl (Nat.le_of_ble_eq_true rfl) rfl (fun E X => ?_)
  have Y := X.ok
  refine J_iconst Y qX5_allDebts_0 ?_
  refine J_istore_1 Y qX5_allDebts_1 rfl ?_
  refine J_iconst Y qX5_allDebts_2 ?_
  refine J_istore_2 Y qX5_allDebts_3 rfl ?_
  exact lp_allDebts hs hk hk8 X (k + 1) 0 (by omega) (by omega)

theorem lp_allWeights {l : Launch} {G : Gx} {E : Fx} {d : Nat} {M : Mem} {s k : Nat} (hs : s < 10) (hk : M 7 s 2 = (k : Int)) (hk8 : k ≤ 4) (X : OkM l G E cX7_allWeights RX7 3 d (some .int) (RP M (sumN (M 31 s) k))) : ∀ (n i : Nat), i ≤ k → k < i + n → J G E 4 [some (rf G 7 s), some (vi (sumN (M 31 s) i)), some (vi (i : Int))] [] M := by
  have Y := X.ok
  intro n
  induction n with
  | zero => intro i h1 h2; exfalso; omega
  | succ n ih =>
    intro i h1 h2
    refine J_iload_2 Y qX7_allWeights_4 ?_
    refine J_aloadr_0 Y qX7_allWeights_5 ?_
    refine J_getI Y qX7_allWeights_6 fX7_18 (by show _ < 10; omega) ?_
    refine J_icmp_ge Y qX7_allWeights_9 (by omega) (by omega) (by omega) (by omega) (fun h9 => ?_) (fun h9 => ?_)
    · obtain rfl : i = k := by omega
      refine J_iload_1 Y qX7_allWeights_27 ?_
      exact J_iret X qX7_allWeights_28 (RP_i rfl)
    · refine J_iload_1 Y qX7_allWeights_12 ?_
      refine J_aloadr_0 Y qX7_allWeights_13 ?_
      refine J_getR Y qX7_allWeights_14 fX7_15 (by show _ < 10; omega) ?_
      refine J_iload_2 Y qX7_allWeights_17 ?_
      refine J_ialoadN (kx := i) Y qX7_allWeights_18 rfl (by show _ < 10; omega) rfl (by omega) (by decide) ?_
      refine J_iadd Y qX7_allWeights_19 ?_
      refine J_istore_1 Y qX7_allWeights_20 rfl ?_
      refine J_iinc_2 Y qX7_allWeights_21 rfl ?_
      refine J_goto Y qX7_allWeights_24 ?_
      exact ih (i + 1) (by omega) (by omega)

theorem c_allWeights (l : Launch) (G : Gx) (M : Mem) {s k : Nat} (hs : s < 10) (hk : M 7 s 2 = (k : Int)) (hk8 : k ≤ 4) : Ct l G 1 yX7_allWeights cX7_allWeights 3 ((Option.some Jvm.ClassFile.FieldType.int)) [rf G 7 s] M (RP M (sumN (M 31 s) k)) := by
  refine Ct.of rfl (Nat.le_of_ble_eq_true rfl) rfl (fun E X => ?_)
  have Y := X.ok
  refine J_iconst Y qX7_allWeights_0 ?_
  refine J_istore_1 Y qX7_allWeights_1 rfl ?_
  refine J_iconst Y qX7_allWeights_2 ?_
  refine J_istore_2 Y qX7_allWeights_3 rfl ?_
  exact lp_allWeights hs hk hk8 X (k + 1) 0 (by omega) (by omega)

def addP (M : Mem) (s k : Nat) (a b : Int) : Mem := up (up (up M 27 s k a) 28 s k b) 5 s 11 (k + 1)
theorem c_addPawn (l : Launch) (G : Gx) (M : Mem) {s k : Nat} {a b : Int} (hs : s < 14) (hk : M 5 s 11 = (k : Int)) (hk8 : k < 8) : Ct l G 1 yX5_addPawn cX5_addPawn 3 ((Option.none : Option Jvm.ClassFile.FieldType)) [rf G 5 s, vi a, vi b] M (VF (addP M s k a b)) := by
  refine Ct.of rfl (Nat.le_of_ble_eq_true rfl) rfl (fun E X => ?_)
  have Y := X.ok
  refine J_aloadr_0 Y qX5_addPawn_0 ?_
  refine J_getR Y qX5_addPawn_1 fX5_40 (by show _ < 14; omega) ?_
  refine J_aloadr_0 Y qX5_addPawn_4 ?_
  refine J_getI Y qX5_addPawn_5 fX5_46 (by show _ < 14; omega) ?_
  rw [hk]
  refine J_iload_1 Y qX5_addPawn_8 ?_
  refine J_iastoreN (kx := k) Y qX5_addPawn_9 rfl (by show _ < 14; omega) rfl (by omega) (by decide) ?_
  refine J_aloadr_0 Y qX5_addPawn_10 ?_
  refine J_getR Y qX5_addPawn_11 fX5_43 (by show _ < 14; omega) ?_
  refine J_aloadr_0 Y qX5_addPawn_14 ?_
  refine J_getI Y qX5_addPawn_15 fX5_46 (by show _ < 14; omega) ?_
  rw [show up M 27 s k a 5 s 11 = (k : Int) from by simp [up, hk]]
  refine J_iload_2 Y qX5_addPawn_18 ?_
  refine J_iastoreN (kx := k) Y qX5_addPawn_19 rfl (by show _ < 14; omega) rfl (by omega) (by decide) ?_
  refine J_aloadr_0 Y qX5_addPawn_20 ?_
  refine J_dup Y qX5_addPawn_21 rfl ?_
  refine J_getI Y qX5_addPawn_22 fX5_46 (by show _ < 14; omega) ?_
  rw [show up (up M 27 s k a) 28 s k b 5 s 11 = (k : Int) from by simp [up, hk]]
  refine J_iconst Y qX5_addPawn_25 ?_
  refine J_iadd Y qX5_addPawn_26 ?_
  refine J_putI Y qX5_addPawn_27 fX5_46w (by show _ < 14; omega) ?_
  exact J_vret X qX5_addPawn_30 ⟨rfl, rfl⟩

def addH (M : Mem) (w k : Nat) (a b : Int) : Mem := up (up (up M 30 w k a) 31 w k b) 7 w 2 (k + 1)
theorem c_willAdd (l : Launch) (G : Gx) (M : Mem) {s k : Nat} {a b : Int} (hs : s < 10) (hk : M 7 s 2 = (k : Int)) (hk8 : k < 4) : Ct l G 1 yX7_add cX7_add 3 ((Option.none : Option Jvm.ClassFile.FieldType)) [rf G 7 s, vi a, vi b] M (VF (addH M s k a b)) := by
  refine Ct.of rfl (Nat.le_of_ble_eq_true rfl) rfl (fun E X => ?_)
  have Y := X.ok
  refine J_aloadr_0 Y qX7_add_0 ?_
  refine J_getR Y qX7_add_1 fX7_9 (by show _ < 10; omega) ?_
  refine J_aloadr_0 Y qX7_add_4 ?_
  refine J_getI Y qX7_add_5 fX7_18 (by show _ < 10; omega) ?_
  rw [hk]
  refine J_iload_1 Y qX7_add_8 ?_
  refine J_iastoreN (kx := k) Y qX7_add_9 rfl (by show _ < 10; omega) rfl (by omega) (by decide) ?_
  refine J_aloadr_0 Y qX7_add_10 ?_
  refine J_getR Y qX7_add_11 fX7_15 (by show _ < 10; omega) ?_
  refine J_aloadr_0 Y qX7_add_14 ?_
  refine J_getI Y qX7_add_15 fX7_18 (by show _ < 10; omega) ?_
  rw [show up M 30 s k a 7 s 2 = (k : Int) from by simp [up, hk]]
  refine J_iload_2 Y qX7_add_18 ?_
  refine J_iastoreN (kx := k) Y qX7_add_19 rfl (by show _ < 10; omega) rfl (by omega) (by decide) ?_
  refine J_aloadr_0 Y qX7_add_20 ?_
  refine J_dup Y qX7_add_21 rfl ?_
  refine J_getI Y qX7_add_22 fX7_18 (by show _ < 10; omega) ?_
  rw [show up (up M 30 s k a) 31 s k b 7 s 2 = (k : Int) from by simp [up, hk]]
  refine J_iconst Y qX7_add_25 ?_
  refine J_iadd Y qX7_add_26 ?_
  refine J_putI Y qX7_add_27 fX7_18w (by show _ < 10; omega) ?_
  exact J_vret X qX7_add_30 ⟨rfl, rfl⟩

theorem lp_names {l : Launch} {G : Gx} {E : Fx} {d : Nat} {M : Mem} {s k : Nat} {p : Int} (hs : s < 10) (hk : M 7 s 2 = (k : Int)) (hk8 : k ≤ 4) (hr : ∀ j, j < k → 0 ≤ M 30 s j ∧ M 30 s j ≤ 9) (p1 : 0 ≤ p) (p2 : p ≤ 9) (X : OkM l G E cX7_names RX7 3 d (some .boolean) (RB M (∃ j, j < k ∧ M 30 s j = p))) : ∀ (n i : Nat), i ≤ k → k < i + n → (∀ j, j < i → ¬ M 30 s j = p) → J G E 2 [some (rf G 7 s), some (vi p), some (vi (i : Int))] [] M := by
  have Y := X.ok
  intro n
  induction n with
  | zero => intro i h1 h2 h3; exfalso; omega
  | succ n ih =>
    intro i h1 h2 h3
    refine J_iload_2 Y qX7_names_2 ?_
    refine J_aloadr_0 Y qX7_names_3 ?_
    refine J_getI Y qX7_names_4 fX7_18 (by show _ < 10; omega) ?_
    refine J_icmp_ge Y qX7_names_7 (by omega) (by omega) (by omega) (by omega) (fun h7 => ?_) (fun h7 => ?_)
    · obtain rfl : i = k := by omega
      refine J_iconst Y qX7_names_28 ?_
      exact J_zret_f X qX7_names_29 rfl (fun ⟨j, h4, h5⟩ => h3 j h4 h5)
    · refine J_aloadr_0 Y qX7_names_10 ?_
      refine J_getR Y qX7_names_11 fX7_9 (by show _ < 10; omega) ?_
      refine J_iload_2 Y qX7_names_14 ?_
      refine J_ialoadN (kx := i) Y qX7_names_15 rfl (by show _ < 10; omega) rfl (by omega) (by decide) ?_
      have hri := hr i (by omega)
      refine J_iload_1 Y qX7_names_16 ?_
      refine J_icmp_ne Y qX7_names_17 (by omega) (by omega) (by omega) (by omega) (fun h17 => ?_) (fun h17 => ?_)
      · refine J_iinc_2 Y qX7_names_22 rfl ?_
        refine J_goto Y qX7_names_25 ?_
        exact ih (i + 1) (by omega) (by omega) (fun j hj => by
          by_cases e : j = i
          · subst e; assumption
          · exact h3 j (by omega))
      · skip
        refine J_iconst Y qX7_names_20 ?_
        exact J_zret_t X qX7_names_21 rfl ⟨i, by omega, by omega⟩

theorem c_names (l : Launch) (G : Gx) (M : Mem) {s k : Nat} {p : Int} (hs : s < 10) (hk : M 7 s 2 = (k : Int)) (hk8 : k ≤ 4) (hr : ∀ j, j < k → 0 ≤ M 30 s j ∧ M 30 s j ≤ 9) (p1 : 0 ≤ p) (p2 : p ≤ 9) : Ct l G 1 yX7_names cX7_names 3 ((Option.some Jvm.ClassFile.FieldType.boolean)) [rf G 7 s, vi p] M (RB M (∃ j, j < k ∧ M 30 s j = p)) := by
  refine Ct.of rfl (Nat.le_of_ble_eq_true rfl) rfl (fun E X => ?_)
  have Y := X.ok
  refine J_iconst Y qX7_names_0 ?_
  refine J_istore_2 Y qX7_names_1 rfl ?_
  exact lp_names hs hk hk8 hr p1 p2 X (k + 1) 0 (by omega) (by omega) (fun j hj => by omega)

def drpS (M : Mem) (s i t : Nat) : Mem := upR (upR M 27 s (shf (M 27 s) i t)) 28 s (shf (M 28 s) i t)
def drp (M : Mem) (s i n : Nat) : Mem := up (drpS M s i n) 5 s 11 ((n : Int) - 1)
theorem drpS_step (M : Mem) (s g t : Nat) (hg : g ≤ t) : up (up (drpS M s g (t + 1)) 27 s t (M 27 s (t + 1))) 28 s t (M 28 s (t + 1)) = drpS M s g (t + 2) := by
  funext a b c
  simp only [drpS, up, upR, shf]
  grind
theorem drpS_27 (M : Mem) (s g t : Nat) : drpS M s g t 27 s t = M 27 s t := by simp only [drpS, upR, shf]; grind
theorem drpS_5 (M : Mem) (s g t j : Nat) : drpS M s g t 5 s j = M 5 s j := by simp [drpS, upR]

theorem lp_dropPawn {l : Launch} {G : Gx} {E : Fx} {d : Nat} {M : Mem} {s k g : Nat} (hs : s < 14) (hk : M 5 s 11 = (k : Int)) (hk8 : k ≤ 8) (hg : g < k) (X : OkM l G E cX5_dropPawn RX5 3 d (none) (VF (drp M s g k))) : ∀ (n i : Nat), g ≤ i → i + 1 ≤ k → k < i + 1 + n → J G E 4 [some (rf G 5 s), some (vi (g : Int)), some (vi ((i : Int) + 1))] [] (drpS M s g (i + 1)) := by
  have Y := X.ok
  intro n
  induction n with
  | zero => intro i h0 h1 h2; exfalso; omega
  | succ n ih =>
    intro i h0 h1 h2
    refine J_iload_2 Y qX5_dropPawn_4 ?_
    refine J_aloadr_0 Y qX5_dropPawn_5 ?_
    refine J_getI Y qX5_dropPawn_6 fX5_46 (by show _ < 14; omega) ?_
    rw [drpS_5]
    refine J_icmp_ge Y qX5_dropPawn_9 (by omega) (by omega) (by omega) (by omega) (fun h9 => ?_) (fun h9 => ?_)
    · refine J_aloadr_0 Y qX5_dropPawn_46 ?_
      refine J_dup Y qX5_dropPawn_47 rfl ?_
      refine J_getI Y qX5_dropPawn_48 fX5_46 (by show _ < 14; omega) ?_
      obtain rfl : i + 1 = k := by omega
      rw [drpS_5, hk]
      refine J_iconst Y qX5_dropPawn_51 ?_
      refine J_isub Y qX5_dropPawn_52 ?_
      refine J_putI Y qX5_dropPawn_53 fX5_46w (by show _ < 14; omega) ?_
      exact J_vret X qX5_dropPawn_56 ⟨rfl, rfl⟩
    · refine J_aloadr_0 Y qX5_dropPawn_12 ?_
      refine J_getR Y qX5_dropPawn_13 fX5_40 (by show _ < 14; omega) ?_
      refine J_iload_2 Y qX5_dropPawn_16 ?_
      refine J_iconst Y qX5_dropPawn_17 ?_
      refine J_isub Y qX5_dropPawn_18 ?_
      refine J_aloadr_0 Y qX5_dropPawn_19 ?_
      refine J_getR Y qX5_dropPawn_20 fX5_40 (by show _ < 14; omega) ?_
      refine J_iload_2 Y qX5_dropPawn_23 ?_
      refine J_iaload Y qX5_dropPawn_24 rfl (by show _ < 14; omega) (by omega) (by omega) (by decide) ?_
      rw [show drpS M s g (i + 1) 27 s ((i : Int) + 1).toNat = M 27 s (i + 1) from by rw [show ((i : Int) + 1).toNat = i + 1 by omega]; exact drpS_27 M s g (i + 1), show (i : Int) + 1 - 1 = (i : Int) by omega]
      refine J_iastoreN (kx := i) Y qX5_dropPawn_25 rfl (by show _ < 14; omega) rfl (by omega) (by decide) ?_
      refine J_aloadr_0 Y qX5_dropPawn_26 ?_
      refine J_getR Y qX5_dropPawn_27 fX5_43 (by show _ < 14; omega) ?_
      refine J_iload_2 Y qX5_dropPawn_30 ?_
      refine J_iconst Y qX5_dropPawn_31 ?_
      refine J_isub Y qX5_dropPawn_32 ?_
      refine J_aloadr_0 Y qX5_dropPawn_33 ?_
      refine J_getR Y qX5_dropPawn_34 fX5_43 (by show _ < 14; omega) ?_
      refine J_iload_2 Y qX5_dropPawn_37 ?_
      refine J_iaload Y qX5_dropPawn_38 rfl (by show _ < 14; omega) (by omega) (by omega) (by decide) ?_
      rw [show up (drpS M s g (i + 1)) 27 s i (M 27 s (i + 1)) 28 s ((i : Int) + 1).toNat = M 28 s (i + 1) from by rw [show ((i : Int) + 1).toNat = i + 1 by omega]; simp only [up, drpS, upR, shf]; grind, show (i : Int) + 1 - 1 = (i : Int) by omega]
      refine J_iastoreN (kx := i) Y qX5_dropPawn_39 rfl (by show _ < 14; omega) rfl (by omega) (by decide) ?_
      refine J_iinc_2 Y qX5_dropPawn_40 rfl ?_
      refine J_goto Y qX5_dropPawn_43 ?_
      rw [drpS_step M s g i (by omega)]
      exact ih (i + 1) (by omega) (by omega) (by omega)

theorem c_dropPawn (l : Launch) (G : Gx) (M : Mem) {s k g : Nat} (hs : s < 14) (hk : M 5 s 11 = (k : Int)) (hk8 : k ≤ 8) (hg : g < k) : Ct l G 1 yX5_dropPawn cX5_dropPawn 3 ((Option.none : Option Jvm.ClassFile.FieldType)) [rf G 5 s, vi (g : Nat)] M (VF (drp M s g k)) := by
  refine Ct.of rfl (Nat.le_of_ble_eq_true rfl) rfl (fun E X => ?_)
  have Y := X.ok
  refine J_iload_1 Y qX5_dropPawn_0 ?_
  refine J_iconst Y qX5_dropPawn_1 ?_
  refine J_iadd Y qX5_dropPawn_2 ?_
  refine J_istore_2 Y qX5_dropPawn_3 rfl ?_
  have h := lp_dropPawn hs hk hk8 hg X k g (by omega) (by omega) (by omega)
  rwa [show drpS M s g (g + 1) = M from by funext a b c; simp only [drpS, upR, shf]; grind] at h

def psd (M : Mem) (s n : Nat) (a b : Int) : Mem := upR M 27 s (fun j => if j < n ∧ M 27 s j = a then b else M 27 s j)
theorem psd_t (M : Mem) (s i : Nat) (a b : Int) (h : M 27 s i = a) : up (psd M s i a b) 27 s i b = psd M s (i + 1) a b := by
  funext x y z
  simp only [psd, up, upR]
  grind
theorem psd_f (M : Mem) (s i : Nat) (a b : Int) (h : ¬ M 27 s i = a) : psd M s i a b = psd M s (i + 1) a b := by
  funext x y z
  simp only [psd, upR]
  grind

theorem lp_passDebts {l : Launch} {G : Gx} {E : Fx} {d : Nat} {M : Mem} {s k : Nat} {a b : Int} (hs : s < 14) (hk : M 5 s 11 = (k : Int)) (hk8 : k ≤ 8) (hr : ∀ j, j < k → 0 ≤ M 27 s j ∧ M 27 s j ≤ 9) (a1 : 0 ≤ a) (a2 : a ≤ 9) (X : OkM l G E cX5_passDebts RX5 4 d (none) (VF (psd M s k a b))) : ∀ (n i : Nat), i ≤ k → k < i + n → J G E 2 [some (rf G 5 s), some (vi a), some (vi b), some (vi (i : Int))] [] (psd M s i a b) := by
  have Y := X.ok
  intro n
  induction n with
  | zero => intro i h1 h2; exfalso; omega
  | succ n ih =>
    intro i h1 h2
    refine J_iload_3 Y qX5_passDebts_2 ?_
    refine J_aloadr_0 Y qX5_passDebts_3 ?_
    refine J_getI Y qX5_passDebts_4 fX5_46 (by show _ < 14; omega) ?_
    rw [show psd M s i a b 5 s 11 = (k : Int) from by simp [psd, upR, hk]]
    refine J_icmp_ge Y qX5_passDebts_7 (by omega) (by omega) (by omega) (by omega) (fun h7 => ?_) (fun h7 => ?_)
    · obtain rfl : i = k := by omega
      exact J_vret X qX5_passDebts_33 ⟨rfl, rfl⟩
    · refine J_aloadr_0 Y qX5_passDebts_10 ?_
      refine J_getR Y qX5_passDebts_11 fX5_40 (by show _ < 14; omega) ?_
      refine J_iload_3 Y qX5_passDebts_14 ?_
      refine J_ialoadN (kx := i) Y qX5_passDebts_15 rfl (by show _ < 14; omega) rfl (by omega) (by decide) ?_
      rw [show psd M s i a b 27 s i = M 27 s i from by simp [psd, upR]]
      have hri := hr i (by omega)
      refine J_iload_1 Y qX5_passDebts_16 ?_
      refine J_icmp_ne Y qX5_passDebts_17 (by omega) (by omega) (by omega) (by omega) (fun h17 => ?_) (fun h17 => ?_)
      · refine J_iinc_3 Y qX5_passDebts_27 rfl ?_
        refine J_goto Y qX5_passDebts_30 ?_
        first
          | (rw [psd_t M s i a b (by omega)]; exact ih (i + 1) (by omega) (by omega))
          | (rw [psd_f M s i a b (by omega)]; exact ih (i + 1) (by omega) (by omega))
      · refine J_aloadr_0 Y qX5_passDebts_20 ?_
        refine J_getR Y qX5_passDebts_21 fX5_40 (by show _ < 14; omega) ?_
        refine J_iload_3 Y qX5_passDebts_24 ?_
        refine J_iload_2 Y qX5_passDebts_25 ?_
        refine J_iastoreN (kx := i) Y qX5_passDebts_26 rfl (by show _ < 14; omega) rfl (by omega) (by decide) ?_
        refine J_iinc_3 Y qX5_passDebts_27 rfl ?_
        refine J_goto Y qX5_passDebts_30 ?_
        first
          | (rw [psd_t M s i a b (by omega)]; exact ih (i + 1) (by omega) (by omega))
          | (rw [psd_f M s i a b (by omega)]; exact ih (i + 1) (by omega) (by omega))

theorem c_passDebts (l : Launch) (G : Gx) (M : Mem) {s k : Nat} {a b : Int} (hs : s < 14) (hk : M 5 s 11 = (k : Int)) (hk8 : k ≤ 8) (hr : ∀ j, j < k → 0 ≤ M 27 s j ∧ M 27 s j ≤ 9) (a1 : 0 ≤ a) (a2 : a ≤ 9) : Ct l G 1 yX5_passDebts cX5_passDebts 4 ((Option.none : Option Jvm.ClassFile.FieldType)) [rf G 5 s, vi a, vi b] M (VF (psd M s k a b)) := by
  refine Ct.of rfl (Nat.le_of_ble_eq_true rfl) rfl (fun E X => ?_)
  have Y := X.ok
  refine J_iconst Y qX5_passDebts_0 ?_
  refine J_istore_3 Y qX5_passDebts_1 rfl ?_
  have h := lp_passDebts hs hk hk8 hr a1 a2 X (k + 1) 0 (by omega) (by omega)
  rwa [show psd M s 0 a b = M from by simp [psd, upR_self]] at h


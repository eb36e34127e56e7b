/-! ===== the class leaves the reference alone; one step of both ===== -/
/-- the reference's numbers are the same -/
def Md (M2 M : Mem) : Prop := ∀ x y z : Nat, (40 ≤ x ∨ x = 9) → M2 x y z = M x y z
theorem MR_md {a N N2 : Mem} (h : MR a N) (e : Md N2 N) : MR a N2 := by
  have eN : ∀ x, (40 ≤ x ∨ x = 9) → N2 x = N x := fun x hx => funext fun y => funext fun z => e x y z hx
  refine ⟨?_, ?_, ?_, ?_, ?_, ?_, ?_, ?_, ?_, ?_, ?_, ?_, ?_⟩
  · have q := h.r0; unfold MR0 at q ⊢; rw [eN 9 (by decide)]; exact q
  · have q := h.rr; unfold MRr at q ⊢; rw [eN 40 (by decide)]; exact q
  · have q := h.rs; unfold MRs at q ⊢; rw [eN 41 (by decide), eN 42 (by decide), eN 43 (by decide), eN 44 (by decide)]; exact q
  · have q := h.rp; unfold MRp at q ⊢; rw [eN 45 (by decide)]; exact q
  · have q := h.rl; unfold MRl at q ⊢; rw [eN 46 (by decide), eN 47 (by decide), eN 48 (by decide)]; exact q
  · have q := h.rq; unfold MRq at q ⊢; rw [eN 49 (by decide), eN 50 (by decide), eN 51 (by decide)]; exact q
  · have q := h.rh; unfold MRh at q ⊢; rw [eN 52 (by decide), eN 53 (by decide), eN 54 (by decide)]; exact q
  · have q := h.rm; unfold MRm at q ⊢; rw [eN 55 (by decide)]; exact q
  · have q := h.rt; unfold MRt at q ⊢; rw [eN 56 (by decide)]; exact q
  · have q := h.ru; unfold MRu at q ⊢; rw [eN 57 (by decide)]; exact q
  · have q := h.rf; unfold MRf at q ⊢; rw [eN 58 (by decide)]; exact q
  · have q := h.rb; unfold MRb at q ⊢; rw [eN 61 (by decide), eN 62 (by decide)]; exact q
  · have q := h.rw; unfold MRw at q ⊢; rw [eN 64 (by decide)]; exact q
theorem Md_rf {M : Mem} : Md M M := fun _ _ _ _ => rfl
theorem Md_rfs {M : Mem} {w : Nat} : Md (rfs M w) M := fun x y z h => up_ne (by omega)
theorem Md_tr {A B C : Mem} (h : Md A B) (g : Md B C) : Md A C := fun x y z hx => (h x y z hx).trans (g x y z hx)
theorem Md_up {M : Mem} {f i k : Nat} {v : Int} (h : f < 40 ∧ f ≠ 9) : Md (up M f i k v) M := fun x y z hx => up_ne (by omega)
theorem Md_upR {M : Mem} {f i : Nat} {g : Nat → Int} (h : f < 40 ∧ f ≠ 9) : Md (upR M f i g) M := fun x y z hx => upR_ne (by omega)
theorem Md_prt {M : Mem} {f s : Nat} {v t : Int} : Md (prt M f s v t) M := fun x y z hx => prt_ne (by omega)
theorem Md_giv {M : Mem} {f s p : Nat} (h : f < 40 ∧ f ≠ 9) : Md (giv M f s p) M := Md_tr (Md_up h) (Md_upR h)

theorem Md_lett {M : Mem} {s : Nat} {p t r : Int} : Md (lett M s p t r) M := Md_tr (Md_up (by decide)) (Md_tr (Md_up (by decide)) (Md_up (by decide)))
theorem Md_addH {M : Mem} {s k : Nat} {a b : Int} : Md (addH M s k a b) M := Md_tr (Md_up (by decide)) (Md_tr (Md_up (by decide)) (Md_up (by decide)))
theorem Md_addP {M : Mem} {s k : Nat} {a b : Int} : Md (addP M s k a b) M := Md_tr (Md_up (by decide)) (Md_tr (Md_up (by decide)) (Md_up (by decide)))
theorem Md_drp {M : Mem} {s i k : Nat} : Md (drp M s i k) M := Md_tr (Md_up (by decide)) (Md_tr (Md_upR (by decide)) (Md_upR (by decide)))
theorem Md_sta {M : Mem} {p s g : Nat} : Md (staM M p s g) M := fun x y z hx => staM_ne (by omega)
theorem Md_pdS {M : Mem} {s : Nat} {price : Int} : ∀ i, Md (pdS M s price i).2.2 M
  | 0 => Md_up (by decide)
  | i + 1 => by
    have ih := Md_pdS (M := M) (s := s) (price := price) i
    simp only [pdS]
    split
    · exact Md_tr Md_addP (Md_tr (Md_up (by decide)) ih)
    · exact Md_tr (Md_up (by decide)) ih
theorem md_sale {M : Mem} {a b c : Int} : Md (f_sale M a b c).2 M := by
  unfold f_sale
  repeat (first | exact Md_rfs | exact Md_rf | exact Md_tr (Md_up (by omega)) (Md_up (by omega)) | split)
theorem md_heir {M : Mem} {a b c : Int} : Md (f_heir M a b c).2 M := by
  unfold f_heir
  repeat (first | exact Md_rfs | exact Md_rf | exact Md_addH | split)
theorem md_disown {M : Mem} {a : Int} : Md (f_disown M a).2 M := by
  unfold f_disown
  repeat (first | exact Md_rfs | exact Md_rf | exact Md_up (by decide) | split)
theorem md_death {M : Mem} {a : Int} : Md (f_death M a).2 M := by
  unfold f_death
  repeat (first | exact Md_rfs | exact Md_rf | exact (fun x y z hx => dth_ne _ (by omega)) | split)
theorem md_let {M : Mem} {a b c e : Int} : Md (f_let M a b c e).2 M := by
  unfold f_let
  repeat (first | exact Md_rfs | exact Md_rf | exact Md_lett | split)
theorem md_pawn {M : Mem} {a b c : Int} : Md (f_pawn M a b c).2 M := by
  unfold f_pawn
  repeat (first | exact Md_rfs | exact Md_rf | exact Md_addP | split)
theorem md_pay {M : Mem} {a b : Int} : Md (f_pay M a b).2 M := by
  unfold f_pay
  repeat (first | exact Md_rfs | exact Md_rf | exact Md_drp | split)
theorem md_sold {M : Mem} {a b c : Int} : Md (f_sold M a b c).2 M := by
  unfold f_sold
  repeat (first | exact Md_rfs | exact Md_rf | exact Md_tr (Md_giv (by decide)) (Md_tr Md_prt (Md_pdS _)) | split)
theorem md_wipe {M : Mem} : Md (f_wipe M ).2 M := by
  unfold f_wipe
  repeat (first | exact Md_rfs | exact Md_rf | exact Md_up (by decide) | split)
theorem md_tear {M : Mem} : Md (f_tear M ).2 M := by
  unfold f_tear
  repeat (first | exact Md_rfs | exact Md_rf | exact Md_up (by decide) | split)
theorem md_takes {M : Mem} {a b : Int} : Md (f_takes M a b).2 M := by
  unfold f_takes
  repeat (first | exact Md_rfs | exact Md_rf | exact Md_up (by decide) | split)
theorem md_lay {M : Mem} {a b : Int} : Md (f_lay M a b).2 M := by
  unfold f_lay
  repeat (first | exact Md_rfs | exact Md_rf | exact Md_tr (Md_up (by decide)) (Md_upR (by decide)) | split)
theorem md_copy {M : Mem} {a b c : Int} : Md (f_copy M a b c).2 M := by
  unfold f_copy
  repeat (first | exact Md_rfs | exact Md_rf | exact Md_upR (by decide) | split)
theorem md_feed {M : Mem} {a b : Int} : Md (f_feed M a b).2 M := by
  unfold f_feed
  repeat (first | exact Md_rfs | exact Md_rf | exact Md_tr (Md_up (by decide)) (Md_upR (by decide)) | split)
theorem md_may {M : Mem} {a b c : Int} : Md (f_may M a b c).2 M := by
  unfold f_may
  repeat (first | exact Md_rfs | exact Md_rf | exact Md_sta | split)
theorem md_why {M : Mem} {a b c : Int} : Md (f_why M a b c).2 M := by
  unfold f_why
  repeat (first | exact Md_rfs | exact Md_rf | exact Md_sta | split)
theorem md_run {M : Mem} {a : Int} : Md (f_run M a).2 M := by
  unfold f_run
  repeat (first | exact Md_rfs | exact Md_rf | exact Md_tr (Md_up (by decide)) (fun x y z hx => runM_ne (by omega) _ (by omega)) | split)
theorem md_repair {M : Mem} {a b : Int} : Md (f_repair M a b).2 M := by
  unfold f_repair
  repeat (first | exact Md_rfs | exact Md_rf | exact (fun x y z hx => repM_ne (by omega) _) | split)
theorem md_plan {M : Mem} {a : Int} : Md (f_plan M a).2 M := by
  unfold f_plan
  repeat (first | exact Md_rfs | exact Md_rf | exact Md_tr (Md_upR (by decide)) (Md_tr (Md_upR (by decide)) (Md_up (by decide))) | split)
theorem md_shop {M : Mem} {a b c : Int} : Md (f_shop M a b c).2 M := by
  unfold f_shop
  repeat (first | exact Md_rfs | exact Md_rf | exact Md_tr (Md_up (by decide)) (fun x y z hx => shpM_f (by omega)) | split)
theorem md_look {M : Mem} {a b : Int} : Md (f_look M a b).2 M := by
  unfold f_look
  repeat (first | exact Md_rfs | exact Md_rf | exact Md_rf | split)
theorem md_has {M : Mem} {a b c : Int} : Md (f_has M a b c).2 M := by
  unfold f_has
  repeat (first | exact Md_rfs | exact Md_rf | exact Md_rf | split)
theorem md_first {M : Mem} {a b : Int} : Md (f_first M a b).2 M := by
  unfold f_first
  repeat (first | exact Md_rfs | exact Md_rf | exact Md_rf | split)
theorem md_planned {M : Mem} {a b : Int} : Md (f_planned M a b).2 M := by
  unfold f_planned
  repeat (first | exact Md_rfs | exact Md_rf | exact Md_rf | split)
theorem md_row {M : Mem} {a : Int} : Md (f_row M a).2 M := by
  unfold f_row
  repeat (first | exact Md_rfs | exact Md_rf | exact Md_rf | split)
theorem md_status {M : Mem} {a : Int} : Md (f_status M a).2 M := by
  unfold f_status
  repeat (first | exact Md_rfs | exact Md_rf | exact Md_rf | split)
theorem md_count {M : Mem} {a : Int} : Md (f_count M a).2 M := by
  unfold f_count
  repeat (first | exact Md_rfs | exact Md_rf | exact Md_rf | split)
theorem md_purse {M : Mem} {a : Int} : Md (f_purse M a).2 M := by
  unfold f_purse
  repeat (first | exact Md_rfs | exact Md_rf | exact Md_rf | split)
theorem md_pawned {M : Mem} {a b c : Int} : Md (f_pawned M a b c).2 M := by
  unfold f_pawned
  repeat (first | exact Md_rfs | exact Md_rf | exact Md_rf | split)
theorem md_burns {M : Mem} {a b c : Int} : Md (f_burns M a b c).2 M := by
  unfold f_burns
  repeat (first | exact Md_rfs | exact Md_rf | exact Md_rf | split)
theorem md_lost {M : Mem} {a b c : Int} : Md (f_lost M a b c).2 M := by
  unfold f_lost
  repeat (first | exact Md_rfs | exact Md_rf | exact Md_rf | split)
theorem md_stop {M : Mem} {a b c : Int} : Md (f_stop M a b c).2 M := by
  unfold f_stop
  repeat (first | exact Md_rfs | exact Md_rf | exact Md_rf | split)
theorem md_rule {M : Mem} {a b : Int} : Md (f_rule M a b).2 M := by
  unfold f_rule
  split
  · exact Md_rfs
  · split
    · exact Md_rfs
    · split
      · exact Md_rf
      · exact fun x y z hx => wRul_o (by omega) (by omega) (by omega) (by omega)
theorem Ct.imp {l : Launch} {G : Gx} {d : Nat} {y : MethodName} {cc : ByteArray} {nL : Nat} {ret : Option FieldType} {as : List Value} {M : Mem} {P P2 : Option Value → Mem → Prop} (h : Ct l G d y cc nL ret as M P) (hp : ∀ r N, P r N → P2 r N) : Ct l G d y cc nL ret as M P2 := by
  intro p e ha hc hk st m args below h1 h2 h3 h4
  obtain ⟨k, o, g1, g2, g3, ⟨⟨r, N, e1, e2, e3⟩, e4⟩, g5⟩ := h p e ha hc hk st m args below h1 h2 h3 h4
  exact ⟨k, o, g1, g2, g3, ⟨⟨r, N, e1, hp r N e2, e3⟩, e4⟩, g5⟩
/-- what the class's call leaves -/
def QC (n : Nat) (p : Int × Mem) (M : Mem) : Int → Mem → Prop := fun z M2 => z = p.1 ∧ CE M2 p.2 ∧ Inv (n + 1) M2 ∧ Md M2 M
theorem QC_f {n : Nat} {p : Int × Mem} {M : Mem} (hi : Inv (n + 1) p.2) (hm : Md p.2 M) : ∀ r N, RF p.1 p.2 r N → RI (QC n p M) r N := fun r N h => ⟨p.1, h.1, rfl, by rw [h.2]; exact CE_rf _, by rw [h.2]; exact hi, by rw [h.2]; exact hm⟩
theorem QC_l {n : Nat} {p : Int × Mem} {M : Mem} (hi : Inv (n + 1) p.2) (hm : Md p.2 M) : ∀ r N, RLF p.1 p.2 r N → RLg (QC n p M) r N := fun r N h => ⟨p.1, h.1, rfl, by rw [h.2]; exact CE_rf _, by rw [h.2]; exact hi, by rw [h.2]; exact hm⟩
theorem QC_s {n : Nat} {p : Int × Mem} {M : Mem} (hi : Inv (n + 1) p.2) (hm : Md p.2 M) : ∀ r N, RS p r N → RI (QC n p M) r N := fun r N h => by
  obtain ⟨h1, h2⟩ := h
  have hce := CE_scr h2
  obtain ⟨g, c, k, rfl⟩ := h2
  exact ⟨p.1, h1, rfl, hce, hi, Md_tr (fun x y z hx => scr_ne (by omega) (by omega)) hm⟩
/-- both calls are done -/
theorem step_ok {n : Nat} {p : Int × Mem} {M2 N2 : Mem} (hce : CE M2 p.2) (hi : Inv (n + 1) M2) (hr : MR p.2 N2) (hs : Sm N2 M2) : Inv (n + 1) N2 ∧ MR N2 N2 := ⟨Inv_CE2 hi (CE_sm (CE_rf M2) hs) (fun y => hs _ _ _ (by decide) (by decide)) (fun z => hs _ _ _ (by decide) (by decide)), MR_CE hr (CE_sm hce hs)⟩

/-! ===== the law's loop, round by round ===== -/
theorem law_loop {p : Program} {l : Launch} {e : Env} {s : State} {m : MethodId} {below : List Frame} {meth : Method} {c : Code} {G : Gx} {b N cells slots : Nat} {xs : Nat → Int32} (hN : N ≤ 2560) (C0 : lw_At p s m meth c b N xs) (hKn : Kn G s) (hA : ∀ q, Ar G q → s.heap.size ≤ q) (hce : cells ≤ 600000) (hsl : slots ≤ 7302250) : ∀ (t i n : Nat) (M : Mem), i = 5 * n → i ≤ N → N < i + t → Inv n M → MR M M → J G (p, l, e, room_1, s, m, #[Value.ref b], below, meth, c, cells, slots, lw_Z below #[Value.ref b] s) 18 [some (.ref b), some (rf G 8 0), some (rf G 9 0), some (vi (i : Int))] [] M := by
  obtain ⟨hx, hb, hr, hml, hown, hts, hX, hbl, hlocks, hgv⟩ := id C0
  have hSc : Sc G (p, l, e, room_1, s, m, #[Value.ref b], below, meth, c, cells, slots, lw_Z below #[Value.ref b] s) b N xs := ⟨hX, hbl, fun h => by have := hA b h; omega⟩
  have Y : Ok G (p, l, e, room_1, s, m, #[Value.ref b], below, meth, c, cells, slots, lw_Z below #[Value.ref b] s) cL_law RL 4 40 := ⟨hx, hb, hml, hown, hKn, ⟨by decide, by decide⟩, hce, hsl⟩
  have dL32 : decode cL_law 32 = .ok (.tableswitch 1284 0 32 #[148, 191, 224, 267, 310, 353, 376, 399, 452, 495, 538, 571, 614, 647, 671, 704, 717, 750, 793, 836, 859, 892, 925, 948, 997, 1040, 1083, 1126, 1149, 1182, 1195, 1218, 1261], 148) := qL_law_32
  intro t
  induction t with
  | zero => intro i n M h1 h2 h3; exfalso; omega
  | succ t ih =>
    intro i n M h1 h2 h3 hI hM
    refine J_iload_3 Y qL_law_18 ?_
    refine J_aload_0 Y qL_law_19 ?_
    refine J_slen Y hSc qL_law_20 ?_
    refine J_iconst Y qL_law_21 ?_
    refine J_isub Y qL_law_22 ?_
    refine J_icmp_gt Y qL_law_23 (by omega) (by omega) (by omega) (by omega) (fun h23 => ?_) (fun h23 => ?_)
    · refine J_iconst Y qL_law_1322 ?_
      intro H locs ls hw hs hl
      refine va_forget (fun q hq => hA _ (hs.2.2 q hq)) ?_
      refine W.widen hce hsl ?_
      exact lw_ret hx hb hr hlocks qL_law_1323.1
    · have hn : n < 512 := by omega
      have hK : ∀ M2 : Mem, Inv (n + 1) M2 → MR M2 M2 → J G (p, l, e, room_1, s, m, #[Value.ref b], below, meth, c, cells, slots, lw_Z below #[Value.ref b] s) 18 [some (.ref b), some (rf G 8 0), some (rf G 9 0), some (vi ((i : Int) + 5))] [] M2 := fun M2 q1 q2 => by
        have := ih (i + 5) (n + 1) M2 (by omega) (by omega) (by omega) q1 q2
        rw [show ((i + 5 : Nat) : Int) = (i : Int) + 5 by omega] at this
        exact this
      have xl := Int32.le_toInt (xs i)
      have xh := Int32.toInt_lt (xs i)
      refine J_aload_0 Y qL_law_26 ?_
      refine J_iload_3 Y qL_law_27 ?_
      refine J_sld (j := i) Y hSc qL_law_28 rfl (by omega) hN ?_
      refine J_bipush Y qL_law_29 (by decide) ?_
      refine J_mask Y 6 qL_law_31 (by decide) (by decide +kernel) ?_
      rcases (show (xs i).toInt % 2 ^ 6 = 0 ∨ (xs i).toInt % 2 ^ 6 = 1 ∨ (xs i).toInt % 2 ^ 6 = 2 ∨ (xs i).toInt % 2 ^ 6 = 3 ∨ (xs i).toInt % 2 ^ 6 = 4 ∨ (xs i).toInt % 2 ^ 6 = 5 ∨ (xs i).toInt % 2 ^ 6 = 6 ∨ (xs i).toInt % 2 ^ 6 = 7 ∨ (xs i).toInt % 2 ^ 6 = 8 ∨ (xs i).toInt % 2 ^ 6 = 9 ∨ (xs i).toInt % 2 ^ 6 = 10 ∨ (xs i).toInt % 2 ^ 6 = 11 ∨ (xs i).toInt % 2 ^ 6 = 12 ∨ (xs i).toInt % 2 ^ 6 = 13 ∨ (xs i).toInt % 2 ^ 6 = 14 ∨ (xs i).toInt % 2 ^ 6 = 15 ∨ (xs i).toInt % 2 ^ 6 = 16 ∨ (xs i).toInt % 2 ^ 6 = 17 ∨ (xs i).toInt % 2 ^ 6 = 18 ∨ (xs i).toInt % 2 ^ 6 = 19 ∨ (xs i).toInt % 2 ^ 6 = 20 ∨ (xs i).toInt % 2 ^ 6 = 21 ∨ (xs i).toInt % 2 ^ 6 = 22 ∨ (xs i).toInt % 2 ^ 6 = 23 ∨ (xs i).toInt % 2 ^ 6 = 24 ∨ (xs i).toInt % 2 ^ 6 = 25 ∨ (xs i).toInt % 2 ^ 6 = 26 ∨ (xs i).toInt % 2 ^ 6 = 27 ∨ (xs i).toInt % 2 ^ 6 = 28 ∨ (xs i).toInt % 2 ^ 6 = 29 ∨ (xs i).toInt % 2 ^ 6 = 30 ∨ (xs i).toInt % 2 ^ 6 = 31 ∨ (xs i).toInt % 2 ^ 6 = 32 ∨ 33 ≤ (xs i).toInt % 2 ^ 6 by omega) with ha | ha | ha | ha | ha | ha | ha | ha | ha | ha | ha | ha | ha | ha | ha | ha | ha | ha | ha | ha | ha | ha | ha | ha | ha | ha | ha | ha | ha | ha | ha | ha | ha | ha
      · rw [ha]
        refine J_tswIn (tg := 180) Y dL32 (by decide) (by decide) (by decide) (by decide) rfl (by decide) ?_
        exact s_shop hSc hN Y hI hn hM (by omega) hK
      · rw [ha]
        refine J_tswIn (tg := 223) Y dL32 (by decide) (by decide) (by decide) (by decide) rfl (by decide) ?_
        exact s_look hSc hN Y hI hn hM (by omega) hK
      · rw [ha]
        refine J_tswIn (tg := 256) Y dL32 (by decide) (by decide) (by decide) (by decide) rfl (by decide) ?_
        exact s_has hSc hN Y hI hn hM (by omega) hK
      · rw [ha]
        refine J_tswIn (tg := 299) Y dL32 (by decide) (by decide) (by decide) (by decide) rfl (by decide) ?_
        exact s_sale hSc hN Y hI hn hM (by omega) hK
      · rw [ha]
        refine J_tswIn (tg := 342) Y dL32 (by decide) (by decide) (by decide) (by decide) rfl (by decide) ?_
        exact s_heir hSc hN Y hI hn hM (by omega) hK
      · rw [ha]
        refine J_tswIn (tg := 385) Y dL32 (by decide) (by decide) (by decide) (by decide) rfl (by decide) ?_
        exact s_disown hSc hN Y hI hn hM (by omega) hK
      · rw [ha]
        refine J_tswIn (tg := 408) Y dL32 (by decide) (by decide) (by decide) (by decide) rfl (by decide) ?_
        exact s_death hSc hN Y hI hn hM (by omega) hK
      · rw [ha]
        refine J_tswIn (tg := 431) Y dL32 (by decide) (by decide) (by decide) (by decide) rfl (by decide) ?_
        exact s_let hSc hN Y hI hn hM (by omega) hK
      · rw [ha]
        refine J_tswIn (tg := 484) Y dL32 (by decide) (by decide) (by decide) (by decide) rfl (by decide) ?_
        exact s_pawn hSc hN Y hI hn hM (by omega) hK
      · rw [ha]
        refine J_tswIn (tg := 527) Y dL32 (by decide) (by decide) (by decide) (by decide) rfl (by decide) ?_
        exact s_pawned hSc hN Y hI hn hM (by omega) hK
      · rw [ha]
        refine J_tswIn (tg := 570) Y dL32 (by decide) (by decide) (by decide) (by decide) rfl (by decide) ?_
        exact s_pay hSc hN Y hI hn hM (by omega) hK
      · rw [ha]
        refine J_tswIn (tg := 603) Y dL32 (by decide) (by decide) (by decide) (by decide) rfl (by decide) ?_
        exact s_sold hSc hN Y hI hn hM (by omega) hK
      · rw [ha]
        refine J_tswIn (tg := 646) Y dL32 (by decide) (by decide) (by decide) (by decide) rfl (by decide) ?_
        exact s_first hSc hN Y hI hn hM (by omega) hK
      · rw [ha]
        refine J_tswIn (tg := 679) Y dL32 (by decide) (by decide) (by decide) (by decide) rfl (by decide) ?_
        exact s_purse hSc hN Y hI hn hM (by omega) hK
      · rw [ha]
        refine J_tswIn (tg := 703) Y dL32 (by decide) (by decide) (by decide) (by decide) rfl (by decide) ?_
        exact s_feed hSc hN Y hI hn hM (by omega) hK
      · rw [ha]
        refine J_tswIn (tg := 736) Y dL32 (by decide) (by decide) (by decide) (by decide) rfl (by decide) ?_
        exact s_wipe hSc hN Y hI hn hM (by omega) hK
      · rw [ha]
        refine J_tswIn (tg := 749) Y dL32 (by decide) (by decide) (by decide) (by decide) rfl (by decide) ?_
        exact s_rule hSc hN Y hI hn hM (by omega) hK
      · rw [ha]
        refine J_tswIn (tg := 782) Y dL32 (by decide) (by decide) (by decide) (by decide) rfl (by decide) ?_
        exact s_may hSc hN Y hI hn hM (by omega) hK
      · rw [ha]
        refine J_tswIn (tg := 825) Y dL32 (by decide) (by decide) (by decide) (by decide) rfl (by decide) ?_
        exact s_why hSc hN Y hI hn hM (by omega) hK
      · rw [ha]
        refine J_tswIn (tg := 868) Y dL32 (by decide) (by decide) (by decide) (by decide) rfl (by decide) ?_
        exact s_run hSc hN Y hI hn hM (by omega) hK
      · rw [ha]
        refine J_tswIn (tg := 891) Y dL32 (by decide) (by decide) (by decide) (by decide) rfl (by decide) ?_
        exact s_repair hSc hN Y hI hn hM (by omega) hK
      · rw [ha]
        refine J_tswIn (tg := 924) Y dL32 (by decide) (by decide) (by decide) (by decide) rfl (by decide) ?_
        exact s_takes hSc hN Y hI hn hM (by omega) hK
      · rw [ha]
        refine J_tswIn (tg := 957) Y dL32 (by decide) (by decide) (by decide) (by decide) rfl (by decide) ?_
        exact s_plan hSc hN Y hI hn hM (by omega) hK
      · rw [ha]
        refine J_tswIn (tg := 980) Y dL32 (by decide) (by decide) (by decide) (by decide) rfl (by decide) ?_
        exact s_planned hSc hN Y hI hn hM (by omega) hK
      · rw [ha]
        refine J_tswIn (tg := 1029) Y dL32 (by decide) (by decide) (by decide) (by decide) rfl (by decide) ?_
        exact s_burns hSc hN Y hI hn hM (by omega) hK
      · rw [ha]
        refine J_tswIn (tg := 1072) Y dL32 (by decide) (by decide) (by decide) (by decide) rfl (by decide) ?_
        exact s_lost hSc hN Y hI hn hM (by omega) hK
      · rw [ha]
        refine J_tswIn (tg := 1115) Y dL32 (by decide) (by decide) (by decide) (by decide) rfl (by decide) ?_
        exact s_stop hSc hN Y hI hn hM (by omega) hK
      · rw [ha]
        refine J_tswIn (tg := 1158) Y dL32 (by decide) (by decide) (by decide) (by decide) rfl (by decide) ?_
        exact s_count hSc hN Y hI hn hM (by omega) hK
      · rw [ha]
        refine J_tswIn (tg := 1181) Y dL32 (by decide) (by decide) (by decide) (by decide) rfl (by decide) ?_
        exact s_lay hSc hN Y hI hn hM (by omega) hK
      · rw [ha]
        refine J_tswIn (tg := 1214) Y dL32 (by decide) (by decide) (by decide) (by decide) rfl (by decide) ?_
        exact s_tear hSc hN Y hI hn hM (by omega) hK
      · rw [ha]
        refine J_tswIn (tg := 1227) Y dL32 (by decide) (by decide) (by decide) (by decide) rfl (by decide) ?_
        exact s_row hSc hN Y hI hn hM (by omega) hK
      · rw [ha]
        refine J_tswIn (tg := 1250) Y dL32 (by decide) (by decide) (by decide) (by decide) rfl (by decide) ?_
        exact s_copy hSc hN Y hI hn hM (by omega) hK
      · rw [ha]
        refine J_tswIn (tg := 1293) Y dL32 (by decide) (by decide) (by decide) (by decide) rfl (by decide) ?_
        exact s_status hSc hN Y hI hn hM (by omega) hK
      · refine J_tswOut (tg := 1316) Y dL32 (by omega) (by omega) (Or.inr (by omega)) (by decide) ?_
        refine J_iinc_3 Y qL_law_1316 rfl ?_
        refine J_goto Y qL_law_1319 ?_
        exact hK M (hI.mono (Nat.le_succ n)) hM

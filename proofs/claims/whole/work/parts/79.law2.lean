/-! ===== the law's loop ===== -/
/-- the law's script -/
def Sc (G : Gx) (E : Fx) (b L : Nat) (xs : Nat → Int32) : Prop := va_X b L xs E.2.2.2.2.1 (hp0 E) ∧ b < (hp0 E).size ∧ ¬ Ar G b
section LAW
variable {G : Gx} {E : Fx} {cc : ByteArray} {own : String} {nL d pc pc2 tg : Nat} {L : List (Option Value)} {st : List Value} {M : Mem}
theorem J_sld (X : Ok G E cc own nL d) {b N j : Nat} {xs : Nat → Int32} {z : Int} (hS : Sc G E b N xs) (q : Ins cc pc 1 pc2 (.iaload)) (hz : z = (j : Int)) (hj : j < N) (hN : N ≤ 2560) (k : J G E pc2 L (vi (xs j).toInt :: st) M) : J G E pc L (vi z :: .ref b :: st) M := by
  obtain ⟨p, l, e, R, s, m, args, below, meth, c, cells, slots, Q⟩ := E
  obtain ⟨hx, hb, hml, hown, hK, hR, hce, hsl⟩ := X
  obtain ⟨q1, rfl⟩ := q
  obtain ⟨h1, h2, h3⟩ := hS
  intro H locs ls hw hs hl
  subst hz
  refine va_sld hx hb h1 h2 h3 hs (i32_in (by omega) (by omega) (by omega)) q1 ?_
  rw [i32_cl (by omega) (by omega), Int.toNat_natCast]
  have h := k H locs ls hw hs hl
  unfold vi at h
  rw [Int32.ofInt_toInt] at h
  exact h
theorem J_slen (X : Ok G E cc own nL d) {b N : Nat} {xs : Nat → Int32} (hS : Sc G E b N xs) (q : Ins cc pc 1 pc2 (.arraylength)) (k : J G E pc2 L (vi (N : Int) :: st) M) : J G E pc L (.ref b :: st) M := by
  obtain ⟨p, l, e, R, s, m, args, below, meth, c, cells, slots, Q⟩ := E
  obtain ⟨hx, hb, hml, hown, hK, hR, hce, hsl⟩ := X
  obtain ⟨q1, rfl⟩ := q
  obtain ⟨h1, h2, h3⟩ := hS
  intro H locs ls hw hs hl
  refine va_slen hx hb h1 h2 h3 hs q1 ?_
  have h := k H locs ls hw hs hl
  rw [vi_nat] at h
  exact h
theorem J_icmp_same (X : Ok G E cc own nL d) {z : Int} (q : Br cc pc pc2 tg (.if_icmp .eq)) (k : J G E tg L st M) : J G E pc L (vi z :: vi z :: st) M := by
  obtain ⟨p, l, e, R, s, m, args, below, meth, c, cells, slots, Q⟩ := E
  obtain ⟨hx, hb, -⟩ := X
  obtain ⟨off, q1, rfl, htg⟩ := q
  intro H locs ls hw hs hl
  exact lv_icmp_eq hx hb q1 htg (fun _ => k H locs ls hw hs hl) (fun h => absurd rfl h)
theorem J_lcmp_same (X : Ok G E cc own nL d) {z : Int} (q : Ins cc pc 1 pc2 (.lcmp)) (k : J G E pc2 L (vi 0 :: st) M) : J G E pc L (vl z :: vl z :: st) M := by
  obtain ⟨p, l, e, R, s, m, args, below, meth, c, cells, slots, Q⟩ := E
  obtain ⟨hx, hb, -⟩ := X
  obtain ⟨q1, rfl⟩ := q
  intro H locs ls hw hs hl
  refine W.lcmp hx hb q1 ?_
  rw [show lg_cmp (Int64.ofInt z) (Int64.ofInt z) = 0 from by simp [lg_cmp]]
  exact k H locs ls hw hs hl
end LAW
theorem s_shop {G : Gx} {E : Fx} {b N : Nat} {xs : Nat → Int32} (hSc : Sc G E b N xs) (hN : N ≤ 2560) (Y : Ok G E cL_law RL 4 40)  {n i : Nat} {M : Mem} (hI : Inv n M) (hn : n < 512) (hM : MR M M) (hi : i + 5 ≤ N) (hK : ∀ M2 : Mem, Inv (n + 1) M2 → MR M2 M2 → J G E 18 [some (.ref b), some (rf G 8 0), some (rf G 9 0), some (vi ((i : Int) + 5))] [] M2) : J G E 180 [some (.ref b), some (rf G 8 0), some (rf G 9 0), some (vi (i : Int))] [] M := by
  have x1 : ∀ k, -2147483648 ≤ (xs k).toInt ∧ (xs k).toInt < 2147483648 := fun k => ⟨Int32.le_toInt _, Int32.toInt_lt _⟩
  have x2 := x1 (i + 2)
  refine J_aloadr_1 Y qL_law_180 ?_
  refine J_aload_0 Y qL_law_181 ?_
  refine J_iload_3 Y qL_law_182 ?_
  refine J_iconst Y qL_law_183 ?_
  refine J_iadd Y qL_law_184 ?_
  refine J_sld (j := i + 1) Y hSc qL_law_185 (by omega) (by omega) (by omega) ?_
  refine J_aload_0 Y qL_law_186 ?_
  refine J_iload_3 Y qL_law_187 ?_
  refine J_iconst Y qL_law_188 ?_
  refine J_iadd Y qL_law_189 ?_
  refine J_sld (j := i + 2) Y hSc qL_law_190 (by omega) (by omega) (by omega) ?_
  refine J_aload_0 Y qL_law_191 ?_
  refine J_iload_3 Y qL_law_192 ?_
  refine J_iconst Y qL_law_193 ?_
  refine J_iadd Y qL_law_194 ?_
  refine J_sld (j := i + 3) Y hSc qL_law_195 (by omega) (by omega) (by omega) ?_
  refine J_cV3I Y qL_law_196 mL_13 iyX8_shop (by decide) rfl (by decide) rfl (Nat.le_of_ble_eq_true rfl) ((Ct.imp (k_shop _ G M (x1 _).1 (x1 _).2 (x1 _).1 (x1 _).2 (x1 _).1 (x1 _).2 hI hn) (fun r N2 h => by
    obtain ⟨z, h1, h2, h3, h4, h5⟩ := h
    exact ⟨z, h1, h2, CE_der h3, i_shop hI h3 h4 h5, Md_tr (fun x y z hx => h3 x y z (by omega) (by omega)) md_shop⟩ : ∀ r N2, _ → RI (QC n (f_shop M ((xs (i + 1)).toInt) ((xs (i + 2)).toInt) ((xs (i + 3)).toInt)) M) r N2))) (fun z M2 hc => ?_)
  obtain ⟨rfl, hce, hiv, hmd⟩ := hc
  refine J_aloadr_2 Y qL_law_199 ?_
  refine J_aload_0 Y qL_law_200 ?_
  refine J_iload_3 Y qL_law_201 ?_
  refine J_iconst Y qL_law_202 ?_
  refine J_iadd Y qL_law_203 ?_
  refine J_sld (j := i + 1) Y hSc qL_law_204 (by omega) (by omega) (by omega) ?_
  refine J_aload_0 Y qL_law_205 ?_
  refine J_iload_3 Y qL_law_206 ?_
  refine J_iconst Y qL_law_207 ?_
  refine J_iadd Y qL_law_208 ?_
  refine J_sld (j := i + 2) Y hSc qL_law_209 (by omega) (by omega) (by omega) ?_
  refine J_aload_0 Y qL_law_210 ?_
  refine J_iload_3 Y qL_law_211 ?_
  refine J_iconst Y qL_law_212 ?_
  refine J_iadd Y qL_law_213 ?_
  refine J_sld (j := i + 3) Y hSc qL_law_214 (by omega) (by omega) (by omega) ?_
  refine J_cV3I Y qL_law_215 mL_17 iyX9_shop (by decide) rfl (by decide) rfl (Nat.le_of_ble_eq_true rfl) (r_shop (A := M) _ G _ (x1 _).1 (x1 _).2 (x1 _).1 (x1 _).2 (x1 _).1 (x1 _).2 hI hn (MR_md hM hmd)) (fun z N2 hc2 => ?_)
  obtain ⟨rfl, hmr, hsm⟩ := hc2
  obtain ⟨hi2, hm2⟩ := step_ok hce hiv hmr hsm
  refine J_icmp_same Y qL_law_218 ?_
  refine J_iinc_3 Y qL_law_1316 rfl ?_
  refine J_goto Y qL_law_1319 ?_
  exact hK N2 hi2 hm2
theorem s_look {G : Gx} {E : Fx} {b N : Nat} {xs : Nat → Int32} (hSc : Sc G E b N xs) (hN : N ≤ 2560) (Y : Ok G E cL_law RL 4 40)  {n i : Nat} {M : Mem} (hI : Inv n M) (hn : n < 512) (hM : MR M M) (hi : i + 5 ≤ N) (hK : ∀ M2 : Mem, Inv (n + 1) M2 → MR M2 M2 → J G E 18 [some (.ref b), some (rf G 8 0), some (rf G 9 0), some (vi ((i : Int) + 5))] [] M2) : J G E 223 [some (.ref b), some (rf G 8 0), some (rf G 9 0), some (vi (i : Int))] [] M := by
  have x1 : ∀ k, -2147483648 ≤ (xs k).toInt ∧ (xs k).toInt < 2147483648 := fun k => ⟨Int32.le_toInt _, Int32.toInt_lt _⟩
  have x2 := x1 (i + 2)
  refine J_aloadr_1 Y qL_law_223 ?_
  refine J_aload_0 Y qL_law_224 ?_
  refine J_iload_3 Y qL_law_225 ?_
  refine J_iconst Y qL_law_226 ?_
  refine J_iadd Y qL_law_227 ?_
  refine J_sld (j := i + 1) Y hSc qL_law_228 (by omega) (by omega) (by omega) ?_
  refine J_aload_0 Y qL_law_229 ?_
  refine J_iload_3 Y qL_law_230 ?_
  refine J_iconst Y qL_law_231 ?_
  refine J_iadd Y qL_law_232 ?_
  refine J_sld (j := i + 2) Y hSc qL_law_233 (by omega) (by omega) (by omega) ?_
  refine J_cV2I Y qL_law_234 mL_18 iyX8_look (by decide) rfl (by decide) rfl (Nat.le_of_ble_eq_true rfl) ((Ct.imp (k_look _ G M (x1 _).1 (x1 _).2 (x1 _).1 (x1 _).2 hI hn) (QC_f (i_look hI) md_look))) (fun z M2 hc => ?_)
  obtain ⟨rfl, hce, hiv, hmd⟩ := hc
  refine J_aloadr_2 Y qL_law_237 ?_
  refine J_aload_0 Y qL_law_238 ?_
  refine J_iload_3 Y qL_law_239 ?_
  refine J_iconst Y qL_law_240 ?_
  refine J_iadd Y qL_law_241 ?_
  refine J_sld (j := i + 1) Y hSc qL_law_242 (by omega) (by omega) (by omega) ?_
  refine J_aload_0 Y qL_law_243 ?_
  refine J_iload_3 Y qL_law_244 ?_
  refine J_iconst Y qL_law_245 ?_
  refine J_iadd Y qL_law_246 ?_
  refine J_sld (j := i + 2) Y hSc qL_law_247 (by omega) (by omega) (by omega) ?_
  refine J_cV2I Y qL_law_248 mL_22 iyX9_look (by decide) rfl (by decide) rfl (Nat.le_of_ble_eq_true rfl) (r_look (A := M) _ G _ (x1 _).1 (x1 _).2 (x1 _).1 (x1 _).2 hI hn (MR_md hM hmd)) (fun z N2 hc2 => ?_)
  obtain ⟨rfl, hmr, hsm⟩ := hc2
  obtain ⟨hi2, hm2⟩ := step_ok hce hiv hmr hsm
  refine J_icmp_same Y qL_law_251 ?_
  refine J_iinc_3 Y qL_law_1316 rfl ?_
  refine J_goto Y qL_law_1319 ?_
  exact hK N2 hi2 hm2
theorem s_has {G : Gx} {E : Fx} {b N : Nat} {xs : Nat → Int32} (hSc : Sc G E b N xs) (hN : N ≤ 2560) (Y : Ok G E cL_law RL 4 40)  {n i : Nat} {M : Mem} (hI : Inv n M) (hn : n < 512) (hM : MR M M) (hi : i + 5 ≤ N) (hK : ∀ M2 : Mem, Inv (n + 1) M2 → MR M2 M2 → J G E 18 [some (.ref b), some (rf G 8 0), some (rf G 9 0), some (vi ((i : Int) + 5))] [] M2) : J G E 256 [some (.ref b), some (rf G 8 0), some (rf G 9 0), some (vi (i : Int))] [] M := by
  have x1 : ∀ k, -2147483648 ≤ (xs k).toInt ∧ (xs k).toInt < 2147483648 := fun k => ⟨Int32.le_toInt _, Int32.toInt_lt _⟩
  have x2 := x1 (i + 2)
  refine J_aloadr_1 Y qL_law_256 ?_
  refine J_aload_0 Y qL_law_257 ?_
  refine J_iload_3 Y qL_law_258 ?_
  refine J_iconst Y qL_law_259 ?_
  refine J_iadd Y qL_law_260 ?_
  refine J_sld (j := i + 1) Y hSc qL_law_261 (by omega) (by omega) (by omega) ?_
  refine J_aload_0 Y qL_law_262 ?_
  refine J_iload_3 Y qL_law_263 ?_
  refine J_iconst Y qL_law_264 ?_
  refine J_iadd Y qL_law_265 ?_
  refine J_sld (j := i + 2) Y hSc qL_law_266 (by omega) (by omega) (by omega) ?_
  refine J_aload_0 Y qL_law_267 ?_
  refine J_iload_3 Y qL_law_268 ?_
  refine J_iconst Y qL_law_269 ?_
  refine J_iadd Y qL_law_270 ?_
  refine J_sld (j := i + 3) Y hSc qL_law_271 (by omega) (by omega) (by omega) ?_
  refine J_cV3I Y qL_law_272 mL_23 iyX8_has (by decide) rfl (by decide) rfl (Nat.le_of_ble_eq_true rfl) ((Ct.imp (k_has _ G M (x1 _).1 (x1 _).2 (x1 _).1 (x1 _).2 (x1 _).1 (x1 _).2 hI hn) (QC_f (i_has hI) md_has))) (fun z M2 hc => ?_)
  obtain ⟨rfl, hce, hiv, hmd⟩ := hc
  refine J_aloadr_2 Y qL_law_275 ?_
  refine J_aload_0 Y qL_law_276 ?_
  refine J_iload_3 Y qL_law_277 ?_
  refine J_iconst Y qL_law_278 ?_
  refine J_iadd Y qL_law_279 ?_
  refine J_sld (j := i + 1) Y hSc qL_law_280 (by omega) (by omega) (by omega) ?_
  refine J_aload_0 Y qL_law_281 ?_
  refine J_iload_3 Y qL_law_282 ?_
  refine J_iconst Y qL_law_283 ?_
  refine J_iadd Y qL_law_284 ?_
  refine J_sld (j := i + 2) Y hSc qL_law_285 (by omega) (by omega) (by omega) ?_
  refine J_aload_0 Y qL_law_286 ?_
  refine J_iload_3 Y qL_law_287 ?_
  refine J_iconst Y qL_law_288 ?_
  refine J_iadd Y qL_law_289 ?_
  refine J_sld (j := i + 3) Y hSc qL_law_290 (by omega) (by omega) (by omega) ?_
  refine J_cV3I Y qL_law_291 mL_26 iyX9_has (by decide) rfl (by decide) rfl (Nat.le_of_ble_eq_true rfl) (r_has (A := M) _ G _ (x1 _).1 (x1 _).2 (x1 _).1 (x1 _).2 (x1 _).1 (x1 _).2 hI hn (MR_md hM hmd)) (fun z N2 hc2 => ?_)
  obtain ⟨rfl, hmr, hsm⟩ := hc2
  obtain ⟨hi2, hm2⟩ := step_ok hce hiv hmr hsm
  refine J_icmp_same Y qL_law_294 ?_
  refine J_iinc_3 Y qL_law_1316 rfl ?_
  refine J_goto Y qL_law_1319 ?_
  exact hK N2 hi2 hm2
theorem s_sale {G : Gx} {E : Fx} {b N : Nat} {xs : Nat → Int32} (hSc : Sc G E b N xs) (hN : N ≤ 2560) (Y : Ok G E cL_law RL 4 40)  {n i : Nat} {M : Mem} (hI : Inv n M) (hn : n < 512) (hM : MR M M) (hi : i + 5 ≤ N) (hK : ∀ M2 : Mem, Inv (n + 1) M2 → MR M2 M2 → J G E 18 [some (.ref b), some (rf G 8 0), some (rf G 9 0), some (vi ((i : Int) + 5))] [] M2) : J G E 299 [some (.ref b), some (rf G 8 0), some (rf G 9 0), some (vi (i : Int))] [] M := by
  have x1 : ∀ k, -2147483648 ≤ (xs k).toInt ∧ (xs k).toInt < 2147483648 := fun k => ⟨Int32.le_toInt _, Int32.toInt_lt _⟩
  have x2 := x1 (i + 2)
  refine J_aloadr_1 Y qL_law_299 ?_
  refine J_aload_0 Y qL_law_300 ?_
  refine J_iload_3 Y qL_law_301 ?_
  refine J_iconst Y qL_law_302 ?_
  refine J_iadd Y qL_law_303 ?_
  refine J_sld (j := i + 1) Y hSc qL_law_304 (by omega) (by omega) (by omega) ?_
  refine J_aload_0 Y qL_law_305 ?_
  refine J_iload_3 Y qL_law_306 ?_
  refine J_iconst Y qL_law_307 ?_
  refine J_iadd Y qL_law_308 ?_
  refine J_sld (j := i + 2) Y hSc qL_law_309 (by omega) (by omega) (by omega) ?_
  refine J_aload_0 Y qL_law_310 ?_
  refine J_iload_3 Y qL_law_311 ?_
  refine J_iconst Y qL_law_312 ?_
  refine J_iadd Y qL_law_313 ?_
  refine J_sld (j := i + 3) Y hSc qL_law_314 (by omega) (by omega) (by omega) ?_
  refine J_cV3I Y qL_law_315 mL_27 iyX8_sale (by decide) rfl (by decide) rfl (Nat.le_of_ble_eq_true rfl) ((Ct.imp (k_sale _ G M (x1 _).1 (x1 _).2 (x1 _).1 (x1 _).2 (x1 _).1 (x1 _).2 hI hn) (QC_f (i_sale hI) md_sale))) (fun z M2 hc => ?_)
  obtain ⟨rfl, hce, hiv, hmd⟩ := hc
  refine J_aloadr_2 Y qL_law_318 ?_
  refine J_aload_0 Y qL_law_319 ?_
  refine J_iload_3 Y qL_law_320 ?_
  refine J_iconst Y qL_law_321 ?_
  refine J_iadd Y qL_law_322 ?_
  refine J_sld (j := i + 1) Y hSc qL_law_323 (by omega) (by omega) (by omega) ?_
  refine J_aload_0 Y qL_law_324 ?_
  refine J_iload_3 Y qL_law_325 ?_
  refine J_iconst Y qL_law_326 ?_
  refine J_iadd Y qL_law_327 ?_
  refine J_sld (j := i + 2) Y hSc qL_law_328 (by omega) (by omega) (by omega) ?_
  refine J_aload_0 Y qL_law_329 ?_
  refine J_iload_3 Y qL_law_330 ?_
  refine J_iconst Y qL_law_331 ?_
  refine J_iadd Y qL_law_332 ?_
  refine J_sld (j := i + 3) Y hSc qL_law_333 (by omega) (by omega) (by omega) ?_
  refine J_cV3I Y qL_law_334 mL_30 iyX9_sale (by decide) rfl (by decide) rfl (Nat.le_of_ble_eq_true rfl) (r_sale (A := M) _ G _ (x1 _).1 (x1 _).2 (x1 _).1 (x1 _).2 (x1 _).1 (x1 _).2 hI hn (MR_md hM hmd)) (fun z N2 hc2 => ?_)
  obtain ⟨rfl, hmr, hsm⟩ := hc2
  obtain ⟨hi2, hm2⟩ := step_ok hce hiv hmr hsm
  refine J_icmp_same Y qL_law_337 ?_
  refine J_iinc_3 Y qL_law_1316 rfl ?_
  refine J_goto Y qL_law_1319 ?_
  exact hK N2 hi2 hm2
theorem s_heir {G : Gx} {E : Fx} {b N : Nat} {xs : Nat → Int32} (hSc : Sc G E b N xs) (hN : N ≤ 2560) (Y : Ok G E cL_law RL 4 40)  {n i : Nat} {M : Mem} (hI : Inv n M) (hn : n < 512) (hM : MR M M) (hi : i + 5 ≤ N) (hK : ∀ M2 : Mem, Inv (n + 1) M2 → MR M2 M2 → J G E 18 [some (.ref b), some (rf G 8 0), some (rf G 9 0), some (vi ((i : Int) + 5))] [] M2) : J G E 342 [some (.ref b), some (rf G 8 0), some (rf G 9 0), some (vi (i : Int))] [] M := by
  have x1 : ∀ k, -2147483648 ≤ (xs k).toInt ∧ (xs k).toInt < 2147483648 := fun k => ⟨Int32.le_toInt _, Int32.toInt_lt _⟩
  have x2 := x1 (i + 2)
  refine J_aloadr_1 Y qL_law_342 ?_
  refine J_aload_0 Y qL_law_343 ?_
  refine J_iload_3 Y qL_law_344 ?_
  refine J_iconst Y qL_law_345 ?_
  refine J_iadd Y qL_law_346 ?_
  refine J_sld (j := i + 1) Y hSc qL_law_347 (by omega) (by omega) (by omega) ?_
  refine J_aload_0 Y qL_law_348 ?_
  refine J_iload_3 Y qL_law_349 ?_
  refine J_iconst Y qL_law_350 ?_
  refine J_iadd Y qL_law_351 ?_
  refine J_sld (j := i + 2) Y hSc qL_law_352 (by omega) (by omega) (by omega) ?_
  refine J_aload_0 Y qL_law_353 ?_
  refine J_iload_3 Y qL_law_354 ?_
  refine J_iconst Y qL_law_355 ?_
  refine J_iadd Y qL_law_356 ?_
  refine J_sld (j := i + 3) Y hSc qL_law_357 (by omega) (by omega) (by omega) ?_
  refine J_cV3I Y qL_law_358 mL_31 iyX8_heir (by decide) rfl (by decide) rfl (Nat.le_of_ble_eq_true rfl) ((Ct.imp (k_heir _ G M (x1 _).1 (x1 _).2 (x1 _).1 (x1 _).2 (x1 _).1 (x1 _).2 hI hn) (QC_f (i_heir hI) md_heir))) (fun z M2 hc => ?_)
  obtain ⟨rfl, hce, hiv, hmd⟩ := hc
  refine J_aloadr_2 Y qL_law_361 ?_
  refine J_aload_0 Y qL_law_362 ?_
  refine J_iload_3 Y qL_law_363 ?_
  refine J_iconst Y qL_law_364 ?_
  refine J_iadd Y qL_law_365 ?_
  refine J_sld (j := i + 1) Y hSc qL_law_366 (by omega) (by omega) (by omega) ?_
  refine J_aload_0 Y qL_law_367 ?_
  refine J_iload_3 Y qL_law_368 ?_
  refine J_iconst Y qL_law_369 ?_
  refine J_iadd Y qL_law_370 ?_
  refine J_sld (j := i + 2) Y hSc qL_law_371 (by omega) (by omega) (by omega) ?_
  refine J_aload_0 Y qL_law_372 ?_
  refine J_iload_3 Y qL_law_373 ?_
  refine J_iconst Y qL_law_374 ?_
  refine J_iadd Y qL_law_375 ?_
  refine J_sld (j := i + 3) Y hSc qL_law_376 (by omega) (by omega) (by omega) ?_
  refine J_cV3I Y qL_law_377 mL_34 iyX9_heir (by decide) rfl (by decide) rfl (Nat.le_of_ble_eq_true rfl) (r_heir (A := M) _ G _ (x1 _).1 (x1 _).2 (x1 _).1 (x1 _).2 (x1 _).1 (x1 _).2 hI hn (MR_md hM hmd)) (fun z N2 hc2 => ?_)
  obtain ⟨rfl, hmr, hsm⟩ := hc2
  obtain ⟨hi2, hm2⟩ := step_ok hce hiv hmr hsm
  refine J_icmp_same Y qL_law_380 ?_
  refine J_iinc_3 Y qL_law_1316 rfl ?_
  refine J_goto Y qL_law_1319 ?_
  exact hK N2 hi2 hm2
theorem s_disown {G : Gx} {E : Fx} {b N : Nat} {xs : Nat → Int32} (hSc : Sc G E b N xs) (hN : N ≤ 2560) (Y : Ok G E cL_law RL 4 40)  {n i : Nat} {M : Mem} (hI : Inv n M) (hn : n < 512) (hM : MR M M) (hi : i + 5 ≤ N) (hK : ∀ M2 : Mem, Inv (n + 1) M2 → MR M2 M2 → J G E 18 [some (.ref b), some (rf G 8 0), some (rf G 9 0), some (vi ((i : Int) + 5))] [] M2) : J G E 385 [some (.ref b), some (rf G 8 0), some (rf G 9 0), some (vi (i : Int))] [] M := by
  have x1 : ∀ k, -2147483648 ≤ (xs k).toInt ∧ (xs k).toInt < 2147483648 := fun k => ⟨Int32.le_toInt _, Int32.toInt_lt _⟩
  have x2 := x1 (i + 2)
  refine J_aloadr_1 Y qL_law_385 ?_
  refine J_aload_0 Y qL_law_386 ?_
  refine J_iload_3 Y qL_law_387 ?_
  refine J_iconst Y qL_law_388 ?_
  refine J_iadd Y qL_law_389 ?_
  refine J_sld (j := i + 1) Y hSc qL_law_390 (by omega) (by omega) (by omega) ?_
  refine J_cV1I Y qL_law_391 mL_35 iyX8_disown (by decide) rfl (by decide) rfl (Nat.le_of_ble_eq_true rfl) ((Ct.imp (k_disown _ G M (x1 _).1 (x1 _).2 hI hn) (QC_f (i_disown hI) md_disown))) (fun z M2 hc => ?_)
  obtain ⟨rfl, hce, hiv, hmd⟩ := hc
  refine J_aloadr_2 Y qL_law_394 ?_
  refine J_aload_0 Y qL_law_395 ?_
  refine J_iload_3 Y qL_law_396 ?_
  refine J_iconst Y qL_law_397 ?_
  refine J_iadd Y qL_law_398 ?_
  refine J_sld (j := i + 1) Y hSc qL_law_399 (by omega) (by omega) (by omega) ?_
  refine J_cV1I Y qL_law_400 mL_39 iyX9_disown (by decide) rfl (by decide) rfl (Nat.le_of_ble_eq_true rfl) (r_disown (A := M) _ G _ (x1 _).1 (x1 _).2 hI hn (MR_md hM hmd)) (fun z N2 hc2 => ?_)
  obtain ⟨rfl, hmr, hsm⟩ := hc2
  obtain ⟨hi2, hm2⟩ := step_ok hce hiv hmr hsm
  refine J_icmp_same Y qL_law_403 ?_
  refine J_iinc_3 Y qL_law_1316 rfl ?_
  refine J_goto Y qL_law_1319 ?_
  exact hK N2 hi2 hm2
theorem s_death {G : Gx} {E : Fx} {b N : Nat} {xs : Nat → Int32} (hSc : Sc G E b N xs) (hN : N ≤ 2560) (Y : Ok G E cL_law RL 4 40)  {n i : Nat} {M : Mem} (hI : Inv n M) (hn : n < 512) (hM : MR M M) (hi : i + 5 ≤ N) (hK : ∀ M2 : Mem, Inv (n + 1) M2 → MR M2 M2 → J G E 18 [some (.ref b), some (rf G 8 0), some (rf G 9 0), some (vi ((i : Int) + 5))] [] M2) : J G E 408 [some (.ref b), some (rf G 8 0), some (rf G 9 0), some (vi (i : Int))] [] M := by
  have x1 : ∀ k, -2147483648 ≤ (xs k).toInt ∧ (xs k).toInt < 2147483648 := fun k => ⟨Int32.le_toInt _, Int32.toInt_lt _⟩
  have x2 := x1 (i + 2)
  refine J_aloadr_1 Y qL_law_408 ?_
  refine J_aload_0 Y qL_law_409 ?_
  refine J_iload_3 Y qL_law_410 ?_
  refine J_iconst Y qL_law_411 ?_
  refine J_iadd Y qL_law_412 ?_
  refine J_sld (j := i + 1) Y hSc qL_law_413 (by omega) (by omega) (by omega) ?_
  refine J_cV1I Y qL_law_414 mL_40 iyX8_death (by decide) rfl (by decide) rfl (Nat.le_of_ble_eq_true rfl) ((Ct.imp (k_death _ G M (x1 _).1 (x1 _).2 hI hn) (QC_f (i_death hI) md_death))) (fun z M2 hc => ?_)
  obtain ⟨rfl, hce, hiv, hmd⟩ := hc
  refine J_aloadr_2 Y qL_law_417 ?_
  refine J_aload_0 Y qL_law_418 ?_
  refine J_iload_3 Y qL_law_419 ?_
  refine J_iconst Y qL_law_420 ?_
  refine J_iadd Y qL_law_421 ?_
  refine J_sld (j := i + 1) Y hSc qL_law_422 (by omega) (by omega) (by omega) ?_
  refine J_cV1I Y qL_law_423 mL_43 iyX9_death (by decide) rfl (by decide) rfl (Nat.le_of_ble_eq_true rfl) (r_death (A := M) _ G _ (x1 _).1 (x1 _).2 hI hn (MR_md hM hmd)) (fun z N2 hc2 => ?_)
  obtain ⟨rfl, hmr, hsm⟩ := hc2
  obtain ⟨hi2, hm2⟩ := step_ok hce hiv hmr hsm
  refine J_icmp_same Y qL_law_426 ?_
  refine J_iinc_3 Y qL_law_1316 rfl ?_
  refine J_goto Y qL_law_1319 ?_
  exact hK N2 hi2 hm2
theorem s_let {G : Gx} {E : Fx} {b N : Nat} {xs : Nat → Int32} (hSc : Sc G E b N xs) (hN : N ≤ 2560) (Y : Ok G E cL_law RL 4 40)  {n i : Nat} {M : Mem} (hI : Inv n M) (hn : n < 512) (hM : MR M M) (hi : i + 5 ≤ N) (hK : ∀ M2 : Mem, Inv (n + 1) M2 → MR M2 M2 → J G E 18 [some (.ref b), some (rf G 8 0), some (rf G 9 0), some (vi ((i : Int) + 5))] [] M2) : J G E 431 [some (.ref b), some (rf G 8 0), some (rf G 9 0), some (vi (i : Int))] [] M := by
  have x1 : ∀ k, -2147483648 ≤ (xs k).toInt ∧ (xs k).toInt < 2147483648 := fun k => ⟨Int32.le_toInt _, Int32.toInt_lt _⟩
  have x2 := x1 (i + 2)
  refine J_aloadr_1 Y qL_law_431 ?_
  refine J_aload_0 Y qL_law_432 ?_
  refine J_iload_3 Y qL_law_433 ?_
  refine J_iconst Y qL_law_434 ?_
  refine J_iadd Y qL_law_435 ?_
  refine J_sld (j := i + 1) Y hSc qL_law_436 (by omega) (by omega) (by omega) ?_
  refine J_aload_0 Y qL_law_437 ?_
  refine J_iload_3 Y qL_law_438 ?_
  refine J_iconst Y qL_law_439 ?_
  refine J_iadd Y qL_law_440 ?_
  refine J_sld (j := i + 2) Y hSc qL_law_441 (by omega) (by omega) (by omega) ?_
  refine J_aload_0 Y qL_law_442 ?_
  refine J_iload_3 Y qL_law_443 ?_
  refine J_iconst Y qL_law_444 ?_
  refine J_iadd Y qL_law_445 ?_
  refine J_sld (j := i + 3) Y hSc qL_law_446 (by omega) (by omega) (by omega) ?_
  refine J_aload_0 Y qL_law_447 ?_
  refine J_iload_3 Y qL_law_448 ?_
  refine J_iconst Y qL_law_449 ?_
  refine J_iadd Y qL_law_450 ?_
  refine J_sld (j := i + 4) Y hSc qL_law_451 (by omega) (by omega) (by omega) ?_
  refine J_cV4I Y qL_law_452 mL_44 iyX8_let (by decide) rfl (by decide) rfl (Nat.le_of_ble_eq_true rfl) ((Ct.imp (k_let _ G M (x1 _).1 (x1 _).2 (x1 _).1 (x1 _).2 (x1 _).1 (x1 _).2 (x1 _).1 (x1 _).2 hI hn) (QC_f (i_let hI) md_let))) (fun z M2 hc => ?_)
  obtain ⟨rfl, hce, hiv, hmd⟩ := hc
  refine J_aloadr_2 Y qL_law_455 ?_
  refine J_aload_0 Y qL_law_456 ?_
  refine J_iload_3 Y qL_law_457 ?_
  refine J_iconst Y qL_law_458 ?_
  refine J_iadd Y qL_law_459 ?_
  refine J_sld (j := i + 1) Y hSc qL_law_460 (by omega) (by omega) (by omega) ?_
  refine J_aload_0 Y qL_law_461 ?_
  refine J_iload_3 Y qL_law_462 ?_
  refine J_iconst Y qL_law_463 ?_
  refine J_iadd Y qL_law_464 ?_
  refine J_sld (j := i + 2) Y hSc qL_law_465 (by omega) (by omega) (by omega) ?_
  refine J_aload_0 Y qL_law_466 ?_
  refine J_iload_3 Y qL_law_467 ?_
  refine J_iconst Y qL_law_468 ?_
  refine J_iadd Y qL_law_469 ?_
  refine J_sld (j := i + 3) Y hSc qL_law_470 (by omega) (by omega) (by omega) ?_
  refine J_aload_0 Y qL_law_471 ?_
  refine J_iload_3 Y qL_law_472 ?_
  refine J_iconst Y qL_law_473 ?_
  refine J_iadd Y qL_law_474 ?_
  refine J_sld (j := i + 4) Y hSc qL_law_475 (by omega) (by omega) (by omega) ?_
  refine J_cV4I Y qL_law_476 mL_48 iyX9_let (by decide) rfl (by decide) rfl (Nat.le_of_ble_eq_true rfl) (r_let (A := M) _ G _ (x1 _).1 (x1 _).2 (x1 _).1 (x1 _).2 (x1 _).1 (x1 _).2 (x1 _).1 (x1 _).2 hI hn (MR_md hM hmd)) (fun z N2 hc2 => ?_)
  obtain ⟨rfl, hmr, hsm⟩ := hc2
  obtain ⟨hi2, hm2⟩ := step_ok hce hiv hmr hsm
  refine J_icmp_same Y qL_law_479 ?_
  refine J_iinc_3 Y qL_law_1316 rfl ?_
  refine J_goto Y qL_law_1319 ?_
  exact hK N2 hi2 hm2
theorem s_pawn {G : Gx} {E : Fx} {b N : Nat} {xs : Nat → Int32} (hSc : Sc G E b N xs) (hN : N ≤ 2560) (Y : Ok G E cL_law RL 4 40)  {n i : Nat} {M : Mem} (hI : Inv n M) (hn : n < 512) (hM : MR M M) (hi : i + 5 ≤ N) (hK : ∀ M2 : Mem, Inv (n + 1) M2 → MR M2 M2 → J G E 18 [some (.ref b), some (rf G 8 0), some (rf G 9 0), some (vi ((i : Int) + 5))] [] M2) : J G E 484 [some (.ref b), some (rf G 8 0), some (rf G 9 0), some (vi (i : Int))] [] M := by
  have x1 : ∀ k, -2147483648 ≤ (xs k).toInt ∧ (xs k).toInt < 2147483648 := fun k => ⟨Int32.le_toInt _, Int32.toInt_lt _⟩
  have x2 := x1 (i + 2)
  refine J_aloadr_1 Y qL_law_484 ?_
  refine J_aload_0 Y qL_law_485 ?_
  refine J_iload_3 Y qL_law_486 ?_
  refine J_iconst Y qL_law_487 ?_
  refine J_iadd Y qL_law_488 ?_
  refine J_sld (j := i + 1) Y hSc qL_law_489 (by omega) (by omega) (by omega) ?_
  refine J_aload_0 Y qL_law_490 ?_
  refine J_iload_3 Y qL_law_491 ?_
  refine J_iconst Y qL_law_492 ?_
  refine J_iadd Y qL_law_493 ?_
  refine J_sld (j := i + 2) Y hSc qL_law_494 (by omega) (by omega) (by omega) ?_
  refine J_aload_0 Y qL_law_495 ?_
  refine J_iload_3 Y qL_law_496 ?_
  refine J_iconst Y qL_law_497 ?_
  refine J_iadd Y qL_law_498 ?_
  refine J_sld (j := i + 3) Y hSc qL_law_499 (by omega) (by omega) (by omega) ?_
  refine J_cV3I Y qL_law_500 mL_49 iyX8_pawn (by decide) rfl (by decide) rfl (Nat.le_of_ble_eq_true rfl) ((Ct.imp (k_pawn _ G M (x1 _).1 (x1 _).2 (x1 _).1 (x1 _).2 (x1 _).1 (x1 _).2 hI hn) (QC_f (i_pawn hI) md_pawn))) (fun z M2 hc => ?_)
  obtain ⟨rfl, hce, hiv, hmd⟩ := hc
  refine J_aloadr_2 Y qL_law_503 ?_
  refine J_aload_0 Y qL_law_504 ?_
  refine J_iload_3 Y qL_law_505 ?_
  refine J_iconst Y qL_law_506 ?_
  refine J_iadd Y qL_law_507 ?_
  refine J_sld (j := i + 1) Y hSc qL_law_508 (by omega) (by omega) (by omega) ?_
  refine J_aload_0 Y qL_law_509 ?_
  refine J_iload_3 Y qL_law_510 ?_
  refine J_iconst Y qL_law_511 ?_
  refine J_iadd Y qL_law_512 ?_
  refine J_sld (j := i + 2) Y hSc qL_law_513 (by omega) (by omega) (by omega) ?_
  refine J_aload_0 Y qL_law_514 ?_
  refine J_iload_3 Y qL_law_515 ?_
  refine J_iconst Y qL_law_516 ?_
  refine J_iadd Y qL_law_517 ?_
  refine J_sld (j := i + 3) Y hSc qL_law_518 (by omega) (by omega) (by omega) ?_
  refine J_cV3I Y qL_law_519 mL_52 iyX9_pawn (by decide) rfl (by decide) rfl (Nat.le_of_ble_eq_true rfl) (r_pawn (A := M) _ G _ (x1 _).1 (x1 _).2 (x1 _).1 (x1 _).2 (x1 _).1 (x1 _).2 hI hn (MR_md hM hmd)) (fun z N2 hc2 => ?_)
  obtain ⟨rfl, hmr, hsm⟩ := hc2
  obtain ⟨hi2, hm2⟩ := step_ok hce hiv hmr hsm
  refine J_icmp_same Y qL_law_522 ?_
  refine J_iinc_3 Y qL_law_1316 rfl ?_
  refine J_goto Y qL_law_1319 ?_
  exact hK N2 hi2 hm2
theorem s_pawned {G : Gx} {E : Fx} {b N : Nat} {xs : Nat → Int32} (hSc : Sc G E b N xs) (hN : N ≤ 2560) (Y : Ok G E cL_law RL 4 40)  {n i : Nat} {M : Mem} (hI : Inv n M) (hn : n < 512) (hM : MR M M) (hi : i + 5 ≤ N) (hK : ∀ M2 : Mem, Inv (n + 1) M2 → MR M2 M2 → J G E 18 [some (.ref b), some (rf G 8 0), some (rf G 9 0), some (vi ((i : Int) + 5))] [] M2) : J G E 527 [some (.ref b), some (rf G 8 0), some (rf G 9 0), some (vi (i : Int))] [] M := by
  have x1 : ∀ k, -2147483648 ≤ (xs k).toInt ∧ (xs k).toInt < 2147483648 := fun k => ⟨Int32.le_toInt _, Int32.toInt_lt _⟩
  have x2 := x1 (i + 2)
  refine J_aloadr_1 Y qL_law_527 ?_
  refine J_aload_0 Y qL_law_528 ?_
  refine J_iload_3 Y qL_law_529 ?_
  refine J_iconst Y qL_law_530 ?_
  refine J_iadd Y qL_law_531 ?_
  refine J_sld (j := i + 1) Y hSc qL_law_532 (by omega) (by omega) (by omega) ?_
  refine J_aload_0 Y qL_law_533 ?_
  refine J_iload_3 Y qL_law_534 ?_
  refine J_iconst Y qL_law_535 ?_
  refine J_iadd Y qL_law_536 ?_
  refine J_sld (j := i + 2) Y hSc qL_law_537 (by omega) (by omega) (by omega) ?_
  refine J_aload_0 Y qL_law_538 ?_
  refine J_iload_3 Y qL_law_539 ?_
  refine J_iconst Y qL_law_540 ?_
  refine J_iadd Y qL_law_541 ?_
  refine J_sld (j := i + 3) Y hSc qL_law_542 (by omega) (by omega) (by omega) ?_
  refine J_cV3I Y qL_law_543 mL_53 iyX8_pawned (by decide) rfl (by decide) rfl (Nat.le_of_ble_eq_true rfl) ((Ct.imp (k_pawned _ G M (x1 _).1 (x1 _).2 (x1 _).1 (x1 _).2 (x1 _).1 (x1 _).2 hI hn) (QC_f (i_pawned hI) md_pawned))) (fun z M2 hc => ?_)
  obtain ⟨rfl, hce, hiv, hmd⟩ := hc
  refine J_aloadr_2 Y qL_law_546 ?_
  refine J_aload_0 Y qL_law_547 ?_
  refine J_iload_3 Y qL_law_548 ?_
  refine J_iconst Y qL_law_549 ?_
  refine J_iadd Y qL_law_550 ?_
  refine J_sld (j := i + 1) Y hSc qL_law_551 (by omega) (by omega) (by omega) ?_
  refine J_aload_0 Y qL_law_552 ?_
  refine J_iload_3 Y qL_law_553 ?_
  refine J_iconst Y qL_law_554 ?_
  refine J_iadd Y qL_law_555 ?_
  refine J_sld (j := i + 2) Y hSc qL_law_556 (by omega) (by omega) (by omega) ?_
  refine J_aload_0 Y qL_law_557 ?_
  refine J_iload_3 Y qL_law_558 ?_
  refine J_iconst Y qL_law_559 ?_
  refine J_iadd Y qL_law_560 ?_
  refine J_sld (j := i + 3) Y hSc qL_law_561 (by omega) (by omega) (by omega) ?_
  refine J_cV3I Y qL_law_562 mL_56 iyX9_pawned (by decide) rfl (by decide) rfl (Nat.le_of_ble_eq_true rfl) (r_pawned (A := M) _ G _ (x1 _).1 (x1 _).2 (x1 _).1 (x1 _).2 (x1 _).1 (x1 _).2 hI hn (MR_md hM hmd)) (fun z N2 hc2 => ?_)
  obtain ⟨rfl, hmr, hsm⟩ := hc2
  obtain ⟨hi2, hm2⟩ := step_ok hce hiv hmr hsm
  refine J_icmp_same Y qL_law_565 ?_
  refine J_iinc_3 Y qL_law_1316 rfl ?_
  refine J_goto Y qL_law_1319 ?_
  exact hK N2 hi2 hm2
theorem s_pay {G : Gx} {E : Fx} {b N : Nat} {xs : Nat → Int32} (hSc : Sc G E b N xs) (hN : N ≤ 2560) (Y : Ok G E cL_law RL 4 40)  {n i : Nat} {M : Mem} (hI : Inv n M) (hn : n < 512) (hM : MR M M) (hi : i + 5 ≤ N) (hK : ∀ M2 : Mem, Inv (n + 1) M2 → MR M2 M2 → J G E 18 [some (.ref b), some (rf G 8 0), some (rf G 9 0), some (vi ((i : Int) + 5))] [] M2) : J G E 570 [some (.ref b), some (rf G 8 0), some (rf G 9 0), some (vi (i : Int))] [] M := by
  have x1 : ∀ k, -2147483648 ≤ (xs k).toInt ∧ (xs k).toInt < 2147483648 := fun k => ⟨Int32.le_toInt _, Int32.toInt_lt _⟩
  have x2 := x1 (i + 2)
  refine J_aloadr_1 Y qL_law_570 ?_
  refine J_aload_0 Y qL_law_571 ?_
  refine J_iload_3 Y qL_law_572 ?_
  refine J_iconst Y qL_law_573 ?_
  refine J_iadd Y qL_law_574 ?_
  refine J_sld (j := i + 1) Y hSc qL_law_575 (by omega) (by omega) (by omega) ?_
  refine J_aload_0 Y qL_law_576 ?_
  refine J_iload_3 Y qL_law_577 ?_
  refine J_iconst Y qL_law_578 ?_
  refine J_iadd Y qL_law_579 ?_
  refine J_sld (j := i + 2) Y hSc qL_law_580 (by omega) (by omega) (by omega) ?_
  refine J_cV2I Y qL_law_581 mL_57 iyX8_pay (by decide) rfl (by decide) rfl (Nat.le_of_ble_eq_true rfl) ((Ct.imp (k_pay _ G M (x1 _).1 (x1 _).2 (x1 _).1 (x1 _).2 hI hn) (QC_f (i_pay hI) md_pay))) (fun z M2 hc => ?_)
  obtain ⟨rfl, hce, hiv, hmd⟩ := hc
  refine J_aloadr_2 Y qL_law_584 ?_
  refine J_aload_0 Y qL_law_585 ?_
  refine J_iload_3 Y qL_law_586 ?_
  refine J_iconst Y qL_law_587 ?_
  refine J_iadd Y qL_law_588 ?_
  refine J_sld (j := i + 1) Y hSc qL_law_589 (by omega) (by omega) (by omega) ?_
  refine J_aload_0 Y qL_law_590 ?_
  refine J_iload_3 Y qL_law_591 ?_
  refine J_iconst Y qL_law_592 ?_
  refine J_iadd Y qL_law_593 ?_
  refine J_sld (j := i + 2) Y hSc qL_law_594 (by omega) (by omega) (by omega) ?_
  refine J_cV2I Y qL_law_595 mL_60 iyX9_pay (by decide) rfl (by decide) rfl (Nat.le_of_ble_eq_true rfl) (r_pay (A := M) _ G _ (x1 _).1 (x1 _).2 (x1 _).1 (x1 _).2 hI hn (MR_md hM hmd)) (fun z N2 hc2 => ?_)
  obtain ⟨rfl, hmr, hsm⟩ := hc2
  obtain ⟨hi2, hm2⟩ := step_ok hce hiv hmr hsm
  refine J_icmp_same Y qL_law_598 ?_
  refine J_iinc_3 Y qL_law_1316 rfl ?_
  refine J_goto Y qL_law_1319 ?_
  exact hK N2 hi2 hm2
theorem s_sold {G : Gx} {E : Fx} {b N : Nat} {xs : Nat → Int32} (hSc : Sc G E b N xs) (hN : N ≤ 2560) (Y : Ok G E cL_law RL 4 40)  {n i : Nat} {M : Mem} (hI : Inv n M) (hn : n < 512) (hM : MR M M) (hi : i + 5 ≤ N) (hK : ∀ M2 : Mem, Inv (n + 1) M2 → MR M2 M2 → J G E 18 [some (.ref b), some (rf G 8 0), some (rf G 9 0), some (vi ((i : Int) + 5))] [] M2) : J G E 603 [some (.ref b), some (rf G 8 0), some (rf G 9 0), some (vi (i : Int))] [] M := by
  have x1 : ∀ k, -2147483648 ≤ (xs k).toInt ∧ (xs k).toInt < 2147483648 := fun k => ⟨Int32.le_toInt _, Int32.toInt_lt _⟩
  have x2 := x1 (i + 2)
  refine J_aloadr_1 Y qL_law_603 ?_
  refine J_aload_0 Y qL_law_604 ?_
  refine J_iload_3 Y qL_law_605 ?_
  refine J_iconst Y qL_law_606 ?_
  refine J_iadd Y qL_law_607 ?_
  refine J_sld (j := i + 1) Y hSc qL_law_608 (by omega) (by omega) (by omega) ?_
  refine J_aload_0 Y qL_law_609 ?_
  refine J_iload_3 Y qL_law_610 ?_
  refine J_iconst Y qL_law_611 ?_
  refine J_iadd Y qL_law_612 ?_
  refine J_sld (j := i + 2) Y hSc qL_law_613 (by omega) (by omega) (by omega) ?_
  refine J_aload_0 Y qL_law_614 ?_
  refine J_iload_3 Y qL_law_615 ?_
  refine J_iconst Y qL_law_616 ?_
  refine J_iadd Y qL_law_617 ?_
  refine J_sld (j := i + 3) Y hSc qL_law_618 (by omega) (by omega) (by omega) ?_
  refine J_cV3I Y qL_law_619 mL_61 iyX8_sold (by decide) rfl (by decide) rfl (Nat.le_of_ble_eq_true rfl) ((Ct.imp (k_sold _ G M (x1 _).1 (x1 _).2 (x1 _).1 (x1 _).2 (x1 _).1 (x1 _).2 hI hn) (QC_f (i_sold hI) md_sold))) (fun z M2 hc => ?_)
  obtain ⟨rfl, hce, hiv, hmd⟩ := hc
  refine J_aloadr_2 Y qL_law_622 ?_
  refine J_aload_0 Y qL_law_623 ?_
  refine J_iload_3 Y qL_law_624 ?_
  refine J_iconst Y qL_law_625 ?_
  refine J_iadd Y qL_law_626 ?_
  refine J_sld (j := i + 1) Y hSc qL_law_627 (by omega) (by omega) (by omega) ?_
  refine J_aload_0 Y qL_law_628 ?_
  refine J_iload_3 Y qL_law_629 ?_
  refine J_iconst Y qL_law_630 ?_
  refine J_iadd Y qL_law_631 ?_
  refine J_sld (j := i + 2) Y hSc qL_law_632 (by omega) (by omega) (by omega) ?_
  refine J_aload_0 Y qL_law_633 ?_
  refine J_iload_3 Y qL_law_634 ?_
  refine J_iconst Y qL_law_635 ?_
  refine J_iadd Y qL_law_636 ?_
  refine J_sld (j := i + 3) Y hSc qL_law_637 (by omega) (by omega) (by omega) ?_
  refine J_cV3I Y qL_law_638 mL_64 iyX9_sold (by decide) rfl (by decide) rfl (Nat.le_of_ble_eq_true rfl) (r_sold (A := M) _ G _ (x1 _).1 (x1 _).2 (x1 _).1 (x1 _).2 (x1 _).1 (x1 _).2 hI hn (MR_md hM hmd)) (fun z N2 hc2 => ?_)
  obtain ⟨rfl, hmr, hsm⟩ := hc2
  obtain ⟨hi2, hm2⟩ := step_ok hce hiv hmr hsm
  refine J_icmp_same Y qL_law_641 ?_
  refine J_iinc_3 Y qL_law_1316 rfl ?_
  refine J_goto Y qL_law_1319 ?_
  exact hK N2 hi2 hm2
theorem s_first {G : Gx} {E : Fx} {b N : Nat} {xs : Nat → Int32} (hSc : Sc G E b N xs) (hN : N ≤ 2560) (Y : Ok G E cL_law RL 4 40)  {n i : Nat} {M : Mem} (hI : Inv n M) (hn : n < 512) (hM : MR M M) (hi : i + 5 ≤ N) (hK : ∀ M2 : Mem, Inv (n + 1) M2 → MR M2 M2 → J G E 18 [some (.ref b), some (rf G 8 0), some (rf G 9 0), some (vi ((i : Int) + 5))] [] M2) : J G E 646 [some (.ref b), some (rf G 8 0), some (rf G 9 0), some (vi (i : Int))] [] M := by
  have x1 : ∀ k, -2147483648 ≤ (xs k).toInt ∧ (xs k).toInt < 2147483648 := fun k => ⟨Int32.le_toInt _, Int32.toInt_lt _⟩
  have x2 := x1 (i + 2)
  refine J_aloadr_1 Y qL_law_646 ?_
  refine J_aload_0 Y qL_law_647 ?_
  refine J_iload_3 Y qL_law_648 ?_
  refine J_iconst Y qL_law_649 ?_
  refine J_iadd Y qL_law_650 ?_
  refine J_sld (j := i + 1) Y hSc qL_law_651 (by omega) (by omega) (by omega) ?_
  refine J_aload_0 Y qL_law_652 ?_
  refine J_iload_3 Y qL_law_653 ?_
  refine J_iconst Y qL_law_654 ?_
  refine J_iadd Y qL_law_655 ?_
  refine J_sld (j := i + 2) Y hSc qL_law_656 (by omega) (by omega) (by omega) ?_
  refine J_cV2I Y qL_law_657 mL_65 iyX8_first (by decide) rfl (by decide) rfl (Nat.le_of_ble_eq_true rfl) ((Ct.imp (k_first _ G M (x1 _).1 (x1 _).2 (x1 _).1 (x1 _).2 hI hn) (QC_f (i_first hI) md_first))) (fun z M2 hc => ?_)
  obtain ⟨rfl, hce, hiv, hmd⟩ := hc
  refine J_aloadr_2 Y qL_law_660 ?_
  refine J_aload_0 Y qL_law_661 ?_
  refine J_iload_3 Y qL_law_662 ?_
  refine J_iconst Y qL_law_663 ?_
  refine J_iadd Y qL_law_664 ?_
  refine J_sld (j := i + 1) Y hSc qL_law_665 (by omega) (by omega) (by omega) ?_
  refine J_aload_0 Y qL_law_666 ?_
  refine J_iload_3 Y qL_law_667 ?_
  refine J_iconst Y qL_law_668 ?_
  refine J_iadd Y qL_law_669 ?_
  refine J_sld (j := i + 2) Y hSc qL_law_670 (by omega) (by omega) (by omega) ?_
  refine J_cV2I Y qL_law_671 mL_68 iyX9_first (by decide) rfl (by decide) rfl (Nat.le_of_ble_eq_true rfl) (r_first (A := M) _ G _ (x1 _).1 (x1 _).2 (x1 _).1 (x1 _).2 hI hn (MR_md hM hmd)) (fun z N2 hc2 => ?_)
  obtain ⟨rfl, hmr, hsm⟩ := hc2
  obtain ⟨hi2, hm2⟩ := step_ok hce hiv hmr hsm
  refine J_icmp_same Y qL_law_674 ?_
  refine J_iinc_3 Y qL_law_1316 rfl ?_
  refine J_goto Y qL_law_1319 ?_
  exact hK N2 hi2 hm2
theorem s_purse {G : Gx} {E : Fx} {b N : Nat} {xs : Nat → Int32} (hSc : Sc G E b N xs) (hN : N ≤ 2560) (Y : Ok G E cL_law RL 4 40)  {n i : Nat} {M : Mem} (hI : Inv n M) (hn : n < 512) (hM : MR M M) (hi : i + 5 ≤ N) (hK : ∀ M2 : Mem, Inv (n + 1) M2 → MR M2 M2 → J G E 18 [some (.ref b), some (rf G 8 0), some (rf G 9 0), some (vi ((i : Int) + 5))] [] M2) : J G E 679 [some (.ref b), some (rf G 8 0), some (rf G 9 0), some (vi (i : Int))] [] M := by
  have x1 : ∀ k, -2147483648 ≤ (xs k).toInt ∧ (xs k).toInt < 2147483648 := fun k => ⟨Int32.le_toInt _, Int32.toInt_lt _⟩
  have x2 := x1 (i + 2)
  refine J_aloadr_1 Y qL_law_679 ?_
  refine J_aload_0 Y qL_law_680 ?_
  refine J_iload_3 Y qL_law_681 ?_
  refine J_iconst Y qL_law_682 ?_
  refine J_iadd Y qL_law_683 ?_
  refine J_sld (j := i + 1) Y hSc qL_law_684 (by omega) (by omega) (by omega) ?_
  refine J_cV1L Y qL_law_685 mL_69 iyX8_purse (by decide) rfl (by decide) rfl (Nat.le_of_ble_eq_true rfl) ((Ct.imp (k_purse _ G M (x1 _).1 (x1 _).2 hI hn) (QC_l (i_purse hI) md_purse))) (fun z M2 hc => ?_)
  obtain ⟨rfl, hce, hiv, hmd⟩ := hc
  refine J_aloadr_2 Y qL_law_688 ?_
  refine J_aload_0 Y qL_law_689 ?_
  refine J_iload_3 Y qL_law_690 ?_
  refine J_iconst Y qL_law_691 ?_
  refine J_iadd Y qL_law_692 ?_
  refine J_sld (j := i + 1) Y hSc qL_law_693 (by omega) (by omega) (by omega) ?_
  refine J_cV1L Y qL_law_694 mL_73 iyX9_purse (by decide) rfl (by decide) rfl (Nat.le_of_ble_eq_true rfl) (r_purse (A := M) _ G _ (x1 _).1 (x1 _).2 hI hn (MR_md hM hmd)) (fun z N2 hc2 => ?_)
  obtain ⟨rfl, hmr, hsm⟩ := hc2
  obtain ⟨hi2, hm2⟩ := step_ok hce hiv hmr hsm
  refine J_lcmp_same Y qL_law_697 ?_
  refine J_eq0 Y qL_law_698 ?_
  refine J_iinc_3 Y qL_law_1316 rfl ?_
  refine J_goto Y qL_law_1319 ?_
  exact hK N2 hi2 hm2
theorem s_feed {G : Gx} {E : Fx} {b N : Nat} {xs : Nat → Int32} (hSc : Sc G E b N xs) (hN : N ≤ 2560) (Y : Ok G E cL_law RL 4 40)  {n i : Nat} {M : Mem} (hI : Inv n M) (hn : n < 512) (hM : MR M M) (hi : i + 5 ≤ N) (hK : ∀ M2 : Mem, Inv (n + 1) M2 → MR M2 M2 → J G E 18 [some (.ref b), some (rf G 8 0), some (rf G 9 0), some (vi ((i : Int) + 5))] [] M2) : J G E 703 [some (.ref b), some (rf G 8 0), some (rf G 9 0), some (vi (i : Int))] [] M := by
  have x1 : ∀ k, -2147483648 ≤ (xs k).toInt ∧ (xs k).toInt < 2147483648 := fun k => ⟨Int32.le_toInt _, Int32.toInt_lt _⟩
  have x2 := x1 (i + 2)
  refine J_aloadr_1 Y qL_law_703 ?_
  refine J_aload_0 Y qL_law_704 ?_
  refine J_iload_3 Y qL_law_705 ?_
  refine J_iconst Y qL_law_706 ?_
  refine J_iadd Y qL_law_707 ?_
  refine J_sld (j := i + 1) Y hSc qL_law_708 (by omega) (by omega) (by omega) ?_
  refine J_aload_0 Y qL_law_709 ?_
  refine J_iload_3 Y qL_law_710 ?_
  refine J_iconst Y qL_law_711 ?_
  refine J_iadd Y qL_law_712 ?_
  refine J_sld (j := i + 2) Y hSc qL_law_713 (by omega) (by omega) (by omega) ?_
  refine J_cV2I Y qL_law_714 mL_74 iyX8_feed (by decide) rfl (by decide) rfl (Nat.le_of_ble_eq_true rfl) ((Ct.imp (k_feed _ G M (x1 _).1 (x1 _).2 (x1 _).1 (x1 _).2 hI hn) (QC_f (i_feed hI) md_feed))) (fun z M2 hc => ?_)
  obtain ⟨rfl, hce, hiv, hmd⟩ := hc
  refine J_aloadr_2 Y qL_law_717 ?_
  refine J_aload_0 Y qL_law_718 ?_
  refine J_iload_3 Y qL_law_719 ?_
  refine J_iconst Y qL_law_720 ?_
  refine J_iadd Y qL_law_721 ?_
  refine J_sld (j := i + 1) Y hSc qL_law_722 (by omega) (by omega) (by omega) ?_
  refine J_aload_0 Y qL_law_723 ?_
  refine J_iload_3 Y qL_law_724 ?_
  refine J_iconst Y qL_law_725 ?_
  refine J_iadd Y qL_law_726 ?_
  refine J_sld (j := i + 2) Y hSc qL_law_727 (by omega) (by omega) (by omega) ?_
  refine J_cV2I Y qL_law_728 mL_77 iyX9_feed (by decide) rfl (by decide) rfl (Nat.le_of_ble_eq_true rfl) (r_feed (A := M) _ G _ (x1 _).1 (x1 _).2 (x1 _).1 (x1 _).2 hI hn (MR_md hM hmd)) (fun z N2 hc2 => ?_)
  obtain ⟨rfl, hmr, hsm⟩ := hc2
  obtain ⟨hi2, hm2⟩ := step_ok hce hiv hmr hsm
  refine J_icmp_same Y qL_law_731 ?_
  refine J_iinc_3 Y qL_law_1316 rfl ?_
  refine J_goto Y qL_law_1319 ?_
  exact hK N2 hi2 hm2
theorem s_wipe {G : Gx} {E : Fx} {b N : Nat} {xs : Nat → Int32} (hSc : Sc G E b N xs) (hN : N ≤ 2560) (Y : Ok G E cL_law RL 4 40)  {n i : Nat} {M : Mem} (hI : Inv n M) (hn : n < 512) (hM : MR M M) (hi : i + 5 ≤ N) (hK : ∀ M2 : Mem, Inv (n + 1) M2 → MR M2 M2 → J G E 18 [some (.ref b), some (rf G 8 0), some (rf G 9 0), some (vi ((i : Int) + 5))] [] M2) : J G E 736 [some (.ref b), some (rf G 8 0), some (rf G 9 0), some (vi (i : Int))] [] M := by
  have x1 : ∀ k, -2147483648 ≤ (xs k).toInt ∧ (xs k).toInt < 2147483648 := fun k => ⟨Int32.le_toInt _, Int32.toInt_lt _⟩
  have x2 := x1 (i + 2)
  refine J_aloadr_1 Y qL_law_736 ?_
  refine J_cV0I Y qL_law_737 mL_78 iyX8_wipe (by decide) rfl (by decide) rfl (Nat.le_of_ble_eq_true rfl) ((Ct.imp (k_wipe _ G M  hI hn) (QC_f (i_wipe hI) md_wipe))) (fun z M2 hc => ?_)
  obtain ⟨rfl, hce, hiv, hmd⟩ := hc
  refine J_aloadr_2 Y qL_law_740 ?_
  refine J_cV0I Y qL_law_741 mL_82 iyX9_wipe (by decide) rfl (by decide) rfl (Nat.le_of_ble_eq_true rfl) (r_wipe (A := M) _ G _  hI hn (MR_md hM hmd)) (fun z N2 hc2 => ?_)
  obtain ⟨rfl, hmr, hsm⟩ := hc2
  obtain ⟨hi2, hm2⟩ := step_ok hce hiv hmr hsm
  refine J_icmp_same Y qL_law_744 ?_
  refine J_iinc_3 Y qL_law_1316 rfl ?_
  refine J_goto Y qL_law_1319 ?_
  exact hK N2 hi2 hm2
theorem s_rule {G : Gx} {E : Fx} {b N : Nat} {xs : Nat → Int32} (hSc : Sc G E b N xs) (hN : N ≤ 2560) (Y : Ok G E cL_law RL 4 40)  {n i : Nat} {M : Mem} (hI : Inv n M) (hn : n < 512) (hM : MR M M) (hi : i + 5 ≤ N) (hK : ∀ M2 : Mem, Inv (n + 1) M2 → MR M2 M2 → J G E 18 [some (.ref b), some (rf G 8 0), some (rf G 9 0), some (vi ((i : Int) + 5))] [] M2) : J G E 749 [some (.ref b), some (rf G 8 0), some (rf G 9 0), some (vi (i : Int))] [] M := by
  have x1 : ∀ k, -2147483648 ≤ (xs k).toInt ∧ (xs k).toInt < 2147483648 := fun k => ⟨Int32.le_toInt _, Int32.toInt_lt _⟩
  have x2 := x1 (i + 2)
  refine J_aloadr_1 Y qL_law_749 ?_
  refine J_aload_0 Y qL_law_750 ?_
  refine J_iload_3 Y qL_law_751 ?_
  refine J_iconst Y qL_law_752 ?_
  refine J_iadd Y qL_law_753 ?_
  refine J_sld (j := i + 1) Y hSc qL_law_754 (by omega) (by omega) (by omega) ?_
  refine J_aload_0 Y qL_law_755 ?_
  refine J_iload_3 Y qL_law_756 ?_
  refine J_iconst Y qL_law_757 ?_
  refine J_iadd Y qL_law_758 ?_
  refine J_sld (j := i + 2) Y hSc qL_law_759 (by omega) (by omega) (by omega) ?_
  refine J_cV2I Y qL_law_760 mL_83 iyX8_rule (by decide) rfl (by decide) rfl (Nat.le_of_ble_eq_true rfl) ((Ct.imp (k_rule _ G M (x1 _).1 (x1 _).2 (x1 _).1 (x1 _).2 hI hn) (fun r N2 h => by
    obtain ⟨z, h1, h2, h3⟩ := h
    exact ⟨z, h1, h2, CE_ru h3, Inv_CE2 (i_rule hI) (CE_ru h3) (fun y => h3 _ _ _ (by omega) (by omega) (by omega)) (fun z => h3 _ _ _ (by omega) (by omega) (by omega)), Md_tr (fun x y z hx => h3 x y z (by omega) (by omega) (by omega)) md_rule⟩ : ∀ r N2, _ → RI (QC n (f_rule M ((xs (i + 1)).toInt) ((xs (i + 2)).toInt)) M) r N2))) (fun z M2 hc => ?_)
  obtain ⟨rfl, hce, hiv, hmd⟩ := hc
  refine J_aloadr_2 Y qL_law_763 ?_
  refine J_aload_0 Y qL_law_764 ?_
  refine J_iload_3 Y qL_law_765 ?_
  refine J_iconst Y qL_law_766 ?_
  refine J_iadd Y qL_law_767 ?_
  refine J_sld (j := i + 1) Y hSc qL_law_768 (by omega) (by omega) (by omega) ?_
  refine J_aload_0 Y qL_law_769 ?_
  refine J_iload_3 Y qL_law_770 ?_
  refine J_iconst Y qL_law_771 ?_
  refine J_iadd Y qL_law_772 ?_
  refine J_sld (j := i + 2) Y hSc qL_law_773 (by omega) (by omega) (by omega) ?_
  refine J_cV2I Y qL_law_774 mL_86 iyX9_rule (by decide) rfl (by decide) rfl (Nat.le_of_ble_eq_true rfl) (r_rule (A := M) _ G _ (x1 _).1 (x1 _).2 (x1 _).1 (x1 _).2 hI hn (MR_md hM hmd)) (fun z N2 hc2 => ?_)
  obtain ⟨rfl, hmr, hsm⟩ := hc2
  obtain ⟨hi2, hm2⟩ := step_ok hce hiv hmr hsm
  refine J_icmp_same Y qL_law_777 ?_
  refine J_iinc_3 Y qL_law_1316 rfl ?_
  refine J_goto Y qL_law_1319 ?_
  exact hK N2 hi2 hm2
theorem s_may {G : Gx} {E : Fx} {b N : Nat} {xs : Nat → Int32} (hSc : Sc G E b N xs) (hN : N ≤ 2560) (Y : Ok G E cL_law RL 4 40)  {n i : Nat} {M : Mem} (hI : Inv n M) (hn : n < 512) (hM : MR M M) (hi : i + 5 ≤ N) (hK : ∀ M2 : Mem, Inv (n + 1) M2 → MR M2 M2 → J G E 18 [some (.ref b), some (rf G 8 0), some (rf G 9 0), some (vi ((i : Int) + 5))] [] M2) : J G E 782 [some (.ref b), some (rf G 8 0), some (rf G 9 0), some (vi (i : Int))] [] M := by
  have x1 : ∀ k, -2147483648 ≤ (xs k).toInt ∧ (xs k).toInt < 2147483648 := fun k => ⟨Int32.le_toInt _, Int32.toInt_lt _⟩
  have x2 := x1 (i + 2)
  refine J_aloadr_1 Y qL_law_782 ?_
  refine J_aload_0 Y qL_law_783 ?_
  refine J_iload_3 Y qL_law_784 ?_
  refine J_iconst Y qL_law_785 ?_
  refine J_iadd Y qL_law_786 ?_
  refine J_sld (j := i + 1) Y hSc qL_law_787 (by omega) (by omega) (by omega) ?_
  refine J_aload_0 Y qL_law_788 ?_
  refine J_iload_3 Y qL_law_789 ?_
  refine J_iconst Y qL_law_790 ?_
  refine J_iadd Y qL_law_791 ?_
  refine J_sld (j := i + 2) Y hSc qL_law_792 (by omega) (by omega) (by omega) ?_
  refine J_aload_0 Y qL_law_793 ?_
  refine J_iload_3 Y qL_law_794 ?_
  refine J_iconst Y qL_law_795 ?_
  refine J_iadd Y qL_law_796 ?_
  refine J_sld (j := i + 3) Y hSc qL_law_797 (by omega) (by omega) (by omega) ?_
  refine J_cV3I Y qL_law_798 mL_87 iyX8_may (by decide) rfl (by decide) rfl (Nat.le_of_ble_eq_true rfl) ((Ct.imp (k_may _ G M (x1 _).1 (x1 _).2 (x1 _).1 (x1 _).2 (x1 _).1 (x1 _).2 hI hn) (QC_f (i_may hI) md_may))) (fun z M2 hc => ?_)
  obtain ⟨rfl, hce, hiv, hmd⟩ := hc
  refine J_aloadr_2 Y qL_law_801 ?_
  refine J_aload_0 Y qL_law_802 ?_
  refine J_iload_3 Y qL_law_803 ?_
  refine J_iconst Y qL_law_804 ?_
  refine J_iadd Y qL_law_805 ?_
  refine J_sld (j := i + 1) Y hSc qL_law_806 (by omega) (by omega) (by omega) ?_
  refine J_aload_0 Y qL_law_807 ?_
  refine J_iload_3 Y qL_law_808 ?_
  refine J_iconst Y qL_law_809 ?_
  refine J_iadd Y qL_law_810 ?_
  refine J_sld (j := i + 2) Y hSc qL_law_811 (by omega) (by omega) (by omega) ?_
  refine J_aload_0 Y qL_law_812 ?_
  refine J_iload_3 Y qL_law_813 ?_
  refine J_iconst Y qL_law_814 ?_
  refine J_iadd Y qL_law_815 ?_
  refine J_sld (j := i + 3) Y hSc qL_law_816 (by omega) (by omega) (by omega) ?_
  refine J_cV3I Y qL_law_817 mL_90 iyX9_may (by decide) rfl (by decide) rfl (Nat.le_of_ble_eq_true rfl) (r_may (A := M) _ G _ (x1 _).1 (x1 _).2 (x1 _).1 (x1 _).2 (x1 _).1 (x1 _).2 hI hn (MR_md hM hmd)) (fun z N2 hc2 => ?_)
  obtain ⟨rfl, hmr, hsm⟩ := hc2
  obtain ⟨hi2, hm2⟩ := step_ok hce hiv hmr hsm
  refine J_icmp_same Y qL_law_820 ?_
  refine J_iinc_3 Y qL_law_1316 rfl ?_
  refine J_goto Y qL_law_1319 ?_
  exact hK N2 hi2 hm2
theorem s_why {G : Gx} {E : Fx} {b N : Nat} {xs : Nat → Int32} (hSc : Sc G E b N xs) (hN : N ≤ 2560) (Y : Ok G E cL_law RL 4 40)  {n i : Nat} {M : Mem} (hI : Inv n M) (hn : n < 512) (hM : MR M M) (hi : i + 5 ≤ N) (hK : ∀ M2 : Mem, Inv (n + 1) M2 → MR M2 M2 → J G E 18 [some (.ref b), some (rf G 8 0), some (rf G 9 0), some (vi ((i : Int) + 5))] [] M2) : J G E 825 [some (.ref b), some (rf G 8 0), some (rf G 9 0), some (vi (i : Int))] [] M := by
  have x1 : ∀ k, -2147483648 ≤ (xs k).toInt ∧ (xs k).toInt < 2147483648 := fun k => ⟨Int32.le_toInt _, Int32.toInt_lt _⟩
  have x2 := x1 (i + 2)
  refine J_aloadr_1 Y qL_law_825 ?_
  refine J_aload_0 Y qL_law_826 ?_
  refine J_iload_3 Y qL_law_827 ?_
  refine J_iconst Y qL_law_828 ?_
  refine J_iadd Y qL_law_829 ?_
  refine J_sld (j := i + 1) Y hSc qL_law_830 (by omega) (by omega) (by omega) ?_
  refine J_aload_0 Y qL_law_831 ?_
  refine J_iload_3 Y qL_law_832 ?_
  refine J_iconst Y qL_law_833 ?_
  refine J_iadd Y qL_law_834 ?_
  refine J_sld (j := i + 2) Y hSc qL_law_835 (by omega) (by omega) (by omega) ?_
  refine J_aload_0 Y qL_law_836 ?_
  refine J_iload_3 Y qL_law_837 ?_
  refine J_iconst Y qL_law_838 ?_
  refine J_iadd Y qL_law_839 ?_
  refine J_sld (j := i + 3) Y hSc qL_law_840 (by omega) (by omega) (by omega) ?_
  refine J_cV3I Y qL_law_841 mL_91 iyX8_why (by decide) rfl (by decide) rfl (Nat.le_of_ble_eq_true rfl) ((Ct.imp (k_why _ G M (x1 _).1 (x1 _).2 (x1 _).1 (x1 _).2 (x1 _).1 (x1 _).2 hI hn) (QC_f (i_why hI) md_why))) (fun z M2 hc => ?_)
  obtain ⟨rfl, hce, hiv, hmd⟩ := hc
  refine J_aloadr_2 Y qL_law_844 ?_
  refine J_aload_0 Y qL_law_845 ?_
  refine J_iload_3 Y qL_law_846 ?_
  refine J_iconst Y qL_law_847 ?_
  refine J_iadd Y qL_law_848 ?_
  refine J_sld (j := i + 1) Y hSc qL_law_849 (by omega) (by omega) (by omega) ?_
  refine J_aload_0 Y qL_law_850 ?_
  refine J_iload_3 Y qL_law_851 ?_
  refine J_iconst Y qL_law_852 ?_
  refine J_iadd Y qL_law_853 ?_
  refine J_sld (j := i + 2) Y hSc qL_law_854 (by omega) (by omega) (by omega) ?_
  refine J_aload_0 Y qL_law_855 ?_
  refine J_iload_3 Y qL_law_856 ?_
  refine J_iconst Y qL_law_857 ?_
  refine J_iadd Y qL_law_858 ?_
  refine J_sld (j := i + 3) Y hSc qL_law_859 (by omega) (by omega) (by omega) ?_
  refine J_cV3I Y qL_law_860 mL_94 iyX9_why (by decide) rfl (by decide) rfl (Nat.le_of_ble_eq_true rfl) (r_why (A := M) _ G _ (x1 _).1 (x1 _).2 (x1 _).1 (x1 _).2 (x1 _).1 (x1 _).2 hI hn (MR_md hM hmd)) (fun z N2 hc2 => ?_)
  obtain ⟨rfl, hmr, hsm⟩ := hc2
  obtain ⟨hi2, hm2⟩ := step_ok hce hiv hmr hsm
  refine J_icmp_same Y qL_law_863 ?_
  refine J_iinc_3 Y qL_law_1316 rfl ?_
  refine J_goto Y qL_law_1319 ?_
  exact hK N2 hi2 hm2
theorem s_run {G : Gx} {E : Fx} {b N : Nat} {xs : Nat → Int32} (hSc : Sc G E b N xs) (hN : N ≤ 2560) (Y : Ok G E cL_law RL 4 40)  {n i : Nat} {M : Mem} (hI : Inv n M) (hn : n < 512) (hM : MR M M) (hi : i + 5 ≤ N) (hK : ∀ M2 : Mem, Inv (n + 1) M2 → MR M2 M2 → J G E 18 [some (.ref b), some (rf G 8 0), some (rf G 9 0), some (vi ((i : Int) + 5))] [] M2) : J G E 868 [some (.ref b), some (rf G 8 0), some (rf G 9 0), some (vi (i : Int))] [] M := by
  have x1 : ∀ k, -2147483648 ≤ (xs k).toInt ∧ (xs k).toInt < 2147483648 := fun k => ⟨Int32.le_toInt _, Int32.toInt_lt _⟩
  have x2 := x1 (i + 2)
  refine J_aloadr_1 Y qL_law_868 ?_
  refine J_aload_0 Y qL_law_869 ?_
  refine J_iload_3 Y qL_law_870 ?_
  refine J_iconst Y qL_law_871 ?_
  refine J_iadd Y qL_law_872 ?_
  refine J_sld (j := i + 1) Y hSc qL_law_873 (by omega) (by omega) (by omega) ?_
  refine J_cV1I Y qL_law_874 mL_95 iyX8_run (by decide) rfl (by decide) rfl (Nat.le_of_ble_eq_true rfl) ((Ct.imp (k_run _ G M (x1 _).1 (x1 _).2 hI hn) (QC_f (i_run hI) md_run))) (fun z M2 hc => ?_)
  obtain ⟨rfl, hce, hiv, hmd⟩ := hc
  refine J_aloadr_2 Y qL_law_877 ?_
  refine J_aload_0 Y qL_law_878 ?_
  refine J_iload_3 Y qL_law_879 ?_
  refine J_iconst Y qL_law_880 ?_
  refine J_iadd Y qL_law_881 ?_
  refine J_sld (j := i + 1) Y hSc qL_law_882 (by omega) (by omega) (by omega) ?_
  refine J_cV1I Y qL_law_883 mL_98 iyX9_run (by decide) rfl (by decide) rfl (Nat.le_of_ble_eq_true rfl) (r_run (A := M) _ G _ (x1 _).1 (x1 _).2 hI hn (MR_md hM hmd)) (fun z N2 hc2 => ?_)
  obtain ⟨rfl, hmr, hsm⟩ := hc2
  obtain ⟨hi2, hm2⟩ := step_ok hce hiv hmr hsm
  refine J_icmp_same Y qL_law_886 ?_
  refine J_iinc_3 Y qL_law_1316 rfl ?_
  refine J_goto Y qL_law_1319 ?_
  exact hK N2 hi2 hm2
theorem s_repair {G : Gx} {E : Fx} {b N : Nat} {xs : Nat → Int32} (hSc : Sc G E b N xs) (hN : N ≤ 2560) (Y : Ok G E cL_law RL 4 40)  {n i : Nat} {M : Mem} (hI : Inv n M) (hn : n < 512) (hM : MR M M) (hi : i + 5 ≤ N) (hK : ∀ M2 : Mem, Inv (n + 1) M2 → MR M2 M2 → J G E 18 [some (.ref b), some (rf G 8 0), some (rf G 9 0), some (vi ((i : Int) + 5))] [] M2) : J G E 891 [some (.ref b), some (rf G 8 0), some (rf G 9 0), some (vi (i : Int))] [] M := by
  have x1 : ∀ k, -2147483648 ≤ (xs k).toInt ∧ (xs k).toInt < 2147483648 := fun k => ⟨Int32.le_toInt _, Int32.toInt_lt _⟩
  have x2 := x1 (i + 2)
  refine J_aloadr_1 Y qL_law_891 ?_
  refine J_aload_0 Y qL_law_892 ?_
  refine J_iload_3 Y qL_law_893 ?_
  refine J_iconst Y qL_law_894 ?_
  refine J_iadd Y qL_law_895 ?_
  refine J_sld (j := i + 1) Y hSc qL_law_896 (by omega) (by omega) (by omega) ?_
  refine J_aload_0 Y qL_law_897 ?_
  refine J_iload_3 Y qL_law_898 ?_
  refine J_iconst Y qL_law_899 ?_
  refine J_iadd Y qL_law_900 ?_
  refine J_sld (j := i + 2) Y hSc qL_law_901 (by omega) (by omega) (by omega) ?_
  refine J_cV2I Y qL_law_902 mL_99 iyX8_repair (by decide) rfl (by decide) rfl (Nat.le_of_ble_eq_true rfl) ((Ct.imp (k_repair _ G M (x1 _).1 (x1 _).2 (x1 _).1 (x1 _).2 hI hn) (QC_f (i_repair hI) md_repair))) (fun z M2 hc => ?_)
  obtain ⟨rfl, hce, hiv, hmd⟩ := hc
  refine J_aloadr_2 Y qL_law_905 ?_
  refine J_aload_0 Y qL_law_906 ?_
  refine J_iload_3 Y qL_law_907 ?_
  refine J_iconst Y qL_law_908 ?_
  refine J_iadd Y qL_law_909 ?_
  refine J_sld (j := i + 1) Y hSc qL_law_910 (by omega) (by omega) (by omega) ?_
  refine J_aload_0 Y qL_law_911 ?_
  refine J_iload_3 Y qL_law_912 ?_
  refine J_iconst Y qL_law_913 ?_
  refine J_iadd Y qL_law_914 ?_
  refine J_sld (j := i + 2) Y hSc qL_law_915 (by omega) (by omega) (by omega) ?_
  refine J_cV2I Y qL_law_916 mL_102 iyX9_repair (by decide) rfl (by decide) rfl (Nat.le_of_ble_eq_true rfl) (r_repair (A := M) _ G _ (x1 _).1 (x1 _).2 (x1 _).1 (x1 _).2 hI hn (MR_md hM hmd)) (fun z N2 hc2 => ?_)
  obtain ⟨rfl, hmr, hsm⟩ := hc2
  obtain ⟨hi2, hm2⟩ := step_ok hce hiv hmr hsm
  refine J_icmp_same Y qL_law_919 ?_
  refine J_iinc_3 Y qL_law_1316 rfl ?_
  refine J_goto Y qL_law_1319 ?_
  exact hK N2 hi2 hm2
theorem s_takes {G : Gx} {E : Fx} {b N : Nat} {xs : Nat → Int32} (hSc : Sc G E b N xs) (hN : N ≤ 2560) (Y : Ok G E cL_law RL 4 40)  {n i : Nat} {M : Mem} (hI : Inv n M) (hn : n < 512) (hM : MR M M) (hi : i + 5 ≤ N) (hK : ∀ M2 : Mem, Inv (n + 1) M2 → MR M2 M2 → J G E 18 [some (.ref b), some (rf G 8 0), some (rf G 9 0), some (vi ((i : Int) + 5))] [] M2) : J G E 924 [some (.ref b), some (rf G 8 0), some (rf G 9 0), some (vi (i : Int))] [] M := by
  have x1 : ∀ k, -2147483648 ≤ (xs k).toInt ∧ (xs k).toInt < 2147483648 := fun k => ⟨Int32.le_toInt _, Int32.toInt_lt _⟩
  have x2 := x1 (i + 2)
  refine J_aloadr_1 Y qL_law_924 ?_
  refine J_aload_0 Y qL_law_925 ?_
  refine J_iload_3 Y qL_law_926 ?_
  refine J_iconst Y qL_law_927 ?_
  refine J_iadd Y qL_law_928 ?_
  refine J_sld (j := i + 1) Y hSc qL_law_929 (by omega) (by omega) (by omega) ?_
  refine J_aload_0 Y qL_law_930 ?_
  refine J_iload_3 Y qL_law_931 ?_
  refine J_iconst Y qL_law_932 ?_
  refine J_iadd Y qL_law_933 ?_
  refine J_sld (j := i + 2) Y hSc qL_law_934 (by omega) (by omega) (by omega) ?_
  refine J_cV2I Y qL_law_935 mL_103 iyX8_takes (by decide) rfl (by decide) rfl (Nat.le_of_ble_eq_true rfl) ((Ct.imp (k_takes _ G M (x1 _).1 (x1 _).2 (x1 _).1 (x1 _).2 hI hn) (QC_f (i_takes hI) md_takes))) (fun z M2 hc => ?_)
  obtain ⟨rfl, hce, hiv, hmd⟩ := hc
  refine J_aloadr_2 Y qL_law_938 ?_
  refine J_aload_0 Y qL_law_939 ?_
  refine J_iload_3 Y qL_law_940 ?_
  refine J_iconst Y qL_law_941 ?_
  refine J_iadd Y qL_law_942 ?_
  refine J_sld (j := i + 1) Y hSc qL_law_943 (by omega) (by omega) (by omega) ?_
  refine J_aload_0 Y qL_law_944 ?_
  refine J_iload_3 Y qL_law_945 ?_
  refine J_iconst Y qL_law_946 ?_
  refine J_iadd Y qL_law_947 ?_
  refine J_sld (j := i + 2) Y hSc qL_law_948 (by omega) (by omega) (by omega) ?_
  refine J_cV2I Y qL_law_949 mL_106 iyX9_takes (by decide) rfl (by decide) rfl (Nat.le_of_ble_eq_true rfl) (r_takes (A := M) _ G _ (x1 _).1 (x1 _).2 (x1 _).1 (x1 _).2 hI hn (MR_md hM hmd)) (fun z N2 hc2 => ?_)
  obtain ⟨rfl, hmr, hsm⟩ := hc2
  obtain ⟨hi2, hm2⟩ := step_ok hce hiv hmr hsm
  refine J_icmp_same Y qL_law_952 ?_
  refine J_iinc_3 Y qL_law_1316 rfl ?_
  refine J_goto Y qL_law_1319 ?_
  exact hK N2 hi2 hm2
theorem s_plan {G : Gx} {E : Fx} {b N : Nat} {xs : Nat → Int32} (hSc : Sc G E b N xs) (hN : N ≤ 2560) (Y : Ok G E cL_law RL 4 40)  {n i : Nat} {M : Mem} (hI : Inv n M) (hn : n < 512) (hM : MR M M) (hi : i + 5 ≤ N) (hK : ∀ M2 : Mem, Inv (n + 1) M2 → MR M2 M2 → J G E 18 [some (.ref b), some (rf G 8 0), some (rf G 9 0), some (vi ((i : Int) + 5))] [] M2) : J G E 957 [some (.ref b), some (rf G 8 0), some (rf G 9 0), some (vi (i : Int))] [] M := by
  have x1 : ∀ k, -2147483648 ≤ (xs k).toInt ∧ (xs k).toInt < 2147483648 := fun k => ⟨Int32.le_toInt _, Int32.toInt_lt _⟩
  have x2 := x1 (i + 2)
  refine J_aloadr_1 Y qL_law_957 ?_
  refine J_aload_0 Y qL_law_958 ?_
  refine J_iload_3 Y qL_law_959 ?_
  refine J_iconst Y qL_law_960 ?_
  refine J_iadd Y qL_law_961 ?_
  refine J_sld (j := i + 1) Y hSc qL_law_962 (by omega) (by omega) (by omega) ?_
  refine J_cV1I Y qL_law_963 mL_107 iyX8_plan (by decide) rfl (by decide) rfl (Nat.le_of_ble_eq_true rfl) ((Ct.imp (k_plan _ G M (x1 _).1 (x1 _).2 hI hn) (fun r N2 h => by
    obtain ⟨z, h1, h2, h3⟩ := h
    exact ⟨z, h1, h2, CE_pl h3, Inv_CE2 (i_plan hI) (CE_pl h3) (fun y => h3 _ _ _ (by omega) (by decide) (by decide) (by omega)) (fun z => h3 _ _ _ (by omega) (by decide) (by decide) (by omega)), Md_tr (fun x y z hx => h3 x y z (by omega) (by omega) (by omega) (by omega)) md_plan⟩ : ∀ r N2, _ → RI (QC n (f_plan M ((xs (i + 1)).toInt)) M) r N2))) (fun z M2 hc => ?_)
  obtain ⟨rfl, hce, hiv, hmd⟩ := hc
  refine J_aloadr_2 Y qL_law_966 ?_
  refine J_aload_0 Y qL_law_967 ?_
  refine J_iload_3 Y qL_law_968 ?_
  refine J_iconst Y qL_law_969 ?_
  refine J_iadd Y qL_law_970 ?_
  refine J_sld (j := i + 1) Y hSc qL_law_971 (by omega) (by omega) (by omega) ?_
  refine J_cV1I Y qL_law_972 mL_110 iyX9_plan (by decide) rfl (by decide) rfl (Nat.le_of_ble_eq_true rfl) (r_plan (A := M) _ G _ (x1 _).1 (x1 _).2 hI hn (MR_md hM hmd)) (fun z N2 hc2 => ?_)
  obtain ⟨rfl, hmr, hsm⟩ := hc2
  obtain ⟨hi2, hm2⟩ := step_ok hce hiv hmr hsm
  refine J_icmp_same Y qL_law_975 ?_
  refine J_iinc_3 Y qL_law_1316 rfl ?_
  refine J_goto Y qL_law_1319 ?_
  exact hK N2 hi2 hm2
theorem s_planned {G : Gx} {E : Fx} {b N : Nat} {xs : Nat → Int32} (hSc : Sc G E b N xs) (hN : N ≤ 2560) (Y : Ok G E cL_law RL 4 40)  {n i : Nat} {M : Mem} (hI : Inv n M) (hn : n < 512) (hM : MR M M) (hi : i + 5 ≤ N) (hK : ∀ M2 : Mem, Inv (n + 1) M2 → MR M2 M2 → J G E 18 [some (.ref b), some (rf G 8 0), some (rf G 9 0), some (vi ((i : Int) + 5))] [] M2) : J G E 980 [some (.ref b), some (rf G 8 0), some (rf G 9 0), some (vi (i : Int))] [] M := by
  have x1 : ∀ k, -2147483648 ≤ (xs k).toInt ∧ (xs k).toInt < 2147483648 := fun k => ⟨Int32.le_toInt _, Int32.toInt_lt _⟩
  have x2 := x1 (i + 2)
  by_cases hz : (xs (i + 2)).toInt = 0
  · skip
    refine J_aloadr_1 Y qL_law_980 ?_
    refine J_aload_0 Y qL_law_981 ?_
    refine J_iload_3 Y qL_law_982 ?_
    refine J_iconst Y qL_law_983 ?_
    refine J_iadd Y qL_law_984 ?_
    refine J_sld (j := i + 1) Y hSc qL_law_985 (by omega) (by omega) (by omega) ?_
    refine J_aload_0 Y qL_law_986 ?_
    refine J_iload_3 Y qL_law_987 ?_
    refine J_iconst Y qL_law_988 ?_
    refine J_iadd Y qL_law_989 ?_
    refine J_sld (j := i + 2) Y hSc qL_law_990 (by omega) (by omega) (by omega) ?_
    refine J_if_eq Y qL_law_991 (by omega) (by omega) (fun hb => ?_) (fun hb => ?_)
    · refine J_iconst Y qL_law_998 ?_
      refine J_cV2I Y qL_law_999 mL_111 iyX8_planned (by decide) rfl (by decide) rfl (Nat.le_of_ble_eq_true rfl) ((Ct.imp (k_planned _ G M (x1 _).1 (x1 _).2 (by decide) (by decide) hI hn (Or.inl rfl)) (QC_f (i_planned hI) md_planned))) (fun z M2 hc => ?_)
      obtain ⟨rfl, hce, hiv, hmd⟩ := hc
      refine J_aloadr_2 Y qL_law_1002 ?_
      refine J_aload_0 Y qL_law_1003 ?_
      refine J_iload_3 Y qL_law_1004 ?_
      refine J_iconst Y qL_law_1005 ?_
      refine J_iadd Y qL_law_1006 ?_
      refine J_sld (j := i + 1) Y hSc qL_law_1007 (by omega) (by omega) (by omega) ?_
      refine J_aload_0 Y qL_law_1008 ?_
      refine J_iload_3 Y qL_law_1009 ?_
      refine J_iconst Y qL_law_1010 ?_
      refine J_iadd Y qL_law_1011 ?_
      refine J_sld (j := i + 2) Y hSc qL_law_1012 (by omega) (by omega) (by omega) ?_
      refine J_if_eq Y qL_law_1013 (by omega) (by omega) (fun hb2 => ?_) (fun hb2 => ?_)
      · refine J_iconst Y qL_law_1020 ?_
        refine J_cV2I Y qL_law_1021 mL_115 iyX9_planned (by decide) rfl (by decide) rfl (Nat.le_of_ble_eq_true rfl) (r_planned (A := M) _ G _ (x1 _).1 (x1 _).2 (by decide) (by decide) hI hn (MR_md hM hmd) (Or.inl rfl)) (fun z N2 hc2 => ?_)
        obtain ⟨rfl, hmr, hsm⟩ := hc2
        obtain ⟨hi2, hm2⟩ := step_ok hce hiv hmr hsm
        refine J_icmp_same Y qL_law_1024 ?_
        refine J_iinc_3 Y qL_law_1316 rfl ?_
        refine J_goto Y qL_law_1319 ?_
        exact hK N2 hi2 hm2
      · exfalso; omega
    · exfalso; omega
  · skip
    refine J_aloadr_1 Y qL_law_980 ?_
    refine J_aload_0 Y qL_law_981 ?_
    refine J_iload_3 Y qL_law_982 ?_
    refine J_iconst Y qL_law_983 ?_
    refine J_iadd Y qL_law_984 ?_
    refine J_sld (j := i + 1) Y hSc qL_law_985 (by omega) (by omega) (by omega) ?_
    refine J_aload_0 Y qL_law_986 ?_
    refine J_iload_3 Y qL_law_987 ?_
    refine J_iconst Y qL_law_988 ?_
    refine J_iadd Y qL_law_989 ?_
    refine J_sld (j := i + 2) Y hSc qL_law_990 (by omega) (by omega) (by omega) ?_
    refine J_if_eq Y qL_law_991 (by omega) (by omega) (fun hb => ?_) (fun hb => ?_)
    · exfalso; omega
    · refine J_iconst Y qL_law_994 ?_
      refine J_goto Y qL_law_995 ?_
      refine J_cV2I Y qL_law_999 mL_111 iyX8_planned (by decide) rfl (by decide) rfl (Nat.le_of_ble_eq_true rfl) ((Ct.imp (k_planned _ G M (x1 _).1 (x1 _).2 (by decide) (by decide) hI hn (Or.inr rfl)) (QC_f (i_planned hI) md_planned))) (fun z M2 hc => ?_)
      obtain ⟨rfl, hce, hiv, hmd⟩ := hc
      refine J_aloadr_2 Y qL_law_1002 ?_
      refine J_aload_0 Y qL_law_1003 ?_
      refine J_iload_3 Y qL_law_1004 ?_
      refine J_iconst Y qL_law_1005 ?_
      refine J_iadd Y qL_law_1006 ?_
      refine J_sld (j := i + 1) Y hSc qL_law_1007 (by omega) (by omega) (by omega) ?_
      refine J_aload_0 Y qL_law_1008 ?_
      refine J_iload_3 Y qL_law_1009 ?_
      refine J_iconst Y qL_law_1010 ?_
      refine J_iadd Y qL_law_1011 ?_
      refine J_sld (j := i + 2) Y hSc qL_law_1012 (by omega) (by omega) (by omega) ?_
      refine J_if_eq Y qL_law_1013 (by omega) (by omega) (fun hb2 => ?_) (fun hb2 => ?_)
      · exfalso; omega
      · refine J_iconst Y qL_law_1016 ?_
        refine J_goto Y qL_law_1017 ?_
        refine J_cV2I Y qL_law_1021 mL_115 iyX9_planned (by decide) rfl (by decide) rfl (Nat.le_of_ble_eq_true rfl) (r_planned (A := M) _ G _ (x1 _).1 (x1 _).2 (by decide) (by decide) hI hn (MR_md hM hmd) (Or.inr rfl)) (fun z N2 hc2 => ?_)
        obtain ⟨rfl, hmr, hsm⟩ := hc2
        obtain ⟨hi2, hm2⟩ := step_ok hce hiv hmr hsm
        refine J_icmp_same Y qL_law_1024 ?_
        refine J_iinc_3 Y qL_law_1316 rfl ?_
        refine J_goto Y qL_law_1319 ?_
        exact hK N2 hi2 hm2
theorem s_burns {G : Gx} {E : Fx} {b N : Nat} {xs : Nat → Int32} (hSc : Sc G E b N xs) (hN : N ≤ 2560) (Y : Ok G E cL_law RL 4 40)  {n i : Nat} {M : Mem} (hI : Inv n M) (hn : n < 512) (hM : MR M M) (hi : i + 5 ≤ N) (hK : ∀ M2 : Mem, Inv (n + 1) M2 → MR M2 M2 → J G E 18 [some (.ref b), some (rf G 8 0), some (rf G 9 0), some (vi ((i : Int) + 5))] [] M2) : J G E 1029 [some (.ref b), some (rf G 8 0), some (rf G 9 0), some (vi (i : Int))] [] M := by
  have x1 : ∀ k, -2147483648 ≤ (xs k).toInt ∧ (xs k).toInt < 2147483648 := fun k => ⟨Int32.le_toInt _, Int32.toInt_lt _⟩
  have x2 := x1 (i + 2)
  refine J_aloadr_1 Y qL_law_1029 ?_
  refine J_aload_0 Y qL_law_1030 ?_
  refine J_iload_3 Y qL_law_1031 ?_
  refine J_iconst Y qL_law_1032 ?_
  refine J_iadd Y qL_law_1033 ?_
  refine J_sld (j := i + 1) Y hSc qL_law_1034 (by omega) (by omega) (by omega) ?_
  refine J_aload_0 Y qL_law_1035 ?_
  refine J_iload_3 Y qL_law_1036 ?_
  refine J_iconst Y qL_law_1037 ?_
  refine J_iadd Y qL_law_1038 ?_
  refine J_sld (j := i + 2) Y hSc qL_law_1039 (by omega) (by omega) (by omega) ?_
  refine J_aload_0 Y qL_law_1040 ?_
  refine J_iload_3 Y qL_law_1041 ?_
  refine J_iconst Y qL_law_1042 ?_
  refine J_iadd Y qL_law_1043 ?_
  refine J_sld (j := i + 3) Y hSc qL_law_1044 (by omega) (by omega) (by omega) ?_
  refine J_cV3I Y qL_law_1045 mL_116 iyX8_burns (by decide) rfl (by decide) rfl (Nat.le_of_ble_eq_true rfl) ((Ct.imp (k_burns _ G M (x1 _).1 (x1 _).2 (x1 _).1 (x1 _).2 (x1 _).1 (x1 _).2 hI hn) (QC_s (i_burns hI) md_burns))) (fun z M2 hc => ?_)
  obtain ⟨rfl, hce, hiv, hmd⟩ := hc
  refine J_aloadr_2 Y qL_law_1048 ?_
  refine J_aload_0 Y qL_law_1049 ?_
  refine J_iload_3 Y qL_law_1050 ?_
  refine J_iconst Y qL_law_1051 ?_
  refine J_iadd Y qL_law_1052 ?_
  refine J_sld (j := i + 1) Y hSc qL_law_1053 (by omega) (by omega) (by omega) ?_
  refine J_aload_0 Y qL_law_1054 ?_
  refine J_iload_3 Y qL_law_1055 ?_
  refine J_iconst Y qL_law_1056 ?_
  refine J_iadd Y qL_law_1057 ?_
  refine J_sld (j := i + 2) Y hSc qL_law_1058 (by omega) (by omega) (by omega) ?_
  refine J_aload_0 Y qL_law_1059 ?_
  refine J_iload_3 Y qL_law_1060 ?_
  refine J_iconst Y qL_law_1061 ?_
  refine J_iadd Y qL_law_1062 ?_
  refine J_sld (j := i + 3) Y hSc qL_law_1063 (by omega) (by omega) (by omega) ?_
  refine J_cV3I Y qL_law_1064 mL_119 iyX9_burns (by decide) rfl (by decide) rfl (Nat.le_of_ble_eq_true rfl) (r_burns (A := M) _ G _ (x1 _).1 (x1 _).2 (x1 _).1 (x1 _).2 (x1 _).1 (x1 _).2 hI hn (MR_md hM hmd)) (fun z N2 hc2 => ?_)
  obtain ⟨rfl, hmr, hsm⟩ := hc2
  obtain ⟨hi2, hm2⟩ := step_ok hce hiv hmr hsm
  refine J_icmp_same Y qL_law_1067 ?_
  refine J_iinc_3 Y qL_law_1316 rfl ?_
  refine J_goto Y qL_law_1319 ?_
  exact hK N2 hi2 hm2
theorem s_lost {G : Gx} {E : Fx} {b N : Nat} {xs : Nat → Int32} (hSc : Sc G E b N xs) (hN : N ≤ 2560) (Y : Ok G E cL_law RL 4 40)  {n i : Nat} {M : Mem} (hI : Inv n M) (hn : n < 512) (hM : MR M M) (hi : i + 5 ≤ N) (hK : ∀ M2 : Mem, Inv (n + 1) M2 → MR M2 M2 → J G E 18 [some (.ref b), some (rf G 8 0), some (rf G 9 0), some (vi ((i : Int) + 5))] [] M2) : J G E 1072 [some (.ref b), some (rf G 8 0), some (rf G 9 0), some (vi (i : Int))] [] M := by
  have x1 : ∀ k, -2147483648 ≤ (xs k).toInt ∧ (xs k).toInt < 2147483648 := fun k => ⟨Int32.le_toInt _, Int32.toInt_lt _⟩
  have x2 := x1 (i + 2)
  refine J_aloadr_1 Y qL_law_1072 ?_
  refine J_aload_0 Y qL_law_1073 ?_
  refine J_iload_3 Y qL_law_1074 ?_
  refine J_iconst Y qL_law_1075 ?_
  refine J_iadd Y qL_law_1076 ?_
  refine J_sld (j := i + 1) Y hSc qL_law_1077 (by omega) (by omega) (by omega) ?_
  refine J_aload_0 Y qL_law_1078 ?_
  refine J_iload_3 Y qL_law_1079 ?_
  refine J_iconst Y qL_law_1080 ?_
  refine J_iadd Y qL_law_1081 ?_
  refine J_sld (j := i + 2) Y hSc qL_law_1082 (by omega) (by omega) (by omega) ?_
  refine J_aload_0 Y qL_law_1083 ?_
  refine J_iload_3 Y qL_law_1084 ?_
  refine J_iconst Y qL_law_1085 ?_
  refine J_iadd Y qL_law_1086 ?_
  refine J_sld (j := i + 3) Y hSc qL_law_1087 (by omega) (by omega) (by omega) ?_
  refine J_cV3I Y qL_law_1088 mL_120 iyX8_lost (by decide) rfl (by decide) rfl (Nat.le_of_ble_eq_true rfl) ((Ct.imp (k_lost _ G M (x1 _).1 (x1 _).2 (x1 _).1 (x1 _).2 (x1 _).1 (x1 _).2 hI hn) (QC_s (i_lost hI) md_lost))) (fun z M2 hc => ?_)
  obtain ⟨rfl, hce, hiv, hmd⟩ := hc
  refine J_aloadr_2 Y qL_law_1091 ?_
  refine J_aload_0 Y qL_law_1092 ?_
  refine J_iload_3 Y qL_law_1093 ?_
  refine J_iconst Y qL_law_1094 ?_
  refine J_iadd Y qL_law_1095 ?_
  refine J_sld (j := i + 1) Y hSc qL_law_1096 (by omega) (by omega) (by omega) ?_
  refine J_aload_0 Y qL_law_1097 ?_
  refine J_iload_3 Y qL_law_1098 ?_
  refine J_iconst Y qL_law_1099 ?_
  refine J_iadd Y qL_law_1100 ?_
  refine J_sld (j := i + 2) Y hSc qL_law_1101 (by omega) (by omega) (by omega) ?_
  refine J_aload_0 Y qL_law_1102 ?_
  refine J_iload_3 Y qL_law_1103 ?_
  refine J_iconst Y qL_law_1104 ?_
  refine J_iadd Y qL_law_1105 ?_
  refine J_sld (j := i + 3) Y hSc qL_law_1106 (by omega) (by omega) (by omega) ?_
  refine J_cV3I Y qL_law_1107 mL_123 iyX9_lost (by decide) rfl (by decide) rfl (Nat.le_of_ble_eq_true rfl) (r_lost (A := M) _ G _ (x1 _).1 (x1 _).2 (x1 _).1 (x1 _).2 (x1 _).1 (x1 _).2 hI hn (MR_md hM hmd)) (fun z N2 hc2 => ?_)
  obtain ⟨rfl, hmr, hsm⟩ := hc2
  obtain ⟨hi2, hm2⟩ := step_ok hce hiv hmr hsm
  refine J_icmp_same Y qL_law_1110 ?_
  refine J_iinc_3 Y qL_law_1316 rfl ?_
  refine J_goto Y qL_law_1319 ?_
  exact hK N2 hi2 hm2
theorem s_stop {G : Gx} {E : Fx} {b N : Nat} {xs : Nat → Int32} (hSc : Sc G E b N xs) (hN : N ≤ 2560) (Y : Ok G E cL_law RL 4 40)  {n i : Nat} {M : Mem} (hI : Inv n M) (hn : n < 512) (hM : MR M M) (hi : i + 5 ≤ N) (hK : ∀ M2 : Mem, Inv (n + 1) M2 → MR M2 M2 → J G E 18 [some (.ref b), some (rf G 8 0), some (rf G 9 0), some (vi ((i : Int) + 5))] [] M2) : J G E 1115 [some (.ref b), some (rf G 8 0), some (rf G 9 0), some (vi (i : Int))] [] M := by
  have x1 : ∀ k, -2147483648 ≤ (xs k).toInt ∧ (xs k).toInt < 2147483648 := fun k => ⟨Int32.le_toInt _, Int32.toInt_lt _⟩
  have x2 := x1 (i + 2)
  refine J_aloadr_1 Y qL_law_1115 ?_
  refine J_aload_0 Y qL_law_1116 ?_
  refine J_iload_3 Y qL_law_1117 ?_
  refine J_iconst Y qL_law_1118 ?_
  refine J_iadd Y qL_law_1119 ?_
  refine J_sld (j := i + 1) Y hSc qL_law_1120 (by omega) (by omega) (by omega) ?_
  refine J_aload_0 Y qL_law_1121 ?_
  refine J_iload_3 Y qL_law_1122 ?_
  refine J_iconst Y qL_law_1123 ?_
  refine J_iadd Y qL_law_1124 ?_
  refine J_sld (j := i + 2) Y hSc qL_law_1125 (by omega) (by omega) (by omega) ?_
  refine J_aload_0 Y qL_law_1126 ?_
  refine J_iload_3 Y qL_law_1127 ?_
  refine J_iconst Y qL_law_1128 ?_
  refine J_iadd Y qL_law_1129 ?_
  refine J_sld (j := i + 3) Y hSc qL_law_1130 (by omega) (by omega) (by omega) ?_
  refine J_cV3I Y qL_law_1131 mL_124 iyX8_stop (by decide) rfl (by decide) rfl (Nat.le_of_ble_eq_true rfl) ((Ct.imp (k_stop _ G M (x1 _).1 (x1 _).2 (x1 _).1 (x1 _).2 (x1 _).1 (x1 _).2 hI hn) (QC_s (i_stop hI) md_stop))) (fun z M2 hc => ?_)
  obtain ⟨rfl, hce, hiv, hmd⟩ := hc
  refine J_aloadr_2 Y qL_law_1134 ?_
  refine J_aload_0 Y qL_law_1135 ?_
  refine J_iload_3 Y qL_law_1136 ?_
  refine J_iconst Y qL_law_1137 ?_
  refine J_iadd Y qL_law_1138 ?_
  refine J_sld (j := i + 1) Y hSc qL_law_1139 (by omega) (by omega) (by omega) ?_
  refine J_aload_0 Y qL_law_1140 ?_
  refine J_iload_3 Y qL_law_1141 ?_
  refine J_iconst Y qL_law_1142 ?_
  refine J_iadd Y qL_law_1143 ?_
  refine J_sld (j := i + 2) Y hSc qL_law_1144 (by omega) (by omega) (by omega) ?_
  refine J_aload_0 Y qL_law_1145 ?_
  refine J_iload_3 Y qL_law_1146 ?_
  refine J_iconst Y qL_law_1147 ?_
  refine J_iadd Y qL_law_1148 ?_
  refine J_sld (j := i + 3) Y hSc qL_law_1149 (by omega) (by omega) (by omega) ?_
  refine J_cV3I Y qL_law_1150 mL_127 iyX9_stop (by decide) rfl (by decide) rfl (Nat.le_of_ble_eq_true rfl) (r_stop (A := M) _ G _ (x1 _).1 (x1 _).2 (x1 _).1 (x1 _).2 (x1 _).1 (x1 _).2 hI hn (MR_md hM hmd)) (fun z N2 hc2 => ?_)
  obtain ⟨rfl, hmr, hsm⟩ := hc2
  obtain ⟨hi2, hm2⟩ := step_ok hce hiv hmr hsm
  refine J_icmp_same Y qL_law_1153 ?_
  refine J_iinc_3 Y qL_law_1316 rfl ?_
  refine J_goto Y qL_law_1319 ?_
  exact hK N2 hi2 hm2
theorem s_count {G : Gx} {E : Fx} {b N : Nat} {xs : Nat → Int32} (hSc : Sc G E b N xs) (hN : N ≤ 2560) (Y : Ok G E cL_law RL 4 40)  {n i : Nat} {M : Mem} (hI : Inv n M) (hn : n < 512) (hM : MR M M) (hi : i + 5 ≤ N) (hK : ∀ M2 : Mem, Inv (n + 1) M2 → MR M2 M2 → J G E 18 [some (.ref b), some (rf G 8 0), some (rf G 9 0), some (vi ((i : Int) + 5))] [] M2) : J G E 1158 [some (.ref b), some (rf G 8 0), some (rf G 9 0), some (vi (i : Int))] [] M := by
  have x1 : ∀ k, -2147483648 ≤ (xs k).toInt ∧ (xs k).toInt < 2147483648 := fun k => ⟨Int32.le_toInt _, Int32.toInt_lt _⟩
  have x2 := x1 (i + 2)
  refine J_aloadr_1 Y qL_law_1158 ?_
  refine J_aload_0 Y qL_law_1159 ?_
  refine J_iload_3 Y qL_law_1160 ?_
  refine J_iconst Y qL_law_1161 ?_
  refine J_iadd Y qL_law_1162 ?_
  refine J_sld (j := i + 1) Y hSc qL_law_1163 (by omega) (by omega) (by omega) ?_
  refine J_cV1I Y qL_law_1164 mL_128 iyX8_count (by decide) rfl (by decide) rfl (Nat.le_of_ble_eq_true rfl) ((Ct.imp (k_count _ G M (x1 _).1 (x1 _).2 hI hn) (QC_f (i_count hI) md_count))) (fun z M2 hc => ?_)
  obtain ⟨rfl, hce, hiv, hmd⟩ := hc
  refine J_aloadr_2 Y qL_law_1167 ?_
  refine J_aload_0 Y qL_law_1168 ?_
  refine J_iload_3 Y qL_law_1169 ?_
  refine J_iconst Y qL_law_1170 ?_
  refine J_iadd Y qL_law_1171 ?_
  refine J_sld (j := i + 1) Y hSc qL_law_1172 (by omega) (by omega) (by omega) ?_
  refine J_cV1I Y qL_law_1173 mL_131 iyX9_count (by decide) rfl (by decide) rfl (Nat.le_of_ble_eq_true rfl) (r_count (A := M) _ G _ (x1 _).1 (x1 _).2 hI hn (MR_md hM hmd)) (fun z N2 hc2 => ?_)
  obtain ⟨rfl, hmr, hsm⟩ := hc2
  obtain ⟨hi2, hm2⟩ := step_ok hce hiv hmr hsm
  refine J_icmp_same Y qL_law_1176 ?_
  refine J_iinc_3 Y qL_law_1316 rfl ?_
  refine J_goto Y qL_law_1319 ?_
  exact hK N2 hi2 hm2
theorem s_lay {G : Gx} {E : Fx} {b N : Nat} {xs : Nat → Int32} (hSc : Sc G E b N xs) (hN : N ≤ 2560) (Y : Ok G E cL_law RL 4 40)  {n i : Nat} {M : Mem} (hI : Inv n M) (hn : n < 512) (hM : MR M M) (hi : i + 5 ≤ N) (hK : ∀ M2 : Mem, Inv (n + 1) M2 → MR M2 M2 → J G E 18 [some (.ref b), some (rf G 8 0), some (rf G 9 0), some (vi ((i : Int) + 5))] [] M2) : J G E 1181 [some (.ref b), some (rf G 8 0), some (rf G 9 0), some (vi (i : Int))] [] M := by
  have x1 : ∀ k, -2147483648 ≤ (xs k).toInt ∧ (xs k).toInt < 2147483648 := fun k => ⟨Int32.le_toInt _, Int32.toInt_lt _⟩
  have x2 := x1 (i + 2)
  refine J_aloadr_1 Y qL_law_1181 ?_
  refine J_aload_0 Y qL_law_1182 ?_
  refine J_iload_3 Y qL_law_1183 ?_
  refine J_iconst Y qL_law_1184 ?_
  refine J_iadd Y qL_law_1185 ?_
  refine J_sld (j := i + 1) Y hSc qL_law_1186 (by omega) (by omega) (by omega) ?_
  refine J_aload_0 Y qL_law_1187 ?_
  refine J_iload_3 Y qL_law_1188 ?_
  refine J_iconst Y qL_law_1189 ?_
  refine J_iadd Y qL_law_1190 ?_
  refine J_sld (j := i + 2) Y hSc qL_law_1191 (by omega) (by omega) (by omega) ?_
  refine J_cV2I Y qL_law_1192 mL_132 iyX8_lay (by decide) rfl (by decide) rfl (Nat.le_of_ble_eq_true rfl) ((Ct.imp (k_lay _ G M (x1 _).1 (x1 _).2 (x1 _).1 (x1 _).2 hI hn) (QC_f (i_lay hI) md_lay))) (fun z M2 hc => ?_)
  obtain ⟨rfl, hce, hiv, hmd⟩ := hc
  refine J_aloadr_2 Y qL_law_1195 ?_
  refine J_aload_0 Y qL_law_1196 ?_
  refine J_iload_3 Y qL_law_1197 ?_
  refine J_iconst Y qL_law_1198 ?_
  refine J_iadd Y qL_law_1199 ?_
  refine J_sld (j := i + 1) Y hSc qL_law_1200 (by omega) (by omega) (by omega) ?_
  refine J_aload_0 Y qL_law_1201 ?_
  refine J_iload_3 Y qL_law_1202 ?_
  refine J_iconst Y qL_law_1203 ?_
  refine J_iadd Y qL_law_1204 ?_
  refine J_sld (j := i + 2) Y hSc qL_law_1205 (by omega) (by omega) (by omega) ?_
  refine J_cV2I Y qL_law_1206 mL_135 iyX9_lay (by decide) rfl (by decide) rfl (Nat.le_of_ble_eq_true rfl) (r_lay (A := M) _ G _ (x1 _).1 (x1 _).2 (x1 _).1 (x1 _).2 hI hn (MR_md hM hmd)) (fun z N2 hc2 => ?_)
  obtain ⟨rfl, hmr, hsm⟩ := hc2
  obtain ⟨hi2, hm2⟩ := step_ok hce hiv hmr hsm
  refine J_icmp_same Y qL_law_1209 ?_
  refine J_iinc_3 Y qL_law_1316 rfl ?_
  refine J_goto Y qL_law_1319 ?_
  exact hK N2 hi2 hm2
theorem s_tear {G : Gx} {E : Fx} {b N : Nat} {xs : Nat → Int32} (hSc : Sc G E b N xs) (hN : N ≤ 2560) (Y : Ok G E cL_law RL 4 40)  {n i : Nat} {M : Mem} (hI : Inv n M) (hn : n < 512) (hM : MR M M) (hi : i + 5 ≤ N) (hK : ∀ M2 : Mem, Inv (n + 1) M2 → MR M2 M2 → J G E 18 [some (.ref b), some (rf G 8 0), some (rf G 9 0), some (vi ((i : Int) + 5))] [] M2) : J G E 1214 [some (.ref b), some (rf G 8 0), some (rf G 9 0), some (vi (i : Int))] [] M := by
  have x1 : ∀ k, -2147483648 ≤ (xs k).toInt ∧ (xs k).toInt < 2147483648 := fun k => ⟨Int32.le_toInt _, Int32.toInt_lt _⟩
  have x2 := x1 (i + 2)
  refine J_aloadr_1 Y qL_law_1214 ?_
  refine J_cV0I Y qL_law_1215 mL_136 iyX8_tear (by decide) rfl (by decide) rfl (Nat.le_of_ble_eq_true rfl) ((Ct.imp (k_tear _ G M  hI hn) (QC_f (i_tear hI) md_tear))) (fun z M2 hc => ?_)
  obtain ⟨rfl, hce, hiv, hmd⟩ := hc
  refine J_aloadr_2 Y qL_law_1218 ?_
  refine J_cV0I Y qL_law_1219 mL_139 iyX9_tear (by decide) rfl (by decide) rfl (Nat.le_of_ble_eq_true rfl) (r_tear (A := M) _ G _  hI hn (MR_md hM hmd)) (fun z N2 hc2 => ?_)
  obtain ⟨rfl, hmr, hsm⟩ := hc2
  obtain ⟨hi2, hm2⟩ := step_ok hce hiv hmr hsm
  refine J_icmp_same Y qL_law_1222 ?_
  refine J_iinc_3 Y qL_law_1316 rfl ?_
  refine J_goto Y qL_law_1319 ?_
  exact hK N2 hi2 hm2
theorem s_row {G : Gx} {E : Fx} {b N : Nat} {xs : Nat → Int32} (hSc : Sc G E b N xs) (hN : N ≤ 2560) (Y : Ok G E cL_law RL 4 40)  {n i : Nat} {M : Mem} (hI : Inv n M) (hn : n < 512) (hM : MR M M) (hi : i + 5 ≤ N) (hK : ∀ M2 : Mem, Inv (n + 1) M2 → MR M2 M2 → J G E 18 [some (.ref b), some (rf G 8 0), some (rf G 9 0), some (vi ((i : Int) + 5))] [] M2) : J G E 1227 [some (.ref b), some (rf G 8 0), some (rf G 9 0), some (vi (i : Int))] [] M := by
  have x1 : ∀ k, -2147483648 ≤ (xs k).toInt ∧ (xs k).toInt < 2147483648 := fun k => ⟨Int32.le_toInt _, Int32.toInt_lt _⟩
  have x2 := x1 (i + 2)
  refine J_aloadr_1 Y qL_law_1227 ?_
  refine J_aload_0 Y qL_law_1228 ?_
  refine J_iload_3 Y qL_law_1229 ?_
  refine J_iconst Y qL_law_1230 ?_
  refine J_iadd Y qL_law_1231 ?_
  refine J_sld (j := i + 1) Y hSc qL_law_1232 (by omega) (by omega) (by omega) ?_
  refine J_cV1I Y qL_law_1233 mL_140 iyX8_row (by decide) rfl (by decide) rfl (Nat.le_of_ble_eq_true rfl) ((Ct.imp (k_row _ G M (x1 _).1 (x1 _).2 hI hn) (QC_f (i_row hI) md_row))) (fun z M2 hc => ?_)
  obtain ⟨rfl, hce, hiv, hmd⟩ := hc
  refine J_aloadr_2 Y qL_law_1236 ?_
  refine J_aload_0 Y qL_law_1237 ?_
  refine J_iload_3 Y qL_law_1238 ?_
  refine J_iconst Y qL_law_1239 ?_
  refine J_iadd Y qL_law_1240 ?_
  refine J_sld (j := i + 1) Y hSc qL_law_1241 (by omega) (by omega) (by omega) ?_
  refine J_cV1I Y qL_law_1242 mL_143 iyX9_row (by decide) rfl (by decide) rfl (Nat.le_of_ble_eq_true rfl) (r_row (A := M) _ G _ (x1 _).1 (x1 _).2 hI hn (MR_md hM hmd)) (fun z N2 hc2 => ?_)
  obtain ⟨rfl, hmr, hsm⟩ := hc2
  obtain ⟨hi2, hm2⟩ := step_ok hce hiv hmr hsm
  refine J_icmp_same Y qL_law_1245 ?_
  refine J_iinc_3 Y qL_law_1316 rfl ?_
  refine J_goto Y qL_law_1319 ?_
  exact hK N2 hi2 hm2
theorem s_copy {G : Gx} {E : Fx} {b N : Nat} {xs : Nat → Int32} (hSc : Sc G E b N xs) (hN : N ≤ 2560) (Y : Ok G E cL_law RL 4 40)  {n i : Nat} {M : Mem} (hI : Inv n M) (hn : n < 512) (hM : MR M M) (hi : i + 5 ≤ N) (hK : ∀ M2 : Mem, Inv (n + 1) M2 → MR M2 M2 → J G E 18 [some (.ref b), some (rf G 8 0), some (rf G 9 0), some (vi ((i : Int) + 5))] [] M2) : J G E 1250 [some (.ref b), some (rf G 8 0), some (rf G 9 0), some (vi (i : Int))] [] M := by
  have x1 : ∀ k, -2147483648 ≤ (xs k).toInt ∧ (xs k).toInt < 2147483648 := fun k => ⟨Int32.le_toInt _, Int32.toInt_lt _⟩
  have x2 := x1 (i + 2)
  refine J_aloadr_1 Y qL_law_1250 ?_
  refine J_aload_0 Y qL_law_1251 ?_
  refine J_iload_3 Y qL_law_1252 ?_
  refine J_iconst Y qL_law_1253 ?_
  refine J_iadd Y qL_law_1254 ?_
  refine J_sld (j := i + 1) Y hSc qL_law_1255 (by omega) (by omega) (by omega) ?_
  refine J_aload_0 Y qL_law_1256 ?_
  refine J_iload_3 Y qL_law_1257 ?_
  refine J_iconst Y qL_law_1258 ?_
  refine J_iadd Y qL_law_1259 ?_
  refine J_sld (j := i + 2) Y hSc qL_law_1260 (by omega) (by omega) (by omega) ?_
  refine J_aload_0 Y qL_law_1261 ?_
  refine J_iload_3 Y qL_law_1262 ?_
  refine J_iconst Y qL_law_1263 ?_
  refine J_iadd Y qL_law_1264 ?_
  refine J_sld (j := i + 3) Y hSc qL_law_1265 (by omega) (by omega) (by omega) ?_
  refine J_cV3I Y qL_law_1266 mL_144 iyX8_copy (by decide) rfl (by decide) rfl (Nat.le_of_ble_eq_true rfl) ((Ct.imp (k_copy _ G M (x1 _).1 (x1 _).2 (x1 _).1 (x1 _).2 (x1 _).1 (x1 _).2 hI hn) (QC_f (i_copy hI) md_copy))) (fun z M2 hc => ?_)
  obtain ⟨rfl, hce, hiv, hmd⟩ := hc
  refine J_aloadr_2 Y qL_law_1269 ?_
  refine J_aload_0 Y qL_law_1270 ?_
  refine J_iload_3 Y qL_law_1271 ?_
  refine J_iconst Y qL_law_1272 ?_
  refine J_iadd Y qL_law_1273 ?_
  refine J_sld (j := i + 1) Y hSc qL_law_1274 (by omega) (by omega) (by omega) ?_
  refine J_aload_0 Y qL_law_1275 ?_
  refine J_iload_3 Y qL_law_1276 ?_
  refine J_iconst Y qL_law_1277 ?_
  refine J_iadd Y qL_law_1278 ?_
  refine J_sld (j := i + 2) Y hSc qL_law_1279 (by omega) (by omega) (by omega) ?_
  refine J_aload_0 Y qL_law_1280 ?_
  refine J_iload_3 Y qL_law_1281 ?_
  refine J_iconst Y qL_law_1282 ?_
  refine J_iadd Y qL_law_1283 ?_
  refine J_sld (j := i + 3) Y hSc qL_law_1284 (by omega) (by omega) (by omega) ?_
  refine J_cV3I Y qL_law_1285 mL_147 iyX9_copy (by decide) rfl (by decide) rfl (Nat.le_of_ble_eq_true rfl) (r_copy (A := M) _ G _ (x1 _).1 (x1 _).2 (x1 _).1 (x1 _).2 (x1 _).1 (x1 _).2 hI hn (MR_md hM hmd)) (fun z N2 hc2 => ?_)
  obtain ⟨rfl, hmr, hsm⟩ := hc2
  obtain ⟨hi2, hm2⟩ := step_ok hce hiv hmr hsm
  refine J_icmp_same Y qL_law_1288 ?_
  refine J_iinc_3 Y qL_law_1316 rfl ?_
  refine J_goto Y qL_law_1319 ?_
  exact hK N2 hi2 hm2
theorem s_status {G : Gx} {E : Fx} {b N : Nat} {xs : Nat → Int32} (hSc : Sc G E b N xs) (hN : N ≤ 2560) (Y : Ok G E cL_law RL 4 40)  {n i : Nat} {M : Mem} (hI : Inv n M) (hn : n < 512) (hM : MR M M) (hi : i + 5 ≤ N) (hK : ∀ M2 : Mem, Inv (n + 1) M2 → MR M2 M2 → J G E 18 [some (.ref b), some (rf G 8 0), some (rf G 9 0), some (vi ((i : Int) + 5))] [] M2) : J G E 1293 [some (.ref b), some (rf G 8 0), some (rf G 9 0), some (vi (i : Int))] [] M := by
  have x1 : ∀ k, -2147483648 ≤ (xs k).toInt ∧ (xs k).toInt < 2147483648 := fun k => ⟨Int32.le_toInt _, Int32.toInt_lt _⟩
  have x2 := x1 (i + 2)
  refine J_aloadr_1 Y qL_law_1293 ?_
  refine J_aload_0 Y qL_law_1294 ?_
  refine J_iload_3 Y qL_law_1295 ?_
  refine J_iconst Y qL_law_1296 ?_
  refine J_iadd Y qL_law_1297 ?_
  refine J_sld (j := i + 1) Y hSc qL_law_1298 (by omega) (by omega) (by omega) ?_
  refine J_cV1I Y qL_law_1299 mL_148 iyX8_status (by decide) rfl (by decide) rfl (Nat.le_of_ble_eq_true rfl) ((Ct.imp (k_status _ G M (x1 _).1 (x1 _).2 hI hn) (QC_f (i_status hI) md_status))) (fun z M2 hc => ?_)
  obtain ⟨rfl, hce, hiv, hmd⟩ := hc
  refine J_aloadr_2 Y qL_law_1302 ?_
  refine J_aload_0 Y qL_law_1303 ?_
  refine J_iload_3 Y qL_law_1304 ?_
  refine J_iconst Y qL_law_1305 ?_
  refine J_iadd Y qL_law_1306 ?_
  refine J_sld (j := i + 1) Y hSc qL_law_1307 (by omega) (by omega) (by omega) ?_
  refine J_cV1I Y qL_law_1308 mL_151 iyX9_status (by decide) rfl (by decide) rfl (Nat.le_of_ble_eq_true rfl) (r_status (A := M) _ G _ (x1 _).1 (x1 _).2 hI hn (MR_md hM hmd)) (fun z N2 hc2 => ?_)
  obtain ⟨rfl, hmr, hsm⟩ := hc2
  obtain ⟨hi2, hm2⟩ := step_ok hce hiv hmr hsm
  refine J_icmp_same Y qL_law_1311 ?_
  refine J_iinc_3 Y qL_law_1316 rfl ?_
  refine J_goto Y qL_law_1319 ?_
  exact hK N2 hi2 hm2

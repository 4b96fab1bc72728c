/-! the law: its turns -/
theorem ct_L_cell {G : GX} {sh : List SH} (E : EW G sh) (hL : (gE G 2).2.1 ≤ 260) {m : Mem} {k : Int} (hk : 0 ≤ k ∧ k < 100) : CT G sh iL_cell 0 0 [.inr (.retAddr 2), .inl k] m (some (.inl (cE G k))) m := by
  refine j_met (L0 := [some (.inr (.retAddr 2)), some (.inl k)]) (by decide) E.1 E.2 rfl (Nat.le_of_ble_eq_true rfl) ?_
  refine j_iload1 (q := 1) dL_cell_0 rfl ?_
  refine j_oload0 (q := 2) dL_cell_1 rfl ?_
  refine j_olen (q := 3) (by decide) dL_cell_2 rfl ?_
  refine j_icmp_ge (tgt := 12) (q := 6) dL_cell_3 (by decide) rfl (by first | exact wr_id' (by omega) (by omega) | with_reducible exact wr_bI _ | exact rfl) (by first | exact wr_id' (by omega) (by omega) | with_reducible exact wr_bI _ | exact rfl) (fun h3 => ?_) (fun h3 => ?_)
  · refine j_ldc (x := 1332485771) (q := 14) dL_cell_12 rfl jw_428 rfl ?_
    refine j_iload1 (q := 15) dL_cell_14 rfl ?_
    refine j_iconst (q := 16) dL_cell_15 rfl ?_
    refine j_iadd (q := 17) dL_cell_16 rfl ?_
    refine j_imul (q := 18) dL_cell_17 rfl ?_
    exact j_ireturn dL_cell_18 rfl (by unfold cE; first | rw [if_pos (by omega)] | rw [if_neg (by omega)]) (rfl)
  · refine j_oload0 (q := 7) dL_cell_6 rfl ?_
    refine j_iload1 (q := 8) dL_cell_7 rfl ?_
    refine j_oload (q := 9) (by decide) dL_cell_8 rfl (by first | exact wr_id' (by omega) (by omega) | with_reducible exact wr_bI _ | exact rfl) (by omega) (by omega) ?_
    refine j_goto (tgt := 18) dL_cell_9 (by decide) ?_
    exact j_ireturn dL_cell_18 rfl (by unfold cE; first | rw [if_pos (by omega)] | rw [if_neg (by omega)]) (rfl)
theorem LJ_ah {X P A : Mem} {z : Z} {B K H : Int} (h : LJ X P z B K H) : LJ (ps (ps X 25 A) 1 P) P z B K H := by
  obtain ⟨⟨q1, q2⟩, a, b, c, d⟩ := h
  have e : ∀ c, ¬ (25 ≤ c ∧ c < 49) → ¬ (1 ≤ c ∧ c < 25) → ps (ps X 25 A) 1 P c = X c := fun c h1 h2 => by rw [ps_ne (by omega), ps_ne (by omega)]
  refine ⟨⟨by rw [lz_ps (by decide), ps_ps], q2⟩, a, b, LB_cg c (e _ (by omega) (by omega)) (e _ (by omega) (by omega)) ?_ (fun c hc => e _ (by omega) (by omega)), d⟩
  unfold TL
  rw [e 195 (by omega) (by omega), e 196 (by omega) (by omega)]
  exact c.2.2.1
theorem LB_f {X : Mem} (h : LB X) : (1 ≤ X 49 0 ∧ X 49 0 ≤ 6) ∧ (∀ j, X 50 j < 205) ∧ ∀ c, 205 ≤ c → X c = fun _ => 0 := ⟨h.2.1, h.2.2.2.1, h.2.2.2.2⟩
theorem cnt_18 {X : Mem} {z : Z} (h : LB X) : zCnt z (lz X false z 49 0) 18 = X 49 0 := by
  have e : lz X false z 49 0 = X 49 0 := by rw [lz_lo (by decide)]
  rw [e]
  rfl
theorem lw_turn {G : GX} (V : EV G SHP) (E : EW G SHP) (hs : LA SHP false) (g8 : (gE G 1).2.1 = 8) (gm : ∀ s, 0 ≤ s → s < 8 → (gE G 1).2.2 s = zMost s)  {X P : Mem} {z : Z} {a i x y B K H : Int} {b k n : Nat} (h : LJ X P z B K H) (ha : 0 ≤ a ∧ a < 25) (hi : 0 ≤ i ∧ i < 44) (hB : B + 32 ≤ 1000000) (hK : K + 1 ≤ 512) (hH : H ≤ 9000) (hk : k + 7 ≤ 600104) (hn : n + 228 ≤ 7301314) (kk : ∀ (X P : Mem) (z : Z) (k2 n2 : Nat), LJ X P z (B + 32) (K + 1) (H + 14) → k2 ≤ k + 7 → n2 ≤ n + 228 → J G SHP iLw 600104 7301314 (FH G 0 (FLw G b)) 198 [some (.inr (.retAddr 2)), some (.inr (.ref 0)), some (.inr (.ref (ix false 0))), some (.inr (.ref (ix false 1))), some (.inr (.ref (ix false 2))), some (.inr (.ref (ix false 3))), some (.inr (.ref (ix false 4))), some (.inr (.ref (ix false 5))), some (.inr (.ref (ix false 7))), some (.inr (.ref (ix false 6))), some (.inl (i + 1)), none, none, none] [] (lz X false z) (k2) (n2)) : J G SHP iLw 600104 7301314 (FH G 0 (FLw G b)) 286 [some (.inr (.retAddr 2)), some (.inr (.ref 0)), some (.inr (.ref (ix false 0))), some (.inr (.ref (ix false 1))), some (.inr (.ref (ix false 2))), some (.inr (.ref (ix false 3))), some (.inr (.ref (ix false 4))), some (.inr (.ref (ix false 5))), some (.inr (.ref (ix false 7))), some (.inr (.ref (ix false 6))), some (.inl i), some (.inl x), some (.inl y), none] [.inl a] (lz X false z) (k) (n) := by
  refine j_istore13 (q := 288) dL_law_286 rfl rfl (by decide) ?_
  refine j_aload1 (q := 289) dL_law_288 rfl ?_
  refine j_iload13 (q := 291) dL_law_289 rfl ?_
  refine j_iload11 (q := 293) dL_law_291 rfl ?_
  refine j_iload12 (q := 295) dL_law_293 rfl ?_
  refine j_aload2 (q := 296) dL_law_295 rfl ?_
  refine j_aload3 (q := 297) dL_law_296 rfl ?_
  refine j_aload4 (q := 299) dL_law_297 rfl ?_
  refine j_aload5 (q := 301) dL_law_299 rfl ?_
  refine j_aload6 (q := 303) dL_law_301 rfl ?_
  refine j_aload7 (q := 305) dL_law_303 rfl ?_
  refine j_aload8 (q := 307) dL_law_305 rfl ?_
  refine j_aload9 (q := 309) dL_law_307 rfl ?_
  refine j_callS12E (Mc := iL_act) (q := 312) (c' := 0) (s' := 0) dL_law_309 rfl kS_L_act jw_707 ⟨by decide, by decide⟩ rfl (by omega) (by omega) (ct_L_act V E hs h g8 gm ha hB hK hH) ?_
  intro m2 hm2
  obtain ⟨X2, P2, z2, rfl, hJ2⟩ := hm2
  refine j_ifeq_b (tgt := 340) (q := 315) dL_law_312 (by decide) rfl (fun q => (by cases q)) (fun _ => ?_)
  refine j_aload1 (q := 316) dL_law_315 rfl ?_
  refine j_iload12 (q := 318) dL_law_316 rfl ?_
  refine j_iconst (q := 319) dL_law_318 rfl ?_
  refine j_ishr (q := 320) dL_law_319 rfl ?_
  refine j_aload2 (q := 321) dL_law_320 rfl ?_
  refine j_aload3 (q := 322) dL_law_321 rfl ?_
  refine j_aload4 (q := 324) dL_law_322 rfl ?_
  refine j_aload5 (q := 326) dL_law_324 rfl ?_
  refine j_aload6 (q := 328) dL_law_326 rfl ?_
  refine j_aload7 (q := 330) dL_law_328 rfl ?_
  refine j_aload8 (q := 332) dL_law_330 rfl ?_
  refine j_aload9 (q := 334) dL_law_332 rfl ?_
  refine j_callS10 (Mc := iL_told) (q := 337) (c' := 0) (s' := 0) dL_law_334 rfl kS_L_told jw_432 ⟨by decide, by decide⟩ rfl (by omega) (by omega) (ct_L_told V E hs hJ2.1 hJ2.2.1) ?_
  refine j_ifne_b (tgt := 342) (q := 340) dL_law_337 (by decide) rfl (fun h337 => ?_) (fun h337 => ?_)
  · refine j_iload10 (q := 344) dL_law_342 rfl ?_
    refine j_iconst (q := 345) dL_law_344 rfl ?_
    refine j_iremP (q := 346) dL_law_345 rfl (by first | exact wr_id' (by omega) (by omega) | with_reducible exact wr_bI _ | exact rfl) (by first | exact wr_id' (by omega) (by omega) | with_reducible exact wr_bI _ | exact rfl) (by omega) (by omega) ?_
    refine j_iconst (q := 347) dL_law_346 rfl ?_
    refine j_icmp_ne (tgt := 377) (q := 350) dL_law_347 (by decide) rfl (by first | exact wr_id' (by omega) (by omega) | with_reducible exact wr_bI _ | exact rfl) (by first | exact wr_id' (by omega) (by omega) | with_reducible exact wr_bI _ | exact rfl) (fun h347 => ?_) (fun h347 => ?_)
    · refine j_iinc10 (q := 380) dL_law_377 rfl rfl (by decide) ?_
      refine j_goto (tgt := 198) dL_law_380 (by decide) ?_
      refine j_fgt11 ?_
      refine j_fgt12 ?_
      refine j_fgt13 ?_
      first | exact kk _ _ _ _ _ hJ3 (by omega) (by omega) | exact kk _ _ _ _ _ hJ2 (by omega) (by omega)
    · refine j_aload1 (q := 351) dL_law_350 rfl ?_
      refine j_iload12 (q := 353) dL_law_351 rfl ?_
      refine j_iconst (q := 354) dL_law_353 rfl ?_
      refine j_ishr (q := 355) dL_law_354 rfl ?_
      refine j_aload2 (q := 356) dL_law_355 rfl ?_
      refine j_aload3 (q := 357) dL_law_356 rfl ?_
      refine j_aload4 (q := 359) dL_law_357 rfl ?_
      refine j_aload5 (q := 361) dL_law_359 rfl ?_
      refine j_aload6 (q := 363) dL_law_361 rfl ?_
      refine j_aload7 (q := 365) dL_law_363 rfl ?_
      refine j_aload8 (q := 367) dL_law_365 rfl ?_
      refine j_aload9 (q := 369) dL_law_367 rfl ?_
      have hlb := LB_f hJ2.2.2.2.1
      obtain ⟨A2, hA⟩ := ct_L_ahead (x0 := iS y 2) E.1 E.2 hlb.2.2 hJ2.1 hJ2.2.1 hJ2.2.2.1 (by decide) hlb.2.1
      have hJ3 := LJ_ah (A := A2) hJ2
      refine j_callS10 (Mc := iL_ahead) (q := 372) (c' := 7) (s' := 228) dL_law_369 rfl kS_L_ahead jw_594 ⟨by decide, by decide⟩ rfl (by omega) (by omega) hA ?_
      refine j_if_ne (tgt := 377) (q := 375) dL_law_372 (by decide) rfl (wr_id' (by decide) (by decide)) (fun _ => ?_) (fun q => absurd q (by decide))
      refine j_iinc10 (q := 380) dL_law_377 rfl rfl (by decide) ?_
      refine j_goto (tgt := 198) dL_law_380 (by decide) ?_
      refine j_fgt11 ?_
      refine j_fgt12 ?_
      refine j_fgt13 ?_
      first | exact kk _ _ _ _ _ hJ3 (by omega) (by omega) | exact kk _ _ _ _ _ hJ2 (by omega) (by omega)
  · cases h337
theorem lp_law {G : GX} (V : EV G SHP) (E : EW G SHP) (hs : LA SHP false) (hL : (gE G 2).2.1 ≤ 260) (g8 : (gE G 1).2.1 = 8) (gm : ∀ s, 0 ≤ s → s < 8 → (gE G 1).2.2 s = zMost s)  {b : Nat} : ∀ (d : Nat) (i : Int) (X P : Mem) (z : Z) (B K H : Int) (k n : Nat), i + d = 44 → 0 ≤ i → LJ X P z B K H → B + 32 * d ≤ 1000000 → K + d ≤ 512 → H + 14 * d ≤ 9000 → k + 7 * d ≤ 600104 → n + 228 * d ≤ 7301314 → J G SHP iLw 600104 7301314 (FH G 0 (FLw G b)) 198 [some (.inr (.retAddr 2)), some (.inr (.ref 0)), some (.inr (.ref (ix false 0))), some (.inr (.ref (ix false 1))), some (.inr (.ref (ix false 2))), some (.inr (.ref (ix false 3))), some (.inr (.ref (ix false 4))), some (.inr (.ref (ix false 5))), some (.inr (.ref (ix false 7))), some (.inr (.ref (ix false 6))), some (.inl i), none, none, none] [] (lz X false z) (k) (n) := by
  intro d
  induction d with
  | zero =>
    intro i X P z B K H k n hi0 hi1 h hB hK hH hk hn
    have hc := cnt_18 (z := z) h.2.2.2.1
    have hl := (LB_f h.2.2.2.1).1
    refine j_iload10 (q := 200) dL_law_198 rfl ?_
    refine j_bipush (q := 202) dL_law_200 rfl rfl ?_
    refine j_icmp_ge (tgt := 383) (q := 205) dL_law_202 (by decide) rfl (by first | exact wr_id' (by omega) (by omega) | with_reducible exact wr_bI _ | exact rfl) (by first | exact wr_id' (by omega) (by omega) | with_reducible exact wr_bI _ | exact rfl) (fun h202 => ?_) (fun h202 => ?_)
    · refine j_aload1 (q := 384) dL_law_383 rfl ?_
      refine j_bipush (q := 386) dL_law_384 rfl rfl ?_
      refine j_callV1 (Mc := iX7_count) (q := 389) (c' := 0) (s' := 0) dL_law_386 rfl kV_X7_count jw_387 ⟨by decide, by decide⟩ (V.2.2 _ _ sh_0) rfl rfl rfl (by omega) (by omega) (qc_count V h.1 (by decide)) ?_
      refine j_if_le (tgt := 396) (q := 392) dL_law_389 (by decide) rfl (by first | exact wr_id' (by omega) (by omega) | with_reducible exact wr_bI _ | exact rfl) (fun h389 => ?_) (fun h389 => ?_)
      · omega
      · refine j_iconst (q := 393) dL_law_392 rfl ?_
        refine j_goto (tgt := 397) dL_law_393 (by decide) ?_
        exact j_lawret dL_law_397 (by omega) (by omega)
    · omega
  | succ d ih =>
    intro i X P z B K H k n hi0 hi1 h hB hK hH hk hn
    refine j_iload10 (q := 200) dL_law_198 rfl ?_
    refine j_bipush (q := 202) dL_law_200 rfl rfl ?_
    refine j_icmp_ge (tgt := 383) (q := 205) dL_law_202 (by decide) rfl (by first | exact wr_id' (by omega) (by omega) | with_reducible exact wr_bI _ | exact rfl) (by first | exact wr_id' (by omega) (by omega) | with_reducible exact wr_bI _ | exact rfl) (fun h202 => ?_) (fun h202 => ?_)
    · omega
    · refine j_oload0 (q := 206) dL_law_205 rfl ?_
      refine j_iconst (q := 207) dL_law_206 rfl ?_
      refine j_iload10 (q := 209) dL_law_207 rfl ?_
      refine j_imul (q := 210) dL_law_209 rfl ?_
      refine j_callS2 (Mc := iL_cell) (q := 213) (c' := 0) (s' := 0) dL_law_210 rfl kS_L_cell jw_425 ⟨by decide, by decide⟩ rfl (by omega) (by omega) (ct_L_cell E hL (by omega)) ?_
      refine j_ldc (x := 2147483647) (q := 215) dL_law_213 rfl jw_881 rfl ?_
      refine j_iand (q := 216) dL_law_215 rfl ?_
      refine j_istore11 (q := 218) dL_law_216 rfl rfl (by decide) ?_
      refine j_oload0 (q := 219) dL_law_218 rfl ?_
      refine j_iconst (q := 220) dL_law_219 rfl ?_
      refine j_iload10 (q := 222) dL_law_220 rfl ?_
      refine j_imul (q := 223) dL_law_222 rfl ?_
      refine j_iconst (q := 224) dL_law_223 rfl ?_
      refine j_iadd (q := 225) dL_law_224 rfl ?_
      refine j_callS2 (Mc := iL_cell) (q := 228) (c' := 0) (s' := 0) dL_law_225 rfl kS_L_cell jw_425 ⟨by decide, by decide⟩ rfl (by omega) (by omega) (ct_L_cell E hL (by omega)) ?_
      refine j_ldc (x := 2147483647) (q := 230) dL_law_228 rfl jw_881 rfl ?_
      refine j_iand (q := 231) dL_law_230 rfl ?_
      refine j_istore12 (q := 233) dL_law_231 rfl rfl (by decide) ?_
      refine j_iload10 (q := 235) dL_law_233 rfl ?_
      refine j_iconst (q := 236) dL_law_235 rfl ?_
      refine j_icmp_ge (tgt := 243) (q := 239) dL_law_236 (by decide) rfl (by first | exact wr_id' (by omega) (by omega) | with_reducible exact wr_bI _ | exact rfl) (by first | exact wr_id' (by omega) (by omega) | with_reducible exact wr_bI _ | exact rfl) (fun h236 => ?_) (fun h236 => ?_)
      · refine j_iload10 (q := 245) dL_law_243 rfl ?_
        refine j_iconst (q := 246) dL_law_245 rfl ?_
        refine j_icmp_ge (tgt := 253) (q := 249) dL_law_246 (by decide) rfl (by first | exact wr_id' (by omega) (by omega) | with_reducible exact wr_bI _ | exact rfl) (by first | exact wr_id' (by omega) (by omega) | with_reducible exact wr_bI _ | exact rfl) (fun h246 => ?_) (fun h246 => ?_)
        · refine j_iload10 (q := 255) dL_law_253 rfl ?_
          refine j_bipush (q := 257) dL_law_255 rfl rfl ?_
          refine j_icmp_ge (tgt := 264) (q := 260) dL_law_257 (by decide) rfl (by first | exact wr_id' (by omega) (by omega) | with_reducible exact wr_bI _ | exact rfl) (by first | exact wr_id' (by omega) (by omega) | with_reducible exact wr_bI _ | exact rfl) (fun h257 => ?_) (fun h257 => ?_)
          · refine j_iload10 (q := 266) dL_law_264 rfl ?_
            refine j_bipush (q := 268) dL_law_266 rfl rfl ?_
            refine j_icmp_ge (tgt := 276) (q := 271) dL_law_268 (by decide) rfl (by first | exact wr_id' (by omega) (by omega) | with_reducible exact wr_bI _ | exact rfl) (by first | exact wr_id' (by omega) (by omega) | with_reducible exact wr_bI _ | exact rfl) (fun h268 => ?_) (fun h268 => ?_)
            · refine j_iload11 (q := 278) dL_law_276 rfl ?_
              refine j_bipush (q := 280) dL_law_278 rfl rfl ?_
              refine j_ishr (q := 281) dL_law_280 rfl ?_
              have b25 := aT_b (iS (iA (cE G (2 * i)) 2147483647) 13) (n := 25) (by decide)
              refine j_bipush (q := 283) dL_law_281 rfl rfl ?_
              refine j_callS2 (Mc := iL_at) (q := 286) (c' := 0) (s' := 0) dL_law_283 rfl kS_L_at jw_429 ⟨by decide, by decide⟩ rfl (by omega) (by omega) (ct_L_at E hs (by omega)) ?_
              refine lw_turn V E hs g8 gm h (by omega) (by omega) (by omega) (by omega) (by omega) (by omega) (by omega) (fun X2 P2 z2 k2 n2 h2 hk2 hn2 => ?_)
              exact ih (i + 1) X2 P2 z2 _ _ _ k2 n2 (by omega) (by omega) h2 (by omega) (by omega) (by omega) (by omega) (by omega)
            · refine j_bipush (q := 273) dL_law_271 rfl rfl ?_
              refine j_goto (tgt := 286) dL_law_273 (by decide) ?_
              refine lw_turn V E hs g8 gm h (by omega) (by omega) (by omega) (by omega) (by omega) (by omega) (by omega) (fun X2 P2 z2 k2 n2 h2 hk2 hn2 => ?_)
              exact ih (i + 1) X2 P2 z2 _ _ _ k2 n2 (by omega) (by omega) h2 (by omega) (by omega) (by omega) (by omega) (by omega)
          · refine j_iconst (q := 261) dL_law_260 rfl ?_
            refine j_goto (tgt := 286) dL_law_261 (by decide) ?_
            refine lw_turn V E hs g8 gm h (by omega) (by omega) (by omega) (by omega) (by omega) (by omega) (by omega) (fun X2 P2 z2 k2 n2 h2 hk2 hn2 => ?_)
            exact ih (i + 1) X2 P2 z2 _ _ _ k2 n2 (by omega) (by omega) h2 (by omega) (by omega) (by omega) (by omega) (by omega)
        · refine j_iconst (q := 250) dL_law_249 rfl ?_
          refine j_goto (tgt := 286) dL_law_250 (by decide) ?_
          refine lw_turn V E hs g8 gm h (by omega) (by omega) (by omega) (by omega) (by omega) (by omega) (by omega) (fun X2 P2 z2 k2 n2 h2 hk2 hn2 => ?_)
          exact ih (i + 1) X2 P2 z2 _ _ _ k2 n2 (by omega) (by omega) h2 (by omega) (by omega) (by omega) (by omega) (by omega)
      · refine j_iconst (q := 240) dL_law_239 rfl ?_
        refine j_goto (tgt := 286) dL_law_240 (by decide) ?_
        refine lw_turn V E hs g8 gm h (by omega) (by omega) (by omega) (by omega) (by omega) (by omega) (by omega) (fun X2 P2 z2 k2 n2 h2 hk2 hn2 => ?_)
        exact ih (i + 1) X2 P2 z2 _ _ _ k2 n2 (by omega) (by omega) h2 (by omega) (by omega) (by omega) (by omega) (by omega)

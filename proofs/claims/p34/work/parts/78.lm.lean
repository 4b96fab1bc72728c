/-! the law: ahead, whole -/
theorem cTk_1 {P : Mem} {s : Int} : cTk P 1 s = P 1 s := by
  unfold cTk
  rw [cTcF_o (by omega), cLtF_o (by unfold UL; omega) (by omega)]
  unfold cTk0
  rw [up_ne (by omega), up_ne (by omega)]
theorem cSvI_1 {s : Int} : ∀ (k : Nat) (Q : Mem), cSvI k Q 1 s = Q 1 s := by
  intro k
  induction k with
  | zero => intro Q; rfl
  | succ k ih =>
    intro Q
    rw [cSvI]
    split
    · rw [ih, cFb_o (by unfold UL; omega) (by omega) (by omega) (by omega)]
    · rfl
theorem cSvF_1 {p : Nat} {s : Int} : ∀ (n : Nat) (Q : Mem), cSvF p n Q 1 s = Q 1 s := by
  intro n
  induction n with
  | zero => intro Q; rfl
  | succ n ih =>
    intro Q
    rw [cSvF]
    split
    · rw [ih, cTk_1, cSvI_1]
    · rfl
theorem SY_sb {P : Mem} {z : Z} {o : Int → Int} {T B K : Int} {p n : Nat} (hT : T + n ≤ 20000) (h : RR P z T B K) : SY z (zSbF p n (z, o)).1 := fun s a b => by
  obtain ⟨T', h'⟩ := R_svF (p := p) n P (z, o) (T := T) hT h
  rw [← h'.1.st s a b, cSvF_1, h.1.st s a b]
theorem l2_lo {X : Mem} {z y : Z} (h : SY z y) {c : Nat} (hc : c < 205) : lz (lz X false z) true y c = lz X false z c := by
  by_cases q : c = 203
  · subst q
    have e1 : lz (lz X false z) true y 203 = lr y 7 := lz_at (p := true) (d := 7) (by decide)
    have e2 : lz X false z 203 = lr z 7 := lz_at (p := false) (d := 7) (by decide)
    rw [e1, e2]
    funext j
    by_cases w : 0 ≤ j ∧ j < ln 7
    · rw [lr_in w, lr_in w]
      show y (15 + j) - 0 = z (15 + j) - 0
      rw [h j w.1 w.2]
    · rw [lr_out w, lr_out w]
  · refine lz_ne (fun d hd e => ?_)
    have key : ∀ a : Fin 8, ix true a = 203 ∨ 205 ≤ ix true a := by decide
    have k' : ix true d = 203 ∨ 205 ≤ ix true d := key ⟨d, hd⟩
    omega
theorem QP_2 {X P : Mem} {z : Z} {T B K : Int} (Q : QP (lz X false z) P z T B K) (y : Z) : QP (lz (lz X false z) true y) P z T B K :=
  ⟨by rw [lz_ps (by decide), Q.1], Q.2⟩
theorem QP_3 {X P A : Mem} {z : Z} {T B K : Int} (Q : QP (lz X false z) P z T B K) : QP (lz (ps (ps X 25 A) 1 P) false z) P z T B K :=
  ⟨by rw [lz_ps (by decide), ps_ps], Q.2⟩
theorem lp_ah_i {G : GX} {sh : List SH} (V : EV G sh) (E : EW G sh) (hs0 : LA sh false) (hs1 : LA sh true) {F : FinT} {X P : Mem} {z : Z} {T B K : Int} {x0 pa k t co : Int} (hQ : ∀ y, QP (lz (lz X false z) true y) P z T B K) (hN : NI z) (hr : RT z) (h1 : 0 ≤ k ∧ k < 16) (ht : 1 ≤ t ∧ t ≤ 200) (hco : 1 ≤ co ∧ co ≤ 60) : ∀ (d : Nat) (i : Int) (g : Int) (y : Z), i + d = z 3 → 0 ≤ i → -1 ≤ g → g < 2 → SY z y → (∀ (r : Int) (y2 : Z), r = zChF z (cr k) co t d i g → SY z y2 → J G sh iL_ahead 7 228 F 457 [some (.inr (.ref 0)), some (.inl x0), some (.inr (.ref (ix false 0))), some (.inr (.ref (ix false 1))), some (.inr (.ref (ix false 2))), some (.inr (.ref (ix false 3))), some (.inr (.ref (ix false 4))), some (.inr (.ref (ix false 5))), some (.inr (.ref (ix true 7))), some (.inr (.ref (ix false 6))), some (.inr (.ref (ix true 0))), some (.inr (.ref (ix true 1))), some (.inr (.ref (ix true 2))), some (.inr (.ref (ix true 3))), some (.inr (.ref (ix true 4))), some (.inr (.ref (ix true 5))), some (.inr (.ref (ix true 6))), some (.inl pa), some (.inl k), some (.inl t), some (.inl co), some (.inl r), none, none, none, none, none] [] (lz (lz X false z) true y2) 7 228) → J G sh iL_ahead 7 228 F 239 [some (.inr (.ref 0)), some (.inl x0), some (.inr (.ref (ix false 0))), some (.inr (.ref (ix false 1))), some (.inr (.ref (ix false 2))), some (.inr (.ref (ix false 3))), some (.inr (.ref (ix false 4))), some (.inr (.ref (ix false 5))), some (.inr (.ref (ix true 7))), some (.inr (.ref (ix false 6))), some (.inr (.ref (ix true 0))), some (.inr (.ref (ix true 1))), some (.inr (.ref (ix true 2))), some (.inr (.ref (ix true 3))), some (.inr (.ref (ix true 4))), some (.inr (.ref (ix true 5))), some (.inr (.ref (ix true 6))), some (.inl pa), some (.inl k), some (.inl t), some (.inl co), some (.inl g), some (.inl i), none, none, none, none] [] (lz (lz X false z) true y) 7 228 := by
  intro d
  induction d with
  | zero =>
    intro i g y g0 g1 g2 g3 g4 kk
    have Q0 := hQ z
    have hX := Q0.2.2.2.1
    have hI := Q0.2.1.2.2.2.2.2
    have hc := cr_b h1
    have hN3 := hN.2
    refine j_iload22 (q := 241) dL_ahead_239 rfl ?_
    refine j_aload9 (q := 243) dL_ahead_241 rfl ?_
    refine j_iconst (q := 244) dL_ahead_243 rfl ?_
    refine j_f6_0 (q := 245) dL_ahead_244 rfl hs0 (by omega) ?_
    refine j_icmp_ge (tgt := 457) (q := 248) dL_ahead_245 (by decide) rfl (by first | exact wr_id' (by omega) (by omega) | with_reducible exact wr_bI _ | exact rfl) (by first | exact wr_id' (by omega) (by omega) | with_reducible exact wr_bI _ | exact rfl) (fun h245 => ?_) (fun h245 => ?_)
    · refine j_fgt22 ?_
      exact kk _ _ rfl g4
    · omega
  | succ d ih =>
    intro i g y g0 g1 g2 g3 g4 kk
    have Q0 := hQ z
    have hX := Q0.2.2.2.1
    have hI := Q0.2.1.2.2.2.2.2
    have hc := cr_b h1
    have hN3 := hN.2
    refine j_iload22 (q := 241) dL_ahead_239 rfl ?_
    refine j_aload9 (q := 243) dL_ahead_241 rfl ?_
    refine j_iconst (q := 244) dL_ahead_243 rfl ?_
    refine j_f6_0 (q := 245) dL_ahead_244 rfl hs0 (by omega) ?_
    refine j_icmp_ge (tgt := 457) (q := 248) dL_ahead_245 (by decide) rfl (by first | exact wr_id' (by omega) (by omega) | with_reducible exact wr_bI _ | exact rfl) (by first | exact wr_id' (by omega) (by omega) | with_reducible exact wr_bI _ | exact rfl) (fun h245 => ?_) (fun h245 => ?_)
    · omega
    · refine j_iload18 (q := 250) dL_ahead_248 rfl ?_
      refine j_iload22 (q := 252) dL_ahead_250 rfl ?_
      refine j_iload19 (q := 254) dL_ahead_252 rfl ?_
      refine j_aload2 (q := 255) dL_ahead_254 rfl ?_
      refine j_aload6 (q := 257) dL_ahead_255 rfl ?_
      refine j_aload9 (q := 259) dL_ahead_257 rfl ?_
      refine j_callS6 (Mc := iL_premium) (q := 262) (c' := 0) (s' := 0) dL_ahead_259 rfl kS_L_premium jw_688 ⟨by decide, by decide⟩ rfl (Nat.le_refl _) (Nat.le_refl _) (ct_pr0 E hs0 h1 ⟨by omega, by omega⟩) ?_
      have hp := prem_b hI hc hr (i := i) (t := t) ⟨by omega, by omega⟩ ht
      refine j_istore23 (q := 264) dL_ahead_262 rfl rfl (by decide) ?_
      refine j_iconst (q := 265) dL_ahead_264 rfl ?_
      refine j_iload1 (q := 266) dL_ahead_265 rfl ?_
      refine j_bipush (q := 268) dL_ahead_266 rfl rfl ?_
      refine j_ishr (q := 269) dL_ahead_268 rfl ?_
      refine j_iload23 (q := 271) dL_ahead_269 rfl ?_
      refine j_callS2 (Mc := iL_at) (q := 274) (c' := 0) (s' := 0) dL_ahead_271 rfl kS_L_at jw_429 ⟨by decide, by decide⟩ rfl (Nat.le_refl _) (Nat.le_refl _) (ct_L_at E hs1 (by omega)) ?_
      refine j_iadd (q := 275) dL_ahead_274 rfl ?_
      refine j_istore24 (q := 277) dL_ahead_275 rfl rfl (by decide) ?_
      have ha := aT_b (iS x0 9) (n := zPrem z (cr k) i t (z 1)) (by omega)
      refine j_iconst (q := 278) dL_ahead_277 rfl ?_
      refine j_istore25 (q := 280) dL_ahead_278 rfl rfl (by decide) ?_
      refine j_sipush (q := 283) dL_ahead_280 rfl rfl ?_
      refine j_istore26 (q := 285) dL_ahead_283 rfl rfl (by decide) ?_
      refine lp_ah_w V E hs0 hs1 (P := P) (K := K) hI h1 ⟨by omega, by omega⟩ ⟨by omega, by omega⟩ 201 200 (-1) y (by omega) (by omega) rfl g4 ?_
      intro y2 hy2
      refine j_aload0 (q := 369) dL_ahead_368 rfl ?_
      refine j_iload18 (q := 371) dL_ahead_369 rfl ?_
      refine j_callS1 (Mc := iL_core) (q := 374) (c' := 0) (s' := 0) dL_ahead_371 rfl kS_L_core jw_438 ⟨by decide, by decide⟩ rfl (Nat.le_refl _) (Nat.le_refl _) (ct_L_core E hs1 h1) ?_
      refine j_iload22 (q := 376) dL_ahead_374 rfl ?_
      refine j_iload19 (q := 378) dL_ahead_376 rfl ?_
      refine j_callV3 (Mc := iX7_premium) (q := 381) (c' := 0) (s' := 0) dL_ahead_378 rfl kV_X7_premium jw_691 ⟨by decide, by decide⟩ (V.2.2 _ _ sh_0) rfl rfl rfl (Nat.le_refl _) (Nat.le_refl _) (qc_premium V (hQ y2) hc ⟨by omega, by omega⟩ ht) ?_
      refine j_iload23 (q := 383) dL_ahead_381 rfl ?_
      refine j_icmp_ne (tgt := 406) (q := 386) dL_ahead_383 (by decide) rfl rfl rfl (fun h383 => ?_) (fun h383 => ?_)
      · exact absurd rfl h383
      · refine j_aload0 (q := 387) dL_ahead_386 rfl ?_
        refine j_iload18 (q := 389) dL_ahead_387 rfl ?_
        refine j_callS1 (Mc := iL_core) (q := 392) (c' := 0) (s' := 0) dL_ahead_389 rfl kS_L_core jw_438 ⟨by decide, by decide⟩ rfl (Nat.le_refl _) (Nat.le_refl _) (ct_L_core E hs1 h1) ?_
        refine j_iload22 (q := 394) dL_ahead_392 rfl ?_
        refine j_iload19 (q := 396) dL_ahead_394 rfl ?_
        refine j_iload24 (q := 398) dL_ahead_396 rfl ?_
        refine j_callV4 (Mc := iX7_waitFor) (q := 401) (c' := 0) (s' := 0) dL_ahead_398 rfl kV_X7_waitFor jw_699 ⟨by decide, by decide⟩ (V.2.2 _ _ sh_0) rfl rfl rfl (Nat.le_refl _) (Nat.le_refl _) (qc_waitFor V (hQ y2) hc ⟨by omega, by omega⟩ ht ⟨by omega, by omega⟩) ?_
        refine j_iload25 (q := 403) dL_ahead_401 rfl ?_
        refine j_icmp_eq (tgt := 408) (q := 406) dL_ahead_403 (by decide) rfl rfl rfl (fun h403 => ?_) (fun h403 => ?_)
        · refine j_aload6 (q := 410) dL_ahead_408 rfl ?_
          refine j_bipush (q := 412) dL_ahead_410 rfl rfl ?_
          refine j_iload22 (q := 414) dL_ahead_412 rfl ?_
          refine j_imul (q := 415) dL_ahead_414 rfl ?_
          refine j_iconst (q := 416) dL_ahead_415 rfl ?_
          refine j_iadd (q := 417) dL_ahead_416 rfl ?_
          refine j_f4_2 (q := 418) dL_ahead_417 rfl hs0 (by omega) ?_
          refine j_iload20 (q := 420) dL_ahead_418 rfl ?_
          refine j_icmp_lt (tgt := 451) (q := 423) dL_ahead_420 (by decide) rfl rfl (by first | exact wr_id' (by omega) (by omega) | with_reducible exact wr_bI _ | exact rfl) (fun h420 => ?_) (fun h420 => ?_)
          · refine j_iinc22 (q := 454) dL_ahead_451 rfl rfl (by decide) ?_
            refine j_goto (tgt := 239) dL_ahead_454 (by decide) ?_
            refine j_fgt23 ?_
            refine j_fgt24 ?_
            refine j_fgt25 ?_
            exact ih _ _ y2 (by omega) (by omega) (by omega) (by omega) hy2 (fun r y3 hr3 => kk r y3 (hr3.trans (by rw [zChF]; exact congrArg (zChF z (cr k) co t d (i + 1)) (by first | exact (if_pos (by omega)).symm | exact (if_neg (by omega)).symm))))
          · refine j_iload21 (q := 425) dL_ahead_423 rfl ?_
            refine j_if_lt (tgt := 447) (q := 428) dL_ahead_425 (by decide) rfl (by first | exact wr_id' (by omega) (by omega) | with_reducible exact wr_bI _ | exact rfl) (fun h425 => ?_) (fun h425 => ?_)
            · refine j_iload22 (q := 449) dL_ahead_447 rfl ?_
              refine j_istore21 (q := 451) dL_ahead_449 rfl rfl (by decide) ?_
              refine j_iinc22 (q := 454) dL_ahead_451 rfl rfl (by decide) ?_
              refine j_goto (tgt := 239) dL_ahead_454 (by decide) ?_
              refine j_fgt23 ?_
              refine j_fgt24 ?_
              refine j_fgt25 ?_
              exact ih _ _ y2 (by omega) (by omega) (by omega) (by omega) hy2 (fun r y3 hr3 => kk r y3 (hr3.trans (by rw [zChF]; exact congrArg (zChF z (cr k) co t d (i + 1)) (by first | exact (if_pos (by omega)).symm | exact (if_neg (by omega)).symm))))
            · refine j_iload23 (q := 430) dL_ahead_428 rfl ?_
              refine j_iload18 (q := 432) dL_ahead_430 rfl ?_
              refine j_iload21 (q := 434) dL_ahead_432 rfl ?_
              refine j_iload19 (q := 436) dL_ahead_434 rfl ?_
              refine j_aload2 (q := 437) dL_ahead_436 rfl ?_
              refine j_aload6 (q := 439) dL_ahead_437 rfl ?_
              refine j_aload9 (q := 441) dL_ahead_439 rfl ?_
              refine j_callS6 (Mc := iL_premium) (q := 444) (c' := 0) (s' := 0) dL_ahead_441 rfl kS_L_premium jw_688 ⟨by decide, by decide⟩ rfl (Nat.le_refl _) (Nat.le_refl _) (ct_pr0 E hs0 h1 ⟨by omega, by omega⟩) ?_
              refine j_icmp_ge (tgt := 451) (q := 447) dL_ahead_444 (by decide) rfl rfl rfl (fun h444 => ?_) (fun h444 => ?_)
              · refine j_iinc22 (q := 454) dL_ahead_451 rfl rfl (by decide) ?_
                refine j_goto (tgt := 239) dL_ahead_454 (by decide) ?_
                refine j_fgt23 ?_
                refine j_fgt24 ?_
                refine j_fgt25 ?_
                exact ih _ _ y2 (by omega) (by omega) (by omega) (by omega) hy2 (fun r y3 hr3 => kk r y3 (hr3.trans (by rw [zChF]; exact congrArg (zChF z (cr k) co t d (i + 1)) (by first | exact (if_pos (by omega)).symm | exact (if_neg (by omega)).symm))))
              · refine j_iload22 (q := 449) dL_ahead_447 rfl ?_
                refine j_istore21 (q := 451) dL_ahead_449 rfl rfl (by decide) ?_
                refine j_iinc22 (q := 454) dL_ahead_451 rfl rfl (by decide) ?_
                refine j_goto (tgt := 239) dL_ahead_454 (by decide) ?_
                refine j_fgt23 ?_
                refine j_fgt24 ?_
                refine j_fgt25 ?_
                exact ih _ _ y2 (by omega) (by omega) (by omega) (by omega) hy2 (fun r y3 hr3 => kk r y3 (hr3.trans (by rw [zChF]; exact congrArg (zChF z (cr k) co t d (i + 1)) (by first | exact (if_pos (by omega)).symm | exact (if_neg (by omega)).symm))))
        · exact absurd rfl h403
theorem cA_L_ahead {G : GX} (E0 : jAp G 205) (hfl : (gL G).flags = flags0) {X P : Mem} {z y0 : Z} {T B K x0 : Int} (hX0 : ∀ c, 205 ≤ c → X c = fun _ => 0) (Q : QP (lz X false z) P z T B K) (hN : NI z) (hr : RT z) (hT : T + 64 ≤ 20000) (h50 : ∀ j, X 50 j < 205) (hy0 : y0 = (zSbF (1 + aT x0 9).toNat 64 (z, fun _ => 0)).1) : CT G SHP iL_ahead 7 228 [.inr (.ref 0), .inl x0, .inr (.ref (ix false 0)), .inr (.ref (ix false 1)), .inr (.ref (ix false 2)), .inr (.ref (ix false 3)), .inr (.ref (ix false 4)), .inr (.ref (ix false 5)), .inr (.ref (ix false 7)), .inr (.ref (ix false 6))] (lz X false z) (some (.inl 1)) (lz (ps (ps X 25 (cSvE (pg (lz (lz X false z) true y0) 25) P (1 + aT x0 9))) 1 P) false z) := by
  have hI := Q.2.1.2.2.2.2.2
  have hK : LK z T B K := ⟨Q.2.2.2.1, P, Q.2.1, Q.2.2.1⟩
  have hN3 := hN.2
  have hp0 := aT_b x0 (n := 9) (by decide)
  have hpa : 1 ≤ 1 + aT x0 9 ∧ 1 + aT x0 9 ≤ 9 := ⟨by omega, by omega⟩
  have hw := zOw_b z
  have hSY : SY z y0 := by rw [hy0]; exact SY_sb (by omega) Q.2.1
  refine ct_ah (L0 := [some (.inr (.ref 0)), some (.inl x0), some (.inr (.ref (ix false 0))), some (.inr (.ref (ix false 1))), some (.inr (.ref (ix false 2))), some (.inr (.ref (ix false 3))), some (.inr (.ref (ix false 4))), some (.inr (.ref (ix false 5))), some (.inr (.ref (ix false 7))), some (.inr (.ref (ix false 6))), none, none, none, none, none, none, none, none, none, none, none, none, none, none, none, none, none]) (by decide) E0 hfl rfl (Nat.le_of_ble_eq_true rfl) (fun G2 h => ?_) (fun j => by rw [lz_lo (by decide)]; exact h50 j) (fun j => by rw [lz_lo (by decide), ps_ne (by omega), ps_ne (by omega)]; exact h50 j) (fun G2 S0 hfl2 ap2 hg => ?_)
  · have e : ∀ k, k < 205 → jv G2 (.inr (.ref k)) = jv G (.inr (.ref k)) := fun k hk => congrArg Value.ref (h k hk)
    simp only [List.map_cons, List.map_nil]
    rw [e 0 (by decide), e (ix false 0) (by decide), e (ix false 1) (by decide), e (ix false 2) (by decide), e (ix false 3) (by decide), e (ix false 4) (by decide), e (ix false 5) (by decide), e (ix false 6) (by decide), e (ix false 7) (by decide)]
    rfl
  have V : EV G2 SHA := ⟨by rw [SHA_len]; exact ap2, hfl2, fun i x h => SHA_at h⟩
  have E : EW G2 SHA := ⟨V.1, V.2.1⟩
  have hs0 := LA_SHA false
  have hs1 := LA_SHA true
  have hz : ∀ c, 205 ≤ c → lz X false z c = fun _ => 0 := fun c hc => by
    rw [lz_ne (fun d hd e => by
      have key : ∀ a : Fin 8, ix false a < 205 := by decide
      have k' : ix false d < 205 := key ⟨d, hd⟩
      omega)]
    exact hX0 c hc
  refine j_bipush (q := 2) dL_ahead_0 rfl rfl ?_
  refine j_newS (N := 64) (r := 205) hg (by simp [SHP_len]) ap2 (by decide) rfl dL_ahead_2 rfl rfl (by decide) (hz _ (by decide)) (by decide) (by decide) ?_
  refine j_astore10 (q := 6) dL_ahead_4 rfl rfl (by decide) ?_
  refine j_bipush (q := 8) dL_ahead_6 rfl rfl ?_
  refine j_newS (N := 64) (r := 206) hg (by simp [SHP_len]) ap2 (by decide) rfl dL_ahead_8 rfl rfl (by decide) (hz _ (by decide)) (by decide) (by decide) ?_
  refine j_astore11 (q := 12) dL_ahead_10 rfl rfl (by decide) ?_
  refine j_bipush (q := 14) dL_ahead_12 rfl rfl ?_
  refine j_newS (N := 16) (r := 207) hg (by simp [SHP_len]) ap2 (by decide) rfl dL_ahead_14 rfl rfl (by decide) (hz _ (by decide)) (by decide) (by decide) ?_
  refine j_astore12 (q := 18) dL_ahead_16 rfl rfl (by decide) ?_
  refine j_bipush (q := 20) dL_ahead_18 rfl rfl ?_
  refine j_newS (N := 9) (r := 208) hg (by simp [SHP_len]) ap2 (by decide) rfl dL_ahead_20 rfl rfl (by decide) (hz _ (by decide)) (by decide) (by decide) ?_
  refine j_astore13 (q := 24) dL_ahead_22 rfl rfl (by decide) ?_
  refine j_bipush (q := 26) dL_ahead_24 rfl rfl ?_
  refine j_newS (N := 12) (r := 209) hg (by simp [SHP_len]) ap2 (by decide) rfl dL_ahead_26 rfl rfl (by decide) (hz _ (by decide)) (by decide) (by decide) ?_
  refine j_astore14 (q := 30) dL_ahead_28 rfl rfl (by decide) ?_
  refine j_bipush (q := 32) dL_ahead_30 rfl rfl ?_
  refine j_newS (N := 48) (r := 210) hg (by simp [SHP_len]) ap2 (by decide) rfl dL_ahead_32 rfl rfl (by decide) (hz _ (by decide)) (by decide) (by decide) ?_
  refine j_astore15 (q := 36) dL_ahead_34 rfl rfl (by decide) ?_
  refine j_bipush (q := 38) dL_ahead_36 rfl rfl ?_
  refine j_newS (N := 15) (r := 211) hg (by simp [SHP_len]) ap2 (by decide) rfl dL_ahead_38 rfl rfl (by decide) (hz _ (by decide)) (by decide) (by decide) ?_
  refine j_astore16 (q := 42) dL_ahead_40 rfl rfl (by decide) ?_
  refine j_shp (sh' := SHA) (by simp only [SHA, List.append_assoc, List.cons_append, List.nil_append]) ?_
  refine j_kn (k' := 7) (n' := 228) rfl rfl ?_
  refine j_fs ?_
  refine j_aload10 (q := 44) dL_ahead_42 rfl ?_
  refine j_aload2 (q := 45) dL_ahead_44 rfl ?_
  refine j_callS2v (Mc := iL_same) (q := 48) (c' := 0) (s' := 0) dL_ahead_45 rfl kS_L_same jw_597 ⟨by decide, by decide⟩ rfl (Nat.le_refl _) (Nat.le_refl _) (ct_L_same (N := 64) E (hs0 0 (by decide)) (hs1 0 (by decide)) (by decide) (by decide)) ?_
  refine j_aload11 (q := 50) dL_ahead_48 rfl ?_
  refine j_aload3 (q := 51) dL_ahead_50 rfl ?_
  refine j_callS2v (Mc := iL_same) (q := 54) (c' := 0) (s' := 0) dL_ahead_51 rfl kS_L_same jw_597 ⟨by decide, by decide⟩ rfl (Nat.le_refl _) (Nat.le_refl _) (ct_L_same (N := 64) E (hs0 1 (by decide)) (hs1 1 (by decide)) (by decide) (by decide)) ?_
  refine j_aload12 (q := 56) dL_ahead_54 rfl ?_
  refine j_aload4 (q := 58) dL_ahead_56 rfl ?_
  refine j_callS2v (Mc := iL_same) (q := 61) (c' := 0) (s' := 0) dL_ahead_58 rfl kS_L_same jw_597 ⟨by decide, by decide⟩ rfl (Nat.le_refl _) (Nat.le_refl _) (ct_L_same (N := 16) E (hs0 2 (by decide)) (hs1 2 (by decide)) (by decide) (by decide)) ?_
  refine j_aload13 (q := 63) dL_ahead_61 rfl ?_
  refine j_aload5 (q := 65) dL_ahead_63 rfl ?_
  refine j_callS2v (Mc := iL_same) (q := 68) (c' := 0) (s' := 0) dL_ahead_65 rfl kS_L_same jw_597 ⟨by decide, by decide⟩ rfl (Nat.le_refl _) (Nat.le_refl _) (ct_L_same (N := 9) E (hs0 3 (by decide)) (hs1 3 (by decide)) (by decide) (by decide)) ?_
  refine j_aload14 (q := 70) dL_ahead_68 rfl ?_
  refine j_aload6 (q := 72) dL_ahead_70 rfl ?_
  refine j_callS2v (Mc := iL_same) (q := 75) (c' := 0) (s' := 0) dL_ahead_72 rfl kS_L_same jw_597 ⟨by decide, by decide⟩ rfl (Nat.le_refl _) (Nat.le_refl _) (ct_L_same (N := 12) E (hs0 4 (by decide)) (hs1 4 (by decide)) (by decide) (by decide)) ?_
  refine j_aload15 (q := 77) dL_ahead_75 rfl ?_
  refine j_aload7 (q := 79) dL_ahead_77 rfl ?_
  refine j_callS2v (Mc := iL_same) (q := 82) (c' := 0) (s' := 0) dL_ahead_79 rfl kS_L_same jw_597 ⟨by decide, by decide⟩ rfl (Nat.le_refl _) (Nat.le_refl _) (ct_L_same (N := 48) E (hs0 5 (by decide)) (hs1 5 (by decide)) (by decide) (by decide)) ?_
  refine j_aload16 (q := 84) dL_ahead_82 rfl ?_
  refine j_aload9 (q := 86) dL_ahead_84 rfl ?_
  refine j_callS2v (Mc := iL_same) (q := 89) (c' := 0) (s' := 0) dL_ahead_86 rfl kS_L_same jw_597 ⟨by decide, by decide⟩ rfl (Nat.le_refl _) (Nat.le_refl _) (ct_L_same (N := 15) E (hs0 6 (by decide)) (hs1 6 (by decide)) (by decide) (by decide)) ?_
  refine j_mem (cp7 hX0) ?_
  refine j_iconst (q := 90) dL_ahead_89 rfl ?_
  refine j_iload1 (q := 91) dL_ahead_90 rfl ?_
  refine j_bipush (q := 93) dL_ahead_91 rfl rfl ?_
  refine j_callS2 (Mc := iL_at) (q := 96) (c' := 0) (s' := 0) dL_ahead_93 rfl kS_L_at jw_429 ⟨by decide, by decide⟩ rfl (Nat.le_refl _) (Nat.le_refl _) (ct_L_at E hs1 (by decide)) ?_
  refine j_iadd (q := 97) dL_ahead_96 rfl ?_
  refine j_istore17 (q := 99) dL_ahead_97 rfl rfl (by decide) ?_
  refine lp_ah_a V E hs0 hs1 (B := B) (K := K) hpa 64 (z, fun _ => 0) T (by omega) hK (by dsimp only; omega) ?_
  intro xs hxs
  refine j_mem (m' := lz (lz X false z) true y0) (by rw [hxs, hy0]) ?_
  refine j_aload0 (q := 176) dL_ahead_175 rfl ?_
  refine j_iload17 (q := 178) dL_ahead_176 rfl ?_
  refine j_callV1 (Mc := iX7_savable) (q := 181) (c' := 0) (s' := 0) dL_ahead_178 rfl kV_X7_savable jw_615 ⟨by decide, by decide⟩ (V.2.2 _ _ sh_0) rfl rfl rfl (Nat.le_refl _) (Nat.le_refl _) (qc_savable V (QP_2 Q y0) hT hpa) ?_
  refine j_aload16 (q := 183) dL_ahead_181 rfl ?_
  refine j_bipush (q := 185) dL_ahead_183 rfl rfl ?_
  refine j_l6_0 (q := 186) dL_ahead_185 rfl hs1 (by omega) ?_
  refine j_aload9 (q := 188) dL_ahead_186 rfl ?_
  refine j_bipush (q := 190) dL_ahead_188 rfl rfl ?_
  refine j_f6_0 (q := 191) dL_ahead_190 rfl hs0 (by omega) ?_
  refine j_isub (q := 192) dL_ahead_191 rfl ?_
  refine j_icmp_eq (tgt := 197) (q := 195) dL_ahead_192 (by decide) rfl rfl rfl (fun h192 => ?_) (fun h192 => ?_)
  · refine j_iload1 (q := 198) dL_ahead_197 rfl ?_
    refine j_iconst (q := 199) dL_ahead_198 rfl ?_
    refine j_ishr (q := 200) dL_ahead_199 rfl ?_
    refine j_bipush (q := 202) dL_ahead_200 rfl rfl ?_
    refine j_callS2 (Mc := iL_at) (q := 205) (c' := 0) (s' := 0) dL_ahead_202 rfl kS_L_at jw_429 ⟨by decide, by decide⟩ rfl (Nat.le_refl _) (Nat.le_refl _) (ct_L_at E hs1 (by decide)) ?_
    have ha1 := aT_b (iS x0 3) (n := 16) (by decide)
    refine j_istore18 (q := 207) dL_ahead_205 rfl rfl (by decide) ?_
    refine j_iconst (q := 208) dL_ahead_207 rfl ?_
    refine j_iload1 (q := 209) dL_ahead_208 rfl ?_
    refine j_bipush (q := 211) dL_ahead_209 rfl rfl ?_
    refine j_ishr (q := 212) dL_ahead_211 rfl ?_
    refine j_sipush (q := 215) dL_ahead_212 rfl rfl ?_
    refine j_callS2 (Mc := iL_at) (q := 218) (c' := 0) (s' := 0) dL_ahead_215 rfl kS_L_at jw_429 ⟨by decide, by decide⟩ rfl (Nat.le_refl _) (Nat.le_refl _) (ct_L_at E hs1 (by decide)) ?_
    refine j_iadd (q := 219) dL_ahead_218 rfl ?_
    have ha2 := aT_b (iS x0 7) (n := 200) (by decide)
    refine j_istore19 (q := 221) dL_ahead_219 rfl rfl (by decide) ?_
    refine j_iconst (q := 222) dL_ahead_221 rfl ?_
    refine j_iload1 (q := 223) dL_ahead_222 rfl ?_
    refine j_iconst (q := 224) dL_ahead_223 rfl ?_
    refine j_ishr (q := 225) dL_ahead_224 rfl ?_
    refine j_bipush (q := 227) dL_ahead_225 rfl rfl ?_
    refine j_callS2 (Mc := iL_at) (q := 230) (c' := 0) (s' := 0) dL_ahead_227 rfl kS_L_at jw_429 ⟨by decide, by decide⟩ rfl (Nat.le_refl _) (Nat.le_refl _) (ct_L_at E hs1 (by decide)) ?_
    refine j_iadd (q := 231) dL_ahead_230 rfl ?_
    have ha3 := aT_b (iS x0 5) (n := 60) (by decide)
    refine j_istore20 (q := 233) dL_ahead_231 rfl rfl (by decide) ?_
    refine j_iconst (q := 234) dL_ahead_233 rfl ?_
    refine j_istore21 (q := 236) dL_ahead_234 rfl rfl (by decide) ?_
    refine j_iconst (q := 237) dL_ahead_236 rfl ?_
    refine j_istore22 (q := 239) dL_ahead_237 rfl rfl (by decide) ?_
    refine lp_ah_i V E hs0 hs1 (T := T) (B := B) (K := K) (P := P) (QP_2 (QP_3 Q)) hN hr ha1 ⟨by omega, by omega⟩ ⟨by omega, by omega⟩ (z 3).toNat 0 (-1) y0 (by omega) (by omega) (by omega) (by omega) hSY ?_
    intro r y2 hr2 hy2
    refine j_aload0 (q := 458) dL_ahead_457 rfl ?_
    refine j_iload18 (q := 460) dL_ahead_458 rfl ?_
    refine j_callS1 (Mc := iL_core) (q := 463) (c' := 0) (s' := 0) dL_ahead_460 rfl kS_L_core jw_438 ⟨by decide, by decide⟩ rfl (Nat.le_refl _) (Nat.le_refl _) (ct_L_core E hs1 ha1) ?_
    refine j_iload20 (q := 465) dL_ahead_463 rfl ?_
    refine j_iload19 (q := 467) dL_ahead_465 rfl ?_
    refine j_callV3 (Mc := iX7_cheapest) (q := 470) (c' := 0) (s' := 0) dL_ahead_467 rfl kV_X7_cheapest jw_703 ⟨by decide, by decide⟩ (V.2.2 _ _ sh_0) rfl rfl rfl (Nat.le_refl _) (Nat.le_refl _) (qc_cheapest V (QP_2 (QP_3 Q) y2) (cr_b ha1) ⟨by omega, by omega⟩ ⟨by omega, by omega⟩) ?_
    refine j_iload21 (q := 472) dL_ahead_470 rfl ?_
    refine j_icmp_ne (tgt := 479) (q := 475) dL_ahead_472 (by decide) rfl rfl rfl (fun h472 => ?_) (fun h472 => ?_)
    · exact absurd (by rw [hr2, zCh, wr_id' (x := z 3) (by omega) (by omega)]) h472
    · refine j_iconst (q := 476) dL_ahead_475 rfl ?_
      refine j_goto (tgt := 480) dL_ahead_476 (by decide) ?_
      refine j_fa (fun c hc => l2_lo hy2 hc) ?_
      exact j_zreturn dL_ahead_480 rfl (by decide) (rfl) (rfl)
  · exact absurd (by rw [hy0, zSvb, zSbE]) h192
theorem ct_L_ahead {G : GX} (E0 : jAp G 205) (hfl : (gL G).flags = flags0) {X P : Mem} {z : Z} {T B K x0 : Int} (hX0 : ∀ c, 205 ≤ c → X c = fun _ => 0) (Q : QP (lz X false z) P z T B K) (hN : NI z) (hr : RT z) (hT : T + 64 ≤ 20000) (h50 : ∀ j, X 50 j < 205) : ∃ A : Mem, CT G SHP iL_ahead 7 228 [.inr (.ref 0), .inl x0, .inr (.ref (ix false 0)), .inr (.ref (ix false 1)), .inr (.ref (ix false 2)), .inr (.ref (ix false 3)), .inr (.ref (ix false 4)), .inr (.ref (ix false 5)), .inr (.ref (ix false 7)), .inr (.ref (ix false 6))] (lz X false z) (some (.inl 1)) (lz (ps (ps X 25 A) 1 P) false z) :=
  ⟨_, cA_L_ahead E0 hfl hX0 Q hN hr hT h50 rfl⟩

/-! the law: runs, its loops -/
theorem LK_tkp {s : Z × (Int → Int)} {T B K : Int} (hT : T + 1 ≤ 20000) (h : LK s.1 T B K) : LK (zTk s.1 s.2, zOrd (zTk0 s.1) s.2).1 (T + 1) B K := by dsimp only; exact LK_tk s.2 hT h
theorem zTkN_S {d : Nat} {s : Z × (Int → Int)} : zTkN (d + 1) s = zTkN d (zTk s.1 s.2, zOrd (zTk0 s.1) s.2) := by rw [zTkN]
theorem tk_pk (s : Z × (Int → Int)) : ∃ q : Z × (Int → Int), zTk s.1 s.2 = q.1 ∧ ∀ d, zTkN d q = zTkN (d + 1) s := ⟨(zTk s.1 s.2, zOrd (zTk0 s.1) s.2), by dsimp only, fun d => zTkN_S.symm⟩
theorem sep_0 {n : Nat} (h : n = 0) : sep n = [] := by unfold sep; rw [if_pos h]
theorem sep_1 {n : Nat} (h : ¬ n = 0) : sep n = [59] := by unfold sep; rw [if_neg h]
/-- the steps that the law draws -/
def fR (x y : Int) : SP := fun n => (sgn (aT (iS x (2 * (n : Int)) + n) 6), aT (iS y (2 * (n : Int)) + 3 * n) 16, aT (iS y n) 2)
theorem HV_R (x y : Int) : HV (fR x y) := fun n => by
  have b2 := aT_b (iS y (2 * (n : Int)) + 3 * n) (n := 16) (by decide)
  have b3 := aT_b (iS y n) (n := 2) (by decide)
  refine ⟨?_, b2, ?_⟩
  · show sgn _ = 98 ∨ sgn _ = 116 ∨ sgn _ = 114 ∨ sgn _ = 119
    unfold sgn
    split
    · exact Or.inr (Or.inr (Or.inl rfl))
    · split
      · exact Or.inr (Or.inr (Or.inr rfl))
      · split
        · exact Or.inl rfl
        · exact Or.inr (Or.inl rfl)
  · show aT (iS y n) 2 = 0 ∨ aT (iS y n) 2 = 1
    omega
theorem TXT_0 {X : Mem} {l : List Int} (h : X 195 0 = 0) : TXT (tPs X l) l := by
  have w : TXT X [] := ⟨h, fun j c e => by cases e⟩
  have v := TXT_ps (m := X) l w
  rw [List.nil_append] at v
  exact v
theorem lp_runs_t {G : GX} {sh : List SH} {p : Bool} (V : EV G sh) (E : EW G sh) (hs : LA sh p) {F : FinT} {Y : Mem} {t x y dn i kd k bt B K : Int} (hkd : kd = 5) (hb : bt = 0 ∨ bt = 1) : ∀ (d : Nat) (n : Int) (s : Z × (Int → Int)) (T : Int), n + d = bt + 1 → 0 ≤ n → LK s.1 T B K → T + d ≤ 20000 → (∀ (x2 : Z × (Int → Int)), x2 = zTkN d s → J G sh iL_runs 0 0 F 337 [some (.inr (.ref 0)), some (.inl t), some (.inl x), some (.inl y), some (.inr (.ref (ix p 0))), some (.inr (.ref (ix p 1))), some (.inr (.ref (ix p 2))), some (.inr (.ref (ix p 3))), some (.inr (.ref (ix p 4))), some (.inr (.ref (ix p 5))), some (.inr (.ref (ix p 7))), some (.inr (.ref (ix p 6))), some (.inl dn), some (.inl 1), some (.inl i), none, none, none, none] [] (lz Y p x2.1) 0 0) → J G sh iL_runs 0 0 F 299 [some (.inr (.ref 0)), some (.inl t), some (.inl x), some (.inl y), some (.inr (.ref (ix p 0))), some (.inr (.ref (ix p 1))), some (.inr (.ref (ix p 2))), some (.inr (.ref (ix p 3))), some (.inr (.ref (ix p 4))), some (.inr (.ref (ix p 5))), some (.inr (.ref (ix p 7))), some (.inr (.ref (ix p 6))), some (.inl dn), some (.inl 1), some (.inl i), some (.inl kd), some (.inl k), some (.inl bt), some (.inl n)] [] (lz Y p s.1) 0 0 := by
  intro d
  induction d with
  | zero =>
    intro n s T g0 g1 g2 g3 kk
    refine j_iload18 (q := 301) dL_runs_299 rfl ?_
    refine j_iload17 (q := 303) dL_runs_301 rfl ?_
    refine j_icmp_gt (tgt := 337) (q := 306) dL_runs_303 (by decide) rfl (by first | exact wr_id' (by omega) (by omega) | with_reducible exact wr_bI _ | exact rfl) (by first | exact wr_id' (by omega) (by omega) | with_reducible exact wr_bI _ | exact rfl) (fun h303 => ?_) (fun h303 => ?_)
    · refine j_fgt15 ?_
      refine j_fgt16 ?_
      refine j_fgt17 ?_
      refine j_fgt18 ?_
      exact kk _ rfl
    · omega
  | succ d ih =>
    intro n s T g0 g1 g2 g3 kk
    refine j_iload18 (q := 301) dL_runs_299 rfl ?_
    refine j_iload17 (q := 303) dL_runs_301 rfl ?_
    refine j_icmp_gt (tgt := 337) (q := 306) dL_runs_303 (by decide) rfl (by first | exact wr_id' (by omega) (by omega) | with_reducible exact wr_bI _ | exact rfl) (by first | exact wr_id' (by omega) (by omega) | with_reducible exact wr_bI _ | exact rfl) (fun h303 => ?_) (fun h303 => ?_)
    · omega
    · refine j_iload15 (q := 308) dL_runs_306 rfl ?_
      refine j_iconst (q := 309) dL_runs_308 rfl ?_
      refine j_icmp_ne (tgt := 337) (q := 312) dL_runs_309 (by decide) rfl (by first | exact wr_id' (by omega) (by omega) | with_reducible exact wr_bI _ | exact rfl) (by first | exact wr_id' (by omega) (by omega) | with_reducible exact wr_bI _ | exact rfl) (fun h309 => ?_) (fun h309 => ?_)
      · omega
      · refine j_aload4 (q := 314) dL_runs_312 rfl ?_
        refine j_aload5 (q := 316) dL_runs_314 rfl ?_
        refine j_aload6 (q := 318) dL_runs_316 rfl ?_
        refine j_aload7 (q := 320) dL_runs_318 rfl ?_
        refine j_aload8 (q := 322) dL_runs_320 rfl ?_
        refine j_aload9 (q := 324) dL_runs_322 rfl ?_
        refine j_aload10 (q := 326) dL_runs_324 rfl ?_
        refine j_aload11 (q := 328) dL_runs_326 rfl ?_
        refine j_callS8v (Mc := iL_tick) (q := 331) (c' := 0) (s' := 0) dL_runs_328 rfl kS_L_tick jw_612 ⟨by decide, by decide⟩ rfl (Nat.le_refl _) (Nat.le_refl _) (ct_L_tick (o := s.2) E hs g2 (by omega)) ?_
        refine j_iinc18 (q := 334) dL_runs_331 rfl rfl (by decide) ?_
        refine j_goto (tgt := 299) dL_runs_334 (by decide) ?_
        obtain ⟨q, e1, e2⟩ := tk_pk s
        rw [e1]
        have g4 : LK q.1 (T + 1) B K := by rw [← e1]; exact LK_tk s.2 (by omega) g2
        exact ih _ q (T + 1) (by omega) (by omega) g4 (by omega) (fun x hx => kk x (hx.trans (e2 d)))
theorem lp_runs_A {G : GX} {sh : List SH} {p : Bool} (V : EV G sh) (E : EW G sh) (hs : LA sh p) {F : FinT} {Y : Mem} {s : Z × (Int → Int)} {t x y dn i kd k bt B K : Int} {gs : Bool} (hK : LK s.1 10000 B K) (h1 : 0 ≤ k ∧ k < 16) (hb : bt = 0 ∨ bt = 1) (ht : 0 ≤ t ∧ t < 6) (hkd : 0 ≤ kd ∧ kd < 2) (hY : 0 ≤ Y 195 0 ∧ Y 195 0 ≤ 55) (kk : ∀ (gs2 : Bool) (dn2 : Int) (s2 : Z × (Int → Int)), ((gs = true ∧ mayL kd k t s.1) ∧ gs2 = true ∧ dn2 = dn + 1 ∧ s2 = doL kd k bt s) ∨ (¬ (gs = true ∧ mayL kd k t s.1) ∧ gs2 = false ∧ dn2 = dn ∧ s2 = s) → J G sh iL_runs 0 0 F 337 [some (.inr (.ref 0)), some (.inl t), some (.inl x), some (.inl y), some (.inr (.ref (ix p 0))), some (.inr (.ref (ix p 1))), some (.inr (.ref (ix p 2))), some (.inr (.ref (ix p 3))), some (.inr (.ref (ix p 4))), some (.inr (.ref (ix p 5))), some (.inr (.ref (ix p 7))), some (.inr (.ref (ix p 6))), some (.inl dn2), some (.inl (bI gs2)), some (.inl i), none, none, none, none] [] (lz (tPs Y (lts (sgn kd) k bt)) p s2.1) 0 0) : J G sh iL_runs 0 0 F 80 [some (.inr (.ref 0)), some (.inl t), some (.inl x), some (.inl y), some (.inr (.ref (ix p 0))), some (.inr (.ref (ix p 1))), some (.inr (.ref (ix p 2))), some (.inr (.ref (ix p 3))), some (.inr (.ref (ix p 4))), some (.inr (.ref (ix p 5))), some (.inr (.ref (ix p 7))), some (.inr (.ref (ix p 6))), some (.inl dn), some (.inl (bI gs)), some (.inl i), some (.inl kd), some (.inl k), some (.inl bt), none] [] (lz Y p s.1) 0 0 := by
  have hc := cr_b h1
  have hX := hK.x
  have hI := hK.i
  have hD := IZ_DB hI
  have hg := lOw_g hX hI (q := 0) (by decide)
  have hl := lOw_b s.1 0
  have a1 := hI.ht
  have a4 := hI.sg _ hc.1 hc.2
  have st1 := hI.st 1 (by decide) (by decide)
  have st2 := hI.st 2 (by decide) (by decide)
  have du := hI.du _ hc.1 hc.2
  have hT := hI.tT
  have hw := (hX.2.2 _ hc.1 hc.2).2.2.1
  have e195 : lz Y p s.1 195 0 = Y 195 0 := by rw [lz_lo (by decide)]
  have esg : sgn kd = 114 := by unfold sgn; rw [if_pos (by omega)]
  refine j_aload0 (q := 81) dL_runs_80 rfl ?_
  refine j_iload16 (q := 83) dL_runs_81 rfl ?_
  refine j_iload15 (q := 85) dL_runs_83 rfl ?_
  refine j_iconst (q := 86) dL_runs_85 rfl ?_
  refine j_icmp_ge (tgt := 94) (q := 89) dL_runs_86 (by decide) rfl (by first | exact wr_id' (by omega) (by omega) | with_reducible exact wr_bI _ | exact rfl) (by first | exact wr_id' (by omega) (by omega) | with_reducible exact wr_bI _ | exact rfl) (fun h86 => ?_) (fun h86 => ?_)
  · omega
  · refine j_bipush (q := 91) dL_runs_89 rfl rfl ?_
    refine j_goto (tgt := 118) dL_runs_91 (by decide) ?_
    refine j_iload17 (q := 120) dL_runs_118 rfl ?_
    refine j_callS4 (Mc := iL_letters) (q := 123) (c' := 0) (s' := 0) dL_runs_120 rfl kS_L_letters jw_832 ⟨by decide, by decide⟩ rfl (Nat.le_refl _) (Nat.le_refl _) (ct_L_letters V E hs h1 (by decide) hb (by omega)) ?_
    refine j_mem (m' := lz (tPs Y (lts (sgn kd) k bt)) p s.1) (by rw [lz_puts, esg]) ?_
    refine j_ifne_b (tgt := 128) (q := 126) dL_runs_123 (by decide) rfl (fun h123 => ?_) (fun h123 => ?_)
    · refine j_iload13 (q := 130) dL_runs_128 rfl ?_
      refine j_ifeq_b (tgt := 192) (q := 133) dL_runs_130 (by decide) rfl (fun h130 => ?_) (fun h130 => ?_)
      · refine j_iconst (q := 193) dL_runs_192 rfl ?_
        refine j_istore13 (q := 195) dL_runs_193 rfl rfl (by decide) ?_
        refine j_iload13 (q := 197) dL_runs_195 rfl ?_
        refine j_if_ne (tgt := 203) (q := 200) dL_runs_197 (by decide) rfl (by first | exact wr_id' (by omega) (by omega) | with_reducible exact wr_bI _ | exact rfl) (fun h197 => ?_) (fun h197 => ?_)
        · omega
        · refine j_goto (tgt := 337) dL_runs_200 (by decide) ?_
          refine j_fgt15 ?_
          refine j_fgt16 ?_
          refine j_fgt17 ?_
          exact kk false dn s (Or.inr ⟨fun q => by first | (rw [h130] at q; exact absurd q.1 (by decide)) | (have q2 := q.2; unfold mayL at q2; omega), rfl, rfl, rfl⟩)
      · refine j_iload15 (q := 135) dL_runs_133 rfl ?_
        refine j_iconst (q := 136) dL_runs_135 rfl ?_
        refine j_icmp_eq (tgt := 188) (q := 139) dL_runs_136 (by decide) rfl (by first | exact wr_id' (by omega) (by omega) | with_reducible exact wr_bI _ | exact rfl) (by first | exact wr_id' (by omega) (by omega) | with_reducible exact wr_bI _ | exact rfl) (fun h136 => ?_) (fun h136 => ?_)
        · omega
        · refine j_iload15 (q := 141) dL_runs_139 rfl ?_
          refine j_iconst (q := 142) dL_runs_141 rfl ?_
          refine j_icmp_ne (tgt := 157) (q := 145) dL_runs_142 (by decide) rfl (by first | exact wr_id' (by omega) (by omega) | with_reducible exact wr_bI _ | exact rfl) (by first | exact wr_id' (by omega) (by omega) | with_reducible exact wr_bI _ | exact rfl) (fun h142 => ?_) (fun h142 => ?_)
          · refine j_aload4 (q := 159) dL_runs_157 rfl ?_
            refine j_iconst (q := 160) dL_runs_159 rfl ?_
            refine j_iload16 (q := 162) dL_runs_160 rfl ?_
            refine j_imul (q := 163) dL_runs_162 rfl ?_
            refine j_iconst (q := 164) dL_runs_163 rfl ?_
            refine j_iadd (q := 165) dL_runs_164 rfl ?_
            refine j_l0_2 (q := 166) dL_runs_165 rfl hs (by omega) ?_
            refine j_iload1 (q := 167) dL_runs_166 rfl ?_
            refine j_icmp_ne (tgt := 192) (q := 170) dL_runs_167 (by decide) rfl (by first | exact wr_id' (by omega) (by omega) | with_reducible exact wr_bI _ | exact rfl) (by first | exact wr_id' (by omega) (by omega) | with_reducible exact wr_bI _ | exact rfl) (fun h167 => ?_) (fun h167 => ?_)
            · refine j_iconst (q := 193) dL_runs_192 rfl ?_
              refine j_istore13 (q := 195) dL_runs_193 rfl rfl (by decide) ?_
              refine j_iload13 (q := 197) dL_runs_195 rfl ?_
              refine j_if_ne (tgt := 203) (q := 200) dL_runs_197 (by decide) rfl (by first | exact wr_id' (by omega) (by omega) | with_reducible exact wr_bI _ | exact rfl) (fun h197 => ?_) (fun h197 => ?_)
              · omega
              · refine j_goto (tgt := 337) dL_runs_200 (by decide) ?_
                refine j_fgt15 ?_
                refine j_fgt16 ?_
                refine j_fgt17 ?_
                exact kk false dn s (Or.inr ⟨fun q => by first | (rw [h130] at q; exact absurd q.1 (by decide)) | (have q2 := q.2; unfold mayL at q2; omega), rfl, rfl, rfl⟩)
            · refine j_iload15 (q := 172) dL_runs_170 rfl ?_
              refine j_iconst (q := 173) dL_runs_172 rfl ?_
              refine j_icmp_gt (tgt := 188) (q := 176) dL_runs_173 (by decide) rfl (by first | exact wr_id' (by omega) (by omega) | with_reducible exact wr_bI _ | exact rfl) (by first | exact wr_id' (by omega) (by omega) | with_reducible exact wr_bI _ | exact rfl) (fun h173 => ?_) (fun h173 => ?_)
              · omega
              · refine j_aload5 (q := 178) dL_runs_176 rfl ?_
                refine j_iconst (q := 179) dL_runs_178 rfl ?_
                refine j_iload16 (q := 181) dL_runs_179 rfl ?_
                refine j_imul (q := 182) dL_runs_181 rfl ?_
                refine j_iconst (q := 183) dL_runs_182 rfl ?_
                refine j_iadd (q := 184) dL_runs_183 rfl ?_
                refine j_l1_2 (q := 185) dL_runs_184 rfl hs (by omega) ?_
                refine j_if_ge (tgt := 192) (q := 188) dL_runs_185 (by decide) rfl (by first | exact wr_id' (by omega) (by omega) | with_reducible exact wr_bI _ | exact rfl) (fun h185 => ?_) (fun h185 => ?_)
                · refine j_iconst (q := 193) dL_runs_192 rfl ?_
                  refine j_istore13 (q := 195) dL_runs_193 rfl rfl (by decide) ?_
                  refine j_iload13 (q := 197) dL_runs_195 rfl ?_
                  refine j_if_ne (tgt := 203) (q := 200) dL_runs_197 (by decide) rfl (by first | exact wr_id' (by omega) (by omega) | with_reducible exact wr_bI _ | exact rfl) (fun h197 => ?_) (fun h197 => ?_)
                  · omega
                  · refine j_goto (tgt := 337) dL_runs_200 (by decide) ?_
                    refine j_fgt15 ?_
                    refine j_fgt16 ?_
                    refine j_fgt17 ?_
                    exact kk false dn s (Or.inr ⟨fun q => by first | (rw [h130] at q; exact absurd q.1 (by decide)) | (have q2 := q.2; unfold mayL at q2; omega), rfl, rfl, rfl⟩)
                · refine j_iconst (q := 189) dL_runs_188 rfl ?_
                  refine j_goto (tgt := 193) dL_runs_189 (by decide) ?_
                  refine j_istore13 (q := 195) dL_runs_193 rfl rfl (by decide) ?_
                  refine j_iload13 (q := 197) dL_runs_195 rfl ?_
                  refine j_if_ne (tgt := 203) (q := 200) dL_runs_197 (by decide) rfl (by first | exact wr_id' (by omega) (by omega) | with_reducible exact wr_bI _ | exact rfl) (fun h197 => ?_) (fun h197 => ?_)
                  · refine j_iinc12 (q := 206) dL_runs_203 rfl rfl (by decide) ?_
                    refine j_iload15 (q := 208) dL_runs_206 rfl ?_
                    refine j_iconst (q := 209) dL_runs_208 rfl ?_
                    refine j_icmp_ge (tgt := 234) (q := 212) dL_runs_209 (by decide) rfl (by first | exact wr_id' (by omega) (by omega) | with_reducible exact wr_bI _ | exact rfl) (by first | exact wr_id' (by omega) (by omega) | with_reducible exact wr_bI _ | exact rfl) (fun h209 => ?_) (fun h209 => ?_)
                    · omega
                    · refine j_iload16 (q := 214) dL_runs_212 rfl ?_
                      refine j_aload4 (q := 216) dL_runs_214 rfl ?_
                      refine j_aload5 (q := 218) dL_runs_216 rfl ?_
                      refine j_aload6 (q := 220) dL_runs_218 rfl ?_
                      refine j_aload7 (q := 222) dL_runs_220 rfl ?_
                      refine j_aload8 (q := 224) dL_runs_222 rfl ?_
                      refine j_aload9 (q := 226) dL_runs_224 rfl ?_
                      refine j_aload10 (q := 228) dL_runs_226 rfl ?_
                      refine j_aload11 (q := 230) dL_runs_228 rfl ?_
                      refine j_callS9 (Mc := iL_read) (q := 233) (c' := 0) (s' := 0) dL_runs_230 rfl kS_L_read jw_801 ⟨by decide, by decide⟩ rfl (Nat.le_refl _) (Nat.le_refl _) (ct_L_read E hs h1 hX (by omega) (by omega) (by omega)) ?_
                      refine j_pop (q := 234) dL_runs_233 rfl rfl ?_
                      refine j_iload15 (q := 236) dL_runs_234 rfl ?_
                      refine j_iconst (q := 237) dL_runs_236 rfl ?_
                      refine j_icmp_eq (tgt := 246) (q := 240) dL_runs_237 (by decide) rfl (by first | exact wr_id' (by omega) (by omega) | with_reducible exact wr_bI _ | exact rfl) (by first | exact wr_id' (by omega) (by omega) | with_reducible exact wr_bI _ | exact rfl) (fun h237 => ?_) (fun h237 => ?_)
                      · omega
                      · refine j_iload15 (q := 242) dL_runs_240 rfl ?_
                        refine j_iconst (q := 243) dL_runs_242 rfl ?_
                        refine j_icmp_ne (tgt := 270) (q := 246) dL_runs_243 (by decide) rfl (by first | exact wr_id' (by omega) (by omega) | with_reducible exact wr_bI _ | exact rfl) (by first | exact wr_id' (by omega) (by omega) | with_reducible exact wr_bI _ | exact rfl) (fun h243 => ?_) (fun h243 => ?_)
                        · refine j_iload15 (q := 272) dL_runs_270 rfl ?_
                          refine j_iconst (q := 273) dL_runs_272 rfl ?_
                          refine j_icmp_ne (tgt := 296) (q := 276) dL_runs_273 (by decide) rfl (by first | exact wr_id' (by omega) (by omega) | with_reducible exact wr_bI _ | exact rfl) (by first | exact wr_id' (by omega) (by omega) | with_reducible exact wr_bI _ | exact rfl) (fun h273 => ?_) (fun h273 => ?_)
                          · refine j_iconst (q := 297) dL_runs_296 rfl ?_
                            refine j_istore18 (q := 299) dL_runs_297 rfl rfl (by decide) ?_
                            refine j_iload18 (q := 301) dL_runs_299 rfl ?_
                            refine j_iload17 (q := 303) dL_runs_301 rfl ?_
                            refine j_icmp_gt (tgt := 337) (q := 306) dL_runs_303 (by decide) rfl (by first | exact wr_id' (by omega) (by omega) | with_reducible exact wr_bI _ | exact rfl) (by first | exact wr_id' (by omega) (by omega) | with_reducible exact wr_bI _ | exact rfl) (fun h303 => ?_) (fun h303 => ?_)
                            · omega
                            · refine j_iload15 (q := 308) dL_runs_306 rfl ?_
                              refine j_iconst (q := 309) dL_runs_308 rfl ?_
                              refine j_icmp_ne (tgt := 337) (q := 312) dL_runs_309 (by decide) rfl (by first | exact wr_id' (by omega) (by omega) | with_reducible exact wr_bI _ | exact rfl) (by first | exact wr_id' (by omega) (by omega) | with_reducible exact wr_bI _ | exact rfl) (fun h309 => ?_) (fun h309 => ?_)
                              · refine j_fgt15 ?_
                                refine j_fgt16 ?_
                                refine j_fgt17 ?_
                                refine j_fgt18 ?_
                                exact kk true (dn + 1) (zRd s.1 (cr k), s.2) (Or.inl ⟨⟨h130, by unfold mayL; omega⟩, rfl, rfl, (doL_r (by omega)).symm⟩)
                              · omega
                          · omega
                        · omega
                  · omega
          · omega
    · cases h123
theorem lp_runs_B {G : GX} {sh : List SH} {p : Bool} (V : EV G sh) (E : EW G sh) (hs : LA sh p) {F : FinT} {Y : Mem} {s : Z × (Int → Int)} {t x y dn i kd k bt B K : Int} {gs : Bool} (hK : LK s.1 10000 B K) (h1 : 0 ≤ k ∧ k < 16) (hb : bt = 0 ∨ bt = 1) (ht : 0 ≤ t ∧ t < 6) (hkd : 2 ≤ kd ∧ kd < 4) (hY : 0 ≤ Y 195 0 ∧ Y 195 0 ≤ 55) (kk : ∀ (gs2 : Bool) (dn2 : Int) (s2 : Z × (Int → Int)), ((gs = true ∧ mayL kd k t s.1) ∧ gs2 = true ∧ dn2 = dn + 1 ∧ s2 = doL kd k bt s) ∨ (¬ (gs = true ∧ mayL kd k t s.1) ∧ gs2 = false ∧ dn2 = dn ∧ s2 = s) → J G sh iL_runs 0 0 F 337 [some (.inr (.ref 0)), some (.inl t), some (.inl x), some (.inl y), some (.inr (.ref (ix p 0))), some (.inr (.ref (ix p 1))), some (.inr (.ref (ix p 2))), some (.inr (.ref (ix p 3))), some (.inr (.ref (ix p 4))), some (.inr (.ref (ix p 5))), some (.inr (.ref (ix p 7))), some (.inr (.ref (ix p 6))), some (.inl dn2), some (.inl (bI gs2)), some (.inl i), none, none, none, none] [] (lz (tPs Y (lts (sgn kd) k bt)) p s2.1) 0 0) : J G sh iL_runs 0 0 F 80 [some (.inr (.ref 0)), some (.inl t), some (.inl x), some (.inl y), some (.inr (.ref (ix p 0))), some (.inr (.ref (ix p 1))), some (.inr (.ref (ix p 2))), some (.inr (.ref (ix p 3))), some (.inr (.ref (ix p 4))), some (.inr (.ref (ix p 5))), some (.inr (.ref (ix p 7))), some (.inr (.ref (ix p 6))), some (.inl dn), some (.inl (bI gs)), some (.inl i), some (.inl kd), some (.inl k), some (.inl bt), none] [] (lz Y p s.1) 0 0 := by
  have hc := cr_b h1
  have hX := hK.x
  have hI := hK.i
  have hD := IZ_DB hI
  have hg := lOw_g hX hI (q := 0) (by decide)
  have hl := lOw_b s.1 0
  have a1 := hI.ht
  have a4 := hI.sg _ hc.1 hc.2
  have st1 := hI.st 1 (by decide) (by decide)
  have st2 := hI.st 2 (by decide) (by decide)
  have du := hI.du _ hc.1 hc.2
  have hT := hI.tT
  have hw := (hX.2.2 _ hc.1 hc.2).2.2.1
  have e195 : lz Y p s.1 195 0 = Y 195 0 := by rw [lz_lo (by decide)]
  have esg : sgn kd = 119 := by unfold sgn; rw [if_neg (by omega), if_pos (by omega)]
  refine j_aload0 (q := 81) dL_runs_80 rfl ?_
  refine j_iload16 (q := 83) dL_runs_81 rfl ?_
  refine j_iload15 (q := 85) dL_runs_83 rfl ?_
  refine j_iconst (q := 86) dL_runs_85 rfl ?_
  refine j_icmp_ge (tgt := 94) (q := 89) dL_runs_86 (by decide) rfl (by first | exact wr_id' (by omega) (by omega) | with_reducible exact wr_bI _ | exact rfl) (by first | exact wr_id' (by omega) (by omega) | with_reducible exact wr_bI _ | exact rfl) (fun h86 => ?_) (fun h86 => ?_)
  · refine j_iload15 (q := 96) dL_runs_94 rfl ?_
    refine j_iconst (q := 97) dL_runs_96 rfl ?_
    refine j_icmp_ge (tgt := 105) (q := 100) dL_runs_97 (by decide) rfl (by first | exact wr_id' (by omega) (by omega) | with_reducible exact wr_bI _ | exact rfl) (by first | exact wr_id' (by omega) (by omega) | with_reducible exact wr_bI _ | exact rfl) (fun h97 => ?_) (fun h97 => ?_)
    · omega
    · refine j_bipush (q := 102) dL_runs_100 rfl rfl ?_
      refine j_goto (tgt := 118) dL_runs_102 (by decide) ?_
      refine j_iload17 (q := 120) dL_runs_118 rfl ?_
      refine j_callS4 (Mc := iL_letters) (q := 123) (c' := 0) (s' := 0) dL_runs_120 rfl kS_L_letters jw_832 ⟨by decide, by decide⟩ rfl (Nat.le_refl _) (Nat.le_refl _) (ct_L_letters V E hs h1 (by decide) hb (by omega)) ?_
      refine j_mem (m' := lz (tPs Y (lts (sgn kd) k bt)) p s.1) (by rw [lz_puts, esg]) ?_
      refine j_ifne_b (tgt := 128) (q := 126) dL_runs_123 (by decide) rfl (fun h123 => ?_) (fun h123 => ?_)
      · refine j_iload13 (q := 130) dL_runs_128 rfl ?_
        refine j_ifeq_b (tgt := 192) (q := 133) dL_runs_130 (by decide) rfl (fun h130 => ?_) (fun h130 => ?_)
        · refine j_iconst (q := 193) dL_runs_192 rfl ?_
          refine j_istore13 (q := 195) dL_runs_193 rfl rfl (by decide) ?_
          refine j_iload13 (q := 197) dL_runs_195 rfl ?_
          refine j_if_ne (tgt := 203) (q := 200) dL_runs_197 (by decide) rfl (by first | exact wr_id' (by omega) (by omega) | with_reducible exact wr_bI _ | exact rfl) (fun h197 => ?_) (fun h197 => ?_)
          · omega
          · refine j_goto (tgt := 337) dL_runs_200 (by decide) ?_
            refine j_fgt15 ?_
            refine j_fgt16 ?_
            refine j_fgt17 ?_
            exact kk false dn s (Or.inr ⟨fun q => by first | (rw [h130] at q; exact absurd q.1 (by decide)) | (have q2 := q.2; unfold mayL at q2; omega), rfl, rfl, rfl⟩)
        · refine j_iload15 (q := 135) dL_runs_133 rfl ?_
          refine j_iconst (q := 136) dL_runs_135 rfl ?_
          refine j_icmp_eq (tgt := 188) (q := 139) dL_runs_136 (by decide) rfl (by first | exact wr_id' (by omega) (by omega) | with_reducible exact wr_bI _ | exact rfl) (by first | exact wr_id' (by omega) (by omega) | with_reducible exact wr_bI _ | exact rfl) (fun h136 => ?_) (fun h136 => ?_)
          · omega
          · refine j_iload15 (q := 141) dL_runs_139 rfl ?_
            refine j_iconst (q := 142) dL_runs_141 rfl ?_
            refine j_icmp_ne (tgt := 157) (q := 145) dL_runs_142 (by decide) rfl (by first | exact wr_id' (by omega) (by omega) | with_reducible exact wr_bI _ | exact rfl) (by first | exact wr_id' (by omega) (by omega) | with_reducible exact wr_bI _ | exact rfl) (fun h142 => ?_) (fun h142 => ?_)
            · refine j_aload4 (q := 159) dL_runs_157 rfl ?_
              refine j_iconst (q := 160) dL_runs_159 rfl ?_
              refine j_iload16 (q := 162) dL_runs_160 rfl ?_
              refine j_imul (q := 163) dL_runs_162 rfl ?_
              refine j_iconst (q := 164) dL_runs_163 rfl ?_
              refine j_iadd (q := 165) dL_runs_164 rfl ?_
              refine j_l0_2 (q := 166) dL_runs_165 rfl hs (by omega) ?_
              refine j_iload1 (q := 167) dL_runs_166 rfl ?_
              refine j_icmp_ne (tgt := 192) (q := 170) dL_runs_167 (by decide) rfl (by first | exact wr_id' (by omega) (by omega) | with_reducible exact wr_bI _ | exact rfl) (by first | exact wr_id' (by omega) (by omega) | with_reducible exact wr_bI _ | exact rfl) (fun h167 => ?_) (fun h167 => ?_)
              · refine j_iconst (q := 193) dL_runs_192 rfl ?_
                refine j_istore13 (q := 195) dL_runs_193 rfl rfl (by decide) ?_
                refine j_iload13 (q := 197) dL_runs_195 rfl ?_
                refine j_if_ne (tgt := 203) (q := 200) dL_runs_197 (by decide) rfl (by first | exact wr_id' (by omega) (by omega) | with_reducible exact wr_bI _ | exact rfl) (fun h197 => ?_) (fun h197 => ?_)
                · omega
                · refine j_goto (tgt := 337) dL_runs_200 (by decide) ?_
                  refine j_fgt15 ?_
                  refine j_fgt16 ?_
                  refine j_fgt17 ?_
                  exact kk false dn s (Or.inr ⟨fun q => by first | (rw [h130] at q; exact absurd q.1 (by decide)) | (have q2 := q.2; unfold mayL at q2; omega), rfl, rfl, rfl⟩)
              · refine j_iload15 (q := 172) dL_runs_170 rfl ?_
                refine j_iconst (q := 173) dL_runs_172 rfl ?_
                refine j_icmp_gt (tgt := 188) (q := 176) dL_runs_173 (by decide) rfl (by first | exact wr_id' (by omega) (by omega) | with_reducible exact wr_bI _ | exact rfl) (by first | exact wr_id' (by omega) (by omega) | with_reducible exact wr_bI _ | exact rfl) (fun h173 => ?_) (fun h173 => ?_)
                · refine j_iconst (q := 189) dL_runs_188 rfl ?_
                  refine j_goto (tgt := 193) dL_runs_189 (by decide) ?_
                  refine j_istore13 (q := 195) dL_runs_193 rfl rfl (by decide) ?_
                  refine j_iload13 (q := 197) dL_runs_195 rfl ?_
                  refine j_if_ne (tgt := 203) (q := 200) dL_runs_197 (by decide) rfl (by first | exact wr_id' (by omega) (by omega) | with_reducible exact wr_bI _ | exact rfl) (fun h197 => ?_) (fun h197 => ?_)
                  · refine j_iinc12 (q := 206) dL_runs_203 rfl rfl (by decide) ?_
                    refine j_iload15 (q := 208) dL_runs_206 rfl ?_
                    refine j_iconst (q := 209) dL_runs_208 rfl ?_
                    refine j_icmp_ge (tgt := 234) (q := 212) dL_runs_209 (by decide) rfl (by first | exact wr_id' (by omega) (by omega) | with_reducible exact wr_bI _ | exact rfl) (by first | exact wr_id' (by omega) (by omega) | with_reducible exact wr_bI _ | exact rfl) (fun h209 => ?_) (fun h209 => ?_)
                    · refine j_iload15 (q := 236) dL_runs_234 rfl ?_
                      refine j_iconst (q := 237) dL_runs_236 rfl ?_
                      refine j_icmp_eq (tgt := 246) (q := 240) dL_runs_237 (by decide) rfl (by first | exact wr_id' (by omega) (by omega) | with_reducible exact wr_bI _ | exact rfl) (by first | exact wr_id' (by omega) (by omega) | with_reducible exact wr_bI _ | exact rfl) (fun h237 => ?_) (fun h237 => ?_)
                      · refine j_iload16 (q := 248) dL_runs_246 rfl ?_
                        refine j_iload17 (q := 250) dL_runs_248 rfl ?_
                        refine j_aload4 (q := 252) dL_runs_250 rfl ?_
                        refine j_aload5 (q := 254) dL_runs_252 rfl ?_
                        refine j_aload6 (q := 256) dL_runs_254 rfl ?_
                        refine j_aload7 (q := 258) dL_runs_256 rfl ?_
                        refine j_aload8 (q := 260) dL_runs_258 rfl ?_
                        refine j_aload9 (q := 262) dL_runs_260 rfl ?_
                        refine j_aload10 (q := 264) dL_runs_262 rfl ?_
                        refine j_aload11 (q := 266) dL_runs_264 rfl ?_
                        refine j_callS10 (Mc := iL_write) (q := 269) (c' := 0) (s' := 0) dL_runs_266 rfl kS_L_write jw_784 ⟨by decide, by decide⟩ rfl (Nat.le_refl _) (Nat.le_refl _) (ct_L_write E hs h1 hX hb (by omega) (by omega) (by omega) (by omega)) ?_
                        refine j_pop (q := 270) dL_runs_269 rfl rfl ?_
                        refine j_iload15 (q := 272) dL_runs_270 rfl ?_
                        refine j_iconst (q := 273) dL_runs_272 rfl ?_
                        refine j_icmp_ne (tgt := 296) (q := 276) dL_runs_273 (by decide) rfl (by first | exact wr_id' (by omega) (by omega) | with_reducible exact wr_bI _ | exact rfl) (by first | exact wr_id' (by omega) (by omega) | with_reducible exact wr_bI _ | exact rfl) (fun h273 => ?_) (fun h273 => ?_)
                        · refine j_iconst (q := 297) dL_runs_296 rfl ?_
                          refine j_istore18 (q := 299) dL_runs_297 rfl rfl (by decide) ?_
                          refine j_iload18 (q := 301) dL_runs_299 rfl ?_
                          refine j_iload17 (q := 303) dL_runs_301 rfl ?_
                          refine j_icmp_gt (tgt := 337) (q := 306) dL_runs_303 (by decide) rfl (by first | exact wr_id' (by omega) (by omega) | with_reducible exact wr_bI _ | exact rfl) (by first | exact wr_id' (by omega) (by omega) | with_reducible exact wr_bI _ | exact rfl) (fun h303 => ?_) (fun h303 => ?_)
                          · omega
                          · refine j_iload15 (q := 308) dL_runs_306 rfl ?_
                            refine j_iconst (q := 309) dL_runs_308 rfl ?_
                            refine j_icmp_ne (tgt := 337) (q := 312) dL_runs_309 (by decide) rfl (by first | exact wr_id' (by omega) (by omega) | with_reducible exact wr_bI _ | exact rfl) (by first | exact wr_id' (by omega) (by omega) | with_reducible exact wr_bI _ | exact rfl) (fun h309 => ?_) (fun h309 => ?_)
                            · refine j_fgt15 ?_
                              refine j_fgt16 ?_
                              refine j_fgt17 ?_
                              refine j_fgt18 ?_
                              exact kk true (dn + 1) (zWr s.1 (cr k) bt, s.2) (Or.inl ⟨⟨h130, by unfold mayL; omega⟩, rfl, rfl, (doL_w (by omega)).symm⟩)
                            · omega
                        · omega
                      · refine j_iload15 (q := 242) dL_runs_240 rfl ?_
                        refine j_iconst (q := 243) dL_runs_242 rfl ?_
                        refine j_icmp_ne (tgt := 270) (q := 246) dL_runs_243 (by decide) rfl (by first | exact wr_id' (by omega) (by omega) | with_reducible exact wr_bI _ | exact rfl) (by first | exact wr_id' (by omega) (by omega) | with_reducible exact wr_bI _ | exact rfl) (fun h243 => ?_) (fun h243 => ?_)
                        · omega
                        · refine j_iload16 (q := 248) dL_runs_246 rfl ?_
                          refine j_iload17 (q := 250) dL_runs_248 rfl ?_
                          refine j_aload4 (q := 252) dL_runs_250 rfl ?_
                          refine j_aload5 (q := 254) dL_runs_252 rfl ?_
                          refine j_aload6 (q := 256) dL_runs_254 rfl ?_
                          refine j_aload7 (q := 258) dL_runs_256 rfl ?_
                          refine j_aload8 (q := 260) dL_runs_258 rfl ?_
                          refine j_aload9 (q := 262) dL_runs_260 rfl ?_
                          refine j_aload10 (q := 264) dL_runs_262 rfl ?_
                          refine j_aload11 (q := 266) dL_runs_264 rfl ?_
                          refine j_callS10 (Mc := iL_write) (q := 269) (c' := 0) (s' := 0) dL_runs_266 rfl kS_L_write jw_784 ⟨by decide, by decide⟩ rfl (Nat.le_refl _) (Nat.le_refl _) (ct_L_write E hs h1 hX hb (by omega) (by omega) (by omega) (by omega)) ?_
                          refine j_pop (q := 270) dL_runs_269 rfl rfl ?_
                          refine j_iload15 (q := 272) dL_runs_270 rfl ?_
                          refine j_iconst (q := 273) dL_runs_272 rfl ?_
                          refine j_icmp_ne (tgt := 296) (q := 276) dL_runs_273 (by decide) rfl (by first | exact wr_id' (by omega) (by omega) | with_reducible exact wr_bI _ | exact rfl) (by first | exact wr_id' (by omega) (by omega) | with_reducible exact wr_bI _ | exact rfl) (fun h273 => ?_) (fun h273 => ?_)
                          · refine j_iconst (q := 297) dL_runs_296 rfl ?_
                            refine j_istore18 (q := 299) dL_runs_297 rfl rfl (by decide) ?_
                            refine j_iload18 (q := 301) dL_runs_299 rfl ?_
                            refine j_iload17 (q := 303) dL_runs_301 rfl ?_
                            refine j_icmp_gt (tgt := 337) (q := 306) dL_runs_303 (by decide) rfl (by first | exact wr_id' (by omega) (by omega) | with_reducible exact wr_bI _ | exact rfl) (by first | exact wr_id' (by omega) (by omega) | with_reducible exact wr_bI _ | exact rfl) (fun h303 => ?_) (fun h303 => ?_)
                            · omega
                            · refine j_iload15 (q := 308) dL_runs_306 rfl ?_
                              refine j_iconst (q := 309) dL_runs_308 rfl ?_
                              refine j_icmp_ne (tgt := 337) (q := 312) dL_runs_309 (by decide) rfl (by first | exact wr_id' (by omega) (by omega) | with_reducible exact wr_bI _ | exact rfl) (by first | exact wr_id' (by omega) (by omega) | with_reducible exact wr_bI _ | exact rfl) (fun h309 => ?_) (fun h309 => ?_)
                              · refine j_fgt15 ?_
                                refine j_fgt16 ?_
                                refine j_fgt17 ?_
                                refine j_fgt18 ?_
                                exact kk true (dn + 1) (zWr s.1 (cr k) bt, s.2) (Or.inl ⟨⟨h130, by unfold mayL; omega⟩, rfl, rfl, (doL_w (by omega)).symm⟩)
                              · omega
                          · omega
                    · omega
                  · omega
                · omega
            · omega
      · cases h123
  · omega
theorem lp_runs_C {G : GX} {sh : List SH} {p : Bool} (V : EV G sh) (E : EW G sh) (hs : LA sh p) {F : FinT} {Y : Mem} {s : Z × (Int → Int)} {t x y dn i kd k bt B K : Int} {gs : Bool} (hK : LK s.1 10000 B K) (h1 : 0 ≤ k ∧ k < 16) (hb : bt = 0 ∨ bt = 1) (ht : 0 ≤ t ∧ t < 6) (hkd : kd = 4) (hY : 0 ≤ Y 195 0 ∧ Y 195 0 ≤ 55) (kk : ∀ (gs2 : Bool) (dn2 : Int) (s2 : Z × (Int → Int)), ((gs = true ∧ mayL kd k t s.1) ∧ gs2 = true ∧ dn2 = dn + 1 ∧ s2 = doL kd k bt s) ∨ (¬ (gs = true ∧ mayL kd k t s.1) ∧ gs2 = false ∧ dn2 = dn ∧ s2 = s) → J G sh iL_runs 0 0 F 337 [some (.inr (.ref 0)), some (.inl t), some (.inl x), some (.inl y), some (.inr (.ref (ix p 0))), some (.inr (.ref (ix p 1))), some (.inr (.ref (ix p 2))), some (.inr (.ref (ix p 3))), some (.inr (.ref (ix p 4))), some (.inr (.ref (ix p 5))), some (.inr (.ref (ix p 7))), some (.inr (.ref (ix p 6))), some (.inl dn2), some (.inl (bI gs2)), some (.inl i), none, none, none, none] [] (lz (tPs Y (lts (sgn kd) k bt)) p s2.1) 0 0) : J G sh iL_runs 0 0 F 80 [some (.inr (.ref 0)), some (.inl t), some (.inl x), some (.inl y), some (.inr (.ref (ix p 0))), some (.inr (.ref (ix p 1))), some (.inr (.ref (ix p 2))), some (.inr (.ref (ix p 3))), some (.inr (.ref (ix p 4))), some (.inr (.ref (ix p 5))), some (.inr (.ref (ix p 7))), some (.inr (.ref (ix p 6))), some (.inl dn), some (.inl (bI gs)), some (.inl i), some (.inl kd), some (.inl k), some (.inl bt), none] [] (lz Y p s.1) 0 0 := by
  have hc := cr_b h1
  have hX := hK.x
  have hI := hK.i
  have hD := IZ_DB hI
  have hg := lOw_g hX hI (q := 0) (by decide)
  have hl := lOw_b s.1 0
  have a1 := hI.ht
  have a4 := hI.sg _ hc.1 hc.2
  have st1 := hI.st 1 (by decide) (by decide)
  have st2 := hI.st 2 (by decide) (by decide)
  have du := hI.du _ hc.1 hc.2
  have hT := hI.tT
  have hw := (hX.2.2 _ hc.1 hc.2).2.2.1
  have e195 : lz Y p s.1 195 0 = Y 195 0 := by rw [lz_lo (by decide)]
  have esg : sgn kd = 98 := by unfold sgn; rw [if_neg (by omega), if_neg (by omega), if_pos (by omega)]
  refine j_aload0 (q := 81) dL_runs_80 rfl ?_
  refine j_iload16 (q := 83) dL_runs_81 rfl ?_
  refine j_iload15 (q := 85) dL_runs_83 rfl ?_
  refine j_iconst (q := 86) dL_runs_85 rfl ?_
  refine j_icmp_ge (tgt := 94) (q := 89) dL_runs_86 (by decide) rfl (by first | exact wr_id' (by omega) (by omega) | with_reducible exact wr_bI _ | exact rfl) (by first | exact wr_id' (by omega) (by omega) | with_reducible exact wr_bI _ | exact rfl) (fun h86 => ?_) (fun h86 => ?_)
  · refine j_iload15 (q := 96) dL_runs_94 rfl ?_
    refine j_iconst (q := 97) dL_runs_96 rfl ?_
    refine j_icmp_ge (tgt := 105) (q := 100) dL_runs_97 (by decide) rfl (by first | exact wr_id' (by omega) (by omega) | with_reducible exact wr_bI _ | exact rfl) (by first | exact wr_id' (by omega) (by omega) | with_reducible exact wr_bI _ | exact rfl) (fun h97 => ?_) (fun h97 => ?_)
    · refine j_iload15 (q := 107) dL_runs_105 rfl ?_
      refine j_iconst (q := 108) dL_runs_107 rfl ?_
      refine j_icmp_ne (tgt := 116) (q := 111) dL_runs_108 (by decide) rfl (by first | exact wr_id' (by omega) (by omega) | with_reducible exact wr_bI _ | exact rfl) (by first | exact wr_id' (by omega) (by omega) | with_reducible exact wr_bI _ | exact rfl) (fun h108 => ?_) (fun h108 => ?_)
      · omega
      · refine j_bipush (q := 113) dL_runs_111 rfl rfl ?_
        refine j_goto (tgt := 118) dL_runs_113 (by decide) ?_
        refine j_iload17 (q := 120) dL_runs_118 rfl ?_
        refine j_callS4 (Mc := iL_letters) (q := 123) (c' := 0) (s' := 0) dL_runs_120 rfl kS_L_letters jw_832 ⟨by decide, by decide⟩ rfl (Nat.le_refl _) (Nat.le_refl _) (ct_L_letters V E hs h1 (by decide) hb (by omega)) ?_
        refine j_mem (m' := lz (tPs Y (lts (sgn kd) k bt)) p s.1) (by rw [lz_puts, esg]) ?_
        refine j_ifne_b (tgt := 128) (q := 126) dL_runs_123 (by decide) rfl (fun h123 => ?_) (fun h123 => ?_)
        · refine j_iload13 (q := 130) dL_runs_128 rfl ?_
          refine j_ifeq_b (tgt := 192) (q := 133) dL_runs_130 (by decide) rfl (fun h130 => ?_) (fun h130 => ?_)
          · refine j_iconst (q := 193) dL_runs_192 rfl ?_
            refine j_istore13 (q := 195) dL_runs_193 rfl rfl (by decide) ?_
            refine j_iload13 (q := 197) dL_runs_195 rfl ?_
            refine j_if_ne (tgt := 203) (q := 200) dL_runs_197 (by decide) rfl (by first | exact wr_id' (by omega) (by omega) | with_reducible exact wr_bI _ | exact rfl) (fun h197 => ?_) (fun h197 => ?_)
            · omega
            · refine j_goto (tgt := 337) dL_runs_200 (by decide) ?_
              refine j_fgt15 ?_
              refine j_fgt16 ?_
              refine j_fgt17 ?_
              exact kk false dn s (Or.inr ⟨fun q => by first | (rw [h130] at q; exact absurd q.1 (by decide)) | (have q2 := q.2; unfold mayL at q2; omega), rfl, rfl, rfl⟩)
          · refine j_iload15 (q := 135) dL_runs_133 rfl ?_
            refine j_iconst (q := 136) dL_runs_135 rfl ?_
            refine j_icmp_eq (tgt := 188) (q := 139) dL_runs_136 (by decide) rfl (by first | exact wr_id' (by omega) (by omega) | with_reducible exact wr_bI _ | exact rfl) (by first | exact wr_id' (by omega) (by omega) | with_reducible exact wr_bI _ | exact rfl) (fun h136 => ?_) (fun h136 => ?_)
            · omega
            · refine j_iload15 (q := 141) dL_runs_139 rfl ?_
              refine j_iconst (q := 142) dL_runs_141 rfl ?_
              refine j_icmp_ne (tgt := 157) (q := 145) dL_runs_142 (by decide) rfl (by first | exact wr_id' (by omega) (by omega) | with_reducible exact wr_bI _ | exact rfl) (by first | exact wr_id' (by omega) (by omega) | with_reducible exact wr_bI _ | exact rfl) (fun h142 => ?_) (fun h142 => ?_)
              · omega
              · refine j_iconst (q := 146) dL_runs_145 rfl ?_
                refine j_aload5 (q := 148) dL_runs_146 rfl ?_
                refine j_callS2 (Mc := iL_owed) (q := 151) (c' := 0) (s' := 0) dL_runs_148 rfl kS_L_owed jw_587 ⟨by decide, by decide⟩ rfl (Nat.le_refl _) (Nat.le_refl _) (ct_L_owed E hs hD (by omega)) ?_
                refine j_if_lt (tgt := 192) (q := 154) dL_runs_151 (by decide) rfl (by first | exact wr_id' (by omega) (by omega) | with_reducible exact wr_bI _ | exact rfl) (fun h151 => ?_) (fun h151 => ?_)
                · refine j_iconst (q := 193) dL_runs_192 rfl ?_
                  refine j_istore13 (q := 195) dL_runs_193 rfl rfl (by decide) ?_
                  refine j_iload13 (q := 197) dL_runs_195 rfl ?_
                  refine j_if_ne (tgt := 203) (q := 200) dL_runs_197 (by decide) rfl (by first | exact wr_id' (by omega) (by omega) | with_reducible exact wr_bI _ | exact rfl) (fun h197 => ?_) (fun h197 => ?_)
                  · omega
                  · refine j_goto (tgt := 337) dL_runs_200 (by decide) ?_
                    refine j_fgt15 ?_
                    refine j_fgt16 ?_
                    refine j_fgt17 ?_
                    exact kk false dn s (Or.inr ⟨fun q => by first | (rw [h130] at q; exact absurd q.1 (by decide)) | (have q2 := q.2; unfold mayL at q2; omega), rfl, rfl, rfl⟩)
                · refine j_goto (tgt := 188) dL_runs_154 (by decide) ?_
                  refine j_iconst (q := 189) dL_runs_188 rfl ?_
                  refine j_goto (tgt := 193) dL_runs_189 (by decide) ?_
                  refine j_istore13 (q := 195) dL_runs_193 rfl rfl (by decide) ?_
                  refine j_iload13 (q := 197) dL_runs_195 rfl ?_
                  refine j_if_ne (tgt := 203) (q := 200) dL_runs_197 (by decide) rfl (by first | exact wr_id' (by omega) (by omega) | with_reducible exact wr_bI _ | exact rfl) (fun h197 => ?_) (fun h197 => ?_)
                  · refine j_iinc12 (q := 206) dL_runs_203 rfl rfl (by decide) ?_
                    refine j_iload15 (q := 208) dL_runs_206 rfl ?_
                    refine j_iconst (q := 209) dL_runs_208 rfl ?_
                    refine j_icmp_ge (tgt := 234) (q := 212) dL_runs_209 (by decide) rfl (by first | exact wr_id' (by omega) (by omega) | with_reducible exact wr_bI _ | exact rfl) (by first | exact wr_id' (by omega) (by omega) | with_reducible exact wr_bI _ | exact rfl) (fun h209 => ?_) (fun h209 => ?_)
                    · refine j_iload15 (q := 236) dL_runs_234 rfl ?_
                      refine j_iconst (q := 237) dL_runs_236 rfl ?_
                      refine j_icmp_eq (tgt := 246) (q := 240) dL_runs_237 (by decide) rfl (by first | exact wr_id' (by omega) (by omega) | with_reducible exact wr_bI _ | exact rfl) (by first | exact wr_id' (by omega) (by omega) | with_reducible exact wr_bI _ | exact rfl) (fun h237 => ?_) (fun h237 => ?_)
                      · omega
                      · refine j_iload15 (q := 242) dL_runs_240 rfl ?_
                        refine j_iconst (q := 243) dL_runs_242 rfl ?_
                        refine j_icmp_ne (tgt := 270) (q := 246) dL_runs_243 (by decide) rfl (by first | exact wr_id' (by omega) (by omega) | with_reducible exact wr_bI _ | exact rfl) (by first | exact wr_id' (by omega) (by omega) | with_reducible exact wr_bI _ | exact rfl) (fun h243 => ?_) (fun h243 => ?_)
                        · refine j_iload15 (q := 272) dL_runs_270 rfl ?_
                          refine j_iconst (q := 273) dL_runs_272 rfl ?_
                          refine j_icmp_ne (tgt := 296) (q := 276) dL_runs_273 (by decide) rfl (by first | exact wr_id' (by omega) (by omega) | with_reducible exact wr_bI _ | exact rfl) (by first | exact wr_id' (by omega) (by omega) | with_reducible exact wr_bI _ | exact rfl) (fun h273 => ?_) (fun h273 => ?_)
                          · omega
                          · refine j_aload4 (q := 278) dL_runs_276 rfl ?_
                            refine j_aload5 (q := 280) dL_runs_278 rfl ?_
                            refine j_aload6 (q := 282) dL_runs_280 rfl ?_
                            refine j_aload7 (q := 284) dL_runs_282 rfl ?_
                            refine j_aload8 (q := 286) dL_runs_284 rfl ?_
                            refine j_aload9 (q := 288) dL_runs_286 rfl ?_
                            refine j_aload10 (q := 290) dL_runs_288 rfl ?_
                            refine j_aload11 (q := 292) dL_runs_290 rfl ?_
                            refine j_callS8 (Mc := iL_back) (q := 295) (c' := 0) (s' := 0) dL_runs_292 rfl kS_L_back jw_600 ⟨by decide, by decide⟩ rfl (Nat.le_refl _) (Nat.le_refl _) (ct_L_back (o := s.2) E hs hK (hg.mp (by omega))) ?_
                            refine j_pop (q := 296) dL_runs_295 rfl rfl ?_
                            refine j_iconst (q := 297) dL_runs_296 rfl ?_
                            refine j_istore18 (q := 299) dL_runs_297 rfl rfl (by decide) ?_
                            refine j_iload18 (q := 301) dL_runs_299 rfl ?_
                            refine j_iload17 (q := 303) dL_runs_301 rfl ?_
                            refine j_icmp_gt (tgt := 337) (q := 306) dL_runs_303 (by decide) rfl (by first | exact wr_id' (by omega) (by omega) | with_reducible exact wr_bI _ | exact rfl) (by first | exact wr_id' (by omega) (by omega) | with_reducible exact wr_bI _ | exact rfl) (fun h303 => ?_) (fun h303 => ?_)
                            · omega
                            · refine j_iload15 (q := 308) dL_runs_306 rfl ?_
                              refine j_iconst (q := 309) dL_runs_308 rfl ?_
                              refine j_icmp_ne (tgt := 337) (q := 312) dL_runs_309 (by decide) rfl (by first | exact wr_id' (by omega) (by omega) | with_reducible exact wr_bI _ | exact rfl) (by first | exact wr_id' (by omega) (by omega) | with_reducible exact wr_bI _ | exact rfl) (fun h309 => ?_) (fun h309 => ?_)
                              · refine j_fgt15 ?_
                                refine j_fgt16 ?_
                                refine j_fgt17 ?_
                                refine j_fgt18 ?_
                                exact kk true (dn + 1) (zWb s.1 (zOrd s.1 s.2 0), zOrd s.1 s.2) (Or.inl ⟨⟨h130, by unfold mayL; omega⟩, rfl, rfl, (doL_b (by omega)).symm⟩)
                              · omega
                        · omega
                    · omega
                  · omega
        · cases h123
    · omega
  · omega
theorem lp_runs_D {G : GX} {sh : List SH} {p : Bool} (V : EV G sh) (E : EW G sh) (hs : LA sh p) {F : FinT} {Y : Mem} {s : Z × (Int → Int)} {t x y dn i kd k bt B K : Int} {gs : Bool} (hK : LK s.1 10000 B K) (h1 : 0 ≤ k ∧ k < 16) (hb : bt = 0 ∨ bt = 1) (ht : 0 ≤ t ∧ t < 6) (hkd : kd = 5) (hY : 0 ≤ Y 195 0 ∧ Y 195 0 ≤ 55) (kk : ∀ (gs2 : Bool) (dn2 : Int) (s2 : Z × (Int → Int)), ((gs = true ∧ mayL kd k t s.1) ∧ gs2 = true ∧ dn2 = dn + 1 ∧ s2 = doL kd k bt s) ∨ (¬ (gs = true ∧ mayL kd k t s.1) ∧ gs2 = false ∧ dn2 = dn ∧ s2 = s) → J G sh iL_runs 0 0 F 337 [some (.inr (.ref 0)), some (.inl t), some (.inl x), some (.inl y), some (.inr (.ref (ix p 0))), some (.inr (.ref (ix p 1))), some (.inr (.ref (ix p 2))), some (.inr (.ref (ix p 3))), some (.inr (.ref (ix p 4))), some (.inr (.ref (ix p 5))), some (.inr (.ref (ix p 7))), some (.inr (.ref (ix p 6))), some (.inl dn2), some (.inl (bI gs2)), some (.inl i), none, none, none, none] [] (lz (tPs Y (lts (sgn kd) k bt)) p s2.1) 0 0) : J G sh iL_runs 0 0 F 80 [some (.inr (.ref 0)), some (.inl t), some (.inl x), some (.inl y), some (.inr (.ref (ix p 0))), some (.inr (.ref (ix p 1))), some (.inr (.ref (ix p 2))), some (.inr (.ref (ix p 3))), some (.inr (.ref (ix p 4))), some (.inr (.ref (ix p 5))), some (.inr (.ref (ix p 7))), some (.inr (.ref (ix p 6))), some (.inl dn), some (.inl (bI gs)), some (.inl i), some (.inl kd), some (.inl k), some (.inl bt), none] [] (lz Y p s.1) 0 0 := by
  have hc := cr_b h1
  have hX := hK.x
  have hI := hK.i
  have hD := IZ_DB hI
  have hg := lOw_g hX hI (q := 0) (by decide)
  have hl := lOw_b s.1 0
  have a1 := hI.ht
  have a4 := hI.sg _ hc.1 hc.2
  have st1 := hI.st 1 (by decide) (by decide)
  have st2 := hI.st 2 (by decide) (by decide)
  have du := hI.du _ hc.1 hc.2
  have hT := hI.tT
  have hw := (hX.2.2 _ hc.1 hc.2).2.2.1
  have e195 : lz Y p s.1 195 0 = Y 195 0 := by rw [lz_lo (by decide)]
  have esg : sgn kd = 116 := by unfold sgn; rw [if_neg (by omega), if_neg (by omega), if_neg (by omega)]
  refine j_aload0 (q := 81) dL_runs_80 rfl ?_
  refine j_iload16 (q := 83) dL_runs_81 rfl ?_
  refine j_iload15 (q := 85) dL_runs_83 rfl ?_
  refine j_iconst (q := 86) dL_runs_85 rfl ?_
  refine j_icmp_ge (tgt := 94) (q := 89) dL_runs_86 (by decide) rfl (by first | exact wr_id' (by omega) (by omega) | with_reducible exact wr_bI _ | exact rfl) (by first | exact wr_id' (by omega) (by omega) | with_reducible exact wr_bI _ | exact rfl) (fun h86 => ?_) (fun h86 => ?_)
  · refine j_iload15 (q := 96) dL_runs_94 rfl ?_
    refine j_iconst (q := 97) dL_runs_96 rfl ?_
    refine j_icmp_ge (tgt := 105) (q := 100) dL_runs_97 (by decide) rfl (by first | exact wr_id' (by omega) (by omega) | with_reducible exact wr_bI _ | exact rfl) (by first | exact wr_id' (by omega) (by omega) | with_reducible exact wr_bI _ | exact rfl) (fun h97 => ?_) (fun h97 => ?_)
    · refine j_iload15 (q := 107) dL_runs_105 rfl ?_
      refine j_iconst (q := 108) dL_runs_107 rfl ?_
      refine j_icmp_ne (tgt := 116) (q := 111) dL_runs_108 (by decide) rfl (by first | exact wr_id' (by omega) (by omega) | with_reducible exact wr_bI _ | exact rfl) (by first | exact wr_id' (by omega) (by omega) | with_reducible exact wr_bI _ | exact rfl) (fun h108 => ?_) (fun h108 => ?_)
      · refine j_bipush (q := 118) dL_runs_116 rfl rfl ?_
        refine j_iload17 (q := 120) dL_runs_118 rfl ?_
        refine j_callS4 (Mc := iL_letters) (q := 123) (c' := 0) (s' := 0) dL_runs_120 rfl kS_L_letters jw_832 ⟨by decide, by decide⟩ rfl (Nat.le_refl _) (Nat.le_refl _) (ct_L_letters V E hs h1 (by decide) hb (by omega)) ?_
        refine j_mem (m' := lz (tPs Y (lts (sgn kd) k bt)) p s.1) (by rw [lz_puts, esg]) ?_
        refine j_ifne_b (tgt := 128) (q := 126) dL_runs_123 (by decide) rfl (fun h123 => ?_) (fun h123 => ?_)
        · refine j_iload13 (q := 130) dL_runs_128 rfl ?_
          refine j_ifeq_b (tgt := 192) (q := 133) dL_runs_130 (by decide) rfl (fun h130 => ?_) (fun h130 => ?_)
          · refine j_iconst (q := 193) dL_runs_192 rfl ?_
            refine j_istore13 (q := 195) dL_runs_193 rfl rfl (by decide) ?_
            refine j_iload13 (q := 197) dL_runs_195 rfl ?_
            refine j_if_ne (tgt := 203) (q := 200) dL_runs_197 (by decide) rfl (by first | exact wr_id' (by omega) (by omega) | with_reducible exact wr_bI _ | exact rfl) (fun h197 => ?_) (fun h197 => ?_)
            · omega
            · refine j_goto (tgt := 337) dL_runs_200 (by decide) ?_
              refine j_fgt15 ?_
              refine j_fgt16 ?_
              refine j_fgt17 ?_
              exact kk false dn s (Or.inr ⟨fun q => by first | (rw [h130] at q; exact absurd q.1 (by decide)) | (have q2 := q.2; unfold mayL at q2; omega), rfl, rfl, rfl⟩)
          · refine j_iload15 (q := 135) dL_runs_133 rfl ?_
            refine j_iconst (q := 136) dL_runs_135 rfl ?_
            refine j_icmp_eq (tgt := 188) (q := 139) dL_runs_136 (by decide) rfl (by first | exact wr_id' (by omega) (by omega) | with_reducible exact wr_bI _ | exact rfl) (by first | exact wr_id' (by omega) (by omega) | with_reducible exact wr_bI _ | exact rfl) (fun h136 => ?_) (fun h136 => ?_)
            · refine j_iconst (q := 189) dL_runs_188 rfl ?_
              refine j_goto (tgt := 193) dL_runs_189 (by decide) ?_
              refine j_istore13 (q := 195) dL_runs_193 rfl rfl (by decide) ?_
              refine j_iload13 (q := 197) dL_runs_195 rfl ?_
              refine j_if_ne (tgt := 203) (q := 200) dL_runs_197 (by decide) rfl (by first | exact wr_id' (by omega) (by omega) | with_reducible exact wr_bI _ | exact rfl) (fun h197 => ?_) (fun h197 => ?_)
              · refine j_iinc12 (q := 206) dL_runs_203 rfl rfl (by decide) ?_
                refine j_iload15 (q := 208) dL_runs_206 rfl ?_
                refine j_iconst (q := 209) dL_runs_208 rfl ?_
                refine j_icmp_ge (tgt := 234) (q := 212) dL_runs_209 (by decide) rfl (by first | exact wr_id' (by omega) (by omega) | with_reducible exact wr_bI _ | exact rfl) (by first | exact wr_id' (by omega) (by omega) | with_reducible exact wr_bI _ | exact rfl) (fun h209 => ?_) (fun h209 => ?_)
                · refine j_iload15 (q := 236) dL_runs_234 rfl ?_
                  refine j_iconst (q := 237) dL_runs_236 rfl ?_
                  refine j_icmp_eq (tgt := 246) (q := 240) dL_runs_237 (by decide) rfl (by first | exact wr_id' (by omega) (by omega) | with_reducible exact wr_bI _ | exact rfl) (by first | exact wr_id' (by omega) (by omega) | with_reducible exact wr_bI _ | exact rfl) (fun h237 => ?_) (fun h237 => ?_)
                  · omega
                  · refine j_iload15 (q := 242) dL_runs_240 rfl ?_
                    refine j_iconst (q := 243) dL_runs_242 rfl ?_
                    refine j_icmp_ne (tgt := 270) (q := 246) dL_runs_243 (by decide) rfl (by first | exact wr_id' (by omega) (by omega) | with_reducible exact wr_bI _ | exact rfl) (by first | exact wr_id' (by omega) (by omega) | with_reducible exact wr_bI _ | exact rfl) (fun h243 => ?_) (fun h243 => ?_)
                    · refine j_iload15 (q := 272) dL_runs_270 rfl ?_
                      refine j_iconst (q := 273) dL_runs_272 rfl ?_
                      refine j_icmp_ne (tgt := 296) (q := 276) dL_runs_273 (by decide) rfl (by first | exact wr_id' (by omega) (by omega) | with_reducible exact wr_bI _ | exact rfl) (by first | exact wr_id' (by omega) (by omega) | with_reducible exact wr_bI _ | exact rfl) (fun h273 => ?_) (fun h273 => ?_)
                      · refine j_iconst (q := 297) dL_runs_296 rfl ?_
                        refine j_istore18 (q := 299) dL_runs_297 rfl rfl (by decide) ?_
                        refine lp_runs_t V E hs hkd hb (bt + 1).toNat 0 s 10000 (by omega) (by omega) hK (by omega) ?_
                        intro x2 hx2
                        exact kk true (dn + 1) x2 (Or.inl ⟨⟨h130, by unfold mayL; omega⟩, rfl, rfl, hx2.trans (doL_t (by omega)).symm⟩)
                      · omega
                    · omega
                · omega
              · omega
            · omega
        · cases h123
      · omega
    · omega
  · omega
theorem lp_runs_s {G : GX} {sh : List SH} {p : Bool} (V : EV G sh) (E : EW G sh) (hs : LA sh p) {F : FinT} {Y : Mem} {s : Z × (Int → Int)} {t x y dn i kd k bt B K : Int} {gs : Bool} (hK : LK s.1 10000 B K) (h1 : 0 ≤ k ∧ k < 16) (hb : bt = 0 ∨ bt = 1) (ht : 0 ≤ t ∧ t < 6) (hkd : 0 ≤ kd ∧ kd < 6) (hY : 0 ≤ Y 195 0 ∧ Y 195 0 ≤ 55) (kk : ∀ (gs2 : Bool) (dn2 : Int) (s2 : Z × (Int → Int)), ((gs = true ∧ mayL kd k t s.1) ∧ gs2 = true ∧ dn2 = dn + 1 ∧ s2 = doL kd k bt s) ∨ (¬ (gs = true ∧ mayL kd k t s.1) ∧ gs2 = false ∧ dn2 = dn ∧ s2 = s) → J G sh iL_runs 0 0 F 337 [some (.inr (.ref 0)), some (.inl t), some (.inl x), some (.inl y), some (.inr (.ref (ix p 0))), some (.inr (.ref (ix p 1))), some (.inr (.ref (ix p 2))), some (.inr (.ref (ix p 3))), some (.inr (.ref (ix p 4))), some (.inr (.ref (ix p 5))), some (.inr (.ref (ix p 7))), some (.inr (.ref (ix p 6))), some (.inl dn2), some (.inl (bI gs2)), some (.inl i), none, none, none, none] [] (lz (tPs Y (lts (sgn kd) k bt)) p s2.1) 0 0) : J G sh iL_runs 0 0 F 80 [some (.inr (.ref 0)), some (.inl t), some (.inl x), some (.inl y), some (.inr (.ref (ix p 0))), some (.inr (.ref (ix p 1))), some (.inr (.ref (ix p 2))), some (.inr (.ref (ix p 3))), some (.inr (.ref (ix p 4))), some (.inr (.ref (ix p 5))), some (.inr (.ref (ix p 7))), some (.inr (.ref (ix p 6))), some (.inl dn), some (.inl (bI gs)), some (.inl i), some (.inl kd), some (.inl k), some (.inl bt), none] [] (lz Y p s.1) 0 0 := by
  by_cases c1 : kd < 2
  · exact lp_runs_A V E hs hK h1 hb ht ⟨hkd.1, c1⟩ hY kk
  by_cases c2 : kd < 4
  · exact lp_runs_B V E hs hK h1 hb ht ⟨by omega, c2⟩ hY kk
  by_cases c3 : kd = 4
  · exact lp_runs_C V E hs hK h1 hb ht c3 hY kk
  · exact lp_runs_D V E hs hK h1 hb ht (by omega) hY kk
theorem lp_runs {G : GX} {sh : List SH} {p : Bool} (V : EV G sh) (E : EW G sh) (hs : LA sh p) {F : FinT} {X0 : Mem} {z : Z} {t x y B K H : Int} (hX0 : X0 195 0 = 0) (ht : 0 ≤ t ∧ t < 6) (hB : B + 32 ≤ 1000000) (hK2 : K ≤ 512) (hH : H ≤ 9000) : ∀ (d : Nat) (n : Nat) (s : Z × (Int → Int)) (dn : Int) (gs : Bool), n + d = 7 → RI (fR x y) z t B K H n s dn gs → (∀ (s2 : Z × (Int → Int)) (dn2 : Int) (gs2 : Bool), RI (fR x y) z t B K H 7 s2 dn2 gs2 → J G sh iL_runs 0 0 F 343 [some (.inr (.ref 0)), some (.inl t), some (.inl x), some (.inl y), some (.inr (.ref (ix p 0))), some (.inr (.ref (ix p 1))), some (.inr (.ref (ix p 2))), some (.inr (.ref (ix p 3))), some (.inr (.ref (ix p 4))), some (.inr (.ref (ix p 5))), some (.inr (.ref (ix p 7))), some (.inr (.ref (ix p 6))), some (.inl dn2), none, none, none, none, none, none] [] (lz (tPs X0 (pre (fR x y) 7)) p s2.1) 0 0) → J G sh iL_runs 0 0 F 14 [some (.inr (.ref 0)), some (.inl t), some (.inl x), some (.inl y), some (.inr (.ref (ix p 0))), some (.inr (.ref (ix p 1))), some (.inr (.ref (ix p 2))), some (.inr (.ref (ix p 3))), some (.inr (.ref (ix p 4))), some (.inr (.ref (ix p 5))), some (.inr (.ref (ix p 7))), some (.inr (.ref (ix p 6))), some (.inl dn), some (.inl (bI gs)), some (.inl (n : Int)), none, none, none, none] [] (lz (tPs X0 (pre (fR x y) n)) p s.1) 0 0 := by
  intro d
  induction d with
  | zero =>
    intro n s dn gs g0 g1 kk
    have hv := HV_R x y
    have hT := TXT_0 (l := pre (fR x y) n) hX0
    have hl := pre_len hv n
    have e195 : lz (tPs X0 (pre (fR x y) n)) p s.1 195 0 = ((pre (fR x y) n).length : Int) := by rw [lz_lo (by decide)]; exact hT.1
    refine j_iload14 (q := 16) dL_runs_14 rfl ?_
    refine j_bipush (q := 18) dL_runs_16 rfl rfl ?_
    refine j_icmp_ge (tgt := 343) (q := 21) dL_runs_18 (by decide) rfl (by first | exact wr_id' (by omega) (by omega) | with_reducible exact wr_bI _ | exact rfl) (by first | exact wr_id' (by omega) (by omega) | with_reducible exact wr_bI _ | exact rfl) (fun h18 => ?_) (fun h18 => ?_)
    · obtain rfl : n = 7 := by omega
      refine j_fgt13 ?_
      refine j_fgt14 ?_
      exact kk _ _ _ g1
    · omega
  | succ d ih =>
    intro n s dn gs g0 g1 kk
    have hv := HV_R x y
    have hT := TXT_0 (l := pre (fR x y) n) hX0
    have hl := pre_len hv n
    have e195 : lz (tPs X0 (pre (fR x y) n)) p s.1 195 0 = ((pre (fR x y) n).length : Int) := by rw [lz_lo (by decide)]; exact hT.1
    refine j_iload14 (q := 16) dL_runs_14 rfl ?_
    refine j_bipush (q := 18) dL_runs_16 rfl rfl ?_
    refine j_icmp_ge (tgt := 343) (q := 21) dL_runs_18 (by decide) rfl (by first | exact wr_id' (by omega) (by omega) | with_reducible exact wr_bI _ | exact rfl) (by first | exact wr_id' (by omega) (by omega) | with_reducible exact wr_bI _ | exact rfl) (fun h18 => ?_) (fun h18 => ?_)
    · omega
    · refine j_iload2 (q := 22) dL_runs_21 rfl ?_
      refine j_iconst (q := 23) dL_runs_22 rfl ?_
      refine j_iload14 (q := 25) dL_runs_23 rfl ?_
      refine j_imul (q := 26) dL_runs_25 rfl ?_
      refine j_ishr (q := 27) dL_runs_26 rfl ?_
      refine j_iload14 (q := 29) dL_runs_27 rfl ?_
      refine j_iadd (q := 30) dL_runs_29 rfl ?_
      refine j_bipush (q := 32) dL_runs_30 rfl rfl ?_
      refine j_callS2 (Mc := iL_at) (q := 35) (c' := 0) (s' := 0) dL_runs_32 rfl kS_L_at jw_429 ⟨by decide, by decide⟩ rfl (Nat.le_refl _) (Nat.le_refl _) (ct_L_at E hs (by decide)) ?_
      refine j_istore15 (q := 37) dL_runs_35 rfl rfl (by decide) ?_
      refine j_iload3 (q := 38) dL_runs_37 rfl ?_
      refine j_iconst (q := 39) dL_runs_38 rfl ?_
      refine j_iload14 (q := 41) dL_runs_39 rfl ?_
      refine j_imul (q := 42) dL_runs_41 rfl ?_
      refine j_ishr (q := 43) dL_runs_42 rfl ?_
      refine j_iconst (q := 44) dL_runs_43 rfl ?_
      refine j_iload14 (q := 46) dL_runs_44 rfl ?_
      refine j_imul (q := 47) dL_runs_46 rfl ?_
      refine j_iadd (q := 48) dL_runs_47 rfl ?_
      refine j_bipush (q := 50) dL_runs_48 rfl rfl ?_
      refine j_callS2 (Mc := iL_at) (q := 53) (c' := 0) (s' := 0) dL_runs_50 rfl kS_L_at jw_429 ⟨by decide, by decide⟩ rfl (Nat.le_refl _) (Nat.le_refl _) (ct_L_at E hs (by decide)) ?_
      refine j_istore16 (q := 55) dL_runs_53 rfl rfl (by decide) ?_
      refine j_iload3 (q := 56) dL_runs_55 rfl ?_
      refine j_iload14 (q := 58) dL_runs_56 rfl ?_
      refine j_ishr (q := 59) dL_runs_58 rfl ?_
      refine j_iconst (q := 60) dL_runs_59 rfl ?_
      refine j_callS2 (Mc := iL_at) (q := 63) (c' := 0) (s' := 0) dL_runs_60 rfl kS_L_at jw_429 ⟨by decide, by decide⟩ rfl (Nat.le_refl _) (Nat.le_refl _) (ct_L_at E hs (by decide)) ?_
      refine j_istore17 (q := 65) dL_runs_63 rfl rfl (by decide) ?_
      refine j_iload14 (q := 67) dL_runs_65 rfl ?_
      refine j_if_le (tgt := 80) (q := 70) dL_runs_67 (by decide) rfl (by first | exact wr_id' (by omega) (by omega) | with_reducible exact wr_bI _ | exact rfl) (fun h67 => ?_) (fun h67 => ?_)
      · refine j_mem (m' := lz (tPs (tPs X0 (pre (fR x y) n)) (sep n)) p s.1) (by first | (rw [sep_0 (by omega)]; rfl) | (rw [sep_1 (by omega), lz_put]; rfl)) ?_
        have b1 := aT_b (iS x (2 * (n : Int)) + n) (n := 6) (by decide)
        have b2 := aT_b (iS y (2 * (n : Int)) + 3 * n) (n := 16) (by decide)
        have b3 := aT_b (iS y n) (n := 2) (by decide)
        have hT2 := TXT_ps (m := tPs X0 (pre (fR x y) n)) (sep n) hT
        have hl2 := sep_len n
        have hT3 := hT2.1
        rw [List.length_append] at hT3
        refine lp_runs_s V E hs (kd := aT (iS x (2 * (n : Int)) + n) 6) (k := aT (iS y (2 * (n : Int)) + 3 * n) 16) (bt := aT (iS y n) 2) g1.2.2.1.k b2 (by omega) ht b1 (by omega) ?_
        intro gs2 dn2 s2 hs2
        have hR2 := RI_step (kd := aT (iS x (2 * (n : Int)) + n) 6) (k := aT (iS y (2 * (n : Int)) + 3 * n) 16) (b := aT (iS y n) 2) g1 (by omega) rfl b1 b2 (by omega) ht hB hK2 hH hs2
        refine j_mem (m' := lz (tPs X0 (pre (fR x y) (n + 1))) p s2.1) (by rw [pre, tPs_app, tPs_app]; rfl) ?_
        refine j_iinc14 (q := 340) dL_runs_337 rfl rfl (by decide) ?_
        refine j_goto (tgt := 14) dL_runs_340 (by decide) ?_
        rw [show (n : Int) + 1 = ((n + 1 : Nat) : Int) by omega]
        exact ih (n + 1) s2 dn2 gs2 (by omega) hR2 kk
      · refine j_aload0 (q := 71) dL_runs_70 rfl ?_
        refine j_bipush (q := 73) dL_runs_71 rfl rfl ?_
        refine j_callV1 (Mc := iX7_append) (q := 76) (c' := 0) (s' := 0) dL_runs_73 rfl kV_X7_append jw_824 ⟨by decide, by decide⟩ (V.2.2 _ _ sh_0) rfl rfl rfl (Nat.le_refl _) (Nat.le_refl _) (ct_X7_append V (by omega) (by omega) (by omega) (by omega)) ?_
        refine j_iconst (q := 77) dL_runs_76 rfl ?_
        refine j_icmp_lt (tgt := 126) (q := 80) dL_runs_77 (by decide) rfl (by first | exact wr_id' (by omega) (by omega) | with_reducible exact wr_bI _ | exact rfl) (by first | exact wr_id' (by omega) (by omega) | with_reducible exact wr_bI _ | exact rfl) (fun h77 => ?_) (fun h77 => ?_)
        · omega
        · refine j_mem (m' := lz (tPs (tPs X0 (pre (fR x y) n)) (sep n)) p s.1) (by first | (rw [sep_0 (by omega)]; rfl) | (rw [sep_1 (by omega), lz_put]; rfl)) ?_
          have b1 := aT_b (iS x (2 * (n : Int)) + n) (n := 6) (by decide)
          have b2 := aT_b (iS y (2 * (n : Int)) + 3 * n) (n := 16) (by decide)
          have b3 := aT_b (iS y n) (n := 2) (by decide)
          have hT2 := TXT_ps (m := tPs X0 (pre (fR x y) n)) (sep n) hT
          have hl2 := sep_len n
          have hT3 := hT2.1
          rw [List.length_append] at hT3
          refine lp_runs_s V E hs (kd := aT (iS x (2 * (n : Int)) + n) 6) (k := aT (iS y (2 * (n : Int)) + 3 * n) 16) (bt := aT (iS y n) 2) g1.2.2.1.k b2 (by omega) ht b1 (by omega) ?_
          intro gs2 dn2 s2 hs2
          have hR2 := RI_step (kd := aT (iS x (2 * (n : Int)) + n) 6) (k := aT (iS y (2 * (n : Int)) + 3 * n) 16) (b := aT (iS y n) 2) g1 (by omega) rfl b1 b2 (by omega) ht hB hK2 hH hs2
          refine j_mem (m' := lz (tPs X0 (pre (fR x y) (n + 1))) p s2.1) (by rw [pre, tPs_app, tPs_app]; rfl) ?_
          refine j_iinc14 (q := 340) dL_runs_337 rfl rfl (by decide) ?_
          refine j_goto (tgt := 14) dL_runs_340 (by decide) ?_
          rw [show (n : Int) + 1 = ((n + 1 : Nat) : Int) by omega]
          exact ih (n + 1) s2 dn2 gs2 (by omega) hR2 kk

/-! the law, call by call -/
def SC (G : GX) : Prop := (∀ i, rg ((gE G 2).2.2 i)) ∧ (gE G 2).2.1 ≤ 2560
theorem bk_addTenant {G : GX} (E : EV G) (hsc : SC G) {F : FinT} {i : Int} (hi : 0 ≤ i ∧ i + 5 ≤ ((gE G 2).2.1 : Int)) {X : Mem} {B K : Int} (h0 : LW X B K) (hB : B + 32 ≤ 1000000) (hK : K + 1 ≤ 512) {k n : Nat} (hk : k + 1 ≤ 601024) (hn : n + 6 ≤ 7293034) (kk : ∀ X' : Mem, LW X' (B + 32) (K + 1) → J G SHP iLw 601024 7293034 F 1958 [some (.inr (.retAddr 2)), some (.inr (.ref 0)), some (.inr (.ref 197)), some (.inr (.ref 206)), some (.inl i), none, none, none, none] [] X' (k + 1) (n + 6)) : J G SHP iLw 601024 7293034 F 176 [some (.inr (.retAddr 2)), some (.inr (.ref 0)), some (.inr (.ref 197)), some (.inr (.ref 206)), some (.inl i), none, none, none, none] [] X k n := by
  have hL := hsc.2
  refine j_aload1 (q := 177) dL_law_176 rfl ?_
  refine j_oload0 (q := 178) dL_law_177 rfl ?_
  refine j_iload4 (q := 180) dL_law_178 rfl ?_
  refine j_iconst (q := 181) dL_law_180 rfl ?_
  refine j_iadd (q := 182) dL_law_181 rfl ?_
  refine j_oload (j := 2) (q := 183) (i' := i + 1) (by decide) dL_law_182 rfl (wr_id' (by omega) (by omega)) (by omega) (by omega) ?_
  refine j_aload3 (q := 184) dL_law_183 rfl ?_
  obtain ⟨kx, bx, X1, X2, w, c, h12, hkr, hq, hL2⟩ := tw_addTenant E h0 hB hK (hsc.1 (i + 1))
  refine j_callW3 (Mc := iL_addTenant) (q := 187) (c' := 1) (s' := 6) dL_law_184 rfl kW_L_addTenant jw_693 ⟨by decide, by decide⟩ rfl hk hn w ?_
  refine j_istore5 (q := 189) dL_law_187 rfl rfl (by decide) ?_
  refine j_aload2 (q := 190) dL_law_189 rfl ?_
  refine j_oload0 (q := 191) dL_law_190 rfl ?_
  refine j_iload4 (q := 193) dL_law_191 rfl ?_
  refine j_iconst (q := 194) dL_law_193 rfl ?_
  refine j_iadd (q := 195) dL_law_194 rfl ?_
  refine j_oload (j := 2) (q := 196) (i' := i + 1) (by decide) dL_law_195 rfl (wr_id' (by omega) (by omega)) (by omega) (by omega) ?_
  refine j_callV1 (Mc := iX8_addTenant) (q := 199) (c' := 0) (s' := 0) dL_law_196 rfl kV_X8_addTenant jw_1031 ⟨by decide, by decide⟩ sh_197 rfl rfl rfl (by omega) (by omega) c ?_
  refine j_istore6 (q := 201) dL_law_199 rfl rfl (by decide) ?_
  refine j_aload2 (q := 202) dL_law_201 rfl ?_
  refine j_callV0 (Mc := iX8_thrown) (q := 205) (c' := 0) (s' := 0) dL_law_202 rfl kV_X8_thrown jw_1027 ⟨by decide, by decide⟩ sh_197 rfl rfl rfl (by omega) (by omega) (ct_thr E) ?_
  refine j_iload5 (q := 207) dL_law_205 rfl ?_
  refine j_icmp_eq (x' := kx) (y' := kx) (tgt := 212) (q := 210) dL_law_207 (by decide) rfl (by rw [h12]; exact wr_id' (by omega) (by omega)) (wr_id' (by omega) (by omega)) (fun _ => ?_) (fun hh => absurd rfl hh)
  refine j_iload5 (q := 214) dL_law_212 rfl ?_
  refine j_if_ne (x' := kx) (tgt := 229) (q := 217) dL_law_214 (by decide) rfl (wr_id' (by omega) (by omega)) (fun hne => ?_) (fun heq => ?_)
  · refine j_goto (tgt := 1958) dL_law_229 (by decide) ?_
    refine j_fgt5 ?_
    refine j_fgt6 ?_
    exact j_kn (by omega) (by omega) (kk _ hL2)
  · refine j_aload3 (q := 218) dL_law_217 rfl ?_
    refine j_iconst (q := 219) dL_law_218 rfl ?_
    refine j_laload (q := 220) (i' := 0) dL_law_219 rfl sh_206 rfl (by decide) (by decide) ?_
    refine j_iload6 (q := 222) dL_law_220 rfl ?_
    refine j_i2l (q := 223) dL_law_222 rfl ?_
    refine j_lcmp (q := 224) dL_law_223 rfl ?_
    refine j_ifeq_l (tgt := 229) (q := 227) dL_law_224 (by decide) rfl (fun _ => ?_) (fun hne => absurd (hq heq) hne)
    refine j_goto (tgt := 1958) dL_law_229 (by decide) ?_
    refine j_fgt5 ?_
    refine j_fgt6 ?_
    exact j_kn (by omega) (by omega) (kk _ hL2)
theorem bk_addInsurer {G : GX} (E : EV G) (hsc : SC G) {F : FinT} {i : Int} (hi : 0 ≤ i ∧ i + 5 ≤ ((gE G 2).2.1 : Int)) {X : Mem} {B K : Int} (h0 : LW X B K) (hB : B + 32 ≤ 1000000) (hK : K + 1 ≤ 512) {k n : Nat} (hk : k + 1 ≤ 601024) (hn : n + 6 ≤ 7293034) (kk : ∀ X' : Mem, LW X' (B + 32) (K + 1) → J G SHP iLw 601024 7293034 F 1958 [some (.inr (.retAddr 2)), some (.inr (.ref 0)), some (.inr (.ref 197)), some (.inr (.ref 206)), some (.inl i), none, none, none, none] [] X' (k + 1) (n + 6)) : J G SHP iLw 601024 7293034 F 232 [some (.inr (.retAddr 2)), some (.inr (.ref 0)), some (.inr (.ref 197)), some (.inr (.ref 206)), some (.inl i), none, none, none, none] [] X k n := by
  have hL := hsc.2
  refine j_aload1 (q := 233) dL_law_232 rfl ?_
  refine j_oload0 (q := 234) dL_law_233 rfl ?_
  refine j_iload4 (q := 236) dL_law_234 rfl ?_
  refine j_iconst (q := 237) dL_law_236 rfl ?_
  refine j_iadd (q := 238) dL_law_237 rfl ?_
  refine j_oload (j := 2) (q := 239) (i' := i + 1) (by decide) dL_law_238 rfl (wr_id' (by omega) (by omega)) (by omega) (by omega) ?_
  refine j_oload0 (q := 240) dL_law_239 rfl ?_
  refine j_iload4 (q := 242) dL_law_240 rfl ?_
  refine j_iconst (q := 243) dL_law_242 rfl ?_
  refine j_iadd (q := 244) dL_law_243 rfl ?_
  refine j_oload (j := 2) (q := 245) (i' := i + 2) (by decide) dL_law_244 rfl (wr_id' (by omega) (by omega)) (by omega) (by omega) ?_
  refine j_oload0 (q := 246) dL_law_245 rfl ?_
  refine j_iload4 (q := 248) dL_law_246 rfl ?_
  refine j_iconst (q := 249) dL_law_248 rfl ?_
  refine j_iadd (q := 250) dL_law_249 rfl ?_
  refine j_oload (j := 2) (q := 251) (i' := i + 3) (by decide) dL_law_250 rfl (wr_id' (by omega) (by omega)) (by omega) (by omega) ?_
  refine j_aload3 (q := 252) dL_law_251 rfl ?_
  obtain ⟨kx, bx, X1, X2, w, c, h12, hkr, hq, hL2⟩ := tw_addInsurer E h0 hB hK (hsc.1 (i + 1)) (hsc.1 (i + 2)) (hsc.1 (i + 3))
  refine j_callW5 (Mc := iL_addInsurer) (q := 255) (c' := 1) (s' := 6) dL_law_252 rfl kW_L_addInsurer jw_734 ⟨by decide, by decide⟩ rfl hk hn w ?_
  refine j_istore5 (q := 257) dL_law_255 rfl rfl (by decide) ?_
  refine j_aload2 (q := 258) dL_law_257 rfl ?_
  refine j_oload0 (q := 259) dL_law_258 rfl ?_
  refine j_iload4 (q := 261) dL_law_259 rfl ?_
  refine j_iconst (q := 262) dL_law_261 rfl ?_
  refine j_iadd (q := 263) dL_law_262 rfl ?_
  refine j_oload (j := 2) (q := 264) (i' := i + 1) (by decide) dL_law_263 rfl (wr_id' (by omega) (by omega)) (by omega) (by omega) ?_
  refine j_oload0 (q := 265) dL_law_264 rfl ?_
  refine j_iload4 (q := 267) dL_law_265 rfl ?_
  refine j_iconst (q := 268) dL_law_267 rfl ?_
  refine j_iadd (q := 269) dL_law_268 rfl ?_
  refine j_oload (j := 2) (q := 270) (i' := i + 2) (by decide) dL_law_269 rfl (wr_id' (by omega) (by omega)) (by omega) (by omega) ?_
  refine j_oload0 (q := 271) dL_law_270 rfl ?_
  refine j_iload4 (q := 273) dL_law_271 rfl ?_
  refine j_iconst (q := 274) dL_law_273 rfl ?_
  refine j_iadd (q := 275) dL_law_274 rfl ?_
  refine j_oload (j := 2) (q := 276) (i' := i + 3) (by decide) dL_law_275 rfl (wr_id' (by omega) (by omega)) (by omega) (by omega) ?_
  refine j_callV3 (Mc := iX8_addInsurer) (q := 279) (c' := 0) (s' := 0) dL_law_276 rfl kV_X8_addInsurer jw_1046 ⟨by decide, by decide⟩ sh_197 rfl rfl rfl (by omega) (by omega) c ?_
  refine j_istore6 (q := 281) dL_law_279 rfl rfl (by decide) ?_
  refine j_aload2 (q := 282) dL_law_281 rfl ?_
  refine j_callV0 (Mc := iX8_thrown) (q := 285) (c' := 0) (s' := 0) dL_law_282 rfl kV_X8_thrown jw_1027 ⟨by decide, by decide⟩ sh_197 rfl rfl rfl (by omega) (by omega) (ct_thr E) ?_
  refine j_iload5 (q := 287) dL_law_285 rfl ?_
  refine j_icmp_eq (x' := kx) (y' := kx) (tgt := 292) (q := 290) dL_law_287 (by decide) rfl (by rw [h12]; exact wr_id' (by omega) (by omega)) (wr_id' (by omega) (by omega)) (fun _ => ?_) (fun hh => absurd rfl hh)
  refine j_iload5 (q := 294) dL_law_292 rfl ?_
  refine j_if_ne (x' := kx) (tgt := 309) (q := 297) dL_law_294 (by decide) rfl (wr_id' (by omega) (by omega)) (fun hne => ?_) (fun heq => ?_)
  · refine j_goto (tgt := 1958) dL_law_309 (by decide) ?_
    refine j_fgt5 ?_
    refine j_fgt6 ?_
    exact j_kn (by omega) (by omega) (kk _ hL2)
  · refine j_aload3 (q := 298) dL_law_297 rfl ?_
    refine j_iconst (q := 299) dL_law_298 rfl ?_
    refine j_laload (q := 300) (i' := 0) dL_law_299 rfl sh_206 rfl (by decide) (by decide) ?_
    refine j_iload6 (q := 302) dL_law_300 rfl ?_
    refine j_i2l (q := 303) dL_law_302 rfl ?_
    refine j_lcmp (q := 304) dL_law_303 rfl ?_
    refine j_ifeq_l (tgt := 309) (q := 307) dL_law_304 (by decide) rfl (fun _ => ?_) (fun hne => absurd (hq heq) hne)
    refine j_goto (tgt := 1958) dL_law_309 (by decide) ?_
    refine j_fgt5 ?_
    refine j_fgt6 ?_
    exact j_kn (by omega) (by omega) (kk _ hL2)
theorem bk_set {G : GX} (E : EV G) (hsc : SC G) (g8 : (gE G 1).2.1 = 8) (gm : ∀ s, 0 ≤ s → s < 8 → (gE G 1).2.2 s = zMost s) {F : FinT} {i : Int} (hi : 0 ≤ i ∧ i + 5 ≤ ((gE G 2).2.1 : Int)) {X : Mem} {B K : Int} (h0 : LW X B K) (hB : B + 32 ≤ 1000000) (hK : K + 1 ≤ 512) {k n : Nat} (hk : k + 1 ≤ 601024) (hn : n + 6 ≤ 7293034) (kk : ∀ X' : Mem, LW X' (B + 32) (K + 1) → J G SHP iLw 601024 7293034 F 1958 [some (.inr (.retAddr 2)), some (.inr (.ref 0)), some (.inr (.ref 197)), some (.inr (.ref 206)), some (.inl i), none, none, none, none] [] X' (k + 1) (n + 6)) : J G SHP iLw 601024 7293034 F 312 [some (.inr (.retAddr 2)), some (.inr (.ref 0)), some (.inr (.ref 197)), some (.inr (.ref 206)), some (.inl i), none, none, none, none] [] X k n := by
  have hL := hsc.2
  refine j_aload1 (q := 313) dL_law_312 rfl ?_
  refine j_oload0 (q := 314) dL_law_313 rfl ?_
  refine j_iload4 (q := 316) dL_law_314 rfl ?_
  refine j_iconst (q := 317) dL_law_316 rfl ?_
  refine j_iadd (q := 318) dL_law_317 rfl ?_
  refine j_oload (j := 2) (q := 319) (i' := i + 1) (by decide) dL_law_318 rfl (wr_id' (by omega) (by omega)) (by omega) (by omega) ?_
  refine j_oload0 (q := 320) dL_law_319 rfl ?_
  refine j_iload4 (q := 322) dL_law_320 rfl ?_
  refine j_iconst (q := 323) dL_law_322 rfl ?_
  refine j_iadd (q := 324) dL_law_323 rfl ?_
  refine j_oload (j := 2) (q := 325) (i' := i + 2) (by decide) dL_law_324 rfl (wr_id' (by omega) (by omega)) (by omega) (by omega) ?_
  refine j_aload3 (q := 326) dL_law_325 rfl ?_
  obtain ⟨kx, bx, X1, X2, w, c, h12, hkr, hq, hL2⟩ := tw_set E h0 hB hK g8 gm (hsc.1 (i + 1)) (hsc.1 (i + 2))
  refine j_callW4 (Mc := iL_set) (q := 329) (c' := 1) (s' := 6) dL_law_326 rfl kW_L_set jw_745 ⟨by decide, by decide⟩ rfl hk hn w ?_
  refine j_istore5 (q := 331) dL_law_329 rfl rfl (by decide) ?_
  refine j_aload2 (q := 332) dL_law_331 rfl ?_
  refine j_oload0 (q := 333) dL_law_332 rfl ?_
  refine j_iload4 (q := 335) dL_law_333 rfl ?_
  refine j_iconst (q := 336) dL_law_335 rfl ?_
  refine j_iadd (q := 337) dL_law_336 rfl ?_
  refine j_oload (j := 2) (q := 338) (i' := i + 1) (by decide) dL_law_337 rfl (wr_id' (by omega) (by omega)) (by omega) (by omega) ?_
  refine j_oload0 (q := 339) dL_law_338 rfl ?_
  refine j_iload4 (q := 341) dL_law_339 rfl ?_
  refine j_iconst (q := 342) dL_law_341 rfl ?_
  refine j_iadd (q := 343) dL_law_342 rfl ?_
  refine j_oload (j := 2) (q := 344) (i' := i + 2) (by decide) dL_law_343 rfl (wr_id' (by omega) (by omega)) (by omega) (by omega) ?_
  refine j_callV2 (Mc := iX8_set) (q := 347) (c' := 0) (s' := 0) dL_law_344 rfl kV_X8_set jw_1050 ⟨by decide, by decide⟩ sh_197 rfl rfl rfl (by omega) (by omega) c ?_
  refine j_istore6 (q := 349) dL_law_347 rfl rfl (by decide) ?_
  refine j_aload2 (q := 350) dL_law_349 rfl ?_
  refine j_callV0 (Mc := iX8_thrown) (q := 353) (c' := 0) (s' := 0) dL_law_350 rfl kV_X8_thrown jw_1027 ⟨by decide, by decide⟩ sh_197 rfl rfl rfl (by omega) (by omega) (ct_thr E) ?_
  refine j_iload5 (q := 355) dL_law_353 rfl ?_
  refine j_icmp_eq (x' := kx) (y' := kx) (tgt := 360) (q := 358) dL_law_355 (by decide) rfl (by rw [h12]; exact wr_id' (by omega) (by omega)) (wr_id' (by omega) (by omega)) (fun _ => ?_) (fun hh => absurd rfl hh)
  refine j_iload5 (q := 362) dL_law_360 rfl ?_
  refine j_if_ne (x' := kx) (tgt := 377) (q := 365) dL_law_362 (by decide) rfl (wr_id' (by omega) (by omega)) (fun hne => ?_) (fun heq => ?_)
  · refine j_goto (tgt := 1958) dL_law_377 (by decide) ?_
    refine j_fgt5 ?_
    refine j_fgt6 ?_
    exact j_kn (by omega) (by omega) (kk _ hL2)
  · refine j_aload3 (q := 366) dL_law_365 rfl ?_
    refine j_iconst (q := 367) dL_law_366 rfl ?_
    refine j_laload (q := 368) (i' := 0) dL_law_367 rfl sh_206 rfl (by decide) (by decide) ?_
    refine j_iload6 (q := 370) dL_law_368 rfl ?_
    refine j_i2l (q := 371) dL_law_370 rfl ?_
    refine j_lcmp (q := 372) dL_law_371 rfl ?_
    refine j_ifeq_l (tgt := 377) (q := 375) dL_law_372 (by decide) rfl (fun _ => ?_) (fun hne => absurd (hq heq) hne)
    refine j_goto (tgt := 1958) dL_law_377 (by decide) ?_
    refine j_fgt5 ?_
    refine j_fgt6 ?_
    exact j_kn (by omega) (by omega) (kk _ hL2)
theorem bk_lease {G : GX} (E : EV G) (hsc : SC G) {F : FinT} {i : Int} (hi : 0 ≤ i ∧ i + 5 ≤ ((gE G 2).2.1 : Int)) {X : Mem} {B K : Int} (h0 : LW X B K) (hB : B + 32 ≤ 1000000) (hK : K + 1 ≤ 512) {k n : Nat} (hk : k + 1 ≤ 601024) (hn : n + 6 ≤ 7293034) (kk : ∀ X' : Mem, LW X' (B + 32) (K + 1) → J G SHP iLw 601024 7293034 F 1958 [some (.inr (.retAddr 2)), some (.inr (.ref 0)), some (.inr (.ref 197)), some (.inr (.ref 206)), some (.inl i), none, none, none, none] [] X' (k + 1) (n + 6)) : J G SHP iLw 601024 7293034 F 380 [some (.inr (.retAddr 2)), some (.inr (.ref 0)), some (.inr (.ref 197)), some (.inr (.ref 206)), some (.inl i), none, none, none, none] [] X k n := by
  have hL := hsc.2
  refine j_aload1 (q := 381) dL_law_380 rfl ?_
  refine j_oload0 (q := 382) dL_law_381 rfl ?_
  refine j_iload4 (q := 384) dL_law_382 rfl ?_
  refine j_iconst (q := 385) dL_law_384 rfl ?_
  refine j_iadd (q := 386) dL_law_385 rfl ?_
  refine j_oload (j := 2) (q := 387) (i' := i + 1) (by decide) dL_law_386 rfl (wr_id' (by omega) (by omega)) (by omega) (by omega) ?_
  refine j_oload0 (q := 388) dL_law_387 rfl ?_
  refine j_iload4 (q := 390) dL_law_388 rfl ?_
  refine j_iconst (q := 391) dL_law_390 rfl ?_
  refine j_iadd (q := 392) dL_law_391 rfl ?_
  refine j_oload (j := 2) (q := 393) (i' := i + 2) (by decide) dL_law_392 rfl (wr_id' (by omega) (by omega)) (by omega) (by omega) ?_
  refine j_oload0 (q := 394) dL_law_393 rfl ?_
  refine j_iload4 (q := 396) dL_law_394 rfl ?_
  refine j_iconst (q := 397) dL_law_396 rfl ?_
  refine j_iadd (q := 398) dL_law_397 rfl ?_
  refine j_oload (j := 2) (q := 399) (i' := i + 3) (by decide) dL_law_398 rfl (wr_id' (by omega) (by omega)) (by omega) (by omega) ?_
  refine j_aload3 (q := 400) dL_law_399 rfl ?_
  obtain ⟨kx, bx, X1, X2, w, c, h12, hkr, hq, hL2⟩ := tw_lease E h0 hB hK (hsc.1 (i + 1)) (hsc.1 (i + 2)) (hsc.1 (i + 3))
  refine j_callW5 (Mc := iL_lease) (q := 403) (c' := 1) (s' := 6) dL_law_400 rfl kW_L_lease jw_755 ⟨by decide, by decide⟩ rfl hk hn w ?_
  refine j_istore5 (q := 405) dL_law_403 rfl rfl (by decide) ?_
  refine j_aload2 (q := 406) dL_law_405 rfl ?_
  refine j_oload0 (q := 407) dL_law_406 rfl ?_
  refine j_iload4 (q := 409) dL_law_407 rfl ?_
  refine j_iconst (q := 410) dL_law_409 rfl ?_
  refine j_iadd (q := 411) dL_law_410 rfl ?_
  refine j_oload (j := 2) (q := 412) (i' := i + 1) (by decide) dL_law_411 rfl (wr_id' (by omega) (by omega)) (by omega) (by omega) ?_
  refine j_oload0 (q := 413) dL_law_412 rfl ?_
  refine j_iload4 (q := 415) dL_law_413 rfl ?_
  refine j_iconst (q := 416) dL_law_415 rfl ?_
  refine j_iadd (q := 417) dL_law_416 rfl ?_
  refine j_oload (j := 2) (q := 418) (i' := i + 2) (by decide) dL_law_417 rfl (wr_id' (by omega) (by omega)) (by omega) (by omega) ?_
  refine j_oload0 (q := 419) dL_law_418 rfl ?_
  refine j_iload4 (q := 421) dL_law_419 rfl ?_
  refine j_iconst (q := 422) dL_law_421 rfl ?_
  refine j_iadd (q := 423) dL_law_422 rfl ?_
  refine j_oload (j := 2) (q := 424) (i' := i + 3) (by decide) dL_law_423 rfl (wr_id' (by omega) (by omega)) (by omega) (by omega) ?_
  refine j_callV3 (Mc := iX8_lease) (q := 427) (c' := 0) (s' := 0) dL_law_424 rfl kV_X8_lease jw_1061 ⟨by decide, by decide⟩ sh_197 rfl rfl rfl (by omega) (by omega) c ?_
  refine j_istore6 (q := 429) dL_law_427 rfl rfl (by decide) ?_
  refine j_aload2 (q := 430) dL_law_429 rfl ?_
  refine j_callV0 (Mc := iX8_thrown) (q := 433) (c' := 0) (s' := 0) dL_law_430 rfl kV_X8_thrown jw_1027 ⟨by decide, by decide⟩ sh_197 rfl rfl rfl (by omega) (by omega) (ct_thr E) ?_
  refine j_iload5 (q := 435) dL_law_433 rfl ?_
  refine j_icmp_eq (x' := kx) (y' := kx) (tgt := 440) (q := 438) dL_law_435 (by decide) rfl (by rw [h12]; exact wr_id' (by omega) (by omega)) (wr_id' (by omega) (by omega)) (fun _ => ?_) (fun hh => absurd rfl hh)
  refine j_iload5 (q := 442) dL_law_440 rfl ?_
  refine j_if_ne (x' := kx) (tgt := 457) (q := 445) dL_law_442 (by decide) rfl (wr_id' (by omega) (by omega)) (fun hne => ?_) (fun heq => ?_)
  · refine j_goto (tgt := 1958) dL_law_457 (by decide) ?_
    refine j_fgt5 ?_
    refine j_fgt6 ?_
    exact j_kn (by omega) (by omega) (kk _ hL2)
  · refine j_aload3 (q := 446) dL_law_445 rfl ?_
    refine j_iconst (q := 447) dL_law_446 rfl ?_
    refine j_laload (q := 448) (i' := 0) dL_law_447 rfl sh_206 rfl (by decide) (by decide) ?_
    refine j_iload6 (q := 450) dL_law_448 rfl ?_
    refine j_i2l (q := 451) dL_law_450 rfl ?_
    refine j_lcmp (q := 452) dL_law_451 rfl ?_
    refine j_ifeq_l (tgt := 457) (q := 455) dL_law_452 (by decide) rfl (fun _ => ?_) (fun hne => absurd (hq heq) hne)
    refine j_goto (tgt := 1958) dL_law_457 (by decide) ?_
    refine j_fgt5 ?_
    refine j_fgt6 ?_
    exact j_kn (by omega) (by omega) (kk _ hL2)
theorem bk_insure {G : GX} (E : EV G) (hsc : SC G) {F : FinT} {i : Int} (hi : 0 ≤ i ∧ i + 5 ≤ ((gE G 2).2.1 : Int)) {X : Mem} {B K : Int} (h0 : LW X B K) (hB : B + 32 ≤ 1000000) (hK : K + 1 ≤ 512) {k n : Nat} (hk : k + 1 ≤ 601024) (hn : n + 6 ≤ 7293034) (kk : ∀ X' : Mem, LW X' (B + 32) (K + 1) → J G SHP iLw 601024 7293034 F 1958 [some (.inr (.retAddr 2)), some (.inr (.ref 0)), some (.inr (.ref 197)), some (.inr (.ref 206)), some (.inl i), none, none, none, none] [] X' (k + 1) (n + 6)) : J G SHP iLw 601024 7293034 F 460 [some (.inr (.retAddr 2)), some (.inr (.ref 0)), some (.inr (.ref 197)), some (.inr (.ref 206)), some (.inl i), none, none, none, none] [] X k n := by
  have hL := hsc.2
  refine j_aload1 (q := 461) dL_law_460 rfl ?_
  refine j_oload0 (q := 462) dL_law_461 rfl ?_
  refine j_iload4 (q := 464) dL_law_462 rfl ?_
  refine j_iconst (q := 465) dL_law_464 rfl ?_
  refine j_iadd (q := 466) dL_law_465 rfl ?_
  refine j_oload (j := 2) (q := 467) (i' := i + 1) (by decide) dL_law_466 rfl (wr_id' (by omega) (by omega)) (by omega) (by omega) ?_
  refine j_oload0 (q := 468) dL_law_467 rfl ?_
  refine j_iload4 (q := 470) dL_law_468 rfl ?_
  refine j_iconst (q := 471) dL_law_470 rfl ?_
  refine j_iadd (q := 472) dL_law_471 rfl ?_
  refine j_oload (j := 2) (q := 473) (i' := i + 2) (by decide) dL_law_472 rfl (wr_id' (by omega) (by omega)) (by omega) (by omega) ?_
  refine j_oload0 (q := 474) dL_law_473 rfl ?_
  refine j_iload4 (q := 476) dL_law_474 rfl ?_
  refine j_iconst (q := 477) dL_law_476 rfl ?_
  refine j_iadd (q := 478) dL_law_477 rfl ?_
  refine j_oload (j := 2) (q := 479) (i' := i + 3) (by decide) dL_law_478 rfl (wr_id' (by omega) (by omega)) (by omega) (by omega) ?_
  refine j_aload3 (q := 480) dL_law_479 rfl ?_
  obtain ⟨kx, bx, X1, X2, w, c, h12, hkr, hq, hL2⟩ := tw_insure E h0 hB hK (hsc.1 (i + 1)) (hsc.1 (i + 2)) (hsc.1 (i + 3))
  refine j_callW5 (Mc := iL_insure) (q := 483) (c' := 1) (s' := 6) dL_law_480 rfl kW_L_insure jw_772 ⟨by decide, by decide⟩ rfl hk hn w ?_
  refine j_istore5 (q := 485) dL_law_483 rfl rfl (by decide) ?_
  refine j_aload2 (q := 486) dL_law_485 rfl ?_
  refine j_oload0 (q := 487) dL_law_486 rfl ?_
  refine j_iload4 (q := 489) dL_law_487 rfl ?_
  refine j_iconst (q := 490) dL_law_489 rfl ?_
  refine j_iadd (q := 491) dL_law_490 rfl ?_
  refine j_oload (j := 2) (q := 492) (i' := i + 1) (by decide) dL_law_491 rfl (wr_id' (by omega) (by omega)) (by omega) (by omega) ?_
  refine j_oload0 (q := 493) dL_law_492 rfl ?_
  refine j_iload4 (q := 495) dL_law_493 rfl ?_
  refine j_iconst (q := 496) dL_law_495 rfl ?_
  refine j_iadd (q := 497) dL_law_496 rfl ?_
  refine j_oload (j := 2) (q := 498) (i' := i + 2) (by decide) dL_law_497 rfl (wr_id' (by omega) (by omega)) (by omega) (by omega) ?_
  refine j_oload0 (q := 499) dL_law_498 rfl ?_
  refine j_iload4 (q := 501) dL_law_499 rfl ?_
  refine j_iconst (q := 502) dL_law_501 rfl ?_
  refine j_iadd (q := 503) dL_law_502 rfl ?_
  refine j_oload (j := 2) (q := 504) (i' := i + 3) (by decide) dL_law_503 rfl (wr_id' (by omega) (by omega)) (by omega) (by omega) ?_
  refine j_callV3 (Mc := iX8_insure) (q := 507) (c' := 0) (s' := 0) dL_law_504 rfl kV_X8_insure jw_1087 ⟨by decide, by decide⟩ sh_197 rfl rfl rfl (by omega) (by omega) c ?_
  refine j_istore6 (q := 509) dL_law_507 rfl rfl (by decide) ?_
  refine j_aload2 (q := 510) dL_law_509 rfl ?_
  refine j_callV0 (Mc := iX8_thrown) (q := 513) (c' := 0) (s' := 0) dL_law_510 rfl kV_X8_thrown jw_1027 ⟨by decide, by decide⟩ sh_197 rfl rfl rfl (by omega) (by omega) (ct_thr E) ?_
  refine j_iload5 (q := 515) dL_law_513 rfl ?_
  refine j_icmp_eq (x' := kx) (y' := kx) (tgt := 520) (q := 518) dL_law_515 (by decide) rfl (by rw [h12]; exact wr_id' (by omega) (by omega)) (wr_id' (by omega) (by omega)) (fun _ => ?_) (fun hh => absurd rfl hh)
  refine j_iload5 (q := 522) dL_law_520 rfl ?_
  refine j_if_ne (x' := kx) (tgt := 537) (q := 525) dL_law_522 (by decide) rfl (wr_id' (by omega) (by omega)) (fun hne => ?_) (fun heq => ?_)
  · refine j_goto (tgt := 1958) dL_law_537 (by decide) ?_
    refine j_fgt5 ?_
    refine j_fgt6 ?_
    exact j_kn (by omega) (by omega) (kk _ hL2)
  · refine j_aload3 (q := 526) dL_law_525 rfl ?_
    refine j_iconst (q := 527) dL_law_526 rfl ?_
    refine j_laload (q := 528) (i' := 0) dL_law_527 rfl sh_206 rfl (by decide) (by decide) ?_
    refine j_iload6 (q := 530) dL_law_528 rfl ?_
    refine j_i2l (q := 531) dL_law_530 rfl ?_
    refine j_lcmp (q := 532) dL_law_531 rfl ?_
    refine j_ifeq_l (tgt := 537) (q := 535) dL_law_532 (by decide) rfl (fun _ => ?_) (fun hne => absurd (hq heq) hne)
    refine j_goto (tgt := 1958) dL_law_537 (by decide) ?_
    refine j_fgt5 ?_
    refine j_fgt6 ?_
    exact j_kn (by omega) (by omega) (kk _ hL2)
theorem bk_renew {G : GX} (E : EV G) (hsc : SC G) {F : FinT} {i : Int} (hi : 0 ≤ i ∧ i + 5 ≤ ((gE G 2).2.1 : Int)) {X : Mem} {B K : Int} (h0 : LW X B K) (hB : B + 32 ≤ 1000000) (hK : K + 1 ≤ 512) {k n : Nat} (hk : k + 1 ≤ 601024) (hn : n + 6 ≤ 7293034) (kk : ∀ X' : Mem, LW X' (B + 32) (K + 1) → J G SHP iLw 601024 7293034 F 1958 [some (.inr (.retAddr 2)), some (.inr (.ref 0)), some (.inr (.ref 197)), some (.inr (.ref 206)), some (.inl i), none, none, none, none] [] X' (k + 1) (n + 6)) : J G SHP iLw 601024 7293034 F 540 [some (.inr (.retAddr 2)), some (.inr (.ref 0)), some (.inr (.ref 197)), some (.inr (.ref 206)), some (.inl i), none, none, none, none] [] X k n := by
  have hL := hsc.2
  refine j_aload1 (q := 541) dL_law_540 rfl ?_
  refine j_oload0 (q := 542) dL_law_541 rfl ?_
  refine j_iload4 (q := 544) dL_law_542 rfl ?_
  refine j_iconst (q := 545) dL_law_544 rfl ?_
  refine j_iadd (q := 546) dL_law_545 rfl ?_
  refine j_oload (j := 2) (q := 547) (i' := i + 1) (by decide) dL_law_546 rfl (wr_id' (by omega) (by omega)) (by omega) (by omega) ?_
  refine j_aload3 (q := 548) dL_law_547 rfl ?_
  obtain ⟨kx, bx, X1, X2, w, c, h12, hkr, hq, hL2⟩ := tw_renew E h0 hB hK (hsc.1 (i + 1))
  refine j_callW3 (Mc := iL_renew) (q := 551) (c' := 1) (s' := 6) dL_law_548 rfl kW_L_renew jw_788 ⟨by decide, by decide⟩ rfl hk hn w ?_
  refine j_istore5 (q := 553) dL_law_551 rfl rfl (by decide) ?_
  refine j_aload2 (q := 554) dL_law_553 rfl ?_
  refine j_oload0 (q := 555) dL_law_554 rfl ?_
  refine j_iload4 (q := 557) dL_law_555 rfl ?_
  refine j_iconst (q := 558) dL_law_557 rfl ?_
  refine j_iadd (q := 559) dL_law_558 rfl ?_
  refine j_oload (j := 2) (q := 560) (i' := i + 1) (by decide) dL_law_559 rfl (wr_id' (by omega) (by omega)) (by omega) (by omega) ?_
  refine j_callV1 (Mc := iX8_renew) (q := 563) (c' := 0) (s' := 0) dL_law_560 rfl kV_X8_renew jw_1111 ⟨by decide, by decide⟩ sh_197 rfl rfl rfl (by omega) (by omega) c ?_
  refine j_istore6 (q := 565) dL_law_563 rfl rfl (by decide) ?_
  refine j_aload2 (q := 566) dL_law_565 rfl ?_
  refine j_callV0 (Mc := iX8_thrown) (q := 569) (c' := 0) (s' := 0) dL_law_566 rfl kV_X8_thrown jw_1027 ⟨by decide, by decide⟩ sh_197 rfl rfl rfl (by omega) (by omega) (ct_thr E) ?_
  refine j_iload5 (q := 571) dL_law_569 rfl ?_
  refine j_icmp_eq (x' := kx) (y' := kx) (tgt := 576) (q := 574) dL_law_571 (by decide) rfl (by rw [h12]; exact wr_id' (by omega) (by omega)) (wr_id' (by omega) (by omega)) (fun _ => ?_) (fun hh => absurd rfl hh)
  refine j_iload5 (q := 578) dL_law_576 rfl ?_
  refine j_if_ne (x' := kx) (tgt := 593) (q := 581) dL_law_578 (by decide) rfl (wr_id' (by omega) (by omega)) (fun hne => ?_) (fun heq => ?_)
  · refine j_goto (tgt := 1958) dL_law_593 (by decide) ?_
    refine j_fgt5 ?_
    refine j_fgt6 ?_
    exact j_kn (by omega) (by omega) (kk _ hL2)
  · refine j_aload3 (q := 582) dL_law_581 rfl ?_
    refine j_iconst (q := 583) dL_law_582 rfl ?_
    refine j_laload (q := 584) (i' := 0) dL_law_583 rfl sh_206 rfl (by decide) (by decide) ?_
    refine j_iload6 (q := 586) dL_law_584 rfl ?_
    refine j_i2l (q := 587) dL_law_586 rfl ?_
    refine j_lcmp (q := 588) dL_law_587 rfl ?_
    refine j_ifeq_l (tgt := 593) (q := 591) dL_law_588 (by decide) rfl (fun _ => ?_) (fun hne => absurd (hq heq) hne)
    refine j_goto (tgt := 1958) dL_law_593 (by decide) ?_
    refine j_fgt5 ?_
    refine j_fgt6 ?_
    exact j_kn (by omega) (by omega) (kk _ hL2)
theorem bk_write {G : GX} (E : EV G) (hsc : SC G) {F : FinT} {i : Int} (hi : 0 ≤ i ∧ i + 5 ≤ ((gE G 2).2.1 : Int)) {X : Mem} {B K : Int} (h0 : LW X B K) (hB : B + 32 ≤ 1000000) (hK : K + 1 ≤ 512) {k n : Nat} (hk : k + 1 ≤ 601024) (hn : n + 6 ≤ 7293034) (kk : ∀ X' : Mem, LW X' (B + 32) (K + 1) → J G SHP iLw 601024 7293034 F 1958 [some (.inr (.retAddr 2)), some (.inr (.ref 0)), some (.inr (.ref 197)), some (.inr (.ref 206)), some (.inl i), none, none, none, none] [] X' (k + 1) (n + 6)) : J G SHP iLw 601024 7293034 F 596 [some (.inr (.retAddr 2)), some (.inr (.ref 0)), some (.inr (.ref 197)), some (.inr (.ref 206)), some (.inl i), none, none, none, none] [] X k n := by
  have hL := hsc.2
  refine j_aload1 (q := 597) dL_law_596 rfl ?_
  refine j_oload0 (q := 598) dL_law_597 rfl ?_
  refine j_iload4 (q := 600) dL_law_598 rfl ?_
  refine j_iconst (q := 601) dL_law_600 rfl ?_
  refine j_iadd (q := 602) dL_law_601 rfl ?_
  refine j_oload (j := 2) (q := 603) (i' := i + 1) (by decide) dL_law_602 rfl (wr_id' (by omega) (by omega)) (by omega) (by omega) ?_
  refine j_oload0 (q := 604) dL_law_603 rfl ?_
  refine j_iload4 (q := 606) dL_law_604 rfl ?_
  refine j_iconst (q := 607) dL_law_606 rfl ?_
  refine j_iadd (q := 608) dL_law_607 rfl ?_
  refine j_oload (j := 2) (q := 609) (i' := i + 2) (by decide) dL_law_608 rfl (wr_id' (by omega) (by omega)) (by omega) (by omega) ?_
  refine j_if_eq (x' := ((gE G 2).2.2 (i + 2))) (tgt := 616) (q := 612) dL_law_609 (by decide) rfl (wr_id' (hsc.1 _).1 (hsc.1 _).2) (fun h609 => ?_) (fun h609 => ?_)
  · refine j_iconst (q := 617) dL_law_616 rfl ?_
    refine j_aload3 (q := 618) dL_law_617 rfl ?_
    obtain ⟨kx, bx, X1, X2, w, c, h12, hkr, hq, hL2⟩ := tw_write E h0 hB hK (b := false) (hsc.1 (i + 1))
    refine j_callW4 (Mc := iL_write) (q := 621) (c' := 1) (s' := 6) dL_law_618 rfl kW_L_write jw_799 ⟨by decide, by decide⟩ rfl hk hn w ?_
    refine j_istore5 (q := 623) dL_law_621 rfl rfl (by decide) ?_
    refine j_aload2 (q := 624) dL_law_623 rfl ?_
    refine j_oload0 (q := 625) dL_law_624 rfl ?_
    refine j_iload4 (q := 627) dL_law_625 rfl ?_
    refine j_iconst (q := 628) dL_law_627 rfl ?_
    refine j_iadd (q := 629) dL_law_628 rfl ?_
    refine j_oload (j := 2) (q := 630) (i' := i + 1) (by decide) dL_law_629 rfl (wr_id' (by omega) (by omega)) (by omega) (by omega) ?_
    refine j_oload0 (q := 631) dL_law_630 rfl ?_
    refine j_iload4 (q := 633) dL_law_631 rfl ?_
    refine j_iconst (q := 634) dL_law_633 rfl ?_
    refine j_iadd (q := 635) dL_law_634 rfl ?_
    refine j_oload (j := 2) (q := 636) (i' := i + 2) (by decide) dL_law_635 rfl (wr_id' (by omega) (by omega)) (by omega) (by omega) ?_
    refine j_if_eq (x' := ((gE G 2).2.2 (i + 2))) (tgt := 643) (q := 639) dL_law_636 (by decide) rfl (wr_id' (hsc.1 _).1 (hsc.1 _).2) (fun h636 => ?_) (fun h636 => ?_)
    · refine j_iconst (q := 644) dL_law_643 rfl ?_
      refine j_callV2 (Mc := iX8_write) (q := 647) (c' := 0) (s' := 0) dL_law_644 rfl kV_X8_write jw_1115 ⟨by decide, by decide⟩ sh_197 rfl rfl rfl (by omega) (by omega) c ?_
      refine j_istore6 (q := 649) dL_law_647 rfl rfl (by decide) ?_
      refine j_aload2 (q := 650) dL_law_649 rfl ?_
      refine j_callV0 (Mc := iX8_thrown) (q := 653) (c' := 0) (s' := 0) dL_law_650 rfl kV_X8_thrown jw_1027 ⟨by decide, by decide⟩ sh_197 rfl rfl rfl (by omega) (by omega) (ct_thr E) ?_
      refine j_iload5 (q := 655) dL_law_653 rfl ?_
      refine j_icmp_eq (x' := kx) (y' := kx) (tgt := 660) (q := 658) dL_law_655 (by decide) rfl (by rw [h12]; exact wr_id' (by omega) (by omega)) (wr_id' (by omega) (by omega)) (fun _ => ?_) (fun hh => absurd rfl hh)
      refine j_iload5 (q := 662) dL_law_660 rfl ?_
      refine j_if_ne (x' := kx) (tgt := 677) (q := 665) dL_law_662 (by decide) rfl (wr_id' (by omega) (by omega)) (fun hne => ?_) (fun heq => ?_)
      · refine j_goto (tgt := 1958) dL_law_677 (by decide) ?_
        refine j_fgt5 ?_
        refine j_fgt6 ?_
        exact j_kn (by omega) (by omega) (kk _ hL2)
      · refine j_aload3 (q := 666) dL_law_665 rfl ?_
        refine j_iconst (q := 667) dL_law_666 rfl ?_
        refine j_laload (q := 668) (i' := 0) dL_law_667 rfl sh_206 rfl (by decide) (by decide) ?_
        refine j_iload6 (q := 670) dL_law_668 rfl ?_
        refine j_i2l (q := 671) dL_law_670 rfl ?_
        refine j_lcmp (q := 672) dL_law_671 rfl ?_
        refine j_ifeq_l (tgt := 677) (q := 675) dL_law_672 (by decide) rfl (fun _ => ?_) (fun hne => absurd (hq heq) hne)
        refine j_goto (tgt := 1958) dL_law_677 (by decide) ?_
        refine j_fgt5 ?_
        refine j_fgt6 ?_
        exact j_kn (by omega) (by omega) (kk _ hL2)
    · exact absurd h609 h636
  · refine j_iconst (q := 613) dL_law_612 rfl ?_
    refine j_goto (tgt := 617) dL_law_613 (by decide) ?_
    refine j_aload3 (q := 618) dL_law_617 rfl ?_
    obtain ⟨kx, bx, X1, X2, w, c, h12, hkr, hq, hL2⟩ := tw_write E h0 hB hK (b := true) (hsc.1 (i + 1))
    refine j_callW4 (Mc := iL_write) (q := 621) (c' := 1) (s' := 6) dL_law_618 rfl kW_L_write jw_799 ⟨by decide, by decide⟩ rfl hk hn w ?_
    refine j_istore5 (q := 623) dL_law_621 rfl rfl (by decide) ?_
    refine j_aload2 (q := 624) dL_law_623 rfl ?_
    refine j_oload0 (q := 625) dL_law_624 rfl ?_
    refine j_iload4 (q := 627) dL_law_625 rfl ?_
    refine j_iconst (q := 628) dL_law_627 rfl ?_
    refine j_iadd (q := 629) dL_law_628 rfl ?_
    refine j_oload (j := 2) (q := 630) (i' := i + 1) (by decide) dL_law_629 rfl (wr_id' (by omega) (by omega)) (by omega) (by omega) ?_
    refine j_oload0 (q := 631) dL_law_630 rfl ?_
    refine j_iload4 (q := 633) dL_law_631 rfl ?_
    refine j_iconst (q := 634) dL_law_633 rfl ?_
    refine j_iadd (q := 635) dL_law_634 rfl ?_
    refine j_oload (j := 2) (q := 636) (i' := i + 2) (by decide) dL_law_635 rfl (wr_id' (by omega) (by omega)) (by omega) (by omega) ?_
    refine j_if_eq (x' := ((gE G 2).2.2 (i + 2))) (tgt := 643) (q := 639) dL_law_636 (by decide) rfl (wr_id' (hsc.1 _).1 (hsc.1 _).2) (fun h636 => ?_) (fun h636 => ?_)
    · exact absurd h636 h609
    · refine j_iconst (q := 640) dL_law_639 rfl ?_
      refine j_goto (tgt := 644) dL_law_640 (by decide) ?_
      refine j_callV2 (Mc := iX8_write) (q := 647) (c' := 0) (s' := 0) dL_law_644 rfl kV_X8_write jw_1115 ⟨by decide, by decide⟩ sh_197 rfl rfl rfl (by omega) (by omega) c ?_
      refine j_istore6 (q := 649) dL_law_647 rfl rfl (by decide) ?_
      refine j_aload2 (q := 650) dL_law_649 rfl ?_
      refine j_callV0 (Mc := iX8_thrown) (q := 653) (c' := 0) (s' := 0) dL_law_650 rfl kV_X8_thrown jw_1027 ⟨by decide, by decide⟩ sh_197 rfl rfl rfl (by omega) (by omega) (ct_thr E) ?_
      refine j_iload5 (q := 655) dL_law_653 rfl ?_
      refine j_icmp_eq (x' := kx) (y' := kx) (tgt := 660) (q := 658) dL_law_655 (by decide) rfl (by rw [h12]; exact wr_id' (by omega) (by omega)) (wr_id' (by omega) (by omega)) (fun _ => ?_) (fun hh => absurd rfl hh)
      refine j_iload5 (q := 662) dL_law_660 rfl ?_
      refine j_if_ne (x' := kx) (tgt := 677) (q := 665) dL_law_662 (by decide) rfl (wr_id' (by omega) (by omega)) (fun hne => ?_) (fun heq => ?_)
      · refine j_goto (tgt := 1958) dL_law_677 (by decide) ?_
        refine j_fgt5 ?_
        refine j_fgt6 ?_
        exact j_kn (by omega) (by omega) (kk _ hL2)
      · refine j_aload3 (q := 666) dL_law_665 rfl ?_
        refine j_iconst (q := 667) dL_law_666 rfl ?_
        refine j_laload (q := 668) (i' := 0) dL_law_667 rfl sh_206 rfl (by decide) (by decide) ?_
        refine j_iload6 (q := 670) dL_law_668 rfl ?_
        refine j_i2l (q := 671) dL_law_670 rfl ?_
        refine j_lcmp (q := 672) dL_law_671 rfl ?_
        refine j_ifeq_l (tgt := 677) (q := 675) dL_law_672 (by decide) rfl (fun _ => ?_) (fun hne => absurd (hq heq) hne)
        refine j_goto (tgt := 1958) dL_law_677 (by decide) ?_
        refine j_fgt5 ?_
        refine j_fgt6 ?_
        exact j_kn (by omega) (by omega) (kk _ hL2)
theorem bk_read {G : GX} (E : EV G) (hsc : SC G) {F : FinT} {i : Int} (hi : 0 ≤ i ∧ i + 5 ≤ ((gE G 2).2.1 : Int)) {X : Mem} {B K : Int} (h0 : LW X B K) (hB : B + 32 ≤ 1000000) (hK : K + 1 ≤ 512) {k n : Nat} (hk : k + 1 ≤ 601024) (hn : n + 6 ≤ 7293034) (kk : ∀ X' : Mem, LW X' (B + 32) (K + 1) → J G SHP iLw 601024 7293034 F 1958 [some (.inr (.retAddr 2)), some (.inr (.ref 0)), some (.inr (.ref 197)), some (.inr (.ref 206)), some (.inl i), none, none, none, none] [] X' (k + 1) (n + 6)) : J G SHP iLw 601024 7293034 F 680 [some (.inr (.retAddr 2)), some (.inr (.ref 0)), some (.inr (.ref 197)), some (.inr (.ref 206)), some (.inl i), none, none, none, none] [] X k n := by
  have hL := hsc.2
  refine j_aload1 (q := 681) dL_law_680 rfl ?_
  refine j_oload0 (q := 682) dL_law_681 rfl ?_
  refine j_iload4 (q := 684) dL_law_682 rfl ?_
  refine j_iconst (q := 685) dL_law_684 rfl ?_
  refine j_iadd (q := 686) dL_law_685 rfl ?_
  refine j_oload (j := 2) (q := 687) (i' := i + 1) (by decide) dL_law_686 rfl (wr_id' (by omega) (by omega)) (by omega) (by omega) ?_
  refine j_aload3 (q := 688) dL_law_687 rfl ?_
  obtain ⟨kx, bx, X1, X2, w, c, h12, hkr, hq, hL2⟩ := tw_read E h0 hB hK (hsc.1 (i + 1))
  refine j_callW3 (Mc := iL_read) (q := 691) (c' := 1) (s' := 6) dL_law_688 rfl kW_L_read jw_810 ⟨by decide, by decide⟩ rfl hk hn w ?_
  refine j_istore5 (q := 693) dL_law_691 rfl rfl (by decide) ?_
  refine j_aload2 (q := 694) dL_law_693 rfl ?_
  refine j_oload0 (q := 695) dL_law_694 rfl ?_
  refine j_iload4 (q := 697) dL_law_695 rfl ?_
  refine j_iconst (q := 698) dL_law_697 rfl ?_
  refine j_iadd (q := 699) dL_law_698 rfl ?_
  refine j_oload (j := 2) (q := 700) (i' := i + 1) (by decide) dL_law_699 rfl (wr_id' (by omega) (by omega)) (by omega) (by omega) ?_
  refine j_callV1 (Mc := iX8_read) (q := 703) (c' := 0) (s' := 0) dL_law_700 rfl kV_X8_read jw_1156 ⟨by decide, by decide⟩ sh_197 rfl rfl rfl (by omega) (by omega) c ?_
  refine j_istore6 (q := 705) dL_law_703 rfl rfl (by decide) ?_
  refine j_aload2 (q := 706) dL_law_705 rfl ?_
  refine j_callV0 (Mc := iX8_thrown) (q := 709) (c' := 0) (s' := 0) dL_law_706 rfl kV_X8_thrown jw_1027 ⟨by decide, by decide⟩ sh_197 rfl rfl rfl (by omega) (by omega) (ct_thr E) ?_
  refine j_iload5 (q := 711) dL_law_709 rfl ?_
  refine j_icmp_eq (x' := kx) (y' := kx) (tgt := 716) (q := 714) dL_law_711 (by decide) rfl (by rw [h12]; exact wr_id' (by omega) (by omega)) (wr_id' (by omega) (by omega)) (fun _ => ?_) (fun hh => absurd rfl hh)
  refine j_iload5 (q := 718) dL_law_716 rfl ?_
  refine j_if_ne (x' := kx) (tgt := 733) (q := 721) dL_law_718 (by decide) rfl (wr_id' (by omega) (by omega)) (fun hne => ?_) (fun heq => ?_)
  · refine j_goto (tgt := 1958) dL_law_733 (by decide) ?_
    refine j_fgt5 ?_
    refine j_fgt6 ?_
    exact j_kn (by omega) (by omega) (kk _ hL2)
  · refine j_aload3 (q := 722) dL_law_721 rfl ?_
    refine j_iconst (q := 723) dL_law_722 rfl ?_
    refine j_laload (q := 724) (i' := 0) dL_law_723 rfl sh_206 rfl (by decide) (by decide) ?_
    refine j_iload6 (q := 726) dL_law_724 rfl ?_
    refine j_i2l (q := 727) dL_law_726 rfl ?_
    refine j_lcmp (q := 728) dL_law_727 rfl ?_
    refine j_ifeq_l (tgt := 733) (q := 731) dL_law_728 (by decide) rfl (fun _ => ?_) (fun hne => absurd (hq heq) hne)
    refine j_goto (tgt := 1958) dL_law_733 (by decide) ?_
    refine j_fgt5 ?_
    refine j_fgt6 ?_
    exact j_kn (by omega) (by omega) (kk _ hL2)
theorem bk_writeBack {G : GX} (E : EV G) (hsc : SC G) {F : FinT} {i : Int} (hi : 0 ≤ i ∧ i + 5 ≤ ((gE G 2).2.1 : Int)) {X : Mem} {B K : Int} (h0 : LW X B K) (hB : B + 32 ≤ 1000000) (hK : K + 1 ≤ 512) {k n : Nat} (hk : k + 1 ≤ 601024) (hn : n + 6 ≤ 7293034) (kk : ∀ X' : Mem, LW X' (B + 32) (K + 1) → J G SHP iLw 601024 7293034 F 1958 [some (.inr (.retAddr 2)), some (.inr (.ref 0)), some (.inr (.ref 197)), some (.inr (.ref 206)), some (.inl i), none, none, none, none] [] X' (k + 1) (n + 6)) : J G SHP iLw 601024 7293034 F 736 [some (.inr (.retAddr 2)), some (.inr (.ref 0)), some (.inr (.ref 197)), some (.inr (.ref 206)), some (.inl i), none, none, none, none] [] X k n := by
  have hL := hsc.2
  refine j_aload1 (q := 737) dL_law_736 rfl ?_
  refine j_aload3 (q := 738) dL_law_737 rfl ?_
  obtain ⟨kx, bx, X1, X2, w, c, h12, hkr, hq, hL2⟩ := tw_writeBack E h0 hB hK 
  refine j_callW2 (Mc := iL_writeBack) (q := 741) (c' := 1) (s' := 6) dL_law_738 rfl kW_L_writeBack jw_827 ⟨by decide, by decide⟩ rfl hk hn w ?_
  refine j_istore5 (q := 743) dL_law_741 rfl rfl (by decide) ?_
  refine j_aload2 (q := 744) dL_law_743 rfl ?_
  refine j_callV0 (Mc := iX8_writeBack) (q := 747) (c' := 0) (s' := 0) dL_law_744 rfl kV_X8_writeBack jw_1168 ⟨by decide, by decide⟩ sh_197 rfl rfl rfl (by omega) (by omega) c ?_
  refine j_istore6 (q := 749) dL_law_747 rfl rfl (by decide) ?_
  refine j_aload2 (q := 750) dL_law_749 rfl ?_
  refine j_callV0 (Mc := iX8_thrown) (q := 753) (c' := 0) (s' := 0) dL_law_750 rfl kV_X8_thrown jw_1027 ⟨by decide, by decide⟩ sh_197 rfl rfl rfl (by omega) (by omega) (ct_thr E) ?_
  refine j_iload5 (q := 755) dL_law_753 rfl ?_
  refine j_icmp_eq (x' := kx) (y' := kx) (tgt := 760) (q := 758) dL_law_755 (by decide) rfl (by rw [h12]; exact wr_id' (by omega) (by omega)) (wr_id' (by omega) (by omega)) (fun _ => ?_) (fun hh => absurd rfl hh)
  refine j_iload5 (q := 762) dL_law_760 rfl ?_
  refine j_if_ne (x' := kx) (tgt := 777) (q := 765) dL_law_762 (by decide) rfl (wr_id' (by omega) (by omega)) (fun hne => ?_) (fun heq => ?_)
  · refine j_goto (tgt := 1958) dL_law_777 (by decide) ?_
    refine j_fgt5 ?_
    refine j_fgt6 ?_
    exact j_kn (by omega) (by omega) (kk _ hL2)
  · refine j_aload3 (q := 766) dL_law_765 rfl ?_
    refine j_iconst (q := 767) dL_law_766 rfl ?_
    refine j_laload (q := 768) (i' := 0) dL_law_767 rfl sh_206 rfl (by decide) (by decide) ?_
    refine j_iload6 (q := 770) dL_law_768 rfl ?_
    refine j_i2l (q := 771) dL_law_770 rfl ?_
    refine j_lcmp (q := 772) dL_law_771 rfl ?_
    refine j_ifeq_l (tgt := 777) (q := 775) dL_law_772 (by decide) rfl (fun _ => ?_) (fun hne => absurd (hq heq) hne)
    refine j_goto (tgt := 1958) dL_law_777 (by decide) ?_
    refine j_fgt5 ?_
    refine j_fgt6 ?_
    exact j_kn (by omega) (by omega) (kk _ hL2)
theorem bk_pass {G : GX} (E : EV G) (hsc : SC G) {F : FinT} {i : Int} (hi : 0 ≤ i ∧ i + 5 ≤ ((gE G 2).2.1 : Int)) {X : Mem} {B K : Int} (h0 : LW X B K) (hB : B + 32 ≤ 1000000) (hK : K + 1 ≤ 512) {k n : Nat} (hk : k + 1 ≤ 601024) (hn : n + 6 ≤ 7293034) (kk : ∀ X' : Mem, LW X' (B + 32) (K + 1) → J G SHP iLw 601024 7293034 F 1958 [some (.inr (.retAddr 2)), some (.inr (.ref 0)), some (.inr (.ref 197)), some (.inr (.ref 206)), some (.inl i), none, none, none, none] [] X' (k + 1) (n + 6)) : J G SHP iLw 601024 7293034 F 780 [some (.inr (.retAddr 2)), some (.inr (.ref 0)), some (.inr (.ref 197)), some (.inr (.ref 206)), some (.inl i), none, none, none, none] [] X k n := by
  have hL := hsc.2
  refine j_aload1 (q := 781) dL_law_780 rfl ?_
  refine j_oload0 (q := 782) dL_law_781 rfl ?_
  refine j_iload4 (q := 784) dL_law_782 rfl ?_
  refine j_iconst (q := 785) dL_law_784 rfl ?_
  refine j_iadd (q := 786) dL_law_785 rfl ?_
  refine j_oload (j := 2) (q := 787) (i' := i + 1) (by decide) dL_law_786 rfl (wr_id' (by omega) (by omega)) (by omega) (by omega) ?_
  refine j_aload3 (q := 788) dL_law_787 rfl ?_
  obtain ⟨kx, bx, X1, X2, w, c, h12, hkr, hq, hL2⟩ := tw_pass E h0 hB hK (hsc.1 (i + 1))
  refine j_callW3 (Mc := iL_pass) (q := 791) (c' := 1) (s' := 6) dL_law_788 rfl kW_L_pass jw_834 ⟨by decide, by decide⟩ rfl hk hn w ?_
  refine j_istore5 (q := 793) dL_law_791 rfl rfl (by decide) ?_
  refine j_aload2 (q := 794) dL_law_793 rfl ?_
  refine j_oload0 (q := 795) dL_law_794 rfl ?_
  refine j_iload4 (q := 797) dL_law_795 rfl ?_
  refine j_iconst (q := 798) dL_law_797 rfl ?_
  refine j_iadd (q := 799) dL_law_798 rfl ?_
  refine j_oload (j := 2) (q := 800) (i' := i + 1) (by decide) dL_law_799 rfl (wr_id' (by omega) (by omega)) (by omega) (by omega) ?_
  refine j_callV1 (Mc := iX8_pass) (q := 803) (c' := 0) (s' := 0) dL_law_800 rfl kV_X8_pass jw_1188 ⟨by decide, by decide⟩ sh_197 rfl rfl rfl (by omega) (by omega) c ?_
  refine j_istore6 (q := 805) dL_law_803 rfl rfl (by decide) ?_
  refine j_aload2 (q := 806) dL_law_805 rfl ?_
  refine j_callV0 (Mc := iX8_thrown) (q := 809) (c' := 0) (s' := 0) dL_law_806 rfl kV_X8_thrown jw_1027 ⟨by decide, by decide⟩ sh_197 rfl rfl rfl (by omega) (by omega) (ct_thr E) ?_
  refine j_iload5 (q := 811) dL_law_809 rfl ?_
  refine j_icmp_eq (x' := kx) (y' := kx) (tgt := 816) (q := 814) dL_law_811 (by decide) rfl (by rw [h12]; exact wr_id' (by omega) (by omega)) (wr_id' (by omega) (by omega)) (fun _ => ?_) (fun hh => absurd rfl hh)
  refine j_iload5 (q := 818) dL_law_816 rfl ?_
  refine j_if_ne (x' := kx) (tgt := 833) (q := 821) dL_law_818 (by decide) rfl (wr_id' (by omega) (by omega)) (fun hne => ?_) (fun heq => ?_)
  · refine j_goto (tgt := 1958) dL_law_833 (by decide) ?_
    refine j_fgt5 ?_
    refine j_fgt6 ?_
    exact j_kn (by omega) (by omega) (kk _ hL2)
  · refine j_aload3 (q := 822) dL_law_821 rfl ?_
    refine j_iconst (q := 823) dL_law_822 rfl ?_
    refine j_laload (q := 824) (i' := 0) dL_law_823 rfl sh_206 rfl (by decide) (by decide) ?_
    refine j_iload6 (q := 826) dL_law_824 rfl ?_
    refine j_i2l (q := 827) dL_law_826 rfl ?_
    refine j_lcmp (q := 828) dL_law_827 rfl ?_
    refine j_ifeq_l (tgt := 833) (q := 831) dL_law_828 (by decide) rfl (fun _ => ?_) (fun hne => absurd (hq heq) hne)
    refine j_goto (tgt := 1958) dL_law_833 (by decide) ?_
    refine j_fgt5 ?_
    refine j_fgt6 ?_
    exact j_kn (by omega) (by omega) (kk _ hL2)
theorem bk_append {G : GX} (E : EV G) (hsc : SC G) {F : FinT} {i : Int} (hi : 0 ≤ i ∧ i + 5 ≤ ((gE G 2).2.1 : Int)) {X : Mem} {B K : Int} (h0 : LW X B K) (hB : B + 32 ≤ 1000000) (hK : K + 1 ≤ 512) {k n : Nat} (hk : k + 1 ≤ 601024) (hn : n + 6 ≤ 7293034) (kk : ∀ X' : Mem, LW X' (B + 32) (K + 1) → J G SHP iLw 601024 7293034 F 1958 [some (.inr (.retAddr 2)), some (.inr (.ref 0)), some (.inr (.ref 197)), some (.inr (.ref 206)), some (.inl i), none, none, none, none] [] X' (k + 1) (n + 6)) : J G SHP iLw 601024 7293034 F 836 [some (.inr (.retAddr 2)), some (.inr (.ref 0)), some (.inr (.ref 197)), some (.inr (.ref 206)), some (.inl i), none, none, none, none] [] X k n := by
  have hL := hsc.2
  refine j_aload1 (q := 837) dL_law_836 rfl ?_
  refine j_oload0 (q := 838) dL_law_837 rfl ?_
  refine j_iload4 (q := 840) dL_law_838 rfl ?_
  refine j_iconst (q := 841) dL_law_840 rfl ?_
  refine j_iadd (q := 842) dL_law_841 rfl ?_
  refine j_oload (j := 2) (q := 843) (i' := i + 1) (by decide) dL_law_842 rfl (wr_id' (by omega) (by omega)) (by omega) (by omega) ?_
  refine j_aload3 (q := 844) dL_law_843 rfl ?_
  obtain ⟨kx, bx, X1, X2, w, c, h12, hkr, hq, hL2⟩ := tw_append E h0 hB hK (hsc.1 (i + 1))
  refine j_callW3 (Mc := iL_append) (q := 847) (c' := 1) (s' := 6) dL_law_844 rfl kW_L_append jw_846 ⟨by decide, by decide⟩ rfl hk hn w ?_
  refine j_istore5 (q := 849) dL_law_847 rfl rfl (by decide) ?_
  refine j_aload2 (q := 850) dL_law_849 rfl ?_
  refine j_oload0 (q := 851) dL_law_850 rfl ?_
  refine j_iload4 (q := 853) dL_law_851 rfl ?_
  refine j_iconst (q := 854) dL_law_853 rfl ?_
  refine j_iadd (q := 855) dL_law_854 rfl ?_
  refine j_oload (j := 2) (q := 856) (i' := i + 1) (by decide) dL_law_855 rfl (wr_id' (by omega) (by omega)) (by omega) (by omega) ?_
  refine j_callV1 (Mc := iX8_append) (q := 859) (c' := 0) (s' := 0) dL_law_856 rfl kV_X8_append jw_1204 ⟨by decide, by decide⟩ sh_197 rfl rfl rfl (by omega) (by omega) c ?_
  refine j_istore6 (q := 861) dL_law_859 rfl rfl (by decide) ?_
  refine j_aload2 (q := 862) dL_law_861 rfl ?_
  refine j_callV0 (Mc := iX8_thrown) (q := 865) (c' := 0) (s' := 0) dL_law_862 rfl kV_X8_thrown jw_1027 ⟨by decide, by decide⟩ sh_197 rfl rfl rfl (by omega) (by omega) (ct_thr E) ?_
  refine j_iload5 (q := 867) dL_law_865 rfl ?_
  refine j_icmp_eq (x' := kx) (y' := kx) (tgt := 872) (q := 870) dL_law_867 (by decide) rfl (by rw [h12]; exact wr_id' (by omega) (by omega)) (wr_id' (by omega) (by omega)) (fun _ => ?_) (fun hh => absurd rfl hh)
  refine j_iload5 (q := 874) dL_law_872 rfl ?_
  refine j_if_ne (x' := kx) (tgt := 889) (q := 877) dL_law_874 (by decide) rfl (wr_id' (by omega) (by omega)) (fun hne => ?_) (fun heq => ?_)
  · refine j_goto (tgt := 1958) dL_law_889 (by decide) ?_
    refine j_fgt5 ?_
    refine j_fgt6 ?_
    exact j_kn (by omega) (by omega) (kk _ hL2)
  · refine j_aload3 (q := 878) dL_law_877 rfl ?_
    refine j_iconst (q := 879) dL_law_878 rfl ?_
    refine j_laload (q := 880) (i' := 0) dL_law_879 rfl sh_206 rfl (by decide) (by decide) ?_
    refine j_iload6 (q := 882) dL_law_880 rfl ?_
    refine j_i2l (q := 883) dL_law_882 rfl ?_
    refine j_lcmp (q := 884) dL_law_883 rfl ?_
    refine j_ifeq_l (tgt := 889) (q := 887) dL_law_884 (by decide) rfl (fun _ => ?_) (fun hne => absurd (hq heq) hne)
    refine j_goto (tgt := 1958) dL_law_889 (by decide) ?_
    refine j_fgt5 ?_
    refine j_fgt6 ?_
    exact j_kn (by omega) (by omega) (kk _ hL2)
theorem bk_clearBuffer {G : GX} (E : EV G) (hsc : SC G) {F : FinT} {i : Int} (hi : 0 ≤ i ∧ i + 5 ≤ ((gE G 2).2.1 : Int)) {X : Mem} {B K : Int} (h0 : LW X B K) (hB : B + 32 ≤ 1000000) (hK : K + 1 ≤ 512) {k n : Nat} (hk : k + 1 ≤ 601024) (hn : n + 6 ≤ 7293034) (kk : ∀ X' : Mem, LW X' (B + 32) (K + 1) → J G SHP iLw 601024 7293034 F 1958 [some (.inr (.retAddr 2)), some (.inr (.ref 0)), some (.inr (.ref 197)), some (.inr (.ref 206)), some (.inl i), none, none, none, none] [] X' (k + 1) (n + 6)) : J G SHP iLw 601024 7293034 F 892 [some (.inr (.retAddr 2)), some (.inr (.ref 0)), some (.inr (.ref 197)), some (.inr (.ref 206)), some (.inl i), none, none, none, none] [] X k n := by
  have hL := hsc.2
  obtain ⟨v, X1, X2, c1, c2, hL2⟩ := tn_clearBuffer E h0 hB hK
  refine j_aload1 (q := 893) dL_law_892 rfl ?_
  refine j_callV0 (Mc := iX7_clearBuffer) (q := 896) (c' := 0) (s' := 0) dL_law_893 rfl kV_X7_clearBuffer jw_259 ⟨by decide, by decide⟩ sh_0 rfl rfl rfl (by omega) (by omega) c1 ?_
  refine j_aload2 (q := 897) dL_law_896 rfl ?_
  refine j_callV0 (Mc := iX8_clearBuffer) (q := 900) (c' := 0) (s' := 0) dL_law_897 rfl kV_X8_clearBuffer jw_1208 ⟨by decide, by decide⟩ sh_197 rfl rfl rfl (by omega) (by omega) c2 ?_
  refine j_icmp_eq (tgt := 1958) (q := 903) dL_law_900 (by decide) rfl rfl rfl (fun _ => ?_) (fun hh => absurd rfl hh)
  exact j_wid (by omega) (by omega) (kk _ hL2)
theorem bk_firstError {G : GX} (E : EV G) (hsc : SC G) {F : FinT} {i : Int} (hi : 0 ≤ i ∧ i + 5 ≤ ((gE G 2).2.1 : Int)) {X : Mem} {B K : Int} (h0 : LW X B K) (hB : B + 32 ≤ 1000000) (hK : K + 1 ≤ 512) {k n : Nat} (hk : k + 1 ≤ 601024) (hn : n + 6 ≤ 7293034) (kk : ∀ X' : Mem, LW X' (B + 32) (K + 1) → J G SHP iLw 601024 7293034 F 1958 [some (.inr (.retAddr 2)), some (.inr (.ref 0)), some (.inr (.ref 197)), some (.inr (.ref 206)), some (.inl i), none, none, none, none] [] X' (k + 1) (n + 6)) : J G SHP iLw 601024 7293034 F 905 [some (.inr (.retAddr 2)), some (.inr (.ref 0)), some (.inr (.ref 197)), some (.inr (.ref 206)), some (.inl i), none, none, none, none] [] X k n := by
  have hL := hsc.2
  obtain ⟨v, X1, X2, c1, c2, hL2⟩ := tn_firstError E h0 hB hK
  refine j_aload1 (q := 906) dL_law_905 rfl ?_
  refine j_callV0 (Mc := iX7_firstError) (q := 909) (c' := 0) (s' := 0) dL_law_906 rfl kV_X7_firstError jw_263 ⟨by decide, by decide⟩ sh_0 rfl rfl rfl (by omega) (by omega) c1 ?_
  refine j_aload2 (q := 910) dL_law_909 rfl ?_
  refine j_callV0 (Mc := iX8_firstError) (q := 913) (c' := 0) (s' := 0) dL_law_910 rfl kV_X8_firstError jw_1212 ⟨by decide, by decide⟩ sh_197 rfl rfl rfl (by omega) (by omega) c2 ?_
  refine j_icmp_eq (tgt := 1958) (q := 916) dL_law_913 (by decide) rfl rfl rfl (fun _ => ?_) (fun hh => absurd rfl hh)
  exact j_wid (by omega) (by omega) (kk _ hL2)
theorem bk_run {G : GX} (E : EV G) (hsc : SC G) {F : FinT} {i : Int} (hi : 0 ≤ i ∧ i + 5 ≤ ((gE G 2).2.1 : Int)) {X : Mem} {B K : Int} (h0 : LW X B K) (hB : B + 32 ≤ 1000000) (hK : K + 1 ≤ 512) {k n : Nat} (hk : k + 1 ≤ 601024) (hn : n + 6 ≤ 7293034) (kk : ∀ X' : Mem, LW X' (B + 32) (K + 1) → J G SHP iLw 601024 7293034 F 1958 [some (.inr (.retAddr 2)), some (.inr (.ref 0)), some (.inr (.ref 197)), some (.inr (.ref 206)), some (.inl i), none, none, none, none] [] X' (k + 1) (n + 6)) : J G SHP iLw 601024 7293034 F 918 [some (.inr (.retAddr 2)), some (.inr (.ref 0)), some (.inr (.ref 197)), some (.inr (.ref 206)), some (.inl i), none, none, none, none] [] X k n := by
  have hL := hsc.2
  refine j_aload1 (q := 919) dL_law_918 rfl ?_
  refine j_oload0 (q := 920) dL_law_919 rfl ?_
  refine j_iload4 (q := 922) dL_law_920 rfl ?_
  refine j_iconst (q := 923) dL_law_922 rfl ?_
  refine j_iadd (q := 924) dL_law_923 rfl ?_
  refine j_oload (j := 2) (q := 925) (i' := i + 1) (by decide) dL_law_924 rfl (wr_id' (by omega) (by omega)) (by omega) (by omega) ?_
  refine j_aload3 (q := 926) dL_law_925 rfl ?_
  obtain ⟨kx, bx, X1, X2, w, c, h12, hkr, hq, hL2⟩ := tw_run E h0 hB hK (hsc.1 (i + 1))
  refine j_callW3 (Mc := iL_run) (q := 929) (c' := 1) (s' := 6) dL_law_926 rfl kW_L_run jw_857 ⟨by decide, by decide⟩ rfl hk hn w ?_
  refine j_istore5 (q := 931) dL_law_929 rfl rfl (by decide) ?_
  refine j_aload2 (q := 932) dL_law_931 rfl ?_
  refine j_oload0 (q := 933) dL_law_932 rfl ?_
  refine j_iload4 (q := 935) dL_law_933 rfl ?_
  refine j_iconst (q := 936) dL_law_935 rfl ?_
  refine j_iadd (q := 937) dL_law_936 rfl ?_
  refine j_oload (j := 2) (q := 938) (i' := i + 1) (by decide) dL_law_937 rfl (wr_id' (by omega) (by omega)) (by omega) (by omega) ?_
  refine j_callV1 (Mc := iX8_run) (q := 941) (c' := 0) (s' := 0) dL_law_938 rfl kV_X8_run jw_1236 ⟨by decide, by decide⟩ sh_197 rfl rfl rfl (by omega) (by omega) c ?_
  refine j_istore6 (q := 943) dL_law_941 rfl rfl (by decide) ?_
  refine j_aload2 (q := 944) dL_law_943 rfl ?_
  refine j_callV0 (Mc := iX8_thrown) (q := 947) (c' := 0) (s' := 0) dL_law_944 rfl kV_X8_thrown jw_1027 ⟨by decide, by decide⟩ sh_197 rfl rfl rfl (by omega) (by omega) (ct_thr E) ?_
  refine j_iload5 (q := 949) dL_law_947 rfl ?_
  refine j_icmp_eq (x' := kx) (y' := kx) (tgt := 954) (q := 952) dL_law_949 (by decide) rfl (by rw [h12]; exact wr_id' (by omega) (by omega)) (wr_id' (by omega) (by omega)) (fun _ => ?_) (fun hh => absurd rfl hh)
  refine j_iload5 (q := 956) dL_law_954 rfl ?_
  refine j_if_ne (x' := kx) (tgt := 971) (q := 959) dL_law_956 (by decide) rfl (wr_id' (by omega) (by omega)) (fun hne => ?_) (fun heq => ?_)
  · refine j_goto (tgt := 1958) dL_law_971 (by decide) ?_
    refine j_fgt5 ?_
    refine j_fgt6 ?_
    exact j_kn (by omega) (by omega) (kk _ hL2)
  · refine j_aload3 (q := 960) dL_law_959 rfl ?_
    refine j_iconst (q := 961) dL_law_960 rfl ?_
    refine j_laload (q := 962) (i' := 0) dL_law_961 rfl sh_206 rfl (by decide) (by decide) ?_
    refine j_iload6 (q := 964) dL_law_962 rfl ?_
    refine j_i2l (q := 965) dL_law_964 rfl ?_
    refine j_lcmp (q := 966) dL_law_965 rfl ?_
    refine j_ifeq_l (tgt := 971) (q := 969) dL_law_966 (by decide) rfl (fun _ => ?_) (fun hne => absurd (hq heq) hne)
    refine j_goto (tgt := 1958) dL_law_971 (by decide) ?_
    refine j_fgt5 ?_
    refine j_fgt6 ?_
    exact j_kn (by omega) (by omega) (kk _ hL2)
theorem bk_undo {G : GX} (E : EV G) (hsc : SC G) {F : FinT} {i : Int} (hi : 0 ≤ i ∧ i + 5 ≤ ((gE G 2).2.1 : Int)) {X : Mem} {B K : Int} (h0 : LW X B K) (hB : B + 32 ≤ 1000000) (hK : K + 1 ≤ 512) {k n : Nat} (hk : k + 1 ≤ 601024) (hn : n + 6 ≤ 7293034) (kk : ∀ X' : Mem, LW X' (B + 32) (K + 1) → J G SHP iLw 601024 7293034 F 1958 [some (.inr (.retAddr 2)), some (.inr (.ref 0)), some (.inr (.ref 197)), some (.inr (.ref 206)), some (.inl i), none, none, none, none] [] X' (k + 1) (n + 6)) : J G SHP iLw 601024 7293034 F 974 [some (.inr (.retAddr 2)), some (.inr (.ref 0)), some (.inr (.ref 197)), some (.inr (.ref 206)), some (.inl i), none, none, none, none] [] X k n := by
  have hL := hsc.2
  refine j_aload1 (q := 975) dL_law_974 rfl ?_
  refine j_aload3 (q := 976) dL_law_975 rfl ?_
  obtain ⟨kx, bx, X1, X2, w, c, h12, hkr, hq, hL2⟩ := tw_undo E h0 hB hK 
  refine j_callW2 (Mc := iL_undo) (q := 979) (c' := 1) (s' := 6) dL_law_976 rfl kW_L_undo jw_893 ⟨by decide, by decide⟩ rfl hk hn w ?_
  refine j_istore5 (q := 981) dL_law_979 rfl rfl (by decide) ?_
  refine j_aload2 (q := 982) dL_law_981 rfl ?_
  refine j_callV0 (Mc := iX8_undo) (q := 985) (c' := 0) (s' := 0) dL_law_982 rfl kV_X8_undo jw_1248 ⟨by decide, by decide⟩ sh_197 rfl rfl rfl (by omega) (by omega) c ?_
  refine j_istore6 (q := 987) dL_law_985 rfl rfl (by decide) ?_
  refine j_aload2 (q := 988) dL_law_987 rfl ?_
  refine j_callV0 (Mc := iX8_thrown) (q := 991) (c' := 0) (s' := 0) dL_law_988 rfl kV_X8_thrown jw_1027 ⟨by decide, by decide⟩ sh_197 rfl rfl rfl (by omega) (by omega) (ct_thr E) ?_
  refine j_iload5 (q := 993) dL_law_991 rfl ?_
  refine j_icmp_eq (x' := kx) (y' := kx) (tgt := 998) (q := 996) dL_law_993 (by decide) rfl (by rw [h12]; exact wr_id' (by omega) (by omega)) (wr_id' (by omega) (by omega)) (fun _ => ?_) (fun hh => absurd rfl hh)
  refine j_iload5 (q := 1000) dL_law_998 rfl ?_
  refine j_if_ne (x' := kx) (tgt := 1015) (q := 1003) dL_law_1000 (by decide) rfl (wr_id' (by omega) (by omega)) (fun hne => ?_) (fun heq => ?_)
  · refine j_goto (tgt := 1958) dL_law_1015 (by decide) ?_
    refine j_fgt5 ?_
    refine j_fgt6 ?_
    exact j_kn (by omega) (by omega) (kk _ hL2)
  · refine j_aload3 (q := 1004) dL_law_1003 rfl ?_
    refine j_iconst (q := 1005) dL_law_1004 rfl ?_
    refine j_laload (q := 1006) (i' := 0) dL_law_1005 rfl sh_206 rfl (by decide) (by decide) ?_
    refine j_iload6 (q := 1008) dL_law_1006 rfl ?_
    refine j_i2l (q := 1009) dL_law_1008 rfl ?_
    refine j_lcmp (q := 1010) dL_law_1009 rfl ?_
    refine j_ifeq_l (tgt := 1015) (q := 1013) dL_law_1010 (by decide) rfl (fun _ => ?_) (fun hne => absurd (hq heq) hne)
    refine j_goto (tgt := 1958) dL_law_1015 (by decide) ?_
    refine j_fgt5 ?_
    refine j_fgt6 ?_
    exact j_kn (by omega) (by omega) (kk _ hL2)
theorem bk_core {G : GX} (E : EV G) (hsc : SC G) {F : FinT} {i : Int} (hi : 0 ≤ i ∧ i + 5 ≤ ((gE G 2).2.1 : Int)) {X : Mem} {B K : Int} (h0 : LW X B K) (hB : B + 32 ≤ 1000000) (hK : K + 1 ≤ 512) {k n : Nat} (hk : k + 1 ≤ 601024) (hn : n + 6 ≤ 7293034) (kk : ∀ X' : Mem, LW X' (B + 32) (K + 1) → J G SHP iLw 601024 7293034 F 1958 [some (.inr (.retAddr 2)), some (.inr (.ref 0)), some (.inr (.ref 197)), some (.inr (.ref 206)), some (.inl i), none, none, none, none] [] X' (k + 1) (n + 6)) : J G SHP iLw 601024 7293034 F 1018 [some (.inr (.retAddr 2)), some (.inr (.ref 0)), some (.inr (.ref 197)), some (.inr (.ref 206)), some (.inl i), none, none, none, none] [] X k n := by
  have hL := hsc.2
  refine j_aload1 (q := 1019) dL_law_1018 rfl ?_
  refine j_oload0 (q := 1020) dL_law_1019 rfl ?_
  refine j_iload4 (q := 1022) dL_law_1020 rfl ?_
  refine j_iconst (q := 1023) dL_law_1022 rfl ?_
  refine j_iadd (q := 1024) dL_law_1023 rfl ?_
  refine j_oload (j := 2) (q := 1025) (i' := i + 1) (by decide) dL_law_1024 rfl (wr_id' (by omega) (by omega)) (by omega) (by omega) ?_
  refine j_oload0 (q := 1026) dL_law_1025 rfl ?_
  refine j_iload4 (q := 1028) dL_law_1026 rfl ?_
  refine j_iconst (q := 1029) dL_law_1028 rfl ?_
  refine j_iadd (q := 1030) dL_law_1029 rfl ?_
  refine j_oload (j := 2) (q := 1031) (i' := i + 2) (by decide) dL_law_1030 rfl (wr_id' (by omega) (by omega)) (by omega) (by omega) ?_
  refine j_aload3 (q := 1032) dL_law_1031 rfl ?_
  obtain ⟨kx, bx, X1, X2, w, c, h12, hkr, hq, hL2⟩ := tw_core E h0 hB hK (hsc.1 (i + 1)) (hsc.1 (i + 2))
  refine j_callW4 (Mc := iL_core) (q := 1035) (c' := 1) (s' := 6) dL_law_1032 rfl kW_L_core jw_904 ⟨by decide, by decide⟩ rfl hk hn w ?_
  refine j_istore5 (q := 1037) dL_law_1035 rfl rfl (by decide) ?_
  refine j_aload2 (q := 1038) dL_law_1037 rfl ?_
  refine j_oload0 (q := 1039) dL_law_1038 rfl ?_
  refine j_iload4 (q := 1041) dL_law_1039 rfl ?_
  refine j_iconst (q := 1042) dL_law_1041 rfl ?_
  refine j_iadd (q := 1043) dL_law_1042 rfl ?_
  refine j_oload (j := 2) (q := 1044) (i' := i + 1) (by decide) dL_law_1043 rfl (wr_id' (by omega) (by omega)) (by omega) (by omega) ?_
  refine j_oload0 (q := 1045) dL_law_1044 rfl ?_
  refine j_iload4 (q := 1047) dL_law_1045 rfl ?_
  refine j_iconst (q := 1048) dL_law_1047 rfl ?_
  refine j_iadd (q := 1049) dL_law_1048 rfl ?_
  refine j_oload (j := 2) (q := 1050) (i' := i + 2) (by decide) dL_law_1049 rfl (wr_id' (by omega) (by omega)) (by omega) (by omega) ?_
  refine j_callV2 (Mc := iX8_core) (q := 1053) (c' := 0) (s' := 0) dL_law_1050 rfl kV_X8_core jw_1252 ⟨by decide, by decide⟩ sh_197 rfl rfl rfl (by omega) (by omega) c ?_
  refine j_istore6 (q := 1055) dL_law_1053 rfl rfl (by decide) ?_
  refine j_aload2 (q := 1056) dL_law_1055 rfl ?_
  refine j_callV0 (Mc := iX8_thrown) (q := 1059) (c' := 0) (s' := 0) dL_law_1056 rfl kV_X8_thrown jw_1027 ⟨by decide, by decide⟩ sh_197 rfl rfl rfl (by omega) (by omega) (ct_thr E) ?_
  refine j_iload5 (q := 1061) dL_law_1059 rfl ?_
  refine j_icmp_eq (x' := kx) (y' := kx) (tgt := 1066) (q := 1064) dL_law_1061 (by decide) rfl (by rw [h12]; exact wr_id' (by omega) (by omega)) (wr_id' (by omega) (by omega)) (fun _ => ?_) (fun hh => absurd rfl hh)
  refine j_iload5 (q := 1068) dL_law_1066 rfl ?_
  refine j_if_ne (x' := kx) (tgt := 1083) (q := 1071) dL_law_1068 (by decide) rfl (wr_id' (by omega) (by omega)) (fun hne => ?_) (fun heq => ?_)
  · refine j_goto (tgt := 1958) dL_law_1083 (by decide) ?_
    refine j_fgt5 ?_
    refine j_fgt6 ?_
    exact j_kn (by omega) (by omega) (kk _ hL2)
  · refine j_aload3 (q := 1072) dL_law_1071 rfl ?_
    refine j_iconst (q := 1073) dL_law_1072 rfl ?_
    refine j_laload (q := 1074) (i' := 0) dL_law_1073 rfl sh_206 rfl (by decide) (by decide) ?_
    refine j_iload6 (q := 1076) dL_law_1074 rfl ?_
    refine j_i2l (q := 1077) dL_law_1076 rfl ?_
    refine j_lcmp (q := 1078) dL_law_1077 rfl ?_
    refine j_ifeq_l (tgt := 1083) (q := 1081) dL_law_1078 (by decide) rfl (fun _ => ?_) (fun hne => absurd (hq heq) hne)
    refine j_goto (tgt := 1958) dL_law_1083 (by decide) ?_
    refine j_fgt5 ?_
    refine j_fgt6 ?_
    exact j_kn (by omega) (by omega) (kk _ hL2)
theorem bk_tenant {G : GX} (E : EV G) (hsc : SC G) {F : FinT} {i : Int} (hi : 0 ≤ i ∧ i + 5 ≤ ((gE G 2).2.1 : Int)) {X : Mem} {B K : Int} (h0 : LW X B K) (hB : B + 32 ≤ 1000000) (hK : K + 1 ≤ 512) {k n : Nat} (hk : k + 1 ≤ 601024) (hn : n + 6 ≤ 7293034) (kk : ∀ X' : Mem, LW X' (B + 32) (K + 1) → J G SHP iLw 601024 7293034 F 1958 [some (.inr (.retAddr 2)), some (.inr (.ref 0)), some (.inr (.ref 197)), some (.inr (.ref 206)), some (.inl i), none, none, none, none] [] X' (k + 1) (n + 6)) : J G SHP iLw 601024 7293034 F 1086 [some (.inr (.retAddr 2)), some (.inr (.ref 0)), some (.inr (.ref 197)), some (.inr (.ref 206)), some (.inl i), none, none, none, none] [] X k n := by
  have hL := hsc.2
  refine j_aload1 (q := 1087) dL_law_1086 rfl ?_
  refine j_oload0 (q := 1088) dL_law_1087 rfl ?_
  refine j_iload4 (q := 1090) dL_law_1088 rfl ?_
  refine j_iconst (q := 1091) dL_law_1090 rfl ?_
  refine j_iadd (q := 1092) dL_law_1091 rfl ?_
  refine j_oload (j := 2) (q := 1093) (i' := i + 1) (by decide) dL_law_1092 rfl (wr_id' (by omega) (by omega)) (by omega) (by omega) ?_
  refine j_oload0 (q := 1094) dL_law_1093 rfl ?_
  refine j_iload4 (q := 1096) dL_law_1094 rfl ?_
  refine j_iconst (q := 1097) dL_law_1096 rfl ?_
  refine j_iadd (q := 1098) dL_law_1097 rfl ?_
  refine j_oload (j := 2) (q := 1099) (i' := i + 2) (by decide) dL_law_1098 rfl (wr_id' (by omega) (by omega)) (by omega) (by omega) ?_
  refine j_aload3 (q := 1100) dL_law_1099 rfl ?_
  obtain ⟨kx, bx, X1, X2, w, c, h12, hkr, hq, hL2⟩ := tw_tenant E h0 hB hK (hsc.1 (i + 1)) (hsc.1 (i + 2))
  refine j_callW4 (Mc := iL_tenant) (q := 1103) (c' := 1) (s' := 6) dL_law_1100 rfl kW_L_tenant jw_908 ⟨by decide, by decide⟩ rfl hk hn w ?_
  refine j_istore5 (q := 1105) dL_law_1103 rfl rfl (by decide) ?_
  refine j_aload2 (q := 1106) dL_law_1105 rfl ?_
  refine j_oload0 (q := 1107) dL_law_1106 rfl ?_
  refine j_iload4 (q := 1109) dL_law_1107 rfl ?_
  refine j_iconst (q := 1110) dL_law_1109 rfl ?_
  refine j_iadd (q := 1111) dL_law_1110 rfl ?_
  refine j_oload (j := 2) (q := 1112) (i' := i + 1) (by decide) dL_law_1111 rfl (wr_id' (by omega) (by omega)) (by omega) (by omega) ?_
  refine j_oload0 (q := 1113) dL_law_1112 rfl ?_
  refine j_iload4 (q := 1115) dL_law_1113 rfl ?_
  refine j_iconst (q := 1116) dL_law_1115 rfl ?_
  refine j_iadd (q := 1117) dL_law_1116 rfl ?_
  refine j_oload (j := 2) (q := 1118) (i' := i + 2) (by decide) dL_law_1117 rfl (wr_id' (by omega) (by omega)) (by omega) (by omega) ?_
  refine j_callV2 (Mc := iX8_tenant) (q := 1121) (c' := 0) (s' := 0) dL_law_1118 rfl kV_X8_tenant jw_1260 ⟨by decide, by decide⟩ sh_197 rfl rfl rfl (by omega) (by omega) c ?_
  refine j_istore6 (q := 1123) dL_law_1121 rfl rfl (by decide) ?_
  refine j_aload2 (q := 1124) dL_law_1123 rfl ?_
  refine j_callV0 (Mc := iX8_thrown) (q := 1127) (c' := 0) (s' := 0) dL_law_1124 rfl kV_X8_thrown jw_1027 ⟨by decide, by decide⟩ sh_197 rfl rfl rfl (by omega) (by omega) (ct_thr E) ?_
  refine j_iload5 (q := 1129) dL_law_1127 rfl ?_
  refine j_icmp_eq (x' := kx) (y' := kx) (tgt := 1134) (q := 1132) dL_law_1129 (by decide) rfl (by rw [h12]; exact wr_id' (by omega) (by omega)) (wr_id' (by omega) (by omega)) (fun _ => ?_) (fun hh => absurd rfl hh)
  refine j_iload5 (q := 1136) dL_law_1134 rfl ?_
  refine j_if_ne (x' := kx) (tgt := 1151) (q := 1139) dL_law_1136 (by decide) rfl (wr_id' (by omega) (by omega)) (fun hne => ?_) (fun heq => ?_)
  · refine j_goto (tgt := 1958) dL_law_1151 (by decide) ?_
    refine j_fgt5 ?_
    refine j_fgt6 ?_
    exact j_kn (by omega) (by omega) (kk _ hL2)
  · refine j_aload3 (q := 1140) dL_law_1139 rfl ?_
    refine j_iconst (q := 1141) dL_law_1140 rfl ?_
    refine j_laload (q := 1142) (i' := 0) dL_law_1141 rfl sh_206 rfl (by decide) (by decide) ?_
    refine j_iload6 (q := 1144) dL_law_1142 rfl ?_
    refine j_i2l (q := 1145) dL_law_1144 rfl ?_
    refine j_lcmp (q := 1146) dL_law_1145 rfl ?_
    refine j_ifeq_l (tgt := 1151) (q := 1149) dL_law_1146 (by decide) rfl (fun _ => ?_) (fun hne => absurd (hq heq) hne)
    refine j_goto (tgt := 1958) dL_law_1151 (by decide) ?_
    refine j_fgt5 ?_
    refine j_fgt6 ?_
    exact j_kn (by omega) (by omega) (kk _ hL2)
theorem bk_insurer {G : GX} (E : EV G) (hsc : SC G) {F : FinT} {i : Int} (hi : 0 ≤ i ∧ i + 5 ≤ ((gE G 2).2.1 : Int)) {X : Mem} {B K : Int} (h0 : LW X B K) (hB : B + 32 ≤ 1000000) (hK : K + 1 ≤ 512) {k n : Nat} (hk : k + 1 ≤ 601024) (hn : n + 6 ≤ 7293034) (kk : ∀ X' : Mem, LW X' (B + 32) (K + 1) → J G SHP iLw 601024 7293034 F 1958 [some (.inr (.retAddr 2)), some (.inr (.ref 0)), some (.inr (.ref 197)), some (.inr (.ref 206)), some (.inl i), none, none, none, none] [] X' (k + 1) (n + 6)) : J G SHP iLw 601024 7293034 F 1154 [some (.inr (.retAddr 2)), some (.inr (.ref 0)), some (.inr (.ref 197)), some (.inr (.ref 206)), some (.inl i), none, none, none, none] [] X k n := by
  have hL := hsc.2
  refine j_aload1 (q := 1155) dL_law_1154 rfl ?_
  refine j_oload0 (q := 1156) dL_law_1155 rfl ?_
  refine j_iload4 (q := 1158) dL_law_1156 rfl ?_
  refine j_iconst (q := 1159) dL_law_1158 rfl ?_
  refine j_iadd (q := 1160) dL_law_1159 rfl ?_
  refine j_oload (j := 2) (q := 1161) (i' := i + 1) (by decide) dL_law_1160 rfl (wr_id' (by omega) (by omega)) (by omega) (by omega) ?_
  refine j_oload0 (q := 1162) dL_law_1161 rfl ?_
  refine j_iload4 (q := 1164) dL_law_1162 rfl ?_
  refine j_iconst (q := 1165) dL_law_1164 rfl ?_
  refine j_iadd (q := 1166) dL_law_1165 rfl ?_
  refine j_oload (j := 2) (q := 1167) (i' := i + 2) (by decide) dL_law_1166 rfl (wr_id' (by omega) (by omega)) (by omega) (by omega) ?_
  refine j_aload3 (q := 1168) dL_law_1167 rfl ?_
  obtain ⟨kx, bx, X1, X2, w, c, h12, hkr, hq, hL2⟩ := tw_insurer E h0 hB hK (hsc.1 (i + 1)) (hsc.1 (i + 2))
  refine j_callW4 (Mc := iL_insurer) (q := 1171) (c' := 1) (s' := 6) dL_law_1168 rfl kW_L_insurer jw_912 ⟨by decide, by decide⟩ rfl hk hn w ?_
  refine j_istore5 (q := 1173) dL_law_1171 rfl rfl (by decide) ?_
  refine j_aload2 (q := 1174) dL_law_1173 rfl ?_
  refine j_oload0 (q := 1175) dL_law_1174 rfl ?_
  refine j_iload4 (q := 1177) dL_law_1175 rfl ?_
  refine j_iconst (q := 1178) dL_law_1177 rfl ?_
  refine j_iadd (q := 1179) dL_law_1178 rfl ?_
  refine j_oload (j := 2) (q := 1180) (i' := i + 1) (by decide) dL_law_1179 rfl (wr_id' (by omega) (by omega)) (by omega) (by omega) ?_
  refine j_oload0 (q := 1181) dL_law_1180 rfl ?_
  refine j_iload4 (q := 1183) dL_law_1181 rfl ?_
  refine j_iconst (q := 1184) dL_law_1183 rfl ?_
  refine j_iadd (q := 1185) dL_law_1184 rfl ?_
  refine j_oload (j := 2) (q := 1186) (i' := i + 2) (by decide) dL_law_1185 rfl (wr_id' (by omega) (by omega)) (by omega) (by omega) ?_
  refine j_callV2 (Mc := iX8_insurer) (q := 1189) (c' := 0) (s' := 0) dL_law_1186 rfl kV_X8_insurer jw_1276 ⟨by decide, by decide⟩ sh_197 rfl rfl rfl (by omega) (by omega) c ?_
  refine j_istore6 (q := 1191) dL_law_1189 rfl rfl (by decide) ?_
  refine j_aload2 (q := 1192) dL_law_1191 rfl ?_
  refine j_callV0 (Mc := iX8_thrown) (q := 1195) (c' := 0) (s' := 0) dL_law_1192 rfl kV_X8_thrown jw_1027 ⟨by decide, by decide⟩ sh_197 rfl rfl rfl (by omega) (by omega) (ct_thr E) ?_
  refine j_iload5 (q := 1197) dL_law_1195 rfl ?_
  refine j_icmp_eq (x' := kx) (y' := kx) (tgt := 1202) (q := 1200) dL_law_1197 (by decide) rfl (by rw [h12]; exact wr_id' (by omega) (by omega)) (wr_id' (by omega) (by omega)) (fun _ => ?_) (fun hh => absurd rfl hh)
  refine j_iload5 (q := 1204) dL_law_1202 rfl ?_
  refine j_if_ne (x' := kx) (tgt := 1219) (q := 1207) dL_law_1204 (by decide) rfl (wr_id' (by omega) (by omega)) (fun hne => ?_) (fun heq => ?_)
  · refine j_goto (tgt := 1958) dL_law_1219 (by decide) ?_
    refine j_fgt5 ?_
    refine j_fgt6 ?_
    exact j_kn (by omega) (by omega) (kk _ hL2)
  · refine j_aload3 (q := 1208) dL_law_1207 rfl ?_
    refine j_iconst (q := 1209) dL_law_1208 rfl ?_
    refine j_laload (q := 1210) (i' := 0) dL_law_1209 rfl sh_206 rfl (by decide) (by decide) ?_
    refine j_iload6 (q := 1212) dL_law_1210 rfl ?_
    refine j_i2l (q := 1213) dL_law_1212 rfl ?_
    refine j_lcmp (q := 1214) dL_law_1213 rfl ?_
    refine j_ifeq_l (tgt := 1219) (q := 1217) dL_law_1214 (by decide) rfl (fun _ => ?_) (fun hne => absurd (hq heq) hne)
    refine j_goto (tgt := 1958) dL_law_1219 (by decide) ?_
    refine j_fgt5 ?_
    refine j_fgt6 ?_
    exact j_kn (by omega) (by omega) (kk _ hL2)
theorem bk_owed {G : GX} (E : EV G) (hsc : SC G) {F : FinT} {i : Int} (hi : 0 ≤ i ∧ i + 5 ≤ ((gE G 2).2.1 : Int)) {X : Mem} {B K : Int} (h0 : LW X B K) (hB : B + 32 ≤ 1000000) (hK : K + 1 ≤ 512) {k n : Nat} (hk : k + 1 ≤ 601024) (hn : n + 6 ≤ 7293034) (kk : ∀ X' : Mem, LW X' (B + 32) (K + 1) → J G SHP iLw 601024 7293034 F 1958 [some (.inr (.retAddr 2)), some (.inr (.ref 0)), some (.inr (.ref 197)), some (.inr (.ref 206)), some (.inl i), none, none, none, none] [] X' (k + 1) (n + 6)) : J G SHP iLw 601024 7293034 F 1222 [some (.inr (.retAddr 2)), some (.inr (.ref 0)), some (.inr (.ref 197)), some (.inr (.ref 206)), some (.inl i), none, none, none, none] [] X k n := by
  have hL := hsc.2
  refine j_aload1 (q := 1223) dL_law_1222 rfl ?_
  refine j_oload0 (q := 1224) dL_law_1223 rfl ?_
  refine j_iload4 (q := 1226) dL_law_1224 rfl ?_
  refine j_iconst (q := 1227) dL_law_1226 rfl ?_
  refine j_iadd (q := 1228) dL_law_1227 rfl ?_
  refine j_oload (j := 2) (q := 1229) (i' := i + 1) (by decide) dL_law_1228 rfl (wr_id' (by omega) (by omega)) (by omega) (by omega) ?_
  refine j_oload0 (q := 1230) dL_law_1229 rfl ?_
  refine j_iload4 (q := 1232) dL_law_1230 rfl ?_
  refine j_iconst (q := 1233) dL_law_1232 rfl ?_
  refine j_iadd (q := 1234) dL_law_1233 rfl ?_
  refine j_oload (j := 2) (q := 1235) (i' := i + 2) (by decide) dL_law_1234 rfl (wr_id' (by omega) (by omega)) (by omega) (by omega) ?_
  refine j_aload3 (q := 1236) dL_law_1235 rfl ?_
  obtain ⟨kx, bx, X1, X2, w, c, h12, hkr, hq, hL2⟩ := tw_owed E h0 hB hK (hsc.1 (i + 1)) (hsc.1 (i + 2))
  refine j_callW4 (Mc := iL_owed) (q := 1239) (c' := 1) (s' := 6) dL_law_1236 rfl kW_L_owed jw_916 ⟨by decide, by decide⟩ rfl hk hn w ?_
  refine j_istore5 (q := 1241) dL_law_1239 rfl rfl (by decide) ?_
  refine j_aload2 (q := 1242) dL_law_1241 rfl ?_
  refine j_oload0 (q := 1243) dL_law_1242 rfl ?_
  refine j_iload4 (q := 1245) dL_law_1243 rfl ?_
  refine j_iconst (q := 1246) dL_law_1245 rfl ?_
  refine j_iadd (q := 1247) dL_law_1246 rfl ?_
  refine j_oload (j := 2) (q := 1248) (i' := i + 1) (by decide) dL_law_1247 rfl (wr_id' (by omega) (by omega)) (by omega) (by omega) ?_
  refine j_oload0 (q := 1249) dL_law_1248 rfl ?_
  refine j_iload4 (q := 1251) dL_law_1249 rfl ?_
  refine j_iconst (q := 1252) dL_law_1251 rfl ?_
  refine j_iadd (q := 1253) dL_law_1252 rfl ?_
  refine j_oload (j := 2) (q := 1254) (i' := i + 2) (by decide) dL_law_1253 rfl (wr_id' (by omega) (by omega)) (by omega) (by omega) ?_
  refine j_callV2 (Mc := iX8_owed) (q := 1257) (c' := 0) (s' := 0) dL_law_1254 rfl kV_X8_owed jw_1288 ⟨by decide, by decide⟩ sh_197 rfl rfl rfl (by omega) (by omega) c ?_
  refine j_istore6 (q := 1259) dL_law_1257 rfl rfl (by decide) ?_
  refine j_aload2 (q := 1260) dL_law_1259 rfl ?_
  refine j_callV0 (Mc := iX8_thrown) (q := 1263) (c' := 0) (s' := 0) dL_law_1260 rfl kV_X8_thrown jw_1027 ⟨by decide, by decide⟩ sh_197 rfl rfl rfl (by omega) (by omega) (ct_thr E) ?_
  refine j_iload5 (q := 1265) dL_law_1263 rfl ?_
  refine j_icmp_eq (x' := kx) (y' := kx) (tgt := 1270) (q := 1268) dL_law_1265 (by decide) rfl (by rw [h12]; exact wr_id' (by omega) (by omega)) (wr_id' (by omega) (by omega)) (fun _ => ?_) (fun hh => absurd rfl hh)
  refine j_iload5 (q := 1272) dL_law_1270 rfl ?_
  refine j_if_ne (x' := kx) (tgt := 1287) (q := 1275) dL_law_1272 (by decide) rfl (wr_id' (by omega) (by omega)) (fun hne => ?_) (fun heq => ?_)
  · refine j_goto (tgt := 1958) dL_law_1287 (by decide) ?_
    refine j_fgt5 ?_
    refine j_fgt6 ?_
    exact j_kn (by omega) (by omega) (kk _ hL2)
  · refine j_aload3 (q := 1276) dL_law_1275 rfl ?_
    refine j_iconst (q := 1277) dL_law_1276 rfl ?_
    refine j_laload (q := 1278) (i' := 0) dL_law_1277 rfl sh_206 rfl (by decide) (by decide) ?_
    refine j_iload6 (q := 1280) dL_law_1278 rfl ?_
    refine j_i2l (q := 1281) dL_law_1280 rfl ?_
    refine j_lcmp (q := 1282) dL_law_1281 rfl ?_
    refine j_ifeq_l (tgt := 1287) (q := 1285) dL_law_1282 (by decide) rfl (fun _ => ?_) (fun hne => absurd (hq heq) hne)
    refine j_goto (tgt := 1958) dL_law_1287 (by decide) ?_
    refine j_fgt5 ?_
    refine j_fgt6 ?_
    exact j_kn (by omega) (by omega) (kk _ hL2)
theorem bk_weakest {G : GX} (E : EV G) (hsc : SC G) {F : FinT} {i : Int} (hi : 0 ≤ i ∧ i + 5 ≤ ((gE G 2).2.1 : Int)) {X : Mem} {B K : Int} (h0 : LW X B K) (hB : B + 32 ≤ 1000000) (hK : K + 1 ≤ 512) {k n : Nat} (hk : k + 1 ≤ 601024) (hn : n + 6 ≤ 7293034) (kk : ∀ X' : Mem, LW X' (B + 32) (K + 1) → J G SHP iLw 601024 7293034 F 1958 [some (.inr (.retAddr 2)), some (.inr (.ref 0)), some (.inr (.ref 197)), some (.inr (.ref 206)), some (.inl i), none, none, none, none] [] X' (k + 1) (n + 6)) : J G SHP iLw 601024 7293034 F 1290 [some (.inr (.retAddr 2)), some (.inr (.ref 0)), some (.inr (.ref 197)), some (.inr (.ref 206)), some (.inl i), none, none, none, none] [] X k n := by
  have hL := hsc.2
  refine j_aload1 (q := 1291) dL_law_1290 rfl ?_
  refine j_oload0 (q := 1292) dL_law_1291 rfl ?_
  refine j_iload4 (q := 1294) dL_law_1292 rfl ?_
  refine j_iconst (q := 1295) dL_law_1294 rfl ?_
  refine j_iadd (q := 1296) dL_law_1295 rfl ?_
  refine j_oload (j := 2) (q := 1297) (i' := i + 1) (by decide) dL_law_1296 rfl (wr_id' (by omega) (by omega)) (by omega) (by omega) ?_
  refine j_aload3 (q := 1298) dL_law_1297 rfl ?_
  obtain ⟨kx, bx, X1, X2, w, c, h12, hkr, hq, hL2⟩ := tw_weakest E h0 hB hK (hsc.1 (i + 1))
  refine j_callW3 (Mc := iL_weakest) (q := 1301) (c' := 1) (s' := 6) dL_law_1298 rfl kW_L_weakest jw_920 ⟨by decide, by decide⟩ rfl hk hn w ?_
  refine j_istore5 (q := 1303) dL_law_1301 rfl rfl (by decide) ?_
  refine j_aload2 (q := 1304) dL_law_1303 rfl ?_
  refine j_oload0 (q := 1305) dL_law_1304 rfl ?_
  refine j_iload4 (q := 1307) dL_law_1305 rfl ?_
  refine j_iconst (q := 1308) dL_law_1307 rfl ?_
  refine j_iadd (q := 1309) dL_law_1308 rfl ?_
  refine j_oload (j := 2) (q := 1310) (i' := i + 1) (by decide) dL_law_1309 rfl (wr_id' (by omega) (by omega)) (by omega) (by omega) ?_
  refine j_callV1 (Mc := iX8_weakest) (q := 1313) (c' := 0) (s' := 0) dL_law_1310 rfl kV_X8_weakest jw_1292 ⟨by decide, by decide⟩ sh_197 rfl rfl rfl (by omega) (by omega) c ?_
  refine j_istore6 (q := 1315) dL_law_1313 rfl rfl (by decide) ?_
  refine j_aload2 (q := 1316) dL_law_1315 rfl ?_
  refine j_callV0 (Mc := iX8_thrown) (q := 1319) (c' := 0) (s' := 0) dL_law_1316 rfl kV_X8_thrown jw_1027 ⟨by decide, by decide⟩ sh_197 rfl rfl rfl (by omega) (by omega) (ct_thr E) ?_
  refine j_iload5 (q := 1321) dL_law_1319 rfl ?_
  refine j_icmp_eq (x' := kx) (y' := kx) (tgt := 1326) (q := 1324) dL_law_1321 (by decide) rfl (by rw [h12]; exact wr_id' (by omega) (by omega)) (wr_id' (by omega) (by omega)) (fun _ => ?_) (fun hh => absurd rfl hh)
  refine j_iload5 (q := 1328) dL_law_1326 rfl ?_
  refine j_if_ne (x' := kx) (tgt := 1343) (q := 1331) dL_law_1328 (by decide) rfl (wr_id' (by omega) (by omega)) (fun hne => ?_) (fun heq => ?_)
  · refine j_goto (tgt := 1958) dL_law_1343 (by decide) ?_
    refine j_fgt5 ?_
    refine j_fgt6 ?_
    exact j_kn (by omega) (by omega) (kk _ hL2)
  · refine j_aload3 (q := 1332) dL_law_1331 rfl ?_
    refine j_iconst (q := 1333) dL_law_1332 rfl ?_
    refine j_laload (q := 1334) (i' := 0) dL_law_1333 rfl sh_206 rfl (by decide) (by decide) ?_
    refine j_iload6 (q := 1336) dL_law_1334 rfl ?_
    refine j_i2l (q := 1337) dL_law_1336 rfl ?_
    refine j_lcmp (q := 1338) dL_law_1337 rfl ?_
    refine j_ifeq_l (tgt := 1343) (q := 1341) dL_law_1338 (by decide) rfl (fun _ => ?_) (fun hne => absurd (hq heq) hne)
    refine j_goto (tgt := 1958) dL_law_1343 (by decide) ?_
    refine j_fgt5 ?_
    refine j_fgt6 ?_
    exact j_kn (by omega) (by omega) (kk _ hL2)
theorem bk_count {G : GX} (E : EV G) (hsc : SC G) {F : FinT} {i : Int} (hi : 0 ≤ i ∧ i + 5 ≤ ((gE G 2).2.1 : Int)) {X : Mem} {B K : Int} (h0 : LW X B K) (hB : B + 32 ≤ 1000000) (hK : K + 1 ≤ 512) {k n : Nat} (hk : k + 1 ≤ 601024) (hn : n + 6 ≤ 7293034) (kk : ∀ X' : Mem, LW X' (B + 32) (K + 1) → J G SHP iLw 601024 7293034 F 1958 [some (.inr (.retAddr 2)), some (.inr (.ref 0)), some (.inr (.ref 197)), some (.inr (.ref 206)), some (.inl i), none, none, none, none] [] X' (k + 1) (n + 6)) : J G SHP iLw 601024 7293034 F 1346 [some (.inr (.retAddr 2)), some (.inr (.ref 0)), some (.inr (.ref 197)), some (.inr (.ref 206)), some (.inl i), none, none, none, none] [] X k n := by
  have hL := hsc.2
  refine j_aload1 (q := 1347) dL_law_1346 rfl ?_
  refine j_oload0 (q := 1348) dL_law_1347 rfl ?_
  refine j_iload4 (q := 1350) dL_law_1348 rfl ?_
  refine j_iconst (q := 1351) dL_law_1350 rfl ?_
  refine j_iadd (q := 1352) dL_law_1351 rfl ?_
  refine j_oload (j := 2) (q := 1353) (i' := i + 1) (by decide) dL_law_1352 rfl (wr_id' (by omega) (by omega)) (by omega) (by omega) ?_
  refine j_aload3 (q := 1354) dL_law_1353 rfl ?_
  obtain ⟨kx, bx, X1, X2, w, c, h12, hkr, hq, hL2⟩ := tw_count E h0 hB hK (hsc.1 (i + 1))
  refine j_callW3 (Mc := iL_count) (q := 1357) (c' := 1) (s' := 6) dL_law_1354 rfl kW_L_count jw_927 ⟨by decide, by decide⟩ rfl hk hn w ?_
  refine j_istore5 (q := 1359) dL_law_1357 rfl rfl (by decide) ?_
  refine j_aload2 (q := 1360) dL_law_1359 rfl ?_
  refine j_oload0 (q := 1361) dL_law_1360 rfl ?_
  refine j_iload4 (q := 1363) dL_law_1361 rfl ?_
  refine j_iconst (q := 1364) dL_law_1363 rfl ?_
  refine j_iadd (q := 1365) dL_law_1364 rfl ?_
  refine j_oload (j := 2) (q := 1366) (i' := i + 1) (by decide) dL_law_1365 rfl (wr_id' (by omega) (by omega)) (by omega) (by omega) ?_
  refine j_callV1 (Mc := iX8_count) (q := 1369) (c' := 0) (s' := 0) dL_law_1366 rfl kV_X8_count jw_1300 ⟨by decide, by decide⟩ sh_197 rfl rfl rfl (by omega) (by omega) c ?_
  refine j_istore6 (q := 1371) dL_law_1369 rfl rfl (by decide) ?_
  refine j_aload2 (q := 1372) dL_law_1371 rfl ?_
  refine j_callV0 (Mc := iX8_thrown) (q := 1375) (c' := 0) (s' := 0) dL_law_1372 rfl kV_X8_thrown jw_1027 ⟨by decide, by decide⟩ sh_197 rfl rfl rfl (by omega) (by omega) (ct_thr E) ?_
  refine j_iload5 (q := 1377) dL_law_1375 rfl ?_
  refine j_icmp_eq (x' := kx) (y' := kx) (tgt := 1382) (q := 1380) dL_law_1377 (by decide) rfl (by rw [h12]; exact wr_id' (by omega) (by omega)) (wr_id' (by omega) (by omega)) (fun _ => ?_) (fun hh => absurd rfl hh)
  refine j_iload5 (q := 1384) dL_law_1382 rfl ?_
  refine j_if_ne (x' := kx) (tgt := 1399) (q := 1387) dL_law_1384 (by decide) rfl (wr_id' (by omega) (by omega)) (fun hne => ?_) (fun heq => ?_)
  · refine j_goto (tgt := 1958) dL_law_1399 (by decide) ?_
    refine j_fgt5 ?_
    refine j_fgt6 ?_
    exact j_kn (by omega) (by omega) (kk _ hL2)
  · refine j_aload3 (q := 1388) dL_law_1387 rfl ?_
    refine j_iconst (q := 1389) dL_law_1388 rfl ?_
    refine j_laload (q := 1390) (i' := 0) dL_law_1389 rfl sh_206 rfl (by decide) (by decide) ?_
    refine j_iload6 (q := 1392) dL_law_1390 rfl ?_
    refine j_i2l (q := 1393) dL_law_1392 rfl ?_
    refine j_lcmp (q := 1394) dL_law_1393 rfl ?_
    refine j_ifeq_l (tgt := 1399) (q := 1397) dL_law_1394 (by decide) rfl (fun _ => ?_) (fun hne => absurd (hq heq) hne)
    refine j_goto (tgt := 1958) dL_law_1399 (by decide) ?_
    refine j_fgt5 ?_
    refine j_fgt6 ?_
    exact j_kn (by omega) (by omega) (kk _ hL2)
theorem bk_setting {G : GX} (E : EV G) (hsc : SC G) {F : FinT} {i : Int} (hi : 0 ≤ i ∧ i + 5 ≤ ((gE G 2).2.1 : Int)) {X : Mem} {B K : Int} (h0 : LW X B K) (hB : B + 32 ≤ 1000000) (hK : K + 1 ≤ 512) {k n : Nat} (hk : k + 1 ≤ 601024) (hn : n + 6 ≤ 7293034) (kk : ∀ X' : Mem, LW X' (B + 32) (K + 1) → J G SHP iLw 601024 7293034 F 1958 [some (.inr (.retAddr 2)), some (.inr (.ref 0)), some (.inr (.ref 197)), some (.inr (.ref 206)), some (.inl i), none, none, none, none] [] X' (k + 1) (n + 6)) : J G SHP iLw 601024 7293034 F 1402 [some (.inr (.retAddr 2)), some (.inr (.ref 0)), some (.inr (.ref 197)), some (.inr (.ref 206)), some (.inl i), none, none, none, none] [] X k n := by
  have hL := hsc.2
  refine j_aload1 (q := 1403) dL_law_1402 rfl ?_
  refine j_oload0 (q := 1404) dL_law_1403 rfl ?_
  refine j_iload4 (q := 1406) dL_law_1404 rfl ?_
  refine j_iconst (q := 1407) dL_law_1406 rfl ?_
  refine j_iadd (q := 1408) dL_law_1407 rfl ?_
  refine j_oload (j := 2) (q := 1409) (i' := i + 1) (by decide) dL_law_1408 rfl (wr_id' (by omega) (by omega)) (by omega) (by omega) ?_
  refine j_aload3 (q := 1410) dL_law_1409 rfl ?_
  obtain ⟨kx, bx, X1, X2, w, c, h12, hkr, hq, hL2⟩ := tw_setting E h0 hB hK (hsc.1 (i + 1))
  refine j_callW3 (Mc := iL_setting) (q := 1413) (c' := 1) (s' := 6) dL_law_1410 rfl kW_L_setting jw_931 ⟨by decide, by decide⟩ rfl hk hn w ?_
  refine j_istore5 (q := 1415) dL_law_1413 rfl rfl (by decide) ?_
  refine j_aload2 (q := 1416) dL_law_1415 rfl ?_
  refine j_oload0 (q := 1417) dL_law_1416 rfl ?_
  refine j_iload4 (q := 1419) dL_law_1417 rfl ?_
  refine j_iconst (q := 1420) dL_law_1419 rfl ?_
  refine j_iadd (q := 1421) dL_law_1420 rfl ?_
  refine j_oload (j := 2) (q := 1422) (i' := i + 1) (by decide) dL_law_1421 rfl (wr_id' (by omega) (by omega)) (by omega) (by omega) ?_
  refine j_callV1 (Mc := iX8_setting) (q := 1425) (c' := 0) (s' := 0) dL_law_1422 rfl kV_X8_setting jw_1312 ⟨by decide, by decide⟩ sh_197 rfl rfl rfl (by omega) (by omega) c ?_
  refine j_istore6 (q := 1427) dL_law_1425 rfl rfl (by decide) ?_
  refine j_aload2 (q := 1428) dL_law_1427 rfl ?_
  refine j_callV0 (Mc := iX8_thrown) (q := 1431) (c' := 0) (s' := 0) dL_law_1428 rfl kV_X8_thrown jw_1027 ⟨by decide, by decide⟩ sh_197 rfl rfl rfl (by omega) (by omega) (ct_thr E) ?_
  refine j_iload5 (q := 1433) dL_law_1431 rfl ?_
  refine j_icmp_eq (x' := kx) (y' := kx) (tgt := 1438) (q := 1436) dL_law_1433 (by decide) rfl (by rw [h12]; exact wr_id' (by omega) (by omega)) (wr_id' (by omega) (by omega)) (fun _ => ?_) (fun hh => absurd rfl hh)
  refine j_iload5 (q := 1440) dL_law_1438 rfl ?_
  refine j_if_ne (x' := kx) (tgt := 1455) (q := 1443) dL_law_1440 (by decide) rfl (wr_id' (by omega) (by omega)) (fun hne => ?_) (fun heq => ?_)
  · refine j_goto (tgt := 1958) dL_law_1455 (by decide) ?_
    refine j_fgt5 ?_
    refine j_fgt6 ?_
    exact j_kn (by omega) (by omega) (kk _ hL2)
  · refine j_aload3 (q := 1444) dL_law_1443 rfl ?_
    refine j_iconst (q := 1445) dL_law_1444 rfl ?_
    refine j_laload (q := 1446) (i' := 0) dL_law_1445 rfl sh_206 rfl (by decide) (by decide) ?_
    refine j_iload6 (q := 1448) dL_law_1446 rfl ?_
    refine j_i2l (q := 1449) dL_law_1448 rfl ?_
    refine j_lcmp (q := 1450) dL_law_1449 rfl ?_
    refine j_ifeq_l (tgt := 1455) (q := 1453) dL_law_1450 (by decide) rfl (fun _ => ?_) (fun hne => absurd (hq heq) hne)
    refine j_goto (tgt := 1958) dL_law_1455 (by decide) ?_
    refine j_fgt5 ?_
    refine j_fgt6 ?_
    exact j_kn (by omega) (by omega) (kk _ hL2)
theorem bk_premium {G : GX} (E : EV G) (hsc : SC G) {F : FinT} {i : Int} (hi : 0 ≤ i ∧ i + 5 ≤ ((gE G 2).2.1 : Int)) {X : Mem} {B K : Int} (h0 : LW X B K) (hB : B + 32 ≤ 1000000) (hK : K + 1 ≤ 512) {k n : Nat} (hk : k + 1 ≤ 601024) (hn : n + 6 ≤ 7293034) (kk : ∀ X' : Mem, LW X' (B + 32) (K + 1) → J G SHP iLw 601024 7293034 F 1958 [some (.inr (.retAddr 2)), some (.inr (.ref 0)), some (.inr (.ref 197)), some (.inr (.ref 206)), some (.inl i), none, none, none, none] [] X' (k + 1) (n + 6)) : J G SHP iLw 601024 7293034 F 1458 [some (.inr (.retAddr 2)), some (.inr (.ref 0)), some (.inr (.ref 197)), some (.inr (.ref 206)), some (.inl i), none, none, none, none] [] X k n := by
  have hL := hsc.2
  refine j_aload1 (q := 1459) dL_law_1458 rfl ?_
  refine j_oload0 (q := 1460) dL_law_1459 rfl ?_
  refine j_iload4 (q := 1462) dL_law_1460 rfl ?_
  refine j_iconst (q := 1463) dL_law_1462 rfl ?_
  refine j_iadd (q := 1464) dL_law_1463 rfl ?_
  refine j_oload (j := 2) (q := 1465) (i' := i + 1) (by decide) dL_law_1464 rfl (wr_id' (by omega) (by omega)) (by omega) (by omega) ?_
  refine j_oload0 (q := 1466) dL_law_1465 rfl ?_
  refine j_iload4 (q := 1468) dL_law_1466 rfl ?_
  refine j_iconst (q := 1469) dL_law_1468 rfl ?_
  refine j_iadd (q := 1470) dL_law_1469 rfl ?_
  refine j_oload (j := 2) (q := 1471) (i' := i + 2) (by decide) dL_law_1470 rfl (wr_id' (by omega) (by omega)) (by omega) (by omega) ?_
  refine j_oload0 (q := 1472) dL_law_1471 rfl ?_
  refine j_iload4 (q := 1474) dL_law_1472 rfl ?_
  refine j_iconst (q := 1475) dL_law_1474 rfl ?_
  refine j_iadd (q := 1476) dL_law_1475 rfl ?_
  refine j_oload (j := 2) (q := 1477) (i' := i + 3) (by decide) dL_law_1476 rfl (wr_id' (by omega) (by omega)) (by omega) (by omega) ?_
  refine j_aload3 (q := 1478) dL_law_1477 rfl ?_
  obtain ⟨kx, bx, X1, X2, w, c, h12, hkr, hq, hL2⟩ := tw_premium E h0 hB hK (hsc.1 (i + 1)) (hsc.1 (i + 2)) (hsc.1 (i + 3))
  refine j_callW5 (Mc := iL_premium) (q := 1481) (c' := 1) (s' := 6) dL_law_1478 rfl kW_L_premium jw_935 ⟨by decide, by decide⟩ rfl hk hn w ?_
  refine j_istore5 (q := 1483) dL_law_1481 rfl rfl (by decide) ?_
  refine j_aload2 (q := 1484) dL_law_1483 rfl ?_
  refine j_oload0 (q := 1485) dL_law_1484 rfl ?_
  refine j_iload4 (q := 1487) dL_law_1485 rfl ?_
  refine j_iconst (q := 1488) dL_law_1487 rfl ?_
  refine j_iadd (q := 1489) dL_law_1488 rfl ?_
  refine j_oload (j := 2) (q := 1490) (i' := i + 1) (by decide) dL_law_1489 rfl (wr_id' (by omega) (by omega)) (by omega) (by omega) ?_
  refine j_oload0 (q := 1491) dL_law_1490 rfl ?_
  refine j_iload4 (q := 1493) dL_law_1491 rfl ?_
  refine j_iconst (q := 1494) dL_law_1493 rfl ?_
  refine j_iadd (q := 1495) dL_law_1494 rfl ?_
  refine j_oload (j := 2) (q := 1496) (i' := i + 2) (by decide) dL_law_1495 rfl (wr_id' (by omega) (by omega)) (by omega) (by omega) ?_
  refine j_oload0 (q := 1497) dL_law_1496 rfl ?_
  refine j_iload4 (q := 1499) dL_law_1497 rfl ?_
  refine j_iconst (q := 1500) dL_law_1499 rfl ?_
  refine j_iadd (q := 1501) dL_law_1500 rfl ?_
  refine j_oload (j := 2) (q := 1502) (i' := i + 3) (by decide) dL_law_1501 rfl (wr_id' (by omega) (by omega)) (by omega) (by omega) ?_
  refine j_callV3 (Mc := iX8_premium) (q := 1505) (c' := 0) (s' := 0) dL_law_1502 rfl kV_X8_premium jw_1316 ⟨by decide, by decide⟩ sh_197 rfl rfl rfl (by omega) (by omega) c ?_
  refine j_istore6 (q := 1507) dL_law_1505 rfl rfl (by decide) ?_
  refine j_aload2 (q := 1508) dL_law_1507 rfl ?_
  refine j_callV0 (Mc := iX8_thrown) (q := 1511) (c' := 0) (s' := 0) dL_law_1508 rfl kV_X8_thrown jw_1027 ⟨by decide, by decide⟩ sh_197 rfl rfl rfl (by omega) (by omega) (ct_thr E) ?_
  refine j_iload5 (q := 1513) dL_law_1511 rfl ?_
  refine j_icmp_eq (x' := kx) (y' := kx) (tgt := 1518) (q := 1516) dL_law_1513 (by decide) rfl (by rw [h12]; exact wr_id' (by omega) (by omega)) (wr_id' (by omega) (by omega)) (fun _ => ?_) (fun hh => absurd rfl hh)
  refine j_iload5 (q := 1520) dL_law_1518 rfl ?_
  refine j_if_ne (x' := kx) (tgt := 1535) (q := 1523) dL_law_1520 (by decide) rfl (wr_id' (by omega) (by omega)) (fun hne => ?_) (fun heq => ?_)
  · refine j_goto (tgt := 1958) dL_law_1535 (by decide) ?_
    refine j_fgt5 ?_
    refine j_fgt6 ?_
    exact j_kn (by omega) (by omega) (kk _ hL2)
  · refine j_aload3 (q := 1524) dL_law_1523 rfl ?_
    refine j_iconst (q := 1525) dL_law_1524 rfl ?_
    refine j_laload (q := 1526) (i' := 0) dL_law_1525 rfl sh_206 rfl (by decide) (by decide) ?_
    refine j_iload6 (q := 1528) dL_law_1526 rfl ?_
    refine j_i2l (q := 1529) dL_law_1528 rfl ?_
    refine j_lcmp (q := 1530) dL_law_1529 rfl ?_
    refine j_ifeq_l (tgt := 1535) (q := 1533) dL_law_1530 (by decide) rfl (fun _ => ?_) (fun hne => absurd (hq heq) hne)
    refine j_goto (tgt := 1958) dL_law_1535 (by decide) ?_
    refine j_fgt5 ?_
    refine j_fgt6 ?_
    exact j_kn (by omega) (by omega) (kk _ hL2)
theorem bk_cheapest {G : GX} (E : EV G) (hsc : SC G) {F : FinT} {i : Int} (hi : 0 ≤ i ∧ i + 5 ≤ ((gE G 2).2.1 : Int)) {X : Mem} {B K : Int} (h0 : LW X B K) (hB : B + 32 ≤ 1000000) (hK : K + 1 ≤ 512) {k n : Nat} (hk : k + 1 ≤ 601024) (hn : n + 6 ≤ 7293034) (kk : ∀ X' : Mem, LW X' (B + 32) (K + 1) → J G SHP iLw 601024 7293034 F 1958 [some (.inr (.retAddr 2)), some (.inr (.ref 0)), some (.inr (.ref 197)), some (.inr (.ref 206)), some (.inl i), none, none, none, none] [] X' (k + 1) (n + 6)) : J G SHP iLw 601024 7293034 F 1538 [some (.inr (.retAddr 2)), some (.inr (.ref 0)), some (.inr (.ref 197)), some (.inr (.ref 206)), some (.inl i), none, none, none, none] [] X k n := by
  have hL := hsc.2
  refine j_aload1 (q := 1539) dL_law_1538 rfl ?_
  refine j_oload0 (q := 1540) dL_law_1539 rfl ?_
  refine j_iload4 (q := 1542) dL_law_1540 rfl ?_
  refine j_iconst (q := 1543) dL_law_1542 rfl ?_
  refine j_iadd (q := 1544) dL_law_1543 rfl ?_
  refine j_oload (j := 2) (q := 1545) (i' := i + 1) (by decide) dL_law_1544 rfl (wr_id' (by omega) (by omega)) (by omega) (by omega) ?_
  refine j_oload0 (q := 1546) dL_law_1545 rfl ?_
  refine j_iload4 (q := 1548) dL_law_1546 rfl ?_
  refine j_iconst (q := 1549) dL_law_1548 rfl ?_
  refine j_iadd (q := 1550) dL_law_1549 rfl ?_
  refine j_oload (j := 2) (q := 1551) (i' := i + 2) (by decide) dL_law_1550 rfl (wr_id' (by omega) (by omega)) (by omega) (by omega) ?_
  refine j_oload0 (q := 1552) dL_law_1551 rfl ?_
  refine j_iload4 (q := 1554) dL_law_1552 rfl ?_
  refine j_iconst (q := 1555) dL_law_1554 rfl ?_
  refine j_iadd (q := 1556) dL_law_1555 rfl ?_
  refine j_oload (j := 2) (q := 1557) (i' := i + 3) (by decide) dL_law_1556 rfl (wr_id' (by omega) (by omega)) (by omega) (by omega) ?_
  refine j_aload3 (q := 1558) dL_law_1557 rfl ?_
  obtain ⟨kx, bx, X1, X2, w, c, h12, hkr, hq, hL2⟩ := tw_cheapest E h0 hB hK (hsc.1 (i + 1)) (hsc.1 (i + 2)) (hsc.1 (i + 3))
  refine j_callW5 (Mc := iL_cheapest) (q := 1561) (c' := 1) (s' := 6) dL_law_1558 rfl kW_L_cheapest jw_942 ⟨by decide, by decide⟩ rfl hk hn w ?_
  refine j_istore5 (q := 1563) dL_law_1561 rfl rfl (by decide) ?_
  refine j_aload2 (q := 1564) dL_law_1563 rfl ?_
  refine j_oload0 (q := 1565) dL_law_1564 rfl ?_
  refine j_iload4 (q := 1567) dL_law_1565 rfl ?_
  refine j_iconst (q := 1568) dL_law_1567 rfl ?_
  refine j_iadd (q := 1569) dL_law_1568 rfl ?_
  refine j_oload (j := 2) (q := 1570) (i' := i + 1) (by decide) dL_law_1569 rfl (wr_id' (by omega) (by omega)) (by omega) (by omega) ?_
  refine j_oload0 (q := 1571) dL_law_1570 rfl ?_
  refine j_iload4 (q := 1573) dL_law_1571 rfl ?_
  refine j_iconst (q := 1574) dL_law_1573 rfl ?_
  refine j_iadd (q := 1575) dL_law_1574 rfl ?_
  refine j_oload (j := 2) (q := 1576) (i' := i + 2) (by decide) dL_law_1575 rfl (wr_id' (by omega) (by omega)) (by omega) (by omega) ?_
  refine j_oload0 (q := 1577) dL_law_1576 rfl ?_
  refine j_iload4 (q := 1579) dL_law_1577 rfl ?_
  refine j_iconst (q := 1580) dL_law_1579 rfl ?_
  refine j_iadd (q := 1581) dL_law_1580 rfl ?_
  refine j_oload (j := 2) (q := 1582) (i' := i + 3) (by decide) dL_law_1581 rfl (wr_id' (by omega) (by omega)) (by omega) (by omega) ?_
  refine j_callV3 (Mc := iX8_cheapest) (q := 1585) (c' := 0) (s' := 0) dL_law_1582 rfl kV_X8_cheapest jw_1320 ⟨by decide, by decide⟩ sh_197 rfl rfl rfl (by omega) (by omega) c ?_
  refine j_istore6 (q := 1587) dL_law_1585 rfl rfl (by decide) ?_
  refine j_aload2 (q := 1588) dL_law_1587 rfl ?_
  refine j_callV0 (Mc := iX8_thrown) (q := 1591) (c' := 0) (s' := 0) dL_law_1588 rfl kV_X8_thrown jw_1027 ⟨by decide, by decide⟩ sh_197 rfl rfl rfl (by omega) (by omega) (ct_thr E) ?_
  refine j_iload5 (q := 1593) dL_law_1591 rfl ?_
  refine j_icmp_eq (x' := kx) (y' := kx) (tgt := 1598) (q := 1596) dL_law_1593 (by decide) rfl (by rw [h12]; exact wr_id' (by omega) (by omega)) (wr_id' (by omega) (by omega)) (fun _ => ?_) (fun hh => absurd rfl hh)
  refine j_iload5 (q := 1600) dL_law_1598 rfl ?_
  refine j_if_ne (x' := kx) (tgt := 1615) (q := 1603) dL_law_1600 (by decide) rfl (wr_id' (by omega) (by omega)) (fun hne => ?_) (fun heq => ?_)
  · refine j_goto (tgt := 1958) dL_law_1615 (by decide) ?_
    refine j_fgt5 ?_
    refine j_fgt6 ?_
    exact j_kn (by omega) (by omega) (kk _ hL2)
  · refine j_aload3 (q := 1604) dL_law_1603 rfl ?_
    refine j_iconst (q := 1605) dL_law_1604 rfl ?_
    refine j_laload (q := 1606) (i' := 0) dL_law_1605 rfl sh_206 rfl (by decide) (by decide) ?_
    refine j_iload6 (q := 1608) dL_law_1606 rfl ?_
    refine j_i2l (q := 1609) dL_law_1608 rfl ?_
    refine j_lcmp (q := 1610) dL_law_1609 rfl ?_
    refine j_ifeq_l (tgt := 1615) (q := 1613) dL_law_1610 (by decide) rfl (fun _ => ?_) (fun hne => absurd (hq heq) hne)
    refine j_goto (tgt := 1958) dL_law_1615 (by decide) ?_
    refine j_fgt5 ?_
    refine j_fgt6 ?_
    exact j_kn (by omega) (by omega) (kk _ hL2)
theorem bk_waitFor {G : GX} (E : EV G) (hsc : SC G) {F : FinT} {i : Int} (hi : 0 ≤ i ∧ i + 5 ≤ ((gE G 2).2.1 : Int)) {X : Mem} {B K : Int} (h0 : LW X B K) (hB : B + 32 ≤ 1000000) (hK : K + 1 ≤ 512) {k n : Nat} (hk : k + 1 ≤ 601024) (hn : n + 6 ≤ 7293034) (kk : ∀ X' : Mem, LW X' (B + 32) (K + 1) → J G SHP iLw 601024 7293034 F 1958 [some (.inr (.retAddr 2)), some (.inr (.ref 0)), some (.inr (.ref 197)), some (.inr (.ref 206)), some (.inl i), none, none, none, none] [] X' (k + 1) (n + 6)) : J G SHP iLw 601024 7293034 F 1618 [some (.inr (.retAddr 2)), some (.inr (.ref 0)), some (.inr (.ref 197)), some (.inr (.ref 206)), some (.inl i), none, none, none, none] [] X k n := by
  have hL := hsc.2
  refine j_aload1 (q := 1619) dL_law_1618 rfl ?_
  refine j_oload0 (q := 1620) dL_law_1619 rfl ?_
  refine j_iload4 (q := 1622) dL_law_1620 rfl ?_
  refine j_iconst (q := 1623) dL_law_1622 rfl ?_
  refine j_iadd (q := 1624) dL_law_1623 rfl ?_
  refine j_oload (j := 2) (q := 1625) (i' := i + 1) (by decide) dL_law_1624 rfl (wr_id' (by omega) (by omega)) (by omega) (by omega) ?_
  refine j_oload0 (q := 1626) dL_law_1625 rfl ?_
  refine j_iload4 (q := 1628) dL_law_1626 rfl ?_
  refine j_iconst (q := 1629) dL_law_1628 rfl ?_
  refine j_iadd (q := 1630) dL_law_1629 rfl ?_
  refine j_oload (j := 2) (q := 1631) (i' := i + 2) (by decide) dL_law_1630 rfl (wr_id' (by omega) (by omega)) (by omega) (by omega) ?_
  refine j_oload0 (q := 1632) dL_law_1631 rfl ?_
  refine j_iload4 (q := 1634) dL_law_1632 rfl ?_
  refine j_iconst (q := 1635) dL_law_1634 rfl ?_
  refine j_iadd (q := 1636) dL_law_1635 rfl ?_
  refine j_oload (j := 2) (q := 1637) (i' := i + 3) (by decide) dL_law_1636 rfl (wr_id' (by omega) (by omega)) (by omega) (by omega) ?_
  refine j_oload0 (q := 1638) dL_law_1637 rfl ?_
  refine j_iload4 (q := 1640) dL_law_1638 rfl ?_
  refine j_iconst (q := 1641) dL_law_1640 rfl ?_
  refine j_iadd (q := 1642) dL_law_1641 rfl ?_
  refine j_oload (j := 2) (q := 1643) (i' := i + 4) (by decide) dL_law_1642 rfl (wr_id' (by omega) (by omega)) (by omega) (by omega) ?_
  refine j_aload3 (q := 1644) dL_law_1643 rfl ?_
  obtain ⟨kx, bx, X1, X2, w, c, h12, hkr, hq, hL2⟩ := tw_waitFor E h0 hB hK (hsc.1 (i + 1)) (hsc.1 (i + 2)) (hsc.1 (i + 3)) (hsc.1 (i + 4))
  refine j_callW6 (Mc := iL_waitFor) (q := 1647) (c' := 1) (s' := 6) dL_law_1644 rfl kW_L_waitFor jw_949 ⟨by decide, by decide⟩ rfl hk hn w ?_
  refine j_istore5 (q := 1649) dL_law_1647 rfl rfl (by decide) ?_
  refine j_aload2 (q := 1650) dL_law_1649 rfl ?_
  refine j_oload0 (q := 1651) dL_law_1650 rfl ?_
  refine j_iload4 (q := 1653) dL_law_1651 rfl ?_
  refine j_iconst (q := 1654) dL_law_1653 rfl ?_
  refine j_iadd (q := 1655) dL_law_1654 rfl ?_
  refine j_oload (j := 2) (q := 1656) (i' := i + 1) (by decide) dL_law_1655 rfl (wr_id' (by omega) (by omega)) (by omega) (by omega) ?_
  refine j_oload0 (q := 1657) dL_law_1656 rfl ?_
  refine j_iload4 (q := 1659) dL_law_1657 rfl ?_
  refine j_iconst (q := 1660) dL_law_1659 rfl ?_
  refine j_iadd (q := 1661) dL_law_1660 rfl ?_
  refine j_oload (j := 2) (q := 1662) (i' := i + 2) (by decide) dL_law_1661 rfl (wr_id' (by omega) (by omega)) (by omega) (by omega) ?_
  refine j_oload0 (q := 1663) dL_law_1662 rfl ?_
  refine j_iload4 (q := 1665) dL_law_1663 rfl ?_
  refine j_iconst (q := 1666) dL_law_1665 rfl ?_
  refine j_iadd (q := 1667) dL_law_1666 rfl ?_
  refine j_oload (j := 2) (q := 1668) (i' := i + 3) (by decide) dL_law_1667 rfl (wr_id' (by omega) (by omega)) (by omega) (by omega) ?_
  refine j_oload0 (q := 1669) dL_law_1668 rfl ?_
  refine j_iload4 (q := 1671) dL_law_1669 rfl ?_
  refine j_iconst (q := 1672) dL_law_1671 rfl ?_
  refine j_iadd (q := 1673) dL_law_1672 rfl ?_
  refine j_oload (j := 2) (q := 1674) (i' := i + 4) (by decide) dL_law_1673 rfl (wr_id' (by omega) (by omega)) (by omega) (by omega) ?_
  refine j_callV4 (Mc := iX8_waitFor) (q := 1677) (c' := 0) (s' := 0) dL_law_1674 rfl kV_X8_waitFor jw_1328 ⟨by decide, by decide⟩ sh_197 rfl rfl rfl (by omega) (by omega) c ?_
  refine j_istore6 (q := 1679) dL_law_1677 rfl rfl (by decide) ?_
  refine j_aload2 (q := 1680) dL_law_1679 rfl ?_
  refine j_callV0 (Mc := iX8_thrown) (q := 1683) (c' := 0) (s' := 0) dL_law_1680 rfl kV_X8_thrown jw_1027 ⟨by decide, by decide⟩ sh_197 rfl rfl rfl (by omega) (by omega) (ct_thr E) ?_
  refine j_iload5 (q := 1685) dL_law_1683 rfl ?_
  refine j_icmp_eq (x' := kx) (y' := kx) (tgt := 1690) (q := 1688) dL_law_1685 (by decide) rfl (by rw [h12]; exact wr_id' (by omega) (by omega)) (wr_id' (by omega) (by omega)) (fun _ => ?_) (fun hh => absurd rfl hh)
  refine j_iload5 (q := 1692) dL_law_1690 rfl ?_
  refine j_if_ne (x' := kx) (tgt := 1707) (q := 1695) dL_law_1692 (by decide) rfl (wr_id' (by omega) (by omega)) (fun hne => ?_) (fun heq => ?_)
  · refine j_goto (tgt := 1958) dL_law_1707 (by decide) ?_
    refine j_fgt5 ?_
    refine j_fgt6 ?_
    exact j_kn (by omega) (by omega) (kk _ hL2)
  · refine j_aload3 (q := 1696) dL_law_1695 rfl ?_
    refine j_iconst (q := 1697) dL_law_1696 rfl ?_
    refine j_laload (q := 1698) (i' := 0) dL_law_1697 rfl sh_206 rfl (by decide) (by decide) ?_
    refine j_iload6 (q := 1700) dL_law_1698 rfl ?_
    refine j_i2l (q := 1701) dL_law_1700 rfl ?_
    refine j_lcmp (q := 1702) dL_law_1701 rfl ?_
    refine j_ifeq_l (tgt := 1707) (q := 1705) dL_law_1702 (by decide) rfl (fun _ => ?_) (fun hne => absurd (hq heq) hne)
    refine j_goto (tgt := 1958) dL_law_1707 (by decide) ?_
    refine j_fgt5 ?_
    refine j_fgt6 ?_
    exact j_kn (by omega) (by omega) (kk _ hL2)
theorem bk_ifRead {G : GX} (E : EV G) (hsc : SC G) {F : FinT} {i : Int} (hi : 0 ≤ i ∧ i + 5 ≤ ((gE G 2).2.1 : Int)) {X : Mem} {B K : Int} (h0 : LW X B K) (hB : B + 32 ≤ 1000000) (hK : K + 1 ≤ 512) {k n : Nat} (hk : k + 1 ≤ 601024) (hn : n + 6 ≤ 7293034) (kk : ∀ X' : Mem, LW X' (B + 32) (K + 1) → J G SHP iLw 601024 7293034 F 1958 [some (.inr (.retAddr 2)), some (.inr (.ref 0)), some (.inr (.ref 197)), some (.inr (.ref 206)), some (.inl i), none, none, none, none] [] X' (k + 1) (n + 6)) : J G SHP iLw 601024 7293034 F 1710 [some (.inr (.retAddr 2)), some (.inr (.ref 0)), some (.inr (.ref 197)), some (.inr (.ref 206)), some (.inl i), none, none, none, none] [] X k n := by
  have hL := hsc.2
  refine j_aload1 (q := 1711) dL_law_1710 rfl ?_
  refine j_oload0 (q := 1712) dL_law_1711 rfl ?_
  refine j_iload4 (q := 1714) dL_law_1712 rfl ?_
  refine j_iconst (q := 1715) dL_law_1714 rfl ?_
  refine j_iadd (q := 1716) dL_law_1715 rfl ?_
  refine j_oload (j := 2) (q := 1717) (i' := i + 1) (by decide) dL_law_1716 rfl (wr_id' (by omega) (by omega)) (by omega) (by omega) ?_
  refine j_oload0 (q := 1718) dL_law_1717 rfl ?_
  refine j_iload4 (q := 1720) dL_law_1718 rfl ?_
  refine j_iconst (q := 1721) dL_law_1720 rfl ?_
  refine j_iadd (q := 1722) dL_law_1721 rfl ?_
  refine j_oload (j := 2) (q := 1723) (i' := i + 2) (by decide) dL_law_1722 rfl (wr_id' (by omega) (by omega)) (by omega) (by omega) ?_
  refine j_aload3 (q := 1724) dL_law_1723 rfl ?_
  obtain ⟨kx, bx, X1, X2, w, c, h12, hkr, hq, hL2⟩ := tw_ifRead E h0 hB hK (hsc.1 (i + 1)) (hsc.1 (i + 2))
  refine j_callW4 (Mc := iL_ifRead) (q := 1727) (c' := 1) (s' := 6) dL_law_1724 rfl kW_L_ifRead jw_956 ⟨by decide, by decide⟩ rfl hk hn w ?_
  refine j_istore5 (q := 1729) dL_law_1727 rfl rfl (by decide) ?_
  refine j_aload2 (q := 1730) dL_law_1729 rfl ?_
  refine j_oload0 (q := 1731) dL_law_1730 rfl ?_
  refine j_iload4 (q := 1733) dL_law_1731 rfl ?_
  refine j_iconst (q := 1734) dL_law_1733 rfl ?_
  refine j_iadd (q := 1735) dL_law_1734 rfl ?_
  refine j_oload (j := 2) (q := 1736) (i' := i + 1) (by decide) dL_law_1735 rfl (wr_id' (by omega) (by omega)) (by omega) (by omega) ?_
  refine j_oload0 (q := 1737) dL_law_1736 rfl ?_
  refine j_iload4 (q := 1739) dL_law_1737 rfl ?_
  refine j_iconst (q := 1740) dL_law_1739 rfl ?_
  refine j_iadd (q := 1741) dL_law_1740 rfl ?_
  refine j_oload (j := 2) (q := 1742) (i' := i + 2) (by decide) dL_law_1741 rfl (wr_id' (by omega) (by omega)) (by omega) (by omega) ?_
  refine j_callV2 (Mc := iX8_ifRead) (q := 1745) (c' := 0) (s' := 0) dL_law_1742 rfl kV_X8_ifRead jw_1336 ⟨by decide, by decide⟩ sh_197 rfl rfl rfl (by omega) (by omega) c ?_
  refine j_istore6 (q := 1747) dL_law_1745 rfl rfl (by decide) ?_
  refine j_aload2 (q := 1748) dL_law_1747 rfl ?_
  refine j_callV0 (Mc := iX8_thrown) (q := 1751) (c' := 0) (s' := 0) dL_law_1748 rfl kV_X8_thrown jw_1027 ⟨by decide, by decide⟩ sh_197 rfl rfl rfl (by omega) (by omega) (ct_thr E) ?_
  refine j_iload5 (q := 1753) dL_law_1751 rfl ?_
  refine j_icmp_eq (x' := kx) (y' := kx) (tgt := 1758) (q := 1756) dL_law_1753 (by decide) rfl (by rw [h12]; exact wr_id' (by omega) (by omega)) (wr_id' (by omega) (by omega)) (fun _ => ?_) (fun hh => absurd rfl hh)
  refine j_iload5 (q := 1760) dL_law_1758 rfl ?_
  refine j_if_ne (x' := kx) (tgt := 1775) (q := 1763) dL_law_1760 (by decide) rfl (wr_id' (by omega) (by omega)) (fun hne => ?_) (fun heq => ?_)
  · refine j_goto (tgt := 1958) dL_law_1775 (by decide) ?_
    refine j_fgt5 ?_
    refine j_fgt6 ?_
    exact j_kn (by omega) (by omega) (kk _ hL2)
  · refine j_aload3 (q := 1764) dL_law_1763 rfl ?_
    refine j_iconst (q := 1765) dL_law_1764 rfl ?_
    refine j_laload (q := 1766) (i' := 0) dL_law_1765 rfl sh_206 rfl (by decide) (by decide) ?_
    refine j_iload6 (q := 1768) dL_law_1766 rfl ?_
    refine j_i2l (q := 1769) dL_law_1768 rfl ?_
    refine j_lcmp (q := 1770) dL_law_1769 rfl ?_
    refine j_ifeq_l (tgt := 1775) (q := 1773) dL_law_1770 (by decide) rfl (fun _ => ?_) (fun hne => absurd (hq heq) hne)
    refine j_goto (tgt := 1958) dL_law_1775 (by decide) ?_
    refine j_fgt5 ?_
    refine j_fgt6 ?_
    exact j_kn (by omega) (by omega) (kk _ hL2)
theorem bk_gentlest {G : GX} (E : EV G) (hsc : SC G) {F : FinT} {i : Int} (hi : 0 ≤ i ∧ i + 5 ≤ ((gE G 2).2.1 : Int)) {X : Mem} {B K : Int} (h0 : LW X B K) (hB : B + 32 ≤ 1000000) (hK : K + 1 ≤ 512) {k n : Nat} (hk : k + 1 ≤ 601024) (hn : n + 6 ≤ 7293034) (kk : ∀ X' : Mem, LW X' (B + 32) (K + 1) → J G SHP iLw 601024 7293034 F 1958 [some (.inr (.retAddr 2)), some (.inr (.ref 0)), some (.inr (.ref 197)), some (.inr (.ref 206)), some (.inl i), none, none, none, none] [] X' (k + 1) (n + 6)) : J G SHP iLw 601024 7293034 F 1778 [some (.inr (.retAddr 2)), some (.inr (.ref 0)), some (.inr (.ref 197)), some (.inr (.ref 206)), some (.inl i), none, none, none, none] [] X k n := by
  have hL := hsc.2
  obtain ⟨v, X1, X2, c1, c2, hL2⟩ := tn_gentlest E h0 hB hK
  refine j_aload1 (q := 1779) dL_law_1778 rfl ?_
  refine j_callV0 (Mc := iX7_gentlest) (q := 1782) (c' := 0) (s' := 0) dL_law_1779 rfl kV_X7_gentlest jw_284 ⟨by decide, by decide⟩ sh_0 rfl rfl rfl (by omega) (by omega) c1 ?_
  refine j_aload2 (q := 1783) dL_law_1782 rfl ?_
  refine j_callV0 (Mc := iX8_gentlest) (q := 1786) (c' := 0) (s' := 0) dL_law_1783 rfl kV_X8_gentlest jw_1348 ⟨by decide, by decide⟩ sh_197 rfl rfl rfl (by omega) (by omega) c2 ?_
  refine j_icmp_eq (tgt := 1958) (q := 1789) dL_law_1786 (by decide) rfl rfl rfl (fun _ => ?_) (fun hh => absurd rfl hh)
  exact j_wid (by omega) (by omega) (kk _ hL2)
theorem bk_savable {G : GX} (E : EV G) (hsc : SC G) {F : FinT} {i : Int} (hi : 0 ≤ i ∧ i + 5 ≤ ((gE G 2).2.1 : Int)) {X : Mem} {B K : Int} (h0 : LW X B K) (hB : B + 32 ≤ 1000000) (hK : K + 1 ≤ 512) {k n : Nat} (hk : k + 1 ≤ 601024) (hn : n + 6 ≤ 7293034) (kk : ∀ X' : Mem, LW X' (B + 32) (K + 1) → J G SHP iLw 601024 7293034 F 1958 [some (.inr (.retAddr 2)), some (.inr (.ref 0)), some (.inr (.ref 197)), some (.inr (.ref 206)), some (.inl i), none, none, none, none] [] X' (k + 1) (n + 6)) : J G SHP iLw 601024 7293034 F 1791 [some (.inr (.retAddr 2)), some (.inr (.ref 0)), some (.inr (.ref 197)), some (.inr (.ref 206)), some (.inl i), none, none, none, none] [] X k n := by
  have hL := hsc.2
  refine j_aload1 (q := 1792) dL_law_1791 rfl ?_
  refine j_oload0 (q := 1793) dL_law_1792 rfl ?_
  refine j_iload4 (q := 1795) dL_law_1793 rfl ?_
  refine j_iconst (q := 1796) dL_law_1795 rfl ?_
  refine j_iadd (q := 1797) dL_law_1796 rfl ?_
  refine j_oload (j := 2) (q := 1798) (i' := i + 1) (by decide) dL_law_1797 rfl (wr_id' (by omega) (by omega)) (by omega) (by omega) ?_
  refine j_aload3 (q := 1799) dL_law_1798 rfl ?_
  obtain ⟨kx, bx, X1, X2, w, c, h12, hkr, hq, hL2⟩ := tw_savable E h0 hB hK (hsc.1 (i + 1))
  refine j_callW3 (Mc := iL_savable) (q := 1802) (c' := 1) (s' := 6) dL_law_1799 rfl kW_L_savable jw_966 ⟨by decide, by decide⟩ rfl hk hn w ?_
  refine j_istore5 (q := 1804) dL_law_1802 rfl rfl (by decide) ?_
  refine j_aload2 (q := 1805) dL_law_1804 rfl ?_
  refine j_oload0 (q := 1806) dL_law_1805 rfl ?_
  refine j_iload4 (q := 1808) dL_law_1806 rfl ?_
  refine j_iconst (q := 1809) dL_law_1808 rfl ?_
  refine j_iadd (q := 1810) dL_law_1809 rfl ?_
  refine j_oload (j := 2) (q := 1811) (i' := i + 1) (by decide) dL_law_1810 rfl (wr_id' (by omega) (by omega)) (by omega) (by omega) ?_
  refine j_callV1 (Mc := iX8_savable) (q := 1814) (c' := 0) (s' := 0) dL_law_1811 rfl kV_X8_savable jw_1360 ⟨by decide, by decide⟩ sh_197 rfl rfl rfl (by omega) (by omega) c ?_
  refine j_istore6 (q := 1816) dL_law_1814 rfl rfl (by decide) ?_
  refine j_aload2 (q := 1817) dL_law_1816 rfl ?_
  refine j_callV0 (Mc := iX8_thrown) (q := 1820) (c' := 0) (s' := 0) dL_law_1817 rfl kV_X8_thrown jw_1027 ⟨by decide, by decide⟩ sh_197 rfl rfl rfl (by omega) (by omega) (ct_thr E) ?_
  refine j_iload5 (q := 1822) dL_law_1820 rfl ?_
  refine j_icmp_eq (x' := kx) (y' := kx) (tgt := 1827) (q := 1825) dL_law_1822 (by decide) rfl (by rw [h12]; exact wr_id' (by omega) (by omega)) (wr_id' (by omega) (by omega)) (fun _ => ?_) (fun hh => absurd rfl hh)
  refine j_iload5 (q := 1829) dL_law_1827 rfl ?_
  refine j_if_ne (x' := kx) (tgt := 1844) (q := 1832) dL_law_1829 (by decide) rfl (wr_id' (by omega) (by omega)) (fun hne => ?_) (fun heq => ?_)
  · refine j_goto (tgt := 1958) dL_law_1844 (by decide) ?_
    refine j_fgt5 ?_
    refine j_fgt6 ?_
    exact j_kn (by omega) (by omega) (kk _ hL2)
  · refine j_aload3 (q := 1833) dL_law_1832 rfl ?_
    refine j_iconst (q := 1834) dL_law_1833 rfl ?_
    refine j_laload (q := 1835) (i' := 0) dL_law_1834 rfl sh_206 rfl (by decide) (by decide) ?_
    refine j_iload6 (q := 1837) dL_law_1835 rfl ?_
    refine j_i2l (q := 1838) dL_law_1837 rfl ?_
    refine j_lcmp (q := 1839) dL_law_1838 rfl ?_
    refine j_ifeq_l (tgt := 1844) (q := 1842) dL_law_1839 (by decide) rfl (fun _ => ?_) (fun hne => absurd (hq heq) hne)
    refine j_goto (tgt := 1958) dL_law_1844 (by decide) ?_
    refine j_fgt5 ?_
    refine j_fgt6 ?_
    exact j_kn (by omega) (by omega) (kk _ hL2)
theorem bk_atRisk {G : GX} (E : EV G) (hsc : SC G) {F : FinT} {i : Int} (hi : 0 ≤ i ∧ i + 5 ≤ ((gE G 2).2.1 : Int)) {X : Mem} {B K : Int} (h0 : LW X B K) (hB : B + 32 ≤ 1000000) (hK : K + 1 ≤ 512) {k n : Nat} (hk : k + 1 ≤ 601024) (hn : n + 6 ≤ 7293034) (kk : ∀ X' : Mem, LW X' (B + 32) (K + 1) → J G SHP iLw 601024 7293034 F 1958 [some (.inr (.retAddr 2)), some (.inr (.ref 0)), some (.inr (.ref 197)), some (.inr (.ref 206)), some (.inl i), none, none, none, none] [] X' (k + 1) (n + 6)) : J G SHP iLw 601024 7293034 F 1847 [some (.inr (.retAddr 2)), some (.inr (.ref 0)), some (.inr (.ref 197)), some (.inr (.ref 206)), some (.inl i), none, none, none, none] [] X k n := by
  have hL := hsc.2
  refine j_aload1 (q := 1848) dL_law_1847 rfl ?_
  refine j_oload0 (q := 1849) dL_law_1848 rfl ?_
  refine j_iload4 (q := 1851) dL_law_1849 rfl ?_
  refine j_iconst (q := 1852) dL_law_1851 rfl ?_
  refine j_iadd (q := 1853) dL_law_1852 rfl ?_
  refine j_oload (j := 2) (q := 1854) (i' := i + 1) (by decide) dL_law_1853 rfl (wr_id' (by omega) (by omega)) (by omega) (by omega) ?_
  refine j_aload3 (q := 1855) dL_law_1854 rfl ?_
  obtain ⟨kx, bx, X1, X2, w, c, h12, hkr, hq, hL2⟩ := tw_atRisk E h0 hB hK (hsc.1 (i + 1))
  refine j_callW3 (Mc := iL_atRisk) (q := 1858) (c' := 1) (s' := 6) dL_law_1855 rfl kW_L_atRisk jw_970 ⟨by decide, by decide⟩ rfl hk hn w ?_
  refine j_istore5 (q := 1860) dL_law_1858 rfl rfl (by decide) ?_
  refine j_aload2 (q := 1861) dL_law_1860 rfl ?_
  refine j_oload0 (q := 1862) dL_law_1861 rfl ?_
  refine j_iload4 (q := 1864) dL_law_1862 rfl ?_
  refine j_iconst (q := 1865) dL_law_1864 rfl ?_
  refine j_iadd (q := 1866) dL_law_1865 rfl ?_
  refine j_oload (j := 2) (q := 1867) (i' := i + 1) (by decide) dL_law_1866 rfl (wr_id' (by omega) (by omega)) (by omega) (by omega) ?_
  refine j_callV1 (Mc := iX8_atRisk) (q := 1870) (c' := 0) (s' := 0) dL_law_1867 rfl kV_X8_atRisk jw_1376 ⟨by decide, by decide⟩ sh_197 rfl rfl rfl (by omega) (by omega) c ?_
  refine j_istore6 (q := 1872) dL_law_1870 rfl rfl (by decide) ?_
  refine j_aload2 (q := 1873) dL_law_1872 rfl ?_
  refine j_callV0 (Mc := iX8_thrown) (q := 1876) (c' := 0) (s' := 0) dL_law_1873 rfl kV_X8_thrown jw_1027 ⟨by decide, by decide⟩ sh_197 rfl rfl rfl (by omega) (by omega) (ct_thr E) ?_
  refine j_iload5 (q := 1878) dL_law_1876 rfl ?_
  refine j_icmp_eq (x' := kx) (y' := kx) (tgt := 1883) (q := 1881) dL_law_1878 (by decide) rfl (by rw [h12]; exact wr_id' (by omega) (by omega)) (wr_id' (by omega) (by omega)) (fun _ => ?_) (fun hh => absurd rfl hh)
  refine j_iload5 (q := 1885) dL_law_1883 rfl ?_
  refine j_if_ne (x' := kx) (tgt := 1900) (q := 1888) dL_law_1885 (by decide) rfl (wr_id' (by omega) (by omega)) (fun hne => ?_) (fun heq => ?_)
  · refine j_goto (tgt := 1958) dL_law_1900 (by decide) ?_
    refine j_fgt5 ?_
    refine j_fgt6 ?_
    exact j_kn (by omega) (by omega) (kk _ hL2)
  · refine j_aload3 (q := 1889) dL_law_1888 rfl ?_
    refine j_iconst (q := 1890) dL_law_1889 rfl ?_
    refine j_laload (q := 1891) (i' := 0) dL_law_1890 rfl sh_206 rfl (by decide) (by decide) ?_
    refine j_iload6 (q := 1893) dL_law_1891 rfl ?_
    refine j_i2l (q := 1894) dL_law_1893 rfl ?_
    refine j_lcmp (q := 1895) dL_law_1894 rfl ?_
    refine j_ifeq_l (tgt := 1900) (q := 1898) dL_law_1895 (by decide) rfl (fun _ => ?_) (fun hne => absurd (hq heq) hne)
    refine j_goto (tgt := 1958) dL_law_1900 (by decide) ?_
    refine j_fgt5 ?_
    refine j_fgt6 ?_
    exact j_kn (by omega) (by omega) (kk _ hL2)
theorem bk_backShare {G : GX} (E : EV G) (hsc : SC G) {F : FinT} {i : Int} (hi : 0 ≤ i ∧ i + 5 ≤ ((gE G 2).2.1 : Int)) {X : Mem} {B K : Int} (h0 : LW X B K) (hB : B + 32 ≤ 1000000) (hK : K + 1 ≤ 512) {k n : Nat} (hk : k + 1 ≤ 601024) (hn : n + 6 ≤ 7293034) (kk : ∀ X' : Mem, LW X' (B + 32) (K + 1) → J G SHP iLw 601024 7293034 F 1958 [some (.inr (.retAddr 2)), some (.inr (.ref 0)), some (.inr (.ref 197)), some (.inr (.ref 206)), some (.inl i), none, none, none, none] [] X' (k + 1) (n + 6)) : J G SHP iLw 601024 7293034 F 1903 [some (.inr (.retAddr 2)), some (.inr (.ref 0)), some (.inr (.ref 197)), some (.inr (.ref 206)), some (.inl i), none, none, none, none] [] X k n := by
  have hL := hsc.2
  obtain ⟨v, -, X1, X2, c1, c2, hL2⟩ := tn_backShare E h0 hB hK
  refine j_aload1 (q := 1904) dL_law_1903 rfl ?_
  refine j_callV0 (Mc := iX7_backShare) (q := 1907) (c' := 0) (s' := 0) dL_law_1904 rfl kV_X7_backShare jw_329 ⟨by decide, by decide⟩ sh_0 rfl rfl rfl (by omega) (by omega) c1 ?_
  refine j_dstore5 (q := 1909) dL_law_1907 rfl rfl (by decide) ?_
  refine j_aload2 (q := 1910) dL_law_1909 rfl ?_
  refine j_callV0 (Mc := iX8_backShare) (q := 1913) (c' := 0) (s' := 0) dL_law_1910 rfl kV_X8_backShare jw_1384 ⟨by decide, by decide⟩ sh_197 rfl rfl rfl (by omega) (by omega) c2 ?_
  refine j_dstore7 (q := 1915) dL_law_1913 rfl rfl (by decide) ?_
  refine j_dload5 (q := 1917) dL_law_1915 rfl ?_
  refine j_dload7 (q := 1919) dL_law_1917 rfl ?_
  refine j_dcmp (q := 1920) dL_law_1919 rfl ?_
  refine j_if_eq (tgt := 1941) (q := 1923) dL_law_1920 (by decide) rfl rfl (fun h1 => ?_) (fun h1 => ?_)
  · refine j_goto (tgt := 1958) dL_law_1941 (by decide) ?_
    refine j_fgt5 ?_
    refine j_fgt7 ?_
    exact j_wid (by omega) (by omega) (kk _ hL2)
  · refine j_dload5 (q := 1925) dL_law_1923 rfl ?_
    refine j_dload5 (q := 1927) dL_law_1925 rfl ?_
    refine j_dcmp (q := 1928) dL_law_1927 rfl ?_
    refine j_if_eq (tgt := 1939) (q := 1931) dL_law_1928 (by decide) rfl rfl (fun h2 => absurd h2 h1) (fun h2 => ?_)
    refine j_dload7 (q := 1933) dL_law_1931 rfl ?_
    refine j_dload7 (q := 1935) dL_law_1933 rfl ?_
    refine j_dcmp (q := 1936) dL_law_1935 rfl ?_
    refine j_if_ne (tgt := 1941) (q := 1939) dL_law_1936 (by decide) rfl rfl (fun h3 => ?_) (fun h3 => absurd h3 h1)
    refine j_goto (tgt := 1958) dL_law_1941 (by decide) ?_
    refine j_fgt5 ?_
    refine j_fgt7 ?_
    exact j_wid (by omega) (by omega) (kk _ hL2)
theorem bk_digest {G : GX} (E : EV G) (hsc : SC G) {F : FinT} {i : Int} (hi : 0 ≤ i ∧ i + 5 ≤ ((gE G 2).2.1 : Int)) {X : Mem} {B K : Int} (h0 : LW X B K) (hB : B + 32 ≤ 1000000) (hK : K + 1 ≤ 512) {k n : Nat} (hk : k + 1 ≤ 601024) (hn : n + 6 ≤ 7293034) (kk : ∀ X' : Mem, LW X' (B + 32) (K + 1) → J G SHP iLw 601024 7293034 F 1958 [some (.inr (.retAddr 2)), some (.inr (.ref 0)), some (.inr (.ref 197)), some (.inr (.ref 206)), some (.inl i), none, none, none, none] [] X' (k + 1) (n + 6)) : J G SHP iLw 601024 7293034 F 1944 [some (.inr (.retAddr 2)), some (.inr (.ref 0)), some (.inr (.ref 197)), some (.inr (.ref 206)), some (.inl i), none, none, none, none] [] X k n := by
  have hL := hsc.2
  obtain ⟨v, X1, X2, c1, c2, hL2⟩ := tn_digest E h0 hB hK
  refine j_aload1 (q := 1945) dL_law_1944 rfl ?_
  refine j_callV0 (Mc := iX7_digest) (q := 1948) (c' := 0) (s' := 0) dL_law_1945 rfl kV_X7_digest jw_333 ⟨by decide, by decide⟩ sh_0 rfl rfl rfl (by omega) (by omega) c1 ?_
  refine j_aload2 (q := 1949) dL_law_1948 rfl ?_
  refine j_callV0 (Mc := iX8_digest) (q := 1952) (c' := 0) (s' := 0) dL_law_1949 rfl kV_X8_digest jw_1392 ⟨by decide, by decide⟩ sh_197 rfl rfl rfl (by omega) (by omega) c2 ?_
  refine j_lcmp (q := 1953) dL_law_1952 rfl ?_
  refine j_ifeq_l (tgt := 1958) (q := 1956) dL_law_1953 (by decide) rfl (fun _ => ?_) (fun hh => absurd rfl hh)
  exact j_wid (by omega) (by omega) (kk _ hL2)

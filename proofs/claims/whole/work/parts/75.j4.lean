/-! the law: its begin -/
theorem SH7_len : SH7.length = 197 := by simp [SH7, plS_len, spL_len, txS]
theorem SHP_all : SH7 ++ (mdS ++ [.inr (1, 1)]) = SHP := by decide +kernel
theorem m00_z {c : Nat} (h : ¬ c = 50) : m00 c = fun _ => 0 := by
  funext j
  exact if_neg h
theorem m00_50 : m00 50 = fun _ => -1 := by
  funext j
  exact if_pos rfl
theorem iniX_hi {G : GX} {c : Nat} (h : 195 ≤ c) : iniX G m00 c = fun _ => 0 := by
  unfold iniX
  rw [spM_o 6 (by omega), iniP_o (by omega), iniP_o (by omega)]
  exact m00_z (by omega)
theorem lw_body {G : GX} (hl : Lin G) (hfl : (gL G).flags = flags0) (h8 : (gE G 0).2.1 = 8) (gf : ∀ s, 0 ≤ s → s < 8 → (gE G 0).2.2 s = zI 64 (15 + s)) (g8 : (gE G 1).2.1 = 8) (gm : ∀ s, 0 ≤ s → s < 8 → (gE G 1).2.2 s = zMost s) (hsc : SC G) {b : Nat} : J G ([] ++ []) iLw 601024 7293034 (FH G 0 (FLw G b)) 0 [some (.inr (.retAddr 2)), none, none, none, none, none, none, none, none] [] m00 0 0 := by
  have E : EV G := ⟨hl.ap, hfl⟩
  have hb0 : ([] : List SH).length = 0 := rfl
  refine j_new (N := 4) (ks := [.inl 2, .inl 2, .inl 2, .inl 2]) (r := 0) (l' := [.inl (7, [.inl 2, .inl 2, .inl 2, .inl 2])]) hl hb0 rfl rfl rfl cf_7 dL_law_0 rfl jw_22 jw_23 jw_1 df_7 (m00_z (by decide)) (by decide) (by decide) ?_
  refine j_dup (q := 4) dL_law_3 rfl rfl ?_
  refine jg_call (Mc := iX7_init) (q := 7) (c' := 196) (s' := 8990) (sh' := [] ++ SH7) (m' := iniX G m00) hl rfl dL_law_4 rfl kC_X7_init jw_24 ⟨by decide, by decide⟩ rfl rfl (by decide) (by decide) (CG_nil (cg_X7_init hl hfl h8 (fun c _ q => m00_z q) m00_50)) ?_
  refine j_astore1 (q := 8) dL_law_7 rfl rfl (by decide) ?_
  refine j_shp (sh' := SH7 ++ []) (by simp) ?_
  refine j_new (N := 14) (ks := [.inl 2, .inl 2, .inl 2, .inl 2, .inl 2, .inl 2, .inl 2, .inl 2, .inl 0, .inl 0, .inl 0, .inl 0, .inl 0, .inl 1]) (r := 197) (l' := [.inl (8, [.inl 2, .inl 2, .inl 2, .inl 2, .inl 2, .inl 2, .inl 2, .inl 2, .inl 0, .inl 0, .inl 0, .inl 0, .inl 0, .inl 1])]) hl SH7_len (by decide) rfl rfl cf_8 dL_law_8 rfl jw_974 jw_975 jw_12 df_8 (iniX_hi (by decide)) (by decide) (by decide) ?_
  refine j_dup (q := 12) dL_law_11 rfl rfl ?_
  refine jg_call (Mc := iX8_init) (q := 15) (c' := 8) (s' := 17780) (sh' := SH7 ++ mdS) (m' := X00 G) hl (by simp [SH7_len]) dL_law_12 rfl kC_X8_init jw_976 ⟨by decide, by decide⟩ rfl rfl (by decide) (by decide) (cg_X8_init hl hfl SH7_len (fun d _ => iniX_hi (by omega))) ?_
  refine j_astore2 (q := 16) dL_law_15 rfl rfl (by decide) ?_
  refine j_iconst (q := 17) dL_law_16 rfl ?_
  refine j_newL (N := 1) (r := 206) (l' := mdS ++ [.inr (1, 1)]) hl SH7_len (by decide) (by decide) rfl dL_law_17 rfl rfl (by decide) (X00_hi (by decide) (by decide)) (by decide) (by decide) ?_
  refine j_astore3 (q := 20) dL_law_19 rfl rfl (by decide) ?_
  refine j_shp SHP_all ?_
  refine j_iconst (q := 21) dL_law_20 rfl ?_
  refine j_istore4 (q := 23) dL_law_21 rfl rfl (by decide) ?_
  exact lp_law E hsc g8 gm 512 0 (X00 G) 0 0 _ _ (by decide) (by decide) (by have := hsc.2; omega) (LW_00 gf) (by decide) (by decide) (by decide) (by decide)

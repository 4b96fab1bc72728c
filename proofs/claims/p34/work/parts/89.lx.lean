/-! the law: its begin -/
theorem lp_ini {G : GX} (hs : LA SHP false) {b k n : Nat} {X : Mem} : ∀ (d : Nat) (i : Int) (z : Z), i + d = 16 → IN i z → 0 ≤ i → (∀ (z2 : Z), IN 16 z2 → J G SHP iLw 600104 7301314 (FH G 0 (FLw G b)) 105 [some (.inr (.retAddr 2)), some (.inr (.ref 0)), some (.inr (.ref (ix false 0))), some (.inr (.ref (ix false 1))), some (.inr (.ref (ix false 2))), some (.inr (.ref (ix false 3))), some (.inr (.ref (ix false 4))), some (.inr (.ref (ix false 5))), some (.inr (.ref (ix false 7))), some (.inr (.ref (ix false 6))), none, none, none, none] [] (lz X false z2) (k) (n)) → J G SHP iLw 600104 7301314 (FH G 0 (FLw G b)) 57 [some (.inr (.retAddr 2)), some (.inr (.ref 0)), some (.inr (.ref (ix false 0))), some (.inr (.ref (ix false 1))), some (.inr (.ref (ix false 2))), some (.inr (.ref (ix false 3))), some (.inr (.ref (ix false 4))), some (.inr (.ref (ix false 5))), some (.inr (.ref (ix false 7))), some (.inr (.ref (ix false 6))), some (.inl i), none, none, none] [] (lz X false z) (k) (n) := by
  intro d
  induction d with
  | zero =>
    intro i z g0 g1 g2 kk
    obtain rfl : i = 16 := by omega
    refine j_iload10 (q := 59) dL_law_57 rfl ?_
    refine j_bipush (q := 61) dL_law_59 rfl rfl ?_
    refine j_icmp_ge (tgt := 105) (q := 64) dL_law_61 (by decide) rfl (by first | exact wr_id' (by omega) (by omega) | with_reducible exact wr_bI _ | exact rfl) (by first | exact wr_id' (by omega) (by omega) | with_reducible exact wr_bI _ | exact rfl) (fun h61 => ?_) (fun h61 => ?_)
    · refine j_fgt10 ?_
      exact kk z g1
    · omega
  | succ d ih =>
    intro i z g0 g1 g2 kk
    refine j_iload10 (q := 59) dL_law_57 rfl ?_
    refine j_bipush (q := 61) dL_law_59 rfl rfl ?_
    refine j_icmp_ge (tgt := 105) (q := 64) dL_law_61 (by decide) rfl (by first | exact wr_id' (by omega) (by omega) | with_reducible exact wr_bI _ | exact rfl) (by first | exact wr_id' (by omega) (by omega) | with_reducible exact wr_bI _ | exact rfl) (fun h61 => ?_) (fun h61 => ?_)
    · omega
    · refine j_aload2 (q := 65) dL_law_64 rfl ?_
      refine j_iconst (q := 66) dL_law_65 rfl ?_
      refine j_iload10 (q := 68) dL_law_66 rfl ?_
      refine j_imul (q := 69) dL_law_68 rfl ?_
      refine j_iconst (q := 70) dL_law_69 rfl ?_
      refine j_iadd (q := 71) dL_law_70 rfl ?_
      refine j_bipush (q := 73) dL_law_71 rfl rfl ?_
      refine j_s0_1 (q := 74) dL_law_73 rfl hs (by omega) ?_
      refine j_aload2 (q := 75) dL_law_74 rfl ?_
      refine j_iconst (q := 76) dL_law_75 rfl ?_
      refine j_iload10 (q := 78) dL_law_76 rfl ?_
      refine j_imul (q := 79) dL_law_78 rfl ?_
      refine j_iconst (q := 80) dL_law_79 rfl ?_
      refine j_iadd (q := 81) dL_law_80 rfl ?_
      refine j_iconst (q := 82) dL_law_81 rfl ?_
      refine j_s0_2 (q := 83) dL_law_82 rfl hs (by omega) (v' := 0) (by decide) ?_
      refine j_aload3 (q := 84) dL_law_83 rfl ?_
      refine j_iconst (q := 85) dL_law_84 rfl ?_
      refine j_iload10 (q := 87) dL_law_85 rfl ?_
      refine j_imul (q := 88) dL_law_87 rfl ?_
      refine j_iconst (q := 89) dL_law_88 rfl ?_
      refine j_s1_0 (q := 90) dL_law_89 rfl hs (by omega) (v' := 0) (by decide) ?_
      refine j_aload3 (q := 91) dL_law_90 rfl ?_
      refine j_iconst (q := 92) dL_law_91 rfl ?_
      refine j_iload10 (q := 94) dL_law_92 rfl ?_
      refine j_imul (q := 95) dL_law_94 rfl ?_
      refine j_iconst (q := 96) dL_law_95 rfl ?_
      refine j_iadd (q := 97) dL_law_96 rfl ?_
      refine j_iconst (q := 98) dL_law_97 rfl ?_
      refine j_s1_2 (q := 99) dL_law_98 rfl hs (by omega) (v' := 0) (by decide) ?_
      refine j_iinc10 (q := 102) dL_law_99 rfl rfl (by decide) ?_
      refine j_goto (tgt := 57) dL_law_102 (by decide) ?_
      exact ih (i + 1) _ (by omega) (IN_s (by omega) g1) (by omega) kk
theorem lw_set {G : GX} (V : EV G SHP) (E : EW G SHP) (hs : LA SHP false) (hL : (gE G 2).2.1 ≤ 260) (gf : ∀ s, 0 ≤ s → s < 8 → (gE G 0).2.2 s = zI 64 (15 + s)) (g8 : (gE G 1).2.1 = 8) (gm : ∀ s, 0 ≤ s → s < 8 → (gE G 1).2.2 s = zMost s)  {b k n : Nat} {z : Z} (hz : IN 16 z) (hk : k + 400 ≤ 600104) (hn : n + 12000 ≤ 7301314) : J G SHP iLw 600104 7301314 (FH G 0 (FLw G b)) 105 [some (.inr (.retAddr 2)), some (.inr (.ref 0)), some (.inr (.ref (ix false 0))), some (.inr (.ref (ix false 1))), some (.inr (.ref (ix false 2))), some (.inr (.ref (ix false 3))), some (.inr (.ref (ix false 4))), some (.inr (.ref (ix false 5))), some (.inr (.ref (ix false 7))), some (.inr (.ref (ix false 6))), none, none, none, none] [] (lz (iniX G m00) false z) (k) (n) := by
  refine j_aload8 (q := 107) dL_law_105 rfl ?_
  refine j_iconst (q := 108) dL_law_107 rfl ?_
  refine j_iconst (q := 109) dL_law_108 rfl ?_
  refine j_s7_0 (q := 110) dL_law_109 rfl hs (by omega) ?_
  refine j_aload8 (q := 112) dL_law_110 rfl ?_
  refine j_iconst (q := 113) dL_law_112 rfl ?_
  refine j_iconst (q := 114) dL_law_113 rfl ?_
  refine j_s7_0 (q := 115) dL_law_114 rfl hs (by omega) ?_
  refine j_aload8 (q := 117) dL_law_115 rfl ?_
  refine j_iconst (q := 118) dL_law_117 rfl ?_
  refine j_iconst (q := 119) dL_law_118 rfl ?_
  refine j_s7_0 (q := 120) dL_law_119 rfl hs (by omega) ?_
  refine j_aload8 (q := 122) dL_law_120 rfl ?_
  refine j_iconst (q := 123) dL_law_122 rfl ?_
  refine j_iconst (q := 124) dL_law_123 rfl ?_
  refine j_s7_0 (q := 125) dL_law_124 rfl hs (by omega) ?_
  refine j_aload8 (q := 127) dL_law_125 rfl ?_
  refine j_iconst (q := 128) dL_law_127 rfl ?_
  refine j_bipush (q := 130) dL_law_128 rfl rfl ?_
  refine j_s7_0 (q := 131) dL_law_130 rfl hs (by omega) ?_
  refine j_aload8 (q := 133) dL_law_131 rfl ?_
  refine j_iconst (q := 134) dL_law_133 rfl ?_
  refine j_bipush (q := 136) dL_law_134 rfl rfl ?_
  refine j_s7_0 (q := 137) dL_law_136 rfl hs (by omega) ?_
  refine j_aload8 (q := 139) dL_law_137 rfl ?_
  refine j_bipush (q := 141) dL_law_139 rfl rfl ?_
  refine j_iconst (q := 142) dL_law_141 rfl ?_
  refine j_s7_0 (q := 143) dL_law_142 rfl hs (by omega) ?_
  refine j_aload8 (q := 145) dL_law_143 rfl ?_
  refine j_bipush (q := 147) dL_law_145 rfl rfl ?_
  refine j_bipush (q := 149) dL_law_147 rfl rfl ?_
  refine j_s7_0 (q := 150) dL_law_149 rfl hs (by omega) ?_
  refine j_mem (m' := lz (iniX G m00) false (zI 64)) ((show _ = lz (iniX G m00) false (zS8 z) from rfl).trans (lz_zI hz)) ?_
  obtain ⟨W, P1, hcall, hJ⟩ := us_0 gf V g8 gm
  refine j_aload1 (q := 151) dL_law_150 rfl ?_
  refine j_bipush (q := 153) dL_law_151 rfl rfl ?_
  refine j_aload2 (q := 154) dL_law_153 rfl ?_
  refine j_aload3 (q := 155) dL_law_154 rfl ?_
  refine j_aload4 (q := 157) dL_law_155 rfl ?_
  refine j_aload5 (q := 159) dL_law_157 rfl ?_
  refine j_aload6 (q := 161) dL_law_159 rfl ?_
  refine j_aload7 (q := 163) dL_law_161 rfl ?_
  refine j_aload8 (q := 165) dL_law_163 rfl ?_
  refine j_aload9 (q := 167) dL_law_165 rfl ?_
  refine j_callS10 (Mc := iL_told) (q := 170) (c' := 0) (s' := 0) dL_law_167 rfl kS_L_told jw_432 ⟨by decide, by decide⟩ rfl (by omega) (by omega) (ct_L_told V E hs (QP_0 gf) NI_0) ?_
  refine j_ifne_b (tgt := 175) (q := 173) dL_law_170 (by decide) rfl (fun h170 => ?_) (fun h170 => ?_)
  · refine j_aload1 (q := 176) dL_law_175 rfl ?_
    refine j_iconst (q := 177) dL_law_176 rfl ?_
    refine j_bipush (q := 179) dL_law_177 rfl rfl ?_
    refine j_callV2 (Mc := iX7_set) (q := 182) (c' := 0) (s' := 0) dL_law_179 rfl kV_X7_set jw_256 ⟨by decide, by decide⟩ (V.2.2 _ _ sh_0) rfl rfl rfl (by omega) (by omega) hcall ?_
    refine j_bipush (q := 184) dL_law_182 rfl rfl ?_
    refine j_icmp_eq (tgt := 189) (q := 187) dL_law_184 (by decide) rfl (by first | exact wr_id' (by omega) (by omega) | with_reducible exact wr_bI _ | exact rfl) (by first | exact wr_id' (by omega) (by omega) | with_reducible exact wr_bI _ | exact rfl) (fun h184 => ?_) (fun h184 => ?_)
    · refine j_aload8 (q := 191) dL_law_189 rfl ?_
      refine j_iconst (q := 192) dL_law_191 rfl ?_
      refine j_bipush (q := 194) dL_law_192 rfl rfl ?_
      refine j_s7_0 (q := 195) dL_law_194 rfl hs (by omega) ?_
      refine j_iconst (q := 196) dL_law_195 rfl ?_
      refine j_istore10 (q := 198) dL_law_196 rfl rfl (by decide) ?_
      exact lp_law V E hs hL g8 gm 44 0 W P1 _ 0 0 0 _ _ (by decide) (by decide) hJ (by decide) (by decide) (by decide) (by omega) (by omega)
    · omega
  · cases h170
theorem SH7_len : SH7.length = 197 := by simp [SH7, plS_len, spL_len, txS]
theorem SHP_all : SH7 ++ [.inr (0, 64), .inr (0, 64), .inr (0, 16), .inr (0, 9), .inr (0, 12), .inr (0, 48), .inr (0, 8), .inr (0, 15)] = SHP := by decide +kernel
theorem lw_body {G : GX} (hl : Lin G) (hfl : (gL G).flags = flags0) (h8 : (gE G 0).2.1 = 8) (gf : ∀ s, 0 ≤ s → s < 8 → (gE G 0).2.2 s = zI 64 (15 + s)) (g8 : (gE G 1).2.1 = 8) (gm : ∀ s, 0 ≤ s → s < 8 → (gE G 1).2.2 s = zMost s) (hL : (gE G 2).2.1 ≤ 260) {b : Nat} : J G ([] ++ []) iLw 600104 7301314 (FH G 0 (FLw G b)) 0 [some (.inr (.retAddr 2)), none, none, none, none, none, none, none, none, none, none, none, none, none] [] m00 0 0 := by
  have V : EV G SHP := ⟨hl.ap, hfl, fun i x h => h⟩
  have E : EW G SHP := ⟨hl.ap, hfl⟩
  have hb0 : ([] : List SH).length = 0 := rfl
  refine j_new (N := 4) (ks := [.inl 2, .inl 2, .inl 2, .inl 2]) (r := 0) (l' := [.inl (7, [.inl 2, .inl 2, .inl 2, .inl 2])]) hl hb0 rfl rfl rfl cf_7 dL_law_0 rfl jw_19 jw_20 jw_1 df_7 (m00_z (by decide)) (by decide) (by decide) ?_
  refine j_dup (q := 4) dL_law_3 rfl rfl ?_
  refine jg_call (Mc := iX7_init) (q := 7) (c' := 196) (s' := 8990) (sh' := [] ++ SH7) (m' := iniX G m00) hl rfl dL_law_4 rfl kC_X7_init jw_21 ⟨by decide, by decide⟩ rfl rfl (by decide) (by decide) (CG_nil (cg_X7_init hl hfl h8 (fun c _ q => m00_z q) m00_50)) ?_
  refine j_astore1 (q := 8) dL_law_7 rfl rfl (by decide) ?_
  refine j_shp (sh' := SH7 ++ []) (by simp) ?_
  refine j_bipush (q := 10) dL_law_8 rfl rfl ?_
  refine j_newI (N := 64) (r := 197) (l' := [.inr (0, 64)]) hl SH7_len (by decide) (by decide) rfl dL_law_10 rfl rfl (by decide) (iniX_hi (by decide)) (by decide) (by decide) ?_
  refine j_astore2 (q := 13) dL_law_12 rfl rfl (by decide) ?_
  refine j_bipush (q := 15) dL_law_13 rfl rfl ?_
  refine j_newI (N := 64) (r := 198) (l' := [.inr (0, 64), .inr (0, 64)]) hl SH7_len (by decide) (by decide) rfl dL_law_15 rfl rfl (by decide) (iniX_hi (by decide)) (by decide) (by decide) ?_
  refine j_astore3 (q := 18) dL_law_17 rfl rfl (by decide) ?_
  refine j_bipush (q := 20) dL_law_18 rfl rfl ?_
  refine j_newI (N := 16) (r := 199) (l' := [.inr (0, 64), .inr (0, 64), .inr (0, 16)]) hl SH7_len (by decide) (by decide) rfl dL_law_20 rfl rfl (by decide) (iniX_hi (by decide)) (by decide) (by decide) ?_
  refine j_astore4 (q := 24) dL_law_22 rfl rfl (by decide) ?_
  refine j_bipush (q := 26) dL_law_24 rfl rfl ?_
  refine j_newI (N := 9) (r := 200) (l' := [.inr (0, 64), .inr (0, 64), .inr (0, 16), .inr (0, 9)]) hl SH7_len (by decide) (by decide) rfl dL_law_26 rfl rfl (by decide) (iniX_hi (by decide)) (by decide) (by decide) ?_
  refine j_astore5 (q := 30) dL_law_28 rfl rfl (by decide) ?_
  refine j_bipush (q := 32) dL_law_30 rfl rfl ?_
  refine j_newI (N := 12) (r := 201) (l' := [.inr (0, 64), .inr (0, 64), .inr (0, 16), .inr (0, 9), .inr (0, 12)]) hl SH7_len (by decide) (by decide) rfl dL_law_32 rfl rfl (by decide) (iniX_hi (by decide)) (by decide) (by decide) ?_
  refine j_astore6 (q := 36) dL_law_34 rfl rfl (by decide) ?_
  refine j_bipush (q := 38) dL_law_36 rfl rfl ?_
  refine j_newI (N := 48) (r := 202) (l' := [.inr (0, 64), .inr (0, 64), .inr (0, 16), .inr (0, 9), .inr (0, 12), .inr (0, 48)]) hl SH7_len (by decide) (by decide) rfl dL_law_38 rfl rfl (by decide) (iniX_hi (by decide)) (by decide) (by decide) ?_
  refine j_astore7 (q := 42) dL_law_40 rfl rfl (by decide) ?_
  refine j_bipush (q := 44) dL_law_42 rfl rfl ?_
  refine j_newI (N := 8) (r := 203) (l' := [.inr (0, 64), .inr (0, 64), .inr (0, 16), .inr (0, 9), .inr (0, 12), .inr (0, 48), .inr (0, 8)]) hl SH7_len (by decide) (by decide) rfl dL_law_44 rfl rfl (by decide) (iniX_hi (by decide)) (by decide) (by decide) ?_
  refine j_astore8 (q := 48) dL_law_46 rfl rfl (by decide) ?_
  refine j_bipush (q := 50) dL_law_48 rfl rfl ?_
  refine j_newI (N := 15) (r := 204) (l' := [.inr (0, 64), .inr (0, 64), .inr (0, 16), .inr (0, 9), .inr (0, 12), .inr (0, 48), .inr (0, 8), .inr (0, 15)]) hl SH7_len (by decide) (by decide) rfl dL_law_50 rfl rfl (by decide) (iniX_hi (by decide)) (by decide) (by decide) ?_
  refine j_astore9 (q := 54) dL_law_52 rfl rfl (by decide) ?_
  refine j_shp SHP_all ?_
  refine j_mem iniX_lz ?_
  refine j_iconst (q := 55) dL_law_54 rfl ?_
  refine j_istore10 (q := 57) dL_law_55 rfl rfl (by decide) ?_
  exact lp_ini LA_SHP 16 0 z00 (by decide) IN_0 (by decide) (fun z2 hz => lw_set V E LA_SHP hL gf g8 gm hz (by decide) (by decide))

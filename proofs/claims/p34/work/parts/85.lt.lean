/-! the law: act -/
theorem LJ_k {X P : Mem} {z : Z} {B K H B' K' H' : Int} (h : LJ X P z B K H) (hB : B ≤ B') (hB2 : B' ≤ 1000000) (hK : K ≤ K') (hK2 : K' ≤ 512) (hH : H ≤ H') : LΦ B' K' H' (lz X false z) := ⟨X, P, z, rfl, LJ_mono hB hB2 hK hK2 hH h⟩
theorem act_T {G : GX} {sh : List SH} (V : EV G sh) (E : EW G sh) (hs : LA sh false) {X P : Mem} {z : Z} {a x y k B K H : Int} (h : LJ X P z B K H) (hk : 0 ≤ k ∧ k < 16) (hB : B + 32 ≤ 1000000) (hK : K + 1 ≤ 512) (hH : H ≤ 9000)  : J G sh iL_act 0 0 (FE G sh 0 0 (some (.inl (bI true))) (LΦ (B + 32) (K + 1) (H + 14))) 26 [some (.inr (.ref 0)), some (.inl a), some (.inl x), some (.inl y), some (.inr (.ref (ix false 0))), some (.inr (.ref (ix false 1))), some (.inr (.ref (ix false 2))), some (.inr (.ref (ix false 3))), some (.inr (.ref (ix false 4))), some (.inr (.ref (ix false 5))), some (.inr (.ref (ix false 7))), some (.inr (.ref (ix false 6))), some (.inl k), some (.inl (cr k)), none, none, none, none, none] [] (lz X false z) 0 0 := by
  have hc := cr_b hk
  have hX := h.1.2.2.2.1
  have hI := h.1.2.1.2.2.2.2.2
  have hN := h.2.1
  unfold NI at hN
  have xk := hX.2.2 _ hc.1 hc.2
  have sgk := hI.sg _ hc.1 hc.2
  have lek := hI.le _ hc.1 hc.2
  have duk := hI.du _ hc.1 hc.2
  have hht := hI.ht
  have st1 := hI.st 1 (by decide) (by decide)
  have st2 := hI.st 2 (by decide) (by decide)
  have hTT := hI.tT
  refine j_aload11 (q := 28) dL_act_26 rfl ?_
  refine j_iconst (q := 29) dL_act_28 rfl ?_
  refine j_l6_0 (q := 30) dL_act_29 rfl hs (by omega) ?_
  refine j_iconst (q := 31) dL_act_30 rfl ?_
  refine j_icmp_ne (tgt := 36) (q := 34) dL_act_31 (by decide) rfl (by first | exact wr_id' (by omega) (by omega) | with_reducible exact wr_bI _ | exact rfl) (by first | exact wr_id' (by omega) (by omega) | with_reducible exact wr_bI _ | exact rfl) (fun h31 => ?_) (fun h31 => ?_)
  · refine j_aload7 (q := 38) dL_act_36 rfl ?_
    refine j_iconst (q := 39) dL_act_38 rfl ?_
    refine j_aload11 (q := 41) dL_act_39 rfl ?_
    refine j_iconst (q := 42) dL_act_41 rfl ?_
    refine j_l6_0 (q := 43) dL_act_42 rfl hs (by omega) ?_
    refine j_imul (q := 44) dL_act_43 rfl ?_
    refine j_iload3 (q := 45) dL_act_44 rfl ?_
    refine j_sipush (q := 48) dL_act_45 rfl rfl ?_
    refine j_callS2 (Mc := iL_at) (q := 51) (c' := 0) (s' := 0) dL_act_48 rfl kS_L_at jw_429 ⟨by decide, by decide⟩ rfl (Nat.le_refl _) (Nat.le_refl _) (ct_L_at E hs (by omega)) ?_
    refine j_s3_0 (q := 52) dL_act_51 rfl hs (by omega) ?_
    refine j_aload11 (q := 54) dL_act_52 rfl ?_
    refine j_iconst (q := 55) dL_act_54 rfl ?_
    refine j_dup2 (q := 56) dL_act_55 rfl rfl rfl ?_
    refine j_l6_0 (q := 57) dL_act_56 rfl hs (by omega) ?_
    refine j_iconst (q := 58) dL_act_57 rfl ?_
    refine j_iadd (q := 59) dL_act_58 rfl ?_
    refine j_s6_0 (q := 60) dL_act_59 rfl hs (by omega) ?_
    refine j_mem (m' := lz X false (zAT z (aT y 3000))) rfl ?_
    have e2 : zAT z (aT y 3000) 2 = z 2 + 1 := by unfold zAT; rw [u1_at, u1_ne (by omega)]
    refine j_aload0 (q := 61) dL_act_60 rfl ?_
    refine j_aload7 (q := 63) dL_act_61 rfl ?_
    refine j_iconst (q := 64) dL_act_63 rfl ?_
    refine j_aload11 (q := 66) dL_act_64 rfl ?_
    refine j_iconst (q := 67) dL_act_66 rfl ?_
    refine j_l6_0 (q := 68) dL_act_67 rfl hs (by omega) ?_
    refine j_imul (q := 69) dL_act_68 rfl ?_
    refine j_iconst (q := 70) dL_act_69 rfl ?_
    refine j_isub (q := 71) dL_act_70 rfl ?_
    refine j_l3_b (q := 72) dL_act_71 rfl hs (by omega) ?_
    have ev : zAT z (aT y 3000) (23 + 3 * (zAT z (aT y 3000) 2 - 1)) = (aT y 3000) := by rw [e2]; unfold zAT; rw [u1_ne (by omega), show z 2 + 1 - 1 = z 2 by omega, u1_at]
    rw [ev]
    have vb := aT_b y (n := 3000) (by decide)
    obtain ⟨W, P1, hcall, hJ⟩ := us_at V h (by omega) (v := (aT y 3000)) (by omega)
    refine j_callV1 (Mc := iX7_addTenant) (q := 75) (c' := 0) (s' := 0) dL_act_72 rfl kV_X7_addTenant jw_710 ⟨by decide, by decide⟩ (V.2.2 _ _ sh_0) rfl rfl rfl (Nat.le_refl _) (Nat.le_refl _) hcall ?_
    refine j_aload11 (q := 77) dL_act_75 rfl ?_
    refine j_iconst (q := 78) dL_act_77 rfl ?_
    refine j_l6_0 (q := 79) dL_act_78 rfl hs (by omega) ?_
    refine j_iconst (q := 80) dL_act_79 rfl ?_
    refine j_isub (q := 81) dL_act_80 rfl ?_
    refine j_icmp_ne (tgt := 88) (q := 84) dL_act_81 (by decide) rfl (by first | exact wr_id' (by omega) (by omega) | with_reducible exact wr_bI _ | exact rfl) (by first | exact wr_id' (by omega) (by omega) | with_reducible exact wr_bI _ | exact rfl) (fun h81 => ?_) (fun h81 => ?_)
    · omega
    · refine j_iconst (q := 85) dL_act_84 rfl ?_
      refine j_goto (tgt := 89) dL_act_85 (by decide) ?_
      refine j_fe (LJ_k hJ (by omega) (by omega) (by omega) (by omega) (by omega)) ?_
      exact j_zreturn dL_act_89 rfl (by decide) (by first | exact bI_t (by omega) | exact bI_f (by omega) | simp [bI, *]) (rfl)
  · refine j_iconst (q := 35) dL_act_34 rfl ?_
    refine j_fe (LJ_k h (by omega) (by omega) (by omega) (by omega) (by omega)) ?_
    exact j_zreturn dL_act_35 rfl (by decide) (by first | exact bI_t (by omega) | exact bI_f (by omega) | simp [bI, *]) (rfl)
theorem act_I {G : GX} {sh : List SH} (V : EV G sh) (E : EW G sh) (hs : LA sh false) {X P : Mem} {z : Z} {a x y k B K H : Int} (h : LJ X P z B K H) (hk : 0 ≤ k ∧ k < 16) (hB : B + 32 ≤ 1000000) (hK : K + 1 ≤ 512) (hH : H ≤ 9000)  : J G sh iL_act 0 0 (FE G sh 0 0 (some (.inl (bI true))) (LΦ (B + 32) (K + 1) (H + 14))) 102 [some (.inr (.ref 0)), some (.inl a), some (.inl x), some (.inl y), some (.inr (.ref (ix false 0))), some (.inr (.ref (ix false 1))), some (.inr (.ref (ix false 2))), some (.inr (.ref (ix false 3))), some (.inr (.ref (ix false 4))), some (.inr (.ref (ix false 5))), some (.inr (.ref (ix false 7))), some (.inr (.ref (ix false 6))), some (.inl k), some (.inl (cr k)), none, none, none, none, none] [] (lz X false z) 0 0 := by
  have hc := cr_b hk
  have hX := h.1.2.2.2.1
  have hI := h.1.2.1.2.2.2.2.2
  have hN := h.2.1
  unfold NI at hN
  have xk := hX.2.2 _ hc.1 hc.2
  have sgk := hI.sg _ hc.1 hc.2
  have lek := hI.le _ hc.1 hc.2
  have duk := hI.du _ hc.1 hc.2
  have hht := hI.ht
  have st1 := hI.st 1 (by decide) (by decide)
  have st2 := hI.st 2 (by decide) (by decide)
  have hTT := hI.tT
  refine j_aload11 (q := 104) dL_act_102 rfl ?_
  refine j_iconst (q := 105) dL_act_104 rfl ?_
  refine j_l6_0 (q := 106) dL_act_105 rfl hs (by omega) ?_
  refine j_iconst (q := 107) dL_act_106 rfl ?_
  refine j_icmp_ne (tgt := 112) (q := 110) dL_act_107 (by decide) rfl (by first | exact wr_id' (by omega) (by omega) | with_reducible exact wr_bI _ | exact rfl) (by first | exact wr_id' (by omega) (by omega) | with_reducible exact wr_bI _ | exact rfl) (fun h107 => ?_) (fun h107 => ?_)
  · refine j_bipush (q := 114) dL_act_112 rfl rfl ?_
    refine j_aload11 (q := 116) dL_act_114 rfl ?_
    refine j_iconst (q := 117) dL_act_116 rfl ?_
    refine j_l6_0 (q := 118) dL_act_117 rfl hs (by omega) ?_
    refine j_imul (q := 119) dL_act_118 rfl ?_
    refine j_istore14 (q := 121) dL_act_119 rfl rfl (by decide) ?_
    refine j_aload8 (q := 123) dL_act_121 rfl ?_
    refine j_iload14 (q := 125) dL_act_123 rfl ?_
    refine j_iload2 (q := 126) dL_act_125 rfl ?_
    refine j_iconst (q := 127) dL_act_126 rfl ?_
    refine j_ishr (q := 128) dL_act_127 rfl ?_
    refine j_bipush (q := 130) dL_act_128 rfl rfl ?_
    refine j_callS2 (Mc := iL_at) (q := 133) (c' := 0) (s' := 0) dL_act_130 rfl kS_L_at jw_429 ⟨by decide, by decide⟩ rfl (Nat.le_refl _) (Nat.le_refl _) (ct_L_at E hs (by omega)) ?_
    refine j_s4_0 (q := 134) dL_act_133 rfl hs (by omega) ?_
    refine j_aload8 (q := 136) dL_act_134 rfl ?_
    refine j_iload14 (q := 138) dL_act_136 rfl ?_
    refine j_iconst (q := 139) dL_act_138 rfl ?_
    refine j_iadd (q := 140) dL_act_139 rfl ?_
    refine j_iconst (q := 141) dL_act_140 rfl ?_
    refine j_iload3 (q := 142) dL_act_141 rfl ?_
    refine j_bipush (q := 144) dL_act_142 rfl rfl ?_
    refine j_callS2 (Mc := iL_at) (q := 147) (c' := 0) (s' := 0) dL_act_144 rfl kS_L_at jw_429 ⟨by decide, by decide⟩ rfl (Nat.le_refl _) (Nat.le_refl _) (ct_L_at E hs (by omega)) ?_
    refine j_iadd (q := 148) dL_act_147 rfl ?_
    refine j_s4_1 (q := 149) dL_act_148 rfl hs (by omega) ?_
    refine j_aload8 (q := 151) dL_act_149 rfl ?_
    refine j_iload14 (q := 153) dL_act_151 rfl ?_
    refine j_iconst (q := 154) dL_act_153 rfl ?_
    refine j_iadd (q := 155) dL_act_154 rfl ?_
    refine j_iconst (q := 156) dL_act_155 rfl ?_
    refine j_iload3 (q := 157) dL_act_156 rfl ?_
    refine j_bipush (q := 159) dL_act_157 rfl rfl ?_
    refine j_ishr (q := 160) dL_act_159 rfl ?_
    refine j_bipush (q := 162) dL_act_160 rfl rfl ?_
    refine j_callS2 (Mc := iL_at) (q := 165) (c' := 0) (s' := 0) dL_act_162 rfl kS_L_at jw_429 ⟨by decide, by decide⟩ rfl (Nat.le_refl _) (Nat.le_refl _) (ct_L_at E hs (by omega)) ?_
    refine j_iadd (q := 166) dL_act_165 rfl ?_
    refine j_s4_2 (q := 167) dL_act_166 rfl hs (by omega) ?_
    refine j_aload11 (q := 169) dL_act_167 rfl ?_
    refine j_iconst (q := 170) dL_act_169 rfl ?_
    refine j_dup2 (q := 171) dL_act_170 rfl rfl rfl ?_
    refine j_l6_0 (q := 172) dL_act_171 rfl hs (by omega) ?_
    refine j_iconst (q := 173) dL_act_172 rfl ?_
    refine j_iadd (q := 174) dL_act_173 rfl ?_
    refine j_s6_0 (q := 175) dL_act_174 rfl hs (by omega) ?_
    refine j_mem (m' := lz X false (zAI z (aT (iS x 3) 100) (1 + aT y 60) (1 + aT (iS y 7) 90))) rfl ?_
    have e3 : zAI z (aT (iS x 3) 100) (1 + aT y 60) (1 + aT (iS y 7) 90) 3 = z 3 + 1 := by simp only [zAI]; rw [u1_at, u1_ne (by omega), u1_ne (by omega), u1_ne (by omega)]
    refine j_aload0 (q := 176) dL_act_175 rfl ?_
    refine j_aload8 (q := 178) dL_act_176 rfl ?_
    refine j_iload14 (q := 180) dL_act_178 rfl ?_
    refine j_l4_0 (q := 181) dL_act_180 rfl hs (by omega) ?_
    refine j_aload8 (q := 183) dL_act_181 rfl ?_
    refine j_iload14 (q := 185) dL_act_183 rfl ?_
    refine j_iconst (q := 186) dL_act_185 rfl ?_
    refine j_iadd (q := 187) dL_act_186 rfl ?_
    refine j_l4_1 (q := 188) dL_act_187 rfl hs (by omega) ?_
    refine j_aload8 (q := 190) dL_act_188 rfl ?_
    refine j_iload14 (q := 192) dL_act_190 rfl ?_
    refine j_iconst (q := 193) dL_act_192 rfl ?_
    refine j_iadd (q := 194) dL_act_193 rfl ?_
    refine j_l4_2 (q := 195) dL_act_194 rfl hs (by omega) ?_
    have v0 : zAI z (aT (iS x 3) 100) (1 + aT y 60) (1 + aT (iS y 7) 90) (41 + 6 * z 3 + 0) = (aT (iS x 3) 100) := by simp only [zAI]; rw [u1_ne (by omega), u1_ne (by omega), u1_ne (by omega), u1_at]
    have v1 : zAI z (aT (iS x 3) 100) (1 + aT y 60) (1 + aT (iS y 7) 90) (41 + 6 * z 3 + 1) = (1 + aT y 60) := by simp only [zAI]; rw [u1_ne (by omega), u1_ne (by omega), u1_at]
    have v2 : zAI z (aT (iS x 3) 100) (1 + aT y 60) (1 + aT (iS y 7) 90) (41 + 6 * z 3 + 2) = (1 + aT (iS y 7) 90) := by simp only [zAI]; rw [u1_ne (by omega), u1_at]
    rw [v0, v1, v2]
    have b0 := aT_b (iS x 3) (n := 100) (by decide)
    have b1 := aT_b y (n := 60) (by decide)
    have b2 := aT_b (iS y 7) (n := 90) (by decide)
    obtain ⟨W, P1, hcall, hJ⟩ := us_ai V h (by omega) (f := (aT (iS x 3) 100)) (r := (1 + aT y 60)) (c := (1 + aT (iS y 7) 90)) (by omega) (by omega) (by omega)
    refine j_callV3 (Mc := iX7_addInsurer) (q := 198) (c' := 0) (s' := 0) dL_act_195 rfl kV_X7_addInsurer jw_737 ⟨by decide, by decide⟩ (V.2.2 _ _ sh_0) rfl rfl rfl (Nat.le_refl _) (Nat.le_refl _) hcall ?_
    refine j_aload11 (q := 200) dL_act_198 rfl ?_
    refine j_iconst (q := 201) dL_act_200 rfl ?_
    refine j_l6_0 (q := 202) dL_act_201 rfl hs (by omega) ?_
    refine j_iconst (q := 203) dL_act_202 rfl ?_
    refine j_isub (q := 204) dL_act_203 rfl ?_
    refine j_icmp_ne (tgt := 211) (q := 207) dL_act_204 (by decide) rfl (by first | exact wr_id' (by omega) (by omega) | with_reducible exact wr_bI _ | exact rfl) (by first | exact wr_id' (by omega) (by omega) | with_reducible exact wr_bI _ | exact rfl) (fun h204 => ?_) (fun h204 => ?_)
    · omega
    · refine j_iconst (q := 208) dL_act_207 rfl ?_
      refine j_goto (tgt := 212) dL_act_208 (by decide) ?_
      refine j_fe (LJ_k hJ (by omega) (by omega) (by omega) (by omega) (by omega)) ?_
      exact j_zreturn dL_act_212 rfl (by decide) (by first | exact bI_t (by omega) | exact bI_f (by omega) | simp [bI, *]) (rfl)
  · refine j_iconst (q := 111) dL_act_110 rfl ?_
    refine j_fe (LJ_k h (by omega) (by omega) (by omega) (by omega) (by omega)) ?_
    exact j_zreturn dL_act_111 rfl (by decide) (by first | exact bI_t (by omega) | exact bI_f (by omega) | simp [bI, *]) (rfl)
theorem act_L {G : GX} {sh : List SH} (V : EV G sh) (E : EW G sh) (hs : LA sh false) {X P : Mem} {z : Z} {a x y k B K H : Int} (h : LJ X P z B K H) (hk : 0 ≤ k ∧ k < 16) (hB : B + 32 ≤ 1000000) (hK : K + 1 ≤ 512) (hH : H ≤ 9000) {t : Int} (ht : 0 ≤ t ∧ t < z 2) (h3 : 1 ≤ z 3) : J G sh iL_act 0 0 (FE G sh 0 0 (some (.inl (bI true))) (LΦ (B + 32) (K + 1) (H + 14))) 228 [some (.inr (.ref 0)), some (.inl a), some (.inl x), some (.inl y), some (.inr (.ref (ix false 0))), some (.inr (.ref (ix false 1))), some (.inr (.ref (ix false 2))), some (.inr (.ref (ix false 3))), some (.inr (.ref (ix false 4))), some (.inr (.ref (ix false 5))), some (.inr (.ref (ix false 7))), some (.inr (.ref (ix false 6))), some (.inl k), some (.inl (cr k)), some (.inl t), none, none, none, none] [] (lz X false z) 0 0 := by
  have hc := cr_b hk
  have hX := h.1.2.2.2.1
  have hI := h.1.2.1.2.2.2.2.2
  have hN := h.2.1
  unfold NI at hN
  have xk := hX.2.2 _ hc.1 hc.2
  have sgk := hI.sg _ hc.1 hc.2
  have lek := hI.le _ hc.1 hc.2
  have duk := hI.du _ hc.1 hc.2
  have hht := hI.ht
  have st1 := hI.st 1 (by decide) (by decide)
  have st2 := hI.st 2 (by decide) (by decide)
  have hTT := hI.tT
  refine j_iconst (q := 229) dL_act_228 rfl ?_
  refine j_iload3 (q := 230) dL_act_229 rfl ?_
  refine j_iconst (q := 231) dL_act_230 rfl ?_
  refine j_ishr (q := 232) dL_act_231 rfl ?_
  refine j_bipush (q := 234) dL_act_232 rfl rfl ?_
  refine j_callS2 (Mc := iL_at) (q := 237) (c' := 0) (s' := 0) dL_act_234 rfl kS_L_at jw_429 ⟨by decide, by decide⟩ rfl (Nat.le_refl _) (Nat.le_refl _) (ct_L_at E hs (by omega)) ?_
  refine j_iadd (q := 238) dL_act_237 rfl ?_
  refine j_istore15 (q := 240) dL_act_238 rfl rfl (by decide) ?_
  refine j_aload4 (q := 242) dL_act_240 rfl ?_
  refine j_iconst (q := 243) dL_act_242 rfl ?_
  refine j_iload12 (q := 245) dL_act_243 rfl ?_
  refine j_imul (q := 246) dL_act_245 rfl ?_
  refine j_iconst (q := 247) dL_act_246 rfl ?_
  refine j_iadd (q := 248) dL_act_247 rfl ?_
  refine j_l0_2 (q := 249) dL_act_248 rfl hs (by omega) ?_
  refine j_if_ge (tgt := 269) (q := 252) dL_act_249 (by decide) rfl (by first | exact wr_id' (by omega) (by omega) | with_reducible exact wr_bI _ | exact rfl) (fun h249 => ?_) (fun h249 => ?_)
  · refine j_iconst (q := 270) dL_act_269 rfl ?_
    refine j_fe (LJ_k h (by omega) (by omega) (by omega) (by omega) (by omega)) ?_
    exact j_zreturn dL_act_270 rfl (by decide) (by first | exact bI_t (by omega) | exact bI_f (by omega) | simp [bI, *]) (rfl)
  · refine j_aload7 (q := 254) dL_act_252 rfl ?_
    refine j_iconst (q := 255) dL_act_254 rfl ?_
    refine j_iload14 (q := 257) dL_act_255 rfl ?_
    refine j_imul (q := 258) dL_act_257 rfl ?_
    refine j_l3_0 (q := 259) dL_act_258 rfl hs (by omega) ?_
    refine j_iload15 (q := 261) dL_act_259 rfl ?_
    refine j_aload10 (q := 263) dL_act_261 rfl ?_
    refine j_iconst (q := 264) dL_act_263 rfl ?_
    refine j_l7_0 (q := 265) dL_act_264 rfl hs (by omega) ?_
    refine j_imul (q := 266) dL_act_265 rfl ?_
    refine j_icmp_ge (tgt := 271) (q := 269) dL_act_266 (by decide) rfl (by first | exact wr_id' (by omega) (by omega) | with_reducible exact wr_bI _ | exact rfl) (by first | exact wr_id' (by omega) (by omega) | with_reducible exact wr_bI _ | exact rfl) (fun h266 => ?_) (fun h266 => ?_)
    · refine j_aload7 (q := 273) dL_act_271 rfl ?_
      refine j_iconst (q := 274) dL_act_273 rfl ?_
      refine j_iload14 (q := 276) dL_act_274 rfl ?_
      refine j_imul (q := 277) dL_act_276 rfl ?_
      refine j_dup2 (q := 278) dL_act_277 rfl rfl rfl ?_
      refine j_l3_0 (q := 279) dL_act_278 rfl hs (by omega) ?_
      refine j_iload15 (q := 281) dL_act_279 rfl ?_
      refine j_aload10 (q := 283) dL_act_281 rfl ?_
      refine j_iconst (q := 284) dL_act_283 rfl ?_
      refine j_l7_0 (q := 285) dL_act_284 rfl hs (by omega) ?_
      refine j_imul (q := 286) dL_act_285 rfl ?_
      refine j_isub (q := 287) dL_act_286 rfl ?_
      refine j_s3_0 (q := 288) dL_act_287 rfl hs (by omega) ?_
      refine j_aload11 (q := 290) dL_act_288 rfl ?_
      refine j_bipush (q := 292) dL_act_290 rfl rfl ?_
      refine j_dup2 (q := 293) dL_act_292 rfl rfl rfl ?_
      refine j_l6_0 (q := 294) dL_act_293 rfl hs (by omega) ?_
      refine j_iload15 (q := 296) dL_act_294 rfl ?_
      refine j_aload10 (q := 298) dL_act_296 rfl ?_
      refine j_iconst (q := 299) dL_act_298 rfl ?_
      refine j_l7_0 (q := 300) dL_act_299 rfl hs (by omega) ?_
      refine j_imul (q := 301) dL_act_300 rfl ?_
      refine j_iadd (q := 302) dL_act_301 rfl ?_
      refine j_s6_0 (q := 303) dL_act_302 rfl hs (by omega) ?_
      refine j_aload4 (q := 305) dL_act_303 rfl ?_
      refine j_iconst (q := 306) dL_act_305 rfl ?_
      refine j_iload12 (q := 308) dL_act_306 rfl ?_
      refine j_imul (q := 309) dL_act_308 rfl ?_
      refine j_iconst (q := 310) dL_act_309 rfl ?_
      refine j_iadd (q := 311) dL_act_310 rfl ?_
      refine j_iload14 (q := 313) dL_act_311 rfl ?_
      refine j_s0_2 (q := 314) dL_act_313 rfl hs (by omega) rfl ?_
      refine j_aload4 (q := 316) dL_act_314 rfl ?_
      refine j_iconst (q := 317) dL_act_316 rfl ?_
      refine j_iload12 (q := 319) dL_act_317 rfl ?_
      refine j_imul (q := 320) dL_act_319 rfl ?_
      refine j_iconst (q := 321) dL_act_320 rfl ?_
      refine j_iadd (q := 322) dL_act_321 rfl ?_
      refine j_iload15 (q := 324) dL_act_322 rfl ?_
      refine j_s0_3 (q := 325) dL_act_324 rfl hs (by omega) ?_
      refine j_mem (m' := lz X false (zLe z (cr k) t (1 + aT (iS y 3) 60))) (by simp only [zLe]; rw [u1_ne (i := 23 + 3 * t) (j := 15 + 0) (by omega)]) ?_
      refine j_aload0 (q := 326) dL_act_325 rfl ?_
      refine j_iload13 (q := 328) dL_act_326 rfl ?_
      refine j_iload14 (q := 330) dL_act_328 rfl ?_
      refine j_iload15 (q := 332) dL_act_330 rfl ?_
      have b0 := aT_b (iS y 3) (n := 60) (by decide)
      obtain ⟨W, P1, hcall, hJ⟩ := us_le V h hc (cr_pl hk) ht (k := (1 + aT (iS y 3) 60)) (by omega) (by omega) (by omega)
      refine j_callV3 (Mc := iX7_lease) (q := 335) (c' := 0) (s' := 0) dL_act_332 rfl kV_X7_lease jw_745 ⟨by decide, by decide⟩ (V.2.2 _ _ sh_0) rfl rfl rfl (Nat.le_refl _) (Nat.le_refl _) hcall ?_
      refine j_aload7 (q := 337) dL_act_335 rfl ?_
      refine j_iconst (q := 338) dL_act_337 rfl ?_
      refine j_iload14 (q := 340) dL_act_338 rfl ?_
      refine j_imul (q := 341) dL_act_340 rfl ?_
      refine j_l3_0 (q := 342) dL_act_341 rfl hs (by omega) ?_
      refine j_icmp_ne (tgt := 349) (q := 345) dL_act_342 (by decide) rfl (by first | exact wr_id' (by omega) (by omega) | with_reducible exact wr_bI _ | exact rfl) (by first | exact wr_id' (by omega) (by omega) | with_reducible exact wr_bI _ | exact rfl) (fun h342 => ?_) (fun h342 => ?_)
      · omega
      · refine j_iconst (q := 346) dL_act_345 rfl ?_
        refine j_goto (tgt := 350) dL_act_346 (by decide) ?_
        refine j_fe (LJ_k hJ (by omega) (by omega) (by omega) (by omega) (by omega)) ?_
        exact j_zreturn dL_act_350 rfl (by decide) (by first | exact bI_t (by omega) | exact bI_f (by omega) | simp [bI, *]) (rfl)
    · refine j_iconst (q := 270) dL_act_269 rfl ?_
      refine j_fe (LJ_k h (by omega) (by omega) (by omega) (by omega) (by omega)) ?_
      exact j_zreturn dL_act_270 rfl (by decide) (by first | exact bI_t (by omega) | exact bI_f (by omega) | simp [bI, *]) (rfl)
theorem act_N {G : GX} {sh : List SH} (V : EV G sh) (E : EW G sh) (hs : LA sh false) {X P : Mem} {z : Z} {a x y k B K H : Int} (h : LJ X P z B K H) (hk : 0 ≤ k ∧ k < 16) (hB : B + 32 ≤ 1000000) (hK : K + 1 ≤ 512) (hH : H ≤ 9000) {t : Int} (ht : 0 ≤ t ∧ t < z 2) (h3 : 1 ≤ z 3) : J G sh iL_act 0 0 (FE G sh 0 0 (some (.inl (bI true))) (LΦ (B + 32) (K + 1) (H + 14))) 357 [some (.inr (.ref 0)), some (.inl a), some (.inl x), some (.inl y), some (.inr (.ref (ix false 0))), some (.inr (.ref (ix false 1))), some (.inr (.ref (ix false 2))), some (.inr (.ref (ix false 3))), some (.inr (.ref (ix false 4))), some (.inr (.ref (ix false 5))), some (.inr (.ref (ix false 7))), some (.inr (.ref (ix false 6))), some (.inl k), some (.inl (cr k)), some (.inl t), none, none, none, none] [] (lz X false z) 0 0 := by
  have hc := cr_b hk
  have hX := h.1.2.2.2.1
  have hI := h.1.2.1.2.2.2.2.2
  have hN := h.2.1
  unfold NI at hN
  have xk := hX.2.2 _ hc.1 hc.2
  have sgk := hI.sg _ hc.1 hc.2
  have lek := hI.le _ hc.1 hc.2
  have duk := hI.du _ hc.1 hc.2
  have hht := hI.ht
  have st1 := hI.st 1 (by decide) (by decide)
  have st2 := hI.st 2 (by decide) (by decide)
  have hTT := hI.tT
  have bi := aT_b (iS y 3) (n := z 3) (by omega)
  have bn := aT_b (iS y 5) (n := 40) (by decide)
  have wt0 := LX_wt hX (i := (aT (iS y 3) (z 3))) (by omega)
  refine j_iload3 (q := 358) dL_act_357 rfl ?_
  refine j_iconst (q := 359) dL_act_358 rfl ?_
  refine j_ishr (q := 360) dL_act_359 rfl ?_
  refine j_aload11 (q := 362) dL_act_360 rfl ?_
  refine j_iconst (q := 363) dL_act_362 rfl ?_
  refine j_l6_0 (q := 364) dL_act_363 rfl hs (by omega) ?_
  refine j_callS2 (Mc := iL_at) (q := 367) (c' := 0) (s' := 0) dL_act_364 rfl kS_L_at jw_429 ⟨by decide, by decide⟩ rfl (Nat.le_refl _) (Nat.le_refl _) (ct_L_at E hs (by omega)) ?_
  refine j_istore15 (q := 369) dL_act_367 rfl rfl (by decide) ?_
  refine j_iconst (q := 370) dL_act_369 rfl ?_
  refine j_iload3 (q := 371) dL_act_370 rfl ?_
  refine j_iconst (q := 372) dL_act_371 rfl ?_
  refine j_ishr (q := 373) dL_act_372 rfl ?_
  refine j_bipush (q := 375) dL_act_373 rfl rfl ?_
  refine j_callS2 (Mc := iL_at) (q := 378) (c' := 0) (s' := 0) dL_act_375 rfl kS_L_at jw_429 ⟨by decide, by decide⟩ rfl (Nat.le_refl _) (Nat.le_refl _) (ct_L_at E hs (by omega)) ?_
  refine j_iadd (q := 379) dL_act_378 rfl ?_
  refine j_istore16 (q := 381) dL_act_379 rfl rfl (by decide) ?_
  refine j_iload12 (q := 383) dL_act_381 rfl ?_
  refine j_iload15 (q := 385) dL_act_383 rfl ?_
  refine j_iload16 (q := 387) dL_act_385 rfl ?_
  refine j_aload4 (q := 389) dL_act_387 rfl ?_
  refine j_aload8 (q := 391) dL_act_389 rfl ?_
  refine j_aload11 (q := 393) dL_act_391 rfl ?_
  refine j_callS6 (Mc := iL_premium) (q := 396) (c' := 0) (s' := 0) dL_act_393 rfl kS_L_premium jw_688 ⟨by decide, by decide⟩ rfl (Nat.le_refl _) (Nat.le_refl _) (ct_pra E hs hk (by omega)) ?_
  refine j_istore17 (q := 398) dL_act_396 rfl rfl (by decide) ?_
  refine j_aload4 (q := 400) dL_act_398 rfl ?_
  refine j_iconst (q := 401) dL_act_400 rfl ?_
  refine j_iload12 (q := 403) dL_act_401 rfl ?_
  refine j_imul (q := 404) dL_act_403 rfl ?_
  refine j_iconst (q := 405) dL_act_404 rfl ?_
  refine j_iadd (q := 406) dL_act_405 rfl ?_
  refine j_l0_2 (q := 407) dL_act_406 rfl hs (by omega) ?_
  refine j_istore18 (q := 409) dL_act_407 rfl rfl (by decide) ?_
  refine j_iload18 (q := 411) dL_act_409 rfl ?_
  refine j_if_lt (tgt := 465) (q := 414) dL_act_411 (by decide) rfl (by first | exact wr_id' (by omega) (by omega) | with_reducible exact wr_bI _ | exact rfl) (fun h411 => ?_) (fun h411 => ?_)
  · refine j_iconst (q := 466) dL_act_465 rfl ?_
    refine j_fe (LJ_k h (by omega) (by omega) (by omega) (by omega) (by omega)) ?_
    exact j_zreturn dL_act_466 rfl (by decide) (by first | exact bI_t (by omega) | exact bI_f (by omega) | simp [bI, *]) (rfl)
  · refine j_aload5 (q := 416) dL_act_414 rfl ?_
    refine j_iconst (q := 417) dL_act_416 rfl ?_
    refine j_iload12 (q := 419) dL_act_417 rfl ?_
    refine j_imul (q := 420) dL_act_419 rfl ?_
    refine j_l1_0 (q := 421) dL_act_420 rfl hs (by omega) ?_
    refine j_if_ge (tgt := 465) (q := 424) dL_act_421 (by decide) rfl (by first | exact wr_id' (by omega) (by omega) | with_reducible exact wr_bI _ | exact rfl) (fun h421 => ?_) (fun h421 => ?_)
    · refine j_iconst (q := 466) dL_act_465 rfl ?_
      refine j_fe (LJ_k h (by omega) (by omega) (by omega) (by omega) (by omega)) ?_
      exact j_zreturn dL_act_466 rfl (by decide) (by first | exact bI_t (by omega) | exact bI_f (by omega) | simp [bI, *]) (rfl)
    · refine j_aload4 (q := 426) dL_act_424 rfl ?_
      refine j_iconst (q := 427) dL_act_426 rfl ?_
      refine j_iload12 (q := 429) dL_act_427 rfl ?_
      refine j_imul (q := 430) dL_act_429 rfl ?_
      refine j_iconst (q := 431) dL_act_430 rfl ?_
      refine j_iadd (q := 432) dL_act_431 rfl ?_
      refine j_l0_3 (q := 433) dL_act_432 rfl hs (by omega) ?_
      refine j_iload16 (q := 435) dL_act_433 rfl ?_
      refine j_icmp_lt (tgt := 465) (q := 438) dL_act_435 (by decide) rfl (by first | exact wr_id' (by omega) (by omega) | with_reducible exact wr_bI _ | exact rfl) (by first | exact wr_id' (by omega) (by omega) | with_reducible exact wr_bI _ | exact rfl) (fun h435 => ?_) (fun h435 => ?_)
      · refine j_iconst (q := 466) dL_act_465 rfl ?_
        refine j_fe (LJ_k h (by omega) (by omega) (by omega) (by omega) (by omega)) ?_
        exact j_zreturn dL_act_466 rfl (by decide) (by first | exact bI_t (by omega) | exact bI_f (by omega) | simp [bI, *]) (rfl)
      · refine j_aload7 (q := 440) dL_act_438 rfl ?_
        refine j_iconst (q := 441) dL_act_440 rfl ?_
        refine j_iload18 (q := 443) dL_act_441 rfl ?_
        refine j_imul (q := 444) dL_act_443 rfl ?_
        refine j_l3_0 (q := 445) dL_act_444 rfl hs (by omega) ?_
        refine j_iload17 (q := 447) dL_act_445 rfl ?_
        refine j_icmp_lt (tgt := 465) (q := 450) dL_act_447 (by decide) rfl (by first | exact wr_id' (by omega) (by omega) | with_reducible exact wr_bI _ | exact rfl) (by first | exact wr_id' (by omega) (by omega) | with_reducible exact wr_bI _ | exact rfl) (fun h447 => ?_) (fun h447 => ?_)
        · refine j_iconst (q := 466) dL_act_465 rfl ?_
          refine j_fe (LJ_k h (by omega) (by omega) (by omega) (by omega) (by omega)) ?_
          exact j_zreturn dL_act_466 rfl (by decide) (by first | exact bI_t (by omega) | exact bI_f (by omega) | simp [bI, *]) (rfl)
        · refine j_aload8 (q := 452) dL_act_450 rfl ?_
          refine j_bipush (q := 454) dL_act_452 rfl rfl ?_
          refine j_iload15 (q := 456) dL_act_454 rfl ?_
          refine j_imul (q := 457) dL_act_456 rfl ?_
          refine j_iconst (q := 458) dL_act_457 rfl ?_
          refine j_iadd (q := 459) dL_act_458 rfl ?_
          refine j_l4_5 (q := 460) dL_act_459 rfl hs (by omega) ?_
          refine j_bipush (q := 462) dL_act_460 rfl rfl ?_
          refine j_icmp_le (tgt := 467) (q := 465) dL_act_462 (by decide) rfl (by first | exact wr_id' (by omega) (by omega) | with_reducible exact wr_bI _ | exact rfl) (by first | exact wr_id' (by omega) (by omega) | with_reducible exact wr_bI _ | exact rfl) (fun h462 => ?_) (fun h462 => ?_)
          · refine j_aload7 (q := 469) dL_act_467 rfl ?_
            refine j_iconst (q := 470) dL_act_469 rfl ?_
            refine j_iload18 (q := 472) dL_act_470 rfl ?_
            refine j_imul (q := 473) dL_act_472 rfl ?_
            refine j_dup2 (q := 474) dL_act_473 rfl rfl rfl ?_
            refine j_l3_0 (q := 475) dL_act_474 rfl hs (by omega) ?_
            refine j_iload17 (q := 477) dL_act_475 rfl ?_
            refine j_isub (q := 478) dL_act_477 rfl ?_
            refine j_s3_0 (q := 479) dL_act_478 rfl hs (by omega) ?_
            refine j_aload8 (q := 481) dL_act_479 rfl ?_
            refine j_bipush (q := 483) dL_act_481 rfl rfl ?_
            refine j_iload15 (q := 485) dL_act_483 rfl ?_
            refine j_imul (q := 486) dL_act_485 rfl ?_
            refine j_dup2 (q := 487) dL_act_486 rfl rfl rfl ?_
            refine j_l4_0 (q := 488) dL_act_487 rfl hs (by omega) ?_
            refine j_iload17 (q := 490) dL_act_488 rfl ?_
            refine j_iadd (q := 491) dL_act_490 rfl ?_
            refine j_s4_0 (q := 492) dL_act_491 rfl hs (by omega) ?_
            refine j_aload8 (q := 494) dL_act_492 rfl ?_
            refine j_bipush (q := 496) dL_act_494 rfl rfl ?_
            refine j_iload15 (q := 498) dL_act_496 rfl ?_
            refine j_imul (q := 499) dL_act_498 rfl ?_
            refine j_iconst (q := 500) dL_act_499 rfl ?_
            refine j_iadd (q := 501) dL_act_500 rfl ?_
            refine j_dup2 (q := 502) dL_act_501 rfl rfl rfl ?_
            refine j_l4_4 (q := 503) dL_act_502 rfl hs (by omega) ?_
            refine j_iload17 (q := 505) dL_act_503 rfl ?_
            refine j_iadd (q := 506) dL_act_505 rfl ?_
            refine j_s4_4 (q := 507) dL_act_506 rfl hs (by omega) ?_
            refine j_aload5 (q := 509) dL_act_507 rfl ?_
            refine j_iconst (q := 510) dL_act_509 rfl ?_
            refine j_iload12 (q := 512) dL_act_510 rfl ?_
            refine j_imul (q := 513) dL_act_512 rfl ?_
            refine j_iload15 (q := 515) dL_act_513 rfl ?_
            refine j_s1_0 (q := 516) dL_act_515 rfl hs (by omega) rfl ?_
            refine j_aload5 (q := 518) dL_act_516 rfl ?_
            refine j_iconst (q := 519) dL_act_518 rfl ?_
            refine j_iload12 (q := 521) dL_act_519 rfl ?_
            refine j_imul (q := 522) dL_act_521 rfl ?_
            refine j_iconst (q := 523) dL_act_522 rfl ?_
            refine j_iadd (q := 524) dL_act_523 rfl ?_
            refine j_iload16 (q := 526) dL_act_524 rfl ?_
            refine j_s1_1 (q := 527) dL_act_526 rfl hs (by omega) ?_
            refine j_mem (m' := lz X false (zIn0 z (cr k) (aT (iS y 3) (z 3)) (1 + aT (iS y 5) 40))) rfl ?_
            have X0 := LX_in (k := (1 + aT (iS y 5) 40)) (i := (aT (iS y 3) (z 3))) hc (cr_pl hk) (by omega) (by omega) (by omega) (by omega) hX
            have wt := LX_wt X0 (i := (aT (iS y 3) (z 3))) (by omega)
            refine j_iload15 (q := 529) dL_act_527 rfl ?_
            refine j_aload7 (q := 531) dL_act_529 rfl ?_
            refine j_aload8 (q := 533) dL_act_531 rfl ?_
            refine j_aload9 (q := 535) dL_act_533 rfl ?_
            refine j_callS4v (Mc := iL_pay) (q := 538) (c' := 0) (s' := 0) dL_act_535 rfl kS_L_pay jw_609 ⟨by decide, by decide⟩ rfl (Nat.le_refl _) (Nat.le_refl _) (ct_L_pay E hs (by omega) wt X0.1) ?_
            refine j_mem (m' := lz X false (zIn z (cr k) (aT (iS y 3) (z 3)) (1 + aT (iS y 5) 40))) rfl ?_
            refine j_aload0 (q := 539) dL_act_538 rfl ?_
            refine j_iload13 (q := 541) dL_act_539 rfl ?_
            refine j_iload15 (q := 543) dL_act_541 rfl ?_
            refine j_iload16 (q := 545) dL_act_543 rfl ?_
            obtain ⟨W, P1, hcall, hJ⟩ := us_in V h hK hc (cr_pl hk) (i := (aT (iS y 3) (z 3))) (k := (1 + aT (iS y 5) 40)) (by omega) (by omega) (by omega) (by omega) (by omega) (by omega) (by omega)
            refine j_callV3 (Mc := iX7_insure) (q := 548) (c' := 0) (s' := 0) dL_act_545 rfl kV_X7_insure jw_759 ⟨by decide, by decide⟩ (V.2.2 _ _ sh_0) rfl rfl rfl (Nat.le_refl _) (Nat.le_refl _) hcall ?_
            refine j_iload17 (q := 550) dL_act_548 rfl ?_
            refine j_icmp_ne (tgt := 557) (q := 553) dL_act_550 (by decide) rfl (by first | exact wr_id' (by omega) (by omega) | with_reducible exact wr_bI _ | exact rfl) (by first | exact wr_id' (by omega) (by omega) | with_reducible exact wr_bI _ | exact rfl) (fun h550 => ?_) (fun h550 => ?_)
            · omega
            · refine j_iconst (q := 554) dL_act_553 rfl ?_
              refine j_goto (tgt := 558) dL_act_554 (by decide) ?_
              refine j_fe (LJ_k hJ (by omega) (by omega) (by omega) (by omega) (by omega)) ?_
              exact j_zreturn dL_act_558 rfl (by decide) (by first | exact bI_t (by omega) | exact bI_f (by omega) | simp [bI, *]) (rfl)
          · refine j_iconst (q := 466) dL_act_465 rfl ?_
            refine j_fe (LJ_k h (by omega) (by omega) (by omega) (by omega) (by omega)) ?_
            exact j_zreturn dL_act_466 rfl (by decide) (by first | exact bI_t (by omega) | exact bI_f (by omega) | simp [bI, *]) (rfl)
theorem act_R {G : GX} {sh : List SH} (V : EV G sh) (E : EW G sh) (hs : LA sh false) {X P : Mem} {z : Z} {a x y k B K H : Int} (h : LJ X P z B K H) (hk : 0 ≤ k ∧ k < 16) (hB : B + 32 ≤ 1000000) (hK : K + 1 ≤ 512) (hH : H ≤ 9000) {t : Int} (ht : 0 ≤ t ∧ t < z 2) (h3 : 1 ≤ z 3) : J G sh iL_act 0 0 (FE G sh 0 0 (some (.inl (bI true))) (LΦ (B + 32) (K + 1) (H + 14))) 565 [some (.inr (.ref 0)), some (.inl a), some (.inl x), some (.inl y), some (.inr (.ref (ix false 0))), some (.inr (.ref (ix false 1))), some (.inr (.ref (ix false 2))), some (.inr (.ref (ix false 3))), some (.inr (.ref (ix false 4))), some (.inr (.ref (ix false 5))), some (.inr (.ref (ix false 7))), some (.inr (.ref (ix false 6))), some (.inl k), some (.inl (cr k)), some (.inl t), none, none, none, none] [] (lz X false z) 0 0 := by
  have hc := cr_b hk
  have hX := h.1.2.2.2.1
  have hI := h.1.2.1.2.2.2.2.2
  have hN := h.2.1
  unfold NI at hN
  have xk := hX.2.2 _ hc.1 hc.2
  have sgk := hI.sg _ hc.1 hc.2
  have lek := hI.le _ hc.1 hc.2
  have duk := hI.du _ hc.1 hc.2
  have hht := hI.ht
  have st1 := hI.st 1 (by decide) (by decide)
  have st2 := hI.st 2 (by decide) (by decide)
  have hTT := hI.tT
  refine j_aload4 (q := 567) dL_act_565 rfl ?_
  refine j_iconst (q := 568) dL_act_567 rfl ?_
  refine j_iload12 (q := 570) dL_act_568 rfl ?_
  refine j_imul (q := 571) dL_act_570 rfl ?_
  refine j_iconst (q := 572) dL_act_571 rfl ?_
  refine j_iadd (q := 573) dL_act_572 rfl ?_
  refine j_l0_2 (q := 574) dL_act_573 rfl hs (by omega) ?_
  refine j_if_ge (tgt := 590) (q := 577) dL_act_574 (by decide) rfl (by first | exact wr_id' (by omega) (by omega) | with_reducible exact wr_bI _ | exact rfl) (fun h574 => ?_) (fun h574 => ?_)
  · refine j_iconst (q := 591) dL_act_590 rfl ?_
    refine j_fe (LJ_k h (by omega) (by omega) (by omega) (by omega) (by omega)) ?_
    exact j_zreturn dL_act_591 rfl (by decide) (by first | exact bI_t (by omega) | exact bI_f (by omega) | simp [bI, *]) (rfl)
  · refine j_aload11 (q := 579) dL_act_577 rfl ?_
    refine j_bipush (q := 581) dL_act_579 rfl rfl ?_
    refine j_l6_0 (q := 582) dL_act_581 rfl hs (by omega) ?_
    refine j_aload10 (q := 584) dL_act_582 rfl ?_
    refine j_bipush (q := 586) dL_act_584 rfl rfl ?_
    refine j_l7_0 (q := 587) dL_act_586 rfl hs (by omega) ?_
    refine j_icmp_ge (tgt := 592) (q := 590) dL_act_587 (by decide) rfl (by first | exact wr_id' (by omega) (by omega) | with_reducible exact wr_bI _ | exact rfl) (by first | exact wr_id' (by omega) (by omega) | with_reducible exact wr_bI _ | exact rfl) (fun h587 => ?_) (fun h587 => ?_)
    · refine j_aload4 (q := 594) dL_act_592 rfl ?_
      refine j_iconst (q := 595) dL_act_594 rfl ?_
      refine j_iload12 (q := 597) dL_act_595 rfl ?_
      refine j_imul (q := 598) dL_act_597 rfl ?_
      refine j_iconst (q := 599) dL_act_598 rfl ?_
      refine j_iadd (q := 600) dL_act_599 rfl ?_
      refine j_l0_1 (q := 601) dL_act_600 rfl hs (by omega) ?_
      refine j_istore15 (q := 603) dL_act_601 rfl rfl (by decide) ?_
      refine j_aload4 (q := 605) dL_act_603 rfl ?_
      refine j_iconst (q := 606) dL_act_605 rfl ?_
      refine j_iload12 (q := 608) dL_act_606 rfl ?_
      refine j_imul (q := 609) dL_act_608 rfl ?_
      refine j_iconst (q := 610) dL_act_609 rfl ?_
      refine j_iadd (q := 611) dL_act_610 rfl ?_
      refine j_bipush (q := 613) dL_act_611 rfl rfl ?_
      refine j_s0_1 (q := 614) dL_act_613 rfl hs (by omega) ?_
      refine j_aload4 (q := 616) dL_act_614 rfl ?_
      refine j_iconst (q := 617) dL_act_616 rfl ?_
      refine j_iload12 (q := 619) dL_act_617 rfl ?_
      refine j_imul (q := 620) dL_act_619 rfl ?_
      refine j_iconst (q := 621) dL_act_620 rfl ?_
      refine j_s0_0 (q := 622) dL_act_621 rfl hs (by omega) ?_
      refine j_aload11 (q := 624) dL_act_622 rfl ?_
      refine j_bipush (q := 626) dL_act_624 rfl rfl ?_
      refine j_dup2 (q := 627) dL_act_626 rfl rfl rfl ?_
      refine j_l6_0 (q := 628) dL_act_627 rfl hs (by omega) ?_
      refine j_aload10 (q := 630) dL_act_628 rfl ?_
      refine j_bipush (q := 632) dL_act_630 rfl rfl ?_
      refine j_l7_0 (q := 633) dL_act_632 rfl hs (by omega) ?_
      refine j_isub (q := 634) dL_act_633 rfl ?_
      refine j_s6_0 (q := 635) dL_act_634 rfl hs (by omega) ?_
      refine j_aload11 (q := 637) dL_act_635 rfl ?_
      refine j_bipush (q := 639) dL_act_637 rfl rfl ?_
      refine j_dup2 (q := 640) dL_act_639 rfl rfl rfl ?_
      refine j_l6_0 (q := 641) dL_act_640 rfl hs (by omega) ?_
      refine j_aload10 (q := 643) dL_act_641 rfl ?_
      refine j_bipush (q := 645) dL_act_643 rfl rfl ?_
      refine j_l7_0 (q := 646) dL_act_645 rfl hs (by omega) ?_
      refine j_iadd (q := 647) dL_act_646 rfl ?_
      refine j_s6_0 (q := 648) dL_act_647 rfl hs (by omega) ?_
      refine j_mem (m' := lz X false (zRen z (cr k))) rfl ?_
      refine j_aload0 (q := 649) dL_act_648 rfl ?_
      refine j_iload13 (q := 651) dL_act_649 rfl ?_
      obtain ⟨W, P1, hcall, hJ⟩ := us_ren V h hc (by omega) (by omega)
      refine j_callV1 (Mc := iX7_renew) (q := 654) (c' := 0) (s' := 0) dL_act_651 rfl kV_X7_renew jw_768 ⟨by decide, by decide⟩ (V.2.2 _ _ sh_0) rfl rfl rfl (Nat.le_refl _) (Nat.le_refl _) hcall ?_
      refine j_iload15 (q := 656) dL_act_654 rfl ?_
      refine j_icmp_ne (tgt := 663) (q := 659) dL_act_656 (by decide) rfl (by first | exact wr_id' (by omega) (by omega) | with_reducible exact wr_bI _ | exact rfl) (by first | exact wr_id' (by omega) (by omega) | with_reducible exact wr_bI _ | exact rfl) (fun h656 => ?_) (fun h656 => ?_)
      · omega
      · refine j_iconst (q := 660) dL_act_659 rfl ?_
        refine j_goto (tgt := 664) dL_act_660 (by decide) ?_
        refine j_fe (LJ_k hJ (by omega) (by omega) (by omega) (by omega) (by omega)) ?_
        exact j_zreturn dL_act_664 rfl (by decide) (by first | exact bI_t (by omega) | exact bI_f (by omega) | simp [bI, *]) (rfl)
    · refine j_iconst (q := 591) dL_act_590 rfl ?_
      refine j_fe (LJ_k h (by omega) (by omega) (by omega) (by omega) (by omega)) ?_
      exact j_zreturn dL_act_591 rfl (by decide) (by first | exact bI_t (by omega) | exact bI_f (by omega) | simp [bI, *]) (rfl)
theorem act_W {G : GX} {sh : List SH} (V : EV G sh) (E : EW G sh) (hs : LA sh false) {X P : Mem} {z : Z} {a x y k B K H : Int} (h : LJ X P z B K H) (hk : 0 ≤ k ∧ k < 16) (hB : B + 32 ≤ 1000000) (hK : K + 1 ≤ 512) (hH : H ≤ 9000) {t : Int} (ht : 0 ≤ t ∧ t < z 2) (h3 : 1 ≤ z 3) : J G sh iL_act 0 0 (FE G sh 0 0 (some (.inl (bI true))) (LΦ (B + 32) (K + 1) (H + 14))) 671 [some (.inr (.ref 0)), some (.inl a), some (.inl x), some (.inl y), some (.inr (.ref (ix false 0))), some (.inr (.ref (ix false 1))), some (.inr (.ref (ix false 2))), some (.inr (.ref (ix false 3))), some (.inr (.ref (ix false 4))), some (.inr (.ref (ix false 5))), some (.inr (.ref (ix false 7))), some (.inr (.ref (ix false 6))), some (.inl k), some (.inl (cr k)), some (.inl t), none, none, none, none] [] (lz X false z) 0 0 := by
  have hc := cr_b hk
  have hX := h.1.2.2.2.1
  have hI := h.1.2.1.2.2.2.2.2
  have hN := h.2.1
  unfold NI at hN
  have xk := hX.2.2 _ hc.1 hc.2
  have sgk := hI.sg _ hc.1 hc.2
  have lek := hI.le _ hc.1 hc.2
  have duk := hI.du _ hc.1 hc.2
  have hht := hI.ht
  have st1 := hI.st 1 (by decide) (by decide)
  have st2 := hI.st 2 (by decide) (by decide)
  have hTT := hI.tT
  have b3 := aT_b y (n := 3) (by decide)
  refine j_aload4 (q := 673) dL_act_671 rfl ?_
  refine j_iconst (q := 674) dL_act_673 rfl ?_
  refine j_iload12 (q := 676) dL_act_674 rfl ?_
  refine j_imul (q := 677) dL_act_676 rfl ?_
  refine j_iconst (q := 678) dL_act_677 rfl ?_
  refine j_iadd (q := 679) dL_act_678 rfl ?_
  refine j_l0_2 (q := 680) dL_act_679 rfl hs (by omega) ?_
  refine j_if_lt (tgt := 739) (q := 683) dL_act_680 (by decide) rfl (by first | exact wr_id' (by omega) (by omega) | with_reducible exact wr_bI _ | exact rfl) (fun h680 => ?_) (fun h680 => ?_)
  · refine j_iconst (q := 740) dL_act_739 rfl ?_
    refine j_goto (tgt := 744) dL_act_740 (by decide) ?_
    first | refine j_fe (LJ_k hJ (by omega) (by omega) (by omega) (by omega) (by omega)) ?_ | refine j_fe (LJ_k h (by omega) (by omega) (by omega) (by omega) (by omega)) ?_
    exact j_zreturn dL_act_744 rfl (by decide) (by first | exact bI_t (by omega) | exact bI_f (by omega) | simp [bI, *]) (by first | rfl | (exfalso; omega))
  · refine j_aload0 (q := 684) dL_act_683 rfl ?_
    refine j_iload13 (q := 686) dL_act_684 rfl ?_
    refine j_iload3 (q := 687) dL_act_686 rfl ?_
    refine j_iconst (q := 688) dL_act_687 rfl ?_
    refine j_callS2 (Mc := iL_at) (q := 691) (c' := 0) (s' := 0) dL_act_688 rfl kS_L_at jw_429 ⟨by decide, by decide⟩ rfl (Nat.le_refl _) (Nat.le_refl _) (ct_L_at E hs (by omega)) ?_
    refine j_if_le (tgt := 698) (q := 694) dL_act_691 (by decide) rfl (by first | exact wr_id' (by omega) (by omega) | with_reducible exact wr_bI _ | exact rfl) (fun h691 => ?_) (fun h691 => ?_)
    · refine j_iconst (q := 699) dL_act_698 rfl ?_
      obtain ⟨W, P1, hcall, hJ⟩ := us_wr V h (b := decide (0 < aT y 3)) hk (by omega)
      first | rw [show bI (decide (0 < aT y 3)) = 1 from (bI_t (by omega)).symm] at hcall hJ | rw [show bI (decide (0 < aT y 3)) = 0 from (bI_f (by omega)).symm] at hcall hJ
      refine j_callV2 (Mc := iX7_write) (q := 702) (c' := 0) (s' := 0) dL_act_699 rfl kV_X7_write jw_776 ⟨by decide, by decide⟩ (V.2.2 _ _ sh_0) rfl rfl rfl (Nat.le_refl _) (Nat.le_refl _) hcall ?_
      refine j_iload12 (q := 704) dL_act_702 rfl ?_
      refine j_iload3 (q := 705) dL_act_704 rfl ?_
      refine j_iconst (q := 706) dL_act_705 rfl ?_
      refine j_callS2 (Mc := iL_at) (q := 709) (c' := 0) (s' := 0) dL_act_706 rfl kS_L_at jw_429 ⟨by decide, by decide⟩ rfl (Nat.le_refl _) (Nat.le_refl _) (ct_L_at E hs (by omega)) ?_
      refine j_if_le (tgt := 716) (q := 712) dL_act_709 (by decide) rfl (by first | exact wr_id' (by omega) (by omega) | with_reducible exact wr_bI _ | exact rfl) (fun h709 => ?_) (fun h709 => ?_)
      · refine j_iconst (q := 717) dL_act_716 rfl ?_
        refine j_aload4 (q := 719) dL_act_717 rfl ?_
        refine j_aload5 (q := 721) dL_act_719 rfl ?_
        refine j_aload6 (q := 723) dL_act_721 rfl ?_
        refine j_aload7 (q := 725) dL_act_723 rfl ?_
        refine j_aload8 (q := 727) dL_act_725 rfl ?_
        refine j_aload9 (q := 729) dL_act_727 rfl ?_
        refine j_aload10 (q := 731) dL_act_729 rfl ?_
        refine j_aload11 (q := 733) dL_act_731 rfl ?_
        refine j_callS10 (Mc := iL_write) (q := 736) (c' := 0) (s' := 0) dL_act_733 rfl kS_L_write jw_784 ⟨by decide, by decide⟩ rfl (Nat.le_refl _) (Nat.le_refl _) (ct_L_write E hs hk hX (by omega) (by omega) (by omega) (by omega) (by omega)) ?_
        refine j_icmp_ne (tgt := 743) (q := 739) dL_act_736 (by decide) rfl (by first | exact wr_id' (by omega) (by omega) | with_reducible exact wr_bI _ | exact rfl) (by first | exact wr_id' (by omega) (by omega) | with_reducible exact wr_bI _ | exact rfl) (fun h736 => ?_) (fun h736 => ?_)
        · exfalso; omega
        · refine j_iconst (q := 740) dL_act_739 rfl ?_
          refine j_goto (tgt := 744) dL_act_740 (by decide) ?_
          first | refine j_fe (LJ_k hJ (by omega) (by omega) (by omega) (by omega) (by omega)) ?_ | refine j_fe (LJ_k h (by omega) (by omega) (by omega) (by omega) (by omega)) ?_
          exact j_zreturn dL_act_744 rfl (by decide) (by first | exact bI_t (by omega) | exact bI_f (by omega) | simp [bI, *]) (by first | rfl | (exfalso; omega))
      · refine j_iconst (q := 713) dL_act_712 rfl ?_
        refine j_goto (tgt := 717) dL_act_713 (by decide) ?_
        refine j_aload4 (q := 719) dL_act_717 rfl ?_
        refine j_aload5 (q := 721) dL_act_719 rfl ?_
        refine j_aload6 (q := 723) dL_act_721 rfl ?_
        refine j_aload7 (q := 725) dL_act_723 rfl ?_
        refine j_aload8 (q := 727) dL_act_725 rfl ?_
        refine j_aload9 (q := 729) dL_act_727 rfl ?_
        refine j_aload10 (q := 731) dL_act_729 rfl ?_
        refine j_aload11 (q := 733) dL_act_731 rfl ?_
        refine j_callS10 (Mc := iL_write) (q := 736) (c' := 0) (s' := 0) dL_act_733 rfl kS_L_write jw_784 ⟨by decide, by decide⟩ rfl (Nat.le_refl _) (Nat.le_refl _) (ct_L_write E hs hk hX (by omega) (by omega) (by omega) (by omega) (by omega)) ?_
        refine j_icmp_ne (tgt := 743) (q := 739) dL_act_736 (by decide) rfl (by first | exact wr_id' (by omega) (by omega) | with_reducible exact wr_bI _ | exact rfl) (by first | exact wr_id' (by omega) (by omega) | with_reducible exact wr_bI _ | exact rfl) (fun h736 => ?_) (fun h736 => ?_)
        · exfalso; omega
        · refine j_iconst (q := 740) dL_act_739 rfl ?_
          refine j_goto (tgt := 744) dL_act_740 (by decide) ?_
          first | refine j_fe (LJ_k hJ (by omega) (by omega) (by omega) (by omega) (by omega)) ?_ | refine j_fe (LJ_k h (by omega) (by omega) (by omega) (by omega) (by omega)) ?_
          exact j_zreturn dL_act_744 rfl (by decide) (by first | exact bI_t (by omega) | exact bI_f (by omega) | simp [bI, *]) (by first | rfl | (exfalso; omega))
    · refine j_iconst (q := 695) dL_act_694 rfl ?_
      refine j_goto (tgt := 699) dL_act_695 (by decide) ?_
      obtain ⟨W, P1, hcall, hJ⟩ := us_wr V h (b := decide (0 < aT y 3)) hk (by omega)
      first | rw [show bI (decide (0 < aT y 3)) = 1 from (bI_t (by omega)).symm] at hcall hJ | rw [show bI (decide (0 < aT y 3)) = 0 from (bI_f (by omega)).symm] at hcall hJ
      refine j_callV2 (Mc := iX7_write) (q := 702) (c' := 0) (s' := 0) dL_act_699 rfl kV_X7_write jw_776 ⟨by decide, by decide⟩ (V.2.2 _ _ sh_0) rfl rfl rfl (Nat.le_refl _) (Nat.le_refl _) hcall ?_
      refine j_iload12 (q := 704) dL_act_702 rfl ?_
      refine j_iload3 (q := 705) dL_act_704 rfl ?_
      refine j_iconst (q := 706) dL_act_705 rfl ?_
      refine j_callS2 (Mc := iL_at) (q := 709) (c' := 0) (s' := 0) dL_act_706 rfl kS_L_at jw_429 ⟨by decide, by decide⟩ rfl (Nat.le_refl _) (Nat.le_refl _) (ct_L_at E hs (by omega)) ?_
      refine j_if_le (tgt := 716) (q := 712) dL_act_709 (by decide) rfl (by first | exact wr_id' (by omega) (by omega) | with_reducible exact wr_bI _ | exact rfl) (fun h709 => ?_) (fun h709 => ?_)
      · refine j_iconst (q := 717) dL_act_716 rfl ?_
        refine j_aload4 (q := 719) dL_act_717 rfl ?_
        refine j_aload5 (q := 721) dL_act_719 rfl ?_
        refine j_aload6 (q := 723) dL_act_721 rfl ?_
        refine j_aload7 (q := 725) dL_act_723 rfl ?_
        refine j_aload8 (q := 727) dL_act_725 rfl ?_
        refine j_aload9 (q := 729) dL_act_727 rfl ?_
        refine j_aload10 (q := 731) dL_act_729 rfl ?_
        refine j_aload11 (q := 733) dL_act_731 rfl ?_
        refine j_callS10 (Mc := iL_write) (q := 736) (c' := 0) (s' := 0) dL_act_733 rfl kS_L_write jw_784 ⟨by decide, by decide⟩ rfl (Nat.le_refl _) (Nat.le_refl _) (ct_L_write E hs hk hX (by omega) (by omega) (by omega) (by omega) (by omega)) ?_
        refine j_icmp_ne (tgt := 743) (q := 739) dL_act_736 (by decide) rfl (by first | exact wr_id' (by omega) (by omega) | with_reducible exact wr_bI _ | exact rfl) (by first | exact wr_id' (by omega) (by omega) | with_reducible exact wr_bI _ | exact rfl) (fun h736 => ?_) (fun h736 => ?_)
        · exfalso; omega
        · refine j_iconst (q := 740) dL_act_739 rfl ?_
          refine j_goto (tgt := 744) dL_act_740 (by decide) ?_
          first | refine j_fe (LJ_k hJ (by omega) (by omega) (by omega) (by omega) (by omega)) ?_ | refine j_fe (LJ_k h (by omega) (by omega) (by omega) (by omega) (by omega)) ?_
          exact j_zreturn dL_act_744 rfl (by decide) (by first | exact bI_t (by omega) | exact bI_f (by omega) | simp [bI, *]) (by first | rfl | (exfalso; omega))
      · refine j_iconst (q := 713) dL_act_712 rfl ?_
        refine j_goto (tgt := 717) dL_act_713 (by decide) ?_
        refine j_aload4 (q := 719) dL_act_717 rfl ?_
        refine j_aload5 (q := 721) dL_act_719 rfl ?_
        refine j_aload6 (q := 723) dL_act_721 rfl ?_
        refine j_aload7 (q := 725) dL_act_723 rfl ?_
        refine j_aload8 (q := 727) dL_act_725 rfl ?_
        refine j_aload9 (q := 729) dL_act_727 rfl ?_
        refine j_aload10 (q := 731) dL_act_729 rfl ?_
        refine j_aload11 (q := 733) dL_act_731 rfl ?_
        refine j_callS10 (Mc := iL_write) (q := 736) (c' := 0) (s' := 0) dL_act_733 rfl kS_L_write jw_784 ⟨by decide, by decide⟩ rfl (Nat.le_refl _) (Nat.le_refl _) (ct_L_write E hs hk hX (by omega) (by omega) (by omega) (by omega) (by omega)) ?_
        refine j_icmp_ne (tgt := 743) (q := 739) dL_act_736 (by decide) rfl (by first | exact wr_id' (by omega) (by omega) | with_reducible exact wr_bI _ | exact rfl) (by first | exact wr_id' (by omega) (by omega) | with_reducible exact wr_bI _ | exact rfl) (fun h736 => ?_) (fun h736 => ?_)
        · exfalso; omega
        · refine j_iconst (q := 740) dL_act_739 rfl ?_
          refine j_goto (tgt := 744) dL_act_740 (by decide) ?_
          first | refine j_fe (LJ_k hJ (by omega) (by omega) (by omega) (by omega) (by omega)) ?_ | refine j_fe (LJ_k h (by omega) (by omega) (by omega) (by omega) (by omega)) ?_
          exact j_zreturn dL_act_744 rfl (by decide) (by first | exact bI_t (by omega) | exact bI_f (by omega) | simp [bI, *]) (by first | rfl | (exfalso; omega))
theorem act_D {G : GX} {sh : List SH} (V : EV G sh) (E : EW G sh) (hs : LA sh false) {X P : Mem} {z : Z} {a x y k B K H : Int} (h : LJ X P z B K H) (hk : 0 ≤ k ∧ k < 16) (hB : B + 32 ≤ 1000000) (hK : K + 1 ≤ 512) (hH : H ≤ 9000) {t : Int} (ht : 0 ≤ t ∧ t < z 2) (h3 : 1 ≤ z 3) : J G sh iL_act 0 0 (FE G sh 0 0 (some (.inl (bI true))) (LΦ (B + 32) (K + 1) (H + 14))) 751 [some (.inr (.ref 0)), some (.inl a), some (.inl x), some (.inl y), some (.inr (.ref (ix false 0))), some (.inr (.ref (ix false 1))), some (.inr (.ref (ix false 2))), some (.inr (.ref (ix false 3))), some (.inr (.ref (ix false 4))), some (.inr (.ref (ix false 5))), some (.inr (.ref (ix false 7))), some (.inr (.ref (ix false 6))), some (.inl k), some (.inl (cr k)), some (.inl t), none, none, none, none] [] (lz X false z) 0 0 := by
  have hc := cr_b hk
  have hX := h.1.2.2.2.1
  have hI := h.1.2.1.2.2.2.2.2
  have hN := h.2.1
  unfold NI at hN
  have xk := hX.2.2 _ hc.1 hc.2
  have sgk := hI.sg _ hc.1 hc.2
  have lek := hI.le _ hc.1 hc.2
  have duk := hI.du _ hc.1 hc.2
  have hht := hI.ht
  have st1 := hI.st 1 (by decide) (by decide)
  have st2 := hI.st 2 (by decide) (by decide)
  have hTT := hI.tT
  refine j_aload4 (q := 753) dL_act_751 rfl ?_
  refine j_iconst (q := 754) dL_act_753 rfl ?_
  refine j_iload12 (q := 756) dL_act_754 rfl ?_
  refine j_imul (q := 757) dL_act_756 rfl ?_
  refine j_iconst (q := 758) dL_act_757 rfl ?_
  refine j_iadd (q := 759) dL_act_758 rfl ?_
  refine j_l0_2 (q := 760) dL_act_759 rfl hs (by omega) ?_
  refine j_if_lt (tgt := 805) (q := 763) dL_act_760 (by decide) rfl (by first | exact wr_id' (by omega) (by omega) | with_reducible exact wr_bI _ | exact rfl) (fun h760 => ?_) (fun h760 => ?_)
  · refine j_iconst (q := 806) dL_act_805 rfl ?_
    refine j_goto (tgt := 810) dL_act_806 (by decide) ?_
    first | refine j_fe (LJ_k hJ (by omega) (by omega) (by omega) (by omega) (by omega)) ?_ | refine j_fe (LJ_k h (by omega) (by omega) (by omega) (by omega) (by omega)) ?_
    exact j_zreturn dL_act_810 rfl (by decide) (by first | exact bI_t (by omega) | exact bI_f (by omega) | simp [bI, *]) (rfl)
  · refine j_aload5 (q := 765) dL_act_763 rfl ?_
    refine j_iconst (q := 766) dL_act_765 rfl ?_
    refine j_iload12 (q := 768) dL_act_766 rfl ?_
    refine j_imul (q := 769) dL_act_768 rfl ?_
    refine j_iconst (q := 770) dL_act_769 rfl ?_
    refine j_iadd (q := 771) dL_act_770 rfl ?_
    refine j_l1_2 (q := 772) dL_act_771 rfl hs (by omega) ?_
    refine j_if_ge (tgt := 805) (q := 775) dL_act_772 (by decide) rfl (by first | exact wr_id' (by omega) (by omega) | with_reducible exact wr_bI _ | exact rfl) (fun h772 => ?_) (fun h772 => ?_)
    · refine j_iconst (q := 806) dL_act_805 rfl ?_
      refine j_goto (tgt := 810) dL_act_806 (by decide) ?_
      first | refine j_fe (LJ_k hJ (by omega) (by omega) (by omega) (by omega) (by omega)) ?_ | refine j_fe (LJ_k h (by omega) (by omega) (by omega) (by omega) (by omega)) ?_
      exact j_zreturn dL_act_810 rfl (by decide) (by first | exact bI_t (by omega) | exact bI_f (by omega) | simp [bI, *]) (rfl)
    · refine j_aload0 (q := 776) dL_act_775 rfl ?_
      refine j_iload13 (q := 778) dL_act_776 rfl ?_
      obtain ⟨W, P1, hcall, hJ⟩ := us_rd V h hk (by omega) (by omega) (by omega)
      refine j_callV1 (Mc := iX7_read) (q := 781) (c' := 0) (s' := 0) dL_act_778 rfl kV_X7_read jw_787 ⟨by decide, by decide⟩ (V.2.2 _ _ sh_0) rfl rfl rfl (Nat.le_refl _) (Nat.le_refl _) hcall ?_
      refine j_iload12 (q := 783) dL_act_781 rfl ?_
      refine j_aload4 (q := 785) dL_act_783 rfl ?_
      refine j_aload5 (q := 787) dL_act_785 rfl ?_
      refine j_aload6 (q := 789) dL_act_787 rfl ?_
      refine j_aload7 (q := 791) dL_act_789 rfl ?_
      refine j_aload8 (q := 793) dL_act_791 rfl ?_
      refine j_aload9 (q := 795) dL_act_793 rfl ?_
      refine j_aload10 (q := 797) dL_act_795 rfl ?_
      refine j_aload11 (q := 799) dL_act_797 rfl ?_
      refine j_callS9 (Mc := iL_read) (q := 802) (c' := 0) (s' := 0) dL_act_799 rfl kS_L_read jw_801 ⟨by decide, by decide⟩ rfl (Nat.le_refl _) (Nat.le_refl _) (ct_L_read E hs hk hX (by omega) (by omega) (by omega)) ?_
      refine j_icmp_ne (tgt := 809) (q := 805) dL_act_802 (by decide) rfl (by first | exact wr_id' (by omega) (by omega) | with_reducible exact wr_bI _ | exact rfl) (by first | exact wr_id' (by omega) (by omega) | with_reducible exact wr_bI _ | exact rfl) (fun h802 => ?_) (fun h802 => ?_)
      · omega
      · refine j_iconst (q := 806) dL_act_805 rfl ?_
        refine j_goto (tgt := 810) dL_act_806 (by decide) ?_
        first | refine j_fe (LJ_k hJ (by omega) (by omega) (by omega) (by omega) (by omega)) ?_ | refine j_fe (LJ_k h (by omega) (by omega) (by omega) (by omega) (by omega)) ?_
        exact j_zreturn dL_act_810 rfl (by decide) (by first | exact bI_t (by omega) | exact bI_f (by omega) | simp [bI, *]) (rfl)
theorem act_B {G : GX} {sh : List SH} (V : EV G sh) (E : EW G sh) (hs : LA sh false) {X P : Mem} {z : Z} {a x y k B K H : Int} (h : LJ X P z B K H) (hk : 0 ≤ k ∧ k < 16) (hB : B + 32 ≤ 1000000) (hK : K + 1 ≤ 512) (hH : H ≤ 9000) {t : Int} (ht : 0 ≤ t ∧ t < z 2) (h3 : 1 ≤ z 3) : J G sh iL_act 0 0 (FE G sh 0 0 (some (.inl (bI true))) (LΦ (B + 32) (K + 1) (H + 14))) 817 [some (.inr (.ref 0)), some (.inl a), some (.inl x), some (.inl y), some (.inr (.ref (ix false 0))), some (.inr (.ref (ix false 1))), some (.inr (.ref (ix false 2))), some (.inr (.ref (ix false 3))), some (.inr (.ref (ix false 4))), some (.inr (.ref (ix false 5))), some (.inr (.ref (ix false 7))), some (.inr (.ref (ix false 6))), some (.inl k), some (.inl (cr k)), some (.inl t), none, none, none, none] [] (lz X false z) 0 0 := by
  have hc := cr_b hk
  have hX := h.1.2.2.2.1
  have hI := h.1.2.1.2.2.2.2.2
  have hN := h.2.1
  unfold NI at hN
  have xk := hX.2.2 _ hc.1 hc.2
  have sgk := hI.sg _ hc.1 hc.2
  have lek := hI.le _ hc.1 hc.2
  have duk := hI.du _ hc.1 hc.2
  have hht := hI.ht
  have st1 := hI.st 1 (by decide) (by decide)
  have st2 := hI.st 2 (by decide) (by decide)
  have hTT := hI.tT
  have hD := IZ_DB hI
  have hg := lOw_g hX hI (q := 0) (by decide)
  have hgl := lOw_b z 0
  refine j_iconst (q := 818) dL_act_817 rfl ?_
  refine j_aload5 (q := 820) dL_act_818 rfl ?_
  refine j_callS2 (Mc := iL_owed) (q := 823) (c' := 0) (s' := 0) dL_act_820 rfl kS_L_owed jw_587 ⟨by decide, by decide⟩ rfl (Nat.le_refl _) (Nat.le_refl _) (ct_L_owed E hs hD (by omega)) ?_
  refine j_if_lt (tgt := 852) (q := 826) dL_act_823 (by decide) rfl (by first | exact wr_id' (by omega) (by omega) | with_reducible exact wr_bI _ | exact rfl) (fun h823 => ?_) (fun h823 => ?_)
  · refine j_iconst (q := 853) dL_act_852 rfl ?_
    refine j_goto (tgt := 857) dL_act_853 (by decide) ?_
    first | refine j_fe (LJ_k hJ (by omega) (by omega) (by omega) (by omega) (by omega)) ?_ | refine j_fe (LJ_k h (by omega) (by omega) (by omega) (by omega) (by omega)) ?_
    exact j_zreturn dL_act_857 rfl (by decide) (by first | exact bI_t (by omega) | exact bI_f (by omega) | simp [bI, *]) (rfl)
  · refine j_aload0 (q := 827) dL_act_826 rfl ?_
    have hn := hg.mp (by omega)
    obtain ⟨W, P1, hcall, hJ⟩ := us_wb V h (fun _ => 0) hn
    refine j_callV0 (Mc := iX7_writeBack) (q := 830) (c' := 0) (s' := 0) dL_act_827 rfl kV_X7_writeBack jw_804 ⟨by decide, by decide⟩ (V.2.2 _ _ sh_0) rfl rfl rfl (Nat.le_refl _) (Nat.le_refl _) hcall ?_
    refine j_aload4 (q := 832) dL_act_830 rfl ?_
    refine j_aload5 (q := 834) dL_act_832 rfl ?_
    refine j_aload6 (q := 836) dL_act_834 rfl ?_
    refine j_aload7 (q := 838) dL_act_836 rfl ?_
    refine j_aload8 (q := 840) dL_act_838 rfl ?_
    refine j_aload9 (q := 842) dL_act_840 rfl ?_
    refine j_aload10 (q := 844) dL_act_842 rfl ?_
    refine j_aload11 (q := 846) dL_act_844 rfl ?_
    refine j_callS8 (Mc := iL_back) (q := 849) (c' := 0) (s' := 0) dL_act_846 rfl kS_L_back jw_600 ⟨by decide, by decide⟩ rfl (Nat.le_refl _) (Nat.le_refl _) (ct_L_back (o := fun _ => 0) E hs h.q.k hn) ?_
    refine j_icmp_ne (tgt := 856) (q := 852) dL_act_849 (by decide) rfl (by first | exact wr_id' (by omega) (by omega) | with_reducible exact wr_bI _ | exact rfl) (by first | exact wr_id' (by omega) (by omega) | with_reducible exact wr_bI _ | exact rfl) (fun h849 => ?_) (fun h849 => ?_)
    · omega
    · refine j_iconst (q := 853) dL_act_852 rfl ?_
      refine j_goto (tgt := 857) dL_act_853 (by decide) ?_
      first | refine j_fe (LJ_k hJ (by omega) (by omega) (by omega) (by omega) (by omega)) ?_ | refine j_fe (LJ_k h (by omega) (by omega) (by omega) (by omega) (by omega)) ?_
      exact j_zreturn dL_act_857 rfl (by decide) (by first | exact bI_t (by omega) | exact bI_f (by omega) | simp [bI, *]) (rfl)
theorem lp_act {G : GX} {sh : List SH} (V : EV G sh) (E : EW G sh) (hs : LA sh false) {F : FinT} {X : Mem} {a x y k t dd B K : Int} : ∀ (d : Nat) (n : Int) (s : Z × (Int → Int)) (T : Int), n + d = dd → 0 ≤ n → n + d ≤ 100 → LK s.1 T B K → T + d ≤ 20000 → (∀ (x2 : Z × (Int → Int)), x2 = zTkN d s → J G sh iL_act 0 0 F 909 [some (.inr (.ref 0)), some (.inl a), some (.inl x), some (.inl y), some (.inr (.ref (ix false 0))), some (.inr (.ref (ix false 1))), some (.inr (.ref (ix false 2))), some (.inr (.ref (ix false 3))), some (.inr (.ref (ix false 4))), some (.inr (.ref (ix false 5))), some (.inr (.ref (ix false 7))), some (.inr (.ref (ix false 6))), some (.inl k), some (.inl (cr k)), some (.inl t), some (.inl dd), none, none, none] [] (lz X false x2.1) 0 0) → J G sh iL_act 0 0 F 877 [some (.inr (.ref 0)), some (.inl a), some (.inl x), some (.inl y), some (.inr (.ref (ix false 0))), some (.inr (.ref (ix false 1))), some (.inr (.ref (ix false 2))), some (.inr (.ref (ix false 3))), some (.inr (.ref (ix false 4))), some (.inr (.ref (ix false 5))), some (.inr (.ref (ix false 7))), some (.inr (.ref (ix false 6))), some (.inl k), some (.inl (cr k)), some (.inl t), some (.inl dd), some (.inl n), none, none] [] (lz X false s.1) 0 0 := by
  intro d
  induction d with
  | zero =>
    intro n s T g0 g1 g2 g3 g4 kk
    refine j_iload16 (q := 879) dL_act_877 rfl ?_
    refine j_iload15 (q := 881) dL_act_879 rfl ?_
    refine j_icmp_ge (tgt := 909) (q := 884) dL_act_881 (by decide) rfl (by first | exact wr_id' (by omega) (by omega) | with_reducible exact wr_bI _ | exact rfl) (by first | exact wr_id' (by omega) (by omega) | with_reducible exact wr_bI _ | exact rfl) (fun h881 => ?_) (fun h881 => ?_)
    · refine j_fgt16 ?_
      exact kk _ rfl
    · omega
  | succ d ih =>
    intro n s T g0 g1 g2 g3 g4 kk
    refine j_iload16 (q := 879) dL_act_877 rfl ?_
    refine j_iload15 (q := 881) dL_act_879 rfl ?_
    refine j_icmp_ge (tgt := 909) (q := 884) dL_act_881 (by decide) rfl (by first | exact wr_id' (by omega) (by omega) | with_reducible exact wr_bI _ | exact rfl) (by first | exact wr_id' (by omega) (by omega) | with_reducible exact wr_bI _ | exact rfl) (fun h881 => ?_) (fun h881 => ?_)
    · omega
    · refine j_aload4 (q := 886) dL_act_884 rfl ?_
      refine j_aload5 (q := 888) dL_act_886 rfl ?_
      refine j_aload6 (q := 890) dL_act_888 rfl ?_
      refine j_aload7 (q := 892) dL_act_890 rfl ?_
      refine j_aload8 (q := 894) dL_act_892 rfl ?_
      refine j_aload9 (q := 896) dL_act_894 rfl ?_
      refine j_aload10 (q := 898) dL_act_896 rfl ?_
      refine j_aload11 (q := 900) dL_act_898 rfl ?_
      refine j_callS8v (Mc := iL_tick) (q := 903) (c' := 0) (s' := 0) dL_act_900 rfl kS_L_tick jw_612 ⟨by decide, by decide⟩ rfl (Nat.le_refl _) (Nat.le_refl _) (ct_L_tick (o := s.2) E hs g3 (by omega)) ?_
      refine j_iinc16 (q := 906) dL_act_903 rfl rfl (by decide) ?_
      refine j_goto (tgt := 877) dL_act_906 (by decide) ?_
      obtain ⟨q, e1, e2⟩ := tk_pk s
      rw [e1]
      have g5 : LK q.1 (T + 1) B K := by rw [← e1]; exact LK_tk s.2 (by omega) g3
      exact ih _ q (T + 1) (by omega) (by omega) (by omega) g5 (by omega) (fun x hx => kk x (hx.trans (e2 d)))
theorem act_P {G : GX} {sh : List SH} (V : EV G sh) (E : EW G sh) (hs : LA sh false) {X P : Mem} {z : Z} {a x y k B K H : Int} (h : LJ X P z B K H) (hk : 0 ≤ k ∧ k < 16) (hB : B + 32 ≤ 1000000) (hK : K + 1 ≤ 512) (hH : H ≤ 9000) {t : Int} (ht : 0 ≤ t ∧ t < z 2) (h3 : 1 ≤ z 3) : J G sh iL_act 0 0 (FE G sh 0 0 (some (.inl (bI true))) (LΦ (B + 32) (K + 1) (H + 14))) 864 [some (.inr (.ref 0)), some (.inl a), some (.inl x), some (.inl y), some (.inr (.ref (ix false 0))), some (.inr (.ref (ix false 1))), some (.inr (.ref (ix false 2))), some (.inr (.ref (ix false 3))), some (.inr (.ref (ix false 4))), some (.inr (.ref (ix false 5))), some (.inr (.ref (ix false 7))), some (.inr (.ref (ix false 6))), some (.inl k), some (.inl (cr k)), some (.inl t), none, none, none, none] [] (lz X false z) 0 0 := by
  have hc := cr_b hk
  have hX := h.1.2.2.2.1
  have hI := h.1.2.1.2.2.2.2.2
  have hN := h.2.1
  unfold NI at hN
  have xk := hX.2.2 _ hc.1 hc.2
  have sgk := hI.sg _ hc.1 hc.2
  have lek := hI.le _ hc.1 hc.2
  have duk := hI.du _ hc.1 hc.2
  have hht := hI.ht
  have st1 := hI.st 1 (by decide) (by decide)
  have st2 := hI.st 2 (by decide) (by decide)
  have hTT := hI.tT
  have b9 := aT_b y (n := 9) (by decide)
  refine j_iconst (q := 865) dL_act_864 rfl ?_
  refine j_iload3 (q := 866) dL_act_865 rfl ?_
  refine j_bipush (q := 868) dL_act_866 rfl rfl ?_
  refine j_callS2 (Mc := iL_at) (q := 871) (c' := 0) (s' := 0) dL_act_868 rfl kS_L_at jw_429 ⟨by decide, by decide⟩ rfl (Nat.le_refl _) (Nat.le_refl _) (ct_L_at E hs (by omega)) ?_
  refine j_iadd (q := 872) dL_act_871 rfl ?_
  refine j_istore15 (q := 874) dL_act_872 rfl rfl (by decide) ?_
  refine j_iconst (q := 875) dL_act_874 rfl ?_
  refine j_istore16 (q := 877) dL_act_875 rfl rfl (by decide) ?_
  refine lp_act V E hs (B := B) (K := K) (1 + aT y 9).toNat 0 (z, fun _ => 0) 10000 (by omega) (by omega) (by omega) h.q.k (by omega) ?_
  intro s2 hs2
  obtain ⟨W, P1, hcall, hJ⟩ := us_pass V h hH (t := 1 + aT y 9) (by omega) s2 hs2
  refine j_aload0 (q := 910) dL_act_909 rfl ?_
  refine j_iload15 (q := 912) dL_act_910 rfl ?_
  refine j_callV1 (Mc := iX7_pass) (q := 915) (c' := 0) (s' := 0) dL_act_912 rfl kV_X7_pass jw_808 ⟨by decide, by decide⟩ (V.2.2 _ _ sh_0) rfl rfl rfl (Nat.le_refl _) (Nat.le_refl _) hcall ?_
  refine j_aload11 (q := 917) dL_act_915 rfl ?_
  refine j_iconst (q := 918) dL_act_917 rfl ?_
  refine j_l6_0 (q := 919) dL_act_918 rfl hs (by omega) ?_
  refine j_icmp_ne (tgt := 926) (q := 922) dL_act_919 (by decide) rfl (by first | exact wr_id' (by omega) (by omega) | with_reducible exact wr_bI _ | exact rfl) (by first | exact wr_id' (by omega) (by omega) | with_reducible exact wr_bI _ | exact rfl) (fun h919 => ?_) (fun h919 => ?_)
  · omega
  · refine j_iconst (q := 923) dL_act_922 rfl ?_
    refine j_goto (tgt := 927) dL_act_923 (by decide) ?_
    refine j_fe (LJ_k hJ (by omega) (by omega) (by omega) (by omega) (by omega)) ?_
    exact j_zreturn dL_act_927 rfl (by decide) (by first | exact bI_t (by omega) | exact bI_f (by omega) | simp [bI, *]) (rfl)
theorem act_U {G : GX} {sh : List SH} (V : EV G sh) (E : EW G sh) (hs : LA sh false) {X P : Mem} {z : Z} {a x y k B K H : Int} (h : LJ X P z B K H) (hk : 0 ≤ k ∧ k < 16) (hB : B + 32 ≤ 1000000) (hK : K + 1 ≤ 512) (hH : H ≤ 9000) {t : Int} (ht : 0 ≤ t ∧ t < z 2) (h3 : 1 ≤ z 3) : J G sh iL_act 0 0 (FE G sh 0 0 (some (.inl (bI true))) (LΦ (B + 32) (K + 1) (H + 14))) 934 [some (.inr (.ref 0)), some (.inl a), some (.inl x), some (.inl y), some (.inr (.ref (ix false 0))), some (.inr (.ref (ix false 1))), some (.inr (.ref (ix false 2))), some (.inr (.ref (ix false 3))), some (.inr (.ref (ix false 4))), some (.inr (.ref (ix false 5))), some (.inr (.ref (ix false 7))), some (.inr (.ref (ix false 6))), some (.inl k), some (.inl (cr k)), some (.inl t), none, none, none, none] [] (lz X false z) 0 0 := by
  have hc := cr_b hk
  have hX := h.1.2.2.2.1
  have hI := h.1.2.1.2.2.2.2.2
  have hN := h.2.1
  unfold NI at hN
  have xk := hX.2.2 _ hc.1 hc.2
  have sgk := hI.sg _ hc.1 hc.2
  have lek := hI.le _ hc.1 hc.2
  have duk := hI.du _ hc.1 hc.2
  have hht := hI.ht
  have st1 := hI.st 1 (by decide) (by decide)
  have st2 := hI.st 2 (by decide) (by decide)
  have hTT := hI.tT
  refine j_aload0 (q := 935) dL_act_934 rfl ?_
  refine j_iload14 (q := 937) dL_act_935 rfl ?_
  refine j_iload2 (q := 938) dL_act_937 rfl ?_
  refine j_iload3 (q := 939) dL_act_938 rfl ?_
  refine j_aload4 (q := 941) dL_act_939 rfl ?_
  refine j_aload5 (q := 943) dL_act_941 rfl ?_
  refine j_aload6 (q := 945) dL_act_943 rfl ?_
  refine j_aload7 (q := 947) dL_act_945 rfl ?_
  refine j_aload8 (q := 949) dL_act_947 rfl ?_
  refine j_aload9 (q := 951) dL_act_949 rfl ?_
  refine j_aload10 (q := 953) dL_act_951 rfl ?_
  refine j_aload11 (q := 955) dL_act_953 rfl ?_
  refine j_callS12E (Mc := iL_runs) (q := 958) (c' := 0) (s' := 0) dL_act_955 rfl kS_L_runs jw_817 ⟨by decide, by decide⟩ rfl (Nat.le_refl _) (Nat.le_refl _) (ct_L_runs V E hs h ht hB (by omega) hH) ?_
  intro m2 hm2
  obtain ⟨X2, P2, z2, rfl, hJ⟩ := hm2
  refine j_fe (LJ_k hJ (by omega) (by omega) (by omega) (by omega) (by omega)) ?_
  exact j_zreturn dL_act_958 rfl (bI_01 _) (rfl) (rfl)
theorem act_S2 {G : GX} {sh : List SH} (V : EV G sh) (E : EW G sh) (hs : LA sh false) {X P : Mem} {z : Z} {a x y k B K H : Int} (h : LJ X P z B K H) (hk : 0 ≤ k ∧ k < 16) (hB : B + 32 ≤ 1000000) (hK : K + 1 ≤ 512) (hH : H ≤ 9000) {t : Int} {s v : Int} (g8 : (gE G 1).2.1 = 8) (gm : ∀ s, 0 ≤ s → s < 8 → (gE G 1).2.2 s = zMost s) (hs8 : 0 ≤ s ∧ s < 8) (hv : 0 ≤ v ∧ v ≤ zMost s) : J G sh iL_act 0 0 (FE G sh 0 0 (some (.inl (bI true))) (LΦ (B + 32) (K + 1) (H + 14))) 1051 [some (.inr (.ref 0)), some (.inl a), some (.inl x), some (.inl y), some (.inr (.ref (ix false 0))), some (.inr (.ref (ix false 1))), some (.inr (.ref (ix false 2))), some (.inr (.ref (ix false 3))), some (.inr (.ref (ix false 4))), some (.inr (.ref (ix false 5))), some (.inr (.ref (ix false 7))), some (.inr (.ref (ix false 6))), some (.inl k), some (.inl (cr k)), some (.inl t), some (.inl s), some (.inl (z (15 + s))), none, none] [.inl v, .inl s, .inr (.ref (ix false 7))] (lz X false z) 0 0 := by
  have hc := cr_b hk
  have hX := h.1.2.2.2.1
  have hI := h.1.2.1.2.2.2.2.2
  have hN := h.2.1
  unfold NI at hN
  have xk := hX.2.2 _ hc.1 hc.2
  have sgk := hI.sg _ hc.1 hc.2
  have lek := hI.le _ hc.1 hc.2
  have duk := hI.du _ hc.1 hc.2
  have hht := hI.ht
  have st1 := hI.st 1 (by decide) (by decide)
  have st2 := hI.st 2 (by decide) (by decide)
  have hTT := hI.tT
  refine j_s7_0 (q := 1052) dL_act_1051 rfl hs (by omega) ?_
  refine j_aload0 (q := 1053) dL_act_1052 rfl ?_
  refine j_iload15 (q := 1055) dL_act_1053 rfl ?_
  refine j_aload10 (q := 1057) dL_act_1055 rfl ?_
  refine j_iload15 (q := 1059) dL_act_1057 rfl ?_
  refine j_l7_0 (q := 1060) dL_act_1059 rfl hs (by omega) ?_
  rw [u1_at]
  obtain ⟨W, P1, hcall, hJ⟩ := us_set V h g8 gm hs8 hv
  refine j_callV2 (Mc := iX7_set) (q := 1063) (c' := 0) (s' := 0) dL_act_1060 rfl kV_X7_set jw_256 ⟨by decide, by decide⟩ (V.2.2 _ _ sh_0) rfl rfl rfl (Nat.le_refl _) (Nat.le_refl _) hcall ?_
  refine j_iload16 (q := 1065) dL_act_1063 rfl ?_
  refine j_icmp_ne (tgt := 1072) (q := 1068) dL_act_1065 (by decide) rfl (by first | exact wr_id' (by omega) (by omega) | with_reducible exact wr_bI _ | exact rfl) (by first | exact wr_id' (by omega) (by omega) | with_reducible exact wr_bI _ | exact rfl) (fun h1065 => ?_) (fun h1065 => ?_)
  · omega
  · refine j_iconst (q := 1069) dL_act_1068 rfl ?_
    refine j_goto (tgt := 1073) dL_act_1069 (by decide) ?_
    refine j_fe (LJ_k hJ (by omega) (by omega) (by omega) (by omega) (by omega)) ?_
    exact j_zreturn dL_act_1073 rfl (by decide) (by first | exact bI_t (by omega) | exact bI_f (by omega) | simp [bI, *]) (rfl)
theorem act_S {G : GX} {sh : List SH} (V : EV G sh) (E : EW G sh) (hs : LA sh false) {X P : Mem} {z : Z} {a x y k B K H : Int} (h : LJ X P z B K H) (hk : 0 ≤ k ∧ k < 16) (hB : B + 32 ≤ 1000000) (hK : K + 1 ≤ 512) (hH : H ≤ 9000) {t : Int} {s : Int} (g8 : (gE G 1).2.1 = 8) (gm : ∀ s, 0 ≤ s → s < 8 → (gE G 1).2.2 s = zMost s) (hs8 : 0 ≤ s ∧ s < 8) : J G sh iL_act 0 0 (FE G sh 0 0 (some (.inl (bI true))) (LΦ (B + 32) (K + 1) (H + 14))) 967 [some (.inr (.ref 0)), some (.inl a), some (.inl x), some (.inl y), some (.inr (.ref (ix false 0))), some (.inr (.ref (ix false 1))), some (.inr (.ref (ix false 2))), some (.inr (.ref (ix false 3))), some (.inr (.ref (ix false 4))), some (.inr (.ref (ix false 5))), some (.inr (.ref (ix false 7))), some (.inr (.ref (ix false 6))), some (.inl k), some (.inl (cr k)), some (.inl t), some (.inl s), none, none, none] [] (lz X false z) 0 0 := by
  have hc := cr_b hk
  have hX := h.1.2.2.2.1
  have hI := h.1.2.1.2.2.2.2.2
  have hN := h.2.1
  unfold NI at hN
  have xk := hX.2.2 _ hc.1 hc.2
  have sgk := hI.sg _ hc.1 hc.2
  have lek := hI.le _ hc.1 hc.2
  have duk := hI.du _ hc.1 hc.2
  have hht := hI.ht
  have st1 := hI.st 1 (by decide) (by decide)
  have st2 := hI.st 2 (by decide) (by decide)
  have hTT := hI.tT
  have c1 := aT_b y (n := 21) (by decide)
  have c2 := aT_b y (n := 9) (by decide)
  have c3 := aT_b y (n := 101) (by decide)
  have c4 := aT_b y (n := 11) (by decide)
  have c5 := aT_b y (n := 51) (by decide)
  refine j_aload10 (q := 969) dL_act_967 rfl ?_
  refine j_iload15 (q := 971) dL_act_969 rfl ?_
  refine j_l7_0 (q := 972) dL_act_971 rfl hs (by omega) ?_
  refine j_istore16 (q := 974) dL_act_972 rfl rfl (by decide) ?_
  refine j_aload10 (q := 976) dL_act_974 rfl ?_
  refine j_iload15 (q := 978) dL_act_976 rfl ?_
  refine j_iload15 (q := 980) dL_act_978 rfl ?_
  refine j_iconst (q := 981) dL_act_980 rfl ?_
  refine j_icmp_ge (tgt := 993) (q := 984) dL_act_981 (by decide) rfl (by first | exact wr_id' (by omega) (by omega) | with_reducible exact wr_bI _ | exact rfl) (by first | exact wr_id' (by omega) (by omega) | with_reducible exact wr_bI _ | exact rfl) (fun h981 => ?_) (fun h981 => ?_)
  · refine j_iload15 (q := 995) dL_act_993 rfl ?_
    refine j_iconst (q := 996) dL_act_995 rfl ?_
    refine j_icmp_ne (tgt := 1008) (q := 999) dL_act_996 (by decide) rfl (by first | exact wr_id' (by omega) (by omega) | with_reducible exact wr_bI _ | exact rfl) (by first | exact wr_id' (by omega) (by omega) | with_reducible exact wr_bI _ | exact rfl) (fun h996 => ?_) (fun h996 => ?_)
    · refine j_iload15 (q := 1010) dL_act_1008 rfl ?_
      refine j_iconst (q := 1011) dL_act_1010 rfl ?_
      refine j_icmp_eq (tgt := 1020) (q := 1014) dL_act_1011 (by decide) rfl (by first | exact wr_id' (by omega) (by omega) | with_reducible exact wr_bI _ | exact rfl) (by first | exact wr_id' (by omega) (by omega) | with_reducible exact wr_bI _ | exact rfl) (fun h1011 => ?_) (fun h1011 => ?_)
      · refine j_iload3 (q := 1021) dL_act_1020 rfl ?_
        refine j_bipush (q := 1023) dL_act_1021 rfl rfl ?_
        refine j_callS2 (Mc := iL_at) (q := 1026) (c' := 0) (s' := 0) dL_act_1023 rfl kS_L_at jw_429 ⟨by decide, by decide⟩ rfl (Nat.le_refl _) (Nat.le_refl _) (ct_L_at E hs (by omega)) ?_
        refine j_goto (tgt := 1051) dL_act_1026 (by decide) ?_
        exact act_S2 V E hs h hk hB hK hH g8 gm hs8 (by unfold zMost; (repeat' split) <;> omega)
      · refine j_iload15 (q := 1016) dL_act_1014 rfl ?_
        refine j_iconst (q := 1017) dL_act_1016 rfl ?_
        refine j_icmp_ne (tgt := 1029) (q := 1020) dL_act_1017 (by decide) rfl (by first | exact wr_id' (by omega) (by omega) | with_reducible exact wr_bI _ | exact rfl) (by first | exact wr_id' (by omega) (by omega) | with_reducible exact wr_bI _ | exact rfl) (fun h1017 => ?_) (fun h1017 => ?_)
        · refine j_iload15 (q := 1031) dL_act_1029 rfl ?_
          refine j_bipush (q := 1033) dL_act_1031 rfl rfl ?_
          refine j_icmp_ne (tgt := 1045) (q := 1036) dL_act_1033 (by decide) rfl (by first | exact wr_id' (by omega) (by omega) | with_reducible exact wr_bI _ | exact rfl) (by first | exact wr_id' (by omega) (by omega) | with_reducible exact wr_bI _ | exact rfl) (fun h1033 => ?_) (fun h1033 => ?_)
          · refine j_iload3 (q := 1046) dL_act_1045 rfl ?_
            refine j_bipush (q := 1048) dL_act_1046 rfl rfl ?_
            refine j_callS2 (Mc := iL_at) (q := 1051) (c' := 0) (s' := 0) dL_act_1048 rfl kS_L_at jw_429 ⟨by decide, by decide⟩ rfl (Nat.le_refl _) (Nat.le_refl _) (ct_L_at E hs (by omega)) ?_
            exact act_S2 V E hs h hk hB hK hH g8 gm hs8 (by unfold zMost; (repeat' split) <;> omega)
          · refine j_iload3 (q := 1037) dL_act_1036 rfl ?_
            refine j_bipush (q := 1039) dL_act_1037 rfl rfl ?_
            refine j_callS2 (Mc := iL_at) (q := 1042) (c' := 0) (s' := 0) dL_act_1039 rfl kS_L_at jw_429 ⟨by decide, by decide⟩ rfl (Nat.le_refl _) (Nat.le_refl _) (ct_L_at E hs (by omega)) ?_
            refine j_goto (tgt := 1051) dL_act_1042 (by decide) ?_
            exact act_S2 V E hs h hk hB hK hH g8 gm hs8 (by unfold zMost; (repeat' split) <;> omega)
        · refine j_iload3 (q := 1021) dL_act_1020 rfl ?_
          refine j_bipush (q := 1023) dL_act_1021 rfl rfl ?_
          refine j_callS2 (Mc := iL_at) (q := 1026) (c' := 0) (s' := 0) dL_act_1023 rfl kS_L_at jw_429 ⟨by decide, by decide⟩ rfl (Nat.le_refl _) (Nat.le_refl _) (ct_L_at E hs (by omega)) ?_
          refine j_goto (tgt := 1051) dL_act_1026 (by decide) ?_
          exact act_S2 V E hs h hk hB hK hH g8 gm hs8 (by unfold zMost; (repeat' split) <;> omega)
    · refine j_iload3 (q := 1000) dL_act_999 rfl ?_
      refine j_bipush (q := 1002) dL_act_1000 rfl rfl ?_
      refine j_callS2 (Mc := iL_at) (q := 1005) (c' := 0) (s' := 0) dL_act_1002 rfl kS_L_at jw_429 ⟨by decide, by decide⟩ rfl (Nat.le_refl _) (Nat.le_refl _) (ct_L_at E hs (by omega)) ?_
      refine j_goto (tgt := 1051) dL_act_1005 (by decide) ?_
      exact act_S2 V E hs h hk hB hK hH g8 gm hs8 (by unfold zMost; (repeat' split) <;> omega)
  · refine j_iload3 (q := 985) dL_act_984 rfl ?_
    refine j_bipush (q := 987) dL_act_985 rfl rfl ?_
    refine j_callS2 (Mc := iL_at) (q := 990) (c' := 0) (s' := 0) dL_act_987 rfl kS_L_at jw_429 ⟨by decide, by decide⟩ rfl (Nat.le_refl _) (Nat.le_refl _) (ct_L_at E hs (by omega)) ?_
    refine j_goto (tgt := 1051) dL_act_990 (by decide) ?_
    exact act_S2 V E hs h hk hB hK hH g8 gm hs8 (by unfold zMost; (repeat' split) <;> omega)
theorem ct_L_act {G : GX} {sh : List SH} (V : EV G sh) (E : EW G sh) (hs : LA sh false) {X P : Mem} {z : Z} {a x y B K H : Int} (h : LJ X P z B K H) (g8 : (gE G 1).2.1 = 8) (gm : ∀ s, 0 ≤ s → s < 8 → (gE G 1).2.2 s = zMost s)  (ha : 0 ≤ a ∧ a < 25) (hB : B + 32 ≤ 1000000) (hK : K + 1 ≤ 512) (hH : H ≤ 9000) : CE G sh iL_act 0 0 [.inr (.ref 0), .inl a, .inl x, .inl y, .inr (.ref (ix false 0)), .inr (.ref (ix false 1)), .inr (.ref (ix false 2)), .inr (.ref (ix false 3)), .inr (.ref (ix false 4)), .inr (.ref (ix false 5)), .inr (.ref (ix false 7)), .inr (.ref (ix false 6))] (lz X false z) (some (.inl (bI true))) (LΦ (B + 32) (K + 1) (H + 14)) := by
  have b16 := aT_b x (n := 16) (by decide)
  have hN := h.2.1
  unfold NI at hN
  refine j_metE (L0 := [some (.inr (.ref 0)), some (.inl a), some (.inl x), some (.inl y), some (.inr (.ref (ix false 0))), some (.inr (.ref (ix false 1))), some (.inr (.ref (ix false 2))), some (.inr (.ref (ix false 3))), some (.inr (.ref (ix false 4))), some (.inr (.ref (ix false 5))), some (.inr (.ref (ix false 7))), some (.inr (.ref (ix false 6))), none, none, none, none, none, none, none]) (by decide) E.1 E.2 rfl (Nat.le_of_ble_eq_true rfl) ?_
  refine j_iload2 (q := 1) dL_act_0 rfl ?_
  refine j_bipush (q := 3) dL_act_1 rfl rfl ?_
  refine j_callS2 (Mc := iL_at) (q := 6) (c' := 0) (s' := 0) dL_act_3 rfl kS_L_at jw_429 ⟨by decide, by decide⟩ rfl (Nat.le_refl _) (Nat.le_refl _) (ct_L_at E hs (by omega)) ?_
  refine j_istore12 (q := 8) dL_act_6 rfl rfl (by decide) ?_
  refine j_iload12 (q := 10) dL_act_8 rfl ?_
  refine j_callS1 (Mc := iL_core) (q := 13) (c' := 0) (s' := 0) dL_act_10 rfl kS_L_core jw_438 ⟨by decide, by decide⟩ rfl (Nat.le_refl _) (Nat.le_refl _) (ct_L_core E hs (by omega)) ?_
  refine j_istore13 (q := 15) dL_act_13 rfl rfl (by decide) ?_
  refine j_iload1 (q := 16) dL_act_15 rfl ?_
  refine j_if_eq (tgt := 26) (q := 19) dL_act_16 (by decide) rfl (by first | exact wr_id' (by omega) (by omega) | with_reducible exact wr_bI _ | exact rfl) (fun h16 => ?_) (fun h16 => ?_)
  · exact act_T V E hs h b16 hB hK hH
  · refine j_aload11 (q := 21) dL_act_19 rfl ?_
    refine j_iconst (q := 22) dL_act_21 rfl ?_
    refine j_l6_0 (q := 23) dL_act_22 rfl hs (by omega) ?_
    refine j_if_ne (tgt := 90) (q := 26) dL_act_23 (by decide) rfl (by first | exact wr_id' (by omega) (by omega) | with_reducible exact wr_bI _ | exact rfl) (fun h23 => ?_) (fun h23 => ?_)
    · refine j_iload1 (q := 91) dL_act_90 rfl ?_
      refine j_iconst (q := 92) dL_act_91 rfl ?_
      refine j_icmp_eq (tgt := 102) (q := 95) dL_act_92 (by decide) rfl (by first | exact wr_id' (by omega) (by omega) | with_reducible exact wr_bI _ | exact rfl) (by first | exact wr_id' (by omega) (by omega) | with_reducible exact wr_bI _ | exact rfl) (fun h92 => ?_) (fun h92 => ?_)
      · exact act_I V E hs h b16 hB hK hH
      · refine j_aload11 (q := 97) dL_act_95 rfl ?_
        refine j_iconst (q := 98) dL_act_97 rfl ?_
        refine j_l6_0 (q := 99) dL_act_98 rfl hs (by omega) ?_
        refine j_if_ne (tgt := 213) (q := 102) dL_act_99 (by decide) rfl (by first | exact wr_id' (by omega) (by omega) | with_reducible exact wr_bI _ | exact rfl) (fun h99 => ?_) (fun h99 => ?_)
        · refine j_iload3 (q := 214) dL_act_213 rfl ?_
          refine j_aload11 (q := 216) dL_act_214 rfl ?_
          refine j_iconst (q := 217) dL_act_216 rfl ?_
          refine j_l6_0 (q := 218) dL_act_217 rfl hs (by omega) ?_
          refine j_callS2 (Mc := iL_at) (q := 221) (c' := 0) (s' := 0) dL_act_218 rfl kS_L_at jw_429 ⟨by decide, by decide⟩ rfl (Nat.le_refl _) (Nat.le_refl _) (ct_L_at E hs (by omega)) ?_
          refine j_istore14 (q := 223) dL_act_221 rfl rfl (by decide) ?_
          refine j_iload1 (q := 224) dL_act_223 rfl ?_
          refine j_iconst (q := 225) dL_act_224 rfl ?_
          refine j_icmp_ge (tgt := 351) (q := 228) dL_act_225 (by decide) rfl (by first | exact wr_id' (by omega) (by omega) | with_reducible exact wr_bI _ | exact rfl) (by first | exact wr_id' (by omega) (by omega) | with_reducible exact wr_bI _ | exact rfl) (fun h225 => ?_) (fun h225 => ?_)
          · refine j_iload1 (q := 352) dL_act_351 rfl ?_
            refine j_bipush (q := 354) dL_act_352 rfl rfl ?_
            refine j_icmp_ge (tgt := 559) (q := 357) dL_act_354 (by decide) rfl (by first | exact wr_id' (by omega) (by omega) | with_reducible exact wr_bI _ | exact rfl) (by first | exact wr_id' (by omega) (by omega) | with_reducible exact wr_bI _ | exact rfl) (fun h354 => ?_) (fun h354 => ?_)
            · refine j_iload1 (q := 560) dL_act_559 rfl ?_
              refine j_bipush (q := 562) dL_act_560 rfl rfl ?_
              refine j_icmp_ne (tgt := 665) (q := 565) dL_act_562 (by decide) rfl (by first | exact wr_id' (by omega) (by omega) | with_reducible exact wr_bI _ | exact rfl) (by first | exact wr_id' (by omega) (by omega) | with_reducible exact wr_bI _ | exact rfl) (fun h562 => ?_) (fun h562 => ?_)
              · refine j_iload1 (q := 666) dL_act_665 rfl ?_
                refine j_bipush (q := 668) dL_act_666 rfl rfl ?_
                refine j_icmp_ge (tgt := 745) (q := 671) dL_act_668 (by decide) rfl (by first | exact wr_id' (by omega) (by omega) | with_reducible exact wr_bI _ | exact rfl) (by first | exact wr_id' (by omega) (by omega) | with_reducible exact wr_bI _ | exact rfl) (fun h668 => ?_) (fun h668 => ?_)
                · refine j_iload1 (q := 746) dL_act_745 rfl ?_
                  refine j_bipush (q := 748) dL_act_746 rfl rfl ?_
                  refine j_icmp_ge (tgt := 811) (q := 751) dL_act_748 (by decide) rfl (by first | exact wr_id' (by omega) (by omega) | with_reducible exact wr_bI _ | exact rfl) (by first | exact wr_id' (by omega) (by omega) | with_reducible exact wr_bI _ | exact rfl) (fun h748 => ?_) (fun h748 => ?_)
                  · refine j_iload1 (q := 812) dL_act_811 rfl ?_
                    refine j_bipush (q := 814) dL_act_812 rfl rfl ?_
                    refine j_icmp_ge (tgt := 858) (q := 817) dL_act_814 (by decide) rfl (by first | exact wr_id' (by omega) (by omega) | with_reducible exact wr_bI _ | exact rfl) (by first | exact wr_id' (by omega) (by omega) | with_reducible exact wr_bI _ | exact rfl) (fun h814 => ?_) (fun h814 => ?_)
                    · refine j_iload1 (q := 859) dL_act_858 rfl ?_
                      refine j_bipush (q := 861) dL_act_859 rfl rfl ?_
                      refine j_icmp_ge (tgt := 928) (q := 864) dL_act_861 (by decide) rfl (by first | exact wr_id' (by omega) (by omega) | with_reducible exact wr_bI _ | exact rfl) (by first | exact wr_id' (by omega) (by omega) | with_reducible exact wr_bI _ | exact rfl) (fun h861 => ?_) (fun h861 => ?_)
                      · refine j_iload1 (q := 929) dL_act_928 rfl ?_
                        refine j_bipush (q := 931) dL_act_929 rfl rfl ?_
                        refine j_icmp_ge (tgt := 959) (q := 934) dL_act_931 (by decide) rfl (by first | exact wr_id' (by omega) (by omega) | with_reducible exact wr_bI _ | exact rfl) (by first | exact wr_id' (by omega) (by omega) | with_reducible exact wr_bI _ | exact rfl) (fun h931 => ?_) (fun h931 => ?_)
                        · refine j_iload2 (q := 960) dL_act_959 rfl ?_
                          refine j_bipush (q := 962) dL_act_960 rfl rfl ?_
                          refine j_callS2 (Mc := iL_at) (q := 965) (c' := 0) (s' := 0) dL_act_962 rfl kS_L_at jw_429 ⟨by decide, by decide⟩ rfl (Nat.le_refl _) (Nat.le_refl _) (ct_L_at E hs (by omega)) ?_
                          refine j_istore15 (q := 967) dL_act_965 rfl rfl (by decide) ?_
                          exact act_S V E hs h b16 hB hK hH g8 gm (aT_b x (by decide))
                        · exact act_U V E hs h b16 hB hK hH (aT_b y (by omega)) (by omega)
                      · exact act_P V E hs h b16 hB hK hH (aT_b y (by omega)) (by omega)
                    · exact act_B V E hs h b16 hB hK hH (aT_b y (by omega)) (by omega)
                  · exact act_D V E hs h b16 hB hK hH (aT_b y (by omega)) (by omega)
                · exact act_W V E hs h b16 hB hK hH (aT_b y (by omega)) (by omega)
              · exact act_R V E hs h b16 hB hK hH (aT_b y (by omega)) (by omega)
            · exact act_N V E hs h b16 hB hK hH (aT_b y (by omega)) (by omega)
          · exact act_L V E hs h b16 hB hK hH (aT_b y (by omega)) (by omega)
        · exact act_I V E hs h b16 hB hK hH
    · exact act_T V E hs h b16 hB hK hH

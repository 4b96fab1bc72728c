/-! the model: its answers -/
def zCN (z : Z) (c w : Int) : Int :=
  if w = 0 ∨ w = 1 ∨ w = 8 then z (59 + 9 * c + w) else if w = 2 then z (59 + 9 * c + 2) - 1 else if w = 3 then (if zLs z c then z (59 + 9 * c + 3) else 0) else if w = 4 then z (59 + 9 * c + 4) - 1
  else if w = 5 then (if 0 < wr (z (59 + 9 * c + 4)) then z (59 + 9 * c + 5) else 0) else if w = 6 then bI (zOw z c) else z (59 + 9 * c + 6) - 1
def zTN (z : Z) (t w : Int) : Int :=
  if w = 0 then z (23 + 3 * t + 0) else if w = 1 then zCof z t false else if w = 2 then zCof z t true else if w = 3 then z (23 + 3 * t + 1) else if w = 4 then z (23 + 3 * t + 2) else zWq z t
def zIN (z : Z) (i w : Int) : Int :=
  if w = 0 ∨ w = 1 ∨ w = 2 then z (41 + 6 * i + w) else if w = 3 then zPol z i else if w = 4 then z (41 + 6 * i + 3) else if w = 5 then z (41 + 6 * i + 5) else z (41 + 6 * i + 4)
def zCnt (z : Z) (s w : Int) : Int :=
  if w = 4 then zCW z 2 else if w = 5 then zCW z 4 else if w = 6 then zOwN z else if w = 7 then zCW z 0 else if w = 18 then s else if w < 4 then z w else z (w - 4)
def zRN (z : Z) (c w : Int) : Int :=
  if w = 0 then z (59 + 9 * c + 0) else if w = 1 then zDis z c 0 else if w = 2 then zHeat z (z (15 + 2)) else if w = 3 then zWorn z c else zDis z c 1
theorem ct_X8_coreNow {G : GX} (E : EV G) {m : Mem} {z : Z} {c : Int} {w : Int} (h1 : 0 ≤ c ∧ c < 64) (h2 : 0 ≤ w ∧ w < 9) : CT G SHP iX8_coreNow 0 0 [.inr (.ref 197), .inl c, .inl w] (sz m z) (some (.inl (zCN z c w))) (sz m z) := by
  refine j_met (L0 := [some (.inr (.ref 197)), some (.inl c), some (.inl w)]) (by decide) E.1 E.2 rfl (Nat.le_of_ble_eq_true rfl) ?_
  refine j_iload2 (q := 1) dX8_coreNow_0 rfl ?_
  by_cases h1_0 : w = 0
  · refine j_tableIn (x' := w) (tgt := 52) 0 dX8_coreNow_1 (by first | exact wr_id' (by omega) (by omega) | with_reducible exact wr_bI _ | exact rfl) (by omega) (by decide) rfl (by decide) ?_
    refine j_aload0 (q := 53) dX8_coreNow_52 rfl ?_
    refine j_iload1 (q := 54) dX8_coreNow_53 rfl ?_
    refine j_iload2 (q := 55) dX8_coreNow_54 rfl ?_
    refine j_callV2 (Mc := iX8_of) (q := 58) (c' := 0) (s' := 0) dX8_coreNow_55 rfl kV_X8_of jw_1079 ⟨by decide, by decide⟩ sh_197 rfl rfl rfl (Nat.le_refl _) (Nat.le_refl _) (ct_X8_of E (by omega) (by omega)) ?_
    exact j_ireturn dX8_coreNow_58 rfl (by grind [zCN, zTN, zIN, zCnt, zRN, bI]) (rfl)
  by_cases h1_1 : w = 1
  · refine j_tableIn (x' := w) (tgt := 52) 1 dX8_coreNow_1 (by first | exact wr_id' (by omega) (by omega) | with_reducible exact wr_bI _ | exact rfl) (by omega) (by decide) rfl (by decide) ?_
    refine j_aload0 (q := 53) dX8_coreNow_52 rfl ?_
    refine j_iload1 (q := 54) dX8_coreNow_53 rfl ?_
    refine j_iload2 (q := 55) dX8_coreNow_54 rfl ?_
    refine j_callV2 (Mc := iX8_of) (q := 58) (c' := 0) (s' := 0) dX8_coreNow_55 rfl kV_X8_of jw_1079 ⟨by decide, by decide⟩ sh_197 rfl rfl rfl (Nat.le_refl _) (Nat.le_refl _) (ct_X8_of E (by omega) (by omega)) ?_
    exact j_ireturn dX8_coreNow_58 rfl (by grind [zCN, zTN, zIN, zCnt, zRN, bI]) (rfl)
  by_cases h1_2 : w = 2
  · refine j_tableIn (x' := w) (tgt := 59) 2 dX8_coreNow_1 (by first | exact wr_id' (by omega) (by omega) | with_reducible exact wr_bI _ | exact rfl) (by omega) (by decide) rfl (by decide) ?_
    refine j_aload0 (q := 60) dX8_coreNow_59 rfl ?_
    refine j_iload1 (q := 61) dX8_coreNow_60 rfl ?_
    refine j_iconst (q := 62) dX8_coreNow_61 rfl ?_
    refine j_callV2 (Mc := iX8_of) (q := 65) (c' := 0) (s' := 0) dX8_coreNow_62 rfl kV_X8_of jw_1079 ⟨by decide, by decide⟩ sh_197 rfl rfl rfl (Nat.le_refl _) (Nat.le_refl _) (ct_X8_of E (by omega) (by omega)) ?_
    refine j_iconst (q := 66) dX8_coreNow_65 rfl ?_
    refine j_isub (q := 67) dX8_coreNow_66 rfl ?_
    exact j_ireturn dX8_coreNow_67 rfl (by grind [zCN, zTN, zIN, zCnt, zRN, bI]) (rfl)
  by_cases h1_3 : w = 3
  · refine j_tableIn (x' := w) (tgt := 68) 3 dX8_coreNow_1 (by first | exact wr_id' (by omega) (by omega) | with_reducible exact wr_bI _ | exact rfl) (by omega) (by decide) rfl (by decide) ?_
    refine j_aload0 (q := 69) dX8_coreNow_68 rfl ?_
    refine j_iload1 (q := 70) dX8_coreNow_69 rfl ?_
    refine j_callV1 (Mc := iX8_isLeased) (q := 73) (c' := 0) (s' := 0) dX8_coreNow_70 rfl kV_X8_isLeased jw_1075 ⟨by decide, by decide⟩ sh_197 rfl rfl rfl (Nat.le_refl _) (Nat.le_refl _) (ct_X8_isLeased E (by omega)) ?_
    refine j_ifeq_b (tgt := 85) (q := 76) dX8_coreNow_73 (by decide) rfl (fun h73 => ?_) (fun h73 => ?_)
    · refine j_iconst (q := 86) dX8_coreNow_85 rfl ?_
      exact j_ireturn dX8_coreNow_86 rfl (by grind [zCN, zTN, zIN, zCnt, zRN, bI]) (rfl)
    · refine j_aload0 (q := 77) dX8_coreNow_76 rfl ?_
      refine j_iload1 (q := 78) dX8_coreNow_77 rfl ?_
      refine j_iconst (q := 79) dX8_coreNow_78 rfl ?_
      refine j_callV2 (Mc := iX8_of) (q := 82) (c' := 0) (s' := 0) dX8_coreNow_79 rfl kV_X8_of jw_1079 ⟨by decide, by decide⟩ sh_197 rfl rfl rfl (Nat.le_refl _) (Nat.le_refl _) (ct_X8_of E (by omega) (by omega)) ?_
      refine j_goto (tgt := 86) dX8_coreNow_82 (by decide) ?_
      exact j_ireturn dX8_coreNow_86 rfl (by grind [zCN, zTN, zIN, zCnt, zRN, bI]) (rfl)
  by_cases h1_4 : w = 4
  · refine j_tableIn (x' := w) (tgt := 87) 4 dX8_coreNow_1 (by first | exact wr_id' (by omega) (by omega) | with_reducible exact wr_bI _ | exact rfl) (by omega) (by decide) rfl (by decide) ?_
    refine j_aload0 (q := 88) dX8_coreNow_87 rfl ?_
    refine j_iload1 (q := 89) dX8_coreNow_88 rfl ?_
    refine j_iconst (q := 90) dX8_coreNow_89 rfl ?_
    refine j_callV2 (Mc := iX8_of) (q := 93) (c' := 0) (s' := 0) dX8_coreNow_90 rfl kV_X8_of jw_1079 ⟨by decide, by decide⟩ sh_197 rfl rfl rfl (Nat.le_refl _) (Nat.le_refl _) (ct_X8_of E (by omega) (by omega)) ?_
    refine j_iconst (q := 94) dX8_coreNow_93 rfl ?_
    refine j_isub (q := 95) dX8_coreNow_94 rfl ?_
    exact j_ireturn dX8_coreNow_95 rfl (by grind [zCN, zTN, zIN, zCnt, zRN, bI]) (rfl)
  by_cases h1_5 : w = 5
  · refine j_tableIn (x' := w) (tgt := 96) 5 dX8_coreNow_1 (by first | exact wr_id' (by omega) (by omega) | with_reducible exact wr_bI _ | exact rfl) (by omega) (by decide) rfl (by decide) ?_
    refine j_aload0 (q := 97) dX8_coreNow_96 rfl ?_
    refine j_iload1 (q := 98) dX8_coreNow_97 rfl ?_
    refine j_iconst (q := 99) dX8_coreNow_98 rfl ?_
    refine j_callV2 (Mc := iX8_of) (q := 102) (c' := 0) (s' := 0) dX8_coreNow_99 rfl kV_X8_of jw_1079 ⟨by decide, by decide⟩ sh_197 rfl rfl rfl (Nat.le_refl _) (Nat.le_refl _) (ct_X8_of E (by omega) (by omega)) ?_
    refine j_if_le (tgt := 114) (q := 105) dX8_coreNow_102 (by decide) rfl (by first | exact wr_id' (by omega) (by omega) | with_reducible exact wr_bI _ | exact rfl) (fun h102 => ?_) (fun h102 => ?_)
    · refine j_iconst (q := 115) dX8_coreNow_114 rfl ?_
      exact j_ireturn dX8_coreNow_115 rfl (by grind [zCN, zTN, zIN, zCnt, zRN, bI]) (rfl)
    · refine j_aload0 (q := 106) dX8_coreNow_105 rfl ?_
      refine j_iload1 (q := 107) dX8_coreNow_106 rfl ?_
      refine j_iconst (q := 108) dX8_coreNow_107 rfl ?_
      refine j_callV2 (Mc := iX8_of) (q := 111) (c' := 0) (s' := 0) dX8_coreNow_108 rfl kV_X8_of jw_1079 ⟨by decide, by decide⟩ sh_197 rfl rfl rfl (Nat.le_refl _) (Nat.le_refl _) (ct_X8_of E (by omega) (by omega)) ?_
      refine j_goto (tgt := 115) dX8_coreNow_111 (by decide) ?_
      exact j_ireturn dX8_coreNow_115 rfl (by grind [zCN, zTN, zIN, zCnt, zRN, bI]) (rfl)
  by_cases h1_6 : w = 6
  · refine j_tableIn (x' := w) (tgt := 116) 6 dX8_coreNow_1 (by first | exact wr_id' (by omega) (by omega) | with_reducible exact wr_bI _ | exact rfl) (by omega) (by decide) rfl (by decide) ?_
    refine j_aload0 (q := 117) dX8_coreNow_116 rfl ?_
    refine j_iload1 (q := 118) dX8_coreNow_117 rfl ?_
    refine j_callV1 (Mc := iX8_isOwed) (q := 121) (c' := 0) (s' := 0) dX8_coreNow_118 rfl kV_X8_isOwed jw_1152 ⟨by decide, by decide⟩ sh_197 rfl rfl rfl (Nat.le_refl _) (Nat.le_refl _) (ct_X8_isOwed E (by omega)) ?_
    refine j_ifeq_b (tgt := 128) (q := 124) dX8_coreNow_121 (by decide) rfl (fun h121 => ?_) (fun h121 => ?_)
    · refine j_iconst (q := 129) dX8_coreNow_128 rfl ?_
      exact j_ireturn dX8_coreNow_129 rfl (by grind [zCN, zTN, zIN, zCnt, zRN, bI]) (rfl)
    · refine j_iconst (q := 125) dX8_coreNow_124 rfl ?_
      refine j_goto (tgt := 129) dX8_coreNow_125 (by decide) ?_
      exact j_ireturn dX8_coreNow_129 rfl (by grind [zCN, zTN, zIN, zCnt, zRN, bI]) (rfl)
  by_cases h1_7 : w = 7
  · refine j_tableIn (x' := w) (tgt := 130) 7 dX8_coreNow_1 (by first | exact wr_id' (by omega) (by omega) | with_reducible exact wr_bI _ | exact rfl) (by omega) (by decide) rfl (by decide) ?_
    refine j_aload0 (q := 131) dX8_coreNow_130 rfl ?_
    refine j_iload1 (q := 132) dX8_coreNow_131 rfl ?_
    refine j_bipush (q := 134) dX8_coreNow_132 rfl rfl ?_
    refine j_callV2 (Mc := iX8_of) (q := 137) (c' := 0) (s' := 0) dX8_coreNow_134 rfl kV_X8_of jw_1079 ⟨by decide, by decide⟩ sh_197 rfl rfl rfl (Nat.le_refl _) (Nat.le_refl _) (ct_X8_of E (by omega) (by omega)) ?_
    refine j_iconst (q := 138) dX8_coreNow_137 rfl ?_
    refine j_isub (q := 139) dX8_coreNow_138 rfl ?_
    exact j_ireturn dX8_coreNow_139 rfl (by grind [zCN, zTN, zIN, zCnt, zRN, bI]) (rfl)
  by_cases h1_8 : w = 8
  · refine j_tableIn (x' := w) (tgt := 52) 8 dX8_coreNow_1 (by first | exact wr_id' (by omega) (by omega) | with_reducible exact wr_bI _ | exact rfl) (by omega) (by decide) rfl (by decide) ?_
    refine j_aload0 (q := 53) dX8_coreNow_52 rfl ?_
    refine j_iload1 (q := 54) dX8_coreNow_53 rfl ?_
    refine j_iload2 (q := 55) dX8_coreNow_54 rfl ?_
    refine j_callV2 (Mc := iX8_of) (q := 58) (c' := 0) (s' := 0) dX8_coreNow_55 rfl kV_X8_of jw_1079 ⟨by decide, by decide⟩ sh_197 rfl rfl rfl (Nat.le_refl _) (Nat.le_refl _) (ct_X8_of E (by omega) (by omega)) ?_
    exact j_ireturn dX8_coreNow_58 rfl (by grind [zCN, zTN, zIN, zCnt, zRN, bI]) (rfl)
  refine j_tableOut (x' := w) (tgt := 130) dX8_coreNow_1 (by first | exact wr_id' (by omega) (by omega) | with_reducible exact wr_bI _ | exact rfl) (by omega) (by decide) ?_
  refine j_aload0 (q := 131) dX8_coreNow_130 rfl ?_
  refine j_iload1 (q := 132) dX8_coreNow_131 rfl ?_
  refine j_bipush (q := 134) dX8_coreNow_132 rfl rfl ?_
  refine j_callV2 (Mc := iX8_of) (q := 137) (c' := 0) (s' := 0) dX8_coreNow_134 rfl kV_X8_of jw_1079 ⟨by decide, by decide⟩ sh_197 rfl rfl rfl (Nat.le_refl _) (Nat.le_refl _) (ct_X8_of E (by omega) (by omega)) ?_
  refine j_iconst (q := 138) dX8_coreNow_137 rfl ?_
  refine j_isub (q := 139) dX8_coreNow_138 rfl ?_
  exact j_ireturn dX8_coreNow_139 rfl (by grind [zCN, zTN, zIN, zCnt, zRN, bI]) (rfl)
theorem ct_X8_tenantNow {G : GX} (E : EV G) {m : Mem} {z : Z} {t : Int} {w : Int} (h1 : 0 ≤ t ∧ t < 6) (h2 : 0 ≤ w ∧ w < 6) (h3 : 0 ≤ z 2 ∧ z 2 ≤ 6) (h4 : 0 ≤ z 3 ∧ z 3 ≤ 3) (h5 : ∀ i, 0 ≤ i → i < 3 → 0 ≤ z (41 + 6 * i + 5) ∧ z (41 + 6 * i + 5) ≤ 512) : CT G SHP iX8_tenantNow 0 0 [.inr (.ref 197), .inl t, .inl w] (sz m z) (some (.inl (zTN z t w))) (sz m z) := by
  refine j_met (L0 := [some (.inr (.ref 197)), some (.inl t), some (.inl w)]) (by decide) E.1 E.2 rfl (Nat.le_of_ble_eq_true rfl) ?_
  refine j_iload2 (q := 1) dX8_tenantNow_0 rfl ?_
  by_cases h1_0 : w = 0
  · refine j_tableIn (x' := w) (tgt := 36) 0 dX8_tenantNow_1 (by first | exact wr_id' (by omega) (by omega) | with_reducible exact wr_bI _ | exact rfl) (by omega) (by decide) rfl (by decide) ?_
    refine j_aload0 (q := 37) dX8_tenantNow_36 rfl ?_
    refine j_iload1 (q := 38) dX8_tenantNow_37 rfl ?_
    refine j_iconst (q := 39) dX8_tenantNow_38 rfl ?_
    refine j_callV2 (Mc := iX8_ofTenant) (q := 42) (c' := 0) (s' := 0) dX8_tenantNow_39 rfl kV_X8_ofTenant jw_1083 ⟨by decide, by decide⟩ sh_197 rfl rfl rfl (Nat.le_refl _) (Nat.le_refl _) (ct_X8_ofTenant E (by omega) (by omega)) ?_
    exact j_ireturn dX8_tenantNow_42 rfl (by grind [zCN, zTN, zIN, zCnt, zRN, bI]) (rfl)
  by_cases h1_1 : w = 1
  · refine j_tableIn (x' := w) (tgt := 43) 1 dX8_tenantNow_1 (by first | exact wr_id' (by omega) (by omega) | with_reducible exact wr_bI _ | exact rfl) (by omega) (by decide) rfl (by decide) ?_
    refine j_aload0 (q := 44) dX8_tenantNow_43 rfl ?_
    refine j_iload1 (q := 45) dX8_tenantNow_44 rfl ?_
    refine j_iconst (q := 46) dX8_tenantNow_45 rfl ?_
    refine j_callV2 (Mc := iX8_coresOf) (q := 49) (c' := 0) (s' := 0) dX8_tenantNow_46 rfl kV_X8_coresOf jw_1268 ⟨by decide, by decide⟩ sh_197 rfl rfl rfl (Nat.le_refl _) (Nat.le_refl _) (ct_X8_coresOf (b := false) E (by omega)) ?_
    exact j_ireturn dX8_tenantNow_49 rfl (by grind [zCN, zTN, zIN, zCnt, zRN, bI]) (rfl)
  by_cases h1_2 : w = 2
  · refine j_tableIn (x' := w) (tgt := 50) 2 dX8_tenantNow_1 (by first | exact wr_id' (by omega) (by omega) | with_reducible exact wr_bI _ | exact rfl) (by omega) (by decide) rfl (by decide) ?_
    refine j_aload0 (q := 51) dX8_tenantNow_50 rfl ?_
    refine j_iload1 (q := 52) dX8_tenantNow_51 rfl ?_
    refine j_iconst (q := 53) dX8_tenantNow_52 rfl ?_
    refine j_callV2 (Mc := iX8_coresOf) (q := 56) (c' := 0) (s' := 0) dX8_tenantNow_53 rfl kV_X8_coresOf jw_1268 ⟨by decide, by decide⟩ sh_197 rfl rfl rfl (Nat.le_refl _) (Nat.le_refl _) (ct_X8_coresOf (b := true) E (by omega)) ?_
    exact j_ireturn dX8_tenantNow_56 rfl (by grind [zCN, zTN, zIN, zCnt, zRN, bI]) (rfl)
  by_cases h1_3 : w = 3
  · refine j_tableIn (x' := w) (tgt := 57) 3 dX8_tenantNow_1 (by first | exact wr_id' (by omega) (by omega) | with_reducible exact wr_bI _ | exact rfl) (by omega) (by decide) rfl (by decide) ?_
    refine j_aload0 (q := 58) dX8_tenantNow_57 rfl ?_
    refine j_iload1 (q := 59) dX8_tenantNow_58 rfl ?_
    refine j_iconst (q := 60) dX8_tenantNow_59 rfl ?_
    refine j_callV2 (Mc := iX8_ofTenant) (q := 63) (c' := 0) (s' := 0) dX8_tenantNow_60 rfl kV_X8_ofTenant jw_1083 ⟨by decide, by decide⟩ sh_197 rfl rfl rfl (Nat.le_refl _) (Nat.le_refl _) (ct_X8_ofTenant E (by omega) (by omega)) ?_
    exact j_ireturn dX8_tenantNow_63 rfl (by grind [zCN, zTN, zIN, zCnt, zRN, bI]) (rfl)
  by_cases h1_4 : w = 4
  · refine j_tableIn (x' := w) (tgt := 64) 4 dX8_tenantNow_1 (by first | exact wr_id' (by omega) (by omega) | with_reducible exact wr_bI _ | exact rfl) (by omega) (by decide) rfl (by decide) ?_
    refine j_aload0 (q := 65) dX8_tenantNow_64 rfl ?_
    refine j_iload1 (q := 66) dX8_tenantNow_65 rfl ?_
    refine j_iconst (q := 67) dX8_tenantNow_66 rfl ?_
    refine j_callV2 (Mc := iX8_ofTenant) (q := 70) (c' := 0) (s' := 0) dX8_tenantNow_67 rfl kV_X8_ofTenant jw_1083 ⟨by decide, by decide⟩ sh_197 rfl rfl rfl (Nat.le_refl _) (Nat.le_refl _) (ct_X8_ofTenant E (by omega) (by omega)) ?_
    exact j_ireturn dX8_tenantNow_70 rfl (by grind [zCN, zTN, zIN, zCnt, zRN, bI]) (rfl)
  refine j_tableOut (x' := w) (tgt := 71) dX8_tenantNow_1 (by first | exact wr_id' (by omega) (by omega) | with_reducible exact wr_bI _ | exact rfl) (by omega) (by decide) ?_
  refine j_aload0 (q := 72) dX8_tenantNow_71 rfl ?_
  refine j_iload1 (q := 73) dX8_tenantNow_72 rfl ?_
  refine j_callV1 (Mc := iX8_waitsOf) (q := 76) (c' := 0) (s' := 0) dX8_tenantNow_73 rfl kV_X8_waitsOf jw_1272 ⟨by decide, by decide⟩ sh_197 rfl rfl rfl (Nat.le_refl _) (Nat.le_refl _) (ct_X8_waitsOf E (by omega) (by omega) (by assumption)) ?_
  exact j_ireturn dX8_tenantNow_76 rfl (by grind [zCN, zTN, zIN, zCnt, zRN, bI]) (rfl)
theorem ct_X8_insurerNow {G : GX} (E : EV G) {m : Mem} {z : Z} {i : Int} {w : Int} (h1 : 0 ≤ i ∧ i < 3) (h2 : 0 ≤ w ∧ w < 7) : CT G SHP iX8_insurerNow 0 0 [.inr (.ref 197), .inl i, .inl w] (sz m z) (some (.inl (zIN z i w))) (sz m z) := by
  refine j_met (L0 := [some (.inr (.ref 197)), some (.inl i), some (.inl w)]) (by decide) E.1 E.2 rfl (Nat.le_of_ble_eq_true rfl) ?_
  refine j_iload2 (q := 1) dX8_insurerNow_0 rfl ?_
  by_cases h1_0 : w = 0
  · refine j_tableIn (x' := w) (tgt := 40) 0 dX8_insurerNow_1 (by first | exact wr_id' (by omega) (by omega) | with_reducible exact wr_bI _ | exact rfl) (by omega) (by decide) rfl (by decide) ?_
    refine j_aload0 (q := 41) dX8_insurerNow_40 rfl ?_
    refine j_iload1 (q := 42) dX8_insurerNow_41 rfl ?_
    refine j_iload2 (q := 43) dX8_insurerNow_42 rfl ?_
    refine j_callV2 (Mc := iX8_ofInsurer) (q := 46) (c' := 0) (s' := 0) dX8_insurerNow_43 rfl kV_X8_ofInsurer jw_1103 ⟨by decide, by decide⟩ sh_197 rfl rfl rfl (Nat.le_refl _) (Nat.le_refl _) (ct_X8_ofInsurer E (by omega) (by omega)) ?_
    exact j_ireturn dX8_insurerNow_46 rfl (by grind [zCN, zTN, zIN, zCnt, zRN, bI]) (rfl)
  by_cases h1_1 : w = 1
  · refine j_tableIn (x' := w) (tgt := 40) 1 dX8_insurerNow_1 (by first | exact wr_id' (by omega) (by omega) | with_reducible exact wr_bI _ | exact rfl) (by omega) (by decide) rfl (by decide) ?_
    refine j_aload0 (q := 41) dX8_insurerNow_40 rfl ?_
    refine j_iload1 (q := 42) dX8_insurerNow_41 rfl ?_
    refine j_iload2 (q := 43) dX8_insurerNow_42 rfl ?_
    refine j_callV2 (Mc := iX8_ofInsurer) (q := 46) (c' := 0) (s' := 0) dX8_insurerNow_43 rfl kV_X8_ofInsurer jw_1103 ⟨by decide, by decide⟩ sh_197 rfl rfl rfl (Nat.le_refl _) (Nat.le_refl _) (ct_X8_ofInsurer E (by omega) (by omega)) ?_
    exact j_ireturn dX8_insurerNow_46 rfl (by grind [zCN, zTN, zIN, zCnt, zRN, bI]) (rfl)
  by_cases h1_2 : w = 2
  · refine j_tableIn (x' := w) (tgt := 40) 2 dX8_insurerNow_1 (by first | exact wr_id' (by omega) (by omega) | with_reducible exact wr_bI _ | exact rfl) (by omega) (by decide) rfl (by decide) ?_
    refine j_aload0 (q := 41) dX8_insurerNow_40 rfl ?_
    refine j_iload1 (q := 42) dX8_insurerNow_41 rfl ?_
    refine j_iload2 (q := 43) dX8_insurerNow_42 rfl ?_
    refine j_callV2 (Mc := iX8_ofInsurer) (q := 46) (c' := 0) (s' := 0) dX8_insurerNow_43 rfl kV_X8_ofInsurer jw_1103 ⟨by decide, by decide⟩ sh_197 rfl rfl rfl (Nat.le_refl _) (Nat.le_refl _) (ct_X8_ofInsurer E (by omega) (by omega)) ?_
    exact j_ireturn dX8_insurerNow_46 rfl (by grind [zCN, zTN, zIN, zCnt, zRN, bI]) (rfl)
  by_cases h1_3 : w = 3
  · refine j_tableIn (x' := w) (tgt := 47) 3 dX8_insurerNow_1 (by first | exact wr_id' (by omega) (by omega) | with_reducible exact wr_bI _ | exact rfl) (by omega) (by decide) rfl (by decide) ?_
    refine j_aload0 (q := 48) dX8_insurerNow_47 rfl ?_
    refine j_iload1 (q := 49) dX8_insurerNow_48 rfl ?_
    refine j_callV1 (Mc := iX8_policiesOf) (q := 52) (c' := 0) (s' := 0) dX8_insurerNow_49 rfl kV_X8_policiesOf jw_1284 ⟨by decide, by decide⟩ sh_197 rfl rfl rfl (Nat.le_refl _) (Nat.le_refl _) (ct_X8_policiesOf E (by omega)) ?_
    exact j_ireturn dX8_insurerNow_52 rfl (by grind [zCN, zTN, zIN, zCnt, zRN, bI]) (rfl)
  by_cases h1_4 : w = 4
  · refine j_tableIn (x' := w) (tgt := 53) 4 dX8_insurerNow_1 (by first | exact wr_id' (by omega) (by omega) | with_reducible exact wr_bI _ | exact rfl) (by omega) (by decide) rfl (by decide) ?_
    refine j_aload0 (q := 54) dX8_insurerNow_53 rfl ?_
    refine j_iload1 (q := 55) dX8_insurerNow_54 rfl ?_
    refine j_iconst (q := 56) dX8_insurerNow_55 rfl ?_
    refine j_callV2 (Mc := iX8_ofInsurer) (q := 59) (c' := 0) (s' := 0) dX8_insurerNow_56 rfl kV_X8_ofInsurer jw_1103 ⟨by decide, by decide⟩ sh_197 rfl rfl rfl (Nat.le_refl _) (Nat.le_refl _) (ct_X8_ofInsurer E (by omega) (by omega)) ?_
    exact j_ireturn dX8_insurerNow_59 rfl (by grind [zCN, zTN, zIN, zCnt, zRN, bI]) (rfl)
  by_cases h1_5 : w = 5
  · refine j_tableIn (x' := w) (tgt := 60) 5 dX8_insurerNow_1 (by first | exact wr_id' (by omega) (by omega) | with_reducible exact wr_bI _ | exact rfl) (by omega) (by decide) rfl (by decide) ?_
    refine j_aload0 (q := 61) dX8_insurerNow_60 rfl ?_
    refine j_iload1 (q := 62) dX8_insurerNow_61 rfl ?_
    refine j_iconst (q := 63) dX8_insurerNow_62 rfl ?_
    refine j_callV2 (Mc := iX8_ofInsurer) (q := 66) (c' := 0) (s' := 0) dX8_insurerNow_63 rfl kV_X8_ofInsurer jw_1103 ⟨by decide, by decide⟩ sh_197 rfl rfl rfl (Nat.le_refl _) (Nat.le_refl _) (ct_X8_ofInsurer E (by omega) (by omega)) ?_
    exact j_ireturn dX8_insurerNow_66 rfl (by grind [zCN, zTN, zIN, zCnt, zRN, bI]) (rfl)
  refine j_tableOut (x' := w) (tgt := 67) dX8_insurerNow_1 (by first | exact wr_id' (by omega) (by omega) | with_reducible exact wr_bI _ | exact rfl) (by omega) (by decide) ?_
  refine j_aload0 (q := 68) dX8_insurerNow_67 rfl ?_
  refine j_iload1 (q := 69) dX8_insurerNow_68 rfl ?_
  refine j_iconst (q := 70) dX8_insurerNow_69 rfl ?_
  refine j_callV2 (Mc := iX8_ofInsurer) (q := 73) (c' := 0) (s' := 0) dX8_insurerNow_70 rfl kV_X8_ofInsurer jw_1103 ⟨by decide, by decide⟩ sh_197 rfl rfl rfl (Nat.le_refl _) (Nat.le_refl _) (ct_X8_ofInsurer E (by omega) (by omega)) ?_
  exact j_ireturn dX8_insurerNow_73 rfl (by grind [zCN, zTN, zIN, zCnt, zRN, bI]) (rfl)
theorem ct_X8_counted {G : GX} (E : EV G) {m : Mem} {z : Z} {w : Int} (h2 : 0 ≤ w ∧ w < 19) : CT G SHP iX8_counted 0 0 [.inr (.ref 197), .inl w] (sz m z) (some (.inl (zCnt z (m 197 10) w))) (sz m z) := by
  refine j_met (L0 := [some (.inr (.ref 197)), some (.inl w)]) (by decide) E.1 E.2 rfl (Nat.le_of_ble_eq_true rfl) ?_
  refine j_iload1 (q := 1) dX8_counted_0 rfl ?_
  by_cases h1_0 : w = 4
  · refine j_tableIn (x' := w) (tgt := 76) 0 dX8_counted_1 (by first | exact wr_id' (by omega) (by omega) | with_reducible exact wr_bI _ | exact rfl) (by omega) (by decide) rfl (by decide) ?_
    refine j_aload0 (q := 77) dX8_counted_76 rfl ?_
    refine j_iconst (q := 78) dX8_counted_77 rfl ?_
    refine j_callV1 (Mc := iX8_coresWith) (q := 81) (c' := 0) (s' := 0) dX8_counted_78 rfl kV_X8_coresWith jw_1308 ⟨by decide, by decide⟩ sh_197 rfl rfl rfl (Nat.le_refl _) (Nat.le_refl _) (ct_X8_coresWith E (by omega)) ?_
    exact j_ireturn dX8_counted_81 rfl (by grind [zCN, zTN, zIN, zCnt, zRN, bI]) (rfl)
  by_cases h1_1 : w = 5
  · refine j_tableIn (x' := w) (tgt := 82) 1 dX8_counted_1 (by first | exact wr_id' (by omega) (by omega) | with_reducible exact wr_bI _ | exact rfl) (by omega) (by decide) rfl (by decide) ?_
    refine j_aload0 (q := 83) dX8_counted_82 rfl ?_
    refine j_iconst (q := 84) dX8_counted_83 rfl ?_
    refine j_callV1 (Mc := iX8_coresWith) (q := 87) (c' := 0) (s' := 0) dX8_counted_84 rfl kV_X8_coresWith jw_1308 ⟨by decide, by decide⟩ sh_197 rfl rfl rfl (Nat.le_refl _) (Nat.le_refl _) (ct_X8_coresWith E (by omega)) ?_
    exact j_ireturn dX8_counted_87 rfl (by grind [zCN, zTN, zIN, zCnt, zRN, bI]) (rfl)
  by_cases h1_2 : w = 6
  · refine j_tableIn (x' := w) (tgt := 88) 2 dX8_counted_1 (by first | exact wr_id' (by omega) (by omega) | with_reducible exact wr_bI _ | exact rfl) (by omega) (by decide) rfl (by decide) ?_
    refine j_aload0 (q := 89) dX8_counted_88 rfl ?_
    refine j_callV0 (Mc := iX8_owedMany) (q := 92) (c' := 0) (s' := 0) dX8_counted_89 rfl kV_X8_owedMany jw_1172 ⟨by decide, by decide⟩ sh_197 rfl rfl rfl (Nat.le_refl _) (Nat.le_refl _) (ct_X8_owedMany E) ?_
    exact j_ireturn dX8_counted_92 rfl (by grind [zCN, zTN, zIN, zCnt, zRN, bI]) (rfl)
  by_cases h1_3 : w = 7
  · refine j_tableIn (x' := w) (tgt := 93) 3 dX8_counted_1 (by first | exact wr_id' (by omega) (by omega) | with_reducible exact wr_bI _ | exact rfl) (by omega) (by decide) rfl (by decide) ?_
    refine j_aload0 (q := 94) dX8_counted_93 rfl ?_
    refine j_iconst (q := 95) dX8_counted_94 rfl ?_
    refine j_callV1 (Mc := iX8_coresWith) (q := 98) (c' := 0) (s' := 0) dX8_counted_95 rfl kV_X8_coresWith jw_1308 ⟨by decide, by decide⟩ sh_197 rfl rfl rfl (Nat.le_refl _) (Nat.le_refl _) (ct_X8_coresWith E (by omega)) ?_
    exact j_ireturn dX8_counted_98 rfl (by grind [zCN, zTN, zIN, zCnt, zRN, bI]) (rfl)
  by_cases h1_4 : w = 8
  · refine j_tableIn (x' := w) (tgt := 104) 4 dX8_counted_1 (by first | exact wr_id' (by omega) (by omega) | with_reducible exact wr_bI _ | exact rfl) (by omega) (by decide) rfl (by decide) ?_
    refine j_iload1 (q := 105) dX8_counted_104 rfl ?_
    refine j_iconst (q := 106) dX8_counted_105 rfl ?_
    refine j_icmp_ge (tgt := 118) (q := 109) dX8_counted_106 (by decide) rfl (by first | exact wr_id' (by omega) (by omega) | with_reducible exact wr_bI _ | exact rfl) (by first | exact wr_id' (by omega) (by omega) | with_reducible exact wr_bI _ | exact rfl) (fun h106 => ?_) (fun h106 => ?_)
    · refine j_aload0 (q := 119) dX8_counted_118 rfl ?_
      refine j_getR 0 (q := 122) dX8_counted_119 rfl fl_X8_7 sh_197 rfl ?_
      refine j_iload1 (q := 123) dX8_counted_122 rfl ?_
      refine j_iconst (q := 124) dX8_counted_123 rfl ?_
      refine j_isub (q := 125) dX8_counted_124 rfl ?_
      refine j_zload (q := 126) dX8_counted_125 rfl (by first | exact wr_id' (by omega) (by omega) | with_reducible exact wr_bI _ | exact rfl) (by omega) (by omega) ?_
      exact j_ireturn dX8_counted_126 rfl (by grind [zCN, zTN, zIN, zCnt, zRN, bI]) (rfl)
    · refine j_aload0 (q := 110) dX8_counted_109 rfl ?_
      refine j_getR 0 (q := 113) dX8_counted_110 rfl fl_X8_7 sh_197 rfl ?_
      refine j_iload1 (q := 114) dX8_counted_113 rfl ?_
      refine j_zload (q := 115) dX8_counted_114 rfl (by first | exact wr_id' (by omega) (by omega) | with_reducible exact wr_bI _ | exact rfl) (by omega) (by omega) ?_
      refine j_goto (tgt := 126) dX8_counted_115 (by decide) ?_
      exact j_ireturn dX8_counted_126 rfl (by grind [zCN, zTN, zIN, zCnt, zRN, bI]) (rfl)
  by_cases h1_5 : w = 9
  · refine j_tableIn (x' := w) (tgt := 104) 5 dX8_counted_1 (by first | exact wr_id' (by omega) (by omega) | with_reducible exact wr_bI _ | exact rfl) (by omega) (by decide) rfl (by decide) ?_
    refine j_iload1 (q := 105) dX8_counted_104 rfl ?_
    refine j_iconst (q := 106) dX8_counted_105 rfl ?_
    refine j_icmp_ge (tgt := 118) (q := 109) dX8_counted_106 (by decide) rfl (by first | exact wr_id' (by omega) (by omega) | with_reducible exact wr_bI _ | exact rfl) (by first | exact wr_id' (by omega) (by omega) | with_reducible exact wr_bI _ | exact rfl) (fun h106 => ?_) (fun h106 => ?_)
    · refine j_aload0 (q := 119) dX8_counted_118 rfl ?_
      refine j_getR 0 (q := 122) dX8_counted_119 rfl fl_X8_7 sh_197 rfl ?_
      refine j_iload1 (q := 123) dX8_counted_122 rfl ?_
      refine j_iconst (q := 124) dX8_counted_123 rfl ?_
      refine j_isub (q := 125) dX8_counted_124 rfl ?_
      refine j_zload (q := 126) dX8_counted_125 rfl (by first | exact wr_id' (by omega) (by omega) | with_reducible exact wr_bI _ | exact rfl) (by omega) (by omega) ?_
      exact j_ireturn dX8_counted_126 rfl (by grind [zCN, zTN, zIN, zCnt, zRN, bI]) (rfl)
    · refine j_aload0 (q := 110) dX8_counted_109 rfl ?_
      refine j_getR 0 (q := 113) dX8_counted_110 rfl fl_X8_7 sh_197 rfl ?_
      refine j_iload1 (q := 114) dX8_counted_113 rfl ?_
      refine j_zload (q := 115) dX8_counted_114 rfl (by first | exact wr_id' (by omega) (by omega) | with_reducible exact wr_bI _ | exact rfl) (by omega) (by omega) ?_
      refine j_goto (tgt := 126) dX8_counted_115 (by decide) ?_
      exact j_ireturn dX8_counted_126 rfl (by grind [zCN, zTN, zIN, zCnt, zRN, bI]) (rfl)
  by_cases h1_6 : w = 10
  · refine j_tableIn (x' := w) (tgt := 104) 6 dX8_counted_1 (by first | exact wr_id' (by omega) (by omega) | with_reducible exact wr_bI _ | exact rfl) (by omega) (by decide) rfl (by decide) ?_
    refine j_iload1 (q := 105) dX8_counted_104 rfl ?_
    refine j_iconst (q := 106) dX8_counted_105 rfl ?_
    refine j_icmp_ge (tgt := 118) (q := 109) dX8_counted_106 (by decide) rfl (by first | exact wr_id' (by omega) (by omega) | with_reducible exact wr_bI _ | exact rfl) (by first | exact wr_id' (by omega) (by omega) | with_reducible exact wr_bI _ | exact rfl) (fun h106 => ?_) (fun h106 => ?_)
    · refine j_aload0 (q := 119) dX8_counted_118 rfl ?_
      refine j_getR 0 (q := 122) dX8_counted_119 rfl fl_X8_7 sh_197 rfl ?_
      refine j_iload1 (q := 123) dX8_counted_122 rfl ?_
      refine j_iconst (q := 124) dX8_counted_123 rfl ?_
      refine j_isub (q := 125) dX8_counted_124 rfl ?_
      refine j_zload (q := 126) dX8_counted_125 rfl (by first | exact wr_id' (by omega) (by omega) | with_reducible exact wr_bI _ | exact rfl) (by omega) (by omega) ?_
      exact j_ireturn dX8_counted_126 rfl (by grind [zCN, zTN, zIN, zCnt, zRN, bI]) (rfl)
    · refine j_aload0 (q := 110) dX8_counted_109 rfl ?_
      refine j_getR 0 (q := 113) dX8_counted_110 rfl fl_X8_7 sh_197 rfl ?_
      refine j_iload1 (q := 114) dX8_counted_113 rfl ?_
      refine j_zload (q := 115) dX8_counted_114 rfl (by first | exact wr_id' (by omega) (by omega) | with_reducible exact wr_bI _ | exact rfl) (by omega) (by omega) ?_
      refine j_goto (tgt := 126) dX8_counted_115 (by decide) ?_
      exact j_ireturn dX8_counted_126 rfl (by grind [zCN, zTN, zIN, zCnt, zRN, bI]) (rfl)
  by_cases h1_7 : w = 11
  · refine j_tableIn (x' := w) (tgt := 104) 7 dX8_counted_1 (by first | exact wr_id' (by omega) (by omega) | with_reducible exact wr_bI _ | exact rfl) (by omega) (by decide) rfl (by decide) ?_
    refine j_iload1 (q := 105) dX8_counted_104 rfl ?_
    refine j_iconst (q := 106) dX8_counted_105 rfl ?_
    refine j_icmp_ge (tgt := 118) (q := 109) dX8_counted_106 (by decide) rfl (by first | exact wr_id' (by omega) (by omega) | with_reducible exact wr_bI _ | exact rfl) (by first | exact wr_id' (by omega) (by omega) | with_reducible exact wr_bI _ | exact rfl) (fun h106 => ?_) (fun h106 => ?_)
    · refine j_aload0 (q := 119) dX8_counted_118 rfl ?_
      refine j_getR 0 (q := 122) dX8_counted_119 rfl fl_X8_7 sh_197 rfl ?_
      refine j_iload1 (q := 123) dX8_counted_122 rfl ?_
      refine j_iconst (q := 124) dX8_counted_123 rfl ?_
      refine j_isub (q := 125) dX8_counted_124 rfl ?_
      refine j_zload (q := 126) dX8_counted_125 rfl (by first | exact wr_id' (by omega) (by omega) | with_reducible exact wr_bI _ | exact rfl) (by omega) (by omega) ?_
      exact j_ireturn dX8_counted_126 rfl (by grind [zCN, zTN, zIN, zCnt, zRN, bI]) (rfl)
    · refine j_aload0 (q := 110) dX8_counted_109 rfl ?_
      refine j_getR 0 (q := 113) dX8_counted_110 rfl fl_X8_7 sh_197 rfl ?_
      refine j_iload1 (q := 114) dX8_counted_113 rfl ?_
      refine j_zload (q := 115) dX8_counted_114 rfl (by first | exact wr_id' (by omega) (by omega) | with_reducible exact wr_bI _ | exact rfl) (by omega) (by omega) ?_
      refine j_goto (tgt := 126) dX8_counted_115 (by decide) ?_
      exact j_ireturn dX8_counted_126 rfl (by grind [zCN, zTN, zIN, zCnt, zRN, bI]) (rfl)
  by_cases h1_8 : w = 12
  · refine j_tableIn (x' := w) (tgt := 104) 8 dX8_counted_1 (by first | exact wr_id' (by omega) (by omega) | with_reducible exact wr_bI _ | exact rfl) (by omega) (by decide) rfl (by decide) ?_
    refine j_iload1 (q := 105) dX8_counted_104 rfl ?_
    refine j_iconst (q := 106) dX8_counted_105 rfl ?_
    refine j_icmp_ge (tgt := 118) (q := 109) dX8_counted_106 (by decide) rfl (by first | exact wr_id' (by omega) (by omega) | with_reducible exact wr_bI _ | exact rfl) (by first | exact wr_id' (by omega) (by omega) | with_reducible exact wr_bI _ | exact rfl) (fun h106 => ?_) (fun h106 => ?_)
    · refine j_aload0 (q := 119) dX8_counted_118 rfl ?_
      refine j_getR 0 (q := 122) dX8_counted_119 rfl fl_X8_7 sh_197 rfl ?_
      refine j_iload1 (q := 123) dX8_counted_122 rfl ?_
      refine j_iconst (q := 124) dX8_counted_123 rfl ?_
      refine j_isub (q := 125) dX8_counted_124 rfl ?_
      refine j_zload (q := 126) dX8_counted_125 rfl (by first | exact wr_id' (by omega) (by omega) | with_reducible exact wr_bI _ | exact rfl) (by omega) (by omega) ?_
      exact j_ireturn dX8_counted_126 rfl (by grind [zCN, zTN, zIN, zCnt, zRN, bI]) (rfl)
    · refine j_aload0 (q := 110) dX8_counted_109 rfl ?_
      refine j_getR 0 (q := 113) dX8_counted_110 rfl fl_X8_7 sh_197 rfl ?_
      refine j_iload1 (q := 114) dX8_counted_113 rfl ?_
      refine j_zload (q := 115) dX8_counted_114 rfl (by first | exact wr_id' (by omega) (by omega) | with_reducible exact wr_bI _ | exact rfl) (by omega) (by omega) ?_
      refine j_goto (tgt := 126) dX8_counted_115 (by decide) ?_
      exact j_ireturn dX8_counted_126 rfl (by grind [zCN, zTN, zIN, zCnt, zRN, bI]) (rfl)
  by_cases h1_9 : w = 13
  · refine j_tableIn (x' := w) (tgt := 104) 9 dX8_counted_1 (by first | exact wr_id' (by omega) (by omega) | with_reducible exact wr_bI _ | exact rfl) (by omega) (by decide) rfl (by decide) ?_
    refine j_iload1 (q := 105) dX8_counted_104 rfl ?_
    refine j_iconst (q := 106) dX8_counted_105 rfl ?_
    refine j_icmp_ge (tgt := 118) (q := 109) dX8_counted_106 (by decide) rfl (by first | exact wr_id' (by omega) (by omega) | with_reducible exact wr_bI _ | exact rfl) (by first | exact wr_id' (by omega) (by omega) | with_reducible exact wr_bI _ | exact rfl) (fun h106 => ?_) (fun h106 => ?_)
    · refine j_aload0 (q := 119) dX8_counted_118 rfl ?_
      refine j_getR 0 (q := 122) dX8_counted_119 rfl fl_X8_7 sh_197 rfl ?_
      refine j_iload1 (q := 123) dX8_counted_122 rfl ?_
      refine j_iconst (q := 124) dX8_counted_123 rfl ?_
      refine j_isub (q := 125) dX8_counted_124 rfl ?_
      refine j_zload (q := 126) dX8_counted_125 rfl (by first | exact wr_id' (by omega) (by omega) | with_reducible exact wr_bI _ | exact rfl) (by omega) (by omega) ?_
      exact j_ireturn dX8_counted_126 rfl (by grind [zCN, zTN, zIN, zCnt, zRN, bI]) (rfl)
    · refine j_aload0 (q := 110) dX8_counted_109 rfl ?_
      refine j_getR 0 (q := 113) dX8_counted_110 rfl fl_X8_7 sh_197 rfl ?_
      refine j_iload1 (q := 114) dX8_counted_113 rfl ?_
      refine j_zload (q := 115) dX8_counted_114 rfl (by first | exact wr_id' (by omega) (by omega) | with_reducible exact wr_bI _ | exact rfl) (by omega) (by omega) ?_
      refine j_goto (tgt := 126) dX8_counted_115 (by decide) ?_
      exact j_ireturn dX8_counted_126 rfl (by grind [zCN, zTN, zIN, zCnt, zRN, bI]) (rfl)
  by_cases h1_10 : w = 14
  · refine j_tableIn (x' := w) (tgt := 104) 10 dX8_counted_1 (by first | exact wr_id' (by omega) (by omega) | with_reducible exact wr_bI _ | exact rfl) (by omega) (by decide) rfl (by decide) ?_
    refine j_iload1 (q := 105) dX8_counted_104 rfl ?_
    refine j_iconst (q := 106) dX8_counted_105 rfl ?_
    refine j_icmp_ge (tgt := 118) (q := 109) dX8_counted_106 (by decide) rfl (by first | exact wr_id' (by omega) (by omega) | with_reducible exact wr_bI _ | exact rfl) (by first | exact wr_id' (by omega) (by omega) | with_reducible exact wr_bI _ | exact rfl) (fun h106 => ?_) (fun h106 => ?_)
    · refine j_aload0 (q := 119) dX8_counted_118 rfl ?_
      refine j_getR 0 (q := 122) dX8_counted_119 rfl fl_X8_7 sh_197 rfl ?_
      refine j_iload1 (q := 123) dX8_counted_122 rfl ?_
      refine j_iconst (q := 124) dX8_counted_123 rfl ?_
      refine j_isub (q := 125) dX8_counted_124 rfl ?_
      refine j_zload (q := 126) dX8_counted_125 rfl (by first | exact wr_id' (by omega) (by omega) | with_reducible exact wr_bI _ | exact rfl) (by omega) (by omega) ?_
      exact j_ireturn dX8_counted_126 rfl (by grind [zCN, zTN, zIN, zCnt, zRN, bI]) (rfl)
    · refine j_aload0 (q := 110) dX8_counted_109 rfl ?_
      refine j_getR 0 (q := 113) dX8_counted_110 rfl fl_X8_7 sh_197 rfl ?_
      refine j_iload1 (q := 114) dX8_counted_113 rfl ?_
      refine j_zload (q := 115) dX8_counted_114 rfl (by first | exact wr_id' (by omega) (by omega) | with_reducible exact wr_bI _ | exact rfl) (by omega) (by omega) ?_
      refine j_goto (tgt := 126) dX8_counted_115 (by decide) ?_
      exact j_ireturn dX8_counted_126 rfl (by grind [zCN, zTN, zIN, zCnt, zRN, bI]) (rfl)
  by_cases h1_11 : w = 15
  · refine j_tableIn (x' := w) (tgt := 104) 11 dX8_counted_1 (by first | exact wr_id' (by omega) (by omega) | with_reducible exact wr_bI _ | exact rfl) (by omega) (by decide) rfl (by decide) ?_
    refine j_iload1 (q := 105) dX8_counted_104 rfl ?_
    refine j_iconst (q := 106) dX8_counted_105 rfl ?_
    refine j_icmp_ge (tgt := 118) (q := 109) dX8_counted_106 (by decide) rfl (by first | exact wr_id' (by omega) (by omega) | with_reducible exact wr_bI _ | exact rfl) (by first | exact wr_id' (by omega) (by omega) | with_reducible exact wr_bI _ | exact rfl) (fun h106 => ?_) (fun h106 => ?_)
    · refine j_aload0 (q := 119) dX8_counted_118 rfl ?_
      refine j_getR 0 (q := 122) dX8_counted_119 rfl fl_X8_7 sh_197 rfl ?_
      refine j_iload1 (q := 123) dX8_counted_122 rfl ?_
      refine j_iconst (q := 124) dX8_counted_123 rfl ?_
      refine j_isub (q := 125) dX8_counted_124 rfl ?_
      refine j_zload (q := 126) dX8_counted_125 rfl (by first | exact wr_id' (by omega) (by omega) | with_reducible exact wr_bI _ | exact rfl) (by omega) (by omega) ?_
      exact j_ireturn dX8_counted_126 rfl (by grind [zCN, zTN, zIN, zCnt, zRN, bI]) (rfl)
    · refine j_aload0 (q := 110) dX8_counted_109 rfl ?_
      refine j_getR 0 (q := 113) dX8_counted_110 rfl fl_X8_7 sh_197 rfl ?_
      refine j_iload1 (q := 114) dX8_counted_113 rfl ?_
      refine j_zload (q := 115) dX8_counted_114 rfl (by first | exact wr_id' (by omega) (by omega) | with_reducible exact wr_bI _ | exact rfl) (by omega) (by omega) ?_
      refine j_goto (tgt := 126) dX8_counted_115 (by decide) ?_
      exact j_ireturn dX8_counted_126 rfl (by grind [zCN, zTN, zIN, zCnt, zRN, bI]) (rfl)
  by_cases h1_12 : w = 16
  · refine j_tableIn (x' := w) (tgt := 104) 12 dX8_counted_1 (by first | exact wr_id' (by omega) (by omega) | with_reducible exact wr_bI _ | exact rfl) (by omega) (by decide) rfl (by decide) ?_
    refine j_iload1 (q := 105) dX8_counted_104 rfl ?_
    refine j_iconst (q := 106) dX8_counted_105 rfl ?_
    refine j_icmp_ge (tgt := 118) (q := 109) dX8_counted_106 (by decide) rfl (by first | exact wr_id' (by omega) (by omega) | with_reducible exact wr_bI _ | exact rfl) (by first | exact wr_id' (by omega) (by omega) | with_reducible exact wr_bI _ | exact rfl) (fun h106 => ?_) (fun h106 => ?_)
    · refine j_aload0 (q := 119) dX8_counted_118 rfl ?_
      refine j_getR 0 (q := 122) dX8_counted_119 rfl fl_X8_7 sh_197 rfl ?_
      refine j_iload1 (q := 123) dX8_counted_122 rfl ?_
      refine j_iconst (q := 124) dX8_counted_123 rfl ?_
      refine j_isub (q := 125) dX8_counted_124 rfl ?_
      refine j_zload (q := 126) dX8_counted_125 rfl (by first | exact wr_id' (by omega) (by omega) | with_reducible exact wr_bI _ | exact rfl) (by omega) (by omega) ?_
      exact j_ireturn dX8_counted_126 rfl (by grind [zCN, zTN, zIN, zCnt, zRN, bI]) (rfl)
    · refine j_aload0 (q := 110) dX8_counted_109 rfl ?_
      refine j_getR 0 (q := 113) dX8_counted_110 rfl fl_X8_7 sh_197 rfl ?_
      refine j_iload1 (q := 114) dX8_counted_113 rfl ?_
      refine j_zload (q := 115) dX8_counted_114 rfl (by first | exact wr_id' (by omega) (by omega) | with_reducible exact wr_bI _ | exact rfl) (by omega) (by omega) ?_
      refine j_goto (tgt := 126) dX8_counted_115 (by decide) ?_
      exact j_ireturn dX8_counted_126 rfl (by grind [zCN, zTN, zIN, zCnt, zRN, bI]) (rfl)
  by_cases h1_13 : w = 17
  · refine j_tableIn (x' := w) (tgt := 104) 13 dX8_counted_1 (by first | exact wr_id' (by omega) (by omega) | with_reducible exact wr_bI _ | exact rfl) (by omega) (by decide) rfl (by decide) ?_
    refine j_iload1 (q := 105) dX8_counted_104 rfl ?_
    refine j_iconst (q := 106) dX8_counted_105 rfl ?_
    refine j_icmp_ge (tgt := 118) (q := 109) dX8_counted_106 (by decide) rfl (by first | exact wr_id' (by omega) (by omega) | with_reducible exact wr_bI _ | exact rfl) (by first | exact wr_id' (by omega) (by omega) | with_reducible exact wr_bI _ | exact rfl) (fun h106 => ?_) (fun h106 => ?_)
    · refine j_aload0 (q := 119) dX8_counted_118 rfl ?_
      refine j_getR 0 (q := 122) dX8_counted_119 rfl fl_X8_7 sh_197 rfl ?_
      refine j_iload1 (q := 123) dX8_counted_122 rfl ?_
      refine j_iconst (q := 124) dX8_counted_123 rfl ?_
      refine j_isub (q := 125) dX8_counted_124 rfl ?_
      refine j_zload (q := 126) dX8_counted_125 rfl (by first | exact wr_id' (by omega) (by omega) | with_reducible exact wr_bI _ | exact rfl) (by omega) (by omega) ?_
      exact j_ireturn dX8_counted_126 rfl (by grind [zCN, zTN, zIN, zCnt, zRN, bI]) (rfl)
    · refine j_aload0 (q := 110) dX8_counted_109 rfl ?_
      refine j_getR 0 (q := 113) dX8_counted_110 rfl fl_X8_7 sh_197 rfl ?_
      refine j_iload1 (q := 114) dX8_counted_113 rfl ?_
      refine j_zload (q := 115) dX8_counted_114 rfl (by first | exact wr_id' (by omega) (by omega) | with_reducible exact wr_bI _ | exact rfl) (by omega) (by omega) ?_
      refine j_goto (tgt := 126) dX8_counted_115 (by decide) ?_
      exact j_ireturn dX8_counted_126 rfl (by grind [zCN, zTN, zIN, zCnt, zRN, bI]) (rfl)
  by_cases h1_14 : w = 18
  · refine j_tableIn (x' := w) (tgt := 99) 14 dX8_counted_1 (by first | exact wr_id' (by omega) (by omega) | with_reducible exact wr_bI _ | exact rfl) (by omega) (by decide) rfl (by decide) ?_
    refine j_aload0 (q := 100) dX8_counted_99 rfl ?_
    refine j_ngetI (by decide) 10 (j' := 10) (q := 103) dX8_counted_100 rfl fl_X8_46 sh_197 rfl rfl ?_
    exact j_ireturn dX8_counted_103 rfl (by grind [zCN, zTN, zIN, zCnt, zRN, bI]) (rfl)
  refine j_tableOut (x' := w) (tgt := 104) dX8_counted_1 (by first | exact wr_id' (by omega) (by omega) | with_reducible exact wr_bI _ | exact rfl) (by omega) (by decide) ?_
  refine j_iload1 (q := 105) dX8_counted_104 rfl ?_
  refine j_iconst (q := 106) dX8_counted_105 rfl ?_
  refine j_icmp_ge (tgt := 118) (q := 109) dX8_counted_106 (by decide) rfl (by first | exact wr_id' (by omega) (by omega) | with_reducible exact wr_bI _ | exact rfl) (by first | exact wr_id' (by omega) (by omega) | with_reducible exact wr_bI _ | exact rfl) (fun h106 => ?_) (fun h106 => ?_)
  · refine j_aload0 (q := 119) dX8_counted_118 rfl ?_
    refine j_getR 0 (q := 122) dX8_counted_119 rfl fl_X8_7 sh_197 rfl ?_
    refine j_iload1 (q := 123) dX8_counted_122 rfl ?_
    refine j_iconst (q := 124) dX8_counted_123 rfl ?_
    refine j_isub (q := 125) dX8_counted_124 rfl ?_
    refine j_zload (q := 126) dX8_counted_125 rfl (by first | exact wr_id' (by omega) (by omega) | with_reducible exact wr_bI _ | exact rfl) (by omega) (by omega) ?_
    exact j_ireturn dX8_counted_126 rfl (by grind [zCN, zTN, zIN, zCnt, zRN, bI]) (rfl)
  · refine j_aload0 (q := 110) dX8_counted_109 rfl ?_
    refine j_getR 0 (q := 113) dX8_counted_110 rfl fl_X8_7 sh_197 rfl ?_
    refine j_iload1 (q := 114) dX8_counted_113 rfl ?_
    refine j_zload (q := 115) dX8_counted_114 rfl (by first | exact wr_id' (by omega) (by omega) | with_reducible exact wr_bI _ | exact rfl) (by omega) (by omega) ?_
    refine j_goto (tgt := 126) dX8_counted_115 (by decide) ?_
    exact j_ireturn dX8_counted_126 rfl (by grind [zCN, zTN, zIN, zCnt, zRN, bI]) (rfl)
theorem ct_X8_readNow {G : GX} (E : EV G) {m : Mem} {z : Z} {c : Int} {w : Int} (h1 : 0 ≤ c ∧ c < 64) (h2 : 0 ≤ w ∧ w < 5) : CT G SHP iX8_readNow 0 0 [.inr (.ref 197), .inl c, .inl w] (sz m z) (some (.inl (zRN z c w))) (sz m z) := by
  refine j_met (L0 := [some (.inr (.ref 197)), some (.inl c), some (.inl w)]) (by decide) E.1 E.2 rfl (Nat.le_of_ble_eq_true rfl) ?_
  refine j_iload2 (q := 1) dX8_readNow_0 rfl ?_
  by_cases h1_0 : w = 0
  · refine j_tableIn (x' := w) (tgt := 32) 0 dX8_readNow_1 (by first | exact wr_id' (by omega) (by omega) | with_reducible exact wr_bI _ | exact rfl) (by omega) (by decide) rfl (by decide) ?_
    refine j_aload0 (q := 33) dX8_readNow_32 rfl ?_
    refine j_iload1 (q := 34) dX8_readNow_33 rfl ?_
    refine j_iconst (q := 35) dX8_readNow_34 rfl ?_
    refine j_callV2 (Mc := iX8_of) (q := 38) (c' := 0) (s' := 0) dX8_readNow_35 rfl kV_X8_of jw_1079 ⟨by decide, by decide⟩ sh_197 rfl rfl rfl (Nat.le_refl _) (Nat.le_refl _) (ct_X8_of E (by omega) (by omega)) ?_
    exact j_ireturn dX8_readNow_38 rfl (by grind [zCN, zTN, zIN, zCnt, zRN, bI]) (rfl)
  by_cases h1_1 : w = 1
  · refine j_tableIn (x' := w) (tgt := 39) 1 dX8_readNow_1 (by first | exact wr_id' (by omega) (by omega) | with_reducible exact wr_bI _ | exact rfl) (by omega) (by decide) rfl (by decide) ?_
    refine j_aload0 (q := 40) dX8_readNow_39 rfl ?_
    refine j_iload1 (q := 41) dX8_readNow_40 rfl ?_
    refine j_iconst (q := 42) dX8_readNow_41 rfl ?_
    refine j_callV2 (Mc := iX8_disturbs) (q := 45) (c' := 0) (s' := 0) dX8_readNow_42 rfl kV_X8_disturbs jw_1344 ⟨by decide, by decide⟩ sh_197 rfl rfl rfl (Nat.le_refl _) (Nat.le_refl _) (ct_X8_disturbs E (by omega) (by omega)) ?_
    exact j_ireturn dX8_readNow_45 rfl (by grind [zCN, zTN, zIN, zCnt, zRN, bI]) (rfl)
  by_cases h1_2 : w = 2
  · refine j_tableIn (x' := w) (tgt := 46) 2 dX8_readNow_1 (by first | exact wr_id' (by omega) (by omega) | with_reducible exact wr_bI _ | exact rfl) (by omega) (by decide) rfl (by decide) ?_
    refine j_aload0 (q := 47) dX8_readNow_46 rfl ?_
    refine j_aload0 (q := 48) dX8_readNow_47 rfl ?_
    refine j_iconst (q := 49) dX8_readNow_48 rfl ?_
    refine j_callV1 (Mc := iX8_rule) (q := 52) (c' := 0) (s' := 0) dX8_readNow_49 rfl kV_X8_rule jw_1057 ⟨by decide, by decide⟩ sh_197 rfl rfl rfl (Nat.le_refl _) (Nat.le_refl _) (ct_X8_rule E (by omega)) ?_
    refine j_callV1 (Mc := iX8_heated) (q := 55) (c' := 0) (s' := 0) dX8_readNow_52 rfl kV_X8_heated jw_1145 ⟨by decide, by decide⟩ sh_197 rfl rfl rfl (Nat.le_refl _) (Nat.le_refl _) (ct_X8_heated E) ?_
    exact j_ireturn dX8_readNow_55 rfl (by grind [zCN, zTN, zIN, zCnt, zRN, bI]) (rfl)
  by_cases h1_3 : w = 3
  · refine j_tableIn (x' := w) (tgt := 56) 3 dX8_readNow_1 (by first | exact wr_id' (by omega) (by omega) | with_reducible exact wr_bI _ | exact rfl) (by omega) (by decide) rfl (by decide) ?_
    refine j_aload0 (q := 57) dX8_readNow_56 rfl ?_
    refine j_iload1 (q := 58) dX8_readNow_57 rfl ?_
    refine j_callV1 (Mc := iX8_worn) (q := 61) (c' := 0) (s' := 0) dX8_readNow_58 rfl kV_X8_worn jw_1127 ⟨by decide, by decide⟩ sh_197 rfl rfl rfl (Nat.le_refl _) (Nat.le_refl _) (ct_X8_worn E (by omega)) ?_
    exact j_ireturn dX8_readNow_61 rfl (by grind [zCN, zTN, zIN, zCnt, zRN, bI]) (rfl)
  refine j_tableOut (x' := w) (tgt := 62) dX8_readNow_1 (by first | exact wr_id' (by omega) (by omega) | with_reducible exact wr_bI _ | exact rfl) (by omega) (by decide) ?_
  refine j_aload0 (q := 63) dX8_readNow_62 rfl ?_
  refine j_iload1 (q := 64) dX8_readNow_63 rfl ?_
  refine j_iconst (q := 65) dX8_readNow_64 rfl ?_
  refine j_callV2 (Mc := iX8_disturbs) (q := 68) (c' := 0) (s' := 0) dX8_readNow_65 rfl kV_X8_disturbs jw_1344 ⟨by decide, by decide⟩ sh_197 rfl rfl rfl (Nat.le_refl _) (Nat.le_refl _) (ct_X8_disturbs E (by omega) (by omega)) ?_
  exact j_ireturn dX8_readNow_68 rfl (by grind [zCN, zTN, zIN, zCnt, zRN, bI]) (rfl)

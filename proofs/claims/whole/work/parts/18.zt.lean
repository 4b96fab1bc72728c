/-! the model: its text, programs -/
def pG (m : Mem) (b : Bool) (n : Int) : Mem := up m 197 9 (if b = true then n else m 197 9)
def pE (m : Mem) (b : Bool) : Mem := pG (up m 197 8 (m 197 8 + bI b)) b 20
def pB0 (m : Mem) : Mem := up (up m 203 (m 197 8) 0) 204 (m 197 8) 0
def pBK (m : Mem) (k : Int) : Mem := up (pB0 m) 202 (m 197 8) k
def pB (m : Mem) (c : Int) : Mem := if c = 114 then pG (pBK m 0) true 1 else if c = 116 then pG (pBK m 3) true 5 else if c = 119 then pG (pBK m 1) true 1 else pE (pBK m 2) (decide (c = 98))
def pBb (c : Int) : Bool := decide (c = 114 ∨ c = 116 ∨ c = 119 ∨ c = 98)
def pT2 (m : Mem) (v : Int) : Mem := up m 203 (m 197 8) (m 203 (m 197 8) + (if wi v 0 7 = true then v else 0))
def pT (m : Mem) (c : Int) : Mem :=
  if m 197 9 = 0 then pB m c else
  if m 197 9 = 1 then pG (up m 203 (m 197 8) (8 * (c - 48))) (wi (c - 48) 0 7) 2 else
  if m 197 9 = 2 then (if wr (m 202 (m 197 8)) = 0 then pE (pT2 m (c - 48)) (wi (c - 48) 0 7) else pG (pT2 m (c - 48)) (wi (c - 48) 0 7) 3) else
  if m 197 9 = 3 then pG m (decide (c = 61)) 4 else
  if m 197 9 = 4 then pE (up m 204 (m 197 8) (c - 48)) (wi (c - 48) 0 1) else
  if m 197 9 = 5 then pE (up m 204 (m 197 8) (c - 48)) (wi (c - 48) 1 9) else pG m (decide (c = 59)) 0
def pTb (m : Mem) (c : Int) : Bool :=
  if m 197 9 = 0 then pBb c else
  if m 197 9 = 1 ∨ m 197 9 = 2 then wi (c - 48) 0 7 else
  if m 197 9 = 3 then decide (c = 61) else
  if m 197 9 = 4 then wi (c - 48) 0 1 else
  if m 197 9 = 5 then wi (c - 48) 1 9 else decide (c = 59)
def pSc : Nat → Int → Mem → Mem
  | 0, _, m => m
  | d + 1, k, m => if pTb m (m 201 k) = true then pSc d (k + 1) (pT m (m 201 k)) else pT m (m 201 k)
def pSk : Nat → Int → Mem → Int
  | 0, k, _ => k
  | d + 1, k, m => if pTb m (m 201 k) = true then pSk d (k + 1) (pT m (m 201 k)) else k
/-- what holds while the text is read, at the place k -/
def pI (m : Mem) (k : Int) : Prop := (0 ≤ m 197 8 ∧ 2 * m 197 8 ≤ k + (if m 197 9 = 20 then 1 else 0)) ∧ (0 ≤ m 197 9 ∧ m 197 9 ≤ 20) ∧ (0 ≤ m 197 11 ∧ m 197 11 ≤ 60) ∧ ∀ j, 0 ≤ j → j < m 197 11 → 33 ≤ m 201 j ∧ m 201 j ≤ 126
theorem ct_X8_goes {G : GX} (E : EV G) {m : Mem} {z : Z} {b : Bool} {n : Int} : CT G SHP iX8_goes 0 0 [.inr (.ref 197), .inl (bI b), .inl n] (sz m z) (some (.inl (bI b))) (sz (pG m b n) z) := by
  refine j_met (L0 := [some (.inr (.ref 197)), some (.inl (bI b)), some (.inl n)]) (by decide) E.1 E.2 rfl (Nat.le_of_ble_eq_true rfl) ?_
  refine j_aload0 (q := 1) dX8_goes_0 rfl ?_
  refine j_iload1 (q := 2) dX8_goes_1 rfl ?_
  refine j_ifeq_b (tgt := 9) (q := 5) dX8_goes_2 (by decide) rfl (fun h2 => ?_) (fun h2 => ?_)
  · refine j_aload0 (q := 10) dX8_goes_9 rfl ?_
    refine j_ngetI (by decide) 9 (j' := 9) (q := 13) dX8_goes_10 rfl fl_X8_163 sh_197 rfl rfl ?_
    refine j_nputI (by decide) 9 (j' := 9) (q := 16) dX8_goes_13 rfl fw_X8_163 sh_197 rfl rfl ?_
    refine j_iload1 (q := 17) dX8_goes_16 rfl ?_
    exact j_zreturn dX8_goes_17 rfl (bI_01 _) (rfl) (by unfold pG; first | rw [if_pos (by assumption)] | rw [if_neg (nb (by assumption))])
  · refine j_iload2 (q := 6) dX8_goes_5 rfl ?_
    refine j_goto (tgt := 13) dX8_goes_6 (by decide) ?_
    refine j_nputI (by decide) 9 (j' := 9) (q := 16) dX8_goes_13 rfl fw_X8_163 sh_197 rfl rfl ?_
    refine j_iload1 (q := 17) dX8_goes_16 rfl ?_
    exact j_zreturn dX8_goes_17 rfl (bI_01 _) (rfl) (by unfold pG; first | rw [if_pos (by assumption)] | rw [if_neg (nb (by assumption))])
theorem ct_X8_ends {G : GX} (E : EV G) {m : Mem} {z : Z} {b : Bool} : CT G SHP iX8_ends 0 0 [.inr (.ref 197), .inl (bI b)] (sz m z) (some (.inl (bI b))) (sz (pE m b) z) := by
  refine j_met (L0 := [some (.inr (.ref 197)), some (.inl (bI b))]) (by decide) E.1 E.2 rfl (Nat.le_of_ble_eq_true rfl) ?_
  refine j_aload0 (q := 1) dX8_ends_0 rfl ?_
  refine j_dup (q := 2) dX8_ends_1 rfl rfl ?_
  refine j_ngetI (by decide) 8 (j' := 8) (q := 5) dX8_ends_2 rfl fl_X8_166 sh_197 rfl rfl ?_
  refine j_iload1 (q := 6) dX8_ends_5 rfl ?_
  refine j_ifeq_b (tgt := 13) (q := 9) dX8_ends_6 (by decide) rfl (fun h6 => ?_) (fun h6 => ?_)
  · refine j_iconst (q := 14) dX8_ends_13 rfl ?_
    refine j_iadd (q := 15) dX8_ends_14 rfl ?_
    refine j_nputI (by decide) 8 (j' := 8) (q := 18) dX8_ends_15 rfl fw_X8_166 sh_197 rfl rfl ?_
    refine j_mem (m' := sz (up m 197 8 (m 197 8 + bI b)) z) (by first | (rw [show b = true by assumption]; rfl) | (rw [show b = false by assumption]; rfl)) ?_
    refine j_aload0 (q := 19) dX8_ends_18 rfl ?_
    refine j_iload1 (q := 20) dX8_ends_19 rfl ?_
    refine j_bipush (q := 22) dX8_ends_20 rfl rfl ?_
    refine j_callV2 (Mc := iX8_goes) (q := 25) (c' := 0) (s' := 0) dX8_ends_22 rfl kV_X8_goes jw_1228 ⟨by decide, by decide⟩ sh_197 rfl rfl rfl (Nat.le_refl _) (Nat.le_refl _) (ct_X8_goes E) ?_
    exact j_zreturn dX8_ends_25 rfl (bI_01 _) (rfl) (rfl)
  · refine j_iconst (q := 10) dX8_ends_9 rfl ?_
    refine j_goto (tgt := 14) dX8_ends_10 (by decide) ?_
    refine j_iadd (q := 15) dX8_ends_14 rfl ?_
    refine j_nputI (by decide) 8 (j' := 8) (q := 18) dX8_ends_15 rfl fw_X8_166 sh_197 rfl rfl ?_
    refine j_mem (m' := sz (up m 197 8 (m 197 8 + bI b)) z) (by first | (rw [show b = true by assumption]; rfl) | (rw [show b = false by assumption]; rfl)) ?_
    refine j_aload0 (q := 19) dX8_ends_18 rfl ?_
    refine j_iload1 (q := 20) dX8_ends_19 rfl ?_
    refine j_bipush (q := 22) dX8_ends_20 rfl rfl ?_
    refine j_callV2 (Mc := iX8_goes) (q := 25) (c' := 0) (s' := 0) dX8_ends_22 rfl kV_X8_goes jw_1228 ⟨by decide, by decide⟩ sh_197 rfl rfl rfl (Nat.le_refl _) (Nat.le_refl _) (ct_X8_goes E) ?_
    exact j_zreturn dX8_ends_25 rfl (bI_01 _) (rfl) (rfl)
theorem ct_X8_begins {G : GX} (E : EV G) {m : Mem} {z : Z} {c : Int} (he : 0 ≤ m 197 8 ∧ m 197 8 < 32) (hc : 33 ≤ c ∧ c ≤ 126) : CT G SHP iX8_begins 0 0 [.inr (.ref 197), .inl c] (sz m z) (some (.inl (bI (pBb c)))) (sz (pB m c) z) := by
  refine j_met (L0 := [some (.inr (.ref 197)), some (.inl c)]) (by decide) E.1 E.2 rfl (Nat.le_of_ble_eq_true rfl) ?_
  refine j_aload0 (q := 1) dX8_begins_0 rfl ?_
  refine j_getR 5 (q := 4) dX8_begins_1 rfl fl_X8_25 sh_197 rfl ?_
  refine j_aload0 (q := 5) dX8_begins_4 rfl ?_
  refine j_ngetI (by decide) 8 (j' := 8) (q := 8) dX8_begins_5 rfl fl_X8_166 sh_197 rfl rfl ?_
  refine j_iconst (q := 9) dX8_begins_8 rfl ?_
  refine j_nstore (q := 10) (by decide) dX8_begins_9 rfl sh_203 (by first | exact wr_id' (by omega) (by omega) | with_reducible exact wr_bI _ | exact rfl) (by omega) (by omega) ?_
  have e1 : (up m 203 (m 197 8) 0) 197 8 = m 197 8 := up_ne (by omega)
  refine j_aload0 (q := 11) dX8_begins_10 rfl ?_
  refine j_getR 6 (q := 14) dX8_begins_11 rfl fl_X8_28 sh_197 rfl ?_
  refine j_aload0 (q := 15) dX8_begins_14 rfl ?_
  refine j_ngetI (by decide) 8 (j' := 8) (q := 18) dX8_begins_15 rfl fl_X8_166 sh_197 rfl rfl ?_
  refine j_iconst (q := 19) dX8_begins_18 rfl ?_
  refine j_nstore (q := 20) (by decide) dX8_begins_19 rfl sh_204 (by first | exact wr_id' (by omega) (by omega) | with_reducible exact wr_bI _ | exact rfl) (by omega) (by omega) ?_
  refine j_mem (m' := sz (pB0 m) z) (by rw [e1]; rfl) ?_
  have e2 : pB0 m 197 8 = m 197 8 := by unfold pB0; rw [up_ne (by omega), up_ne (by omega)]
  refine j_iload1 (q := 21) dX8_begins_20 rfl ?_
  by_cases h21_114 : c = 114
  · refine j_lookup (x' := c) (tgt := 56) (off := 35) dX8_begins_21 rfl (by first | exact wr_id' (by omega) (by omega) | with_reducible exact wr_bI _ | exact rfl) (by rw [h21_114]; rfl) (by decide) ?_
    refine j_aload0 (q := 57) dX8_begins_56 rfl ?_
    refine j_getR 4 (q := 60) dX8_begins_57 rfl fl_X8_22 sh_197 rfl ?_
    refine j_aload0 (q := 61) dX8_begins_60 rfl ?_
    refine j_ngetI (by decide) 8 (j' := 8) (q := 64) dX8_begins_61 rfl fl_X8_166 sh_197 rfl rfl ?_
    refine j_iconst (q := 65) dX8_begins_64 rfl ?_
    refine j_nstore (q := 66) (by decide) dX8_begins_65 rfl sh_202 (by first | exact wr_id' (by omega) (by omega) | with_reducible exact wr_bI _ | exact rfl) (by omega) (by omega) ?_
    refine j_mem (m' := sz (pBK m 0) z) (by rw [e2]; rfl) ?_
    refine j_aload0 (q := 67) dX8_begins_66 rfl ?_
    refine j_iconst (q := 68) dX8_begins_67 rfl ?_
    refine j_iconst (q := 69) dX8_begins_68 rfl ?_
    refine j_callV2 (Mc := iX8_goes) (q := 72) (c' := 0) (s' := 0) dX8_begins_69 rfl kV_X8_goes jw_1228 ⟨by decide, by decide⟩ sh_197 rfl rfl rfl (Nat.le_refl _) (Nat.le_refl _) (ct_X8_goes (b := true) E) ?_
    exact j_zreturn dX8_begins_72 rfl (bI_01 _) (by simp [pBb, *]) (by unfold pB; simp only [*]; simp)
  by_cases h21_116 : c = 116
  · refine j_lookup (x' := c) (tgt := 90) (off := 69) dX8_begins_21 rfl (by first | exact wr_id' (by omega) (by omega) | with_reducible exact wr_bI _ | exact rfl) (by rw [h21_116]; rfl) (by decide) ?_
    refine j_aload0 (q := 91) dX8_begins_90 rfl ?_
    refine j_getR 4 (q := 94) dX8_begins_91 rfl fl_X8_22 sh_197 rfl ?_
    refine j_aload0 (q := 95) dX8_begins_94 rfl ?_
    refine j_ngetI (by decide) 8 (j' := 8) (q := 98) dX8_begins_95 rfl fl_X8_166 sh_197 rfl rfl ?_
    refine j_iconst (q := 99) dX8_begins_98 rfl ?_
    refine j_nstore (q := 100) (by decide) dX8_begins_99 rfl sh_202 (by first | exact wr_id' (by omega) (by omega) | with_reducible exact wr_bI _ | exact rfl) (by omega) (by omega) ?_
    refine j_mem (m' := sz (pBK m 3) z) (by rw [e2]; rfl) ?_
    refine j_aload0 (q := 101) dX8_begins_100 rfl ?_
    refine j_iconst (q := 102) dX8_begins_101 rfl ?_
    refine j_iconst (q := 103) dX8_begins_102 rfl ?_
    refine j_callV2 (Mc := iX8_goes) (q := 106) (c' := 0) (s' := 0) dX8_begins_103 rfl kV_X8_goes jw_1228 ⟨by decide, by decide⟩ sh_197 rfl rfl rfl (Nat.le_refl _) (Nat.le_refl _) (ct_X8_goes (b := true) E) ?_
    exact j_zreturn dX8_begins_106 rfl (bI_01 _) (by simp [pBb, *]) (by unfold pB; simp only [*]; simp)
  by_cases h21_119 : c = 119
  · refine j_lookup (x' := c) (tgt := 73) (off := 52) dX8_begins_21 rfl (by first | exact wr_id' (by omega) (by omega) | with_reducible exact wr_bI _ | exact rfl) (by rw [h21_119]; rfl) (by decide) ?_
    refine j_aload0 (q := 74) dX8_begins_73 rfl ?_
    refine j_getR 4 (q := 77) dX8_begins_74 rfl fl_X8_22 sh_197 rfl ?_
    refine j_aload0 (q := 78) dX8_begins_77 rfl ?_
    refine j_ngetI (by decide) 8 (j' := 8) (q := 81) dX8_begins_78 rfl fl_X8_166 sh_197 rfl rfl ?_
    refine j_iconst (q := 82) dX8_begins_81 rfl ?_
    refine j_nstore (q := 83) (by decide) dX8_begins_82 rfl sh_202 (by first | exact wr_id' (by omega) (by omega) | with_reducible exact wr_bI _ | exact rfl) (by omega) (by omega) ?_
    refine j_mem (m' := sz (pBK m 1) z) (by rw [e2]; rfl) ?_
    refine j_aload0 (q := 84) dX8_begins_83 rfl ?_
    refine j_iconst (q := 85) dX8_begins_84 rfl ?_
    refine j_iconst (q := 86) dX8_begins_85 rfl ?_
    refine j_callV2 (Mc := iX8_goes) (q := 89) (c' := 0) (s' := 0) dX8_begins_86 rfl kV_X8_goes jw_1228 ⟨by decide, by decide⟩ sh_197 rfl rfl rfl (Nat.le_refl _) (Nat.le_refl _) (ct_X8_goes (b := true) E) ?_
    exact j_zreturn dX8_begins_89 rfl (bI_01 _) (by simp [pBb, *]) (by unfold pB; simp only [*]; simp)
  refine j_lookup (x' := c) (tgt := 107) (off := 86) dX8_begins_21 rfl (by first | exact wr_id' (by omega) (by omega) | with_reducible exact wr_bI _ | exact rfl) (by simp only [Op.lookupswitch.offset_cons]; rw [if_neg (fun q => h21_114 q.symm), if_neg (fun q => h21_116 q.symm), if_neg (fun q => h21_119 q.symm)]; rfl) (by decide) ?_
  refine j_aload0 (q := 108) dX8_begins_107 rfl ?_
  refine j_getR 4 (q := 111) dX8_begins_108 rfl fl_X8_22 sh_197 rfl ?_
  refine j_aload0 (q := 112) dX8_begins_111 rfl ?_
  refine j_ngetI (by decide) 8 (j' := 8) (q := 115) dX8_begins_112 rfl fl_X8_166 sh_197 rfl rfl ?_
  refine j_iconst (q := 116) dX8_begins_115 rfl ?_
  refine j_nstore (q := 117) (by decide) dX8_begins_116 rfl sh_202 (by first | exact wr_id' (by omega) (by omega) | with_reducible exact wr_bI _ | exact rfl) (by omega) (by omega) ?_
  refine j_mem (m' := sz (pBK m 2) z) (by rw [e2]; rfl) ?_
  refine j_aload0 (q := 118) dX8_begins_117 rfl ?_
  refine j_iload1 (q := 119) dX8_begins_118 rfl ?_
  refine j_bipush (q := 121) dX8_begins_119 rfl rfl ?_
  refine j_icmp_ne (tgt := 128) (q := 124) dX8_begins_121 (by decide) rfl (by first | exact wr_id' (by omega) (by omega) | with_reducible exact wr_bI _ | exact rfl) (by first | exact wr_id' (by omega) (by omega) | with_reducible exact wr_bI _ | exact rfl) (fun h121 => ?_) (fun h121 => ?_)
  · refine j_iconst (q := 129) dX8_begins_128 rfl ?_
    refine j_callV1 (Mc := iX8_ends) (q := 132) (c' := 0) (s' := 0) dX8_begins_129 rfl kV_X8_ends jw_1232 ⟨by decide, by decide⟩ sh_197 rfl rfl rfl (Nat.le_refl _) (Nat.le_refl _) (ct_X8_ends (b := false) E) ?_
    exact j_zreturn dX8_begins_132 rfl (bI_01 _) (by simp [pBb, *]) (by unfold pB; simp only [*]; simp)
  · refine j_iconst (q := 125) dX8_begins_124 rfl ?_
    refine j_goto (tgt := 129) dX8_begins_125 (by decide) ?_
    refine j_callV1 (Mc := iX8_ends) (q := 132) (c' := 0) (s' := 0) dX8_begins_129 rfl kV_X8_ends jw_1232 ⟨by decide, by decide⟩ sh_197 rfl rfl rfl (Nat.le_refl _) (Nat.le_refl _) (ct_X8_ends (b := true) E) ?_
    exact j_zreturn dX8_begins_132 rfl (bI_01 _) (by simp [pBb, *]) (by unfold pB; simp only [*]; simp)
theorem ct_X8_takes {G : GX} (E : EV G) {m : Mem} {z : Z} {c : Int} (he : 0 ≤ m 197 8 ∧ m 197 8 < 32) (hs : 0 ≤ m 197 9 ∧ m 197 9 ≤ 20) (hc : 33 ≤ c ∧ c ≤ 126) : CT G SHP iX8_takes 0 0 [.inr (.ref 197), .inl c] (sz m z) (some (.inl (bI (pTb m c)))) (sz (pT m c) z) := by
  refine j_met (L0 := [some (.inr (.ref 197)), some (.inl c), none]) (by decide) E.1 E.2 rfl (Nat.le_of_ble_eq_true rfl) ?_
  refine j_iload1 (q := 1) dX8_takes_0 rfl ?_
  refine j_bipush (q := 3) dX8_takes_1 rfl rfl ?_
  refine j_isub (q := 4) dX8_takes_3 rfl ?_
  refine j_istore2 (q := 5) dX8_takes_4 rfl rfl (by decide) ?_
  refine j_aload0 (q := 6) dX8_takes_5 rfl ?_
  refine j_ngetI (by decide) 9 (j' := 9) (q := 9) dX8_takes_6 rfl fl_X8_163 sh_197 rfl rfl ?_
  by_cases h9_0 : m 197 9 = 0
  · refine j_tableIn (x' := m 197 9) (tgt := 48) 0 dX8_takes_9 (by first | exact wr_id' (by omega) (by omega) | with_reducible exact wr_bI _ | exact rfl) (by omega) (by decide) rfl (by decide) ?_
    refine j_aload0 (q := 49) dX8_takes_48 rfl ?_
    refine j_iload1 (q := 50) dX8_takes_49 rfl ?_
    refine j_callV1 (Mc := iX8_begins) (q := 53) (c' := 0) (s' := 0) dX8_takes_50 rfl kV_X8_begins jw_1224 ⟨by decide, by decide⟩ sh_197 rfl rfl rfl (Nat.le_refl _) (Nat.le_refl _) (ct_X8_begins E (by omega) (by omega)) ?_
    exact j_zreturn dX8_takes_53 rfl (bI_01 _) (by rw [pTb, if_pos (by omega)]) (by rw [pT, if_pos (by omega)])
  by_cases h9_1 : m 197 9 = 1
  · refine j_tableIn (x' := m 197 9) (tgt := 54) 1 dX8_takes_9 (by first | exact wr_id' (by omega) (by omega) | with_reducible exact wr_bI _ | exact rfl) (by omega) (by decide) rfl (by decide) ?_
    refine j_aload0 (q := 55) dX8_takes_54 rfl ?_
    refine j_getR 5 (q := 58) dX8_takes_55 rfl fl_X8_25 sh_197 rfl ?_
    refine j_aload0 (q := 59) dX8_takes_58 rfl ?_
    refine j_ngetI (by decide) 8 (j' := 8) (q := 62) dX8_takes_59 rfl fl_X8_166 sh_197 rfl rfl ?_
    refine j_bipush (q := 64) dX8_takes_62 rfl rfl ?_
    refine j_iload2 (q := 65) dX8_takes_64 rfl ?_
    refine j_imul (q := 66) dX8_takes_65 rfl ?_
    refine j_nstore (q := 67) (by decide) dX8_takes_66 rfl sh_203 (by first | exact wr_id' (by omega) (by omega) | with_reducible exact wr_bI _ | exact rfl) (by omega) (by omega) ?_
    refine j_aload0 (q := 68) dX8_takes_67 rfl ?_
    refine j_iload2 (q := 69) dX8_takes_68 rfl ?_
    refine j_iconst (q := 70) dX8_takes_69 rfl ?_
    refine j_bipush (q := 72) dX8_takes_70 rfl rfl ?_
    refine j_callS3 (Mc := iX8_within) (q := 75) (c' := 0) (s' := 0) dX8_takes_72 rfl kS_X8_within jw_1035 ⟨by decide, by decide⟩ rfl (Nat.le_refl _) (Nat.le_refl _) (ct_X8_within E (by omega) (by omega) (by omega)) ?_
    refine j_iconst (q := 76) dX8_takes_75 rfl ?_
    refine j_callV2 (Mc := iX8_goes) (q := 79) (c' := 0) (s' := 0) dX8_takes_76 rfl kV_X8_goes jw_1228 ⟨by decide, by decide⟩ sh_197 rfl rfl rfl (Nat.le_refl _) (Nat.le_refl _) (ct_X8_goes E) ?_
    exact j_zreturn dX8_takes_79 rfl (bI_01 _) (by rw [pTb, if_neg (by omega), if_pos (by omega)]) (by rw [pT, if_neg (by omega), if_pos (by omega)])
  by_cases h9_2 : m 197 9 = 2
  · refine j_tableIn (x' := m 197 9) (tgt := 80) 2 dX8_takes_9 (by first | exact wr_id' (by omega) (by omega) | with_reducible exact wr_bI _ | exact rfl) (by omega) (by decide) rfl (by decide) ?_
    refine j_aload0 (q := 81) dX8_takes_80 rfl ?_
    refine j_getR 5 (q := 84) dX8_takes_81 rfl fl_X8_25 sh_197 rfl ?_
    refine j_aload0 (q := 85) dX8_takes_84 rfl ?_
    refine j_ngetI (by decide) 8 (j' := 8) (q := 88) dX8_takes_85 rfl fl_X8_166 sh_197 rfl rfl ?_
    refine j_dup2 (q := 89) dX8_takes_88 rfl rfl rfl ?_
    refine j_nload (q := 90) (by decide) dX8_takes_89 rfl sh_203 (by first | exact wr_id' (by omega) (by omega) | with_reducible exact wr_bI _ | exact rfl) (by omega) (by omega) ?_
    refine j_iload2 (q := 91) dX8_takes_90 rfl ?_
    refine j_iconst (q := 92) dX8_takes_91 rfl ?_
    refine j_bipush (q := 94) dX8_takes_92 rfl rfl ?_
    refine j_callS3 (Mc := iX8_within) (q := 97) (c' := 0) (s' := 0) dX8_takes_94 rfl kS_X8_within jw_1035 ⟨by decide, by decide⟩ rfl (Nat.le_refl _) (Nat.le_refl _) (ct_X8_within E (by omega) (by omega) (by omega)) ?_
    refine j_ifeq_b (tgt := 104) (q := 100) dX8_takes_97 (by decide) rfl (fun h97 => ?_) (fun h97 => ?_)
    · refine j_iconst (q := 105) dX8_takes_104 rfl ?_
      refine j_iadd (q := 106) dX8_takes_105 rfl ?_
      refine j_nstore (q := 107) (by decide) dX8_takes_106 rfl sh_203 (by first | exact wr_id' (by omega) (by omega) | with_reducible exact wr_bI _ | exact rfl) (by omega) (by omega) ?_
      refine j_mem (m' := sz (pT2 m (c - 48)) z) (by unfold pT2; first | rw [if_pos (by assumption)] | rw [if_neg (nb (by assumption))]) ?_
      have e1 : pT2 m (c - 48) 197 8 = m 197 8 := up_ne (by omega)
      have e2 : pT2 m (c - 48) 202 = m 202 := by funext j; exact up_ne (by omega)
      have e3 : wr (m 202 (m 197 8)) = wr (pT2 m (c - 48) 202 (pT2 m (c - 48) 197 8)) := by rw [e1, e2]
      refine j_aload0 (q := 108) dX8_takes_107 rfl ?_
      refine j_getR 4 (q := 111) dX8_takes_108 rfl fl_X8_22 sh_197 rfl ?_
      refine j_aload0 (q := 112) dX8_takes_111 rfl ?_
      refine j_ngetI (by decide) 8 (j' := 8) (q := 115) dX8_takes_112 rfl fl_X8_166 sh_197 rfl rfl ?_
      refine j_nload (q := 116) (by decide) dX8_takes_115 rfl sh_202 (by first | exact wr_id' (by omega) (by omega) | with_reducible exact wr_bI _ | exact rfl) (by omega) (by omega) ?_
      refine j_if_ne (tgt := 133) (q := 119) dX8_takes_116 (by decide) rfl rfl (fun h116 => ?_) (fun h116 => ?_)
      · refine j_aload0 (q := 134) dX8_takes_133 rfl ?_
        refine j_iload2 (q := 135) dX8_takes_134 rfl ?_
        refine j_iconst (q := 136) dX8_takes_135 rfl ?_
        refine j_bipush (q := 138) dX8_takes_136 rfl rfl ?_
        refine j_callS3 (Mc := iX8_within) (q := 141) (c' := 0) (s' := 0) dX8_takes_138 rfl kS_X8_within jw_1035 ⟨by decide, by decide⟩ rfl (Nat.le_refl _) (Nat.le_refl _) (ct_X8_within E (by omega) (by omega) (by omega)) ?_
        refine j_iconst (q := 142) dX8_takes_141 rfl ?_
        refine j_callV2 (Mc := iX8_goes) (q := 145) (c' := 0) (s' := 0) dX8_takes_142 rfl kV_X8_goes jw_1228 ⟨by decide, by decide⟩ sh_197 rfl rfl rfl (Nat.le_refl _) (Nat.le_refl _) (ct_X8_goes E) ?_
        exact j_zreturn dX8_takes_145 rfl (bI_01 _) (by rw [pTb, if_neg (by omega), if_pos (by omega)]) (by rw [pT, if_neg (by omega), if_neg (by omega), if_pos (by omega)]; first | (rw [if_pos (by omega)]; done) | rw [if_neg (by omega)])
      · refine j_aload0 (q := 120) dX8_takes_119 rfl ?_
        refine j_iload2 (q := 121) dX8_takes_120 rfl ?_
        refine j_iconst (q := 122) dX8_takes_121 rfl ?_
        refine j_bipush (q := 124) dX8_takes_122 rfl rfl ?_
        refine j_callS3 (Mc := iX8_within) (q := 127) (c' := 0) (s' := 0) dX8_takes_124 rfl kS_X8_within jw_1035 ⟨by decide, by decide⟩ rfl (Nat.le_refl _) (Nat.le_refl _) (ct_X8_within E (by omega) (by omega) (by omega)) ?_
        refine j_callV1 (Mc := iX8_ends) (q := 130) (c' := 0) (s' := 0) dX8_takes_127 rfl kV_X8_ends jw_1232 ⟨by decide, by decide⟩ sh_197 rfl rfl rfl (Nat.le_refl _) (Nat.le_refl _) (ct_X8_ends E) ?_
        refine j_goto (tgt := 145) dX8_takes_130 (by decide) ?_
        exact j_zreturn dX8_takes_145 rfl (bI_01 _) (by rw [pTb, if_neg (by omega), if_pos (by omega)]) (by rw [pT, if_neg (by omega), if_neg (by omega), if_pos (by omega)]; first | (rw [if_pos (by omega)]; done) | rw [if_neg (by omega)])
    · refine j_iload2 (q := 101) dX8_takes_100 rfl ?_
      refine j_goto (tgt := 105) dX8_takes_101 (by decide) ?_
      refine j_iadd (q := 106) dX8_takes_105 rfl ?_
      refine j_nstore (q := 107) (by decide) dX8_takes_106 rfl sh_203 (by first | exact wr_id' (by omega) (by omega) | with_reducible exact wr_bI _ | exact rfl) (by omega) (by omega) ?_
      refine j_mem (m' := sz (pT2 m (c - 48)) z) (by unfold pT2; first | rw [if_pos (by assumption)] | rw [if_neg (nb (by assumption))]) ?_
      have e1 : pT2 m (c - 48) 197 8 = m 197 8 := up_ne (by omega)
      have e2 : pT2 m (c - 48) 202 = m 202 := by funext j; exact up_ne (by omega)
      have e3 : wr (m 202 (m 197 8)) = wr (pT2 m (c - 48) 202 (pT2 m (c - 48) 197 8)) := by rw [e1, e2]
      refine j_aload0 (q := 108) dX8_takes_107 rfl ?_
      refine j_getR 4 (q := 111) dX8_takes_108 rfl fl_X8_22 sh_197 rfl ?_
      refine j_aload0 (q := 112) dX8_takes_111 rfl ?_
      refine j_ngetI (by decide) 8 (j' := 8) (q := 115) dX8_takes_112 rfl fl_X8_166 sh_197 rfl rfl ?_
      refine j_nload (q := 116) (by decide) dX8_takes_115 rfl sh_202 (by first | exact wr_id' (by omega) (by omega) | with_reducible exact wr_bI _ | exact rfl) (by omega) (by omega) ?_
      refine j_if_ne (tgt := 133) (q := 119) dX8_takes_116 (by decide) rfl rfl (fun h116 => ?_) (fun h116 => ?_)
      · refine j_aload0 (q := 134) dX8_takes_133 rfl ?_
        refine j_iload2 (q := 135) dX8_takes_134 rfl ?_
        refine j_iconst (q := 136) dX8_takes_135 rfl ?_
        refine j_bipush (q := 138) dX8_takes_136 rfl rfl ?_
        refine j_callS3 (Mc := iX8_within) (q := 141) (c' := 0) (s' := 0) dX8_takes_138 rfl kS_X8_within jw_1035 ⟨by decide, by decide⟩ rfl (Nat.le_refl _) (Nat.le_refl _) (ct_X8_within E (by omega) (by omega) (by omega)) ?_
        refine j_iconst (q := 142) dX8_takes_141 rfl ?_
        refine j_callV2 (Mc := iX8_goes) (q := 145) (c' := 0) (s' := 0) dX8_takes_142 rfl kV_X8_goes jw_1228 ⟨by decide, by decide⟩ sh_197 rfl rfl rfl (Nat.le_refl _) (Nat.le_refl _) (ct_X8_goes E) ?_
        exact j_zreturn dX8_takes_145 rfl (bI_01 _) (by rw [pTb, if_neg (by omega), if_pos (by omega)]) (by rw [pT, if_neg (by omega), if_neg (by omega), if_pos (by omega)]; first | (rw [if_pos (by omega)]; done) | rw [if_neg (by omega)])
      · refine j_aload0 (q := 120) dX8_takes_119 rfl ?_
        refine j_iload2 (q := 121) dX8_takes_120 rfl ?_
        refine j_iconst (q := 122) dX8_takes_121 rfl ?_
        refine j_bipush (q := 124) dX8_takes_122 rfl rfl ?_
        refine j_callS3 (Mc := iX8_within) (q := 127) (c' := 0) (s' := 0) dX8_takes_124 rfl kS_X8_within jw_1035 ⟨by decide, by decide⟩ rfl (Nat.le_refl _) (Nat.le_refl _) (ct_X8_within E (by omega) (by omega) (by omega)) ?_
        refine j_callV1 (Mc := iX8_ends) (q := 130) (c' := 0) (s' := 0) dX8_takes_127 rfl kV_X8_ends jw_1232 ⟨by decide, by decide⟩ sh_197 rfl rfl rfl (Nat.le_refl _) (Nat.le_refl _) (ct_X8_ends E) ?_
        refine j_goto (tgt := 145) dX8_takes_130 (by decide) ?_
        exact j_zreturn dX8_takes_145 rfl (bI_01 _) (by rw [pTb, if_neg (by omega), if_pos (by omega)]) (by rw [pT, if_neg (by omega), if_neg (by omega), if_pos (by omega)]; first | (rw [if_pos (by omega)]; done) | rw [if_neg (by omega)])
  by_cases h9_3 : m 197 9 = 3
  · refine j_tableIn (x' := m 197 9) (tgt := 146) 3 dX8_takes_9 (by first | exact wr_id' (by omega) (by omega) | with_reducible exact wr_bI _ | exact rfl) (by omega) (by decide) rfl (by decide) ?_
    refine j_aload0 (q := 147) dX8_takes_146 rfl ?_
    refine j_iload1 (q := 148) dX8_takes_147 rfl ?_
    refine j_bipush (q := 150) dX8_takes_148 rfl rfl ?_
    refine j_icmp_ne (tgt := 157) (q := 153) dX8_takes_150 (by decide) rfl (by first | exact wr_id' (by omega) (by omega) | with_reducible exact wr_bI _ | exact rfl) (by first | exact wr_id' (by omega) (by omega) | with_reducible exact wr_bI _ | exact rfl) (fun h150 => ?_) (fun h150 => ?_)
    · refine j_iconst (q := 158) dX8_takes_157 rfl ?_
      refine j_iconst (q := 159) dX8_takes_158 rfl ?_
      refine j_callV2 (Mc := iX8_goes) (q := 162) (c' := 0) (s' := 0) dX8_takes_159 rfl kV_X8_goes jw_1228 ⟨by decide, by decide⟩ sh_197 rfl rfl rfl (Nat.le_refl _) (Nat.le_refl _) (ct_X8_goes (b := false) E) ?_
      exact j_zreturn dX8_takes_162 rfl (bI_01 _) (by rw [pTb, if_neg (by omega), if_neg (by omega), if_pos (by omega)]; try simp [*]) (by rw [pT, if_neg (by omega), if_neg (by omega), if_neg (by omega), if_pos (by omega)]; try simp [*])
    · refine j_iconst (q := 154) dX8_takes_153 rfl ?_
      refine j_goto (tgt := 158) dX8_takes_154 (by decide) ?_
      refine j_iconst (q := 159) dX8_takes_158 rfl ?_
      refine j_callV2 (Mc := iX8_goes) (q := 162) (c' := 0) (s' := 0) dX8_takes_159 rfl kV_X8_goes jw_1228 ⟨by decide, by decide⟩ sh_197 rfl rfl rfl (Nat.le_refl _) (Nat.le_refl _) (ct_X8_goes (b := true) E) ?_
      exact j_zreturn dX8_takes_162 rfl (bI_01 _) (by rw [pTb, if_neg (by omega), if_neg (by omega), if_pos (by omega)]; try simp [*]) (by rw [pT, if_neg (by omega), if_neg (by omega), if_neg (by omega), if_pos (by omega)]; try simp [*])
  by_cases h9_4 : m 197 9 = 4
  · refine j_tableIn (x' := m 197 9) (tgt := 163) 4 dX8_takes_9 (by first | exact wr_id' (by omega) (by omega) | with_reducible exact wr_bI _ | exact rfl) (by omega) (by decide) rfl (by decide) ?_
    refine j_aload0 (q := 164) dX8_takes_163 rfl ?_
    refine j_getR 6 (q := 167) dX8_takes_164 rfl fl_X8_28 sh_197 rfl ?_
    refine j_aload0 (q := 168) dX8_takes_167 rfl ?_
    refine j_ngetI (by decide) 8 (j' := 8) (q := 171) dX8_takes_168 rfl fl_X8_166 sh_197 rfl rfl ?_
    refine j_iload2 (q := 172) dX8_takes_171 rfl ?_
    refine j_nstore (q := 173) (by decide) dX8_takes_172 rfl sh_204 (by first | exact wr_id' (by omega) (by omega) | with_reducible exact wr_bI _ | exact rfl) (by omega) (by omega) ?_
    refine j_aload0 (q := 174) dX8_takes_173 rfl ?_
    refine j_iload2 (q := 175) dX8_takes_174 rfl ?_
    refine j_iconst (q := 176) dX8_takes_175 rfl ?_
    refine j_iconst (q := 177) dX8_takes_176 rfl ?_
    refine j_callS3 (Mc := iX8_within) (q := 180) (c' := 0) (s' := 0) dX8_takes_177 rfl kS_X8_within jw_1035 ⟨by decide, by decide⟩ rfl (Nat.le_refl _) (Nat.le_refl _) (ct_X8_within E (by omega) (by omega) (by omega)) ?_
    refine j_callV1 (Mc := iX8_ends) (q := 183) (c' := 0) (s' := 0) dX8_takes_180 rfl kV_X8_ends jw_1232 ⟨by decide, by decide⟩ sh_197 rfl rfl rfl (Nat.le_refl _) (Nat.le_refl _) (ct_X8_ends E) ?_
    exact j_zreturn dX8_takes_183 rfl (bI_01 _) (by rw [pTb, if_neg (by omega), if_neg (by omega), if_neg (by omega), if_pos (by omega)]) (by rw [pT, if_neg (by omega), if_neg (by omega), if_neg (by omega), if_neg (by omega), if_pos (by omega)])
  by_cases h9_5 : m 197 9 = 5
  · refine j_tableIn (x' := m 197 9) (tgt := 184) 5 dX8_takes_9 (by first | exact wr_id' (by omega) (by omega) | with_reducible exact wr_bI _ | exact rfl) (by omega) (by decide) rfl (by decide) ?_
    refine j_aload0 (q := 185) dX8_takes_184 rfl ?_
    refine j_getR 6 (q := 188) dX8_takes_185 rfl fl_X8_28 sh_197 rfl ?_
    refine j_aload0 (q := 189) dX8_takes_188 rfl ?_
    refine j_ngetI (by decide) 8 (j' := 8) (q := 192) dX8_takes_189 rfl fl_X8_166 sh_197 rfl rfl ?_
    refine j_iload2 (q := 193) dX8_takes_192 rfl ?_
    refine j_nstore (q := 194) (by decide) dX8_takes_193 rfl sh_204 (by first | exact wr_id' (by omega) (by omega) | with_reducible exact wr_bI _ | exact rfl) (by omega) (by omega) ?_
    refine j_aload0 (q := 195) dX8_takes_194 rfl ?_
    refine j_iload2 (q := 196) dX8_takes_195 rfl ?_
    refine j_iconst (q := 197) dX8_takes_196 rfl ?_
    refine j_bipush (q := 199) dX8_takes_197 rfl rfl ?_
    refine j_callS3 (Mc := iX8_within) (q := 202) (c' := 0) (s' := 0) dX8_takes_199 rfl kS_X8_within jw_1035 ⟨by decide, by decide⟩ rfl (Nat.le_refl _) (Nat.le_refl _) (ct_X8_within E (by omega) (by omega) (by omega)) ?_
    refine j_callV1 (Mc := iX8_ends) (q := 205) (c' := 0) (s' := 0) dX8_takes_202 rfl kV_X8_ends jw_1232 ⟨by decide, by decide⟩ sh_197 rfl rfl rfl (Nat.le_refl _) (Nat.le_refl _) (ct_X8_ends E) ?_
    exact j_zreturn dX8_takes_205 rfl (bI_01 _) (by rw [pTb, if_neg (by omega), if_neg (by omega), if_neg (by omega), if_neg (by omega), if_pos (by omega)]) (by rw [pT, if_neg (by omega), if_neg (by omega), if_neg (by omega), if_neg (by omega), if_neg (by omega), if_pos (by omega)])
  refine j_tableOut (x' := m 197 9) (tgt := 206) dX8_takes_9 (by first | exact wr_id' (by omega) (by omega) | with_reducible exact wr_bI _ | exact rfl) (by omega) (by decide) ?_
  refine j_aload0 (q := 207) dX8_takes_206 rfl ?_
  refine j_iload1 (q := 208) dX8_takes_207 rfl ?_
  refine j_bipush (q := 210) dX8_takes_208 rfl rfl ?_
  refine j_icmp_ne (tgt := 217) (q := 213) dX8_takes_210 (by decide) rfl (by first | exact wr_id' (by omega) (by omega) | with_reducible exact wr_bI _ | exact rfl) (by first | exact wr_id' (by omega) (by omega) | with_reducible exact wr_bI _ | exact rfl) (fun h210 => ?_) (fun h210 => ?_)
  · refine j_iconst (q := 218) dX8_takes_217 rfl ?_
    refine j_iconst (q := 219) dX8_takes_218 rfl ?_
    refine j_callV2 (Mc := iX8_goes) (q := 222) (c' := 0) (s' := 0) dX8_takes_219 rfl kV_X8_goes jw_1228 ⟨by decide, by decide⟩ sh_197 rfl rfl rfl (Nat.le_refl _) (Nat.le_refl _) (ct_X8_goes (b := false) E) ?_
    exact j_zreturn dX8_takes_222 rfl (bI_01 _) (by rw [pTb, if_neg (by omega), if_neg (by omega), if_neg (by omega), if_neg (by omega), if_neg (by omega)]; try simp [*]) (by rw [pT, if_neg (by omega), if_neg (by omega), if_neg (by omega), if_neg (by omega), if_neg (by omega), if_neg (by omega)]; try simp [*])
  · refine j_iconst (q := 214) dX8_takes_213 rfl ?_
    refine j_goto (tgt := 218) dX8_takes_214 (by decide) ?_
    refine j_iconst (q := 219) dX8_takes_218 rfl ?_
    refine j_callV2 (Mc := iX8_goes) (q := 222) (c' := 0) (s' := 0) dX8_takes_219 rfl kV_X8_goes jw_1228 ⟨by decide, by decide⟩ sh_197 rfl rfl rfl (Nat.le_refl _) (Nat.le_refl _) (ct_X8_goes (b := true) E) ?_
    exact j_zreturn dX8_takes_222 rfl (bI_01 _) (by rw [pTb, if_neg (by omega), if_neg (by omega), if_neg (by omega), if_neg (by omega), if_neg (by omega)]; try simp [*]) (by rw [pT, if_neg (by omega), if_neg (by omega), if_neg (by omega), if_neg (by omega), if_neg (by omega), if_neg (by omega)]; try simp [*])
theorem pG_o {m : Mem} {b : Bool} {n : Int} {k : Nat} {j : Int} (h : ¬ (k = 197 ∧ j = 9)) : pG m b n k j = m k j := up_ne h
theorem pG_9 {m : Mem} {b : Bool} {n : Int} : pG m b n 197 9 = if b = true then n else m 197 9 := up_at
theorem pE_o {m : Mem} {b : Bool} {k : Nat} {j : Int} (h : ¬ (k = 197 ∧ (j = 8 ∨ j = 9))) : pE m b k j = m k j := by rw [pE, pG_o (by omega), up_ne (by omega)]
theorem pE_8 {m : Mem} {b : Bool} : pE m b 197 8 = m 197 8 + bI b := by rw [pE, pG_o (by omega), up_at]
theorem pE_9 {m : Mem} {b : Bool} : pE m b 197 9 = if b = true then 20 else m 197 9 := by rw [pE, pG_9, up_ne (by omega)]
theorem pBK_o {m : Mem} {n : Int} {k : Nat} {j : Int} (h : k < 202 ∨ 204 < k) : pBK m n k j = m k j := by rw [pBK, up_ne (by omega), pB0, up_ne (by omega), up_ne (by omega)]
theorem pT_o {m : Mem} {c : Int} {k : Nat} {j : Int} (h : (k < 202 ∨ 204 < k) ∧ ¬ (k = 197 ∧ (j = 8 ∨ j = 9))) : pT m c k j = m k j := by
  have g : ∀ (a : Mem) (b : Bool) (n : Int), a k j = m k j → pG a b n k j = m k j := fun a b n q => by rw [pG_o (by omega)]; exact q
  have e : ∀ (a : Mem) (b : Bool), a k j = m k j → pE a b k j = m k j := fun a b q => by rw [pE_o (by omega)]; exact q
  have u : ∀ (q : Nat) (i v : Int), 202 ≤ q → q ≤ 204 → up m q i v k j = m k j := fun q i v h1 h2 => up_ne (by omega)
  unfold pT pB
  repeat' split
  all_goals first
    | exact g _ _ _ (pBK_o h.1)
    | exact e _ _ (pBK_o h.1)
    | exact g _ _ _ (u _ _ _ (by omega) (by omega))
    | exact e _ _ (u _ _ _ (by omega) (by omega))
    | exact g _ _ _ rfl
theorem pT_k {m : Mem} {c : Int} (hb : pTb m c = true) : (pT m c 197 8 = m 197 8 ∧ ¬ pT m c 197 9 = 20 ∧ 0 ≤ pT m c 197 9 ∧ pT m c 197 9 ≤ 20) ∨ (¬ m 197 9 = 20 ∧ pT m c 197 8 = m 197 8 + 1 ∧ pT m c 197 9 = 20) := by
  have kG : ∀ (a : Mem) (b : Bool) (n : Int), b = true → a 197 8 = m 197 8 → ¬ n = 20 → 0 ≤ n → n ≤ 20 → pG a b n 197 8 = m 197 8 ∧ ¬ pG a b n 197 9 = 20 ∧ 0 ≤ pG a b n 197 9 ∧ pG a b n 197 9 ≤ 20 := fun a b n h1 h2 h3 h4 h5 => by
    rw [pG_o (by omega), pG_9, if_pos h1]; exact ⟨h2, h3, h4, h5⟩
  have kE : ∀ (a : Mem) (b : Bool), b = true → a 197 8 = m 197 8 → pE a b 197 8 = m 197 8 + 1 ∧ pE a b 197 9 = 20 := fun a b h1 h2 => by
    rw [pE_8, pE_9, if_pos h1, h1, h2]; exact ⟨rfl, rfl⟩
  unfold pTb at hb
  unfold pT
  by_cases h0 : m 197 9 = 0
  · rw [if_pos h0] at hb; rw [if_pos h0]
    unfold pB
    unfold pBb at hb
    have hb := of_decide_eq_true hb
    by_cases q1 : c = 114
    · rw [if_pos q1]; exact Or.inl (kG _ _ _ rfl (pBK_o (by omega)) (by omega) (by omega) (by omega))
    rw [if_neg q1]
    by_cases q2 : c = 116
    · rw [if_pos q2]; exact Or.inl (kG _ _ _ rfl (pBK_o (by omega)) (by omega) (by omega) (by omega))
    rw [if_neg q2]
    by_cases q3 : c = 119
    · rw [if_pos q3]; exact Or.inl (kG _ _ _ rfl (pBK_o (by omega)) (by omega) (by omega) (by omega))
    rw [if_neg q3]
    exact Or.inr ⟨by omega, kE _ _ (by simp; omega) (pBK_o (by omega))⟩
  rw [if_neg h0] at hb; rw [if_neg h0]
  by_cases h1 : m 197 9 = 1
  · rw [if_pos (by omega)] at hb; rw [if_pos h1]; exact Or.inl (kG _ _ _ hb (up_ne (by omega)) (by omega) (by omega) (by omega))
  rw [if_neg h1]
  by_cases h2 : m 197 9 = 2
  · rw [if_pos (by omega)] at hb; rw [if_pos h2]
    split
    · exact Or.inr ⟨by omega, kE _ _ hb (up_ne (by omega))⟩
    · exact Or.inl (kG _ _ _ hb (up_ne (by omega)) (by omega) (by omega) (by omega))
  rw [if_neg (by omega)] at hb; rw [if_neg h2]
  by_cases h3 : m 197 9 = 3
  · rw [if_pos h3] at hb; rw [if_pos h3]; exact Or.inl (kG _ _ _ hb rfl (by omega) (by omega) (by omega))
  rw [if_neg h3] at hb; rw [if_neg h3]
  by_cases h4 : m 197 9 = 4
  · rw [if_pos h4] at hb; rw [if_pos h4]; exact Or.inr ⟨by omega, kE _ _ hb (up_ne (by omega))⟩
  rw [if_neg h4] at hb; rw [if_neg h4]
  by_cases h5 : m 197 9 = 5
  · rw [if_pos h5] at hb; rw [if_pos h5]; exact Or.inr ⟨by omega, kE _ _ hb (up_ne (by omega))⟩
  rw [if_neg h5] at hb; rw [if_neg h5]
  exact Or.inl (kG _ _ _ hb rfl (by omega) (by omega) (by omega))
theorem pT_I {m : Mem} {k : Int} (h : pI m k) (hb : pTb m (m 201 k) = true) : pI (pT m (m 201 k)) (k + 1) := by
  obtain ⟨⟨a1, a2⟩, ⟨b1, b2⟩, c, d⟩ := h
  have e11 : pT m (m 201 k) 197 11 = m 197 11 := pT_o (by omega)
  have e201 : ∀ j, pT m (m 201 k) 201 j = m 201 j := fun j => pT_o (by omega)
  refine ⟨?_, ?_, by rw [e11]; exact c, fun j h1 h2 => by rw [e201]; exact d j h1 (by omega)⟩
  · rcases pT_k hb with q | q
    · rw [q.1, if_neg q.2.1]; split at a2 <;> omega
    · rw [q.2.1, if_pos q.2.2]; rw [if_neg q.1] at a2; omega
  · rcases pT_k hb with q | q <;> omega
theorem pI_e {m : Mem} {k : Int} (h : pI m k) (hk : k < m 197 11) : 0 ≤ m 197 8 ∧ m 197 8 < 32 := by
  obtain ⟨⟨a1, a2⟩, b, c, d⟩ := h
  split at a2 <;> omega
def zMay (m : Mem) (z : Z) (k t : Int) : Bool :=
  if wr (m 202 k) = 0 then decide (wr (z (59 + 9 * m 203 k + 2)) = t + 1) && zCR z (m 203 k) else
  if wr (m 202 k) = 1 then decide (wr (z (59 + 9 * m 203 k + 2)) = t + 1) else
  if wr (m 202 k) = 2 then decide (0 < wr (zOwN z)) else decide (wr (z 0 + m 204 k) ≤ 10000)
def zTkN : Nat → Z × (Int → Int) → Z × (Int → Int)
  | 0, s => s
  | d + 1, s => zTkN d (zTk s.1 s.2, zOrd (zTk0 s.1) s.2)
def zDo (m : Mem) (k : Int) (s : Z × (Int → Int)) : Z × (Int → Int) :=
  if wr (m 202 k) = 0 then (zRd s.1 (m 203 k), s.2) else
  if wr (m 202 k) = 1 then (zWr s.1 (m 203 k) (m 204 k), s.2) else
  if wr (m 202 k) = 2 then (zWb s.1 (zOrd s.1 s.2 0), zOrd s.1 s.2) else zTkN (m 204 k).toNat s
theorem lp_X8_scan {G : GX} (E : EV G) {z : Z} : ∀ (d : Nat) (k : Int) (m : Mem), k + d = m 197 11 → 0 ≤ k → pI m k → J G SHP iX8_scan 0 0 (FN G SHP 0 0 (some (.inl (pSk d k m))) (sz (pSc d k m) z)) 12 [some (.inr (.ref 197)), some (.inl k)] [] (sz m z) 0 0 := by
  intro d
  induction d with
  | zero =>
    intro k m g0 g1 g2
    have hl := g2.2.2.1
    refine j_iload1 (q := 13) dX8_scan_12 rfl ?_
    refine j_aload0 (q := 14) dX8_scan_13 rfl ?_
    refine j_ngetI (by decide) 11 (j' := 11) (q := 17) dX8_scan_14 rfl fl_X8_160 sh_197 rfl rfl ?_
    refine j_icmp_ge (tgt := 39) (q := 20) dX8_scan_17 (by decide) rfl (by first | exact wr_id' (by omega) (by omega) | with_reducible exact wr_bI _ | exact rfl) (by first | exact wr_id' (by omega) (by omega) | with_reducible exact wr_bI _ | exact rfl) (fun h17 => ?_) (fun h17 => ?_)
    · refine j_iload1 (q := 40) dX8_scan_39 rfl ?_
      exact j_ireturn dX8_scan_40 rfl (rfl) (rfl)
    · omega
  | succ d ih =>
    intro k m g0 g1 g2
    have hl := g2.2.2.1
    refine j_iload1 (q := 13) dX8_scan_12 rfl ?_
    refine j_aload0 (q := 14) dX8_scan_13 rfl ?_
    refine j_ngetI (by decide) 11 (j' := 11) (q := 17) dX8_scan_14 rfl fl_X8_160 sh_197 rfl rfl ?_
    refine j_icmp_ge (tgt := 39) (q := 20) dX8_scan_17 (by decide) rfl (by first | exact wr_id' (by omega) (by omega) | with_reducible exact wr_bI _ | exact rfl) (by first | exact wr_id' (by omega) (by omega) | with_reducible exact wr_bI _ | exact rfl) (fun h17 => ?_) (fun h17 => ?_)
    · omega
    · have he := pI_e g2 (by omega)
      have hs := g2.2.1
      have hc := g2.2.2.2 k (by omega) (by omega)
      refine j_aload0 (q := 21) dX8_scan_20 rfl ?_
      refine j_aload0 (q := 22) dX8_scan_21 rfl ?_
      refine j_getR 3 (q := 25) dX8_scan_22 rfl fl_X8_19 sh_197 rfl ?_
      refine j_iload1 (q := 26) dX8_scan_25 rfl ?_
      refine j_nload (q := 27) (by decide) dX8_scan_26 rfl sh_201 (by first | exact wr_id' (by omega) (by omega) | with_reducible exact wr_bI _ | exact rfl) (by omega) (by omega) ?_
      refine j_callV1 (Mc := iX8_takes) (q := 30) (c' := 0) (s' := 0) dX8_scan_27 rfl kV_X8_takes jw_1220 ⟨by decide, by decide⟩ sh_197 rfl rfl rfl (Nat.le_refl _) (Nat.le_refl _) (ct_X8_takes E (by omega) (by omega) (by omega)) ?_
      refine j_ifeq_b (tgt := 39) (q := 33) dX8_scan_30 (by decide) rfl (fun h30 => ?_) (fun h30 => ?_)
      · refine j_iload1 (q := 40) dX8_scan_39 rfl ?_
        exact j_ireturn dX8_scan_40 rfl (by rw [pSk, if_neg (nb (by assumption))]) (by rw [pSc, if_neg (nb (by assumption))])
      · refine j_iinc1 (q := 36) dX8_scan_33 rfl rfl (by decide) ?_
        refine j_goto (tgt := 12) dX8_scan_36 (by decide) ?_
        exact j_fin (by rw [pSk, if_pos (by assumption)]) (by rw [pSc, if_pos (by assumption)]) (ih _ _ (by rw [pT_o (by omega)]; omega) (by omega) (pT_I g2 (by assumption)))
def pS0 (m : Mem) : Mem := up (up m 197 9 0) 197 8 0
def TX (m : Mem) : Prop := (0 ≤ m 197 11 ∧ m 197 11 ≤ 60) ∧ ∀ j, 0 ≤ j → j < m 197 11 → 33 ≤ m 201 j ∧ m 201 j ≤ 126
def pScn (m : Mem) : Mem := pSc (m 197 11).toNat 0 (pS0 m)
def pScK (m : Mem) : Int := pSk (m 197 11).toNat 0 (pS0 m)
theorem pI_0 {m : Mem} (h : TX m) : pI (pS0 m) 0 := by
  have e8 : pS0 m 197 8 = 0 := up_at
  have e9 : pS0 m 197 9 = 0 := by unfold pS0; rw [up_ne (by omega), up_at]
  have e11 : pS0 m 197 11 = m 197 11 := by unfold pS0; rw [up_ne (by omega), up_ne (by omega)]
  have e201 : ∀ j, pS0 m 201 j = m 201 j := fun j => by unfold pS0; rw [up_ne (by omega), up_ne (by omega)]
  refine ⟨by rw [e8, e9]; simp, by omega, by rw [e11]; exact h.1, fun j h1 h2 => by rw [e201]; exact h.2 j h1 (by omega)⟩
theorem ct_X8_scan {G : GX} (E : EV G) {m : Mem} {z : Z} (hT : TX m) : CT G SHP iX8_scan 0 0 [.inr (.ref 197)] (sz m z) (some (.inl (pScK m))) (sz (pScn m) z) := by
  refine j_met (L0 := [some (.inr (.ref 197)), none]) (by decide) E.1 E.2 rfl (Nat.le_of_ble_eq_true rfl) ?_
  refine j_aload0 (q := 1) dX8_scan_0 rfl ?_
  refine j_iconst (q := 2) dX8_scan_1 rfl ?_
  refine j_nputI (by decide) 9 (j' := 9) (q := 5) dX8_scan_2 rfl fw_X8_163 sh_197 rfl rfl ?_
  refine j_aload0 (q := 6) dX8_scan_5 rfl ?_
  refine j_iconst (q := 7) dX8_scan_6 rfl ?_
  refine j_nputI (by decide) 8 (j' := 8) (q := 10) dX8_scan_7 rfl fw_X8_166 sh_197 rfl rfl ?_
  refine j_mem (m' := sz (pS0 m) z) rfl ?_
  have hl := hT.1
  have e11 : pS0 m 197 11 = m 197 11 := by unfold pS0; rw [up_ne (by omega), up_ne (by omega)]
  refine j_iconst (q := 11) dX8_scan_10 rfl ?_
  refine j_istore1 (q := 12) dX8_scan_11 rfl rfl (by decide) ?_
  exact lp_X8_scan E (m 197 11).toNat 0 (pS0 m) (by omega) (by omega) (pI_0 hT)
theorem ct_X8_mayDo {G : GX} (E : EV G) {m : Mem} {z : Z} {n : Int} {t : Int} (hp : ∀ n, 0 ≤ n → n < m 197 8 → (0 ≤ m 203 n ∧ m 203 n < 64) ∧ (0 ≤ m 202 n ∧ m 202 n ≤ 3) ∧ 0 ≤ m 204 n ∧ m 204 n ≤ 9) (he : 0 ≤ m 197 8 ∧ m 197 8 ≤ 32) (hn : 0 ≤ n ∧ n < m 197 8) (ht : 0 ≤ t ∧ t < 6) : CT G SHP iX8_mayDo 0 0 [.inr (.ref 197), .inl n, .inl t] (sz m z) (some (.inl (bI (zMay m z n t)))) (sz m z) := by
  refine j_met (L0 := [some (.inr (.ref 197)), some (.inl n), some (.inl t), none]) (by decide) E.1 E.2 rfl (Nat.le_of_ble_eq_true rfl) ?_
  have hpn := hp n hn.1 hn.2
  refine j_aload0 (q := 1) dX8_mayDo_0 rfl ?_
  refine j_aload0 (q := 2) dX8_mayDo_1 rfl ?_
  refine j_getR 5 (q := 5) dX8_mayDo_2 rfl fl_X8_25 sh_197 rfl ?_
  refine j_iload1 (q := 6) dX8_mayDo_5 rfl ?_
  refine j_nload (q := 7) (by decide) dX8_mayDo_6 rfl sh_203 (by first | exact wr_id' (by omega) (by omega) | with_reducible exact wr_bI _ | exact rfl) (by omega) (by omega) ?_
  refine j_iconst (q := 8) dX8_mayDo_7 rfl ?_
  refine j_callV2 (Mc := iX8_of) (q := 11) (c' := 0) (s' := 0) dX8_mayDo_8 rfl kV_X8_of jw_1079 ⟨by decide, by decide⟩ sh_197 rfl rfl rfl (Nat.le_refl _) (Nat.le_refl _) (ct_X8_of E (by omega) (by omega)) ?_
  refine j_iload2 (q := 12) dX8_mayDo_11 rfl ?_
  refine j_iconst (q := 13) dX8_mayDo_12 rfl ?_
  refine j_iadd (q := 14) dX8_mayDo_13 rfl ?_
  refine j_icmp_ne (tgt := 21) (q := 17) dX8_mayDo_14 (by decide) rfl rfl (by first | exact wr_id' (by omega) (by omega) | with_reducible exact wr_bI _ | exact rfl) (fun h14 => ?_) (fun h14 => ?_)
  · refine j_iconst (q := 22) dX8_mayDo_21 rfl ?_
    refine j_istore3 (q := 23) dX8_mayDo_22 rfl rfl (by decide) ?_
    refine j_aload0 (q := 24) dX8_mayDo_23 rfl ?_
    refine j_getR 4 (q := 27) dX8_mayDo_24 rfl fl_X8_22 sh_197 rfl ?_
    refine j_iload1 (q := 28) dX8_mayDo_27 rfl ?_
    refine j_nload (q := 29) (by decide) dX8_mayDo_28 rfl sh_202 (by first | exact wr_id' (by omega) (by omega) | with_reducible exact wr_bI _ | exact rfl) (by omega) (by omega) ?_
    by_cases h29_0 : wr (m 202 n) = 0
    · refine j_tableIn (x' := wr (m 202 n)) (tgt := 56) 0 dX8_mayDo_29 (by first | exact wr_id' (by omega) (by omega) | with_reducible exact wr_bI _ | exact rfl) (by omega) (by decide) rfl (by decide) ?_
      refine j_iload3 (q := 57) dX8_mayDo_56 rfl ?_
      refine j_if_eq (tgt := 77) (q := 60) dX8_mayDo_57 (by decide) rfl (by first | exact wr_id' (by omega) (by omega) | with_reducible exact wr_bI _ | exact rfl) (fun h57 => ?_) (fun h57 => ?_)
      · refine j_iconst (q := 78) dX8_mayDo_77 rfl ?_
        exact j_zreturn dX8_mayDo_78 rfl (by decide) (by unfold zMay; first | (rw [if_pos (by omega)]; simp [bI, *]; done) | (rw [if_neg (by omega), if_pos (by omega)]; simp [bI, *]; done) | (rw [if_neg (by omega), if_neg (by omega), if_pos (by omega)]; simp [bI, *]; done) | (rw [if_neg (by omega), if_neg (by omega), if_neg (by omega)]; first | exact bI_t (by omega) | exact bI_f (by omega))) (rfl)
      · omega
    by_cases h29_1 : wr (m 202 n) = 1
    · refine j_tableIn (x' := wr (m 202 n)) (tgt := 79) 1 dX8_mayDo_29 (by first | exact wr_id' (by omega) (by omega) | with_reducible exact wr_bI _ | exact rfl) (by omega) (by decide) rfl (by decide) ?_
      refine j_iload3 (q := 80) dX8_mayDo_79 rfl ?_
      exact j_zreturn dX8_mayDo_80 rfl (by decide) (by unfold zMay; first | (rw [if_pos (by omega)]; simp [bI, *]; done) | (rw [if_neg (by omega), if_pos (by omega)]; simp [bI, *]; done) | (rw [if_neg (by omega), if_neg (by omega), if_pos (by omega)]; simp [bI, *]; done) | (rw [if_neg (by omega), if_neg (by omega), if_neg (by omega)]; first | exact bI_t (by omega) | exact bI_f (by omega))) (rfl)
    by_cases h29_2 : wr (m 202 n) = 2
    · refine j_tableIn (x' := wr (m 202 n)) (tgt := 81) 2 dX8_mayDo_29 (by first | exact wr_id' (by omega) (by omega) | with_reducible exact wr_bI _ | exact rfl) (by omega) (by decide) rfl (by decide) ?_
      refine j_aload0 (q := 82) dX8_mayDo_81 rfl ?_
      refine j_callV0 (Mc := iX8_owedMany) (q := 85) (c' := 0) (s' := 0) dX8_mayDo_82 rfl kV_X8_owedMany jw_1172 ⟨by decide, by decide⟩ sh_197 rfl rfl rfl (Nat.le_refl _) (Nat.le_refl _) (ct_X8_owedMany E) ?_
      refine j_if_le (tgt := 92) (q := 88) dX8_mayDo_85 (by decide) rfl rfl (fun h85 => ?_) (fun h85 => ?_)
      · refine j_iconst (q := 93) dX8_mayDo_92 rfl ?_
        exact j_zreturn dX8_mayDo_93 rfl (by decide) (by unfold zMay; first | (rw [if_pos (by omega)]; simp [bI, *]; done) | (rw [if_neg (by omega), if_pos (by omega)]; simp [bI, *]; done) | (rw [if_neg (by omega), if_neg (by omega), if_pos (by omega)]; simp [bI, *]; done) | (rw [if_neg (by omega), if_neg (by omega), if_neg (by omega)]; first | exact bI_t (by omega) | exact bI_f (by omega))) (rfl)
      · refine j_iconst (q := 89) dX8_mayDo_88 rfl ?_
        refine j_goto (tgt := 93) dX8_mayDo_89 (by decide) ?_
        exact j_zreturn dX8_mayDo_93 rfl (by decide) (by unfold zMay; first | (rw [if_pos (by omega)]; simp [bI, *]; done) | (rw [if_neg (by omega), if_pos (by omega)]; simp [bI, *]; done) | (rw [if_neg (by omega), if_neg (by omega), if_pos (by omega)]; simp [bI, *]; done) | (rw [if_neg (by omega), if_neg (by omega), if_neg (by omega)]; first | exact bI_t (by omega) | exact bI_f (by omega))) (rfl)
    refine j_tableOut (x' := wr (m 202 n)) (tgt := 94) dX8_mayDo_29 (by first | exact wr_id' (by omega) (by omega) | with_reducible exact wr_bI _ | exact rfl) (by omega) (by decide) ?_
    refine j_aload0 (q := 95) dX8_mayDo_94 rfl ?_
    refine j_getR 0 (q := 98) dX8_mayDo_95 rfl fl_X8_7 sh_197 rfl ?_
    refine j_iconst (q := 99) dX8_mayDo_98 rfl ?_
    refine j_zload (q := 100) dX8_mayDo_99 rfl (by first | exact wr_id' (by omega) (by omega) | with_reducible exact wr_bI _ | exact rfl) (by omega) (by omega) ?_
    refine j_aload0 (q := 101) dX8_mayDo_100 rfl ?_
    refine j_getR 6 (q := 104) dX8_mayDo_101 rfl fl_X8_28 sh_197 rfl ?_
    refine j_iload1 (q := 105) dX8_mayDo_104 rfl ?_
    refine j_nload (q := 106) (by decide) dX8_mayDo_105 rfl sh_204 (by first | exact wr_id' (by omega) (by omega) | with_reducible exact wr_bI _ | exact rfl) (by omega) (by omega) ?_
    refine j_iadd (q := 107) dX8_mayDo_106 rfl ?_
    refine j_sipush (q := 110) dX8_mayDo_107 rfl rfl ?_
    refine j_icmp_gt (tgt := 117) (q := 113) dX8_mayDo_110 (by decide) rfl rfl (by first | exact wr_id' (by omega) (by omega) | with_reducible exact wr_bI _ | exact rfl) (fun h110 => ?_) (fun h110 => ?_)
    · refine j_iconst (q := 118) dX8_mayDo_117 rfl ?_
      exact j_zreturn dX8_mayDo_118 rfl (by decide) (by unfold zMay; first | (rw [if_pos (by omega)]; simp [bI, *]; done) | (rw [if_neg (by omega), if_pos (by omega)]; simp [bI, *]; done) | (rw [if_neg (by omega), if_neg (by omega), if_pos (by omega)]; simp [bI, *]; done) | (rw [if_neg (by omega), if_neg (by omega), if_neg (by omega)]; first | exact bI_t (by omega) | exact bI_f (by omega))) (rfl)
    · refine j_iconst (q := 114) dX8_mayDo_113 rfl ?_
      refine j_goto (tgt := 118) dX8_mayDo_114 (by decide) ?_
      exact j_zreturn dX8_mayDo_118 rfl (by decide) (by unfold zMay; first | (rw [if_pos (by omega)]; simp [bI, *]; done) | (rw [if_neg (by omega), if_pos (by omega)]; simp [bI, *]; done) | (rw [if_neg (by omega), if_neg (by omega), if_pos (by omega)]; simp [bI, *]; done) | (rw [if_neg (by omega), if_neg (by omega), if_neg (by omega)]; first | exact bI_t (by omega) | exact bI_f (by omega))) (rfl)
  · refine j_iconst (q := 18) dX8_mayDo_17 rfl ?_
    refine j_goto (tgt := 22) dX8_mayDo_18 (by decide) ?_
    refine j_istore3 (q := 23) dX8_mayDo_22 rfl rfl (by decide) ?_
    refine j_aload0 (q := 24) dX8_mayDo_23 rfl ?_
    refine j_getR 4 (q := 27) dX8_mayDo_24 rfl fl_X8_22 sh_197 rfl ?_
    refine j_iload1 (q := 28) dX8_mayDo_27 rfl ?_
    refine j_nload (q := 29) (by decide) dX8_mayDo_28 rfl sh_202 (by first | exact wr_id' (by omega) (by omega) | with_reducible exact wr_bI _ | exact rfl) (by omega) (by omega) ?_
    by_cases h29_0 : wr (m 202 n) = 0
    · refine j_tableIn (x' := wr (m 202 n)) (tgt := 56) 0 dX8_mayDo_29 (by first | exact wr_id' (by omega) (by omega) | with_reducible exact wr_bI _ | exact rfl) (by omega) (by decide) rfl (by decide) ?_
      refine j_iload3 (q := 57) dX8_mayDo_56 rfl ?_
      refine j_if_eq (tgt := 77) (q := 60) dX8_mayDo_57 (by decide) rfl (by first | exact wr_id' (by omega) (by omega) | with_reducible exact wr_bI _ | exact rfl) (fun h57 => ?_) (fun h57 => ?_)
      · omega
      · refine j_aload0 (q := 61) dX8_mayDo_60 rfl ?_
        refine j_aload0 (q := 62) dX8_mayDo_61 rfl ?_
        refine j_getR 5 (q := 65) dX8_mayDo_62 rfl fl_X8_25 sh_197 rfl ?_
        refine j_iload1 (q := 66) dX8_mayDo_65 rfl ?_
        refine j_nload (q := 67) (by decide) dX8_mayDo_66 rfl sh_203 (by first | exact wr_id' (by omega) (by omega) | with_reducible exact wr_bI _ | exact rfl) (by omega) (by omega) ?_
        refine j_callV1 (Mc := iX8_canRead) (q := 70) (c' := 0) (s' := 0) dX8_mayDo_67 rfl kV_X8_canRead jw_1160 ⟨by decide, by decide⟩ sh_197 rfl rfl rfl (Nat.le_refl _) (Nat.le_refl _) (ct_X8_canRead E (by omega)) ?_
        refine j_ifeq_b (tgt := 77) (q := 73) dX8_mayDo_70 (by decide) rfl (fun h70 => ?_) (fun h70 => ?_)
        · refine j_iconst (q := 78) dX8_mayDo_77 rfl ?_
          exact j_zreturn dX8_mayDo_78 rfl (by decide) (by unfold zMay; first | (rw [if_pos (by omega)]; simp [bI, *]; done) | (rw [if_neg (by omega), if_pos (by omega)]; simp [bI, *]; done) | (rw [if_neg (by omega), if_neg (by omega), if_pos (by omega)]; simp [bI, *]; done) | (rw [if_neg (by omega), if_neg (by omega), if_neg (by omega)]; first | exact bI_t (by omega) | exact bI_f (by omega))) (rfl)
        · refine j_iconst (q := 74) dX8_mayDo_73 rfl ?_
          refine j_goto (tgt := 78) dX8_mayDo_74 (by decide) ?_
          exact j_zreturn dX8_mayDo_78 rfl (by decide) (by unfold zMay; first | (rw [if_pos (by omega)]; simp [bI, *]; done) | (rw [if_neg (by omega), if_pos (by omega)]; simp [bI, *]; done) | (rw [if_neg (by omega), if_neg (by omega), if_pos (by omega)]; simp [bI, *]; done) | (rw [if_neg (by omega), if_neg (by omega), if_neg (by omega)]; first | exact bI_t (by omega) | exact bI_f (by omega))) (rfl)
    by_cases h29_1 : wr (m 202 n) = 1
    · refine j_tableIn (x' := wr (m 202 n)) (tgt := 79) 1 dX8_mayDo_29 (by first | exact wr_id' (by omega) (by omega) | with_reducible exact wr_bI _ | exact rfl) (by omega) (by decide) rfl (by decide) ?_
      refine j_iload3 (q := 80) dX8_mayDo_79 rfl ?_
      exact j_zreturn dX8_mayDo_80 rfl (by decide) (by unfold zMay; first | (rw [if_pos (by omega)]; simp [bI, *]; done) | (rw [if_neg (by omega), if_pos (by omega)]; simp [bI, *]; done) | (rw [if_neg (by omega), if_neg (by omega), if_pos (by omega)]; simp [bI, *]; done) | (rw [if_neg (by omega), if_neg (by omega), if_neg (by omega)]; first | exact bI_t (by omega) | exact bI_f (by omega))) (rfl)
    by_cases h29_2 : wr (m 202 n) = 2
    · refine j_tableIn (x' := wr (m 202 n)) (tgt := 81) 2 dX8_mayDo_29 (by first | exact wr_id' (by omega) (by omega) | with_reducible exact wr_bI _ | exact rfl) (by omega) (by decide) rfl (by decide) ?_
      refine j_aload0 (q := 82) dX8_mayDo_81 rfl ?_
      refine j_callV0 (Mc := iX8_owedMany) (q := 85) (c' := 0) (s' := 0) dX8_mayDo_82 rfl kV_X8_owedMany jw_1172 ⟨by decide, by decide⟩ sh_197 rfl rfl rfl (Nat.le_refl _) (Nat.le_refl _) (ct_X8_owedMany E) ?_
      refine j_if_le (tgt := 92) (q := 88) dX8_mayDo_85 (by decide) rfl rfl (fun h85 => ?_) (fun h85 => ?_)
      · refine j_iconst (q := 93) dX8_mayDo_92 rfl ?_
        exact j_zreturn dX8_mayDo_93 rfl (by decide) (by unfold zMay; first | (rw [if_pos (by omega)]; simp [bI, *]; done) | (rw [if_neg (by omega), if_pos (by omega)]; simp [bI, *]; done) | (rw [if_neg (by omega), if_neg (by omega), if_pos (by omega)]; simp [bI, *]; done) | (rw [if_neg (by omega), if_neg (by omega), if_neg (by omega)]; first | exact bI_t (by omega) | exact bI_f (by omega))) (rfl)
      · refine j_iconst (q := 89) dX8_mayDo_88 rfl ?_
        refine j_goto (tgt := 93) dX8_mayDo_89 (by decide) ?_
        exact j_zreturn dX8_mayDo_93 rfl (by decide) (by unfold zMay; first | (rw [if_pos (by omega)]; simp [bI, *]; done) | (rw [if_neg (by omega), if_pos (by omega)]; simp [bI, *]; done) | (rw [if_neg (by omega), if_neg (by omega), if_pos (by omega)]; simp [bI, *]; done) | (rw [if_neg (by omega), if_neg (by omega), if_neg (by omega)]; first | exact bI_t (by omega) | exact bI_f (by omega))) (rfl)
    refine j_tableOut (x' := wr (m 202 n)) (tgt := 94) dX8_mayDo_29 (by first | exact wr_id' (by omega) (by omega) | with_reducible exact wr_bI _ | exact rfl) (by omega) (by decide) ?_
    refine j_aload0 (q := 95) dX8_mayDo_94 rfl ?_
    refine j_getR 0 (q := 98) dX8_mayDo_95 rfl fl_X8_7 sh_197 rfl ?_
    refine j_iconst (q := 99) dX8_mayDo_98 rfl ?_
    refine j_zload (q := 100) dX8_mayDo_99 rfl (by first | exact wr_id' (by omega) (by omega) | with_reducible exact wr_bI _ | exact rfl) (by omega) (by omega) ?_
    refine j_aload0 (q := 101) dX8_mayDo_100 rfl ?_
    refine j_getR 6 (q := 104) dX8_mayDo_101 rfl fl_X8_28 sh_197 rfl ?_
    refine j_iload1 (q := 105) dX8_mayDo_104 rfl ?_
    refine j_nload (q := 106) (by decide) dX8_mayDo_105 rfl sh_204 (by first | exact wr_id' (by omega) (by omega) | with_reducible exact wr_bI _ | exact rfl) (by omega) (by omega) ?_
    refine j_iadd (q := 107) dX8_mayDo_106 rfl ?_
    refine j_sipush (q := 110) dX8_mayDo_107 rfl rfl ?_
    refine j_icmp_gt (tgt := 117) (q := 113) dX8_mayDo_110 (by decide) rfl rfl (by first | exact wr_id' (by omega) (by omega) | with_reducible exact wr_bI _ | exact rfl) (fun h110 => ?_) (fun h110 => ?_)
    · refine j_iconst (q := 118) dX8_mayDo_117 rfl ?_
      exact j_zreturn dX8_mayDo_118 rfl (by decide) (by unfold zMay; first | (rw [if_pos (by omega)]; simp [bI, *]; done) | (rw [if_neg (by omega), if_pos (by omega)]; simp [bI, *]; done) | (rw [if_neg (by omega), if_neg (by omega), if_pos (by omega)]; simp [bI, *]; done) | (rw [if_neg (by omega), if_neg (by omega), if_neg (by omega)]; first | exact bI_t (by omega) | exact bI_f (by omega))) (rfl)
    · refine j_iconst (q := 114) dX8_mayDo_113 rfl ?_
      refine j_goto (tgt := 118) dX8_mayDo_114 (by decide) ?_
      exact j_zreturn dX8_mayDo_118 rfl (by decide) (by unfold zMay; first | (rw [if_pos (by omega)]; simp [bI, *]; done) | (rw [if_neg (by omega), if_pos (by omega)]; simp [bI, *]; done) | (rw [if_neg (by omega), if_neg (by omega), if_pos (by omega)]; simp [bI, *]; done) | (rw [if_neg (by omega), if_neg (by omega), if_neg (by omega)]; first | exact bI_t (by omega) | exact bI_f (by omega))) (rfl)
theorem WI_tkN {K : Int} : ∀ (d : Nat) (s : Z × (Int → Int)), WI s.1 K → WI (zTkN d s).1 K := by
  intro d
  induction d with
  | zero => intro s h; exact h
  | succ d ih => intro s h; rw [zTkN]; exact ih (zTk s.1 s.2, zOrd (zTk0 s.1) s.2) (by dsimp only; exact WI_tk h)
theorem WI_do {m : Mem} {K n t : Int} {s : Z × (Int → Int)} (hc : 0 ≤ m 203 n ∧ m 203 n < 64) (hm : zMay m s.1 n t = true) (h : WI s.1 K) : WI (zDo m n s).1 K := by
  unfold zDo
  by_cases h0 : wr (m 202 n) = 0
  · rw [if_pos h0]; exact WI_rd hc h
  by_cases h1 : wr (m 202 n) = 1
  · rw [if_neg h0, if_pos h1]; exact WI_wr hc h
  by_cases h2 : wr (m 202 n) = 2
  · rw [if_neg h0, if_neg h1, if_pos h2]
    rw [zMay, if_neg h0, if_neg h1, if_pos h2] at hm
    have hp := of_decide_eq_true hm
    have hb := zOw_b s.1
    rw [wr_id' (by omega) (by omega)] at hp
    have h2 := zOr_b s.1 s.2
    rw [zOrN_n] at h2
    exact WI_wb (h2.1 0 (by omega) (by omega)) h
  · rw [if_neg h0, if_neg h1, if_neg h2]; exact WI_tkN _ _ h
theorem lp_X8_does {G : GX} (E : EV G) {m : Mem} {K : Int} {F : FinT} {n : Int} (hn : 0 ≤ n ∧ n < 32) (hv : 0 ≤ m 204 n ∧ m 204 n ≤ 9) : ∀ (d : Nat) (i : Int) (s : Z × (Int → Int)), i + d = m 204 n → 0 ≤ i → WI s.1 K → (∀ (x : Z × (Int → Int)), x = zTkN d s → J G SHP iX8_does 0 0 F 93 [some (.inr (.ref 197)), some (.inl n), none] [] (sz (so m x.2) x.1) 0 0) → J G SHP iX8_does 0 0 F 73 [some (.inr (.ref 197)), some (.inl n), some (.inl i)] [] (sz (so m s.2) s.1) 0 0 := by
  intro d
  induction d with
  | zero =>
    intro i s g0 g1 g2 kk
    have e4 : so m s.2 204 n = m 204 n := rfl
    refine j_iload2 (q := 74) dX8_does_73 rfl ?_
    refine j_aload0 (q := 75) dX8_does_74 rfl ?_
    refine j_getR 6 (q := 78) dX8_does_75 rfl fl_X8_28 sh_197 rfl ?_
    refine j_iload1 (q := 79) dX8_does_78 rfl ?_
    refine j_nload (q := 80) (by decide) dX8_does_79 rfl sh_204 (by first | exact wr_id' (by omega) (by omega) | with_reducible exact wr_bI _ | exact rfl) (by omega) (by omega) ?_
    refine j_icmp_ge (tgt := 93) (q := 83) dX8_does_80 (by decide) rfl (by first | exact wr_id' (by omega) (by omega) | with_reducible exact wr_bI _ | exact rfl) (by first | exact wr_id' (by omega) (by omega) | with_reducible exact wr_bI _ | exact rfl) (fun h80 => ?_) (fun h80 => ?_)
    · refine j_fgt2 ?_
      exact kk _ rfl
    · omega
  | succ d ih =>
    intro i s g0 g1 g2 kk
    have e4 : so m s.2 204 n = m 204 n := rfl
    refine j_iload2 (q := 74) dX8_does_73 rfl ?_
    refine j_aload0 (q := 75) dX8_does_74 rfl ?_
    refine j_getR 6 (q := 78) dX8_does_75 rfl fl_X8_28 sh_197 rfl ?_
    refine j_iload1 (q := 79) dX8_does_78 rfl ?_
    refine j_nload (q := 80) (by decide) dX8_does_79 rfl sh_204 (by first | exact wr_id' (by omega) (by omega) | with_reducible exact wr_bI _ | exact rfl) (by omega) (by omega) ?_
    refine j_icmp_ge (tgt := 93) (q := 83) dX8_does_80 (by decide) rfl (by first | exact wr_id' (by omega) (by omega) | with_reducible exact wr_bI _ | exact rfl) (by first | exact wr_id' (by omega) (by omega) | with_reducible exact wr_bI _ | exact rfl) (fun h80 => ?_) (fun h80 => ?_)
    · omega
    · refine j_aload0 (q := 84) dX8_does_83 rfl ?_
      refine j_callV0v (Mc := iX8_tick) (q := 87) (c' := 0) (s' := 0) dX8_does_84 rfl kV_X8_tick jw_1192 ⟨by decide, by decide⟩ sh_197 rfl rfl rfl (Nat.le_refl _) (Nat.le_refl _) (ct_X8_tick E (by assumption)) ?_
      refine j_mem (m' := sz (so m (zTk s.1 s.2, zOrd (zTk0 s.1) s.2).2) (zTk s.1 s.2, zOrd (zTk0 s.1) s.2).1) (by rw [so_so]; simp only [so_at]) ?_
      refine j_iinc2 (q := 90) dX8_does_87 rfl rfl (by decide) ?_
      refine j_goto (tgt := 73) dX8_does_90 (by decide) ?_
      exact ih _ (zTk s.1 s.2, zOrd (zTk0 s.1) s.2) (by omega) (by omega) (by dsimp only; exact WI_tk g2) (fun x hx => kk x (hx.trans (rfl)))
theorem ct_X8_does {G : GX} (E : EV G) {m : Mem} {s : Z × (Int → Int)} {K : Int} {n : Int} {t : Int} (hp : ∀ n, 0 ≤ n → n < m 197 8 → (0 ≤ m 203 n ∧ m 203 n < 64) ∧ (0 ≤ m 202 n ∧ m 202 n ≤ 3) ∧ 0 ≤ m 204 n ∧ m 204 n ≤ 9) (he : 0 ≤ m 197 8 ∧ m 197 8 ≤ 32) (hn : 0 ≤ n ∧ n < m 197 8) (hm : zMay m s.1 n t = true) (hW : WI s.1 K) : CT G SHP iX8_does 0 0 [.inr (.ref 197), .inl n] (sz (so m s.2) s.1) none (sz (so m (zDo m n s).2) (zDo m n s).1) := by
  refine j_met (L0 := [some (.inr (.ref 197)), some (.inl n), none]) (by decide) E.1 E.2 rfl (Nat.le_of_ble_eq_true rfl) ?_
  have hpn := hp n hn.1 hn.2
  have e2 : so m s.2 202 n = m 202 n := rfl
  have e3 : so m s.2 203 n = m 203 n := rfl
  have e4 : so m s.2 204 n = m 204 n := rfl
  have hcn : 0 ≤ so m s.2 203 n ∧ so m s.2 203 n < 64 := hpn.1
  have e2w : wr (so m s.2 202 n) = m 202 n := wr_id' (by omega) (by omega)
  have e2m : wr (m 202 n) = m 202 n := wr_id' (by omega) (by omega)
  refine j_aload0 (q := 1) dX8_does_0 rfl ?_
  refine j_getR 4 (q := 4) dX8_does_1 rfl fl_X8_22 sh_197 rfl ?_
  refine j_iload1 (q := 5) dX8_does_4 rfl ?_
  refine j_nload (q := 6) (by decide) dX8_does_5 rfl sh_202 (by first | exact wr_id' (by omega) (by omega) | with_reducible exact wr_bI _ | exact rfl) (by omega) (by omega) ?_
  refine j_if_ne (tgt := 23) (q := 9) dX8_does_6 (by decide) rfl rfl (fun h6 => ?_) (fun h6 => ?_)
  · refine j_aload0 (q := 24) dX8_does_23 rfl ?_
    refine j_getR 4 (q := 27) dX8_does_24 rfl fl_X8_22 sh_197 rfl ?_
    refine j_iload1 (q := 28) dX8_does_27 rfl ?_
    refine j_nload (q := 29) (by decide) dX8_does_28 rfl sh_202 (by first | exact wr_id' (by omega) (by omega) | with_reducible exact wr_bI _ | exact rfl) (by omega) (by omega) ?_
    refine j_iconst (q := 30) dX8_does_29 rfl ?_
    refine j_icmp_ne (tgt := 53) (q := 33) dX8_does_30 (by decide) rfl rfl (by first | exact wr_id' (by omega) (by omega) | with_reducible exact wr_bI _ | exact rfl) (fun h30 => ?_) (fun h30 => ?_)
    · refine j_aload0 (q := 54) dX8_does_53 rfl ?_
      refine j_getR 4 (q := 57) dX8_does_54 rfl fl_X8_22 sh_197 rfl ?_
      refine j_iload1 (q := 58) dX8_does_57 rfl ?_
      refine j_nload (q := 59) (by decide) dX8_does_58 rfl sh_202 (by first | exact wr_id' (by omega) (by omega) | with_reducible exact wr_bI _ | exact rfl) (by omega) (by omega) ?_
      refine j_iconst (q := 60) dX8_does_59 rfl ?_
      refine j_icmp_ne (tgt := 71) (q := 63) dX8_does_60 (by decide) rfl rfl (by first | exact wr_id' (by omega) (by omega) | with_reducible exact wr_bI _ | exact rfl) (fun h60 => ?_) (fun h60 => ?_)
      · refine j_iconst (q := 72) dX8_does_71 rfl ?_
        refine j_istore2 (q := 73) dX8_does_72 rfl rfl (by decide) ?_
        refine lp_X8_does E (K := K) (n := n) ⟨by omega, by omega⟩ hpn.2.2 (m 204 n).toNat 0 s (by omega) (by omega) hW ?_
        intro x hx
        subst hx
        exact j_return dX8_does_93 rfl (by first | (rw [zDo, if_pos (by omega)]; done) | (rw [zDo, if_pos (by omega)]; rfl) | (rw [zDo, if_neg (by omega), if_pos (by omega)]; done) | (rw [zDo, if_neg (by omega), if_pos (by omega)]; rfl) | (rw [zDo, if_neg (by omega), if_neg (by omega), if_pos (by omega), so_so]; rfl) | (rw [zDo, if_neg (by omega), if_neg (by omega), if_neg (by omega)]; done) | (rw [zDo, if_neg (by omega), if_neg (by omega), if_neg (by omega)]; rfl))
      · have hm2 := hm
        rw [zMay, if_neg (by omega), if_neg (by omega), if_pos (by omega)] at hm2
        have hm3 := of_decide_eq_true hm2
        have hb := zOw_b s.1
        rw [wr_id' (by omega) (by omega)] at hm3
        have hon : 0 < zOrN s.1 (so m s.2 205) := by rw [zOrN_n]; exact hm3
        refine j_aload0 (q := 64) dX8_does_63 rfl ?_
        refine j_callV0 (Mc := iX8_writesBack) (q := 67) (c' := 0) (s' := 0) dX8_does_64 rfl kV_X8_writesBack jw_1176 ⟨by decide, by decide⟩ sh_197 rfl rfl rfl (Nat.le_refl _) (Nat.le_refl _) (ct_X8_writesBack E (by assumption) (by assumption)) ?_
        refine j_pop (q := 68) dX8_does_67 rfl rfl ?_
        refine j_goto (tgt := 93) dX8_does_68 (by decide) ?_
        exact j_return dX8_does_93 rfl (by first | (rw [zDo, if_pos (by omega)]; done) | (rw [zDo, if_pos (by omega)]; rfl) | (rw [zDo, if_neg (by omega), if_pos (by omega)]; done) | (rw [zDo, if_neg (by omega), if_pos (by omega)]; rfl) | (rw [zDo, if_neg (by omega), if_neg (by omega), if_pos (by omega), so_so]; rfl) | (rw [zDo, if_neg (by omega), if_neg (by omega), if_neg (by omega)]; done) | (rw [zDo, if_neg (by omega), if_neg (by omega), if_neg (by omega)]; rfl))
    · refine j_aload0 (q := 34) dX8_does_33 rfl ?_
      refine j_aload0 (q := 35) dX8_does_34 rfl ?_
      refine j_getR 5 (q := 38) dX8_does_35 rfl fl_X8_25 sh_197 rfl ?_
      refine j_iload1 (q := 39) dX8_does_38 rfl ?_
      refine j_nload (q := 40) (by decide) dX8_does_39 rfl sh_203 (by first | exact wr_id' (by omega) (by omega) | with_reducible exact wr_bI _ | exact rfl) (by omega) (by omega) ?_
      refine j_aload0 (q := 41) dX8_does_40 rfl ?_
      refine j_getR 6 (q := 44) dX8_does_41 rfl fl_X8_28 sh_197 rfl ?_
      refine j_iload1 (q := 45) dX8_does_44 rfl ?_
      refine j_nload (q := 46) (by decide) dX8_does_45 rfl sh_204 (by first | exact wr_id' (by omega) (by omega) | with_reducible exact wr_bI _ | exact rfl) (by omega) (by omega) ?_
      refine j_callV2 (Mc := iX8_writes) (q := 49) (c' := 0) (s' := 0) dX8_does_46 rfl kV_X8_writes jw_1119 ⟨by decide, by decide⟩ sh_197 rfl rfl rfl (Nat.le_refl _) (Nat.le_refl _) (ct_X8_writes E (by omega) (by assumption)) ?_
      refine j_pop (q := 50) dX8_does_49 rfl rfl ?_
      refine j_goto (tgt := 93) dX8_does_50 (by decide) ?_
      exact j_return dX8_does_93 rfl (by first | (rw [zDo, if_pos (by omega)]; done) | (rw [zDo, if_pos (by omega)]; rfl) | (rw [zDo, if_neg (by omega), if_pos (by omega)]; done) | (rw [zDo, if_neg (by omega), if_pos (by omega)]; rfl) | (rw [zDo, if_neg (by omega), if_neg (by omega), if_pos (by omega), so_so]; rfl) | (rw [zDo, if_neg (by omega), if_neg (by omega), if_neg (by omega)]; done) | (rw [zDo, if_neg (by omega), if_neg (by omega), if_neg (by omega)]; rfl))
  · refine j_aload0 (q := 10) dX8_does_9 rfl ?_
    refine j_aload0 (q := 11) dX8_does_10 rfl ?_
    refine j_getR 5 (q := 14) dX8_does_11 rfl fl_X8_25 sh_197 rfl ?_
    refine j_iload1 (q := 15) dX8_does_14 rfl ?_
    refine j_nload (q := 16) (by decide) dX8_does_15 rfl sh_203 (by first | exact wr_id' (by omega) (by omega) | with_reducible exact wr_bI _ | exact rfl) (by omega) (by omega) ?_
    refine j_callV1 (Mc := iX8_reads) (q := 19) (c' := 0) (s' := 0) dX8_does_16 rfl kV_X8_reads jw_1164 ⟨by decide, by decide⟩ sh_197 rfl rfl rfl (Nat.le_refl _) (Nat.le_refl _) (ct_X8_reads E (by omega) (by assumption)) ?_
    refine j_pop (q := 20) dX8_does_19 rfl rfl ?_
    refine j_goto (tgt := 93) dX8_does_20 (by decide) ?_
    exact j_return dX8_does_93 rfl (by first | (rw [zDo, if_pos (by omega)]; done) | (rw [zDo, if_pos (by omega)]; rfl) | (rw [zDo, if_neg (by omega), if_pos (by omega)]; done) | (rw [zDo, if_neg (by omega), if_pos (by omega)]; rfl) | (rw [zDo, if_neg (by omega), if_neg (by omega), if_pos (by omega), so_so]; rfl) | (rw [zDo, if_neg (by omega), if_neg (by omega), if_neg (by omega)]; done) | (rw [zDo, if_neg (by omega), if_neg (by omega), if_neg (by omega)]; rfl))

/-! the law: what is owed, write-backs, ticks -/
/-- an own plane that some plane of the class stands for -/
def LK (z : Z) (T B K : Int) : Prop := LX z ∧ ∃ P, RR P z T B K ∧ CX P
theorem LK.x {z : Z} {T B K : Int} (h : LK z T B K) : LX z := h.1
theorem LK.i {z : Z} {T B K : Int} (h : LK z T B K) : IZ z T B := by obtain ⟨_, P, hR, _⟩ := h; exact hR.2.2.2.2.2
theorem LK.w {z : Z} {T B K : Int} (h : LK z T B K) : WI z K := by obtain ⟨_, P, hR, _⟩ := h; exact hR.2.2.2.2.1
theorem LK_wr {z : Z} {T B K k b : Int} (hk : 0 ≤ k ∧ k < 16) (hb : b = 0 ∨ b = 1) (h : LK z T B K) : LK (zWr z (cr k) b) T B K := by
  obtain ⟨hX, P, hR, hC⟩ := h
  refine ⟨LX_wr (cr_b hk) (cr_pl hk) hb hX, cWb P (cr k) (decide (b = 1)), ?_, CX_wb hR.2.2.2.1 hC⟩
  have r := R_wb (b := decide (b = 1)) (cr_b hk) hR
  rcases hb with rfl | rfl <;> exact r
theorem LK_rd {z : Z} {T B K k : Int} (hk : 0 ≤ k ∧ k < 16) (hcr : zCR z (cr k) = true) (hB : B + 1 ≤ 1000000) (h : LK z T B K) : LK (zRd z (cr k)) T (B + 1) K := by
  have hc := cr_b hk
  have hI := h.i
  obtain ⟨hX, P, hR, hC⟩ := h
  have e0 : zRd1 z (cr k) 0 = z 0 := by unfold zRd1; rw [u1_ne (by omega), zPul_lx hc hX (by omega)]
  have e18 : zRd1 z (cr k) 18 = z 18 := by unfold zRd1; rw [u1_ne (by omega), zPul_lx hc hX (by omega)]
  have s3 := hI.st 3 (by decide) (by decide)
  rw [show (15 : Int) + 3 = 18 from rfl] at s3
  have t0 := hI.t0
  exact ⟨LX_rd hc (cr_pl hk) (by omega) hX, cRd P (cr k), R_rd hc hcr hB hR, CX_rd hR.2.2.2.1 hC⟩
theorem LK_wb {z : Z} {T B K : Int} (o : Int → Int) (hn : 0 < zOwN z) (h : LK z T B K) : LK (zWb z (zOrd z o 0)) T B K := by
  obtain ⟨hr, er⟩ := lOw_s o h.x h.i (q := 0) ⟨by omega, hn⟩
  obtain ⟨hX, P, hR, hC⟩ := h
  have r := (R_fb o hn hR).1
  rw [← er] at r ⊢
  exact ⟨LX_wb (cr_b hr) (cr_pl hr) hX, cFb P, r, CX_fb hR.2.2.2.1 hC⟩
theorem LK_tk {z : Z} {T B K : Int} (o : Int → Int) (hT : T + 1 ≤ 20000) (h : LK z T B K) : LK (zTk z o) (T + 1) B K := by
  obtain ⟨hX, P, hR, hC⟩ := h
  exact ⟨LX_tk hX, cTk P, R_tk o hT hR, CX_tk hR.2.2.2.1 hC⟩
theorem lp_L_owed_in {G : GX} {sh : List SH} {p : Bool} (E : EW G sh) (hs : LA sh p) {m : Mem} {z : Z} {F : FinT} {q k : Int} (h1 : 0 ≤ k ∧ k < 16) (hD : DB z) (ho : 0 < z (59 + 9 * cr k + 6)) : ∀ (d : Nat) (e : Int) (n : Int), e + d = 16 → 0 ≤ e → (∀ (x : Int), x = cntF (lAh z k) d e n → J G sh iL_owed 0 0 F 112 [some (.inl q), some (.inr (.ref (ix p 1))), some (.inl k), some (.inl x), none] [] (lz m p z) 0 0) → J G sh iL_owed 0 0 F 26 [some (.inl q), some (.inr (.ref (ix p 1))), some (.inl k), some (.inl n), some (.inl e)] [] (lz m p z) 0 0 := by
  intro d
  induction d with
  | zero =>
    intro e n g0 g1 kk
    refine j_iload4 (q := 28) dL_owed_26 rfl ?_
    refine j_bipush (q := 30) dL_owed_28 rfl rfl ?_
    refine j_icmp_ge (tgt := 112) (q := 33) dL_owed_30 (by decide) rfl (by first | exact wr_id' (by omega) (by omega) | with_reducible exact wr_bI _ | exact rfl) (by first | exact wr_id' (by omega) (by omega) | with_reducible exact wr_bI _ | exact rfl) (fun h30 => ?_) (fun h30 => ?_)
    · refine j_fgt4 ?_
      exact kk _ rfl
    · omega
  | succ d ih =>
    intro e n g0 g1 kk
    refine j_iload4 (q := 28) dL_owed_26 rfl ?_
    refine j_bipush (q := 30) dL_owed_28 rfl rfl ?_
    refine j_icmp_ge (tgt := 112) (q := 33) dL_owed_30 (by decide) rfl (by first | exact wr_id' (by omega) (by omega) | with_reducible exact wr_bI _ | exact rfl) (by first | exact wr_id' (by omega) (by omega) | with_reducible exact wr_bI _ | exact rfl) (fun h30 => ?_) (fun h30 => ?_)
    · omega
    · have hk := cr_b h1
      have he := cr_b (k := e) ⟨by omega, by omega⟩
      have dk := hD (cr k) hk.1 hk.2
      have de := hD (cr e) he.1 he.2
      refine j_iload3 (q := 34) dL_owed_33 rfl ?_
      refine j_aload1 (q := 35) dL_owed_34 rfl ?_
      refine j_iconst (q := 36) dL_owed_35 rfl ?_
      refine j_iload4 (q := 38) dL_owed_36 rfl ?_
      refine j_imul (q := 39) dL_owed_38 rfl ?_
      refine j_iconst (q := 40) dL_owed_39 rfl ?_
      refine j_iadd (q := 41) dL_owed_40 rfl ?_
      refine j_l1_2 (q := 42) dL_owed_41 rfl hs (by omega) ?_
      refine j_if_lt (tgt := 103) (q := 45) dL_owed_42 (by decide) rfl (by first | exact wr_id' (by omega) (by omega) | with_reducible exact wr_bI _ | exact rfl) (fun h42 => ?_) (fun h42 => ?_)
      · refine j_iconst (q := 104) dL_owed_103 rfl ?_
        refine j_iadd (q := 105) dL_owed_104 rfl ?_
        refine j_istore3 (q := 106) dL_owed_105 rfl rfl (by decide) ?_
        refine j_iinc4 (q := 109) dL_owed_106 rfl rfl (by decide) ?_
        refine j_goto (tgt := 26) dL_owed_109 (by decide) ?_
        exact ih _ _ (by omega) (by omega) (fun x hx => kk x (hx.trans (by first | exact (cnt_t (by unfold lAh; first | exact decide_eq_true (by omega) | exact decide_eq_false (by omega))) | exact (cnt_f (by unfold lAh; first | exact decide_eq_true (by omega) | exact decide_eq_false (by omega))))))
      · refine j_aload1 (q := 46) dL_owed_45 rfl ?_
        refine j_iconst (q := 47) dL_owed_46 rfl ?_
        refine j_iload4 (q := 49) dL_owed_47 rfl ?_
        refine j_imul (q := 50) dL_owed_49 rfl ?_
        refine j_iconst (q := 51) dL_owed_50 rfl ?_
        refine j_iadd (q := 52) dL_owed_51 rfl ?_
        refine j_l1_2 (q := 53) dL_owed_52 rfl hs (by omega) ?_
        refine j_aload1 (q := 54) dL_owed_53 rfl ?_
        refine j_iconst (q := 55) dL_owed_54 rfl ?_
        refine j_iload2 (q := 56) dL_owed_55 rfl ?_
        refine j_imul (q := 57) dL_owed_56 rfl ?_
        refine j_iconst (q := 58) dL_owed_57 rfl ?_
        refine j_iadd (q := 59) dL_owed_58 rfl ?_
        refine j_l1_2 (q := 60) dL_owed_59 rfl hs (by omega) ?_
        refine j_icmp_lt (tgt := 99) (q := 63) dL_owed_60 (by decide) rfl (by first | exact wr_id' (by omega) (by omega) | with_reducible exact wr_bI _ | exact rfl) (by first | exact wr_id' (by omega) (by omega) | with_reducible exact wr_bI _ | exact rfl) (fun h60 => ?_) (fun h60 => ?_)
        · refine j_iconst (q := 100) dL_owed_99 rfl ?_
          refine j_goto (tgt := 104) dL_owed_100 (by decide) ?_
          refine j_iadd (q := 105) dL_owed_104 rfl ?_
          refine j_istore3 (q := 106) dL_owed_105 rfl rfl (by decide) ?_
          refine j_iinc4 (q := 109) dL_owed_106 rfl rfl (by decide) ?_
          refine j_goto (tgt := 26) dL_owed_109 (by decide) ?_
          exact ih _ _ (by omega) (by omega) (fun x hx => kk x (hx.trans (by first | exact (cnt_t (by unfold lAh; first | exact decide_eq_true (by omega) | exact decide_eq_false (by omega))) | exact (cnt_f (by unfold lAh; first | exact decide_eq_true (by omega) | exact decide_eq_false (by omega))))))
        · refine j_aload1 (q := 64) dL_owed_63 rfl ?_
          refine j_iconst (q := 65) dL_owed_64 rfl ?_
          refine j_iload4 (q := 67) dL_owed_65 rfl ?_
          refine j_imul (q := 68) dL_owed_67 rfl ?_
          refine j_iconst (q := 69) dL_owed_68 rfl ?_
          refine j_iadd (q := 70) dL_owed_69 rfl ?_
          refine j_l1_2 (q := 71) dL_owed_70 rfl hs (by omega) ?_
          refine j_aload1 (q := 72) dL_owed_71 rfl ?_
          refine j_iconst (q := 73) dL_owed_72 rfl ?_
          refine j_iload2 (q := 74) dL_owed_73 rfl ?_
          refine j_imul (q := 75) dL_owed_74 rfl ?_
          refine j_iconst (q := 76) dL_owed_75 rfl ?_
          refine j_iadd (q := 77) dL_owed_76 rfl ?_
          refine j_l1_2 (q := 78) dL_owed_77 rfl hs (by omega) ?_
          refine j_icmp_ne (tgt := 103) (q := 81) dL_owed_78 (by decide) rfl (by first | exact wr_id' (by omega) (by omega) | with_reducible exact wr_bI _ | exact rfl) (by first | exact wr_id' (by omega) (by omega) | with_reducible exact wr_bI _ | exact rfl) (fun h78 => ?_) (fun h78 => ?_)
          · refine j_iconst (q := 104) dL_owed_103 rfl ?_
            refine j_iadd (q := 105) dL_owed_104 rfl ?_
            refine j_istore3 (q := 106) dL_owed_105 rfl rfl (by decide) ?_
            refine j_iinc4 (q := 109) dL_owed_106 rfl rfl (by decide) ?_
            refine j_goto (tgt := 26) dL_owed_109 (by decide) ?_
            exact ih _ _ (by omega) (by omega) (fun x hx => kk x (hx.trans (by first | exact (cnt_t (by unfold lAh; first | exact decide_eq_true (by omega) | exact decide_eq_false (by omega))) | exact (cnt_f (by unfold lAh; first | exact decide_eq_true (by omega) | exact decide_eq_false (by omega))))))
          · have ok := dk.2 ho
            have oe := de.2 (by omega)
            refine j_aload1 (q := 82) dL_owed_81 rfl ?_
            refine j_iconst (q := 83) dL_owed_82 rfl ?_
            refine j_iload4 (q := 85) dL_owed_83 rfl ?_
            refine j_imul (q := 86) dL_owed_85 rfl ?_
            refine j_iconst (q := 87) dL_owed_86 rfl ?_
            refine j_iadd (q := 88) dL_owed_87 rfl ?_
            refine j_l1_3 (q := 89) dL_owed_88 rfl hs (by omega) ?_
            refine j_aload1 (q := 90) dL_owed_89 rfl ?_
            refine j_iconst (q := 91) dL_owed_90 rfl ?_
            refine j_iload2 (q := 92) dL_owed_91 rfl ?_
            refine j_imul (q := 93) dL_owed_92 rfl ?_
            refine j_iconst (q := 94) dL_owed_93 rfl ?_
            refine j_iadd (q := 95) dL_owed_94 rfl ?_
            refine j_l1_3 (q := 96) dL_owed_95 rfl hs (by omega) ?_
            refine j_icmp_ge (tgt := 103) (q := 99) dL_owed_96 (by decide) rfl (by first | exact wr_id' (by omega) (by omega) | with_reducible exact wr_bI _ | exact rfl) (by first | exact wr_id' (by omega) (by omega) | with_reducible exact wr_bI _ | exact rfl) (fun h96 => ?_) (fun h96 => ?_)
            · refine j_iconst (q := 104) dL_owed_103 rfl ?_
              refine j_iadd (q := 105) dL_owed_104 rfl ?_
              refine j_istore3 (q := 106) dL_owed_105 rfl rfl (by decide) ?_
              refine j_iinc4 (q := 109) dL_owed_106 rfl rfl (by decide) ?_
              refine j_goto (tgt := 26) dL_owed_109 (by decide) ?_
              exact ih _ _ (by omega) (by omega) (fun x hx => kk x (hx.trans (by first | exact (cnt_t (by unfold lAh; first | exact decide_eq_true (by omega) | exact decide_eq_false (by omega))) | exact (cnt_f (by unfold lAh; first | exact decide_eq_true (by omega) | exact decide_eq_false (by omega))))))
            · refine j_iconst (q := 100) dL_owed_99 rfl ?_
              refine j_goto (tgt := 104) dL_owed_100 (by decide) ?_
              refine j_iadd (q := 105) dL_owed_104 rfl ?_
              refine j_istore3 (q := 106) dL_owed_105 rfl rfl (by decide) ?_
              refine j_iinc4 (q := 109) dL_owed_106 rfl rfl (by decide) ?_
              refine j_goto (tgt := 26) dL_owed_109 (by decide) ?_
              exact ih _ _ (by omega) (by omega) (fun x hx => kk x (hx.trans (by first | exact (cnt_t (by unfold lAh; first | exact decide_eq_true (by omega) | exact decide_eq_false (by omega))) | exact (cnt_f (by unfold lAh; first | exact decide_eq_true (by omega) | exact decide_eq_false (by omega))))))
theorem lp_L_owed {G : GX} {sh : List SH} {p : Bool} (E : EW G sh) (hs : LA sh p) {m : Mem} {z : Z} {q : Int} (hD : DB z) (hq : 0 ≤ q ∧ q < 64) : ∀ (d : Nat) (k : Int), k + d = 16 → 0 ≤ k → J G sh iL_owed 0 0 (FN G sh 0 0 (some (.inl (lOwF z q d k))) (lz m p z)) 2 [some (.inl q), some (.inr (.ref (ix p 1))), some (.inl k), none, none] [] (lz m p z) 0 0 := by
  intro d
  induction d with
  | zero =>
    intro k g0 g1
    refine j_iload2 (q := 3) dL_owed_2 rfl ?_
    refine j_bipush (q := 5) dL_owed_3 rfl rfl ?_
    refine j_icmp_ge (tgt := 125) (q := 8) dL_owed_5 (by decide) rfl (by first | exact wr_id' (by omega) (by omega) | with_reducible exact wr_bI _ | exact rfl) (by first | exact wr_id' (by omega) (by omega) | with_reducible exact wr_bI _ | exact rfl) (fun h5 => ?_) (fun h5 => ?_)
    · refine j_iconst (q := 126) dL_owed_125 rfl ?_
      exact j_ireturn dL_owed_126 rfl (rfl) (rfl)
    · omega
  | succ d ih =>
    intro k g0 g1
    refine j_iload2 (q := 3) dL_owed_2 rfl ?_
    refine j_bipush (q := 5) dL_owed_3 rfl rfl ?_
    refine j_icmp_ge (tgt := 125) (q := 8) dL_owed_5 (by decide) rfl (by first | exact wr_id' (by omega) (by omega) | with_reducible exact wr_bI _ | exact rfl) (by first | exact wr_id' (by omega) (by omega) | with_reducible exact wr_bI _ | exact rfl) (fun h5 => ?_) (fun h5 => ?_)
    · omega
    · have hk := cr_b (k := k) ⟨by omega, by omega⟩
      have dk := hD (cr k) hk.1 hk.2
      refine j_aload1 (q := 9) dL_owed_8 rfl ?_
      refine j_iconst (q := 10) dL_owed_9 rfl ?_
      refine j_iload2 (q := 11) dL_owed_10 rfl ?_
      refine j_imul (q := 12) dL_owed_11 rfl ?_
      refine j_iconst (q := 13) dL_owed_12 rfl ?_
      refine j_iadd (q := 14) dL_owed_13 rfl ?_
      refine j_l1_2 (q := 15) dL_owed_14 rfl hs (by omega) ?_
      refine j_if_ge (tgt := 21) (q := 18) dL_owed_15 (by decide) rfl (by first | exact wr_id' (by omega) (by omega) | with_reducible exact wr_bI _ | exact rfl) (fun h15 => ?_) (fun h15 => ?_)
      · refine j_iconst (q := 22) dL_owed_21 rfl ?_
        refine j_istore3 (q := 23) dL_owed_22 rfl rfl (by decide) ?_
        refine j_iconst (q := 24) dL_owed_23 rfl ?_
        refine j_istore4 (q := 26) dL_owed_24 rfl rfl (by decide) ?_
        refine lp_L_owed_in E hs (k := k) ⟨by omega, by omega⟩ hD (by omega) 16 0 0 (by omega) (by omega) ?_
        intro x hx
        have hx2 : x = lRk z k := hx
        have hx3 := lRk_b z k
        refine j_iload3 (q := 113) dL_owed_112 rfl ?_
        refine j_iload0 (q := 114) dL_owed_113 rfl ?_
        refine j_icmp_ne (tgt := 119) (q := 117) dL_owed_114 (by decide) rfl (by first | exact wr_id' (by omega) (by omega) | with_reducible exact wr_bI _ | exact rfl) (by first | exact wr_id' (by omega) (by omega) | with_reducible exact wr_bI _ | exact rfl) (fun h114 => ?_) (fun h114 => ?_)
        · refine j_iinc2 (q := 122) dL_owed_119 rfl rfl (by decide) ?_
          refine j_goto (tgt := 2) dL_owed_122 (by decide) ?_
          refine j_fgt3 ?_
          exact j_fin (by rw [lOwF, if_neg (by omega)]) (rfl) (ih _ (by omega) (by omega))
        · refine j_iload2 (q := 118) dL_owed_117 rfl ?_
          exact j_ireturn dL_owed_118 rfl (by rw [lOwF, if_pos ⟨by omega, by omega⟩]) (rfl)
      · refine j_goto (tgt := 119) dL_owed_18 (by decide) ?_
        refine j_iinc2 (q := 122) dL_owed_119 rfl rfl (by decide) ?_
        refine j_goto (tgt := 2) dL_owed_122 (by decide) ?_
        exact j_fin (by rw [lOwF, if_neg (by omega)]) (rfl) (ih _ (by omega) (by omega))
theorem ct_L_owed {G : GX} {sh : List SH} {p : Bool} (E : EW G sh) (hs : LA sh p) {m : Mem} {z : Z} {q : Int} (hD : DB z) (hq : 0 ≤ q ∧ q < 64) : CT G sh iL_owed 0 0 [.inl q, .inr (.ref (ix p 1))] (lz m p z) (some (.inl (lOw z q))) (lz m p z) := by
  refine j_met (L0 := [some (.inl q), some (.inr (.ref (ix p 1))), none, none, none]) (by decide) E.1 E.2 rfl (Nat.le_of_ble_eq_true rfl) ?_
  refine j_iconst (q := 1) dL_owed_0 rfl ?_
  refine j_istore2 (q := 2) dL_owed_1 rfl rfl (by decide) ?_
  exact lp_L_owed E hs hD hq 16 0 (by omega) (by omega)
theorem ct_L_back {G : GX} {sh : List SH} {p : Bool} (E : EW G sh) (hs : LA sh p) {m : Mem} {z : Z} {T B K : Int} {o : Int → Int} (hK : LK z T B K) (hn : 0 < zOwN z) : CT G sh iL_back 0 0 [.inr (.ref (ix p 0)), .inr (.ref (ix p 1)), .inr (.ref (ix p 2)), .inr (.ref (ix p 3)), .inr (.ref (ix p 4)), .inr (.ref (ix p 5)), .inr (.ref (ix p 7)), .inr (.ref (ix p 6))] (lz m p z) (some (.inl (zOrd z o 0))) (lz m p (zWb z (zOrd z o 0))) := by
  have hX := hK.x
  have hI := hK.i
  have hD := IZ_DB hI
  obtain ⟨hr, er⟩ := lOw_s o hX hI (q := 0) ⟨by omega, hn⟩
  have hc := cr_b hr
  rw [← er]
  have s1 := hI.st 1 (by decide) (by decide)
  have t1 := hI.ht
  have g1 := hI.sg _ hc.1 hc.2
  have wA := LX_wbA hc hX
  refine j_met (L0 := [some (.inr (.ref (ix p 0))), some (.inr (.ref (ix p 1))), some (.inr (.ref (ix p 2))), some (.inr (.ref (ix p 3))), some (.inr (.ref (ix p 4))), some (.inr (.ref (ix p 5))), some (.inr (.ref (ix p 7))), some (.inr (.ref (ix p 6))), none]) (by decide) E.1 E.2 rfl (Nat.le_of_ble_eq_true rfl) ?_
  refine j_iconst (q := 1) dL_back_0 rfl ?_
  refine j_aload1 (q := 2) dL_back_1 rfl ?_
  refine j_callS2 (Mc := iL_owed) (q := 5) (c' := 0) (s' := 0) dL_back_2 rfl kS_L_owed jw_587 ⟨by decide, by decide⟩ rfl (Nat.le_refl _) (Nat.le_refl _) (ct_L_owed E hs (by assumption) (by omega)) ?_
  refine j_istore8 (q := 7) dL_back_5 rfl rfl (by decide) ?_
  refine j_iload8 (q := 9) dL_back_7 rfl ?_
  refine j_aload6 (q := 11) dL_back_9 rfl ?_
  refine j_iconst (q := 12) dL_back_11 rfl ?_
  refine j_l7_0 (q := 13) dL_back_12 rfl hs (by omega) ?_
  refine j_aload0 (q := 14) dL_back_13 rfl ?_
  refine j_aload1 (q := 15) dL_back_14 rfl ?_
  refine j_aload2 (q := 16) dL_back_15 rfl ?_
  refine j_aload3 (q := 17) dL_back_16 rfl ?_
  refine j_aload4 (q := 19) dL_back_17 rfl ?_
  refine j_aload5 (q := 21) dL_back_19 rfl ?_
  refine j_aload6 (q := 23) dL_back_21 rfl ?_
  refine j_aload7 (q := 25) dL_back_23 rfl ?_
  refine j_callS10v (Mc := iL_pulse) (q := 28) (c' := 0) (s' := 0) dL_back_25 rfl kS_L_pulse jw_603 ⟨by decide, by decide⟩ rfl (Nat.le_refl _) (Nat.le_refl _) (ct_L_pulse E hs (by omega) (by assumption) (by omega) (by omega) (by omega)) ?_
  refine j_aload1 (q := 29) dL_back_28 rfl ?_
  refine j_iconst (q := 30) dL_back_29 rfl ?_
  refine j_iload8 (q := 32) dL_back_30 rfl ?_
  refine j_imul (q := 33) dL_back_32 rfl ?_
  refine j_iconst (q := 34) dL_back_33 rfl ?_
  refine j_iadd (q := 35) dL_back_34 rfl ?_
  refine j_iconst (q := 36) dL_back_35 rfl ?_
  refine j_s1_2 (q := 37) dL_back_36 rfl hs (by omega) (v' := 0) (by decide) ?_
  refine j_mem (m' := lz m p (zWbA z (cr (lOw z 0)))) (by unfold zWbA; rw [u1_ne (j := 15 + 1) (by omega), zPul_cm hc hc hX]) ?_
  refine j_aload0 (q := 38) dL_back_37 rfl ?_
  refine j_iconst (q := 39) dL_back_38 rfl ?_
  refine j_iload8 (q := 41) dL_back_39 rfl ?_
  refine j_imul (q := 42) dL_back_41 rfl ?_
  refine j_iconst (q := 43) dL_back_42 rfl ?_
  refine j_iadd (q := 44) dL_back_43 rfl ?_
  refine j_l0_1 (q := 45) dL_back_44 rfl hs (by omega) ?_
  refine j_aload6 (q := 47) dL_back_45 rfl ?_
  refine j_iconst (q := 48) dL_back_47 rfl ?_
  refine j_l7_0 (q := 49) dL_back_48 rfl hs (by omega) ?_
  refine j_icmp_lt (tgt := 71) (q := 52) dL_back_49 (by decide) rfl rfl rfl (fun h49 => ?_) (fun h49 => ?_)
  · refine j_aload7 (q := 73) dL_back_71 rfl ?_
    refine j_bipush (q := 75) dL_back_73 rfl rfl ?_
    refine j_dup2 (q := 76) dL_back_75 rfl rfl rfl ?_
    refine j_l6_0 (q := 77) dL_back_76 rfl hs (by omega) ?_
    refine j_iconst (q := 78) dL_back_77 rfl ?_
    refine j_iadd (q := 79) dL_back_78 rfl ?_
    refine j_s6_0 (q := 80) dL_back_79 rfl hs (by omega) ?_
    have w7 : LX (u1 (zWbA z (cr (lOw z 0))) 7 (zWbA z (cr (lOw z 0)) 7 + 1)) := LX_u1 (by unfold LN; omega) wA
    refine j_iload8 (q := 82) dL_back_80 rfl ?_
    refine j_aload0 (q := 83) dL_back_82 rfl ?_
    refine j_aload1 (q := 84) dL_back_83 rfl ?_
    refine j_aload2 (q := 85) dL_back_84 rfl ?_
    refine j_aload3 (q := 86) dL_back_85 rfl ?_
    refine j_aload4 (q := 88) dL_back_86 rfl ?_
    refine j_aload5 (q := 90) dL_back_88 rfl ?_
    refine j_callS7v (Mc := iL_lost) (q := 93) (c' := 0) (s' := 0) dL_back_90 rfl kS_L_lost jw_606 ⟨by decide, by decide⟩ rfl (Nat.le_refl _) (Nat.le_refl _) (ct_L_lost E hs (by omega) (by assumption)) ?_
    refine j_iload8 (q := 95) dL_back_93 rfl ?_
    refine j_callS1 (Mc := iL_core) (q := 98) (c' := 0) (s' := 0) dL_back_95 rfl kS_L_core jw_438 ⟨by decide, by decide⟩ rfl (Nat.le_refl _) (Nat.le_refl _) (ct_L_core E hs (by omega)) ?_
    exact j_ireturn dL_back_98 rfl (rfl) (by first | rw [zWb, if_pos (by omega)] | rw [zWb, if_neg (by omega)])
  · refine j_aload0 (q := 53) dL_back_52 rfl ?_
    refine j_iconst (q := 54) dL_back_53 rfl ?_
    refine j_iload8 (q := 56) dL_back_54 rfl ?_
    refine j_imul (q := 57) dL_back_56 rfl ?_
    refine j_iconst (q := 58) dL_back_57 rfl ?_
    refine j_s0_0 (q := 59) dL_back_58 rfl hs (by omega) ?_
    refine j_aload7 (q := 61) dL_back_59 rfl ?_
    refine j_bipush (q := 63) dL_back_61 rfl rfl ?_
    refine j_dup2 (q := 64) dL_back_63 rfl rfl rfl ?_
    refine j_l6_0 (q := 65) dL_back_64 rfl hs (by omega) ?_
    refine j_iconst (q := 66) dL_back_65 rfl ?_
    refine j_iadd (q := 67) dL_back_66 rfl ?_
    refine j_s6_0 (q := 68) dL_back_67 rfl hs (by omega) ?_
    refine j_goto (tgt := 93) dL_back_68 (by decide) ?_
    refine j_iload8 (q := 95) dL_back_93 rfl ?_
    refine j_callS1 (Mc := iL_core) (q := 98) (c' := 0) (s' := 0) dL_back_95 rfl kS_L_core jw_438 ⟨by decide, by decide⟩ rfl (Nat.le_refl _) (Nat.le_refl _) (ct_L_core E hs (by omega)) ?_
    exact j_ireturn dL_back_98 rfl (rfl) (by first | rw [zWb, if_pos (by omega)] | rw [zWb, if_neg (by omega)])
theorem OL_next {z y : Z} {o : Int → Int} {j : Int} {d : Nat} (h : OL z (seg o j (d + 1))) (hc : 0 ≤ o j ∧ o j < 64) (h6 : ∀ e, 0 ≤ e → e < 64 → y (59 + 9 * e + 6) = if e = o j then 0 else z (59 + 9 * e + 6)) (h7 : ∀ e, 0 ≤ e → e < 64 → y (59 + 9 * e + 7) = z (59 + 9 * e + 7)) : OL y (seg o (j + 1) d) := by
  obtain ⟨pw, hm⟩ := h
  rw [seg] at pw hm
  obtain ⟨p1, p2⟩ := List.pairwise_cons.mp pw
  have hn : ¬ o j ∈ seg o (j + 1) d := fun q => zB_as (p1 _ q) (p1 _ q)
  have hb : ∀ x, x ∈ seg o (j + 1) d → (0 ≤ x ∧ x < 64) ∧ 0 < z (59 + 9 * x + 6) := fun x hx => (hm x).mp (List.mem_cons_of_mem _ hx)
  refine ⟨?_, fun c => ?_⟩
  · refine List.Pairwise.imp_of_mem (fun {u v} hu hv r => ?_) p2
    have bu := hb u hu
    have bv := hb v hv
    have nu : ¬ u = o j := fun q => hn (by rw [← q]; exact hu)
    have nv : ¬ v = o j := fun q => hn (by rw [← q]; exact hv)
    unfold zB at r ⊢
    rw [h6 u bu.1.1 bu.1.2, h6 v bv.1.1 bv.1.2, h7 u bu.1.1 bu.1.2, h7 v bv.1.1 bv.1.2, if_neg nu, if_neg nv]
    exact r
  · constructor
    · intro q
      have b := hb c q
      have nc : ¬ c = o j := fun w => hn (by rw [← w]; exact q)
      exact ⟨b.1, by rw [h6 c b.1.1 b.1.2, if_neg nc]; exact b.2⟩
    · rintro ⟨q1, q2⟩
      rw [h6 c q1.1 q1.2] at q2
      by_cases w : c = o j
      · rw [if_pos w] at q2; omega
      · rw [if_neg w] at q2
        exact (List.mem_cons.mp ((hm c).mpr ⟨q1, q2⟩)).resolve_left w
theorem lOw_h {z : Z} {o : Int → Int} {j : Int} {d : Nat} (hX : LX z) (ho : OL z (seg o j (d + 1))) : (0 ≤ lOw z 0 ∧ lOw z 0 < 16) ∧ cr (lOw z 0) = o j := by
  obtain ⟨a, b⟩ := lOw_in (q := 0) hX ho (by rw [seg_len]; omega)
  refine ⟨a, ?_⟩
  rw [seg_at _ _ _ (by omega), show j + ((0 : Nat) : Int) = j by omega] at b
  exact (Option.some.inj b).symm
theorem lOw_e {z : Z} {o : Int → Int} {j : Int} (hX : LX z) (ho : OL z (seg o j 0)) : lOw z 0 = -1 := lOw_out hX ho (by rw [seg_len]; omega)
def tN1 (z : Z) (c : Int) : Z := u1 (u1 z (59 + 9 * c + 6) 0) 8 (u1 z (59 + 9 * c + 6) 0 8 + 1)
theorem tick_next {z : Z} {o : Int → Int} {j c : Int} {d : Nat} (hO : OL z (seg o j (d + 1))) (hX : LX z) (hD : DB z) (er : c = o j) (hc : 0 ≤ c ∧ c < 64) : LX (tN1 z c) ∧ OL (zLo (tN1 z c) c) (seg o (j + 1) d) ∧ LX (zLo (tN1 z c) c) ∧ DB (zLo (tN1 z c) c) := by
  have w1 : LX (tN1 z c) := LX_u1 (by unfold LN; omega) (LX_due hc (Or.inl rfl) hX)
  have f6 : ∀ e, 0 ≤ e → e < 64 → zLo (tN1 z c) c (59 + 9 * e + 6) = if e = c then 0 else z (59 + 9 * e + 6) := fun e a b => by
    rw [LX_lof hc w1 (by omega)]
    unfold tN1
    rw [u1_ne (by omega)]
    by_cases q : e = c
    · rw [if_pos q, q, u1_at]
    · rw [if_neg q, u1_ne (by omega)]
  have f7 : ∀ e, 0 ≤ e → e < 64 → zLo (tN1 z c) c (59 + 9 * e + 7) = z (59 + 9 * e + 7) := fun e a b => by
    rw [LX_lof hc w1 (by omega)]
    unfold tN1
    rw [u1_ne (by omega), u1_ne (by omega)]
  refine ⟨w1, OL_next hO (by omega) (fun e a b => by rw [f6 e a b, er]) f7, LX_lo hc w1, fun e a b => ?_⟩
  have h := hD e a b
  rw [f6 e a b, f7 e a b]
  split
  · exact ⟨by omega, fun q => by omega⟩
  · exact h
theorem late_no {z : Z} {o : Int → Int} {j : Int} {d : Nat} (ho : OL z (seg o j (d + 1))) (hD : DB z) (h : ¬ wr (z (59 + 9 * o j + 6) - 1) < wr (z 0)) : ∀ x, x ∈ seg o j (d + 1) → ¬ wr (z (59 + 9 * x + 6) - 1) < wr (z 0) := by
  intro x hx
  obtain ⟨pw, hm⟩ := ho
  have bx := (hm x).mp hx
  have b0 := (hm (o j)).mp (by rw [seg]; exact List.mem_cons_self)
  have dx := hD x bx.1.1 bx.1.2
  have d0 := hD (o j) b0.1.1 b0.1.2
  rw [seg] at hx pw
  rcases List.mem_cons.mp hx with q | q
  · rw [q]; exact h
  · have r := (List.pairwise_cons.mp pw).1 x q
    unfold zB at r
    rw [wr_id' (by omega) (by omega)] at h
    rw [wr_id' (x := z (59 + 9 * x + 6) - 1) (by omega) (by omega)]
    omega
theorem lp_L_tick_w {G : GX} {sh : List SH} {p : Bool} (E : EW G sh) (hs : LA sh p) {m : Mem} {F : FinT} {o : Int → Int} : ∀ (d : Nat) (j : Int) (z : Z), OL z (seg o j d) → LX z → DB z → (∀ (x : Z), x = zLtF o d j z → J G sh iL_tick 0 0 F 106 [some (.inr (.ref (ix p 0))), some (.inr (.ref (ix p 1))), some (.inr (.ref (ix p 2))), some (.inr (.ref (ix p 3))), some (.inr (.ref (ix p 4))), some (.inr (.ref (ix p 5))), some (.inr (.ref (ix p 7))), some (.inr (.ref (ix p 6))), none, none] [] (lz m p x) 0 0) → J G sh iL_tick 0 0 F 45 [some (.inr (.ref (ix p 0))), some (.inr (.ref (ix p 1))), some (.inr (.ref (ix p 2))), some (.inr (.ref (ix p 3))), some (.inr (.ref (ix p 4))), some (.inr (.ref (ix p 5))), some (.inr (.ref (ix p 7))), some (.inr (.ref (ix p 6))), some (.inl (lOw z 0)), none] [] (lz m p z) 0 0 := by
  intro d
  induction d with
  | zero =>
    intro j z g0 g1 g2 kk
    have e0 := lOw_e g1 g0
    refine j_iload8 (q := 47) dL_tick_45 rfl ?_
    refine j_if_lt (tgt := 106) (q := 50) dL_tick_47 (by decide) rfl (by first | exact wr_id' (by omega) (by omega) | with_reducible exact wr_bI _ | exact rfl) (fun h47 => ?_) (fun h47 => ?_)
    · refine j_fgt8 ?_
      exact kk _ rfl
    · omega
  | succ d ih =>
    intro j z g0 g1 g2 kk
    obtain ⟨hr, er⟩ := lOw_h g1 g0
    have hc := cr_b hr
    refine j_iload8 (q := 47) dL_tick_45 rfl ?_
    refine j_if_lt (tgt := 106) (q := 50) dL_tick_47 (by decide) rfl (by first | exact wr_id' (by omega) (by omega) | with_reducible exact wr_bI _ | exact rfl) (fun h47 => ?_) (fun h47 => ?_)
    · omega
    · refine j_aload1 (q := 51) dL_tick_50 rfl ?_
      refine j_iconst (q := 52) dL_tick_51 rfl ?_
      refine j_iload8 (q := 54) dL_tick_52 rfl ?_
      refine j_imul (q := 55) dL_tick_54 rfl ?_
      refine j_iconst (q := 56) dL_tick_55 rfl ?_
      refine j_iadd (q := 57) dL_tick_56 rfl ?_
      refine j_l1_2 (q := 58) dL_tick_57 rfl hs (by omega) ?_
      refine j_aload7 (q := 60) dL_tick_58 rfl ?_
      refine j_iconst (q := 61) dL_tick_60 rfl ?_
      refine j_l6_0 (q := 62) dL_tick_61 rfl hs (by omega) ?_
      refine j_icmp_ge (tgt := 106) (q := 65) dL_tick_62 (by decide) rfl rfl rfl (fun h62 => ?_) (fun h62 => ?_)
      · refine j_mem (m' := lz m p (zLtF o (d + 1) j z)) (by rw [zLtF_no (d + 1) j z (late_no g0 g2 (by rw [← er]; omega))]) ?_
        refine j_fgt8 ?_
        exact kk _ rfl
      · refine j_aload1 (q := 66) dL_tick_65 rfl ?_
        refine j_iconst (q := 67) dL_tick_66 rfl ?_
        refine j_iload8 (q := 69) dL_tick_67 rfl ?_
        refine j_imul (q := 70) dL_tick_69 rfl ?_
        refine j_iconst (q := 71) dL_tick_70 rfl ?_
        refine j_iadd (q := 72) dL_tick_71 rfl ?_
        refine j_iconst (q := 73) dL_tick_72 rfl ?_
        refine j_s1_2 (q := 74) dL_tick_73 rfl hs (by omega) (v' := 0) (by decide) ?_
        refine j_aload7 (q := 76) dL_tick_74 rfl ?_
        refine j_bipush (q := 78) dL_tick_76 rfl rfl ?_
        refine j_dup2 (q := 79) dL_tick_78 rfl rfl rfl ?_
        refine j_l6_0 (q := 80) dL_tick_79 rfl hs (by omega) ?_
        refine j_iconst (q := 81) dL_tick_80 rfl ?_
        refine j_iadd (q := 82) dL_tick_81 rfl ?_
        refine j_s6_0 (q := 83) dL_tick_82 rfl hs (by omega) ?_
        refine j_mem (m' := lz m p (tN1 z (cr (lOw z 0)))) rfl ?_
        obtain ⟨w1, hO2, hX2, hD2⟩ := tick_next g0 g1 g2 er hc
        refine j_iload8 (q := 85) dL_tick_83 rfl ?_
        refine j_aload0 (q := 86) dL_tick_85 rfl ?_
        refine j_aload1 (q := 87) dL_tick_86 rfl ?_
        refine j_aload2 (q := 88) dL_tick_87 rfl ?_
        refine j_aload3 (q := 89) dL_tick_88 rfl ?_
        refine j_aload4 (q := 91) dL_tick_89 rfl ?_
        refine j_aload5 (q := 93) dL_tick_91 rfl ?_
        refine j_callS7v (Mc := iL_lost) (q := 96) (c' := 0) (s' := 0) dL_tick_93 rfl kS_L_lost jw_606 ⟨by decide, by decide⟩ rfl (Nat.le_refl _) (Nat.le_refl _) (ct_L_lost E hs (by omega) (by assumption)) ?_
        refine j_iconst (q := 97) dL_tick_96 rfl ?_
        refine j_aload1 (q := 98) dL_tick_97 rfl ?_
        refine j_callS2 (Mc := iL_owed) (q := 101) (c' := 0) (s' := 0) dL_tick_98 rfl kS_L_owed jw_587 ⟨by decide, by decide⟩ rfl (Nat.le_refl _) (Nat.le_refl _) (ct_L_owed E hs (by assumption) (by omega)) ?_
        refine j_istore8 (q := 103) dL_tick_101 rfl rfl (by decide) ?_
        refine j_goto (tgt := 45) dL_tick_103 (by decide) ?_
        exact ih _ _ hO2 hX2 hD2 (fun x hx => kk x (hx.trans (by rw [zLtF, ← er, if_pos (by omega)]; rfl)))
theorem ep_0 {z : Z} {c : Int} (h : ¬ 0 ≤ z (59 + 9 * c + 4) - 1) (hb : 0 ≤ z (59 + 9 * c + 4) ∧ z (59 + 9 * c + 4) ≤ 2) : zEp z c = z := by
  rw [zEp, if_neg (by rw [wr_id' (by omega) (by omega)]; omega)]
theorem ep_1 {z : Z} {c : Int} (h : 0 ≤ z (59 + 9 * c + 4) - 1) (hb : 0 ≤ z (59 + 9 * c + 4) ∧ z (59 + 9 * c + 4) ≤ 2) (hw : wr (u1 z (59 + 9 * c + 5) (z (59 + 9 * c + 5) - 1) (59 + 9 * c + 5)) = 0) : zEp z c = u1 (u1 z (59 + 9 * c + 5) (z (59 + 9 * c + 5) - 1)) (59 + 9 * c + 4) 0 := by
  rw [zEp, if_pos (by rw [wr_id' (by omega) (by omega)]; omega), zEp1]
  try dsimp only
  rw [if_pos hw]
theorem ep_2 {z : Z} {c : Int} (h : 0 ≤ z (59 + 9 * c + 4) - 1) (hb : 0 ≤ z (59 + 9 * c + 4) ∧ z (59 + 9 * c + 4) ≤ 2) (hw : ¬ wr (u1 z (59 + 9 * c + 5) (z (59 + 9 * c + 5) - 1) (59 + 9 * c + 5)) = 0) : zEp z c = u1 z (59 + 9 * c + 5) (z (59 + 9 * c + 5) - 1) := by
  rw [zEp, if_pos (by rw [wr_id' (by omega) (by omega)]; omega), zEp1]
  try dsimp only
  rw [if_neg hw, u1_self]
def lEp (e : Int) (z : Z) : Z := zEp z (cr e)
def lEl (e : Int) (z : Z) : Z := zEl z (cr e)
theorem zEpF_it : ∀ (d : Nat) (c : Int) (z : Z), zEpF d c z = itF (fun c z => zEp z c) d c z := by
  intro d
  induction d with
  | zero => intro c z; rfl
  | succ d ih => intro c z; rw [zEpF, itF, ih]
theorem zElF_it : ∀ (d : Nat) (c : Int) (z : Z), zElF d c z = itF (fun c z => zEl z c) d c z := by
  intro d
  induction d with
  | zero => intro c z; rfl
  | succ d ih => intro c z; rw [zElF, itF, ih]
theorem lEp_16 {z : Z} (h : LX z) : itF lEp 16 0 z = zEpF 64 0 z := by
  rw [zEpF_it, it16 LX (fun c y a b w => LX_ep ⟨a, b⟩ w) (fun c y a b np w => ?_) h]
  · rfl
  · have e := ((w.2.2 c a b).2.1 np).2.2.1
    rw [zEp, if_neg (by rw [e]; decide)]
theorem lEl_16 {z : Z} (h : LX z) : itF lEl 16 0 z = zElF 64 0 z := by
  rw [zElF_it, it16 LX (fun c y a b w => LX_el ⟨a, b⟩ w) (fun c y a b np w => ?_) h]
  · rfl
  · have e := ((w.2.2 c a b).2.1 np).2.1
    rw [zEl, if_neg (by rw [zLs_p ⟨by omega, by omega⟩]; omega)]
/-- leases that run are not yet at their end -/
def LE (z : Z) (e : Int) : Prop := ∀ c, e ≤ c → c < 16 → 0 < z (59 + 9 * cr c + 2) → 1 ≤ z (59 + 9 * cr c + 3) ∧ z (59 + 9 * cr c + 3) ≤ 200
def DU (z : Z) : Prop := ∀ c, 0 ≤ c → c < 64 → 0 ≤ z (59 + 9 * c + 6) ∧ z (59 + 9 * c + 6) ≤ 100000
theorem el_0 {z : Z} {c : Int} (h : ¬ 0 ≤ z (59 + 9 * c + 2) - 1) (hb : 0 ≤ z (59 + 9 * c + 2) ∧ z (59 + 9 * c + 2) ≤ 3) : zEl z c = z := by
  rw [zEl, if_neg (by rw [zLs_p ⟨hb.1, by omega⟩]; omega)]
theorem el_1 {z : Z} {c : Int} (h : 0 ≤ z (59 + 9 * c + 2) - 1) (hb : 0 ≤ z (59 + 9 * c + 2) ∧ z (59 + 9 * c + 2) ≤ 3) (hl : 1 ≤ z (59 + 9 * c + 3) ∧ z (59 + 9 * c + 3) ≤ 200) (hw : 0 < z (59 + 9 * c + 3) - 1) : zEl z c = zEl1 z c := by
  have e : zEl1 z c (59 + 9 * c + 3) = z (59 + 9 * c + 3) - 1 := u1_at
  rw [zEl, if_pos (by rw [zLs_p ⟨hb.1, by omega⟩]; omega), if_neg (by rw [e, wr_id' (by omega) (by omega)]; omega)]
theorem el_2 {z : Z} {c : Int} (h : 0 ≤ z (59 + 9 * c + 2) - 1) (hb : 0 ≤ z (59 + 9 * c + 2) ∧ z (59 + 9 * c + 2) ≤ 3) (hl : 1 ≤ z (59 + 9 * c + 3) ∧ z (59 + 9 * c + 3) ≤ 200) (hw : ¬ 0 < z (59 + 9 * c + 3) - 1) : zEl z c = zEl2 (zEl1 z c) c := by
  have e : zEl1 z c (59 + 9 * c + 3) = z (59 + 9 * c + 3) - 1 := u1_at
  rw [zEl, if_pos (by rw [zLs_p ⟨hb.1, by omega⟩]; omega), if_pos (by rw [e, wr_id' (by omega) (by omega)]; omega)]
theorem el_2a {z : Z} {c : Int} (h : 0 ≤ z (59 + 9 * c + 6) - 1) (hb : z (59 + 9 * c + 6) ≤ 100000) : u1 (u1 (u1 (zEl1 z c) (59 + 9 * c + 2) 0) 11 (u1 (zEl1 z c) (59 + 9 * c + 2) 0 11 + 1)) (59 + 9 * c + 6) 0 = zEl2 (zEl1 z c) c := by
  have e : u1 (zEl1 z c) (59 + 9 * c + 2) 0 (59 + 9 * c + 6) = z (59 + 9 * c + 6) := by unfold zEl1; rw [u1_ne (by omega), u1_ne (by omega)]
  unfold zEl2 zOw
  try dsimp only
  rw [e, decide_eq_true (by rw [wr_id' (by omega) (by omega)]; omega)]; rfl
theorem el_2b {z : Z} {c : Int} (h : ¬ 0 ≤ z (59 + 9 * c + 6) - 1) (hb : 0 ≤ z (59 + 9 * c + 6)) : u1 (u1 (u1 (zEl1 z c) (59 + 9 * c + 2) 0) 11 (u1 (zEl1 z c) (59 + 9 * c + 2) 0 11 + 0)) (59 + 9 * c + 6) 0 = zEl2 (zEl1 z c) c := by
  have e : u1 (zEl1 z c) (59 + 9 * c + 2) 0 (59 + 9 * c + 6) = z (59 + 9 * c + 6) := by unfold zEl1; rw [u1_ne (by omega), u1_ne (by omega)]
  unfold zEl2 zOw
  try dsimp only
  rw [e, decide_eq_false (by rw [wr_id' (by omega) (by omega)]; omega)]; rfl
theorem LE_el {z : Z} {e : Int} (he : 0 ≤ e ∧ e < 16) (h : LE z e) : LE (zEl z (cr e)) (e + 1) := fun c a b q => by
  have hn : ¬ cr c = cr e := fun w => by have := cr_inj w; omega
  have hc := cr_b (k := c) ⟨by omega, b⟩
  have hd := cr_b he
  rw [zEl_ne (by omega)] at q ⊢
  exact h c (by omega) b q
theorem DU_el {z : Z} {c : Int} (hc : 0 ≤ c ∧ c < 64) (h : DU z) : DU (zEl z c) := fun e a b => by
  have g := h e a b
  by_cases q : e = c
  · subst q
    unfold zEl
    split
    · split
      · unfold zEl2; try dsimp only
        rw [u1_at]; omega
      · unfold zEl1; rw [u1_ne (by omega)]; exact g
    · exact g
  · rw [zEl_ne (by omega)]; exact g
theorem zEpF_ne {j : Int} (h : j < 59 ∨ ¬ (j - 59) % 9 = 4 ∧ ¬ (j - 59) % 9 = 5) : ∀ (d : Nat) (c : Int) (z : Z), 0 ≤ c → zEpF d c z j = z j := by
  intro d
  induction d with
  | zero => intro c z _; rfl
  | succ d ih => intro c z hc; rw [zEpF, ih _ _ (by omega), zEp_ne (by omega)]
theorem LE_ep {z : Z} (h : LE z 0) : LE (zEpF 64 0 z) 0 := fun c a b q => by
  have hc := cr_b (k := c) ⟨a, b⟩
  rw [zEpF_ne (by omega) _ _ _ (by omega)] at q ⊢
  exact h c a b q
theorem DU_ep {z : Z} (h : DU z) : DU (zEpF 64 0 z) := fun c a b => by rw [zEpF_ne (by omega) _ _ _ (by omega)]; exact h c a b
theorem zLtF_fr {o : Int → Int} {n : Nat} (ho : OE o n) {j : Int} (hj : 59 ≤ j ∧ j < 635 ∧ ((j - 59) % 9 = 2 ∨ (j - 59) % 9 = 3)) : ∀ (d : Nat) (k : Int) (z : Z), k + d = n → 0 ≤ k → LX z → zLtF o d k z j = z j := by
  intro d
  induction d with
  | zero => intro k z _ _ _; rfl
  | succ d ih =>
    intro k z h1 h2 h
    have hb := ho k h2 (by omega)
    rw [zLtF]
    split
    · have w1 : LX (u1 (u1 z (59 + 9 * o k + 6) 0) 8 (u1 z (59 + 9 * o k + 6) 0 8 + 1)) := LX_u1 (by unfold LN; omega) (LX_due hb (Or.inl rfl) h)
      rw [ih _ _ (by omega) (by omega) (LX_lo hb w1), LX_lof hb w1 (by omega), u1_ne (by omega), u1_ne (by omega)]
    · exact ih _ _ (by omega) (by omega) h
theorem tk1_f {z : Z} {T B K : Int} {o : Int → Int} (h : LK z T B K) : LE (zTk1 z o) 0 ∧ DU (zTk1 z o) := by
  have hX := h.x
  have hI := h.i
  have hb := zOr_b (zTk0 z) o
  have e0 : ∀ j, 59 ≤ j → zTk0 z j = z j := fun j hj => by unfold zTk0; rw [u1_ne (by omega), u1_ne (by omega)]
  refine ⟨fun c a b q => ?_, fun c a b => ?_⟩
  · have hc := cr_b (k := c) ⟨a, b⟩
    unfold zTk1 at q ⊢
    rw [zLtF_fr (n := (zOrN (zTk0 z) o).toNat) hb.1 (by omega) _ _ _ (by omega) (by omega) (LX_tk0 hX), e0 _ (by omega)] at q ⊢
    exact hI.le _ hc.1 hc.2 q
  · have d := hI.du c a b
    have t := hI.tT
    have q := zLtF_due (K := K) (zOrd (zTk0 z) o) (zOrN (zTk0 z) o).toNat hb.1 ⟨a, b⟩ (zOrN (zTk0 z) o).toNat 0 (zTk0 z) (by omega) (by omega) (WI_tk0 h.w)
    rw [e0 _ (by omega)] at q
    unfold zTk1
    omega
theorem lp_L_tick_p {G : GX} {sh : List SH} {p : Bool} (E : EW G sh) (hs : LA sh p) {m : Mem} {F : FinT} : ∀ (d : Nat) (e : Int) (z : Z), e + d = 16 → 0 ≤ e → LX z → (∀ (x : Z), x = itF lEp d e z → J G sh iL_tick 0 0 F 164 [some (.inr (.ref (ix p 0))), some (.inr (.ref (ix p 1))), some (.inr (.ref (ix p 2))), some (.inr (.ref (ix p 3))), some (.inr (.ref (ix p 4))), some (.inr (.ref (ix p 5))), some (.inr (.ref (ix p 7))), some (.inr (.ref (ix p 6))), none, none] [] (lz m p x) 0 0) → J G sh iL_tick 0 0 F 109 [some (.inr (.ref (ix p 0))), some (.inr (.ref (ix p 1))), some (.inr (.ref (ix p 2))), some (.inr (.ref (ix p 3))), some (.inr (.ref (ix p 4))), some (.inr (.ref (ix p 5))), some (.inr (.ref (ix p 7))), some (.inr (.ref (ix p 6))), none, some (.inl e)] [] (lz m p z) 0 0 := by
  intro d
  induction d with
  | zero =>
    intro e z g0 g1 g2 kk
    refine j_iload9 (q := 111) dL_tick_109 rfl ?_
    refine j_bipush (q := 113) dL_tick_111 rfl rfl ?_
    refine j_icmp_ge (tgt := 164) (q := 116) dL_tick_113 (by decide) rfl (by first | exact wr_id' (by omega) (by omega) | with_reducible exact wr_bI _ | exact rfl) (by first | exact wr_id' (by omega) (by omega) | with_reducible exact wr_bI _ | exact rfl) (fun h113 => ?_) (fun h113 => ?_)
    · refine j_fgt9 ?_
      exact kk _ rfl
    · omega
  | succ d ih =>
    intro e z g0 g1 g2 kk
    refine j_iload9 (q := 111) dL_tick_109 rfl ?_
    refine j_bipush (q := 113) dL_tick_111 rfl rfl ?_
    refine j_icmp_ge (tgt := 164) (q := 116) dL_tick_113 (by decide) rfl (by first | exact wr_id' (by omega) (by omega) | with_reducible exact wr_bI _ | exact rfl) (by first | exact wr_id' (by omega) (by omega) | with_reducible exact wr_bI _ | exact rfl) (fun h113 => ?_) (fun h113 => ?_)
    · omega
    · have hc := cr_b (k := e) ⟨by omega, by omega⟩
      have hb := (g2.2.2 (cr e) hc.1 hc.2).2.2.2.1
      refine j_aload1 (q := 117) dL_tick_116 rfl ?_
      refine j_iconst (q := 118) dL_tick_117 rfl ?_
      refine j_iload9 (q := 120) dL_tick_118 rfl ?_
      refine j_imul (q := 121) dL_tick_120 rfl ?_
      refine j_l1_0 (q := 122) dL_tick_121 rfl hs (by omega) ?_
      refine j_if_ge (tgt := 128) (q := 125) dL_tick_122 (by decide) rfl (by first | exact wr_id' (by omega) (by omega) | with_reducible exact wr_bI _ | exact rfl) (fun h122 => ?_) (fun h122 => ?_)
      · refine j_aload1 (q := 129) dL_tick_128 rfl ?_
        refine j_iconst (q := 130) dL_tick_129 rfl ?_
        refine j_iload9 (q := 132) dL_tick_130 rfl ?_
        refine j_imul (q := 133) dL_tick_132 rfl ?_
        refine j_iconst (q := 134) dL_tick_133 rfl ?_
        refine j_iadd (q := 135) dL_tick_134 rfl ?_
        refine j_dup2 (q := 136) dL_tick_135 rfl rfl rfl ?_
        refine j_l1_1 (q := 137) dL_tick_136 rfl hs (by omega) ?_
        refine j_iconst (q := 138) dL_tick_137 rfl ?_
        refine j_isub (q := 139) dL_tick_138 rfl ?_
        refine j_s1_1 (q := 140) dL_tick_139 rfl hs (by omega) ?_
        refine j_aload1 (q := 141) dL_tick_140 rfl ?_
        refine j_iconst (q := 142) dL_tick_141 rfl ?_
        refine j_iload9 (q := 144) dL_tick_142 rfl ?_
        refine j_imul (q := 145) dL_tick_144 rfl ?_
        refine j_iconst (q := 146) dL_tick_145 rfl ?_
        refine j_iadd (q := 147) dL_tick_146 rfl ?_
        refine j_l1_1 (q := 148) dL_tick_147 rfl hs (by omega) ?_
        refine j_if_ne (tgt := 158) (q := 151) dL_tick_148 (by decide) rfl rfl (fun h148 => ?_) (fun h148 => ?_)
        · refine j_mem (m' := lz m p (zEp z (cr e))) (by first | rw [ep_0 (by omega) hb] | rw [ep_1 (by omega) hb (by assumption)] | rw [ep_2 (by omega) hb (by assumption)]) ?_
          refine j_iinc9 (q := 161) dL_tick_158 rfl rfl (by decide) ?_
          refine j_goto (tgt := 109) dL_tick_161 (by decide) ?_
          exact ih _ _ (by omega) (by omega) (LX_ep hc g2) (fun x hx => kk x (hx.trans (rfl)))
        · refine j_aload1 (q := 152) dL_tick_151 rfl ?_
          refine j_iconst (q := 153) dL_tick_152 rfl ?_
          refine j_iload9 (q := 155) dL_tick_153 rfl ?_
          refine j_imul (q := 156) dL_tick_155 rfl ?_
          refine j_iconst (q := 157) dL_tick_156 rfl ?_
          refine j_s1_0 (q := 158) dL_tick_157 rfl hs (by omega) (v' := 0) (by decide) ?_
          refine j_mem (m' := lz m p (zEp z (cr e))) (by first | rw [ep_0 (by omega) hb] | rw [ep_1 (by omega) hb (by assumption)] | rw [ep_2 (by omega) hb (by assumption)]) ?_
          refine j_iinc9 (q := 161) dL_tick_158 rfl rfl (by decide) ?_
          refine j_goto (tgt := 109) dL_tick_161 (by decide) ?_
          exact ih _ _ (by omega) (by omega) (LX_ep hc g2) (fun x hx => kk x (hx.trans (rfl)))
      · refine j_goto (tgt := 158) dL_tick_125 (by decide) ?_
        refine j_mem (m' := lz m p (zEp z (cr e))) (by first | rw [ep_0 (by omega) hb] | rw [ep_1 (by omega) hb (by assumption)] | rw [ep_2 (by omega) hb (by assumption)]) ?_
        refine j_iinc9 (q := 161) dL_tick_158 rfl rfl (by decide) ?_
        refine j_goto (tgt := 109) dL_tick_161 (by decide) ?_
        exact ih _ _ (by omega) (by omega) (LX_ep hc g2) (fun x hx => kk x (hx.trans (rfl)))
theorem lp_L_tick_l {G : GX} {sh : List SH} {p : Bool} (E : EW G sh) (hs : LA sh p) {m : Mem} {F : FinT} : ∀ (d : Nat) (e : Int) (z : Z), e + d = 16 → 0 ≤ e → LX z → LE z e → DU z → (∀ (x : Z), x = itF lEl d e z → J G sh iL_tick 0 0 F 262 [some (.inr (.ref (ix p 0))), some (.inr (.ref (ix p 1))), some (.inr (.ref (ix p 2))), some (.inr (.ref (ix p 3))), some (.inr (.ref (ix p 4))), some (.inr (.ref (ix p 5))), some (.inr (.ref (ix p 7))), some (.inr (.ref (ix p 6))), none, none] [] (lz m p x) 0 0) → J G sh iL_tick 0 0 F 167 [some (.inr (.ref (ix p 0))), some (.inr (.ref (ix p 1))), some (.inr (.ref (ix p 2))), some (.inr (.ref (ix p 3))), some (.inr (.ref (ix p 4))), some (.inr (.ref (ix p 5))), some (.inr (.ref (ix p 7))), some (.inr (.ref (ix p 6))), none, some (.inl e)] [] (lz m p z) 0 0 := by
  intro d
  induction d with
  | zero =>
    intro e z g0 g1 g2 g3 g4 kk
    refine j_iload9 (q := 169) dL_tick_167 rfl ?_
    refine j_bipush (q := 171) dL_tick_169 rfl rfl ?_
    refine j_icmp_ge (tgt := 262) (q := 174) dL_tick_171 (by decide) rfl (by first | exact wr_id' (by omega) (by omega) | with_reducible exact wr_bI _ | exact rfl) (by first | exact wr_id' (by omega) (by omega) | with_reducible exact wr_bI _ | exact rfl) (fun h171 => ?_) (fun h171 => ?_)
    · refine j_fgt9 ?_
      exact kk _ rfl
    · omega
  | succ d ih =>
    intro e z g0 g1 g2 g3 g4 kk
    refine j_iload9 (q := 169) dL_tick_167 rfl ?_
    refine j_bipush (q := 171) dL_tick_169 rfl rfl ?_
    refine j_icmp_ge (tgt := 262) (q := 174) dL_tick_171 (by decide) rfl (by first | exact wr_id' (by omega) (by omega) | with_reducible exact wr_bI _ | exact rfl) (by first | exact wr_id' (by omega) (by omega) | with_reducible exact wr_bI _ | exact rfl) (fun h171 => ?_) (fun h171 => ?_)
    · omega
    · have hc := cr_b (k := e) ⟨by omega, by omega⟩
      have hb := (g2.2.2 (cr e) hc.1 hc.2).2.2.1
      have hu := g4 (cr e) hc.1 hc.2
      refine j_aload0 (q := 175) dL_tick_174 rfl ?_
      refine j_iconst (q := 176) dL_tick_175 rfl ?_
      refine j_iload9 (q := 178) dL_tick_176 rfl ?_
      refine j_imul (q := 179) dL_tick_178 rfl ?_
      refine j_iconst (q := 180) dL_tick_179 rfl ?_
      refine j_iadd (q := 181) dL_tick_180 rfl ?_
      refine j_l0_2 (q := 182) dL_tick_181 rfl hs (by omega) ?_
      refine j_if_ge (tgt := 188) (q := 185) dL_tick_182 (by decide) rfl (by first | exact wr_id' (by omega) (by omega) | with_reducible exact wr_bI _ | exact rfl) (fun h182 => ?_) (fun h182 => ?_)
      · have hl := g3 e (by omega) (by omega) (by omega)
        refine j_aload0 (q := 189) dL_tick_188 rfl ?_
        refine j_iconst (q := 190) dL_tick_189 rfl ?_
        refine j_iload9 (q := 192) dL_tick_190 rfl ?_
        refine j_imul (q := 193) dL_tick_192 rfl ?_
        refine j_iconst (q := 194) dL_tick_193 rfl ?_
        refine j_iadd (q := 195) dL_tick_194 rfl ?_
        refine j_dup2 (q := 196) dL_tick_195 rfl rfl rfl ?_
        refine j_l0_3 (q := 197) dL_tick_196 rfl hs (by omega) ?_
        refine j_iconst (q := 198) dL_tick_197 rfl ?_
        refine j_isub (q := 199) dL_tick_198 rfl ?_
        refine j_s0_3 (q := 200) dL_tick_199 rfl hs (by omega) ?_
        refine j_mem (m' := lz m p (zEl1 z (cr e))) rfl ?_
        have q3 : zEl1 z (cr e) (59 + 9 * cr e + 3) = z (59 + 9 * cr e + 3) - 1 := u1_at
        refine j_aload0 (q := 201) dL_tick_200 rfl ?_
        refine j_iconst (q := 202) dL_tick_201 rfl ?_
        refine j_iload9 (q := 204) dL_tick_202 rfl ?_
        refine j_imul (q := 205) dL_tick_204 rfl ?_
        refine j_iconst (q := 206) dL_tick_205 rfl ?_
        refine j_iadd (q := 207) dL_tick_206 rfl ?_
        refine j_l0_3 (q := 208) dL_tick_207 rfl hs (by omega) ?_
        refine j_if_le (tgt := 214) (q := 211) dL_tick_208 (by decide) rfl (by first | exact wr_id' (by omega) (by omega) | with_reducible exact wr_bI _ | exact rfl) (fun h208 => ?_) (fun h208 => ?_)
        · refine j_aload0 (q := 215) dL_tick_214 rfl ?_
          refine j_iconst (q := 216) dL_tick_215 rfl ?_
          refine j_iload9 (q := 218) dL_tick_216 rfl ?_
          refine j_imul (q := 219) dL_tick_218 rfl ?_
          refine j_iconst (q := 220) dL_tick_219 rfl ?_
          refine j_iadd (q := 221) dL_tick_220 rfl ?_
          refine j_iconst (q := 222) dL_tick_221 rfl ?_
          refine j_s0_2 (q := 223) dL_tick_222 rfl hs (by omega) (v' := 0) (by decide) ?_
          have q6 : u1 (zEl1 z (cr e)) (59 + 9 * cr e + 2) 0 (59 + 9 * cr e + 6) = z (59 + 9 * cr e + 6) := by unfold zEl1; rw [u1_ne (by omega), u1_ne (by omega)]
          refine j_aload7 (q := 225) dL_tick_223 rfl ?_
          refine j_bipush (q := 227) dL_tick_225 rfl rfl ?_
          refine j_dup2 (q := 228) dL_tick_227 rfl rfl rfl ?_
          refine j_l6_0 (q := 229) dL_tick_228 rfl hs (by omega) ?_
          refine j_aload1 (q := 230) dL_tick_229 rfl ?_
          refine j_iconst (q := 231) dL_tick_230 rfl ?_
          refine j_iload9 (q := 233) dL_tick_231 rfl ?_
          refine j_imul (q := 234) dL_tick_233 rfl ?_
          refine j_iconst (q := 235) dL_tick_234 rfl ?_
          refine j_iadd (q := 236) dL_tick_235 rfl ?_
          refine j_l1_2 (q := 237) dL_tick_236 rfl hs (by omega) ?_
          refine j_if_ge (tgt := 244) (q := 240) dL_tick_237 (by decide) rfl (by first | exact wr_id' (by omega) (by omega) | with_reducible exact wr_bI _ | exact rfl) (fun h237 => ?_) (fun h237 => ?_)
          · refine j_iconst (q := 245) dL_tick_244 rfl ?_
            refine j_iadd (q := 246) dL_tick_245 rfl ?_
            refine j_s6_0 (q := 247) dL_tick_246 rfl hs (by omega) ?_
            refine j_aload1 (q := 248) dL_tick_247 rfl ?_
            refine j_iconst (q := 249) dL_tick_248 rfl ?_
            refine j_iload9 (q := 251) dL_tick_249 rfl ?_
            refine j_imul (q := 252) dL_tick_251 rfl ?_
            refine j_iconst (q := 253) dL_tick_252 rfl ?_
            refine j_iadd (q := 254) dL_tick_253 rfl ?_
            refine j_iconst (q := 255) dL_tick_254 rfl ?_
            refine j_s1_2 (q := 256) dL_tick_255 rfl hs (by omega) (v' := 0) (by decide) ?_
            refine j_mem (m' := lz m p (zEl z (cr e))) (by first | rw [el_0 (by omega) hb] | rw [el_1 (by omega) hb hl (by omega)] | rw [el_2 (by omega) hb hl (by omega), el_2a (by omega) (by omega)] | rw [el_2 (by omega) hb hl (by omega), el_2b (by omega) (by omega)]) ?_
            refine j_iinc9 (q := 259) dL_tick_256 rfl rfl (by decide) ?_
            refine j_goto (tgt := 167) dL_tick_259 (by decide) ?_
            exact ih _ _ (by omega) (by omega) (LX_el hc g2) (LE_el ⟨by omega, by omega⟩ g3) (DU_el hc g4) (fun x hx => kk x (hx.trans (rfl)))
          · refine j_iconst (q := 241) dL_tick_240 rfl ?_
            refine j_goto (tgt := 245) dL_tick_241 (by decide) ?_
            refine j_iadd (q := 246) dL_tick_245 rfl ?_
            refine j_s6_0 (q := 247) dL_tick_246 rfl hs (by omega) ?_
            refine j_aload1 (q := 248) dL_tick_247 rfl ?_
            refine j_iconst (q := 249) dL_tick_248 rfl ?_
            refine j_iload9 (q := 251) dL_tick_249 rfl ?_
            refine j_imul (q := 252) dL_tick_251 rfl ?_
            refine j_iconst (q := 253) dL_tick_252 rfl ?_
            refine j_iadd (q := 254) dL_tick_253 rfl ?_
            refine j_iconst (q := 255) dL_tick_254 rfl ?_
            refine j_s1_2 (q := 256) dL_tick_255 rfl hs (by omega) (v' := 0) (by decide) ?_
            refine j_mem (m' := lz m p (zEl z (cr e))) (by first | rw [el_0 (by omega) hb] | rw [el_1 (by omega) hb hl (by omega)] | rw [el_2 (by omega) hb hl (by omega), el_2a (by omega) (by omega)] | rw [el_2 (by omega) hb hl (by omega), el_2b (by omega) (by omega)]) ?_
            refine j_iinc9 (q := 259) dL_tick_256 rfl rfl (by decide) ?_
            refine j_goto (tgt := 167) dL_tick_259 (by decide) ?_
            exact ih _ _ (by omega) (by omega) (LX_el hc g2) (LE_el ⟨by omega, by omega⟩ g3) (DU_el hc g4) (fun x hx => kk x (hx.trans (rfl)))
        · refine j_goto (tgt := 256) dL_tick_211 (by decide) ?_
          refine j_mem (m' := lz m p (zEl z (cr e))) (by first | rw [el_0 (by omega) hb] | rw [el_1 (by omega) hb hl (by omega)] | rw [el_2 (by omega) hb hl (by omega), el_2a (by omega) (by omega)] | rw [el_2 (by omega) hb hl (by omega), el_2b (by omega) (by omega)]) ?_
          refine j_iinc9 (q := 259) dL_tick_256 rfl rfl (by decide) ?_
          refine j_goto (tgt := 167) dL_tick_259 (by decide) ?_
          exact ih _ _ (by omega) (by omega) (LX_el hc g2) (LE_el ⟨by omega, by omega⟩ g3) (DU_el hc g4) (fun x hx => kk x (hx.trans (rfl)))
      · refine j_goto (tgt := 256) dL_tick_185 (by decide) ?_
        refine j_mem (m' := lz m p (zEl z (cr e))) (by first | rw [el_0 (by omega) hb] | rw [el_1 (by omega) hb hl (by omega)] | rw [el_2 (by omega) hb hl (by omega), el_2a (by omega) (by omega)] | rw [el_2 (by omega) hb hl (by omega), el_2b (by omega) (by omega)]) ?_
        refine j_iinc9 (q := 259) dL_tick_256 rfl rfl (by decide) ?_
        refine j_goto (tgt := 167) dL_tick_259 (by decide) ?_
        exact ih _ _ (by omega) (by omega) (LX_el hc g2) (LE_el ⟨by omega, by omega⟩ g3) (DU_el hc g4) (fun x hx => kk x (hx.trans (rfl)))
theorem ct_L_tick {G : GX} {sh : List SH} {p : Bool} (E : EW G sh) (hs : LA sh p) {m : Mem} {z : Z} {T B K : Int} {o : Int → Int} (hK : LK z T B K) (hT : T + 1 ≤ 20000) : CT G sh iL_tick 0 0 [.inr (.ref (ix p 0)), .inr (.ref (ix p 1)), .inr (.ref (ix p 2)), .inr (.ref (ix p 3)), .inr (.ref (ix p 4)), .inr (.ref (ix p 5)), .inr (.ref (ix p 7)), .inr (.ref (ix p 6))] (lz m p z) none (lz m p (zTk z o)) := by
  have hX := hK.x
  have hI := hK.i
  have s6 := hI.st 6 (by decide) (by decide)
  have t1 := hI.ht
  have hX0 := LX_tk0 hX
  have I0 : IZ (zTk0 z) (T + 1) B := by obtain ⟨_, P, hR, _⟩ := hK; exact (R_tk0 hT hR.1 hI).2
  have hD0 := IZ_DB I0
  have e1 : u1 z 0 (z 0 + 1) 1 = z 1 := u1_ne (by omega)
  have e6 : u1 z 0 (z 0 + 1) (15 + 6) = z (15 + 6) := u1_ne (by omega)
  refine j_met (L0 := [some (.inr (.ref (ix p 0))), some (.inr (.ref (ix p 1))), some (.inr (.ref (ix p 2))), some (.inr (.ref (ix p 3))), some (.inr (.ref (ix p 4))), some (.inr (.ref (ix p 5))), some (.inr (.ref (ix p 7))), some (.inr (.ref (ix p 6))), none, none]) (by decide) E.1 E.2 rfl (Nat.le_of_ble_eq_true rfl) ?_
  refine j_aload7 (q := 2) dL_tick_0 rfl ?_
  refine j_iconst (q := 3) dL_tick_2 rfl ?_
  refine j_dup2 (q := 4) dL_tick_3 rfl rfl rfl ?_
  refine j_l6_0 (q := 5) dL_tick_4 rfl hs (by omega) ?_
  refine j_iconst (q := 6) dL_tick_5 rfl ?_
  refine j_iadd (q := 7) dL_tick_6 rfl ?_
  refine j_s6_0 (q := 8) dL_tick_7 rfl hs (by omega) ?_
  refine j_aload7 (q := 10) dL_tick_8 rfl ?_
  refine j_iconst (q := 11) dL_tick_10 rfl ?_
  refine j_aload7 (q := 13) dL_tick_11 rfl ?_
  refine j_iconst (q := 14) dL_tick_13 rfl ?_
  refine j_l6_0 (q := 15) dL_tick_14 rfl hs (by omega) ?_
  refine j_aload6 (q := 17) dL_tick_15 rfl ?_
  refine j_bipush (q := 19) dL_tick_17 rfl rfl ?_
  refine j_l7_0 (q := 20) dL_tick_19 rfl hs (by omega) ?_
  refine j_icmp_ge (tgt := 27) (q := 23) dL_tick_20 (by decide) rfl (by first | exact wr_id' (by omega) (by omega) | with_reducible exact wr_bI _ | exact rfl) (by first | exact wr_id' (by omega) (by omega) | with_reducible exact wr_bI _ | exact rfl) (fun h20 => ?_) (fun h20 => ?_)
  · refine j_aload7 (q := 29) dL_tick_27 rfl ?_
    refine j_iconst (q := 30) dL_tick_29 rfl ?_
    refine j_l6_0 (q := 31) dL_tick_30 rfl hs (by omega) ?_
    refine j_aload6 (q := 33) dL_tick_31 rfl ?_
    refine j_bipush (q := 35) dL_tick_33 rfl rfl ?_
    refine j_l7_0 (q := 36) dL_tick_35 rfl hs (by omega) ?_
    refine j_isub (q := 37) dL_tick_36 rfl ?_
    refine j_s6_0 (q := 38) dL_tick_37 rfl hs (by omega) ?_
    refine j_mem (m' := lz m p (zTk0 z)) (by unfold zTk0 zNB; rw [wr_id' (by omega) (by omega)]; first | (rw [if_pos (by omega)]; done) | (rw [if_neg (by omega)]; done)) ?_
    refine j_iconst (q := 39) dL_tick_38 rfl ?_
    refine j_aload1 (q := 40) dL_tick_39 rfl ?_
    refine j_callS2 (Mc := iL_owed) (q := 43) (c' := 0) (s' := 0) dL_tick_40 rfl kS_L_owed jw_587 ⟨by decide, by decide⟩ rfl (Nat.le_refl _) (Nat.le_refl _) (ct_L_owed E hs (by assumption) (by omega)) ?_
    refine j_istore8 (q := 45) dL_tick_43 rfl rfl (by decide) ?_
    refine lp_L_tick_w E hs (o := zOrd (zTk0 z) o) (zOrN (zTk0 z) o).toNat 0 (zTk0 z) (zOrd_l I0 o) hX0 hD0 ?_
    intro x1 hx1
    replace hx1 : x1 = zTk1 z o := hx1
    subst hx1
    obtain ⟨f1, f2⟩ := tk1_f (o := o) hK
    have hX1 : LX (zTk1 z o) := LX_tk1 hX
    refine j_iconst (q := 107) dL_tick_106 rfl ?_
    refine j_istore9 (q := 109) dL_tick_107 rfl rfl (by decide) ?_
    refine lp_L_tick_p E hs 16 0 (zTk1 z o) (by omega) (by omega) hX1 ?_
    intro x2 hx2
    rw [lEp_16 hX1] at hx2
    have hX2 : LX x2 := by rw [hx2]; exact LX_epF 64 0 _ (by omega) (by omega) hX1
    have f3 : LE x2 0 := by rw [hx2]; exact LE_ep f1
    have f4 : DU x2 := by rw [hx2]; exact DU_ep f2
    refine j_iconst (q := 165) dL_tick_164 rfl ?_
    refine j_istore9 (q := 167) dL_tick_165 rfl rfl (by decide) ?_
    refine lp_L_tick_l E hs 16 0 x2 (by omega) (by omega) hX2 f3 f4 ?_
    intro x3 hx3
    rw [lEl_16 hX2, hx2] at hx3
    exact j_return dL_tick_262 rfl (by rw [hx3, zTk])
  · refine j_iconst (q := 24) dL_tick_23 rfl ?_
    refine j_goto (tgt := 37) dL_tick_24 (by decide) ?_
    refine j_s6_0 (q := 38) dL_tick_37 rfl hs (by omega) ?_
    refine j_mem (m' := lz m p (zTk0 z)) (by unfold zTk0 zNB; rw [wr_id' (by omega) (by omega)]; first | (rw [if_pos (by omega)]; done) | (rw [if_neg (by omega)]; done)) ?_
    refine j_iconst (q := 39) dL_tick_38 rfl ?_
    refine j_aload1 (q := 40) dL_tick_39 rfl ?_
    refine j_callS2 (Mc := iL_owed) (q := 43) (c' := 0) (s' := 0) dL_tick_40 rfl kS_L_owed jw_587 ⟨by decide, by decide⟩ rfl (Nat.le_refl _) (Nat.le_refl _) (ct_L_owed E hs (by assumption) (by omega)) ?_
    refine j_istore8 (q := 45) dL_tick_43 rfl rfl (by decide) ?_
    refine lp_L_tick_w E hs (o := zOrd (zTk0 z) o) (zOrN (zTk0 z) o).toNat 0 (zTk0 z) (zOrd_l I0 o) hX0 hD0 ?_
    intro x1 hx1
    replace hx1 : x1 = zTk1 z o := hx1
    subst hx1
    obtain ⟨f1, f2⟩ := tk1_f (o := o) hK
    have hX1 : LX (zTk1 z o) := LX_tk1 hX
    refine j_iconst (q := 107) dL_tick_106 rfl ?_
    refine j_istore9 (q := 109) dL_tick_107 rfl rfl (by decide) ?_
    refine lp_L_tick_p E hs 16 0 (zTk1 z o) (by omega) (by omega) hX1 ?_
    intro x2 hx2
    rw [lEp_16 hX1] at hx2
    have hX2 : LX x2 := by rw [hx2]; exact LX_epF 64 0 _ (by omega) (by omega) hX1
    have f3 : LE x2 0 := by rw [hx2]; exact LE_ep f1
    have f4 : DU x2 := by rw [hx2]; exact DU_ep f2
    refine j_iconst (q := 165) dL_tick_164 rfl ?_
    refine j_istore9 (q := 167) dL_tick_165 rfl rfl (by decide) ?_
    refine lp_L_tick_l E hs 16 0 x2 (by omega) (by omega) hX2 f3 f4 ?_
    intro x3 hx3
    rw [lEl_16 hX2, hx2] at hx3
    exact j_return dL_tick_262 rfl (by rw [hx3, zTk])

/-! the law: a pulse, writes, reads -/
/-- what a loss leaves alone -/
theorem LX_lof {z : Z} {c : Int} (hc : 0 ≤ c ∧ c < 64) (h : LX z) {j : Int} (hj : j < 23 ∨ 59 ≤ j ∧ j < 635 ∧ ¬ j = 59 + 9 * c + 4 ∧ ¬ j = 59 + 9 * c + 5 ∧ ¬ j = 59 + 9 * c + 8) : zLo z c j = z j := by
  have w1 := LX_1 hc h
  have r1 := w1.2.2 c hc.1 hc.2
  have e1 : zL1 z c j = z j := u1_ne (by omega)
  unfold zLo
  split
  · rename_i hl
    have hl := (zLs_p ⟨r1.2.2.1.1, by omega⟩).mp hl
    have w2 := LX_2 hc hl w1
    have r2 := w2.2.2 c hc.1 hc.2
    have e2 : zL2 (zL1 z c) c j = z j := (u1_ne (by omega)).trans e1
    split
    · exact e2
    · have hi : 0 ≤ zL2 (zL1 z c) c (59 + 9 * c + 4) - 1 ∧ zL2 (zL1 z c) c (59 + 9 * c + 4) - 1 < 2 := ⟨by omega, by omega⟩
      have w3 := LX_3 (t := zL1 z c (59 + 9 * c + 2) - 1) hc rfl hi ⟨by omega, by omega⟩ w2
      have wt := LX_wt w3 hi
      have wt2 := LX_wt w2 hi
      rw [(zPay_fr ⟨hi.1, by omega⟩ ⟨wt.1, by omega⟩ (QT_QE w3.1)).1 j (by omega) (by omega) (by omega)]
      have e4 : u1 (u1 (zL2 (zL1 z c) c) (59 + 9 * c + 4) 0) (59 + 9 * c + 5) 0 (41 + 6 * (zL2 (zL1 z c) c (59 + 9 * c + 4) - 1) + 5) = zL2 (zL1 z c) c (41 + 6 * (zL2 (zL1 z c) c (59 + 9 * c + 4) - 1) + 5) := by rw [u1_ne (by omega), u1_ne (by omega)]
      simp only [zL3]
      rw [e4, u1_ne (by omega), u1_ne (by omega), u1_ne (by omega), u1_ne (by omega)]
      exact e2
  · exact e1
theorem zPuF_lx {k : Int} {j : Int} (hj : j < 23 ∧ ¬ j = 9 ∨ 59 ≤ j ∧ j < 635 ∧ ¬ (j - 59) % 9 = 0 ∧ ¬ (j - 59) % 9 = 4 ∧ ¬ (j - 59) % 9 = 5 ∧ ¬ (j - 59) % 9 = 8) : ∀ (d : Nat) (c : Int) (z : Z), c + d = 64 → 0 ≤ c → LX z → zPuF k d c z j = z j := by
  intro d
  induction d with
  | zero => intro c z _ _ _; rfl
  | succ d ih =>
    intro c z h1 h2 h
    rw [zPuF]
    split
    · rw [ih _ _ (by omega) (by omega) (LX_lo ⟨h2, by omega⟩ (LX_pd ⟨h2, by omega⟩ h))]
      exact (LX_lof ⟨h2, by omega⟩ (LX_pd ⟨h2, by omega⟩ h) (by omega)).trans (by unfold zPd; rw [u1_ne (by omega), u1_ne (by omega)])
    · exact ih _ _ (by omega) (by omega) h
theorem zPul_lx {z : Z} {k b : Int} (hk : 0 ≤ k ∧ k < 64) (h : LX z) {j : Int} (hj : j < 23 ∧ ¬ j = 9 ∧ ¬ j = 1 ∨ 59 ≤ j ∧ j < 635 ∧ ¬ (j - 59) % 9 = 0 ∧ ¬ (j - 59) % 9 = 1 ∧ ¬ (j - 59) % 9 = 4 ∧ ¬ (j - 59) % 9 = 5 ∧ ¬ (j - 59) % 9 = 8) : zPul z k b j = z j := by
  unfold zPul
  rw [u1_ne (by omega), zPuF_lx (by omega) 64 0 _ (by omega) (by omega) (LX_u1 (by unfold LN; omega) h), u1_ne (by omega)]
theorem worn_a {z : Z} {c : Int} (h4 : 0 ≤ z 1 ∧ z 1 ≤ 100) (h5 : 0 ≤ z (59 + 9 * c + 1) ∧ z (59 + 9 * c + 1) ≤ 100) (h : 0 ≤ z (59 + 9 * c + 1) - (1 + (z 1).tdiv 25)) : z (59 + 9 * c + 1) - (1 + (z 1).tdiv 25) = zWorn z c := by
  have e : (z 1).tdiv 25 = z 1 / 25 := Int.tdiv_eq_ediv_of_nonneg h4.1
  have w1 : wr (z 1) = z 1 := wr_id' (by omega) (by omega)
  rw [e] at h ⊢
  unfold zWorn zNB
  rw [w1, e, wr_id' (by omega) (by omega), if_neg (by omega)]
  omega
theorem worn_b {z : Z} {c : Int} (h4 : 0 ≤ z 1 ∧ z 1 ≤ 100) (h5 : 0 ≤ z (59 + 9 * c + 1) ∧ z (59 + 9 * c + 1) ≤ 100) (h : ¬ 0 ≤ z (59 + 9 * c + 1) - (1 + (z 1).tdiv 25)) : 0 = zWorn z c := by
  have e : (z 1).tdiv 25 = z 1 / 25 := Int.tdiv_eq_ediv_of_nonneg h4.1
  have w1 : wr (z 1) = z 1 := wr_id' (by omega) (by omega)
  rw [e] at h
  unfold zWorn zNB
  rw [w1, e, wr_id' (by omega) (by omega), if_pos (by omega)]
theorem tdiv_b {x : Int} (h : 0 ≤ x ∧ x ≤ 100) : 0 ≤ x.tdiv 25 ∧ x.tdiv 25 ≤ 4 := by
  rw [Int.tdiv_eq_ediv_of_nonneg h.1]; omega
theorem ct_L_pulse {G : GX} {sh : List SH} {p : Bool} (E : EW G sh) (hs : LA sh p) {m : Mem} {z : Z} {k : Int} {b : Int} (h1 : 0 ≤ k ∧ k < 16) (hX : LX z) (h3 : 0 ≤ b ∧ b ≤ 100) (h4 : 0 ≤ z 1 ∧ z 1 ≤ 100) (h5 : 0 ≤ z (59 + 9 * cr k + 1) ∧ z (59 + 9 * cr k + 1) ≤ 100) : CT G sh iL_pulse 0 0 [.inl k, .inl b, .inr (.ref (ix p 0)), .inr (.ref (ix p 1)), .inr (.ref (ix p 2)), .inr (.ref (ix p 3)), .inr (.ref (ix p 4)), .inr (.ref (ix p 5)), .inr (.ref (ix p 7)), .inr (.ref (ix p 6))] (lz m p z) none (lz m p (zPul z (cr k) b)) := by
  refine j_met (L0 := [some (.inl k), some (.inl b), some (.inr (.ref (ix p 0))), some (.inr (.ref (ix p 1))), some (.inr (.ref (ix p 2))), some (.inr (.ref (ix p 3))), some (.inr (.ref (ix p 4))), some (.inr (.ref (ix p 5))), some (.inr (.ref (ix p 7))), some (.inr (.ref (ix p 6))), none]) (by decide) E.1 E.2 rfl (Nat.le_of_ble_eq_true rfl) ?_
  have hc := cr_b h1
  have ht := tdiv_b h4
  refine j_aload2 (q := 1) dL_pulse_0 rfl ?_
  refine j_iconst (q := 2) dL_pulse_1 rfl ?_
  refine j_iload0 (q := 3) dL_pulse_2 rfl ?_
  refine j_imul (q := 4) dL_pulse_3 rfl ?_
  refine j_iconst (q := 5) dL_pulse_4 rfl ?_
  refine j_iadd (q := 6) dL_pulse_5 rfl ?_
  refine j_dup2 (q := 7) dL_pulse_6 rfl rfl rfl ?_
  refine j_l0_1 (q := 8) dL_pulse_7 rfl hs (by omega) ?_
  refine j_iconst (q := 9) dL_pulse_8 rfl ?_
  refine j_aload9 (q := 11) dL_pulse_9 rfl ?_
  refine j_iconst (q := 12) dL_pulse_11 rfl ?_
  refine j_l6_0 (q := 13) dL_pulse_12 rfl hs (by omega) ?_
  refine j_bipush (q := 15) dL_pulse_13 rfl rfl ?_
  refine j_idiv (q := 16) dL_pulse_15 rfl (by first | exact wr_id' (by omega) (by omega) | with_reducible exact wr_bI _ | exact rfl) (by first | exact wr_id' (by omega) (by omega) | with_reducible exact wr_bI _ | exact rfl) (by omega) (by omega) ?_
  refine j_iadd (q := 17) dL_pulse_16 rfl ?_
  refine j_isub (q := 18) dL_pulse_17 rfl ?_
  refine j_s0_1 (q := 19) dL_pulse_18 rfl hs (by omega) ?_
  refine j_aload2 (q := 20) dL_pulse_19 rfl ?_
  refine j_iconst (q := 21) dL_pulse_20 rfl ?_
  refine j_iload0 (q := 22) dL_pulse_21 rfl ?_
  refine j_imul (q := 23) dL_pulse_22 rfl ?_
  refine j_iconst (q := 24) dL_pulse_23 rfl ?_
  refine j_iadd (q := 25) dL_pulse_24 rfl ?_
  refine j_l0_1 (q := 26) dL_pulse_25 rfl hs (by omega) ?_
  have hu : u1 z (59 + 9 * cr k + 1) (z (59 + 9 * cr k + 1) - (1 + (z 1).tdiv 25)) (59 + 9 * cr k + 1) = z (59 + 9 * cr k + 1) - (1 + (z 1).tdiv 25) := u1_at
  refine j_if_ge (tgt := 37) (q := 29) dL_pulse_26 (by decide) rfl (by first | exact wr_id' (by omega) (by omega) | with_reducible exact wr_bI _ | exact rfl) (fun h26 => ?_) (fun h26 => ?_)
  · refine j_mem (m' := lz m p (u1 z (59 + 9 * cr k + 1) (zWorn z (cr k)))) (by first | rw [u1_u1, ← worn_b h4 h5 (by omega)] | rw [← worn_a h4 h5 (by omega)]) ?_
    refine j_iconst (q := 38) dL_pulse_37 rfl ?_
    refine j_istore10 (q := 40) dL_pulse_38 rfl rfl (by decide) ?_
    have w1 : LX (u1 z (59 + 9 * cr k + 1) (zWorn z (cr k))) := LX_u1 (by unfold LN; omega) hX
    refine lp_L_pulse E hs h1 16 0 _ (by omega) (by omega) w1 ?_
    intro x hx
    rw [lPuF_e h1 w1] at hx
    have hx1 : x 1 = z 1 := by rw [hx, zPuF_lx (by omega) 64 0 _ (by omega) (by omega) w1, u1_ne (by omega)]
    refine j_aload9 (q := 122) dL_pulse_120 rfl ?_
    refine j_iconst (q := 123) dL_pulse_122 rfl ?_
    refine j_aload9 (q := 125) dL_pulse_123 rfl ?_
    refine j_iconst (q := 126) dL_pulse_125 rfl ?_
    refine j_l6_0 (q := 127) dL_pulse_126 rfl hs (by omega) ?_
    refine j_iload1 (q := 128) dL_pulse_127 rfl ?_
    refine j_iadd (q := 129) dL_pulse_128 rfl ?_
    refine j_bipush (q := 131) dL_pulse_129 rfl rfl ?_
    refine j_icmp_le (tgt := 139) (q := 134) dL_pulse_131 (by decide) rfl (by first | exact wr_id' (by omega) (by omega) | with_reducible exact wr_bI _ | exact rfl) (by first | exact wr_id' (by omega) (by omega) | with_reducible exact wr_bI _ | exact rfl) (fun h131 => ?_) (fun h131 => ?_)
    · refine j_aload9 (q := 141) dL_pulse_139 rfl ?_
      refine j_iconst (q := 142) dL_pulse_141 rfl ?_
      refine j_l6_0 (q := 143) dL_pulse_142 rfl hs (by omega) ?_
      refine j_iload1 (q := 144) dL_pulse_143 rfl ?_
      refine j_iadd (q := 145) dL_pulse_144 rfl ?_
      refine j_s6_0 (q := 146) dL_pulse_145 rfl hs (by omega) ?_
      exact j_return dL_pulse_146 rfl (by rw [zPul, zHeat, zLess, ← hx, wr_id' (x := x 1 + b) (by omega) (by omega)]; first | (rw [if_pos (by show (100 : Int) < _; omega)]; done) | (rw [if_neg (by show ¬ (100 : Int) < _; omega)]; done))
    · refine j_bipush (q := 136) dL_pulse_134 rfl rfl ?_
      refine j_goto (tgt := 145) dL_pulse_136 (by decide) ?_
      refine j_s6_0 (q := 146) dL_pulse_145 rfl hs (by omega) ?_
      exact j_return dL_pulse_146 rfl (by rw [zPul, zHeat, zLess, ← hx, wr_id' (x := x 1 + b) (by omega) (by omega)]; first | (rw [if_pos (by show (100 : Int) < _; omega)]; done) | (rw [if_neg (by show ¬ (100 : Int) < _; omega)]; done))
  · refine j_aload2 (q := 30) dL_pulse_29 rfl ?_
    refine j_iconst (q := 31) dL_pulse_30 rfl ?_
    refine j_iload0 (q := 32) dL_pulse_31 rfl ?_
    refine j_imul (q := 33) dL_pulse_32 rfl ?_
    refine j_iconst (q := 34) dL_pulse_33 rfl ?_
    refine j_iadd (q := 35) dL_pulse_34 rfl ?_
    refine j_iconst (q := 36) dL_pulse_35 rfl ?_
    refine j_s0_1 (q := 37) dL_pulse_36 rfl hs (by omega) ?_
    refine j_mem (m' := lz m p (u1 z (59 + 9 * cr k + 1) (zWorn z (cr k)))) (by first | rw [u1_u1, ← worn_b h4 h5 (by omega)] | rw [← worn_a h4 h5 (by omega)]) ?_
    refine j_iconst (q := 38) dL_pulse_37 rfl ?_
    refine j_istore10 (q := 40) dL_pulse_38 rfl rfl (by decide) ?_
    have w1 : LX (u1 z (59 + 9 * cr k + 1) (zWorn z (cr k))) := LX_u1 (by unfold LN; omega) hX
    refine lp_L_pulse E hs h1 16 0 _ (by omega) (by omega) w1 ?_
    intro x hx
    rw [lPuF_e h1 w1] at hx
    have hx1 : x 1 = z 1 := by rw [hx, zPuF_lx (by omega) 64 0 _ (by omega) (by omega) w1, u1_ne (by omega)]
    refine j_aload9 (q := 122) dL_pulse_120 rfl ?_
    refine j_iconst (q := 123) dL_pulse_122 rfl ?_
    refine j_aload9 (q := 125) dL_pulse_123 rfl ?_
    refine j_iconst (q := 126) dL_pulse_125 rfl ?_
    refine j_l6_0 (q := 127) dL_pulse_126 rfl hs (by omega) ?_
    refine j_iload1 (q := 128) dL_pulse_127 rfl ?_
    refine j_iadd (q := 129) dL_pulse_128 rfl ?_
    refine j_bipush (q := 131) dL_pulse_129 rfl rfl ?_
    refine j_icmp_le (tgt := 139) (q := 134) dL_pulse_131 (by decide) rfl (by first | exact wr_id' (by omega) (by omega) | with_reducible exact wr_bI _ | exact rfl) (by first | exact wr_id' (by omega) (by omega) | with_reducible exact wr_bI _ | exact rfl) (fun h131 => ?_) (fun h131 => ?_)
    · refine j_aload9 (q := 141) dL_pulse_139 rfl ?_
      refine j_iconst (q := 142) dL_pulse_141 rfl ?_
      refine j_l6_0 (q := 143) dL_pulse_142 rfl hs (by omega) ?_
      refine j_iload1 (q := 144) dL_pulse_143 rfl ?_
      refine j_iadd (q := 145) dL_pulse_144 rfl ?_
      refine j_s6_0 (q := 146) dL_pulse_145 rfl hs (by omega) ?_
      exact j_return dL_pulse_146 rfl (by rw [zPul, zHeat, zLess, ← hx, wr_id' (x := x 1 + b) (by omega) (by omega)]; first | (rw [if_pos (by show (100 : Int) < _; omega)]; done) | (rw [if_neg (by show ¬ (100 : Int) < _; omega)]; done))
    · refine j_bipush (q := 136) dL_pulse_134 rfl rfl ?_
      refine j_goto (tgt := 145) dL_pulse_136 (by decide) ?_
      refine j_s6_0 (q := 146) dL_pulse_145 rfl hs (by omega) ?_
      exact j_return dL_pulse_146 rfl (by rw [zPul, zHeat, zLess, ← hx, wr_id' (x := x 1 + b) (by omega) (by omega)]; first | (rw [if_pos (by show (100 : Int) < _; omega)]; done) | (rw [if_neg (by show ¬ (100 : Int) < _; omega)]; done))
theorem zWr3_t {z : Z} {c : Int} (h : 0 < z (59 + 9 * c + 6)) (hb : z (59 + 9 * c + 6) < 2147483648) : u1 (u1 z 10 (z 10 + 1)) (59 + 9 * c + 6) 0 = zWr3 z c ∨ ¬ (0 ≤ c) := by
  by_cases q : 0 ≤ c
  · left
    unfold zWr3 zOw
    rw [if_pos (decide_eq_true (by rw [wr_id' (by omega) (by omega)]; exact h)), u1_cm (by omega)]
    rw [u1_ne (z := z) (by omega)]
  · exact Or.inr q
theorem zWr3_f {z : Z} {c : Int} (h : z (59 + 9 * c + 6) = 0) : u1 (u1 z 10 (z 10 + 0)) (59 + 9 * c + 6) 0 = zWr3 z c ∨ ¬ (0 ≤ c) := by
  by_cases q : 0 ≤ c
  · left
    unfold zWr3 zOw
    rw [if_neg (by rw [h]; decide), Int.add_zero, u1_same rfl, u1_same h]
  · exact Or.inr q
theorem ct_L_write {G : GX} {sh : List SH} {p : Bool} (E : EW G sh) (hs : LA sh p) {m : Mem} {z : Z} {k : Int} {b : Int} (h1 : 0 ≤ k ∧ k < 16) (hX : LX z) (h3 : b = 0 ∨ b = 1) (h4 : 0 ≤ z 1 ∧ z 1 ≤ 100) (h5 : 0 ≤ z (59 + 9 * cr k + 1) ∧ z (59 + 9 * cr k + 1) ≤ 100) (h6 : 0 ≤ z (15 + 1) ∧ z (15 + 1) ≤ 100) (h7 : z (59 + 9 * cr k + 6) < 100000) : CT G sh iL_write 0 0 [.inl k, .inl b, .inr (.ref (ix p 0)), .inr (.ref (ix p 1)), .inr (.ref (ix p 2)), .inr (.ref (ix p 3)), .inr (.ref (ix p 4)), .inr (.ref (ix p 5)), .inr (.ref (ix p 7)), .inr (.ref (ix p 6))] (lz m p z) (some (.inl (zWr z (cr k) b (59 + 9 * cr k + 0)))) (lz m p (zWr z (cr k) b)) := by
  refine j_met (L0 := [some (.inl k), some (.inl b), some (.inr (.ref (ix p 0))), some (.inr (.ref (ix p 1))), some (.inr (.ref (ix p 2))), some (.inr (.ref (ix p 3))), some (.inr (.ref (ix p 4))), some (.inr (.ref (ix p 5))), some (.inr (.ref (ix p 7))), some (.inr (.ref (ix p 6)))]) (by decide) E.1 E.2 rfl (Nat.le_of_ble_eq_true rfl) ?_
  have hc := cr_b h1
  refine j_iload0 (q := 1) dL_write_0 rfl ?_
  refine j_aload8 (q := 3) dL_write_1 rfl ?_
  refine j_iconst (q := 4) dL_write_3 rfl ?_
  refine j_l7_0 (q := 5) dL_write_4 rfl hs (by omega) ?_
  refine j_aload2 (q := 6) dL_write_5 rfl ?_
  refine j_aload3 (q := 7) dL_write_6 rfl ?_
  refine j_aload4 (q := 9) dL_write_7 rfl ?_
  refine j_aload5 (q := 11) dL_write_9 rfl ?_
  refine j_aload6 (q := 13) dL_write_11 rfl ?_
  refine j_aload7 (q := 15) dL_write_13 rfl ?_
  refine j_aload8 (q := 17) dL_write_15 rfl ?_
  refine j_aload9 (q := 19) dL_write_17 rfl ?_
  refine j_callS10v (Mc := iL_pulse) (q := 22) (c' := 0) (s' := 0) dL_write_19 rfl kS_L_pulse jw_603 ⟨by decide, by decide⟩ rfl (Nat.le_refl _) (Nat.le_refl _) (ct_L_pulse E hs (by omega) (by assumption) (by omega) (by omega) (by omega)) ?_
  have w1 := LX_pul (b := z (15 + 1)) hc hX
  have f6 : zPul z (cr k) (z (15 + 1)) (59 + 9 * cr k + 6) = z (59 + 9 * cr k + 6) := zPul_lx hc hX (by omega)
  have q6 := (hX.2.2 (cr k) hc.1 hc.2).2.2.2.2
  refine j_aload2 (q := 23) dL_write_22 rfl ?_
  refine j_iconst (q := 24) dL_write_23 rfl ?_
  refine j_iload0 (q := 25) dL_write_24 rfl ?_
  refine j_imul (q := 26) dL_write_25 rfl ?_
  refine j_aload2 (q := 27) dL_write_26 rfl ?_
  refine j_iconst (q := 28) dL_write_27 rfl ?_
  refine j_iload0 (q := 29) dL_write_28 rfl ?_
  refine j_imul (q := 30) dL_write_29 rfl ?_
  refine j_iconst (q := 31) dL_write_30 rfl ?_
  refine j_iadd (q := 32) dL_write_31 rfl ?_
  refine j_l0_1 (q := 33) dL_write_32 rfl hs (by omega) ?_
  refine j_aload8 (q := 35) dL_write_33 rfl ?_
  refine j_iconst (q := 36) dL_write_35 rfl ?_
  refine j_l7_0 (q := 37) dL_write_36 rfl hs (by omega) ?_
  refine j_icmp_ge (tgt := 44) (q := 40) dL_write_37 (by decide) rfl rfl rfl (fun h37 => ?_) (fun h37 => ?_)
  · refine j_iload1 (q := 45) dL_write_44 rfl ?_
    refine j_s0_0 (q := 46) dL_write_45 rfl hs (by omega) ?_
    refine j_mem (m' := lz m p (zWr2 (zPul z (cr k) (z (15 + 1))) (cr k) b)) (by first | rw [zWr2, if_pos (by omega)] | rw [zWr2, if_neg (by omega)]) ?_
    have g6 : zWr2 (zPul z (cr k) (z (15 + 1))) (cr k) b (59 + 9 * cr k + 6) = z (59 + 9 * cr k + 6) := (u1_ne (by omega)).trans f6
    have g7 : u1 (zWr2 (zPul z (cr k) (z (15 + 1))) (cr k) b) 10 ((zWr2 (zPul z (cr k) (z (15 + 1))) (cr k) b) 10 + 1) (59 + 9 * cr k + 6) = z (59 + 9 * cr k + 6) := (u1_ne (by omega)).trans g6
    refine j_aload9 (q := 48) dL_write_46 rfl ?_
    refine j_bipush (q := 50) dL_write_48 rfl rfl ?_
    refine j_dup2 (q := 51) dL_write_50 rfl rfl rfl ?_
    refine j_l6_0 (q := 52) dL_write_51 rfl hs (by omega) ?_
    refine j_aload3 (q := 53) dL_write_52 rfl ?_
    refine j_iconst (q := 54) dL_write_53 rfl ?_
    refine j_iload0 (q := 55) dL_write_54 rfl ?_
    refine j_imul (q := 56) dL_write_55 rfl ?_
    refine j_iconst (q := 57) dL_write_56 rfl ?_
    refine j_iadd (q := 58) dL_write_57 rfl ?_
    refine j_l1_2 (q := 59) dL_write_58 rfl hs (by omega) ?_
    refine j_if_ge (tgt := 66) (q := 62) dL_write_59 (by decide) rfl (by first | exact wr_id' (by omega) (by omega) | with_reducible exact wr_bI _ | exact rfl) (fun h59 => ?_) (fun h59 => ?_)
    · refine j_iconst (q := 67) dL_write_66 rfl ?_
      refine j_iadd (q := 68) dL_write_67 rfl ?_
      refine j_s6_0 (q := 69) dL_write_68 rfl hs (by omega) ?_
      refine j_aload3 (q := 70) dL_write_69 rfl ?_
      refine j_iconst (q := 71) dL_write_70 rfl ?_
      refine j_iload0 (q := 72) dL_write_71 rfl ?_
      refine j_imul (q := 73) dL_write_72 rfl ?_
      refine j_iconst (q := 74) dL_write_73 rfl ?_
      refine j_iadd (q := 75) dL_write_74 rfl ?_
      refine j_iconst (q := 76) dL_write_75 rfl ?_
      refine j_s1_2 (q := 77) dL_write_76 rfl hs (by omega) (v' := 0) (by decide) ?_
      refine j_mem (m' := lz m p (zWr z (cr k) b)) (by unfold zWr; first | rw [(zWr3_t (by omega) (by omega)).resolve_right (by omega)] | rw [(zWr3_f (by omega)).resolve_right (by omega)]) ?_
      refine j_aload2 (q := 78) dL_write_77 rfl ?_
      refine j_iconst (q := 79) dL_write_78 rfl ?_
      refine j_iload0 (q := 80) dL_write_79 rfl ?_
      refine j_imul (q := 81) dL_write_80 rfl ?_
      refine j_l0_0 (q := 82) dL_write_81 rfl hs (by omega) ?_
      exact j_ireturn dL_write_82 rfl (rfl) (rfl)
    · refine j_iconst (q := 63) dL_write_62 rfl ?_
      refine j_goto (tgt := 67) dL_write_63 (by decide) ?_
      refine j_iadd (q := 68) dL_write_67 rfl ?_
      refine j_s6_0 (q := 69) dL_write_68 rfl hs (by omega) ?_
      refine j_aload3 (q := 70) dL_write_69 rfl ?_
      refine j_iconst (q := 71) dL_write_70 rfl ?_
      refine j_iload0 (q := 72) dL_write_71 rfl ?_
      refine j_imul (q := 73) dL_write_72 rfl ?_
      refine j_iconst (q := 74) dL_write_73 rfl ?_
      refine j_iadd (q := 75) dL_write_74 rfl ?_
      refine j_iconst (q := 76) dL_write_75 rfl ?_
      refine j_s1_2 (q := 77) dL_write_76 rfl hs (by omega) (v' := 0) (by decide) ?_
      refine j_mem (m' := lz m p (zWr z (cr k) b)) (by unfold zWr; first | rw [(zWr3_t (by omega) (by omega)).resolve_right (by omega)] | rw [(zWr3_f (by omega)).resolve_right (by omega)]) ?_
      refine j_aload2 (q := 78) dL_write_77 rfl ?_
      refine j_iconst (q := 79) dL_write_78 rfl ?_
      refine j_iload0 (q := 80) dL_write_79 rfl ?_
      refine j_imul (q := 81) dL_write_80 rfl ?_
      refine j_l0_0 (q := 82) dL_write_81 rfl hs (by omega) ?_
      exact j_ireturn dL_write_82 rfl (rfl) (rfl)
  · refine j_iconst (q := 41) dL_write_40 rfl ?_
    refine j_goto (tgt := 45) dL_write_41 (by decide) ?_
    refine j_s0_0 (q := 46) dL_write_45 rfl hs (by omega) ?_
    refine j_mem (m' := lz m p (zWr2 (zPul z (cr k) (z (15 + 1))) (cr k) b)) (by first | rw [zWr2, if_pos (by omega)] | rw [zWr2, if_neg (by omega)]) ?_
    have g6 : zWr2 (zPul z (cr k) (z (15 + 1))) (cr k) b (59 + 9 * cr k + 6) = z (59 + 9 * cr k + 6) := (u1_ne (by omega)).trans f6
    have g7 : u1 (zWr2 (zPul z (cr k) (z (15 + 1))) (cr k) b) 10 ((zWr2 (zPul z (cr k) (z (15 + 1))) (cr k) b) 10 + 1) (59 + 9 * cr k + 6) = z (59 + 9 * cr k + 6) := (u1_ne (by omega)).trans g6
    refine j_aload9 (q := 48) dL_write_46 rfl ?_
    refine j_bipush (q := 50) dL_write_48 rfl rfl ?_
    refine j_dup2 (q := 51) dL_write_50 rfl rfl rfl ?_
    refine j_l6_0 (q := 52) dL_write_51 rfl hs (by omega) ?_
    refine j_aload3 (q := 53) dL_write_52 rfl ?_
    refine j_iconst (q := 54) dL_write_53 rfl ?_
    refine j_iload0 (q := 55) dL_write_54 rfl ?_
    refine j_imul (q := 56) dL_write_55 rfl ?_
    refine j_iconst (q := 57) dL_write_56 rfl ?_
    refine j_iadd (q := 58) dL_write_57 rfl ?_
    refine j_l1_2 (q := 59) dL_write_58 rfl hs (by omega) ?_
    refine j_if_ge (tgt := 66) (q := 62) dL_write_59 (by decide) rfl (by first | exact wr_id' (by omega) (by omega) | with_reducible exact wr_bI _ | exact rfl) (fun h59 => ?_) (fun h59 => ?_)
    · refine j_iconst (q := 67) dL_write_66 rfl ?_
      refine j_iadd (q := 68) dL_write_67 rfl ?_
      refine j_s6_0 (q := 69) dL_write_68 rfl hs (by omega) ?_
      refine j_aload3 (q := 70) dL_write_69 rfl ?_
      refine j_iconst (q := 71) dL_write_70 rfl ?_
      refine j_iload0 (q := 72) dL_write_71 rfl ?_
      refine j_imul (q := 73) dL_write_72 rfl ?_
      refine j_iconst (q := 74) dL_write_73 rfl ?_
      refine j_iadd (q := 75) dL_write_74 rfl ?_
      refine j_iconst (q := 76) dL_write_75 rfl ?_
      refine j_s1_2 (q := 77) dL_write_76 rfl hs (by omega) (v' := 0) (by decide) ?_
      refine j_mem (m' := lz m p (zWr z (cr k) b)) (by unfold zWr; first | rw [(zWr3_t (by omega) (by omega)).resolve_right (by omega)] | rw [(zWr3_f (by omega)).resolve_right (by omega)]) ?_
      refine j_aload2 (q := 78) dL_write_77 rfl ?_
      refine j_iconst (q := 79) dL_write_78 rfl ?_
      refine j_iload0 (q := 80) dL_write_79 rfl ?_
      refine j_imul (q := 81) dL_write_80 rfl ?_
      refine j_l0_0 (q := 82) dL_write_81 rfl hs (by omega) ?_
      exact j_ireturn dL_write_82 rfl (rfl) (rfl)
    · refine j_iconst (q := 63) dL_write_62 rfl ?_
      refine j_goto (tgt := 67) dL_write_63 (by decide) ?_
      refine j_iadd (q := 68) dL_write_67 rfl ?_
      refine j_s6_0 (q := 69) dL_write_68 rfl hs (by omega) ?_
      refine j_aload3 (q := 70) dL_write_69 rfl ?_
      refine j_iconst (q := 71) dL_write_70 rfl ?_
      refine j_iload0 (q := 72) dL_write_71 rfl ?_
      refine j_imul (q := 73) dL_write_72 rfl ?_
      refine j_iconst (q := 74) dL_write_73 rfl ?_
      refine j_iadd (q := 75) dL_write_74 rfl ?_
      refine j_iconst (q := 76) dL_write_75 rfl ?_
      refine j_s1_2 (q := 77) dL_write_76 rfl hs (by omega) (v' := 0) (by decide) ?_
      refine j_mem (m' := lz m p (zWr z (cr k) b)) (by unfold zWr; first | rw [(zWr3_t (by omega) (by omega)).resolve_right (by omega)] | rw [(zWr3_f (by omega)).resolve_right (by omega)]) ?_
      refine j_aload2 (q := 78) dL_write_77 rfl ?_
      refine j_iconst (q := 79) dL_write_78 rfl ?_
      refine j_iload0 (q := 80) dL_write_79 rfl ?_
      refine j_imul (q := 81) dL_write_80 rfl ?_
      refine j_l0_0 (q := 82) dL_write_81 rfl hs (by omega) ?_
      exact j_ireturn dL_write_82 rfl (rfl) (rfl)
theorem ct_L_read {G : GX} {sh : List SH} {p : Bool} (E : EW G sh) (hs : LA sh p) {m : Mem} {z : Z} {k : Int} (h1 : 0 ≤ k ∧ k < 16) (hX : LX z) (h4 : 0 ≤ z 1 ∧ z 1 ≤ 100) (h5 : 0 ≤ z (59 + 9 * cr k + 1) ∧ z (59 + 9 * cr k + 1) ≤ 100) (h6 : 0 ≤ z (15 + 2) ∧ z (15 + 2) ≤ 100) : CT G sh iL_read 0 0 [.inl k, .inr (.ref (ix p 0)), .inr (.ref (ix p 1)), .inr (.ref (ix p 2)), .inr (.ref (ix p 3)), .inr (.ref (ix p 4)), .inr (.ref (ix p 5)), .inr (.ref (ix p 7)), .inr (.ref (ix p 6))] (lz m p z) (some (.inl (zRd1 z (cr k) (59 + 9 * cr k + 0)))) (lz m p (zRd z (cr k))) := by
  refine j_met (L0 := [some (.inl k), some (.inr (.ref (ix p 0))), some (.inr (.ref (ix p 1))), some (.inr (.ref (ix p 2))), some (.inr (.ref (ix p 3))), some (.inr (.ref (ix p 4))), some (.inr (.ref (ix p 5))), some (.inr (.ref (ix p 7))), some (.inr (.ref (ix p 6)))]) (by decide) E.1 E.2 rfl (Nat.le_of_ble_eq_true rfl) ?_
  have hc := cr_b h1
  refine j_iload0 (q := 1) dL_read_0 rfl ?_
  refine j_aload7 (q := 3) dL_read_1 rfl ?_
  refine j_iconst (q := 4) dL_read_3 rfl ?_
  refine j_l7_0 (q := 5) dL_read_4 rfl hs (by omega) ?_
  refine j_aload1 (q := 6) dL_read_5 rfl ?_
  refine j_aload2 (q := 7) dL_read_6 rfl ?_
  refine j_aload3 (q := 8) dL_read_7 rfl ?_
  refine j_aload4 (q := 10) dL_read_8 rfl ?_
  refine j_aload5 (q := 12) dL_read_10 rfl ?_
  refine j_aload6 (q := 14) dL_read_12 rfl ?_
  refine j_aload7 (q := 16) dL_read_14 rfl ?_
  refine j_aload8 (q := 18) dL_read_16 rfl ?_
  refine j_callS10v (Mc := iL_pulse) (q := 21) (c' := 0) (s' := 0) dL_read_18 rfl kS_L_pulse jw_603 ⟨by decide, by decide⟩ rfl (Nat.le_refl _) (Nat.le_refl _) (ct_L_pulse E hs (by omega) (by assumption) (by omega) (by omega) (by omega)) ?_
  refine j_aload8 (q := 23) dL_read_21 rfl ?_
  refine j_iconst (q := 24) dL_read_23 rfl ?_
  refine j_dup2 (q := 25) dL_read_24 rfl rfl rfl ?_
  refine j_l6_0 (q := 26) dL_read_25 rfl hs (by omega) ?_
  refine j_iconst (q := 27) dL_read_26 rfl ?_
  refine j_iadd (q := 28) dL_read_27 rfl ?_
  refine j_s6_0 (q := 29) dL_read_28 rfl hs (by omega) ?_
  refine j_mem (m' := lz m p (zRd1 z (cr k))) rfl ?_
  have w1 : LX (zRd1 z (cr k)) := LX_u1 (by unfold LN; omega) (LX_pul hc hX)
  have hb := (w1.2.2 (cr k) hc.1 hc.2).1
  rw [← Int.add_zero (59 + 9 * cr k)] at hb
  have hb0 : wr (zRd1 z (cr k) (59 + 9 * cr k + 0)) = zRd1 z (cr k) (59 + 9 * cr k + 0) := wr_id' (by omega) (by omega)
  refine j_aload1 (q := 30) dL_read_29 rfl ?_
  refine j_iconst (q := 31) dL_read_30 rfl ?_
  refine j_iload0 (q := 32) dL_read_31 rfl ?_
  refine j_imul (q := 33) dL_read_32 rfl ?_
  refine j_l0_0 (q := 34) dL_read_33 rfl hs (by omega) ?_
  refine j_if_ne (tgt := 39) (q := 37) dL_read_34 (by decide) rfl rfl (fun h34 => ?_) (fun h34 => ?_)
  · refine j_aload1 (q := 40) dL_read_39 rfl ?_
    refine j_iconst (q := 41) dL_read_40 rfl ?_
    refine j_iload0 (q := 42) dL_read_41 rfl ?_
    refine j_imul (q := 43) dL_read_42 rfl ?_
    refine j_iconst (q := 44) dL_read_43 rfl ?_
    refine j_s0_0 (q := 45) dL_read_44 rfl hs (by omega) ?_
    refine j_aload2 (q := 46) dL_read_45 rfl ?_
    refine j_iconst (q := 47) dL_read_46 rfl ?_
    refine j_iload0 (q := 48) dL_read_47 rfl ?_
    refine j_imul (q := 49) dL_read_48 rfl ?_
    refine j_iconst (q := 50) dL_read_49 rfl ?_
    refine j_iadd (q := 51) dL_read_50 rfl ?_
    refine j_aload8 (q := 53) dL_read_51 rfl ?_
    refine j_iconst (q := 54) dL_read_53 rfl ?_
    refine j_l6_0 (q := 55) dL_read_54 rfl hs (by omega) ?_
    refine j_aload7 (q := 57) dL_read_55 rfl ?_
    refine j_iconst (q := 58) dL_read_57 rfl ?_
    refine j_l7_0 (q := 59) dL_read_58 rfl hs (by omega) ?_
    refine j_iadd (q := 60) dL_read_59 rfl ?_
    refine j_s1_2 (q := 61) dL_read_60 rfl hs (by omega) rfl ?_
    refine j_aload2 (q := 62) dL_read_61 rfl ?_
    refine j_iconst (q := 63) dL_read_62 rfl ?_
    refine j_iload0 (q := 64) dL_read_63 rfl ?_
    refine j_imul (q := 65) dL_read_64 rfl ?_
    refine j_iconst (q := 66) dL_read_65 rfl ?_
    refine j_iadd (q := 67) dL_read_66 rfl ?_
    refine j_aload8 (q := 69) dL_read_67 rfl ?_
    refine j_bipush (q := 71) dL_read_69 rfl rfl ?_
    refine j_l6_0 (q := 72) dL_read_71 rfl hs (by omega) ?_
    refine j_s1_3 (q := 73) dL_read_72 rfl hs (by omega) ?_
    refine j_aload8 (q := 75) dL_read_73 rfl ?_
    refine j_bipush (q := 77) dL_read_75 rfl rfl ?_
    refine j_dup2 (q := 78) dL_read_77 rfl rfl rfl ?_
    refine j_l6_0 (q := 79) dL_read_78 rfl hs (by omega) ?_
    refine j_iconst (q := 80) dL_read_79 rfl ?_
    refine j_iadd (q := 81) dL_read_80 rfl ?_
    refine j_s6_0 (q := 82) dL_read_81 rfl hs (by omega) ?_
    refine j_aload8 (q := 84) dL_read_82 rfl ?_
    refine j_iconst (q := 85) dL_read_84 rfl ?_
    refine j_dup2 (q := 86) dL_read_85 rfl rfl rfl ?_
    refine j_l6_0 (q := 87) dL_read_86 rfl hs (by omega) ?_
    refine j_iconst (q := 88) dL_read_87 rfl ?_
    refine j_iadd (q := 89) dL_read_88 rfl ?_
    refine j_s6_0 (q := 90) dL_read_89 rfl hs (by omega) ?_
    refine j_iconst (q := 91) dL_read_90 rfl ?_
    exact j_ireturn dL_read_91 rfl (by rw [show zRd1 z (cr k) (59 + 9 * cr k + 0) = 1 by omega]) (by rw [zRd, if_pos (by omega)]; rfl)
  · refine j_iconst (q := 38) dL_read_37 rfl ?_
    exact j_ireturn dL_read_38 rfl (by rw [show zRd1 z (cr k) (59 + 9 * cr k + 0) = 0 by omega]) (by rw [zRd, if_neg (by omega)])

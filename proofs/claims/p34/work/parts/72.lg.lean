/-! the law: premiums, risks, copies -/
theorem ct_L_premium {G : GX} {sh : List SH} (E : EW G sh) {m : Mem} {a b c : Nat} {k : Int} {i : Int} {t : Int} (ha : sh[a]? = some (.inr (0, 64))) (hb : sh[b]? = some (.inr (0, 12))) (hc : sh[c]? = some (.inr (0, 15))) (h1 : 0 ≤ k ∧ k < 16) (h2 : 0 ≤ i ∧ i < 2) : CT G sh iL_premium 0 0 [.inl k, .inl i, .inl t, .inr (.ref a), .inr (.ref b), .inr (.ref c)] (m) (some (.inl (1 + (wr ((110 + m c 1 - m a (4 * k + 1)) * t * m b (6 * i + 1))).tdiv 1000))) (m) := by
  refine j_met (L0 := [some (.inl k), some (.inl i), some (.inl t), some (.inr (.ref a)), some (.inr (.ref b)), some (.inr (.ref c))]) (by decide) E.1 E.2 rfl (Nat.le_of_ble_eq_true rfl) ?_
  refine j_iconst (q := 1) dL_premium_0 rfl ?_
  refine j_bipush (q := 3) dL_premium_1 rfl rfl ?_
  refine j_aload5 (q := 5) dL_premium_3 rfl ?_
  refine j_iconst (q := 6) dL_premium_5 rfl ?_
  refine j_iaload (q := 7) dL_premium_6 rfl hc (by first | exact wr_id' (by omega) (by omega) | with_reducible exact wr_bI _ | exact rfl) (by omega) (by omega) ?_
  refine j_iadd (q := 8) dL_premium_7 rfl ?_
  refine j_aload3 (q := 9) dL_premium_8 rfl ?_
  refine j_iconst (q := 10) dL_premium_9 rfl ?_
  refine j_iload0 (q := 11) dL_premium_10 rfl ?_
  refine j_imul (q := 12) dL_premium_11 rfl ?_
  refine j_iconst (q := 13) dL_premium_12 rfl ?_
  refine j_iadd (q := 14) dL_premium_13 rfl ?_
  refine j_iaload (q := 15) dL_premium_14 rfl ha (by first | exact wr_id' (by omega) (by omega) | with_reducible exact wr_bI _ | exact rfl) (by omega) (by omega) ?_
  refine j_isub (q := 16) dL_premium_15 rfl ?_
  refine j_iload2 (q := 17) dL_premium_16 rfl ?_
  refine j_imul (q := 18) dL_premium_17 rfl ?_
  refine j_aload4 (q := 20) dL_premium_18 rfl ?_
  refine j_bipush (q := 22) dL_premium_20 rfl rfl ?_
  refine j_iload1 (q := 23) dL_premium_22 rfl ?_
  refine j_imul (q := 24) dL_premium_23 rfl ?_
  refine j_iconst (q := 25) dL_premium_24 rfl ?_
  refine j_iadd (q := 26) dL_premium_25 rfl ?_
  refine j_iaload (q := 27) dL_premium_26 rfl hb (by first | exact wr_id' (by omega) (by omega) | with_reducible exact wr_bI _ | exact rfl) (by omega) (by omega) ?_
  refine j_imul (q := 28) dL_premium_27 rfl ?_
  refine j_sipush (q := 31) dL_premium_28 rfl rfl ?_
  refine j_idiv (q := 32) dL_premium_31 rfl (by first | exact wr_id' (by omega) (by omega) | with_reducible exact wr_bI _ | exact rfl) (by first | exact wr_id' (by omega) (by omega) | with_reducible exact wr_bI _ | exact rfl) (by omega) (by omega) ?_
  refine j_iadd (q := 33) dL_premium_32 rfl ?_
  exact j_ireturn dL_premium_33 rfl (rfl) (rfl)
theorem cpM_s {m : Mem} {a b : Nat} {k : Int} (h : ¬ a = b) (hk : 0 ≤ k) : up (cpM m a b k) b k (cpM m a b k a k) = cpM m a b (k + 1) := by
  funext c j
  unfold up cpM
  by_cases q : c = b ∧ j = k
  · rw [if_pos q, if_neg (fun w => h w.1), if_pos ⟨q.1, by omega, by omega⟩, q.2]
  · rw [if_neg q]
    by_cases w : c = b ∧ 0 ≤ j ∧ j < k
    · rw [if_pos w, if_pos ⟨w.1, w.2.1, by omega⟩]
    · rw [if_neg w, if_neg (fun u => w ⟨u.1, u.2.1, by have := u.2.2; have : ¬ j = k := fun e => q ⟨u.1, e⟩; omega⟩)]
theorem cpM_0 {m : Mem} {a b : Nat} : cpM m a b 0 = m := by
  funext c j
  unfold cpM
  rw [if_neg (by omega)]
theorem lp_L_same {G : GX} {sh : List SH} (E : EW G sh) {m : Mem} {a b N : Nat} (ha : sh[a]? = some (.inr (0, N))) (hb : sh[b]? = some (.inr (0, N))) (hab : ¬ a = b) (hN : N ≤ 600) : ∀ (d : Nat) (k : Int), k + d = N → 0 ≤ k → J G sh iL_same 0 0 (FN G sh 0 0 (none) (cpM m a b N)) 2 [some (.inr (.ref b)), some (.inr (.ref a)), some (.inl k)] [] (cpM m a b k) 0 0 := by
  intro d
  induction d with
  | zero =>
    intro k g0 g1
    refine j_iload2 (q := 3) dL_same_2 rfl ?_
    refine j_aload1 (q := 4) dL_same_3 rfl ?_
    refine j_alen (q := 5) (v := N) dL_same_4 rfl ha rfl ?_
    refine j_icmp_ge (tgt := 20) (q := 8) dL_same_5 (by decide) rfl (by first | exact wr_id' (by omega) (by omega) | with_reducible exact wr_bI _ | exact rfl) (by first | exact wr_id' (by omega) (by omega) | with_reducible exact wr_bI _ | exact rfl) (fun h5 => ?_) (fun h5 => ?_)
    · exact j_return dL_same_20 rfl (by rw [show k = (N : Int) by omega])
    · omega
  | succ d ih =>
    intro k g0 g1
    refine j_iload2 (q := 3) dL_same_2 rfl ?_
    refine j_aload1 (q := 4) dL_same_3 rfl ?_
    refine j_alen (q := 5) (v := N) dL_same_4 rfl ha rfl ?_
    refine j_icmp_ge (tgt := 20) (q := 8) dL_same_5 (by decide) rfl (by first | exact wr_id' (by omega) (by omega) | with_reducible exact wr_bI _ | exact rfl) (by first | exact wr_id' (by omega) (by omega) | with_reducible exact wr_bI _ | exact rfl) (fun h5 => ?_) (fun h5 => ?_)
    · omega
    · refine j_aload0 (q := 9) dL_same_8 rfl ?_
      refine j_iload2 (q := 10) dL_same_9 rfl ?_
      refine j_aload1 (q := 11) dL_same_10 rfl ?_
      refine j_iload2 (q := 12) dL_same_11 rfl ?_
      refine j_iaload (q := 13) dL_same_12 rfl ha (by first | exact wr_id' (by omega) (by omega) | with_reducible exact wr_bI _ | exact rfl) (by omega) (by omega) ?_
      refine j_iastore (q := 14) dL_same_13 rfl hb (by first | exact wr_id' (by omega) (by omega) | with_reducible exact wr_bI _ | exact rfl) (by omega) (by omega) ?_
      refine j_mem (m' := cpM m a b (k + 1)) (cpM_s hab g1) ?_
      refine j_iinc2 (q := 17) dL_same_14 rfl rfl (by decide) ?_
      refine j_goto (tgt := 2) dL_same_17 (by decide) ?_
      exact j_fin (rfl) (rfl) (ih _ (by omega) (by omega))
theorem ct_L_same {G : GX} {sh : List SH} (E : EW G sh) {m : Mem} {N : Nat} {a b : Nat} (ha : sh[a]? = some (.inr (0, N))) (hb : sh[b]? = some (.inr (0, N))) (hab : ¬ a = b) (hN : N ≤ 600) : CT G sh iL_same 0 0 [.inr (.ref b), .inr (.ref a)] (m) none (cpM m a b N) := by
  refine j_met (L0 := [some (.inr (.ref b)), some (.inr (.ref a)), none]) (by decide) E.1 E.2 rfl (Nat.le_of_ble_eq_true rfl) ?_
  refine j_iconst (q := 1) dL_same_0 rfl ?_
  refine j_istore2 (q := 2) dL_same_1 rfl rfl (by decide) ?_
  refine j_mem (m' := cpM m a b 0) cpM_0.symm ?_
  exact lp_L_same E ha hb hab hN N 0 (by omega) (by omega)
def lW (w : Int) : Int := if w = -1 then 0 else if w = -2 then 1 else w + 2
theorem lW_c {w : Int} (h : -2 ≤ w ∧ w < 6) : (w = -1 ∧ lW w = 0) ∨ (w = -2 ∧ lW w = 1) ∨ (0 ≤ w ∧ lW w = w + 2) := by
  unfold lW
  by_cases q : w = -1
  · rw [if_pos q]; exact Or.inl ⟨q, rfl⟩
  · rw [if_neg q]
    by_cases r : w = -2
    · rw [if_pos r]; exact Or.inr (Or.inl ⟨r, rfl⟩)
    · rw [if_neg r]; exact Or.inr (Or.inr ⟨by omega, rfl⟩)
def lRi (z : Z) (k w e : Int) : Bool := zIs z w (cr e) && zLin (cr k) (cr e) && zWk z (cr e)
theorem zDis_16 {z : Z} {k w : Int} (h : LX z) : zDis z (cr k) w = cntF (lRi z k w) 16 0 0 := by
  unfold zDis
  rw [cnt16 (fun c a b np => by rw [zWk_0 (LX_b0 h a b np), Bool.and_false])]
  rfl
theorem lRi_b {z : Z} {k w : Int} (h : LX z) : 0 ≤ zDis z (cr k) w ∧ zDis z (cr k) w ≤ 16 := by
  have b := cnt_b (lRi z k w) 16 0 0
  rw [zDis_16 h]; omega
theorem lRi_t {z : Z} {k w e : Int} (h0 : w = 0 ∨ w = 1 ∧ 0 < z (59 + 9 * cr e + 4) ∨ 1 < w ∧ z (59 + 9 * cr e + 2) = w - 1) (h1 : lL k e = true) (hk : 0 ≤ k ∧ k < 16) (he : 0 ≤ e ∧ e < 16) (hx : LX z) (h2 : wr (z (59 + 9 * cr e + 0)) = 1) (h3 : wr (z (59 + 9 * cr e + 1)) < wr (z (15 + 5))) : lRi z k w e = true := by
  have hc := cr_b he
  have b := hx.2.2 (cr e) hc.1 hc.2
  unfold lRi zIs zWk
  rw [lL_e hk he, h1, wr_id' (x := z (59 + 9 * cr e + 4)) (by omega) (by omega), wr_id' (x := z (59 + 9 * cr e + 2)) (by omega) (by omega), decide_eq_true h0, decide_eq_true ⟨h2, h3⟩]; rfl
theorem lRi_f {z : Z} {k w e : Int} (hk : 0 ≤ k ∧ k < 16) (he : 0 ≤ e ∧ e < 16) (hx : LX z) (h : (w = 0 ∨ w = 1 ∧ 0 < z (59 + 9 * cr e + 4) ∨ 1 < w ∧ z (59 + 9 * cr e + 2) = w - 1) → lL k e = true → wr (z (59 + 9 * cr e + 0)) = 1 → wr (z (59 + 9 * cr e + 1)) < wr (z (15 + 5)) → False) : lRi z k w e = false := by
  refine bff (fun q => ?_)
  have hc := cr_b he
  have b := hx.2.2 (cr e) hc.1 hc.2
  unfold lRi zIs zWk at q
  rw [lL_e hk he, Bool.and_eq_true, Bool.and_eq_true, decide_eq_true_eq, decide_eq_true_eq, wr_id' (x := z (59 + 9 * cr e + 4)) (by omega) (by omega), wr_id' (x := z (59 + 9 * cr e + 2)) (by omega) (by omega)] at q
  exact h q.1.1 q.1.2 q.2.1 q.2.2
theorem lp_L_risk {G : GX} {sh : List SH} {p : Bool} (E : EW G sh) (hs : LA sh p) {m : Mem} {z : Z} {F : FinT} {k w : Int} (h1 : 0 ≤ k ∧ k < 16) (hw : -2 ≤ w ∧ w < 6) (hX : LX z) : ∀ (d : Nat) (e : Int) (n : Int), e + d = 16 → 0 ≤ e → (∀ (x : Int), x = cntF (lRi z k (lW w)) d e n → J G sh iL_risk 0 0 F 99 [some (.inl k), some (.inl w), some (.inr (.ref (ix p 0))), some (.inr (.ref (ix p 1))), some (.inr (.ref (ix p 7))), some (.inl x), none] [] (lz m p z) 0 0) → J G sh iL_risk 0 0 F 6 [some (.inl k), some (.inl w), some (.inr (.ref (ix p 0))), some (.inr (.ref (ix p 1))), some (.inr (.ref (ix p 7))), some (.inl n), some (.inl e)] [] (lz m p z) 0 0 := by
  intro d
  induction d with
  | zero =>
    intro e n g0 g1 kk
    refine j_iload6 (q := 8) dL_risk_6 rfl ?_
    refine j_bipush (q := 10) dL_risk_8 rfl rfl ?_
    refine j_icmp_ge (tgt := 99) (q := 13) dL_risk_10 (by decide) rfl (by first | exact wr_id' (by omega) (by omega) | with_reducible exact wr_bI _ | exact rfl) (by first | exact wr_id' (by omega) (by omega) | with_reducible exact wr_bI _ | exact rfl) (fun h10 => ?_) (fun h10 => ?_)
    · refine j_fgt6 ?_
      exact kk _ rfl
    · omega
  | succ d ih =>
    intro e n g0 g1 kk
    refine j_iload6 (q := 8) dL_risk_6 rfl ?_
    refine j_bipush (q := 10) dL_risk_8 rfl rfl ?_
    refine j_icmp_ge (tgt := 99) (q := 13) dL_risk_10 (by decide) rfl (by first | exact wr_id' (by omega) (by omega) | with_reducible exact wr_bI _ | exact rfl) (by first | exact wr_id' (by omega) (by omega) | with_reducible exact wr_bI _ | exact rfl) (fun h10 => ?_) (fun h10 => ?_)
    · omega
    · have hc := cr_b (k := e) ⟨by omega, by omega⟩
      have hb := hX.2.2 (cr e) hc.1 hc.2
      have hl := lW_c hw
      refine j_iload5 (q := 15) dL_risk_13 rfl ?_
      refine j_iload0 (q := 16) dL_risk_15 rfl ?_
      refine j_iload6 (q := 18) dL_risk_16 rfl ?_
      refine j_callS2 (Mc := iL_line) (q := 21) (c' := 0) (s' := 0) dL_risk_18 rfl kS_L_line jw_512 ⟨by decide, by decide⟩ rfl (Nat.le_refl _) (Nat.le_refl _) (ct_L_line E hs (by omega) (by omega)) ?_
      refine j_ifeq_b (tgt := 89) (q := 24) dL_risk_21 (by decide) rfl (fun h21 => ?_) (fun h21 => ?_)
      · refine j_iconst (q := 90) dL_risk_89 rfl ?_
        refine j_iadd (q := 91) dL_risk_90 rfl ?_
        refine j_istore5 (q := 93) dL_risk_91 rfl rfl (by decide) ?_
        refine j_iinc6 (q := 96) dL_risk_93 rfl rfl (by decide) ?_
        refine j_goto (tgt := 6) dL_risk_96 (by decide) ?_
        exact ih _ _ (by omega) (by omega) (fun x hx => kk x (hx.trans (by first | exact cnt_t (lRi_t (by omega) (by assumption) h1 ⟨by omega, by omega⟩ hX (by assumption) (by omega)) | exact cnt_f (lRi_f h1 ⟨by omega, by omega⟩ hX (fun q1 q2 q3 q4 => by first | omega | (rw [q2] at h21; cases h21))))))
      · refine j_aload2 (q := 25) dL_risk_24 rfl ?_
        refine j_iconst (q := 26) dL_risk_25 rfl ?_
        refine j_iload6 (q := 28) dL_risk_26 rfl ?_
        refine j_imul (q := 29) dL_risk_28 rfl ?_
        refine j_l0_0 (q := 30) dL_risk_29 rfl hs (by omega) ?_
        refine j_iconst (q := 31) dL_risk_30 rfl ?_
        refine j_icmp_ne (tgt := 89) (q := 34) dL_risk_31 (by decide) rfl rfl (by first | exact wr_id' (by omega) (by omega) | with_reducible exact wr_bI _ | exact rfl) (fun h31 => ?_) (fun h31 => ?_)
        · refine j_iconst (q := 90) dL_risk_89 rfl ?_
          refine j_iadd (q := 91) dL_risk_90 rfl ?_
          refine j_istore5 (q := 93) dL_risk_91 rfl rfl (by decide) ?_
          refine j_iinc6 (q := 96) dL_risk_93 rfl rfl (by decide) ?_
          refine j_goto (tgt := 6) dL_risk_96 (by decide) ?_
          exact ih _ _ (by omega) (by omega) (fun x hx => kk x (hx.trans (by first | exact cnt_t (lRi_t (by omega) (by assumption) h1 ⟨by omega, by omega⟩ hX (by assumption) (by omega)) | exact cnt_f (lRi_f h1 ⟨by omega, by omega⟩ hX (fun q1 q2 q3 q4 => by first | omega | (rw [q2] at h21; cases h21))))))
        · refine j_aload2 (q := 35) dL_risk_34 rfl ?_
          refine j_iconst (q := 36) dL_risk_35 rfl ?_
          refine j_iload6 (q := 38) dL_risk_36 rfl ?_
          refine j_imul (q := 39) dL_risk_38 rfl ?_
          refine j_iconst (q := 40) dL_risk_39 rfl ?_
          refine j_iadd (q := 41) dL_risk_40 rfl ?_
          refine j_l0_1 (q := 42) dL_risk_41 rfl hs (by omega) ?_
          refine j_aload4 (q := 44) dL_risk_42 rfl ?_
          refine j_iconst (q := 45) dL_risk_44 rfl ?_
          refine j_l7_0 (q := 46) dL_risk_45 rfl hs (by omega) ?_
          refine j_icmp_ge (tgt := 89) (q := 49) dL_risk_46 (by decide) rfl rfl rfl (fun h46 => ?_) (fun h46 => ?_)
          · refine j_iconst (q := 90) dL_risk_89 rfl ?_
            refine j_iadd (q := 91) dL_risk_90 rfl ?_
            refine j_istore5 (q := 93) dL_risk_91 rfl rfl (by decide) ?_
            refine j_iinc6 (q := 96) dL_risk_93 rfl rfl (by decide) ?_
            refine j_goto (tgt := 6) dL_risk_96 (by decide) ?_
            exact ih _ _ (by omega) (by omega) (fun x hx => kk x (hx.trans (by first | exact cnt_t (lRi_t (by omega) (by assumption) h1 ⟨by omega, by omega⟩ hX (by assumption) (by omega)) | exact cnt_f (lRi_f h1 ⟨by omega, by omega⟩ hX (fun q1 q2 q3 q4 => by first | omega | (rw [q2] at h21; cases h21))))))
          · refine j_iload1 (q := 50) dL_risk_49 rfl ?_
            refine j_iconst (q := 51) dL_risk_50 rfl ?_
            refine j_icmp_eq (tgt := 85) (q := 54) dL_risk_51 (by decide) rfl (by first | exact wr_id' (by omega) (by omega) | with_reducible exact wr_bI _ | exact rfl) (by first | exact wr_id' (by omega) (by omega) | with_reducible exact wr_bI _ | exact rfl) (fun h51 => ?_) (fun h51 => ?_)
            · refine j_iconst (q := 86) dL_risk_85 rfl ?_
              refine j_goto (tgt := 90) dL_risk_86 (by decide) ?_
              refine j_iadd (q := 91) dL_risk_90 rfl ?_
              refine j_istore5 (q := 93) dL_risk_91 rfl rfl (by decide) ?_
              refine j_iinc6 (q := 96) dL_risk_93 rfl rfl (by decide) ?_
              refine j_goto (tgt := 6) dL_risk_96 (by decide) ?_
              exact ih _ _ (by omega) (by omega) (fun x hx => kk x (hx.trans (by first | exact cnt_t (lRi_t (by omega) (by assumption) h1 ⟨by omega, by omega⟩ hX (by assumption) (by omega)) | exact cnt_f (lRi_f h1 ⟨by omega, by omega⟩ hX (fun q1 q2 q3 q4 => by first | omega | (rw [q2] at h21; cases h21))))))
            · refine j_iload1 (q := 55) dL_risk_54 rfl ?_
              refine j_bipush (q := 57) dL_risk_55 rfl rfl ?_
              refine j_icmp_ne (tgt := 69) (q := 60) dL_risk_57 (by decide) rfl (by first | exact wr_id' (by omega) (by omega) | with_reducible exact wr_bI _ | exact rfl) (by first | exact wr_id' (by omega) (by omega) | with_reducible exact wr_bI _ | exact rfl) (fun h57 => ?_) (fun h57 => ?_)
              · refine j_iload1 (q := 70) dL_risk_69 rfl ?_
                refine j_if_lt (tgt := 89) (q := 73) dL_risk_70 (by decide) rfl (by first | exact wr_id' (by omega) (by omega) | with_reducible exact wr_bI _ | exact rfl) (fun h70 => ?_) (fun h70 => ?_)
                · refine j_iconst (q := 90) dL_risk_89 rfl ?_
                  refine j_iadd (q := 91) dL_risk_90 rfl ?_
                  refine j_istore5 (q := 93) dL_risk_91 rfl rfl (by decide) ?_
                  refine j_iinc6 (q := 96) dL_risk_93 rfl rfl (by decide) ?_
                  refine j_goto (tgt := 6) dL_risk_96 (by decide) ?_
                  exact ih _ _ (by omega) (by omega) (fun x hx => kk x (hx.trans (by first | exact cnt_t (lRi_t (by omega) (by assumption) h1 ⟨by omega, by omega⟩ hX (by assumption) (by omega)) | exact cnt_f (lRi_f h1 ⟨by omega, by omega⟩ hX (fun q1 q2 q3 q4 => by first | omega | (rw [q2] at h21; cases h21))))))
                · refine j_aload2 (q := 74) dL_risk_73 rfl ?_
                  refine j_iconst (q := 75) dL_risk_74 rfl ?_
                  refine j_iload6 (q := 77) dL_risk_75 rfl ?_
                  refine j_imul (q := 78) dL_risk_77 rfl ?_
                  refine j_iconst (q := 79) dL_risk_78 rfl ?_
                  refine j_iadd (q := 80) dL_risk_79 rfl ?_
                  refine j_l0_2 (q := 81) dL_risk_80 rfl hs (by omega) ?_
                  refine j_iload1 (q := 82) dL_risk_81 rfl ?_
                  refine j_icmp_ne (tgt := 89) (q := 85) dL_risk_82 (by decide) rfl (by first | exact wr_id' (by omega) (by omega) | with_reducible exact wr_bI _ | exact rfl) (by first | exact wr_id' (by omega) (by omega) | with_reducible exact wr_bI _ | exact rfl) (fun h82 => ?_) (fun h82 => ?_)
                  · refine j_iconst (q := 90) dL_risk_89 rfl ?_
                    refine j_iadd (q := 91) dL_risk_90 rfl ?_
                    refine j_istore5 (q := 93) dL_risk_91 rfl rfl (by decide) ?_
                    refine j_iinc6 (q := 96) dL_risk_93 rfl rfl (by decide) ?_
                    refine j_goto (tgt := 6) dL_risk_96 (by decide) ?_
                    exact ih _ _ (by omega) (by omega) (fun x hx => kk x (hx.trans (by first | exact cnt_t (lRi_t (by omega) (by assumption) h1 ⟨by omega, by omega⟩ hX (by assumption) (by omega)) | exact cnt_f (lRi_f h1 ⟨by omega, by omega⟩ hX (fun q1 q2 q3 q4 => by first | omega | (rw [q2] at h21; cases h21))))))
                  · refine j_iconst (q := 86) dL_risk_85 rfl ?_
                    refine j_goto (tgt := 90) dL_risk_86 (by decide) ?_
                    refine j_iadd (q := 91) dL_risk_90 rfl ?_
                    refine j_istore5 (q := 93) dL_risk_91 rfl rfl (by decide) ?_
                    refine j_iinc6 (q := 96) dL_risk_93 rfl rfl (by decide) ?_
                    refine j_goto (tgt := 6) dL_risk_96 (by decide) ?_
                    exact ih _ _ (by omega) (by omega) (fun x hx => kk x (hx.trans (by first | exact cnt_t (lRi_t (by omega) (by assumption) h1 ⟨by omega, by omega⟩ hX (by assumption) (by omega)) | exact cnt_f (lRi_f h1 ⟨by omega, by omega⟩ hX (fun q1 q2 q3 q4 => by first | omega | (rw [q2] at h21; cases h21))))))
              · refine j_aload3 (q := 61) dL_risk_60 rfl ?_
                refine j_iconst (q := 62) dL_risk_61 rfl ?_
                refine j_iload6 (q := 64) dL_risk_62 rfl ?_
                refine j_imul (q := 65) dL_risk_64 rfl ?_
                refine j_l1_0 (q := 66) dL_risk_65 rfl hs (by omega) ?_
                refine j_if_ge (tgt := 85) (q := 69) dL_risk_66 (by decide) rfl (by first | exact wr_id' (by omega) (by omega) | with_reducible exact wr_bI _ | exact rfl) (fun h66 => ?_) (fun h66 => ?_)
                · refine j_iconst (q := 86) dL_risk_85 rfl ?_
                  refine j_goto (tgt := 90) dL_risk_86 (by decide) ?_
                  refine j_iadd (q := 91) dL_risk_90 rfl ?_
                  refine j_istore5 (q := 93) dL_risk_91 rfl rfl (by decide) ?_
                  refine j_iinc6 (q := 96) dL_risk_93 rfl rfl (by decide) ?_
                  refine j_goto (tgt := 6) dL_risk_96 (by decide) ?_
                  exact ih _ _ (by omega) (by omega) (fun x hx => kk x (hx.trans (by first | exact cnt_t (lRi_t (by omega) (by assumption) h1 ⟨by omega, by omega⟩ hX (by assumption) (by omega)) | exact cnt_f (lRi_f h1 ⟨by omega, by omega⟩ hX (fun q1 q2 q3 q4 => by first | omega | (rw [q2] at h21; cases h21))))))
                · refine j_iload1 (q := 70) dL_risk_69 rfl ?_
                  refine j_if_lt (tgt := 89) (q := 73) dL_risk_70 (by decide) rfl (by first | exact wr_id' (by omega) (by omega) | with_reducible exact wr_bI _ | exact rfl) (fun h70 => ?_) (fun h70 => ?_)
                  · refine j_iconst (q := 90) dL_risk_89 rfl ?_
                    refine j_iadd (q := 91) dL_risk_90 rfl ?_
                    refine j_istore5 (q := 93) dL_risk_91 rfl rfl (by decide) ?_
                    refine j_iinc6 (q := 96) dL_risk_93 rfl rfl (by decide) ?_
                    refine j_goto (tgt := 6) dL_risk_96 (by decide) ?_
                    exact ih _ _ (by omega) (by omega) (fun x hx => kk x (hx.trans (by first | exact cnt_t (lRi_t (by omega) (by assumption) h1 ⟨by omega, by omega⟩ hX (by assumption) (by omega)) | exact cnt_f (lRi_f h1 ⟨by omega, by omega⟩ hX (fun q1 q2 q3 q4 => by first | omega | (rw [q2] at h21; cases h21))))))
                  · refine j_aload2 (q := 74) dL_risk_73 rfl ?_
                    refine j_iconst (q := 75) dL_risk_74 rfl ?_
                    refine j_iload6 (q := 77) dL_risk_75 rfl ?_
                    refine j_imul (q := 78) dL_risk_77 rfl ?_
                    refine j_iconst (q := 79) dL_risk_78 rfl ?_
                    refine j_iadd (q := 80) dL_risk_79 rfl ?_
                    refine j_l0_2 (q := 81) dL_risk_80 rfl hs (by omega) ?_
                    refine j_iload1 (q := 82) dL_risk_81 rfl ?_
                    refine j_icmp_ne (tgt := 89) (q := 85) dL_risk_82 (by decide) rfl (by first | exact wr_id' (by omega) (by omega) | with_reducible exact wr_bI _ | exact rfl) (by first | exact wr_id' (by omega) (by omega) | with_reducible exact wr_bI _ | exact rfl) (fun h82 => ?_) (fun h82 => ?_)
                    · refine j_iconst (q := 90) dL_risk_89 rfl ?_
                      refine j_iadd (q := 91) dL_risk_90 rfl ?_
                      refine j_istore5 (q := 93) dL_risk_91 rfl rfl (by decide) ?_
                      refine j_iinc6 (q := 96) dL_risk_93 rfl rfl (by decide) ?_
                      refine j_goto (tgt := 6) dL_risk_96 (by decide) ?_
                      exact ih _ _ (by omega) (by omega) (fun x hx => kk x (hx.trans (by first | exact cnt_t (lRi_t (by omega) (by assumption) h1 ⟨by omega, by omega⟩ hX (by assumption) (by omega)) | exact cnt_f (lRi_f h1 ⟨by omega, by omega⟩ hX (fun q1 q2 q3 q4 => by first | omega | (rw [q2] at h21; cases h21))))))
                    · refine j_iconst (q := 86) dL_risk_85 rfl ?_
                      refine j_goto (tgt := 90) dL_risk_86 (by decide) ?_
                      refine j_iadd (q := 91) dL_risk_90 rfl ?_
                      refine j_istore5 (q := 93) dL_risk_91 rfl rfl (by decide) ?_
                      refine j_iinc6 (q := 96) dL_risk_93 rfl rfl (by decide) ?_
                      refine j_goto (tgt := 6) dL_risk_96 (by decide) ?_
                      exact ih _ _ (by omega) (by omega) (fun x hx => kk x (hx.trans (by first | exact cnt_t (lRi_t (by omega) (by assumption) h1 ⟨by omega, by omega⟩ hX (by assumption) (by omega)) | exact cnt_f (lRi_f h1 ⟨by omega, by omega⟩ hX (fun q1 q2 q3 q4 => by first | omega | (rw [q2] at h21; cases h21))))))
theorem ct_L_risk {G : GX} {sh : List SH} {p : Bool} (E : EW G sh) (hs : LA sh p) {m : Mem} {z : Z} {k : Int} {w : Int} (h1 : 0 ≤ k ∧ k < 16) (hw : -2 ≤ w ∧ w < 6) (hX : LX z) : CT G sh iL_risk 0 0 [.inl k, .inl w, .inr (.ref (ix p 0)), .inr (.ref (ix p 1)), .inr (.ref (ix p 7))] (lz m p z) (some (.inl (zDis z (cr k) (lW w)))) (lz m p z) := by
  refine j_met (L0 := [some (.inl k), some (.inl w), some (.inr (.ref (ix p 0))), some (.inr (.ref (ix p 1))), some (.inr (.ref (ix p 7))), none, none]) (by decide) E.1 E.2 rfl (Nat.le_of_ble_eq_true rfl) ?_
  refine j_iconst (q := 1) dL_risk_0 rfl ?_
  refine j_istore5 (q := 3) dL_risk_1 rfl rfl (by decide) ?_
  refine j_iconst (q := 4) dL_risk_3 rfl ?_
  refine j_istore6 (q := 6) dL_risk_4 rfl rfl (by decide) ?_
  refine lp_L_risk E hs h1 hw hX 16 0 0 (by omega) (by omega) ?_
  intro x hx
  rw [← zDis_16 hX] at hx
  refine j_iload5 (q := 101) dL_risk_99 rfl ?_
  exact j_ireturn dL_risk_101 rfl (by rw [hx]) (rfl)

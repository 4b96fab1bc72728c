/-! the class: the plane -/
/-! the plane's methods -/
theorem tb_t {x : Int64} {c : Int} (h : ¬ x &&& msk c = 0) : tb x c = true := decide_eq_true h
theorem tb_f {x : Int64} {c : Int} (h : x &&& msk c = 0) : ¬ tb x c = true := fun q => absurd h (of_decide_eq_true q)
theorem ct_X3_rentFor {G : GX} {sh : List SH} (E : EV G sh) {m P : Mem} {q : Nat} (hq : PA q) {k : Int} : CT G sh iX3_rentFor 0 0 [.inr (.ref q), .inl k] (ps m q P) (some (.inl (cRent P k))) (ps m q P) := by
  refine j_met (L0 := [some (.inr (.ref q)), some (.inl k)]) (by decide) E.1 E.2.1 rfl (Nat.le_of_ble_eq_true rfl) ?_
  refine j_aload0 (q := 1) dX3_rentFor_0 rfl ?_
  refine j_getR 3 (q := 4) dX3_rentFor_1 rfl fl_X3_21 (E.2.2 _ _ (hq 0 _ rfl)) rfl ?_
  refine j_iconst (q := 5) dX3_rentFor_4 rfl ?_
  refine j_pload (q := 6) (d := 1) rfl (by decide) dX3_rentFor_5 rfl (E.2.2 _ _ (hq 1 _ rfl)) (by first | exact wr_id' (by omega) (by omega) | with_reducible exact wr_bI _ | exact rfl) (by omega) (by omega) ?_
  refine j_iload1 (q := 7) dX3_rentFor_6 rfl ?_
  refine j_imul (q := 8) dX3_rentFor_7 rfl ?_
  exact j_ireturn dX3_rentFor_8 rfl (rfl) (rfl)
theorem ct_X3_leaseLeft {G : GX} {sh : List SH} (E : EV G sh) {m P : Mem} {q : Nat} (hq : PA q) {c : Int} (h1 : 0 ≤ c ∧ c < 64) : CT G sh iX3_leaseLeft 0 0 [.inr (.ref q), .inl c] (ps m q P) (some (.inl (cLL P c))) (ps m q P) := by
  refine j_met (L0 := [some (.inr (.ref q)), some (.inl c)]) (by decide) E.1 E.2.1 rfl (Nat.le_of_ble_eq_true rfl) ?_
  refine j_aload0 (q := 1) dX3_leaseLeft_0 rfl ?_
  refine j_getR 5 (q := 4) dX3_leaseLeft_1 rfl fl_X3_31 (E.2.2 _ _ (hq 0 _ rfl)) rfl ?_
  refine j_iload1 (q := 5) dX3_leaseLeft_4 rfl ?_
  refine j_callV1 (Mc := iX0_isLeased) (q := 8) (c' := 0) (s' := 0) dX3_leaseLeft_5 rfl kV_X0_isLeased jw_464 ⟨by decide, by decide⟩ (E.2.2 _ _ (hq 3 _ rfl)) rfl rfl rfl (Nat.le_refl _) (Nat.le_refl _) (ct_X0_isLeased E hq (by omega)) ?_
  refine j_ifeq_b (tgt := 28) (q := 11) dX3_leaseLeft_8 (by decide) rfl (fun h8 => ?_) (fun h8 => ?_)
  · refine j_iconst (q := 29) dX3_leaseLeft_28 rfl ?_
    exact j_ireturn dX3_leaseLeft_29 rfl (by unfold cLL; first | rw [if_pos (by assumption)] | rw [if_neg (nb (by assumption))]) (rfl)
  · refine j_aload0 (q := 12) dX3_leaseLeft_11 rfl ?_
    refine j_getR 5 (q := 15) dX3_leaseLeft_12 rfl fl_X3_31 (E.2.2 _ _ (hq 0 _ rfl)) rfl ?_
    refine j_getR 3 (q := 18) dX3_leaseLeft_15 rfl fl_X3_86 (E.2.2 _ _ (hq 3 _ rfl)) rfl ?_
    refine j_iload1 (q := 19) dX3_leaseLeft_18 rfl ?_
    refine j_pload (q := 20) (d := 6) rfl (by decide) dX3_leaseLeft_19 rfl (E.2.2 _ _ (hq 6 _ rfl)) (by first | exact wr_id' (by omega) (by omega) | with_reducible exact wr_bI _ | exact rfl) (by omega) (by omega) ?_
    refine j_aload0 (q := 21) dX3_leaseLeft_20 rfl ?_
    refine j_pgetI (d := 0) rfl (by decide) 0 (j' := 0) (q := 24) dX3_leaseLeft_21 rfl fl_X3_9 (E.2.2 _ _ (hq 0 _ rfl)) rfl rfl ?_
    refine j_isub (q := 25) dX3_leaseLeft_24 rfl ?_
    refine j_goto (tgt := 29) dX3_leaseLeft_25 (by decide) ?_
    exact j_ireturn dX3_leaseLeft_29 rfl (by unfold cLL; first | rw [if_pos (by assumption)] | rw [if_neg (nb (by assumption))]) (rfl)
theorem ct_X3_policyLeft {G : GX} {sh : List SH} (E : EV G sh) {m P : Mem} {q : Nat} (hq : PA q) {c : Int} (h1 : 0 ≤ c ∧ c < 64) : CT G sh iX3_policyLeft 0 0 [.inr (.ref q), .inl c] (ps m q P) (some (.inl (cPL P c))) (ps m q P) := by
  refine j_met (L0 := [some (.inr (.ref q)), some (.inl c)]) (by decide) E.1 E.2.1 rfl (Nat.le_of_ble_eq_true rfl) ?_
  refine j_aload0 (q := 1) dX3_policyLeft_0 rfl ?_
  refine j_getR 5 (q := 4) dX3_policyLeft_1 rfl fl_X3_31 (E.2.2 _ _ (hq 0 _ rfl)) rfl ?_
  refine j_iload1 (q := 5) dX3_policyLeft_4 rfl ?_
  refine j_callV1 (Mc := iX0_hasPolicy) (q := 8) (c' := 0) (s' := 0) dX3_policyLeft_5 rfl kV_X0_hasPolicy jw_472 ⟨by decide, by decide⟩ (E.2.2 _ _ (hq 3 _ rfl)) rfl rfl rfl (Nat.le_refl _) (Nat.le_refl _) (ct_X0_hasPolicy E hq (by omega)) ?_
  refine j_ifeq_b (tgt := 28) (q := 11) dX3_policyLeft_8 (by decide) rfl (fun h8 => ?_) (fun h8 => ?_)
  · refine j_iconst (q := 29) dX3_policyLeft_28 rfl ?_
    exact j_ireturn dX3_policyLeft_29 rfl (by unfold cPL; first | rw [if_pos (by assumption)] | rw [if_neg (nb (by assumption))]) (rfl)
  · refine j_aload0 (q := 12) dX3_policyLeft_11 rfl ?_
    refine j_getR 5 (q := 15) dX3_policyLeft_12 rfl fl_X3_31 (E.2.2 _ _ (hq 0 _ rfl)) rfl ?_
    refine j_getR 5 (q := 18) dX3_policyLeft_15 rfl fl_X3_92 (E.2.2 _ _ (hq 3 _ rfl)) rfl ?_
    refine j_iload1 (q := 19) dX3_policyLeft_18 rfl ?_
    refine j_pload (q := 20) (d := 8) rfl (by decide) dX3_policyLeft_19 rfl (E.2.2 _ _ (hq 8 _ rfl)) (by first | exact wr_id' (by omega) (by omega) | with_reducible exact wr_bI _ | exact rfl) (by omega) (by omega) ?_
    refine j_aload0 (q := 21) dX3_policyLeft_20 rfl ?_
    refine j_pgetI (d := 0) rfl (by decide) 0 (j' := 0) (q := 24) dX3_policyLeft_21 rfl fl_X3_9 (E.2.2 _ _ (hq 0 _ rfl)) rfl rfl ?_
    refine j_isub (q := 25) dX3_policyLeft_24 rfl ?_
    refine j_goto (tgt := 29) dX3_policyLeft_25 (by decide) ?_
    exact j_ireturn dX3_policyLeft_29 rfl (by unfold cPL; first | rw [if_pos (by assumption)] | rw [if_neg (nb (by assumption))]) (rfl)
theorem ct_X3_leaseOut {G : GX} {sh : List SH} (E : EV G sh) {m P : Mem} {q : Nat} (hq : PA q) {c : Int} {t : Int} {k : Int} (h1 : 0 ≤ c ∧ c < 64) (h2 : 0 ≤ t ∧ t < 6) : CT G sh iX3_leaseOut 0 0 [.inr (.ref q), .inl c, .inl t, .inl k] (ps m q P) none (ps m q (cLeO P c t k)) := by
  refine j_met (L0 := [some (.inr (.ref q)), some (.inl c), some (.inl t), some (.inl k), none]) (by decide) E.1 E.2.1 rfl (Nat.le_of_ble_eq_true rfl) ?_
  refine j_aload0 (q := 1) dX3_leaseOut_0 rfl ?_
  refine j_iload3 (q := 2) dX3_leaseOut_1 rfl ?_
  refine j_callV1 (Mc := iX3_rentFor) (q := 5) (c' := 0) (s' := 0) dX3_leaseOut_2 rfl kV_X3_rentFor jw_758 ⟨by decide, by decide⟩ (E.2.2 _ _ (hq 0 _ rfl)) rfl rfl rfl (Nat.le_refl _) (Nat.le_refl _) (ct_X3_rentFor E hq) ?_
  refine j_istore4 (q := 7) dX3_leaseOut_5 rfl rfl (by decide) ?_
  refine j_aload0 (q := 8) dX3_leaseOut_7 rfl ?_
  refine j_getR 7 (q := 11) dX3_leaseOut_8 rfl fl_X3_45 (E.2.2 _ _ (hq 0 _ rfl)) rfl ?_
  refine j_getR 1 (q := 14) dX3_leaseOut_11 rfl fl_X3_99 (E.2.2 _ _ (hq 13 _ rfl)) rfl ?_
  refine j_iload2 (q := 15) dX3_leaseOut_14 rfl ?_
  refine j_dup2 (q := 16) dX3_leaseOut_15 rfl rfl rfl ?_
  refine j_pload (q := 17) (d := 14) rfl (by decide) dX3_leaseOut_16 rfl (E.2.2 _ _ (hq 14 _ rfl)) (by first | exact wr_id' (by omega) (by omega) | with_reducible exact wr_bI _ | exact rfl) (by omega) (by omega) ?_
  refine j_iload4 (q := 19) dX3_leaseOut_17 rfl ?_
  refine j_isub (q := 20) dX3_leaseOut_19 rfl ?_
  refine j_pstore (q := 21) (d := 14) rfl (by decide) dX3_leaseOut_20 rfl (E.2.2 _ _ (hq 14 _ rfl)) (by first | exact wr_id' (by omega) (by omega) | with_reducible exact wr_bI _ | exact rfl) (by omega) (by omega) ?_
  refine j_aload0 (q := 22) dX3_leaseOut_21 rfl ?_
  refine j_dup (q := 23) dX3_leaseOut_22 rfl rfl ?_
  refine j_pgetI (d := 0) rfl (by decide) 2 (j' := 2) (q := 26) dX3_leaseOut_23 rfl fl_X3_18 (E.2.2 _ _ (hq 0 _ rfl)) rfl rfl ?_
  refine j_iload4 (q := 28) dX3_leaseOut_26 rfl ?_
  refine j_iadd (q := 29) dX3_leaseOut_28 rfl ?_
  refine j_pputI (d := 0) rfl (by decide) 2 (j' := 2) (q := 32) dX3_leaseOut_29 rfl fw_X3_18 (E.2.2 _ _ (hq 0 _ rfl)) rfl rfl ?_
  refine j_aload0 (q := 33) dX3_leaseOut_32 rfl ?_
  refine j_getR 5 (q := 36) dX3_leaseOut_33 rfl fl_X3_31 (E.2.2 _ _ (hq 0 _ rfl)) rfl ?_
  refine j_getR 2 (q := 39) dX3_leaseOut_36 rfl fl_X3_102 (E.2.2 _ _ (hq 3 _ rfl)) rfl ?_
  refine j_iload1 (q := 40) dX3_leaseOut_39 rfl ?_
  refine j_iload2 (q := 41) dX3_leaseOut_40 rfl ?_
  refine j_pstore (q := 42) (d := 5) rfl (by decide) dX3_leaseOut_41 rfl (E.2.2 _ _ (hq 5 _ rfl)) (by first | exact wr_id' (by omega) (by omega) | with_reducible exact wr_bI _ | exact rfl) (by omega) (by omega) ?_
  refine j_aload0 (q := 43) dX3_leaseOut_42 rfl ?_
  refine j_getR 5 (q := 46) dX3_leaseOut_43 rfl fl_X3_31 (E.2.2 _ _ (hq 0 _ rfl)) rfl ?_
  refine j_getR 3 (q := 49) dX3_leaseOut_46 rfl fl_X3_86 (E.2.2 _ _ (hq 3 _ rfl)) rfl ?_
  refine j_iload1 (q := 50) dX3_leaseOut_49 rfl ?_
  refine j_aload0 (q := 51) dX3_leaseOut_50 rfl ?_
  refine j_pgetI (d := 0) rfl (by decide) 0 (j' := 0) (q := 54) dX3_leaseOut_51 rfl fl_X3_9 (E.2.2 _ _ (hq 0 _ rfl)) rfl rfl ?_
  refine j_iload3 (q := 55) dX3_leaseOut_54 rfl ?_
  refine j_iadd (q := 56) dX3_leaseOut_55 rfl ?_
  refine j_pstore (q := 57) (d := 6) rfl (by decide) dX3_leaseOut_56 rfl (E.2.2 _ _ (hq 6 _ rfl)) (by first | exact wr_id' (by omega) (by omega) | with_reducible exact wr_bI _ | exact rfl) (by omega) (by omega) ?_
  exact j_return dX3_leaseOut_57 rfl (rfl)
theorem ct_X3_premiumFor {G : GX} {sh : List SH} (E : EV G sh) {m P : Mem} {q : Nat} (hq : PA q) {c : Int} {i : Int} {k : Int} {h : Int} (h1 : 0 ≤ c ∧ c < 64) (h2 : 0 ≤ i ∧ i < 3) : CT G sh iX3_premiumFor 0 0 [.inr (.ref q), .inl c, .inl i, .inl k, .inl h] (ps m q P) (some (.inl (cPrem P c i k h))) (ps m q P) := by
  refine j_met (L0 := [some (.inr (.ref q)), some (.inl c), some (.inl i), some (.inl k), some (.inl h), none]) (by decide) E.1 E.2.1 rfl (Nat.le_of_ble_eq_true rfl) ?_
  refine j_bipush (q := 2) dX3_premiumFor_0 rfl rfl ?_
  refine j_iload4 (q := 4) dX3_premiumFor_2 rfl ?_
  refine j_iadd (q := 5) dX3_premiumFor_4 rfl ?_
  refine j_bipush (q := 7) dX3_premiumFor_5 rfl rfl ?_
  refine j_iadd (q := 8) dX3_premiumFor_7 rfl ?_
  refine j_aload0 (q := 9) dX3_premiumFor_8 rfl ?_
  refine j_getR 5 (q := 12) dX3_premiumFor_9 rfl fl_X3_31 (E.2.2 _ _ (hq 0 _ rfl)) rfl ?_
  refine j_getR 1 (q := 15) dX3_premiumFor_12 rfl fl_X3_105 (E.2.2 _ _ (hq 3 _ rfl)) rfl ?_
  refine j_iload1 (q := 16) dX3_premiumFor_15 rfl ?_
  refine j_pload (q := 17) (d := 4) rfl (by decide) dX3_premiumFor_16 rfl (E.2.2 _ _ (hq 4 _ rfl)) (by first | exact wr_id' (by omega) (by omega) | with_reducible exact wr_bI _ | exact rfl) (by omega) (by omega) ?_
  refine j_isub (q := 18) dX3_premiumFor_17 rfl ?_
  refine j_istore5 (q := 20) dX3_premiumFor_18 rfl rfl (by decide) ?_
  refine j_iload5 (q := 22) dX3_premiumFor_20 rfl ?_
  refine j_iload3 (q := 23) dX3_premiumFor_22 rfl ?_
  refine j_imul (q := 24) dX3_premiumFor_23 rfl ?_
  refine j_aload0 (q := 25) dX3_premiumFor_24 rfl ?_
  refine j_getR 8 (q := 28) dX3_premiumFor_25 rfl fl_X3_52 (E.2.2 _ _ (hq 0 _ rfl)) rfl ?_
  refine j_getR 2 (q := 31) dX3_premiumFor_28 rfl fl_X3_108 (E.2.2 _ _ (hq 17 _ rfl)) rfl ?_
  refine j_iload2 (q := 32) dX3_premiumFor_31 rfl ?_
  refine j_pload (q := 33) (d := 19) rfl (by decide) dX3_premiumFor_32 rfl (E.2.2 _ _ (hq 19 _ rfl)) (by first | exact wr_id' (by omega) (by omega) | with_reducible exact wr_bI _ | exact rfl) (by omega) (by omega) ?_
  refine j_imul (q := 34) dX3_premiumFor_33 rfl ?_
  refine j_sipush (q := 37) dX3_premiumFor_34 rfl rfl ?_
  refine j_idiv (q := 38) dX3_premiumFor_37 rfl (by first | exact wr_id' (by omega) (by omega) | with_reducible exact wr_bI _ | exact rfl) (by first | exact wr_id' (by omega) (by omega) | with_reducible exact wr_bI _ | exact rfl) (by omega) (by omega) ?_
  refine j_iconst (q := 39) dX3_premiumFor_38 rfl ?_
  refine j_iadd (q := 40) dX3_premiumFor_39 rfl ?_
  exact j_ireturn dX3_premiumFor_40 rfl (rfl) (rfl)
theorem ct_X3_replaceCore {G : GX} {sh : List SH} (E : EV G sh) {m P : Mem} {q : Nat} (hq : PA q) {c : Int} (h1 : 0 ≤ c ∧ c < 64) : CT G sh iX3_replaceCore 0 0 [.inr (.ref q), .inl c] (ps m q P) none (ps m q (cRpl P c)) := by
  refine j_met (L0 := [some (.inr (.ref q)), some (.inl c)]) (by decide) E.1 E.2.1 rfl (Nat.le_of_ble_eq_true rfl) ?_
  refine j_aload0 (q := 1) dX3_replaceCore_0 rfl ?_
  refine j_dup (q := 2) dX3_replaceCore_1 rfl rfl ?_
  refine j_pgetI (d := 0) rfl (by decide) 2 (j' := 2) (q := 5) dX3_replaceCore_2 rfl fl_X3_18 (E.2.2 _ _ (hq 0 _ rfl)) rfl rfl ?_
  refine j_aload0 (q := 6) dX3_replaceCore_5 rfl ?_
  refine j_getR 3 (q := 9) dX3_replaceCore_6 rfl fl_X3_21 (E.2.2 _ _ (hq 0 _ rfl)) rfl ?_
  refine j_bipush (q := 11) dX3_replaceCore_9 rfl rfl ?_
  refine j_pload (q := 12) (d := 1) rfl (by decide) dX3_replaceCore_11 rfl (E.2.2 _ _ (hq 1 _ rfl)) (by first | exact wr_id' (by omega) (by omega) | with_reducible exact wr_bI _ | exact rfl) (by omega) (by omega) ?_
  refine j_isub (q := 13) dX3_replaceCore_12 rfl ?_
  refine j_pputI (d := 0) rfl (by decide) 2 (j' := 2) (q := 16) dX3_replaceCore_13 rfl fw_X3_18 (E.2.2 _ _ (hq 0 _ rfl)) rfl rfl ?_
  refine j_aload0 (q := 17) dX3_replaceCore_16 rfl ?_
  refine j_getR 4 (q := 20) dX3_replaceCore_17 rfl fl_X3_25 (E.2.2 _ _ (hq 0 _ rfl)) rfl ?_
  refine j_bipush (q := 22) dX3_replaceCore_20 rfl rfl ?_
  refine j_dup2 (q := 23) dX3_replaceCore_22 rfl rfl rfl ?_
  refine j_pload (q := 24) (d := 2) rfl (by decide) dX3_replaceCore_23 rfl (E.2.2 _ _ (hq 2 _ rfl)) (by first | exact wr_id' (by omega) (by omega) | with_reducible exact wr_bI _ | exact rfl) (by omega) (by omega) ?_
  refine j_aload0 (q := 25) dX3_replaceCore_24 rfl ?_
  refine j_getR 3 (q := 28) dX3_replaceCore_25 rfl fl_X3_21 (E.2.2 _ _ (hq 0 _ rfl)) rfl ?_
  refine j_bipush (q := 30) dX3_replaceCore_28 rfl rfl ?_
  refine j_pload (q := 31) (d := 1) rfl (by decide) dX3_replaceCore_30 rfl (E.2.2 _ _ (hq 1 _ rfl)) (by first | exact wr_id' (by omega) (by omega) | with_reducible exact wr_bI _ | exact rfl) (by omega) (by omega) ?_
  refine j_iadd (q := 32) dX3_replaceCore_31 rfl ?_
  refine j_pstore (q := 33) (d := 2) rfl (by decide) dX3_replaceCore_32 rfl (E.2.2 _ _ (hq 2 _ rfl)) (by first | exact wr_id' (by omega) (by omega) | with_reducible exact wr_bI _ | exact rfl) (by omega) (by omega) ?_
  refine j_aload0 (q := 34) dX3_replaceCore_33 rfl ?_
  refine j_getR 5 (q := 37) dX3_replaceCore_34 rfl fl_X3_31 (E.2.2 _ _ (hq 0 _ rfl)) rfl ?_
  refine j_getR 1 (q := 40) dX3_replaceCore_37 rfl fl_X3_105 (E.2.2 _ _ (hq 3 _ rfl)) rfl ?_
  refine j_iload1 (q := 41) dX3_replaceCore_40 rfl ?_
  refine j_bipush (q := 43) dX3_replaceCore_41 rfl rfl ?_
  refine j_pstore (q := 44) (d := 4) rfl (by decide) dX3_replaceCore_43 rfl (E.2.2 _ _ (hq 4 _ rfl)) (by first | exact wr_id' (by omega) (by omega) | with_reducible exact wr_bI _ | exact rfl) (by omega) (by omega) ?_
  refine j_aload0 (q := 45) dX3_replaceCore_44 rfl ?_
  refine j_getR 5 (q := 48) dX3_replaceCore_45 rfl fl_X3_31 (E.2.2 _ _ (hq 0 _ rfl)) rfl ?_
  refine j_iload1 (q := 49) dX3_replaceCore_48 rfl ?_
  refine j_iconst (q := 50) dX3_replaceCore_49 rfl ?_
  refine j_callV2v (Mc := iX0_putBit) (q := 53) (c' := 0) (s' := 0) dX3_replaceCore_50 rfl kV_X0_putBit jw_641 ⟨by decide, by decide⟩ (E.2.2 _ _ (hq 3 _ rfl)) rfl rfl rfl (Nat.le_refl _) (Nat.le_refl _) (ct_X0_putBit (b := false) E hq) ?_
  exact j_return dX3_replaceCore_53 rfl (rfl)
theorem ct_X3_enterClaim {G : GX} {sh : List SH} (E : EV G sh) {m P : Mem} {q : Nat} (hq : PA q) {i : Int} {t : Int} (hw : 0 ≤ P 0 10 ∧ P 0 10 ≤ 512) : CT G sh iX3_enterClaim 0 0 [.inr (.ref q), .inl i, .inl t] (ps m q P) none (ps m q (cEnC P i t)) := by
  refine j_met (L0 := [some (.inr (.ref q)), some (.inl i), some (.inl t)]) (by decide) E.1 E.2.1 rfl (Nat.le_of_ble_eq_true rfl) ?_
  refine j_aload0 (q := 1) dX3_enterClaim_0 rfl ?_
  refine j_pgetI (d := 0) rfl (by decide) 10 (j' := 10) (q := 4) dX3_enterClaim_1 rfl fl_X3_59 (E.2.2 _ _ (hq 0 _ rfl)) rfl rfl ?_
  refine j_sipush (q := 7) dX3_enterClaim_4 rfl rfl ?_
  refine j_icmp_ge (tgt := 35) (q := 10) dX3_enterClaim_7 (by decide) rfl (by first | exact wr_id' (by omega) (by omega) | with_reducible exact wr_bI _ | exact rfl) (by first | exact wr_id' (by omega) (by omega) | with_reducible exact wr_bI _ | exact rfl) (fun h7 => ?_) (fun h7 => ?_)
  · exact j_return dX3_enterClaim_35 rfl (by unfold cEnC; first | (rw [if_pos (by omega)]; done) | (rw [if_neg (by omega), e1]; done))
  · refine j_aload0 (q := 11) dX3_enterClaim_10 rfl ?_
    refine j_getR 9 (q := 14) dX3_enterClaim_11 rfl fl_X3_56 (E.2.2 _ _ (hq 0 _ rfl)) rfl ?_
    refine j_aload0 (q := 15) dX3_enterClaim_14 rfl ?_
    refine j_pgetI (d := 0) rfl (by decide) 10 (j' := 10) (q := 18) dX3_enterClaim_15 rfl fl_X3_59 (E.2.2 _ _ (hq 0 _ rfl)) rfl rfl ?_
    refine j_iload1 (q := 19) dX3_enterClaim_18 rfl ?_
    refine j_bipush (q := 21) dX3_enterClaim_19 rfl rfl ?_
    refine j_imul (q := 22) dX3_enterClaim_21 rfl ?_
    refine j_iload2 (q := 23) dX3_enterClaim_22 rfl ?_
    refine j_iadd (q := 24) dX3_enterClaim_23 rfl ?_
    refine j_pstore (q := 25) (d := 23) rfl (by decide) dX3_enterClaim_24 rfl (E.2.2 _ _ (hq 23 _ rfl)) (by first | exact wr_id' (by omega) (by omega) | with_reducible exact wr_bI _ | exact rfl) (by omega) (by omega) ?_
    have e1 : up P 23 (P 0 10) (i * 6 + t) 0 10 = P 0 10 := up_ne (by omega)
    refine j_aload0 (q := 26) dX3_enterClaim_25 rfl ?_
    refine j_dup (q := 27) dX3_enterClaim_26 rfl rfl ?_
    refine j_pgetI (d := 0) rfl (by decide) 10 (j' := 10) (q := 30) dX3_enterClaim_27 rfl fl_X3_59 (E.2.2 _ _ (hq 0 _ rfl)) rfl rfl ?_
    refine j_iconst (q := 31) dX3_enterClaim_30 rfl ?_
    refine j_iadd (q := 32) dX3_enterClaim_31 rfl ?_
    refine j_pputI (d := 0) rfl (by decide) 10 (j' := 10) (q := 35) dX3_enterClaim_32 rfl fw_X3_59 (E.2.2 _ _ (hq 0 _ rfl)) rfl rfl ?_
    exact j_return dX3_enterClaim_35 rfl (by unfold cEnC; first | (rw [if_pos (by omega)]; done) | (rw [if_neg (by omega), e1]; done))
theorem lp_X3_payClaims {G : GX} {sh : List SH} (E : EV G sh) {m : Mem} {q : Nat} (hq : PA q) {F : FinT} {i s : Int} (hi : 0 ≤ i ∧ i < 3) : ∀ (d : Nat) (j : Int) (k : Int) (P : Mem), j + d = P 0 10 → 0 ≤ k → k ≤ j → CV P → (∀ (x : Mem × Int), x = cPcF i s d j k P → J G sh iX3_payClaims 0 0 F 136 [some (.inr (.ref q)), some (.inl i), some (.inl s), some (.inl x.2), none, none, none] [] (ps m q x.1) 0 0) → J G sh iX3_payClaims 0 0 F 15 [some (.inr (.ref q)), some (.inl i), some (.inl s), some (.inl k), some (.inl j), none, none] [] (ps m q P) 0 0 := by
  intro d
  induction d with
  | zero =>
    intro j k P g0 g1 g2 g3 kk
    have hw := g3.2.2.1.1
    refine j_iload4 (q := 17) dX3_payClaims_15 rfl ?_
    refine j_aload0 (q := 18) dX3_payClaims_17 rfl ?_
    refine j_pgetI (d := 0) rfl (by decide) 10 (j' := 10) (q := 21) dX3_payClaims_18 rfl fl_X3_59 (E.2.2 _ _ (hq 0 _ rfl)) rfl rfl ?_
    refine j_icmp_ge (tgt := 136) (q := 24) dX3_payClaims_21 (by decide) rfl (by first | exact wr_id' (by omega) (by omega) | with_reducible exact wr_bI _ | exact rfl) (by first | exact wr_id' (by omega) (by omega) | with_reducible exact wr_bI _ | exact rfl) (fun h21 => ?_) (fun h21 => ?_)
    · refine j_cg (L' := [some (.inr (.ref q)), some (.inl i), some (.inl s), some (.inl (cPcF i s 0 j k P).2), some (.inl j), none, none]) (m' := ps m q (cPcF i s 0 j k P).1) (by simp only [cPcF]) rfl (by simp only [cPcF]) ?_
      refine j_fgt4 ?_
      exact kk _ rfl
    · omega
  | succ d ih =>
    intro j k P g0 g1 g2 g3 kk
    have hw := g3.2.2.1.1
    refine j_iload4 (q := 17) dX3_payClaims_15 rfl ?_
    refine j_aload0 (q := 18) dX3_payClaims_17 rfl ?_
    refine j_pgetI (d := 0) rfl (by decide) 10 (j' := 10) (q := 21) dX3_payClaims_18 rfl fl_X3_59 (E.2.2 _ _ (hq 0 _ rfl)) rfl rfl ?_
    refine j_icmp_ge (tgt := 136) (q := 24) dX3_payClaims_21 (by decide) rfl (by first | exact wr_id' (by omega) (by omega) | with_reducible exact wr_bI _ | exact rfl) (by first | exact wr_id' (by omega) (by omega) | with_reducible exact wr_bI _ | exact rfl) (fun h21 => ?_) (fun h21 => ?_)
    · omega
    · refine j_aload0 (q := 25) dX3_payClaims_24 rfl ?_
      refine j_getR 9 (q := 28) dX3_payClaims_25 rfl fl_X3_56 (E.2.2 _ _ (hq 0 _ rfl)) rfl ?_
      refine j_iload4 (q := 30) dX3_payClaims_28 rfl ?_
      refine j_pload (q := 31) (d := 23) rfl (by decide) dX3_payClaims_30 rfl (E.2.2 _ _ (hq 23 _ rfl)) (by first | exact wr_id' (by omega) (by omega) | with_reducible exact wr_bI _ | exact rfl) (by omega) (by omega) ?_
      refine j_istore5 (q := 33) dX3_payClaims_31 rfl rfl (by decide) ?_
      have hb := g3.2.2.1.2 j (by omega) (by omega)
      refine j_iload5 (q := 35) dX3_payClaims_33 rfl ?_
      refine j_bipush (q := 37) dX3_payClaims_35 rfl rfl ?_
      refine j_idivP (q := 38) dX3_payClaims_37 rfl (by first | exact wr_id' (by omega) (by omega) | with_reducible exact wr_bI _ | exact rfl) (by first | exact wr_id' (by omega) (by omega) | with_reducible exact wr_bI _ | exact rfl) (by omega) (by omega) ?_
      refine j_iload1 (q := 39) dX3_payClaims_38 rfl ?_
      refine j_icmp_ne (tgt := 119) (q := 42) dX3_payClaims_39 (by decide) rfl (by first | exact wr_id' (by omega) (by omega) | with_reducible exact wr_bI _ | exact rfl) (by first | exact wr_id' (by omega) (by omega) | with_reducible exact wr_bI _ | exact rfl) (fun h39 => ?_) (fun h39 => ?_)
      · refine j_aload0 (q := 120) dX3_payClaims_119 rfl ?_
        refine j_getR 9 (q := 123) dX3_payClaims_120 rfl fl_X3_56 (E.2.2 _ _ (hq 0 _ rfl)) rfl ?_
        refine j_iload3 (q := 124) dX3_payClaims_123 rfl ?_
        refine j_iload5 (q := 126) dX3_payClaims_124 rfl ?_
        refine j_pstore (q := 127) (d := 23) rfl (by decide) dX3_payClaims_126 rfl (E.2.2 _ _ (hq 23 _ rfl)) (by first | exact wr_id' (by omega) (by omega) | with_reducible exact wr_bI _ | exact rfl) (by omega) (by omega) ?_
        refine j_iinc3 (q := 130) dX3_payClaims_127 rfl rfl (by decide) ?_
        refine j_iinc4 (q := 133) dX3_payClaims_130 rfl rfl (by decide) ?_
        refine j_goto (tgt := 15) dX3_payClaims_133 (by decide) ?_
        refine j_fgt5 ?_
        exact ih _ _ _ (by first | (rw [cPa_o (by omega)]; omega) | (rw [up_ne (by omega)]; omega)) (by omega) (by omega) (by first | exact CV_pa g3 | exact CV_23 hb g3) (fun x hx => kk x (hx.trans (by first | (rw [cPcF, if_pos (by omega)]; done) | (rw [cPcF, if_neg (by omega)]; done))))
      · refine j_aload0 (q := 43) dX3_payClaims_42 rfl ?_
        refine j_getR 8 (q := 46) dX3_payClaims_43 rfl fl_X3_52 (E.2.2 _ _ (hq 0 _ rfl)) rfl ?_
        refine j_getR 1 (q := 49) dX3_payClaims_46 rfl fl_X3_111 (E.2.2 _ _ (hq 17 _ rfl)) rfl ?_
        refine j_iload1 (q := 50) dX3_payClaims_49 rfl ?_
        refine j_pload (q := 51) (d := 18) rfl (by decide) dX3_payClaims_50 rfl (E.2.2 _ _ (hq 18 _ rfl)) (by first | exact wr_id' (by omega) (by omega) | with_reducible exact wr_bI _ | exact rfl) (by omega) (by omega) ?_
        refine j_iload2 (q := 52) dX3_payClaims_51 rfl ?_
        refine j_icmp_lt (tgt := 119) (q := 55) dX3_payClaims_52 (by decide) rfl rfl rfl (fun h52 => ?_) (fun h52 => ?_)
        · refine j_aload0 (q := 120) dX3_payClaims_119 rfl ?_
          refine j_getR 9 (q := 123) dX3_payClaims_120 rfl fl_X3_56 (E.2.2 _ _ (hq 0 _ rfl)) rfl ?_
          refine j_iload3 (q := 124) dX3_payClaims_123 rfl ?_
          refine j_iload5 (q := 126) dX3_payClaims_124 rfl ?_
          refine j_pstore (q := 127) (d := 23) rfl (by decide) dX3_payClaims_126 rfl (E.2.2 _ _ (hq 23 _ rfl)) (by first | exact wr_id' (by omega) (by omega) | with_reducible exact wr_bI _ | exact rfl) (by omega) (by omega) ?_
          refine j_iinc3 (q := 130) dX3_payClaims_127 rfl rfl (by decide) ?_
          refine j_iinc4 (q := 133) dX3_payClaims_130 rfl rfl (by decide) ?_
          refine j_goto (tgt := 15) dX3_payClaims_133 (by decide) ?_
          refine j_fgt5 ?_
          exact ih _ _ _ (by first | (rw [cPa_o (by omega)]; omega) | (rw [up_ne (by omega)]; omega)) (by omega) (by omega) (by first | exact CV_pa g3 | exact CV_23 hb g3) (fun x hx => kk x (hx.trans (by first | (rw [cPcF, if_pos (by omega)]; done) | (rw [cPcF, if_neg (by omega)]; done))))
        · refine j_iload5 (q := 57) dX3_payClaims_55 rfl ?_
          refine j_bipush (q := 59) dX3_payClaims_57 rfl rfl ?_
          refine j_iremP (q := 60) dX3_payClaims_59 rfl (by first | exact wr_id' (by omega) (by omega) | with_reducible exact wr_bI _ | exact rfl) (by first | exact wr_id' (by omega) (by omega) | with_reducible exact wr_bI _ | exact rfl) (by omega) (by omega) ?_
          refine j_istore6 (q := 62) dX3_payClaims_60 rfl rfl (by decide) ?_
          refine j_aload0 (q := 63) dX3_payClaims_62 rfl ?_
          refine j_getR 8 (q := 66) dX3_payClaims_63 rfl fl_X3_52 (E.2.2 _ _ (hq 0 _ rfl)) rfl ?_
          refine j_getR 1 (q := 69) dX3_payClaims_66 rfl fl_X3_111 (E.2.2 _ _ (hq 17 _ rfl)) rfl ?_
          refine j_iload1 (q := 70) dX3_payClaims_69 rfl ?_
          refine j_dup2 (q := 71) dX3_payClaims_70 rfl rfl rfl ?_
          refine j_pload (q := 72) (d := 18) rfl (by decide) dX3_payClaims_71 rfl (E.2.2 _ _ (hq 18 _ rfl)) (by first | exact wr_id' (by omega) (by omega) | with_reducible exact wr_bI _ | exact rfl) (by omega) (by omega) ?_
          refine j_iload2 (q := 73) dX3_payClaims_72 rfl ?_
          refine j_isub (q := 74) dX3_payClaims_73 rfl ?_
          refine j_pstore (q := 75) (d := 18) rfl (by decide) dX3_payClaims_74 rfl (E.2.2 _ _ (hq 18 _ rfl)) (by first | exact wr_id' (by omega) (by omega) | with_reducible exact wr_bI _ | exact rfl) (by omega) (by omega) ?_
          refine j_aload0 (q := 76) dX3_payClaims_75 rfl ?_
          refine j_getR 8 (q := 79) dX3_payClaims_76 rfl fl_X3_52 (E.2.2 _ _ (hq 0 _ rfl)) rfl ?_
          refine j_getR 5 (q := 82) dX3_payClaims_79 rfl fl_X3_146 (E.2.2 _ _ (hq 17 _ rfl)) rfl ?_
          refine j_iload1 (q := 83) dX3_payClaims_82 rfl ?_
          refine j_dup2 (q := 84) dX3_payClaims_83 rfl rfl rfl ?_
          refine j_pload (q := 85) (d := 22) rfl (by decide) dX3_payClaims_84 rfl (E.2.2 _ _ (hq 22 _ rfl)) (by first | exact wr_id' (by omega) (by omega) | with_reducible exact wr_bI _ | exact rfl) (by omega) (by omega) ?_
          refine j_iconst (q := 86) dX3_payClaims_85 rfl ?_
          refine j_iadd (q := 87) dX3_payClaims_86 rfl ?_
          refine j_pstore (q := 88) (d := 22) rfl (by decide) dX3_payClaims_87 rfl (E.2.2 _ _ (hq 22 _ rfl)) (by first | exact wr_id' (by omega) (by omega) | with_reducible exact wr_bI _ | exact rfl) (by omega) (by omega) ?_
          refine j_aload0 (q := 89) dX3_payClaims_88 rfl ?_
          refine j_getR 7 (q := 92) dX3_payClaims_89 rfl fl_X3_45 (E.2.2 _ _ (hq 0 _ rfl)) rfl ?_
          refine j_getR 1 (q := 95) dX3_payClaims_92 rfl fl_X3_99 (E.2.2 _ _ (hq 13 _ rfl)) rfl ?_
          refine j_iload6 (q := 97) dX3_payClaims_95 rfl ?_
          refine j_dup2 (q := 98) dX3_payClaims_97 rfl rfl rfl ?_
          refine j_pload (q := 99) (d := 14) rfl (by decide) dX3_payClaims_98 rfl (E.2.2 _ _ (hq 14 _ rfl)) (by first | exact wr_id' (by omega) (by omega) | with_reducible exact wr_bI _ | exact rfl) (by omega) (by omega) ?_
          refine j_iload2 (q := 100) dX3_payClaims_99 rfl ?_
          refine j_iadd (q := 101) dX3_payClaims_100 rfl ?_
          refine j_pstore (q := 102) (d := 14) rfl (by decide) dX3_payClaims_101 rfl (E.2.2 _ _ (hq 14 _ rfl)) (by first | exact wr_id' (by omega) (by omega) | with_reducible exact wr_bI _ | exact rfl) (by omega) (by omega) ?_
          refine j_aload0 (q := 103) dX3_payClaims_102 rfl ?_
          refine j_getR 7 (q := 106) dX3_payClaims_103 rfl fl_X3_45 (E.2.2 _ _ (hq 0 _ rfl)) rfl ?_
          refine j_getR 3 (q := 109) dX3_payClaims_106 rfl fl_X3_149 (E.2.2 _ _ (hq 13 _ rfl)) rfl ?_
          refine j_iload6 (q := 111) dX3_payClaims_109 rfl ?_
          refine j_dup2 (q := 112) dX3_payClaims_111 rfl rfl rfl ?_
          refine j_pload (q := 113) (d := 16) rfl (by decide) dX3_payClaims_112 rfl (E.2.2 _ _ (hq 16 _ rfl)) (by first | exact wr_id' (by omega) (by omega) | with_reducible exact wr_bI _ | exact rfl) (by omega) (by omega) ?_
          refine j_iload2 (q := 114) dX3_payClaims_113 rfl ?_
          refine j_iadd (q := 115) dX3_payClaims_114 rfl ?_
          refine j_pstore (q := 116) (d := 16) rfl (by decide) dX3_payClaims_115 rfl (E.2.2 _ _ (hq 16 _ rfl)) (by first | exact wr_id' (by omega) (by omega) | with_reducible exact wr_bI _ | exact rfl) (by omega) (by omega) ?_
          refine j_mem (m' := ps m q (cPa P i s (P 23 j % 6))) rfl ?_
          refine j_goto (tgt := 130) dX3_payClaims_116 (by decide) ?_
          refine j_iinc4 (q := 133) dX3_payClaims_130 rfl rfl (by decide) ?_
          refine j_goto (tgt := 15) dX3_payClaims_133 (by decide) ?_
          refine j_fgt5 ?_
          refine j_fgt6 ?_
          exact ih _ _ _ (by first | (rw [cPa_o (by omega)]; omega) | (rw [up_ne (by omega)]; omega)) (by omega) (by omega) (by first | exact CV_pa g3 | exact CV_23 hb g3) (fun x hx => kk x (hx.trans (by first | (rw [cPcF, if_pos (by omega)]; done) | (rw [cPcF, if_neg (by omega)]; done))))
theorem ct_X3_payClaims {G : GX} {sh : List SH} (E : EV G sh) {m P : Mem} {q : Nat} (hq : PA q) {i : Int} (hi : 0 ≤ i ∧ i < 3) (hV : CV P) : CT G sh iX3_payClaims 0 0 [.inr (.ref q), .inl i] (ps m q P) none (ps m q (cPay P i)) := by
  refine j_met (L0 := [some (.inr (.ref q)), some (.inl i), none, none, none, none, none]) (by decide) E.1 E.2.1 rfl (Nat.le_of_ble_eq_true rfl) ?_
  have hV1 := hV.1
  have hV2 := hV.2.1
  have hV3 := hV.2.2.1.1
  have hV4 := hV.2.2.2.1
  refine j_aload0 (q := 1) dX3_payClaims_0 rfl ?_
  refine j_getR 8 (q := 4) dX3_payClaims_1 rfl fl_X3_52 (E.2.2 _ _ (hq 0 _ rfl)) rfl ?_
  refine j_getR 3 (q := 7) dX3_payClaims_4 rfl fl_X3_143 (E.2.2 _ _ (hq 17 _ rfl)) rfl ?_
  refine j_iload1 (q := 8) dX3_payClaims_7 rfl ?_
  refine j_pload (q := 9) (d := 20) rfl (by decide) dX3_payClaims_8 rfl (E.2.2 _ _ (hq 20 _ rfl)) (by first | exact wr_id' (by omega) (by omega) | with_reducible exact wr_bI _ | exact rfl) (by omega) (by omega) ?_
  refine j_istore2 (q := 10) dX3_payClaims_9 rfl rfl (by decide) ?_
  refine j_iconst (q := 11) dX3_payClaims_10 rfl ?_
  refine j_istore3 (q := 12) dX3_payClaims_11 rfl rfl (by decide) ?_
  refine j_iconst (q := 13) dX3_payClaims_12 rfl ?_
  refine j_istore4 (q := 15) dX3_payClaims_13 rfl rfl (by decide) ?_
  refine lp_X3_payClaims E hq hi (P 0 10).toNat 0 0 P (by omega) (by omega) (by omega) hV ?_
  intro x hx
  subst hx
  refine j_aload0 (q := 137) dX3_payClaims_136 rfl ?_
  refine j_iload3 (q := 138) dX3_payClaims_137 rfl ?_
  refine j_pputI (d := 0) rfl (by decide) 10 (j' := 10) (q := 141) dX3_payClaims_138 rfl fw_X3_59 (E.2.2 _ _ (hq 0 _ rfl)) rfl rfl ?_
  exact j_return dX3_payClaims_141 rfl (rfl)
theorem ct_X3_makePolicy {G : GX} {sh : List SH} (E : EV G sh) {m P : Mem} {q : Nat} (hq : PA q) {c : Int} {i : Int} {k : Int} {t : Int} {p : Int} (h1 : 0 ≤ c ∧ c < 64) (hi : 0 ≤ i ∧ i < 3) (ht : 0 ≤ t ∧ t < 6) (hV : CV P) : CT G sh iX3_makePolicy 0 0 [.inr (.ref q), .inl c, .inl i, .inl k, .inl t, .inl p] (ps m q P) none (ps m q (cPay (cMkP P c i k t p) i)) := by
  refine j_met (L0 := [some (.inr (.ref q)), some (.inl c), some (.inl i), some (.inl k), some (.inl t), some (.inl p)]) (by decide) E.1 E.2.1 rfl (Nat.le_of_ble_eq_true rfl) ?_
  refine j_aload0 (q := 1) dX3_makePolicy_0 rfl ?_
  refine j_getR 7 (q := 4) dX3_makePolicy_1 rfl fl_X3_45 (E.2.2 _ _ (hq 0 _ rfl)) rfl ?_
  refine j_getR 1 (q := 7) dX3_makePolicy_4 rfl fl_X3_99 (E.2.2 _ _ (hq 13 _ rfl)) rfl ?_
  refine j_iload4 (q := 9) dX3_makePolicy_7 rfl ?_
  refine j_dup2 (q := 10) dX3_makePolicy_9 rfl rfl rfl ?_
  refine j_pload (q := 11) (d := 14) rfl (by decide) dX3_makePolicy_10 rfl (E.2.2 _ _ (hq 14 _ rfl)) (by first | exact wr_id' (by omega) (by omega) | with_reducible exact wr_bI _ | exact rfl) (by omega) (by omega) ?_
  refine j_iload5 (q := 13) dX3_makePolicy_11 rfl ?_
  refine j_isub (q := 14) dX3_makePolicy_13 rfl ?_
  refine j_pstore (q := 15) (d := 14) rfl (by decide) dX3_makePolicy_14 rfl (E.2.2 _ _ (hq 14 _ rfl)) (by first | exact wr_id' (by omega) (by omega) | with_reducible exact wr_bI _ | exact rfl) (by omega) (by omega) ?_
  refine j_aload0 (q := 16) dX3_makePolicy_15 rfl ?_
  refine j_getR 8 (q := 19) dX3_makePolicy_16 rfl fl_X3_52 (E.2.2 _ _ (hq 0 _ rfl)) rfl ?_
  refine j_getR 1 (q := 22) dX3_makePolicy_19 rfl fl_X3_111 (E.2.2 _ _ (hq 17 _ rfl)) rfl ?_
  refine j_iload2 (q := 23) dX3_makePolicy_22 rfl ?_
  refine j_dup2 (q := 24) dX3_makePolicy_23 rfl rfl rfl ?_
  refine j_pload (q := 25) (d := 18) rfl (by decide) dX3_makePolicy_24 rfl (E.2.2 _ _ (hq 18 _ rfl)) (by first | exact wr_id' (by omega) (by omega) | with_reducible exact wr_bI _ | exact rfl) (by omega) (by omega) ?_
  refine j_iload5 (q := 27) dX3_makePolicy_25 rfl ?_
  refine j_iadd (q := 28) dX3_makePolicy_27 rfl ?_
  refine j_pstore (q := 29) (d := 18) rfl (by decide) dX3_makePolicy_28 rfl (E.2.2 _ _ (hq 18 _ rfl)) (by first | exact wr_id' (by omega) (by omega) | with_reducible exact wr_bI _ | exact rfl) (by omega) (by omega) ?_
  refine j_aload0 (q := 30) dX3_makePolicy_29 rfl ?_
  refine j_getR 8 (q := 33) dX3_makePolicy_30 rfl fl_X3_52 (E.2.2 _ _ (hq 0 _ rfl)) rfl ?_
  refine j_getR 4 (q := 36) dX3_makePolicy_33 rfl fl_X3_114 (E.2.2 _ _ (hq 17 _ rfl)) rfl ?_
  refine j_iload2 (q := 37) dX3_makePolicy_36 rfl ?_
  refine j_dup2 (q := 38) dX3_makePolicy_37 rfl rfl rfl ?_
  refine j_pload (q := 39) (d := 21) rfl (by decide) dX3_makePolicy_38 rfl (E.2.2 _ _ (hq 21 _ rfl)) (by first | exact wr_id' (by omega) (by omega) | with_reducible exact wr_bI _ | exact rfl) (by omega) (by omega) ?_
  refine j_iload5 (q := 41) dX3_makePolicy_39 rfl ?_
  refine j_iadd (q := 42) dX3_makePolicy_41 rfl ?_
  refine j_pstore (q := 43) (d := 21) rfl (by decide) dX3_makePolicy_42 rfl (E.2.2 _ _ (hq 21 _ rfl)) (by first | exact wr_id' (by omega) (by omega) | with_reducible exact wr_bI _ | exact rfl) (by omega) (by omega) ?_
  refine j_aload0 (q := 44) dX3_makePolicy_43 rfl ?_
  refine j_getR 5 (q := 47) dX3_makePolicy_44 rfl fl_X3_31 (E.2.2 _ _ (hq 0 _ rfl)) rfl ?_
  refine j_getR 4 (q := 50) dX3_makePolicy_47 rfl fl_X3_117 (E.2.2 _ _ (hq 3 _ rfl)) rfl ?_
  refine j_iload1 (q := 51) dX3_makePolicy_50 rfl ?_
  refine j_iload2 (q := 52) dX3_makePolicy_51 rfl ?_
  refine j_pstore (q := 53) (d := 7) rfl (by decide) dX3_makePolicy_52 rfl (E.2.2 _ _ (hq 7 _ rfl)) (by first | exact wr_id' (by omega) (by omega) | with_reducible exact wr_bI _ | exact rfl) (by omega) (by omega) ?_
  refine j_aload0 (q := 54) dX3_makePolicy_53 rfl ?_
  refine j_getR 5 (q := 57) dX3_makePolicy_54 rfl fl_X3_31 (E.2.2 _ _ (hq 0 _ rfl)) rfl ?_
  refine j_getR 5 (q := 60) dX3_makePolicy_57 rfl fl_X3_92 (E.2.2 _ _ (hq 3 _ rfl)) rfl ?_
  refine j_iload1 (q := 61) dX3_makePolicy_60 rfl ?_
  refine j_aload0 (q := 62) dX3_makePolicy_61 rfl ?_
  refine j_pgetI (d := 0) rfl (by decide) 0 (j' := 0) (q := 65) dX3_makePolicy_62 rfl fl_X3_9 (E.2.2 _ _ (hq 0 _ rfl)) rfl rfl ?_
  refine j_iload3 (q := 66) dX3_makePolicy_65 rfl ?_
  refine j_iadd (q := 67) dX3_makePolicy_66 rfl ?_
  refine j_pstore (q := 68) (d := 8) rfl (by decide) dX3_makePolicy_67 rfl (E.2.2 _ _ (hq 8 _ rfl)) (by first | exact wr_id' (by omega) (by omega) | with_reducible exact wr_bI _ | exact rfl) (by omega) (by omega) ?_
  refine j_mem (m' := ps m q (cMkP P c i k t p)) rfl ?_
  have hV2 : CV (cMkP P c i k t p) := by unfold cMkP; exact CV_up (by unfold NV; omega) (CV_7 (by omega) (CV_up (by unfold NV; omega) (CV_up (by unfold NV; omega) (CV_up (by unfold NV; omega) hV))))
  refine j_aload0 (q := 69) dX3_makePolicy_68 rfl ?_
  refine j_iload2 (q := 70) dX3_makePolicy_69 rfl ?_
  refine j_callV1v (Mc := iX3_payClaims) (q := 73) (c' := 0) (s' := 0) dX3_makePolicy_70 rfl kV_X3_payClaims jw_656 ⟨by decide, by decide⟩ (E.2.2 _ _ (hq 0 _ rfl)) rfl rfl rfl (Nat.le_refl _) (Nat.le_refl _) (ct_X3_payClaims E hq (by omega) (by assumption)) ?_
  exact j_return dX3_makePolicy_73 rfl (rfl)
theorem ct_X3_loseBit {G : GX} {sh : List SH} (E : EV G sh) {m P : Mem} {q : Nat} (hq : PA q) {c : Int} {w : Int} (h1 : 0 ≤ c ∧ c < 64) (hw : 0 ≤ w ∧ w < 19) (hV : CV P) : CT G sh iX3_loseBit 0 0 [.inr (.ref q), .inl c, .inl w] (ps m q P) none (ps m q (cLo P c w)) := by
  refine j_met (L0 := [some (.inr (.ref q)), some (.inl c), some (.inl w), none, none]) (by decide) E.1 E.2.1 rfl (Nat.le_of_ble_eq_true rfl) ?_
  refine j_aload0 (q := 1) dX3_loseBit_0 rfl ?_
  refine j_getR 5 (q := 4) dX3_loseBit_1 rfl fl_X3_31 (E.2.2 _ _ (hq 0 _ rfl)) rfl ?_
  refine j_iload1 (q := 5) dX3_loseBit_4 rfl ?_
  refine j_iconst (q := 6) dX3_loseBit_5 rfl ?_
  refine j_callV2v (Mc := iX0_putBit) (q := 9) (c' := 0) (s' := 0) dX3_loseBit_6 rfl kV_X0_putBit jw_641 ⟨by decide, by decide⟩ (E.2.2 _ _ (hq 3 _ rfl)) rfl rfl rfl (Nat.le_refl _) (Nat.le_refl _) (ct_X0_putBit (b := false) E hq) ?_
  refine j_aload0 (q := 10) dX3_loseBit_9 rfl ?_
  refine j_getR 5 (q := 13) dX3_loseBit_10 rfl fl_X3_31 (E.2.2 _ _ (hq 0 _ rfl)) rfl ?_
  refine j_getR 6 (q := 16) dX3_loseBit_13 rfl fl_X3_128 (E.2.2 _ _ (hq 3 _ rfl)) rfl ?_
  refine j_iload1 (q := 17) dX3_loseBit_16 rfl ?_
  refine j_dup2 (q := 18) dX3_loseBit_17 rfl rfl rfl ?_
  refine j_pload (q := 19) (d := 9) rfl (by decide) dX3_loseBit_18 rfl (E.2.2 _ _ (hq 9 _ rfl)) (by first | exact wr_id' (by omega) (by omega) | with_reducible exact wr_bI _ | exact rfl) (by omega) (by omega) ?_
  refine j_iconst (q := 20) dX3_loseBit_19 rfl ?_
  refine j_iadd (q := 21) dX3_loseBit_20 rfl ?_
  refine j_pstore (q := 22) (d := 9) rfl (by decide) dX3_loseBit_21 rfl (E.2.2 _ _ (hq 9 _ rfl)) (by first | exact wr_id' (by omega) (by omega) | with_reducible exact wr_bI _ | exact rfl) (by omega) (by omega) ?_
  refine j_aload0 (q := 23) dX3_loseBit_22 rfl ?_
  refine j_getR 4 (q := 26) dX3_loseBit_23 rfl fl_X3_25 (E.2.2 _ _ (hq 0 _ rfl)) rfl ?_
  refine j_iload2 (q := 27) dX3_loseBit_26 rfl ?_
  refine j_dup2 (q := 28) dX3_loseBit_27 rfl rfl rfl ?_
  refine j_pload (q := 29) (d := 2) rfl (by decide) dX3_loseBit_28 rfl (E.2.2 _ _ (hq 2 _ rfl)) (by first | exact wr_id' (by omega) (by omega) | with_reducible exact wr_bI _ | exact rfl) (by omega) (by omega) ?_
  refine j_iconst (q := 30) dX3_loseBit_29 rfl ?_
  refine j_iadd (q := 31) dX3_loseBit_30 rfl ?_
  refine j_pstore (q := 32) (d := 2) rfl (by decide) dX3_loseBit_31 rfl (E.2.2 _ _ (hq 2 _ rfl)) (by first | exact wr_id' (by omega) (by omega) | with_reducible exact wr_bI _ | exact rfl) (by omega) (by omega) ?_
  refine j_mem (m' := ps m q (cLoA P c w)) rfl ?_
  have hA := CV_loA (c := c) (w := w) hV
  have bA := hA.2.2.2.2 c h1.1 h1.2
  have tA := hA.1
  refine j_aload0 (q := 33) dX3_loseBit_32 rfl ?_
  refine j_getR 5 (q := 36) dX3_loseBit_33 rfl fl_X3_31 (E.2.2 _ _ (hq 0 _ rfl)) rfl ?_
  refine j_getR 2 (q := 39) dX3_loseBit_36 rfl fl_X3_102 (E.2.2 _ _ (hq 3 _ rfl)) rfl ?_
  refine j_iload1 (q := 40) dX3_loseBit_39 rfl ?_
  refine j_pload (q := 41) (d := 5) rfl (by decide) dX3_loseBit_40 rfl (E.2.2 _ _ (hq 5 _ rfl)) (by first | exact wr_id' (by omega) (by omega) | with_reducible exact wr_bI _ | exact rfl) (by omega) (by omega) ?_
  refine j_istore3 (q := 42) dX3_loseBit_41 rfl rfl (by decide) ?_
  refine j_aload0 (q := 43) dX3_loseBit_42 rfl ?_
  refine j_getR 7 (q := 46) dX3_loseBit_43 rfl fl_X3_45 (E.2.2 _ _ (hq 0 _ rfl)) rfl ?_
  refine j_iload3 (q := 47) dX3_loseBit_46 rfl ?_
  refine j_callV1 (Mc := iX5_has) (q := 50) (c' := 0) (s' := 0) dX3_loseBit_47 rfl kV_X5_has jw_646 ⟨by decide, by decide⟩ (E.2.2 _ _ (hq 13 _ rfl)) rfl rfl rfl (Nat.le_refl _) (Nat.le_refl _) (ct_X5_has E hq (by omega) (by omega)) ?_
  refine j_ifne_b (tgt := 54) (q := 53) dX3_loseBit_50 (by decide) rfl (fun h50 => ?_) (fun h50 => ?_)
  · have ht := of_decide_eq_true (show wi (cLoA P c w 5 c) 0 (cLoA P c w 13 0 - 1) = true by assumption)
    refine j_aload0 (q := 55) dX3_loseBit_54 rfl ?_
    refine j_getR 7 (q := 58) dX3_loseBit_55 rfl fl_X3_45 (E.2.2 _ _ (hq 0 _ rfl)) rfl ?_
    refine j_getR 2 (q := 61) dX3_loseBit_58 rfl fl_X3_134 (E.2.2 _ _ (hq 13 _ rfl)) rfl ?_
    refine j_iload3 (q := 62) dX3_loseBit_61 rfl ?_
    refine j_dup2 (q := 63) dX3_loseBit_62 rfl rfl rfl ?_
    refine j_pload (q := 64) (d := 15) rfl (by decide) dX3_loseBit_63 rfl (E.2.2 _ _ (hq 15 _ rfl)) (by first | exact wr_id' (by omega) (by omega) | with_reducible exact wr_bI _ | exact rfl) (by omega) (by omega) ?_
    refine j_iconst (q := 65) dX3_loseBit_64 rfl ?_
    refine j_iadd (q := 66) dX3_loseBit_65 rfl ?_
    refine j_pstore (q := 67) (d := 15) rfl (by decide) dX3_loseBit_66 rfl (E.2.2 _ _ (hq 15 _ rfl)) (by first | exact wr_id' (by omega) (by omega) | with_reducible exact wr_bI _ | exact rfl) (by omega) (by omega) ?_
    refine j_mem (m' := ps m q (cLoB (cLoA P c w) (cLoA P c w 5 c))) rfl ?_
    have hB : CV (cLoB (cLoA P c w) (cLoA P c w 5 c)) := CV_up (by unfold NV; omega) hA
    have bB := hB.2.2.2.2 c h1.1 h1.2
    have iB := hB.2.1
    refine j_aload0 (q := 68) dX3_loseBit_67 rfl ?_
    refine j_getR 5 (q := 71) dX3_loseBit_68 rfl fl_X3_31 (E.2.2 _ _ (hq 0 _ rfl)) rfl ?_
    refine j_getR 4 (q := 74) dX3_loseBit_71 rfl fl_X3_117 (E.2.2 _ _ (hq 3 _ rfl)) rfl ?_
    refine j_iload1 (q := 75) dX3_loseBit_74 rfl ?_
    refine j_pload (q := 76) (d := 7) rfl (by decide) dX3_loseBit_75 rfl (E.2.2 _ _ (hq 7 _ rfl)) (by first | exact wr_id' (by omega) (by omega) | with_reducible exact wr_bI _ | exact rfl) (by omega) (by omega) ?_
    refine j_istore4 (q := 78) dX3_loseBit_76 rfl rfl (by decide) ?_
    refine j_aload0 (q := 79) dX3_loseBit_78 rfl ?_
    refine j_getR 8 (q := 82) dX3_loseBit_79 rfl fl_X3_52 (E.2.2 _ _ (hq 0 _ rfl)) rfl ?_
    refine j_iload4 (q := 84) dX3_loseBit_82 rfl ?_
    refine j_callV1 (Mc := iX2_has) (q := 87) (c' := 0) (s' := 0) dX3_loseBit_84 rfl kV_X2_has jw_647 ⟨by decide, by decide⟩ (E.2.2 _ _ (hq 17 _ rfl)) rfl rfl rfl (Nat.le_refl _) (Nat.le_refl _) (ct_X2_has E hq (by omega) (by omega)) ?_
    refine j_ifeq_b (tgt := 111) (q := 90) dX3_loseBit_87 (by decide) rfl (fun h87 => ?_) (fun h87 => ?_)
    · exact j_return dX3_loseBit_111 rfl (by first | (rw [cLo, if_pos (by assumption), if_pos (by assumption)]; done) | (rw [cLo, if_pos (by assumption), if_neg (nb (by assumption))]; done))
    · have hi := of_decide_eq_true (show wi (cLoB (cLoA P c w) (cLoA P c w 5 c) 7 c) 0 (cLoB (cLoA P c w) (cLoA P c w 5 c) 17 0 - 1) = true by assumption)
      refine j_aload0 (q := 91) dX3_loseBit_90 rfl ?_
      refine j_getR 5 (q := 94) dX3_loseBit_91 rfl fl_X3_31 (E.2.2 _ _ (hq 0 _ rfl)) rfl ?_
      refine j_iload1 (q := 95) dX3_loseBit_94 rfl ?_
      refine j_callV1v (Mc := iX0_endPolicy) (q := 98) (c' := 0) (s' := 0) dX3_loseBit_95 rfl kV_X0_endPolicy jw_648 ⟨by decide, by decide⟩ (E.2.2 _ _ (hq 3 _ rfl)) rfl rfl rfl (Nat.le_refl _) (Nat.le_refl _) (ct_X0_endPolicy E hq (by omega)) ?_
      have hC : CV (cEp (cLoB (cLoA P c w) (cLoA P c w 5 c)) c) := CV_7 (by omega) hB
      have wC := hC.2.2.1.1
      refine j_aload0 (q := 99) dX3_loseBit_98 rfl ?_
      refine j_iload4 (q := 101) dX3_loseBit_99 rfl ?_
      refine j_iload3 (q := 102) dX3_loseBit_101 rfl ?_
      refine j_callV2v (Mc := iX3_enterClaim) (q := 105) (c' := 0) (s' := 0) dX3_loseBit_102 rfl kV_X3_enterClaim jw_652 ⟨by decide, by decide⟩ (E.2.2 _ _ (hq 0 _ rfl)) rfl rfl rfl (Nat.le_refl _) (Nat.le_refl _) (ct_X3_enterClaim E hq (by omega)) ?_
      have hD : CV (cEnC (cEp (cLoB (cLoA P c w) (cLoA P c w 5 c)) c) (cLoB (cLoA P c w) (cLoA P c w 5 c) 7 c) (cLoA P c w 5 c)) := CV_enC ⟨by omega, by omega⟩ ⟨by omega, by omega⟩ hC
      refine j_aload0 (q := 106) dX3_loseBit_105 rfl ?_
      refine j_iload4 (q := 108) dX3_loseBit_106 rfl ?_
      refine j_callV1v (Mc := iX3_payClaims) (q := 111) (c' := 0) (s' := 0) dX3_loseBit_108 rfl kV_X3_payClaims jw_656 ⟨by decide, by decide⟩ (E.2.2 _ _ (hq 0 _ rfl)) rfl rfl rfl (Nat.le_refl _) (Nat.le_refl _) (ct_X3_payClaims E hq (by omega) (by assumption)) ?_
      exact j_return dX3_loseBit_111 rfl (by first | (rw [cLo, if_pos (by assumption), if_pos (by assumption)]; done) | (rw [cLo, if_pos (by assumption), if_neg (nb (by assumption))]; done))
  · exact j_return dX3_loseBit_53 rfl (by rw [cLo, if_neg (nb (by assumption))])
theorem lp_X3_waitingOf {G : GX} {sh : List SH} (E : EV G sh) {m P : Mem} {q : Nat} (hq : PA q) {t : Int} (hV : CV P) : ∀ (d : Nat) (j : Int) (n : Int), j + d = P 0 10 → 0 ≤ j → J G sh iX3_waitingOf 0 0 (FN G sh 0 0 (some (.inl (cntF (fun j => decide (P 23 j % 6 = wr t)) d j n))) (ps m q P)) 4 [some (.inr (.ref q)), some (.inl t), some (.inl n), some (.inl j)] [] (ps m q P) 0 0 := by
  intro d
  induction d with
  | zero =>
    intro j n g0 g1
    have hw := hV.2.2.1.1
    refine j_iload3 (q := 5) dX3_waitingOf_4 rfl ?_
    refine j_aload0 (q := 6) dX3_waitingOf_5 rfl ?_
    refine j_pgetI (d := 0) rfl (by decide) 10 (j' := 10) (q := 9) dX3_waitingOf_6 rfl fl_X3_59 (E.2.2 _ _ (hq 0 _ rfl)) rfl rfl ?_
    refine j_icmp_ge (tgt := 34) (q := 12) dX3_waitingOf_9 (by decide) rfl (by first | exact wr_id' (by omega) (by omega) | with_reducible exact wr_bI _ | exact rfl) (by first | exact wr_id' (by omega) (by omega) | with_reducible exact wr_bI _ | exact rfl) (fun h9 => ?_) (fun h9 => ?_)
    · refine j_iload2 (q := 35) dX3_waitingOf_34 rfl ?_
      exact j_ireturn dX3_waitingOf_35 rfl (rfl) (rfl)
    · omega
  | succ d ih =>
    intro j n g0 g1
    have hw := hV.2.2.1.1
    refine j_iload3 (q := 5) dX3_waitingOf_4 rfl ?_
    refine j_aload0 (q := 6) dX3_waitingOf_5 rfl ?_
    refine j_pgetI (d := 0) rfl (by decide) 10 (j' := 10) (q := 9) dX3_waitingOf_6 rfl fl_X3_59 (E.2.2 _ _ (hq 0 _ rfl)) rfl rfl ?_
    refine j_icmp_ge (tgt := 34) (q := 12) dX3_waitingOf_9 (by decide) rfl (by first | exact wr_id' (by omega) (by omega) | with_reducible exact wr_bI _ | exact rfl) (by first | exact wr_id' (by omega) (by omega) | with_reducible exact wr_bI _ | exact rfl) (fun h9 => ?_) (fun h9 => ?_)
    · omega
    · have hb := hV.2.2.1.2 j (by omega) (by omega)
      refine j_aload0 (q := 13) dX3_waitingOf_12 rfl ?_
      refine j_getR 9 (q := 16) dX3_waitingOf_13 rfl fl_X3_56 (E.2.2 _ _ (hq 0 _ rfl)) rfl ?_
      refine j_iload3 (q := 17) dX3_waitingOf_16 rfl ?_
      refine j_pload (q := 18) (d := 23) rfl (by decide) dX3_waitingOf_17 rfl (E.2.2 _ _ (hq 23 _ rfl)) (by first | exact wr_id' (by omega) (by omega) | with_reducible exact wr_bI _ | exact rfl) (by omega) (by omega) ?_
      refine j_bipush (q := 20) dX3_waitingOf_18 rfl rfl ?_
      refine j_iremP (q := 21) dX3_waitingOf_20 rfl (by first | exact wr_id' (by omega) (by omega) | with_reducible exact wr_bI _ | exact rfl) (by first | exact wr_id' (by omega) (by omega) | with_reducible exact wr_bI _ | exact rfl) (by omega) (by omega) ?_
      refine j_iload1 (q := 22) dX3_waitingOf_21 rfl ?_
      refine j_icmp_ne (tgt := 28) (q := 25) dX3_waitingOf_22 (by decide) rfl (by first | exact wr_id' (by omega) (by omega) | with_reducible exact wr_bI _ | exact rfl) rfl (fun h22 => ?_) (fun h22 => ?_)
      · refine j_iinc3 (q := 31) dX3_waitingOf_28 rfl rfl (by decide) ?_
        refine j_goto (tgt := 4) dX3_waitingOf_31 (by decide) ?_
        exact j_fin (by first | exact congrArg (fun x => some (Sum.inl x)) (cnt_t (decide_eq_true (by assumption))) | exact congrArg (fun x => some (Sum.inl x)) (cnt_g (decide_eq_false (by assumption)))) (rfl) (ih _ _ (by omega) (by omega))
      · refine j_iinc2 (q := 28) dX3_waitingOf_25 rfl rfl (by decide) ?_
        refine j_iinc3 (q := 31) dX3_waitingOf_28 rfl rfl (by decide) ?_
        refine j_goto (tgt := 4) dX3_waitingOf_31 (by decide) ?_
        exact j_fin (by first | exact congrArg (fun x => some (Sum.inl x)) (cnt_t (decide_eq_true (by assumption))) | exact congrArg (fun x => some (Sum.inl x)) (cnt_g (decide_eq_false (by assumption)))) (rfl) (ih _ _ (by omega) (by omega))
theorem ct_X3_waitingOf {G : GX} {sh : List SH} (E : EV G sh) {m P : Mem} {q : Nat} (hq : PA q) {t : Int} (hV : CV P) : CT G sh iX3_waitingOf 0 0 [.inr (.ref q), .inl t] (ps m q P) (some (.inl (cWqT P t))) (ps m q P) := by
  refine j_met (L0 := [some (.inr (.ref q)), some (.inl t), none, none]) (by decide) E.1 E.2.1 rfl (Nat.le_of_ble_eq_true rfl) ?_
  have hV1 := hV.1
  have hV2 := hV.2.1
  have hV3 := hV.2.2.1.1
  have hV4 := hV.2.2.2.1
  refine j_iconst (q := 1) dX3_waitingOf_0 rfl ?_
  refine j_istore2 (q := 2) dX3_waitingOf_1 rfl rfl (by decide) ?_
  refine j_iconst (q := 3) dX3_waitingOf_2 rfl ?_
  refine j_istore3 (q := 4) dX3_waitingOf_3 rfl rfl (by decide) ?_
  exact lp_X3_waitingOf E hq hV (P 0 10).toNat 0 0 (by omega) (by omega)
theorem lp_X3_waitingOn {G : GX} {sh : List SH} (E : EV G sh) {m P : Mem} {q : Nat} (hq : PA q) {t : Int} (hV : CV P) : ∀ (d : Nat) (j : Int) (n : Int), j + d = P 0 10 → 0 ≤ j → J G sh iX3_waitingOn 0 0 (FN G sh 0 0 (some (.inl (cntF (fun j => decide (P 23 j / 6 = wr t)) d j n))) (ps m q P)) 4 [some (.inr (.ref q)), some (.inl t), some (.inl n), some (.inl j)] [] (ps m q P) 0 0 := by
  intro d
  induction d with
  | zero =>
    intro j n g0 g1
    have hw := hV.2.2.1.1
    refine j_iload3 (q := 5) dX3_waitingOn_4 rfl ?_
    refine j_aload0 (q := 6) dX3_waitingOn_5 rfl ?_
    refine j_pgetI (d := 0) rfl (by decide) 10 (j' := 10) (q := 9) dX3_waitingOn_6 rfl fl_X3_59 (E.2.2 _ _ (hq 0 _ rfl)) rfl rfl ?_
    refine j_icmp_ge (tgt := 34) (q := 12) dX3_waitingOn_9 (by decide) rfl (by first | exact wr_id' (by omega) (by omega) | with_reducible exact wr_bI _ | exact rfl) (by first | exact wr_id' (by omega) (by omega) | with_reducible exact wr_bI _ | exact rfl) (fun h9 => ?_) (fun h9 => ?_)
    · refine j_iload2 (q := 35) dX3_waitingOn_34 rfl ?_
      exact j_ireturn dX3_waitingOn_35 rfl (rfl) (rfl)
    · omega
  | succ d ih =>
    intro j n g0 g1
    have hw := hV.2.2.1.1
    refine j_iload3 (q := 5) dX3_waitingOn_4 rfl ?_
    refine j_aload0 (q := 6) dX3_waitingOn_5 rfl ?_
    refine j_pgetI (d := 0) rfl (by decide) 10 (j' := 10) (q := 9) dX3_waitingOn_6 rfl fl_X3_59 (E.2.2 _ _ (hq 0 _ rfl)) rfl rfl ?_
    refine j_icmp_ge (tgt := 34) (q := 12) dX3_waitingOn_9 (by decide) rfl (by first | exact wr_id' (by omega) (by omega) | with_reducible exact wr_bI _ | exact rfl) (by first | exact wr_id' (by omega) (by omega) | with_reducible exact wr_bI _ | exact rfl) (fun h9 => ?_) (fun h9 => ?_)
    · omega
    · have hb := hV.2.2.1.2 j (by omega) (by omega)
      refine j_aload0 (q := 13) dX3_waitingOn_12 rfl ?_
      refine j_getR 9 (q := 16) dX3_waitingOn_13 rfl fl_X3_56 (E.2.2 _ _ (hq 0 _ rfl)) rfl ?_
      refine j_iload3 (q := 17) dX3_waitingOn_16 rfl ?_
      refine j_pload (q := 18) (d := 23) rfl (by decide) dX3_waitingOn_17 rfl (E.2.2 _ _ (hq 23 _ rfl)) (by first | exact wr_id' (by omega) (by omega) | with_reducible exact wr_bI _ | exact rfl) (by omega) (by omega) ?_
      refine j_bipush (q := 20) dX3_waitingOn_18 rfl rfl ?_
      refine j_idivP (q := 21) dX3_waitingOn_20 rfl (by first | exact wr_id' (by omega) (by omega) | with_reducible exact wr_bI _ | exact rfl) (by first | exact wr_id' (by omega) (by omega) | with_reducible exact wr_bI _ | exact rfl) (by omega) (by omega) ?_
      refine j_iload1 (q := 22) dX3_waitingOn_21 rfl ?_
      refine j_icmp_ne (tgt := 28) (q := 25) dX3_waitingOn_22 (by decide) rfl (by first | exact wr_id' (by omega) (by omega) | with_reducible exact wr_bI _ | exact rfl) rfl (fun h22 => ?_) (fun h22 => ?_)
      · refine j_iinc3 (q := 31) dX3_waitingOn_28 rfl rfl (by decide) ?_
        refine j_goto (tgt := 4) dX3_waitingOn_31 (by decide) ?_
        exact j_fin (by first | exact congrArg (fun x => some (Sum.inl x)) (cnt_t (decide_eq_true (by assumption))) | exact congrArg (fun x => some (Sum.inl x)) (cnt_g (decide_eq_false (by assumption)))) (rfl) (ih _ _ (by omega) (by omega))
      · refine j_iinc2 (q := 28) dX3_waitingOn_25 rfl rfl (by decide) ?_
        refine j_iinc3 (q := 31) dX3_waitingOn_28 rfl rfl (by decide) ?_
        refine j_goto (tgt := 4) dX3_waitingOn_31 (by decide) ?_
        exact j_fin (by first | exact congrArg (fun x => some (Sum.inl x)) (cnt_t (decide_eq_true (by assumption))) | exact congrArg (fun x => some (Sum.inl x)) (cnt_g (decide_eq_false (by assumption)))) (rfl) (ih _ _ (by omega) (by omega))
theorem ct_X3_waitingOn {G : GX} {sh : List SH} (E : EV G sh) {m P : Mem} {q : Nat} (hq : PA q) {t : Int} (hV : CV P) : CT G sh iX3_waitingOn 0 0 [.inr (.ref q), .inl t] (ps m q P) (some (.inl (cWqI P t))) (ps m q P) := by
  refine j_met (L0 := [some (.inr (.ref q)), some (.inl t), none, none]) (by decide) E.1 E.2.1 rfl (Nat.le_of_ble_eq_true rfl) ?_
  have hV1 := hV.1
  have hV2 := hV.2.1
  have hV3 := hV.2.2.1.1
  have hV4 := hV.2.2.2.1
  refine j_iconst (q := 1) dX3_waitingOn_0 rfl ?_
  refine j_istore2 (q := 2) dX3_waitingOn_1 rfl rfl (by decide) ?_
  refine j_iconst (q := 3) dX3_waitingOn_2 rfl ?_
  refine j_istore3 (q := 4) dX3_waitingOn_3 rfl rfl (by decide) ?_
  exact lp_X3_waitingOn E hq hV (P 0 10).toNat 0 0 (by omega) (by omega)
theorem ct_X3_canBeRead {G : GX} {sh : List SH} (E : EV G sh) {m P : Mem} {q : Nat} (hq : PA q) {c : Int} (h1 : 0 ≤ c ∧ c < 64) : CT G sh iX3_canBeRead 0 0 [.inr (.ref q), .inl c] (ps m q P) (some (.inl (bI (cCR P c)))) (ps m q P) := by
  refine j_met (L0 := [some (.inr (.ref q)), some (.inl c)]) (by decide) E.1 E.2.1 rfl (Nat.le_of_ble_eq_true rfl) ?_
  refine j_aload0 (q := 1) dX3_canBeRead_0 rfl ?_
  refine j_getR 5 (q := 4) dX3_canBeRead_1 rfl fl_X3_31 (E.2.2 _ _ (hq 0 _ rfl)) rfl ?_
  refine j_iload1 (q := 5) dX3_canBeRead_4 rfl ?_
  refine j_callV1 (Mc := iX0_isLeased) (q := 8) (c' := 0) (s' := 0) dX3_canBeRead_5 rfl kV_X0_isLeased jw_464 ⟨by decide, by decide⟩ (E.2.2 _ _ (hq 3 _ rfl)) rfl rfl rfl (Nat.le_refl _) (Nat.le_refl _) (ct_X0_isLeased E hq (by omega)) ?_
  refine j_ifeq_b (tgt := 26) (q := 11) dX3_canBeRead_8 (by decide) rfl (fun h8 => ?_) (fun h8 => ?_)
  · refine j_iconst (q := 27) dX3_canBeRead_26 rfl ?_
    exact j_zreturn dX3_canBeRead_27 rfl (by decide) (by simp [bI, cCR, *]) (rfl)
  · refine j_aload0 (q := 12) dX3_canBeRead_11 rfl ?_
    refine j_getR 6 (q := 15) dX3_canBeRead_12 rfl fl_X3_38 (E.2.2 _ _ (hq 0 _ rfl)) rfl ?_
    refine j_iload1 (q := 16) dX3_canBeRead_15 rfl ?_
    refine j_callV1 (Mc := iX1_isOwed) (q := 19) (c' := 0) (s' := 0) dX3_canBeRead_16 rfl kV_X1_isOwed jw_524 ⟨by decide, by decide⟩ (E.2.2 _ _ (hq 10 _ rfl)) rfl rfl rfl (Nat.le_refl _) (Nat.le_refl _) (ct_X1_isOwed E hq (by omega)) ?_
    refine j_ifne_b (tgt := 26) (q := 22) dX3_canBeRead_19 (by decide) rfl (fun h19 => ?_) (fun h19 => ?_)
    · refine j_iconst (q := 27) dX3_canBeRead_26 rfl ?_
      exact j_zreturn dX3_canBeRead_27 rfl (by decide) (by simp [bI, cCR, *]) (rfl)
    · refine j_iconst (q := 23) dX3_canBeRead_22 rfl ?_
      refine j_goto (tgt := 27) dX3_canBeRead_23 (by decide) ?_
      exact j_zreturn dX3_canBeRead_27 rfl (by decide) (by simp [bI, cCR, *]) (rfl)
theorem ct_X3_fragile {G : GX} {sh : List SH} (E : EV G sh) {m P : Mem} {q : Nat} (hq : PA q) : CT G sh iX3_fragile 0 0 [.inr (.ref q)] (ps m q P) (some (.inr (.long (cFr P)))) (ps m q P) := by
  refine j_met (L0 := [some (.inr (.ref q))]) (by decide) E.1 E.2.1 rfl (Nat.le_of_ble_eq_true rfl) ?_
  refine j_aload0 (q := 1) dX3_fragile_0 rfl ?_
  refine j_getR 5 (q := 4) dX3_fragile_1 rfl fl_X3_31 (E.2.2 _ _ (hq 0 _ rfl)) rfl ?_
  refine j_aload0 (q := 5) dX3_fragile_4 rfl ?_
  refine j_getR 3 (q := 8) dX3_fragile_5 rfl fl_X3_21 (E.2.2 _ _ (hq 0 _ rfl)) rfl ?_
  refine j_iconst (q := 9) dX3_fragile_8 rfl ?_
  refine j_pload (q := 10) (d := 1) rfl (by decide) dX3_fragile_9 rfl (E.2.2 _ _ (hq 1 _ rfl)) (by first | exact wr_id' (by omega) (by omega) | with_reducible exact wr_bI _ | exact rfl) (by omega) (by omega) ?_
  refine j_callV1 (Mc := iX0_onesBelow) (q := 13) (c' := 0) (s' := 0) dX3_fragile_10 rfl kV_X0_onesBelow jw_485 ⟨by decide, by decide⟩ (E.2.2 _ _ (hq 3 _ rfl)) rfl rfl rfl (Nat.le_refl _) (Nat.le_refl _) (ct_X0_onesBelow E hq) ?_
  exact j_lreturn dX3_fragile_13 rfl (rfl) (rfl)
theorem ct_X3_strengthBehindPulse {G : GX} {sh : List SH} (E : EV G sh) {m P : Mem} {q : Nat} (hq : PA q) {c : Int} (h1 : 0 ≤ c ∧ c < 64) : CT G sh iX3_strengthBehindPulse 0 0 [.inr (.ref q), .inl c] (ps m q P) (some (.inl (cSbp P c))) (ps m q P) := by
  refine j_met (L0 := [some (.inr (.ref q)), some (.inl c)]) (by decide) E.1 E.2.1 rfl (Nat.le_of_ble_eq_true rfl) ?_
  refine j_iconst (q := 1) dX3_strengthBehindPulse_0 rfl ?_
  refine j_aload0 (q := 2) dX3_strengthBehindPulse_1 rfl ?_
  refine j_getR 5 (q := 5) dX3_strengthBehindPulse_2 rfl fl_X3_31 (E.2.2 _ _ (hq 0 _ rfl)) rfl ?_
  refine j_getR 1 (q := 8) dX3_strengthBehindPulse_5 rfl fl_X3_105 (E.2.2 _ _ (hq 3 _ rfl)) rfl ?_
  refine j_iload1 (q := 9) dX3_strengthBehindPulse_8 rfl ?_
  refine j_pload (q := 10) (d := 4) rfl (by decide) dX3_strengthBehindPulse_9 rfl (E.2.2 _ _ (hq 4 _ rfl)) (by first | exact wr_id' (by omega) (by omega) | with_reducible exact wr_bI _ | exact rfl) (by omega) (by omega) ?_
  refine j_iconst (q := 11) dX3_strengthBehindPulse_10 rfl ?_
  refine j_isub (q := 12) dX3_strengthBehindPulse_11 rfl ?_
  refine j_aload0 (q := 13) dX3_strengthBehindPulse_12 rfl ?_
  refine j_pgetI (d := 0) rfl (by decide) 1 (j' := 1) (q := 16) dX3_strengthBehindPulse_13 rfl fl_X3_15 (E.2.2 _ _ (hq 0 _ rfl)) rfl rfl ?_
  refine j_bipush (q := 18) dX3_strengthBehindPulse_16 rfl rfl ?_
  refine j_idiv (q := 19) dX3_strengthBehindPulse_18 rfl (by first | exact wr_id' (by omega) (by omega) | with_reducible exact wr_bI _ | exact rfl) (by first | exact wr_id' (by omega) (by omega) | with_reducible exact wr_bI _ | exact rfl) (by omega) (by omega) ?_
  refine j_isub (q := 20) dX3_strengthBehindPulse_19 rfl ?_
  refine j_max (q := 23) dX3_strengthBehindPulse_20 rfl jw_505 ⟨by decide, Nat.le_of_ble_eq_true rfl⟩ (Nat.le_refl _) (Nat.le_refl _) ?_
  exact j_ireturn dX3_strengthBehindPulse_23 rfl (rfl) (rfl)
theorem ct_X3_heatBehind {G : GX} {sh : List SH} (E : EV G sh) {m P : Mem} {q : Nat} (hq : PA q) {h : Int} : CT G sh iX3_heatBehind 0 0 [.inr (.ref q), .inl h] (ps m q P) (some (.inl (cHb P h))) (ps m q P) := by
  refine j_met (L0 := [some (.inr (.ref q)), some (.inl h)]) (by decide) E.1 E.2.1 rfl (Nat.le_of_ble_eq_true rfl) ?_
  refine j_bipush (q := 2) dX3_heatBehind_0 rfl rfl ?_
  refine j_aload0 (q := 3) dX3_heatBehind_2 rfl ?_
  refine j_pgetI (d := 0) rfl (by decide) 1 (j' := 1) (q := 6) dX3_heatBehind_3 rfl fl_X3_15 (E.2.2 _ _ (hq 0 _ rfl)) rfl rfl ?_
  refine j_iload1 (q := 7) dX3_heatBehind_6 rfl ?_
  refine j_iadd (q := 8) dX3_heatBehind_7 rfl ?_
  refine j_min (q := 11) dX3_heatBehind_8 rfl jw_500 ⟨by decide, Nat.le_of_ble_eq_true rfl⟩ (Nat.le_refl _) (Nat.le_refl _) ?_
  exact j_ireturn dX3_heatBehind_11 rfl (rfl) (rfl)
theorem ct_X3_holdsOne {G : GX} {sh : List SH} (E : EV G sh) {m P : Mem} {q : Nat} (hq : PA q) {c : Int} (h1 : 0 ≤ c ∧ c < 64) : CT G sh iX3_holdsOne 0 0 [.inr (.ref q), .inl c] (ps m q P) (some (.inl (bI (cHo P c)))) (ps m q P) := by
  refine j_met (L0 := [some (.inr (.ref q)), some (.inl c)]) (by decide) E.1 E.2.1 rfl (Nat.le_of_ble_eq_true rfl) ?_
  refine j_aload0 (q := 1) dX3_holdsOne_0 rfl ?_
  refine j_getR 5 (q := 4) dX3_holdsOne_1 rfl fl_X3_31 (E.2.2 _ _ (hq 0 _ rfl)) rfl ?_
  refine j_getR 1 (q := 7) dX3_holdsOne_4 rfl fl_X3_105 (E.2.2 _ _ (hq 3 _ rfl)) rfl ?_
  refine j_iload1 (q := 8) dX3_holdsOne_7 rfl ?_
  refine j_pload (q := 9) (d := 4) rfl (by decide) dX3_holdsOne_8 rfl (E.2.2 _ _ (hq 4 _ rfl)) (by first | exact wr_id' (by omega) (by omega) | with_reducible exact wr_bI _ | exact rfl) (by omega) (by omega) ?_
  refine j_aload0 (q := 10) dX3_holdsOne_9 rfl ?_
  refine j_getR 3 (q := 13) dX3_holdsOne_10 rfl fl_X3_21 (E.2.2 _ _ (hq 0 _ rfl)) rfl ?_
  refine j_iconst (q := 14) dX3_holdsOne_13 rfl ?_
  refine j_pload (q := 15) (d := 1) rfl (by decide) dX3_holdsOne_14 rfl (E.2.2 _ _ (hq 1 _ rfl)) (by first | exact wr_id' (by omega) (by omega) | with_reducible exact wr_bI _ | exact rfl) (by omega) (by omega) ?_
  refine j_icmp_lt (tgt := 22) (q := 18) dX3_holdsOne_15 (by decide) rfl rfl rfl (fun h15 => ?_) (fun h15 => ?_)
  · refine j_iconst (q := 23) dX3_holdsOne_22 rfl ?_
    exact j_zreturn dX3_holdsOne_23 rfl (by decide) (by unfold cHo; first | exact bI_t (by omega) | exact bI_f (by omega)) (rfl)
  · refine j_iconst (q := 19) dX3_holdsOne_18 rfl ?_
    refine j_goto (tgt := 23) dX3_holdsOne_19 (by decide) ?_
    exact j_zreturn dX3_holdsOne_23 rfl (by decide) (by unfold cHo; first | exact bI_t (by omega) | exact bI_f (by omega)) (rfl)
theorem lp_X3_pulse {G : GX} {sh : List SH} (E : EV G sh) {m : Mem} {q : Nat} (hq : PA q) {F : FinT} {c0 h : Int} {x : Int64} : ∀ (d : Nat) (c : Int) (P : Mem), c + d = 64 → 0 ≤ c → CV P → (∀ (y : Mem), y = cPuF x d c P → J G sh iX3_pulse 0 0 F 66 [some (.inr (.ref q)), some (.inl c0), some (.inl h), none, none, none] [] (ps m q y) 0 0) → J G sh iX3_pulse 0 0 F 27 [some (.inr (.ref q)), some (.inl c0), some (.inl h), some (.inr (.long x)), none, some (.inl c)] [] (ps m q P) 0 0 := by
  intro d
  induction d with
  | zero =>
    intro c P g0 g1 g2 kk
    refine j_iload5 (q := 29) dX3_pulse_27 rfl ?_
    refine j_bipush (q := 31) dX3_pulse_29 rfl rfl ?_
    refine j_icmp_ge (tgt := 66) (q := 34) dX3_pulse_31 (by decide) rfl (by first | exact wr_id' (by omega) (by omega) | with_reducible exact wr_bI _ | exact rfl) (by first | exact wr_id' (by omega) (by omega) | with_reducible exact wr_bI _ | exact rfl) (fun h31 => ?_) (fun h31 => ?_)
    · refine j_fgt3 ?_
      refine j_fgt5 ?_
      exact kk _ rfl
    · omega
  | succ d ih =>
    intro c P g0 g1 g2 kk
    refine j_iload5 (q := 29) dX3_pulse_27 rfl ?_
    refine j_bipush (q := 31) dX3_pulse_29 rfl rfl ?_
    refine j_icmp_ge (tgt := 66) (q := 34) dX3_pulse_31 (by decide) rfl (by first | exact wr_id' (by omega) (by omega) | with_reducible exact wr_bI _ | exact rfl) (by first | exact wr_id' (by omega) (by omega) | with_reducible exact wr_bI _ | exact rfl) (fun h31 => ?_) (fun h31 => ?_)
    · omega
    · refine j_lload3 (q := 35) dX3_pulse_34 rfl ?_
      refine j_lconst (q := 36) (x := 0) dX3_pulse_35 rfl rfl ?_
      refine j_lcmp (q := 37) dX3_pulse_36 rfl ?_
      refine j_ifeq_l (tgt := 66) (q := 40) dX3_pulse_37 (by decide) rfl (fun h37 => ?_) (fun h37 => ?_)
      · obtain ⟨hy0⟩ : Nonempty (cPuF x (d + 1) c P = P) := ⟨by rw [cPuF, if_pos (by assumption)]⟩
        refine j_mem (m' := ps m q (cPuF x (d + 1) c P)) (by rw [hy0]) ?_
        refine j_fgt3 ?_
        refine j_fgt5 ?_
        exact kk _ rfl
      · refine j_lload3 (q := 41) dX3_pulse_40 rfl ?_
        refine j_iload5 (q := 43) dX3_pulse_41 rfl ?_
        refine j_callSN1 (Mc := iX7_maskOf) (q := 46) (c' := 0) (s' := 0) dX3_pulse_43 rfl kS_X7_maskOf (by decide) ⟨by decide, by decide⟩ rfl (Nat.le_refl _) (Nat.le_refl _) (ct_X7_maskOf E) ?_
        refine j_land (q := 47) dX3_pulse_46 rfl ?_
        refine j_lconst (q := 48) (x := 0) dX3_pulse_47 rfl rfl ?_
        refine j_lcmp (q := 49) dX3_pulse_48 rfl ?_
        refine j_ifeq_l (tgt := 60) (q := 52) dX3_pulse_49 (by decide) rfl (fun h49 => ?_) (fun h49 => ?_)
        · refine j_iinc5 (q := 63) dX3_pulse_60 rfl rfl (by decide) ?_
          refine j_goto (tgt := 27) dX3_pulse_63 (by decide) ?_
          exact ih _ _ (by omega) (by omega) (by first | assumption | exact CV_lo ⟨by omega, by omega⟩ g2) (fun y hy => kk y (hy.trans (by first | (rw [cPuF, if_neg (by assumption), if_pos (tb_t (by assumption))]; done) | (rw [cPuF, if_neg (by assumption), if_neg (tb_f (by assumption))]; done))))
        · refine j_aload0 (q := 53) dX3_pulse_52 rfl ?_
          refine j_iload5 (q := 55) dX3_pulse_53 rfl ?_
          refine j_bipush (q := 57) dX3_pulse_55 rfl rfl ?_
          refine j_callV2v (Mc := iX3_loseBit) (q := 60) (c' := 0) (s' := 0) dX3_pulse_57 rfl kV_X3_loseBit jw_637 ⟨by decide, by decide⟩ (E.2.2 _ _ (hq 0 _ rfl)) rfl rfl rfl (Nat.le_refl _) (Nat.le_refl _) (ct_X3_loseBit E hq (by omega) (by omega) (by assumption)) ?_
          refine j_iinc5 (q := 63) dX3_pulse_60 rfl rfl (by decide) ?_
          refine j_goto (tgt := 27) dX3_pulse_63 (by decide) ?_
          exact ih _ _ (by omega) (by omega) (by first | assumption | exact CV_lo ⟨by omega, by omega⟩ g2) (fun y hy => kk y (hy.trans (by first | (rw [cPuF, if_neg (by assumption), if_pos (tb_t (by assumption))]; done) | (rw [cPuF, if_neg (by assumption), if_neg (tb_f (by assumption))]; done))))
theorem ct_X3_pulse {G : GX} {sh : List SH} (E : EV G sh) {m P : Mem} {q : Nat} (hq : PA q) {c : Int} {h : Int} (h1 : 0 ≤ c ∧ c < 64) (hV : CV P) : CT G sh iX3_pulse 0 0 [.inr (.ref q), .inl c, .inl h] (ps m q P) none (ps m q (cPul P c h)) := by
  refine j_met (L0 := [some (.inr (.ref q)), some (.inl c), some (.inl h), none, none, none]) (by decide) E.1 E.2.1 rfl (Nat.le_of_ble_eq_true rfl) ?_
  refine j_aload0 (q := 1) dX3_pulse_0 rfl ?_
  refine j_getR 5 (q := 4) dX3_pulse_1 rfl fl_X3_31 (E.2.2 _ _ (hq 0 _ rfl)) rfl ?_
  refine j_getR 1 (q := 7) dX3_pulse_4 rfl fl_X3_105 (E.2.2 _ _ (hq 3 _ rfl)) rfl ?_
  refine j_iload1 (q := 8) dX3_pulse_7 rfl ?_
  refine j_aload0 (q := 9) dX3_pulse_8 rfl ?_
  refine j_iload1 (q := 10) dX3_pulse_9 rfl ?_
  refine j_callV1 (Mc := iX3_strengthBehindPulse) (q := 13) (c' := 0) (s' := 0) dX3_pulse_10 rfl kV_X3_strengthBehindPulse jw_633 ⟨by decide, by decide⟩ (E.2.2 _ _ (hq 0 _ rfl)) rfl rfl rfl (Nat.le_refl _) (Nat.le_refl _) (ct_X3_strengthBehindPulse E hq (by omega)) ?_
  refine j_pstore (q := 14) (d := 4) rfl (by decide) dX3_pulse_13 rfl (E.2.2 _ _ (hq 4 _ rfl)) (by first | exact wr_id' (by omega) (by omega) | with_reducible exact wr_bI _ | exact rfl) (by omega) (by omega) ?_
  refine j_mem (m' := ps m q (cPul1 P c)) rfl ?_
  refine j_aload0 (q := 15) dX3_pulse_14 rfl ?_
  refine j_callV0 (Mc := iX3_fragile) (q := 18) (c' := 0) (s' := 0) dX3_pulse_15 rfl kV_X3_fragile jw_634 ⟨by decide, by decide⟩ (E.2.2 _ _ (hq 0 _ rfl)) rfl rfl rfl (Nat.le_refl _) (Nat.le_refl _) (ct_X3_fragile E hq) ?_
  refine j_iload1 (q := 19) dX3_pulse_18 rfl ?_
  refine j_callSN1 (Mc := iX7_linesOf) (q := 22) (c' := 0) (s' := 0) dX3_pulse_19 rfl kS_X7_linesOf (by decide) ⟨by decide, by decide⟩ rfl (Nat.le_refl _) (Nat.le_refl _) (ct_X7_linesOf E (by omega)) ?_
  refine j_land (q := 23) dX3_pulse_22 rfl ?_
  refine j_lstore3 (q := 24) dX3_pulse_23 rfl rfl (by decide) ?_
  refine j_iconst (q := 25) dX3_pulse_24 rfl ?_
  refine j_istore5 (q := 27) dX3_pulse_25 rfl rfl (by decide) ?_
  have h2 : CV (cPul1 P c) := CV_up (by unfold NV; omega) hV
  refine lp_X3_pulse E hq 64 0 (cPul1 P c) (by omega) (by omega) h2 ?_
  intro y hy
  have hy2 : y = cPulL P c := hy
  subst hy2
  refine j_aload0 (q := 67) dX3_pulse_66 rfl ?_
  refine j_aload0 (q := 68) dX3_pulse_67 rfl ?_
  refine j_iload2 (q := 69) dX3_pulse_68 rfl ?_
  refine j_callV1 (Mc := iX3_heatBehind) (q := 72) (c' := 0) (s' := 0) dX3_pulse_69 rfl kV_X3_heatBehind jw_660 ⟨by decide, by decide⟩ (E.2.2 _ _ (hq 0 _ rfl)) rfl rfl rfl (Nat.le_refl _) (Nat.le_refl _) (ct_X3_heatBehind E hq) ?_
  refine j_pputI (d := 0) rfl (by decide) 1 (j' := 1) (q := 75) dX3_pulse_72 rfl fw_X3_15 (E.2.2 _ _ (hq 0 _ rfl)) rfl rfl ?_
  exact j_return dX3_pulse_75 rfl (rfl)
theorem ct_X3_writeBit {G : GX} {sh : List SH} (E : EV G sh) {m P : Mem} {q : Nat} (hq : PA q) {c : Int} {b : Bool} (h1 : 0 ≤ c ∧ c < 64) (hV : CV P) : CT G sh iX3_writeBit 0 0 [.inr (.ref q), .inl c, .inl (bI b)] (ps m q P) none (ps m q (cWb P c b)) := by
  refine j_met (L0 := [some (.inr (.ref q)), some (.inl c), some (.inl (bI b))]) (by decide) E.1 E.2.1 rfl (Nat.le_of_ble_eq_true rfl) ?_
  refine j_aload0 (q := 1) dX3_writeBit_0 rfl ?_
  refine j_iload1 (q := 2) dX3_writeBit_1 rfl ?_
  refine j_aload0 (q := 3) dX3_writeBit_2 rfl ?_
  refine j_getR 3 (q := 6) dX3_writeBit_3 rfl fl_X3_21 (E.2.2 _ _ (hq 0 _ rfl)) rfl ?_
  refine j_iconst (q := 7) dX3_writeBit_6 rfl ?_
  refine j_pload (q := 8) (d := 1) rfl (by decide) dX3_writeBit_7 rfl (E.2.2 _ _ (hq 1 _ rfl)) (by first | exact wr_id' (by omega) (by omega) | with_reducible exact wr_bI _ | exact rfl) (by omega) (by omega) ?_
  refine j_callV2v (Mc := iX3_pulse) (q := 11) (c' := 0) (s' := 0) dX3_writeBit_8 rfl kV_X3_pulse jw_629 ⟨by decide, by decide⟩ (E.2.2 _ _ (hq 0 _ rfl)) rfl rfl rfl (Nat.le_refl _) (Nat.le_refl _) (ct_X3_pulse E hq (by omega) (by assumption)) ?_
  have h2 := CV_pul (c := c) (h := P 1 1) hV
  refine j_aload0 (q := 12) dX3_writeBit_11 rfl ?_
  refine j_getR 5 (q := 15) dX3_writeBit_12 rfl fl_X3_31 (E.2.2 _ _ (hq 0 _ rfl)) rfl ?_
  refine j_iload1 (q := 16) dX3_writeBit_15 rfl ?_
  refine j_iload2 (q := 17) dX3_writeBit_16 rfl ?_
  refine j_ifeq_b (tgt := 32) (q := 20) dX3_writeBit_17 (by decide) rfl (fun h17 => ?_) (fun h17 => ?_)
  · refine j_iconst (q := 33) dX3_writeBit_32 rfl ?_
    refine j_callV2v (Mc := iX0_putBit) (q := 36) (c' := 0) (s' := 0) dX3_writeBit_33 rfl kV_X0_putBit jw_641 ⟨by decide, by decide⟩ (E.2.2 _ _ (hq 3 _ rfl)) rfl rfl rfl (Nat.le_refl _) (Nat.le_refl _) (ct_X0_putBit (b := false) E hq) ?_
    refine j_mem (m' := ps m q (cWbA P c b)) (by unfold cWbA; simp [*]) ?_
    have h3 : CV (cWbA P c b) := CV_put h2
    have h4 := h3.2.2.2.1
    refine j_aload0 (q := 37) dX3_writeBit_36 rfl ?_
    refine j_getR 6 (q := 40) dX3_writeBit_37 rfl fl_X3_38 (E.2.2 _ _ (hq 0 _ rfl)) rfl ?_
    refine j_iload1 (q := 41) dX3_writeBit_40 rfl ?_
    refine j_callV1 (Mc := iX1_isOwed) (q := 44) (c' := 0) (s' := 0) dX3_writeBit_41 rfl kV_X1_isOwed jw_524 ⟨by decide, by decide⟩ (E.2.2 _ _ (hq 10 _ rfl)) rfl rfl rfl (Nat.le_refl _) (Nat.le_refl _) (ct_X1_isOwed E hq (by omega)) ?_
    refine j_ifeq_b (tgt := 66) (q := 47) dX3_writeBit_44 (by decide) rfl (fun h44 => ?_) (fun h44 => ?_)
    · exact j_return dX3_writeBit_66 rfl (by unfold cWb; first | (rw [if_pos (by assumption)]; done) | (rw [if_neg (nb (by assumption))]; done))
    · refine j_aload0 (q := 48) dX3_writeBit_47 rfl ?_
      refine j_getR 6 (q := 51) dX3_writeBit_48 rfl fl_X3_38 (E.2.2 _ _ (hq 0 _ rfl)) rfl ?_
      refine j_iload1 (q := 52) dX3_writeBit_51 rfl ?_
      refine j_callV1v (Mc := iX1_strike) (q := 55) (c' := 0) (s' := 0) dX3_writeBit_52 rfl kV_X1_strike jw_661 ⟨by decide, by decide⟩ (E.2.2 _ _ (hq 10 _ rfl)) rfl rfl rfl (Nat.le_refl _) (Nat.le_refl _) (ct_X1_strike E hq (by omega) (by assumption)) ?_
      refine j_aload0 (q := 56) dX3_writeBit_55 rfl ?_
      refine j_getR 4 (q := 59) dX3_writeBit_56 rfl fl_X3_25 (E.2.2 _ _ (hq 0 _ rfl)) rfl ?_
      refine j_bipush (q := 61) dX3_writeBit_59 rfl rfl ?_
      refine j_dup2 (q := 62) dX3_writeBit_61 rfl rfl rfl ?_
      refine j_pload (q := 63) (d := 2) rfl (by decide) dX3_writeBit_62 rfl (E.2.2 _ _ (hq 2 _ rfl)) (by first | exact wr_id' (by omega) (by omega) | with_reducible exact wr_bI _ | exact rfl) (by omega) (by omega) ?_
      refine j_iconst (q := 64) dX3_writeBit_63 rfl ?_
      refine j_iadd (q := 65) dX3_writeBit_64 rfl ?_
      refine j_pstore (q := 66) (d := 2) rfl (by decide) dX3_writeBit_65 rfl (E.2.2 _ _ (hq 2 _ rfl)) (by first | exact wr_id' (by omega) (by omega) | with_reducible exact wr_bI _ | exact rfl) (by omega) (by omega) ?_
      exact j_return dX3_writeBit_66 rfl (by unfold cWb; first | (rw [if_pos (by assumption)]; done) | (rw [if_neg (nb (by assumption))]; done))
  · refine j_aload0 (q := 21) dX3_writeBit_20 rfl ?_
    refine j_iload1 (q := 22) dX3_writeBit_21 rfl ?_
    refine j_callV1 (Mc := iX3_holdsOne) (q := 25) (c' := 0) (s' := 0) dX3_writeBit_22 rfl kV_X3_holdsOne jw_666 ⟨by decide, by decide⟩ (E.2.2 _ _ (hq 0 _ rfl)) rfl rfl rfl (Nat.le_refl _) (Nat.le_refl _) (ct_X3_holdsOne E hq (by omega)) ?_
    refine j_ifeq_b (tgt := 32) (q := 28) dX3_writeBit_25 (by decide) rfl (fun h25 => ?_) (fun h25 => ?_)
    · refine j_iconst (q := 33) dX3_writeBit_32 rfl ?_
      refine j_callV2v (Mc := iX0_putBit) (q := 36) (c' := 0) (s' := 0) dX3_writeBit_33 rfl kV_X0_putBit jw_641 ⟨by decide, by decide⟩ (E.2.2 _ _ (hq 3 _ rfl)) rfl rfl rfl (Nat.le_refl _) (Nat.le_refl _) (ct_X0_putBit (b := false) E hq) ?_
      refine j_mem (m' := ps m q (cWbA P c b)) (by unfold cWbA; simp [*]) ?_
      have h3 : CV (cWbA P c b) := CV_put h2
      have h4 := h3.2.2.2.1
      refine j_aload0 (q := 37) dX3_writeBit_36 rfl ?_
      refine j_getR 6 (q := 40) dX3_writeBit_37 rfl fl_X3_38 (E.2.2 _ _ (hq 0 _ rfl)) rfl ?_
      refine j_iload1 (q := 41) dX3_writeBit_40 rfl ?_
      refine j_callV1 (Mc := iX1_isOwed) (q := 44) (c' := 0) (s' := 0) dX3_writeBit_41 rfl kV_X1_isOwed jw_524 ⟨by decide, by decide⟩ (E.2.2 _ _ (hq 10 _ rfl)) rfl rfl rfl (Nat.le_refl _) (Nat.le_refl _) (ct_X1_isOwed E hq (by omega)) ?_
      refine j_ifeq_b (tgt := 66) (q := 47) dX3_writeBit_44 (by decide) rfl (fun h44 => ?_) (fun h44 => ?_)
      · exact j_return dX3_writeBit_66 rfl (by unfold cWb; first | (rw [if_pos (by assumption)]; done) | (rw [if_neg (nb (by assumption))]; done))
      · refine j_aload0 (q := 48) dX3_writeBit_47 rfl ?_
        refine j_getR 6 (q := 51) dX3_writeBit_48 rfl fl_X3_38 (E.2.2 _ _ (hq 0 _ rfl)) rfl ?_
        refine j_iload1 (q := 52) dX3_writeBit_51 rfl ?_
        refine j_callV1v (Mc := iX1_strike) (q := 55) (c' := 0) (s' := 0) dX3_writeBit_52 rfl kV_X1_strike jw_661 ⟨by decide, by decide⟩ (E.2.2 _ _ (hq 10 _ rfl)) rfl rfl rfl (Nat.le_refl _) (Nat.le_refl _) (ct_X1_strike E hq (by omega) (by assumption)) ?_
        refine j_aload0 (q := 56) dX3_writeBit_55 rfl ?_
        refine j_getR 4 (q := 59) dX3_writeBit_56 rfl fl_X3_25 (E.2.2 _ _ (hq 0 _ rfl)) rfl ?_
        refine j_bipush (q := 61) dX3_writeBit_59 rfl rfl ?_
        refine j_dup2 (q := 62) dX3_writeBit_61 rfl rfl rfl ?_
        refine j_pload (q := 63) (d := 2) rfl (by decide) dX3_writeBit_62 rfl (E.2.2 _ _ (hq 2 _ rfl)) (by first | exact wr_id' (by omega) (by omega) | with_reducible exact wr_bI _ | exact rfl) (by omega) (by omega) ?_
        refine j_iconst (q := 64) dX3_writeBit_63 rfl ?_
        refine j_iadd (q := 65) dX3_writeBit_64 rfl ?_
        refine j_pstore (q := 66) (d := 2) rfl (by decide) dX3_writeBit_65 rfl (E.2.2 _ _ (hq 2 _ rfl)) (by first | exact wr_id' (by omega) (by omega) | with_reducible exact wr_bI _ | exact rfl) (by omega) (by omega) ?_
        exact j_return dX3_writeBit_66 rfl (by unfold cWb; first | (rw [if_pos (by assumption)]; done) | (rw [if_neg (nb (by assumption))]; done))
    · refine j_iconst (q := 29) dX3_writeBit_28 rfl ?_
      refine j_goto (tgt := 33) dX3_writeBit_29 (by decide) ?_
      refine j_callV2v (Mc := iX0_putBit) (q := 36) (c' := 0) (s' := 0) dX3_writeBit_33 rfl kV_X0_putBit jw_641 ⟨by decide, by decide⟩ (E.2.2 _ _ (hq 3 _ rfl)) rfl rfl rfl (Nat.le_refl _) (Nat.le_refl _) (ct_X0_putBit (b := true) E hq) ?_
      refine j_mem (m' := ps m q (cWbA P c b)) (by unfold cWbA; simp [*]) ?_
      have h3 : CV (cWbA P c b) := CV_put h2
      have h4 := h3.2.2.2.1
      refine j_aload0 (q := 37) dX3_writeBit_36 rfl ?_
      refine j_getR 6 (q := 40) dX3_writeBit_37 rfl fl_X3_38 (E.2.2 _ _ (hq 0 _ rfl)) rfl ?_
      refine j_iload1 (q := 41) dX3_writeBit_40 rfl ?_
      refine j_callV1 (Mc := iX1_isOwed) (q := 44) (c' := 0) (s' := 0) dX3_writeBit_41 rfl kV_X1_isOwed jw_524 ⟨by decide, by decide⟩ (E.2.2 _ _ (hq 10 _ rfl)) rfl rfl rfl (Nat.le_refl _) (Nat.le_refl _) (ct_X1_isOwed E hq (by omega)) ?_
      refine j_ifeq_b (tgt := 66) (q := 47) dX3_writeBit_44 (by decide) rfl (fun h44 => ?_) (fun h44 => ?_)
      · exact j_return dX3_writeBit_66 rfl (by unfold cWb; first | (rw [if_pos (by assumption)]; done) | (rw [if_neg (nb (by assumption))]; done))
      · refine j_aload0 (q := 48) dX3_writeBit_47 rfl ?_
        refine j_getR 6 (q := 51) dX3_writeBit_48 rfl fl_X3_38 (E.2.2 _ _ (hq 0 _ rfl)) rfl ?_
        refine j_iload1 (q := 52) dX3_writeBit_51 rfl ?_
        refine j_callV1v (Mc := iX1_strike) (q := 55) (c' := 0) (s' := 0) dX3_writeBit_52 rfl kV_X1_strike jw_661 ⟨by decide, by decide⟩ (E.2.2 _ _ (hq 10 _ rfl)) rfl rfl rfl (Nat.le_refl _) (Nat.le_refl _) (ct_X1_strike E hq (by omega) (by assumption)) ?_
        refine j_aload0 (q := 56) dX3_writeBit_55 rfl ?_
        refine j_getR 4 (q := 59) dX3_writeBit_56 rfl fl_X3_25 (E.2.2 _ _ (hq 0 _ rfl)) rfl ?_
        refine j_bipush (q := 61) dX3_writeBit_59 rfl rfl ?_
        refine j_dup2 (q := 62) dX3_writeBit_61 rfl rfl rfl ?_
        refine j_pload (q := 63) (d := 2) rfl (by decide) dX3_writeBit_62 rfl (E.2.2 _ _ (hq 2 _ rfl)) (by first | exact wr_id' (by omega) (by omega) | with_reducible exact wr_bI _ | exact rfl) (by omega) (by omega) ?_
        refine j_iconst (q := 64) dX3_writeBit_63 rfl ?_
        refine j_iadd (q := 65) dX3_writeBit_64 rfl ?_
        refine j_pstore (q := 66) (d := 2) rfl (by decide) dX3_writeBit_65 rfl (E.2.2 _ _ (hq 2 _ rfl)) (by first | exact wr_id' (by omega) (by omega) | with_reducible exact wr_bI _ | exact rfl) (by omega) (by omega) ?_
        exact j_return dX3_writeBit_66 rfl (by unfold cWb; first | (rw [if_pos (by assumption)]; done) | (rw [if_neg (nb (by assumption))]; done))
theorem ct_X3_readBit {G : GX} {sh : List SH} (E : EV G sh) {m P : Mem} {q : Nat} (hq : PA q) {c : Int} (h1 : 0 ≤ c ∧ c < 64) (hV : CV P) : CT G sh iX3_readBit 0 0 [.inr (.ref q), .inl c] (ps m q P) (some (.inl (bI (cOne (cRdA P c) c)))) (ps m q (cRd P c)) := by
  refine j_met (L0 := [some (.inr (.ref q)), some (.inl c)]) (by decide) E.1 E.2.1 rfl (Nat.le_of_ble_eq_true rfl) ?_
  refine j_aload0 (q := 1) dX3_readBit_0 rfl ?_
  refine j_iload1 (q := 2) dX3_readBit_1 rfl ?_
  refine j_aload0 (q := 3) dX3_readBit_2 rfl ?_
  refine j_getR 3 (q := 6) dX3_readBit_3 rfl fl_X3_21 (E.2.2 _ _ (hq 0 _ rfl)) rfl ?_
  refine j_iconst (q := 7) dX3_readBit_6 rfl ?_
  refine j_pload (q := 8) (d := 1) rfl (by decide) dX3_readBit_7 rfl (E.2.2 _ _ (hq 1 _ rfl)) (by first | exact wr_id' (by omega) (by omega) | with_reducible exact wr_bI _ | exact rfl) (by omega) (by omega) ?_
  refine j_callV2v (Mc := iX3_pulse) (q := 11) (c' := 0) (s' := 0) dX3_readBit_8 rfl kV_X3_pulse jw_629 ⟨by decide, by decide⟩ (E.2.2 _ _ (hq 0 _ rfl)) rfl rfl rfl (Nat.le_refl _) (Nat.le_refl _) (ct_X3_pulse E hq (by omega) (by assumption)) ?_
  have h2 := CV_pul (c := c) (h := P 1 2) hV
  refine j_aload0 (q := 12) dX3_readBit_11 rfl ?_
  refine j_getR 4 (q := 15) dX3_readBit_12 rfl fl_X3_25 (E.2.2 _ _ (hq 0 _ rfl)) rfl ?_
  refine j_bipush (q := 17) dX3_readBit_15 rfl rfl ?_
  refine j_dup2 (q := 18) dX3_readBit_17 rfl rfl rfl ?_
  refine j_pload (q := 19) (d := 2) rfl (by decide) dX3_readBit_18 rfl (E.2.2 _ _ (hq 2 _ rfl)) (by first | exact wr_id' (by omega) (by omega) | with_reducible exact wr_bI _ | exact rfl) (by omega) (by omega) ?_
  refine j_iconst (q := 20) dX3_readBit_19 rfl ?_
  refine j_iadd (q := 21) dX3_readBit_20 rfl ?_
  refine j_pstore (q := 22) (d := 2) rfl (by decide) dX3_readBit_21 rfl (E.2.2 _ _ (hq 2 _ rfl)) (by first | exact wr_id' (by omega) (by omega) | with_reducible exact wr_bI _ | exact rfl) (by omega) (by omega) ?_
  refine j_mem (m' := ps m q (cRdA P c)) rfl ?_
  have h3 : CV (cRdA P c) := CV_up (by unfold NV; omega) h2
  refine j_aload0 (q := 23) dX3_readBit_22 rfl ?_
  refine j_getR 5 (q := 26) dX3_readBit_23 rfl fl_X3_31 (E.2.2 _ _ (hq 0 _ rfl)) rfl ?_
  refine j_iload1 (q := 27) dX3_readBit_26 rfl ?_
  refine j_callV1 (Mc := iX0_isOne) (q := 30) (c' := 0) (s' := 0) dX3_readBit_27 rfl kV_X0_isOne jw_795 ⟨by decide, by decide⟩ (E.2.2 _ _ (hq 3 _ rfl)) rfl rfl rfl (Nat.le_refl _) (Nat.le_refl _) (ct_X0_isOne E hq) ?_
  refine j_ifne_b (tgt := 35) (q := 33) dX3_readBit_30 (by decide) rfl (fun h30 => ?_) (fun h30 => ?_)
  · refine j_aload0 (q := 36) dX3_readBit_35 rfl ?_
    refine j_getR 4 (q := 39) dX3_readBit_36 rfl fl_X3_25 (E.2.2 _ _ (hq 0 _ rfl)) rfl ?_
    refine j_bipush (q := 41) dX3_readBit_39 rfl rfl ?_
    refine j_dup2 (q := 42) dX3_readBit_41 rfl rfl rfl ?_
    refine j_pload (q := 43) (d := 2) rfl (by decide) dX3_readBit_42 rfl (E.2.2 _ _ (hq 2 _ rfl)) (by first | exact wr_id' (by omega) (by omega) | with_reducible exact wr_bI _ | exact rfl) (by omega) (by omega) ?_
    refine j_iconst (q := 44) dX3_readBit_43 rfl ?_
    refine j_iadd (q := 45) dX3_readBit_44 rfl ?_
    refine j_pstore (q := 46) (d := 2) rfl (by decide) dX3_readBit_45 rfl (E.2.2 _ _ (hq 2 _ rfl)) (by first | exact wr_id' (by omega) (by omega) | with_reducible exact wr_bI _ | exact rfl) (by omega) (by omega) ?_
    refine j_aload0 (q := 47) dX3_readBit_46 rfl ?_
    refine j_getR 5 (q := 50) dX3_readBit_47 rfl fl_X3_31 (E.2.2 _ _ (hq 0 _ rfl)) rfl ?_
    refine j_iload1 (q := 51) dX3_readBit_50 rfl ?_
    refine j_iconst (q := 52) dX3_readBit_51 rfl ?_
    refine j_callV2v (Mc := iX0_putBit) (q := 55) (c' := 0) (s' := 0) dX3_readBit_52 rfl kV_X0_putBit jw_641 ⟨by decide, by decide⟩ (E.2.2 _ _ (hq 3 _ rfl)) rfl rfl rfl (Nat.le_refl _) (Nat.le_refl _) (ct_X0_putBit (b := false) E hq) ?_
    refine j_mem (m' := ps m q (cRdB (cRdA P c) c)) rfl ?_
    have h4 : CV (cRdB (cRdA P c) c) := CV_put (CV_up (by unfold NV; omega) h3)
    have h5 := h4.2.2.2.1
    refine j_aload0 (q := 56) dX3_readBit_55 rfl ?_
    refine j_getR 6 (q := 59) dX3_readBit_56 rfl fl_X3_38 (E.2.2 _ _ (hq 0 _ rfl)) rfl ?_
    refine j_iload1 (q := 60) dX3_readBit_59 rfl ?_
    refine j_aload0 (q := 61) dX3_readBit_60 rfl ?_
    refine j_pgetI (d := 0) rfl (by decide) 0 (j' := 0) (q := 64) dX3_readBit_61 rfl fl_X3_9 (E.2.2 _ _ (hq 0 _ rfl)) rfl rfl ?_
    refine j_aload0 (q := 65) dX3_readBit_64 rfl ?_
    refine j_getR 3 (q := 68) dX3_readBit_65 rfl fl_X3_21 (E.2.2 _ _ (hq 0 _ rfl)) rfl ?_
    refine j_iconst (q := 69) dX3_readBit_68 rfl ?_
    refine j_pload (q := 70) (d := 1) rfl (by decide) dX3_readBit_69 rfl (E.2.2 _ _ (hq 1 _ rfl)) (by first | exact wr_id' (by omega) (by omega) | with_reducible exact wr_bI _ | exact rfl) (by omega) (by omega) ?_
    refine j_iadd (q := 71) dX3_readBit_70 rfl ?_
    refine j_callV2v (Mc := iX1_enter) (q := 74) (c' := 0) (s' := 0) dX3_readBit_71 rfl kV_X1_enter jw_796 ⟨by decide, by decide⟩ (E.2.2 _ _ (hq 10 _ rfl)) rfl rfl rfl (Nat.le_refl _) (Nat.le_refl _) (ct_X1_enter E hq (by omega) (by assumption)) ?_
    refine j_iconst (q := 75) dX3_readBit_74 rfl ?_
    exact j_ireturn dX3_readBit_75 rfl (by first | (rw [show cOne (cRdA P c) c = true by assumption]; rfl) | (rw [show cOne (cRdA P c) c = false by assumption]; rfl)) (by unfold cRd; first | (rw [if_pos (by assumption)]; done) | (rw [if_neg (nb (by assumption))]; done))
  · refine j_iconst (q := 34) dX3_readBit_33 rfl ?_
    exact j_ireturn dX3_readBit_34 rfl (by first | (rw [show cOne (cRdA P c) c = true by assumption]; rfl) | (rw [show cOne (cRdA P c) c = false by assumption]; rfl)) (by unfold cRd; first | (rw [if_pos (by assumption)]; done) | (rw [if_neg (nb (by assumption))]; done))
theorem cFi_b {P : Mem} (h : CD P) : -1 ≤ cFi P ∧ cFi P < 64 := by
  unfold cFi
  split
  · rename_i q
    have h1 := h.1
    rw [wr_id' (by omega) (by omega)] at q
    have := h.2 0 (by omega) q
    omega
  · omega
theorem ct_X3_writeFirstBack {G : GX} {sh : List SH} (E : EV G sh) {m P : Mem} {q : Nat} (hq : PA q) (hV : CV P) : CT G sh iX3_writeFirstBack 0 0 [.inr (.ref q)] (ps m q P) (some (.inl (cFi P))) (ps m q (cFb P)) := by
  refine j_met (L0 := [some (.inr (.ref q)), none]) (by decide) E.1 E.2.1 rfl (Nat.le_of_ble_eq_true rfl) ?_
  have hV1 := hV.1
  have hV2 := hV.2.1
  have hV3 := hV.2.2.1.1
  have hV4 := hV.2.2.2.1
  have hf := cFi_b hV4
  refine j_aload0 (q := 1) dX3_writeFirstBack_0 rfl ?_
  refine j_getR 6 (q := 4) dX3_writeFirstBack_1 rfl fl_X3_38 (E.2.2 _ _ (hq 0 _ rfl)) rfl ?_
  refine j_callV0 (Mc := iX1_firstCore) (q := 7) (c' := 0) (s' := 0) dX3_writeFirstBack_4 rfl kV_X1_firstCore jw_624 ⟨by decide, by decide⟩ (E.2.2 _ _ (hq 10 _ rfl)) rfl rfl rfl (Nat.le_refl _) (Nat.le_refl _) (ct_X1_firstCore E hq) ?_
  refine j_istore1 (q := 8) dX3_writeFirstBack_7 rfl rfl (by decide) ?_
  refine j_iload1 (q := 9) dX3_writeFirstBack_8 rfl ?_
  refine j_callSN1 (Mc := iX7_isCore) (q := 12) (c' := 0) (s' := 0) dX3_writeFirstBack_9 rfl kS_X7_isCore (by decide) ⟨by decide, by decide⟩ rfl (Nat.le_refl _) (Nat.le_refl _) (ct_X7_isCore E (by omega)) ?_
  refine j_ifne_b (tgt := 17) (q := 15) dX3_writeFirstBack_12 (by decide) rfl (fun h12 => ?_) (fun h12 => ?_)
  · have hc := of_decide_eq_true (show wi (cFi P) 0 63 = true by assumption)
    have h2 := CV_pul (c := cFi P) (h := P 1 1) hV
    have h22 := h2.2.2.2.1
    refine j_aload0 (q := 18) dX3_writeFirstBack_17 rfl ?_
    refine j_iload1 (q := 19) dX3_writeFirstBack_18 rfl ?_
    refine j_aload0 (q := 20) dX3_writeFirstBack_19 rfl ?_
    refine j_getR 3 (q := 23) dX3_writeFirstBack_20 rfl fl_X3_21 (E.2.2 _ _ (hq 0 _ rfl)) rfl ?_
    refine j_iconst (q := 24) dX3_writeFirstBack_23 rfl ?_
    refine j_pload (q := 25) (d := 1) rfl (by decide) dX3_writeFirstBack_24 rfl (E.2.2 _ _ (hq 1 _ rfl)) (by first | exact wr_id' (by omega) (by omega) | with_reducible exact wr_bI _ | exact rfl) (by omega) (by omega) ?_
    refine j_callV2v (Mc := iX3_pulse) (q := 28) (c' := 0) (s' := 0) dX3_writeFirstBack_25 rfl kV_X3_pulse jw_629 ⟨by decide, by decide⟩ (E.2.2 _ _ (hq 0 _ rfl)) rfl rfl rfl (Nat.le_refl _) (Nat.le_refl _) (ct_X3_pulse E hq (by omega) (by assumption)) ?_
    refine j_aload0 (q := 29) dX3_writeFirstBack_28 rfl ?_
    refine j_getR 6 (q := 32) dX3_writeFirstBack_29 rfl fl_X3_38 (E.2.2 _ _ (hq 0 _ rfl)) rfl ?_
    refine j_iload1 (q := 33) dX3_writeFirstBack_32 rfl ?_
    refine j_callV1v (Mc := iX1_strike) (q := 36) (c' := 0) (s' := 0) dX3_writeFirstBack_33 rfl kV_X1_strike jw_661 ⟨by decide, by decide⟩ (E.2.2 _ _ (hq 10 _ rfl)) rfl rfl rfl (Nat.le_refl _) (Nat.le_refl _) (ct_X1_strike E hq (by omega) (by assumption)) ?_
    refine j_mem (m' := ps m q (cFbA P (cFi P))) rfl ?_
    have h3 : CV (cFbA P (cFi P)) := CV_str h2
    refine j_aload0 (q := 37) dX3_writeFirstBack_36 rfl ?_
    refine j_iload1 (q := 38) dX3_writeFirstBack_37 rfl ?_
    refine j_callV1 (Mc := iX3_holdsOne) (q := 41) (c' := 0) (s' := 0) dX3_writeFirstBack_38 rfl kV_X3_holdsOne jw_666 ⟨by decide, by decide⟩ (E.2.2 _ _ (hq 0 _ rfl)) rfl rfl rfl (Nat.le_refl _) (Nat.le_refl _) (ct_X3_holdsOne E hq (by omega)) ?_
    refine j_ifeq_b (tgt := 67) (q := 44) dX3_writeFirstBack_41 (by decide) rfl (fun h41 => ?_) (fun h41 => ?_)
    · refine j_aload0 (q := 68) dX3_writeFirstBack_67 rfl ?_
      refine j_iload1 (q := 69) dX3_writeFirstBack_68 rfl ?_
      refine j_bipush (q := 71) dX3_writeFirstBack_69 rfl rfl ?_
      refine j_callV2v (Mc := iX3_loseBit) (q := 74) (c' := 0) (s' := 0) dX3_writeFirstBack_71 rfl kV_X3_loseBit jw_637 ⟨by decide, by decide⟩ (E.2.2 _ _ (hq 0 _ rfl)) rfl rfl rfl (Nat.le_refl _) (Nat.le_refl _) (ct_X3_loseBit E hq (by omega) (by omega) (by assumption)) ?_
      refine j_iload1 (q := 75) dX3_writeFirstBack_74 rfl ?_
      exact j_ireturn dX3_writeFirstBack_75 rfl (rfl) (by first | (rw [cFb, if_pos (by assumption), if_pos (by assumption)]; done) | (rw [cFb, if_pos (by assumption), if_neg (nb (by assumption))]; done))
    · refine j_aload0 (q := 45) dX3_writeFirstBack_44 rfl ?_
      refine j_getR 5 (q := 48) dX3_writeFirstBack_45 rfl fl_X3_31 (E.2.2 _ _ (hq 0 _ rfl)) rfl ?_
      refine j_iload1 (q := 49) dX3_writeFirstBack_48 rfl ?_
      refine j_iconst (q := 50) dX3_writeFirstBack_49 rfl ?_
      refine j_callV2v (Mc := iX0_putBit) (q := 53) (c' := 0) (s' := 0) dX3_writeFirstBack_50 rfl kV_X0_putBit jw_641 ⟨by decide, by decide⟩ (E.2.2 _ _ (hq 3 _ rfl)) rfl rfl rfl (Nat.le_refl _) (Nat.le_refl _) (ct_X0_putBit (b := true) E hq) ?_
      refine j_aload0 (q := 54) dX3_writeFirstBack_53 rfl ?_
      refine j_getR 4 (q := 57) dX3_writeFirstBack_54 rfl fl_X3_25 (E.2.2 _ _ (hq 0 _ rfl)) rfl ?_
      refine j_bipush (q := 59) dX3_writeFirstBack_57 rfl rfl ?_
      refine j_dup2 (q := 60) dX3_writeFirstBack_59 rfl rfl rfl ?_
      refine j_pload (q := 61) (d := 2) rfl (by decide) dX3_writeFirstBack_60 rfl (E.2.2 _ _ (hq 2 _ rfl)) (by first | exact wr_id' (by omega) (by omega) | with_reducible exact wr_bI _ | exact rfl) (by omega) (by omega) ?_
      refine j_iconst (q := 62) dX3_writeFirstBack_61 rfl ?_
      refine j_iadd (q := 63) dX3_writeFirstBack_62 rfl ?_
      refine j_pstore (q := 64) (d := 2) rfl (by decide) dX3_writeFirstBack_63 rfl (E.2.2 _ _ (hq 2 _ rfl)) (by first | exact wr_id' (by omega) (by omega) | with_reducible exact wr_bI _ | exact rfl) (by omega) (by omega) ?_
      refine j_goto (tgt := 74) dX3_writeFirstBack_64 (by decide) ?_
      refine j_iload1 (q := 75) dX3_writeFirstBack_74 rfl ?_
      exact j_ireturn dX3_writeFirstBack_75 rfl (rfl) (by first | (rw [cFb, if_pos (by assumption), if_pos (by assumption)]; done) | (rw [cFb, if_pos (by assumption), if_neg (nb (by assumption))]; done))
  · refine j_iconst (q := 16) dX3_writeFirstBack_15 rfl ?_
    exact j_ireturn dX3_writeFirstBack_16 rfl (by have hn := of_decide_eq_false (show wi (cFi P) 0 63 = false by assumption); congr 1; omega) (by rw [cFb, if_neg (nb (by assumption))])
theorem lp_X3_loseLateBits {G : GX} {sh : List SH} (E : EV G sh) {m : Mem} {q : Nat} (hq : PA q) : ∀ (d : Nat) (i : Int) (P : Mem), i + d = 64 → 0 ≤ i → CV P → J G sh iX3_loseLateBits 0 0 (FN G sh 0 0 (none) (ps m q (cLtF d P))) 2 [some (.inr (.ref q)), some (.inl i), none] [] (ps m q P) 0 0 := by
  intro d
  induction d with
  | zero =>
    intro i P g0 g1 g2
    refine j_iload1 (q := 3) dX3_loseLateBits_2 rfl ?_
    refine j_bipush (q := 5) dX3_loseLateBits_3 rfl rfl ?_
    refine j_icmp_ge (tgt := 60) (q := 8) dX3_loseLateBits_5 (by decide) rfl (by first | exact wr_id' (by omega) (by omega) | with_reducible exact wr_bI _ | exact rfl) (by first | exact wr_id' (by omega) (by omega) | with_reducible exact wr_bI _ | exact rfl) (fun h5 => ?_) (fun h5 => ?_)
    · exact j_return dX3_loseLateBits_60 rfl (rfl)
    · omega
  | succ d ih =>
    intro i P g0 g1 g2
    refine j_iload1 (q := 3) dX3_loseLateBits_2 rfl ?_
    refine j_bipush (q := 5) dX3_loseLateBits_3 rfl rfl ?_
    refine j_icmp_ge (tgt := 60) (q := 8) dX3_loseLateBits_5 (by decide) rfl (by first | exact wr_id' (by omega) (by omega) | with_reducible exact wr_bI _ | exact rfl) (by first | exact wr_id' (by omega) (by omega) | with_reducible exact wr_bI _ | exact rfl) (fun h5 => ?_) (fun h5 => ?_)
    · omega
    · have hf := cFi_b g2.2.2.2.1
      refine j_aload0 (q := 9) dX3_loseLateBits_8 rfl ?_
      refine j_getR 6 (q := 12) dX3_loseLateBits_9 rfl fl_X3_38 (E.2.2 _ _ (hq 0 _ rfl)) rfl ?_
      refine j_callV0 (Mc := iX1_firstCore) (q := 15) (c' := 0) (s' := 0) dX3_loseLateBits_12 rfl kV_X1_firstCore jw_624 ⟨by decide, by decide⟩ (E.2.2 _ _ (hq 10 _ rfl)) rfl rfl rfl (Nat.le_refl _) (Nat.le_refl _) (ct_X1_firstCore E hq) ?_
      refine j_istore2 (q := 16) dX3_loseLateBits_15 rfl rfl (by decide) ?_
      refine j_iload2 (q := 17) dX3_loseLateBits_16 rfl ?_
      refine j_callSN1 (Mc := iX7_isCore) (q := 20) (c' := 0) (s' := 0) dX3_loseLateBits_17 rfl kS_X7_isCore (by decide) ⟨by decide, by decide⟩ rfl (Nat.le_refl _) (Nat.le_refl _) (ct_X7_isCore E (by omega)) ?_
      refine j_ifeq_b (tgt := 38) (q := 23) dX3_loseLateBits_20 (by decide) rfl (fun h20 => ?_) (fun h20 => ?_)
      · exact j_return dX3_loseLateBits_38 rfl (by first | (rw [cLtF, if_neg (fun z => absurd z.2 (by omega))]; done) | (rw [cLtF, if_neg (fun z => absurd z.1 (nb (by assumption)))]; done))
      · have hc := of_decide_eq_true (show wi (cFi P) 0 63 = true by assumption)
        refine j_aload0 (q := 24) dX3_loseLateBits_23 rfl ?_
        refine j_getR 6 (q := 27) dX3_loseLateBits_24 rfl fl_X3_38 (E.2.2 _ _ (hq 0 _ rfl)) rfl ?_
        refine j_iload2 (q := 28) dX3_loseLateBits_27 rfl ?_
        refine j_callV1 (Mc := iX1_dueOf) (q := 31) (c' := 0) (s' := 0) dX3_loseLateBits_28 rfl kV_X1_dueOf jw_678 ⟨by decide, by decide⟩ (E.2.2 _ _ (hq 10 _ rfl)) rfl rfl rfl (Nat.le_refl _) (Nat.le_refl _) (ct_X1_dueOf E hq (by omega)) ?_
        refine j_aload0 (q := 32) dX3_loseLateBits_31 rfl ?_
        refine j_pgetI (d := 0) rfl (by decide) 0 (j' := 0) (q := 35) dX3_loseLateBits_32 rfl fl_X3_9 (E.2.2 _ _ (hq 0 _ rfl)) rfl rfl ?_
        refine j_icmp_lt (tgt := 39) (q := 38) dX3_loseLateBits_35 (by decide) rfl rfl rfl (fun h35 => ?_) (fun h35 => ?_)
        · have hd := g2.2.2.2.1
          refine j_aload0 (q := 40) dX3_loseLateBits_39 rfl ?_
          refine j_getR 6 (q := 43) dX3_loseLateBits_40 rfl fl_X3_38 (E.2.2 _ _ (hq 0 _ rfl)) rfl ?_
          refine j_iload2 (q := 44) dX3_loseLateBits_43 rfl ?_
          refine j_callV1v (Mc := iX1_strike) (q := 47) (c' := 0) (s' := 0) dX3_loseLateBits_44 rfl kV_X1_strike jw_661 ⟨by decide, by decide⟩ (E.2.2 _ _ (hq 10 _ rfl)) rfl rfl rfl (Nat.le_refl _) (Nat.le_refl _) (ct_X1_strike E hq (by omega) (by assumption)) ?_
          have hs := CV_str (c := cFi P) g2
          refine j_aload0 (q := 48) dX3_loseLateBits_47 rfl ?_
          refine j_iload2 (q := 49) dX3_loseLateBits_48 rfl ?_
          refine j_bipush (q := 51) dX3_loseLateBits_49 rfl rfl ?_
          refine j_callV2v (Mc := iX3_loseBit) (q := 54) (c' := 0) (s' := 0) dX3_loseLateBits_51 rfl kV_X3_loseBit jw_637 ⟨by decide, by decide⟩ (E.2.2 _ _ (hq 0 _ rfl)) rfl rfl rfl (Nat.le_refl _) (Nat.le_refl _) (ct_X3_loseBit E hq (by omega) (by omega) (by assumption)) ?_
          refine j_iinc1 (q := 57) dX3_loseLateBits_54 rfl rfl (by decide) ?_
          refine j_goto (tgt := 2) dX3_loseLateBits_57 (by decide) ?_
          refine j_fgt2 ?_
          exact j_fin (rfl) (by rw [cLtF, if_pos ⟨by assumption, by omega⟩]) (ih _ _ (by omega) (by omega) (CV_lo ⟨by omega, by omega⟩ (CV_str g2)))
        · exact j_return dX3_loseLateBits_38 rfl (by first | (rw [cLtF, if_neg (fun z => absurd z.2 (by omega))]; done) | (rw [cLtF, if_neg (fun z => absurd z.1 (nb (by assumption)))]; done))
theorem ct_X3_loseLateBits {G : GX} {sh : List SH} (E : EV G sh) {m P : Mem} {q : Nat} (hq : PA q) (hV : CV P) : CT G sh iX3_loseLateBits 0 0 [.inr (.ref q)] (ps m q P) none (ps m q (cLtF 64 P)) := by
  refine j_met (L0 := [some (.inr (.ref q)), none, none]) (by decide) E.1 E.2.1 rfl (Nat.le_of_ble_eq_true rfl) ?_
  refine j_iconst (q := 1) dX3_loseLateBits_0 rfl ?_
  refine j_istore1 (q := 2) dX3_loseLateBits_1 rfl rfl (by decide) ?_
  exact lp_X3_loseLateBits E hq 64 0 P (by omega) (by omega) hV
theorem ct_X3_endLeaseOf {G : GX} {sh : List SH} (E : EV G sh) {m P : Mem} {q : Nat} (hq : PA q) {c : Int} (h1 : 0 ≤ c ∧ c < 64) (hV : CV P) : CT G sh iX3_endLeaseOf 0 0 [.inr (.ref q), .inl c] (ps m q P) none (ps m q (cElO P c)) := by
  refine j_met (L0 := [some (.inr (.ref q)), some (.inl c)]) (by decide) E.1 E.2.1 rfl (Nat.le_of_ble_eq_true rfl) ?_
  refine j_aload0 (q := 1) dX3_endLeaseOf_0 rfl ?_
  refine j_getR 5 (q := 4) dX3_endLeaseOf_1 rfl fl_X3_31 (E.2.2 _ _ (hq 0 _ rfl)) rfl ?_
  refine j_iload1 (q := 5) dX3_endLeaseOf_4 rfl ?_
  refine j_callV1v (Mc := iX0_endLease) (q := 8) (c' := 0) (s' := 0) dX3_endLeaseOf_5 rfl kV_X0_endLease jw_683 ⟨by decide, by decide⟩ (E.2.2 _ _ (hq 3 _ rfl)) rfl rfl rfl (Nat.le_refl _) (Nat.le_refl _) (ct_X0_endLease E hq (by omega)) ?_
  have h2 : CV (cEl P c) := CV_7 (by omega) (CV_5 (by omega) hV)
  have h3 := h2.2.2.2.1
  refine j_aload0 (q := 9) dX3_endLeaseOf_8 rfl ?_
  refine j_getR 6 (q := 12) dX3_endLeaseOf_9 rfl fl_X3_38 (E.2.2 _ _ (hq 0 _ rfl)) rfl ?_
  refine j_iload1 (q := 13) dX3_endLeaseOf_12 rfl ?_
  refine j_callV1 (Mc := iX1_isOwed) (q := 16) (c' := 0) (s' := 0) dX3_endLeaseOf_13 rfl kV_X1_isOwed jw_524 ⟨by decide, by decide⟩ (E.2.2 _ _ (hq 10 _ rfl)) rfl rfl rfl (Nat.le_refl _) (Nat.le_refl _) (ct_X1_isOwed E hq (by omega)) ?_
  refine j_ifeq_b (tgt := 38) (q := 19) dX3_endLeaseOf_16 (by decide) rfl (fun h16 => ?_) (fun h16 => ?_)
  · exact j_return dX3_endLeaseOf_38 rfl (by unfold cElO; first | (rw [if_pos (by assumption)]; done) | (rw [if_neg (nb (by assumption))]; done))
  · refine j_aload0 (q := 20) dX3_endLeaseOf_19 rfl ?_
    refine j_getR 6 (q := 23) dX3_endLeaseOf_20 rfl fl_X3_38 (E.2.2 _ _ (hq 0 _ rfl)) rfl ?_
    refine j_iload1 (q := 24) dX3_endLeaseOf_23 rfl ?_
    refine j_callV1v (Mc := iX1_strike) (q := 27) (c' := 0) (s' := 0) dX3_endLeaseOf_24 rfl kV_X1_strike jw_661 ⟨by decide, by decide⟩ (E.2.2 _ _ (hq 10 _ rfl)) rfl rfl rfl (Nat.le_refl _) (Nat.le_refl _) (ct_X1_strike E hq (by omega) (by assumption)) ?_
    refine j_aload0 (q := 28) dX3_endLeaseOf_27 rfl ?_
    refine j_getR 4 (q := 31) dX3_endLeaseOf_28 rfl fl_X3_25 (E.2.2 _ _ (hq 0 _ rfl)) rfl ?_
    refine j_bipush (q := 33) dX3_endLeaseOf_31 rfl rfl ?_
    refine j_dup2 (q := 34) dX3_endLeaseOf_33 rfl rfl rfl ?_
    refine j_pload (q := 35) (d := 2) rfl (by decide) dX3_endLeaseOf_34 rfl (E.2.2 _ _ (hq 2 _ rfl)) (by first | exact wr_id' (by omega) (by omega) | with_reducible exact wr_bI _ | exact rfl) (by omega) (by omega) ?_
    refine j_iconst (q := 36) dX3_endLeaseOf_35 rfl ?_
    refine j_iadd (q := 37) dX3_endLeaseOf_36 rfl ?_
    refine j_pstore (q := 38) (d := 2) rfl (by decide) dX3_endLeaseOf_37 rfl (E.2.2 _ _ (hq 2 _ rfl)) (by first | exact wr_id' (by omega) (by omega) | with_reducible exact wr_bI _ | exact rfl) (by omega) (by omega) ?_
    exact j_return dX3_endLeaseOf_38 rfl (by unfold cElO; first | (rw [if_pos (by assumption)]; done) | (rw [if_neg (nb (by assumption))]; done))
theorem lp_X3_tick {G : GX} {sh : List SH} (E : EV G sh) {m : Mem} {q : Nat} (hq : PA q) {F : FinT} : ∀ (d : Nat) (c : Int) (P : Mem), c + d = 64 → 0 ≤ c → CV P → (∀ (x : Mem), x = cTcF d c P → J G sh iX3_tick 0 0 F 115 [some (.inr (.ref q)), none] [] (ps m q x) 0 0) → J G sh iX3_tick 0 0 F 36 [some (.inr (.ref q)), some (.inl c)] [] (ps m q P) 0 0 := by
  intro d
  induction d with
  | zero =>
    intro c P g0 g1 g2 kk
    refine j_iload1 (q := 37) dX3_tick_36 rfl ?_
    refine j_bipush (q := 39) dX3_tick_37 rfl rfl ?_
    refine j_icmp_ge (tgt := 115) (q := 42) dX3_tick_39 (by decide) rfl (by first | exact wr_id' (by omega) (by omega) | with_reducible exact wr_bI _ | exact rfl) (by first | exact wr_id' (by omega) (by omega) | with_reducible exact wr_bI _ | exact rfl) (fun h39 => ?_) (fun h39 => ?_)
    · refine j_fgt1 ?_
      exact kk _ rfl
    · omega
  | succ d ih =>
    intro c P g0 g1 g2 kk
    refine j_iload1 (q := 37) dX3_tick_36 rfl ?_
    refine j_bipush (q := 39) dX3_tick_37 rfl rfl ?_
    refine j_icmp_ge (tgt := 115) (q := 42) dX3_tick_39 (by decide) rfl (by first | exact wr_id' (by omega) (by omega) | with_reducible exact wr_bI _ | exact rfl) (by first | exact wr_id' (by omega) (by omega) | with_reducible exact wr_bI _ | exact rfl) (fun h39 => ?_) (fun h39 => ?_)
    · omega
    · refine j_aload0 (q := 43) dX3_tick_42 rfl ?_
      refine j_getR 5 (q := 46) dX3_tick_43 rfl fl_X3_31 (E.2.2 _ _ (hq 0 _ rfl)) rfl ?_
      refine j_iload1 (q := 47) dX3_tick_46 rfl ?_
      refine j_callV1 (Mc := iX0_hasPolicy) (q := 50) (c' := 0) (s' := 0) dX3_tick_47 rfl kV_X0_hasPolicy jw_472 ⟨by decide, by decide⟩ (E.2.2 _ _ (hq 3 _ rfl)) rfl rfl rfl (Nat.le_refl _) (Nat.le_refl _) (ct_X0_hasPolicy E hq (by omega)) ?_
      refine j_ifeq_b (tgt := 77) (q := 53) dX3_tick_50 (by decide) rfl (fun h50 => ?_) (fun h50 => ?_)
      · refine j_mem (m' := ps m q (cTcA P c)) (by unfold cTcA; first | (rw [if_pos ⟨by assumption, by omega⟩]; done) | (rw [if_neg (fun z => absurd z.2 (by omega))]; done) | (rw [if_neg (fun z => absurd z.1 (nb (by assumption)))]; done)) ?_
        have hA := CV_tcA (c := c) g2
        refine j_aload0 (q := 78) dX3_tick_77 rfl ?_
        refine j_getR 5 (q := 81) dX3_tick_78 rfl fl_X3_31 (E.2.2 _ _ (hq 0 _ rfl)) rfl ?_
        refine j_iload1 (q := 82) dX3_tick_81 rfl ?_
        refine j_callV1 (Mc := iX0_isLeased) (q := 85) (c' := 0) (s' := 0) dX3_tick_82 rfl kV_X0_isLeased jw_464 ⟨by decide, by decide⟩ (E.2.2 _ _ (hq 3 _ rfl)) rfl rfl rfl (Nat.le_refl _) (Nat.le_refl _) (ct_X0_isLeased E hq (by omega)) ?_
        refine j_ifeq_b (tgt := 109) (q := 88) dX3_tick_85 (by decide) rfl (fun h85 => ?_) (fun h85 => ?_)
        · refine j_mem (m' := ps m q (cTcB (cTcA P c) c)) (by unfold cTcB; first | (rw [if_pos ⟨by assumption, by omega⟩]; done) | (rw [if_neg (fun z => absurd z.2 (by omega))]; done) | (rw [if_neg (fun z => absurd z.1 (nb (by assumption)))]; done)) ?_
          refine j_iinc1 (q := 112) dX3_tick_109 rfl rfl (by decide) ?_
          refine j_goto (tgt := 36) dX3_tick_112 (by decide) ?_
          exact ih _ _ (by omega) (by omega) (CV_tcB (CV_tcA g2)) (fun x hx => kk x (hx.trans (rfl)))
        · refine j_aload0 (q := 89) dX3_tick_88 rfl ?_
          refine j_getR 5 (q := 92) dX3_tick_89 rfl fl_X3_31 (E.2.2 _ _ (hq 0 _ rfl)) rfl ?_
          refine j_getR 3 (q := 95) dX3_tick_92 rfl fl_X3_86 (E.2.2 _ _ (hq 3 _ rfl)) rfl ?_
          refine j_iload1 (q := 96) dX3_tick_95 rfl ?_
          refine j_pload (q := 97) (d := 6) rfl (by decide) dX3_tick_96 rfl (E.2.2 _ _ (hq 6 _ rfl)) (by first | exact wr_id' (by omega) (by omega) | with_reducible exact wr_bI _ | exact rfl) (by omega) (by omega) ?_
          refine j_aload0 (q := 98) dX3_tick_97 rfl ?_
          refine j_pgetI (d := 0) rfl (by decide) 0 (j' := 0) (q := 101) dX3_tick_98 rfl fl_X3_9 (E.2.2 _ _ (hq 0 _ rfl)) rfl rfl ?_
          refine j_icmp_gt (tgt := 109) (q := 104) dX3_tick_101 (by decide) rfl rfl rfl (fun h101 => ?_) (fun h101 => ?_)
          · refine j_mem (m' := ps m q (cTcB (cTcA P c) c)) (by unfold cTcB; first | (rw [if_pos ⟨by assumption, by omega⟩]; done) | (rw [if_neg (fun z => absurd z.2 (by omega))]; done) | (rw [if_neg (fun z => absurd z.1 (nb (by assumption)))]; done)) ?_
            refine j_iinc1 (q := 112) dX3_tick_109 rfl rfl (by decide) ?_
            refine j_goto (tgt := 36) dX3_tick_112 (by decide) ?_
            exact ih _ _ (by omega) (by omega) (CV_tcB (CV_tcA g2)) (fun x hx => kk x (hx.trans (rfl)))
          · refine j_aload0 (q := 105) dX3_tick_104 rfl ?_
            refine j_iload1 (q := 106) dX3_tick_105 rfl ?_
            refine j_callV1v (Mc := iX3_endLeaseOf) (q := 109) (c' := 0) (s' := 0) dX3_tick_106 rfl kV_X3_endLeaseOf jw_679 ⟨by decide, by decide⟩ (E.2.2 _ _ (hq 0 _ rfl)) rfl rfl rfl (Nat.le_refl _) (Nat.le_refl _) (ct_X3_endLeaseOf E hq (by omega) (by assumption)) ?_
            refine j_mem (m' := ps m q (cTcB (cTcA P c) c)) (by unfold cTcB; first | (rw [if_pos ⟨by assumption, by omega⟩]; done) | (rw [if_neg (fun z => absurd z.2 (by omega))]; done) | (rw [if_neg (fun z => absurd z.1 (nb (by assumption)))]; done)) ?_
            refine j_iinc1 (q := 112) dX3_tick_109 rfl rfl (by decide) ?_
            refine j_goto (tgt := 36) dX3_tick_112 (by decide) ?_
            exact ih _ _ (by omega) (by omega) (CV_tcB (CV_tcA g2)) (fun x hx => kk x (hx.trans (rfl)))
      · refine j_aload0 (q := 54) dX3_tick_53 rfl ?_
        refine j_getR 5 (q := 57) dX3_tick_54 rfl fl_X3_31 (E.2.2 _ _ (hq 0 _ rfl)) rfl ?_
        refine j_getR 5 (q := 60) dX3_tick_57 rfl fl_X3_92 (E.2.2 _ _ (hq 3 _ rfl)) rfl ?_
        refine j_iload1 (q := 61) dX3_tick_60 rfl ?_
        refine j_pload (q := 62) (d := 8) rfl (by decide) dX3_tick_61 rfl (E.2.2 _ _ (hq 8 _ rfl)) (by first | exact wr_id' (by omega) (by omega) | with_reducible exact wr_bI _ | exact rfl) (by omega) (by omega) ?_
        refine j_aload0 (q := 63) dX3_tick_62 rfl ?_
        refine j_pgetI (d := 0) rfl (by decide) 0 (j' := 0) (q := 66) dX3_tick_63 rfl fl_X3_9 (E.2.2 _ _ (hq 0 _ rfl)) rfl rfl ?_
        refine j_icmp_gt (tgt := 77) (q := 69) dX3_tick_66 (by decide) rfl rfl rfl (fun h66 => ?_) (fun h66 => ?_)
        · refine j_mem (m' := ps m q (cTcA P c)) (by unfold cTcA; first | (rw [if_pos ⟨by assumption, by omega⟩]; done) | (rw [if_neg (fun z => absurd z.2 (by omega))]; done) | (rw [if_neg (fun z => absurd z.1 (nb (by assumption)))]; done)) ?_
          have hA := CV_tcA (c := c) g2
          refine j_aload0 (q := 78) dX3_tick_77 rfl ?_
          refine j_getR 5 (q := 81) dX3_tick_78 rfl fl_X3_31 (E.2.2 _ _ (hq 0 _ rfl)) rfl ?_
          refine j_iload1 (q := 82) dX3_tick_81 rfl ?_
          refine j_callV1 (Mc := iX0_isLeased) (q := 85) (c' := 0) (s' := 0) dX3_tick_82 rfl kV_X0_isLeased jw_464 ⟨by decide, by decide⟩ (E.2.2 _ _ (hq 3 _ rfl)) rfl rfl rfl (Nat.le_refl _) (Nat.le_refl _) (ct_X0_isLeased E hq (by omega)) ?_
          refine j_ifeq_b (tgt := 109) (q := 88) dX3_tick_85 (by decide) rfl (fun h85 => ?_) (fun h85 => ?_)
          · refine j_mem (m' := ps m q (cTcB (cTcA P c) c)) (by unfold cTcB; first | (rw [if_pos ⟨by assumption, by omega⟩]; done) | (rw [if_neg (fun z => absurd z.2 (by omega))]; done) | (rw [if_neg (fun z => absurd z.1 (nb (by assumption)))]; done)) ?_
            refine j_iinc1 (q := 112) dX3_tick_109 rfl rfl (by decide) ?_
            refine j_goto (tgt := 36) dX3_tick_112 (by decide) ?_
            exact ih _ _ (by omega) (by omega) (CV_tcB (CV_tcA g2)) (fun x hx => kk x (hx.trans (rfl)))
          · refine j_aload0 (q := 89) dX3_tick_88 rfl ?_
            refine j_getR 5 (q := 92) dX3_tick_89 rfl fl_X3_31 (E.2.2 _ _ (hq 0 _ rfl)) rfl ?_
            refine j_getR 3 (q := 95) dX3_tick_92 rfl fl_X3_86 (E.2.2 _ _ (hq 3 _ rfl)) rfl ?_
            refine j_iload1 (q := 96) dX3_tick_95 rfl ?_
            refine j_pload (q := 97) (d := 6) rfl (by decide) dX3_tick_96 rfl (E.2.2 _ _ (hq 6 _ rfl)) (by first | exact wr_id' (by omega) (by omega) | with_reducible exact wr_bI _ | exact rfl) (by omega) (by omega) ?_
            refine j_aload0 (q := 98) dX3_tick_97 rfl ?_
            refine j_pgetI (d := 0) rfl (by decide) 0 (j' := 0) (q := 101) dX3_tick_98 rfl fl_X3_9 (E.2.2 _ _ (hq 0 _ rfl)) rfl rfl ?_
            refine j_icmp_gt (tgt := 109) (q := 104) dX3_tick_101 (by decide) rfl rfl rfl (fun h101 => ?_) (fun h101 => ?_)
            · refine j_mem (m' := ps m q (cTcB (cTcA P c) c)) (by unfold cTcB; first | (rw [if_pos ⟨by assumption, by omega⟩]; done) | (rw [if_neg (fun z => absurd z.2 (by omega))]; done) | (rw [if_neg (fun z => absurd z.1 (nb (by assumption)))]; done)) ?_
              refine j_iinc1 (q := 112) dX3_tick_109 rfl rfl (by decide) ?_
              refine j_goto (tgt := 36) dX3_tick_112 (by decide) ?_
              exact ih _ _ (by omega) (by omega) (CV_tcB (CV_tcA g2)) (fun x hx => kk x (hx.trans (rfl)))
            · refine j_aload0 (q := 105) dX3_tick_104 rfl ?_
              refine j_iload1 (q := 106) dX3_tick_105 rfl ?_
              refine j_callV1v (Mc := iX3_endLeaseOf) (q := 109) (c' := 0) (s' := 0) dX3_tick_106 rfl kV_X3_endLeaseOf jw_679 ⟨by decide, by decide⟩ (E.2.2 _ _ (hq 0 _ rfl)) rfl rfl rfl (Nat.le_refl _) (Nat.le_refl _) (ct_X3_endLeaseOf E hq (by omega) (by assumption)) ?_
              refine j_mem (m' := ps m q (cTcB (cTcA P c) c)) (by unfold cTcB; first | (rw [if_pos ⟨by assumption, by omega⟩]; done) | (rw [if_neg (fun z => absurd z.2 (by omega))]; done) | (rw [if_neg (fun z => absurd z.1 (nb (by assumption)))]; done)) ?_
              refine j_iinc1 (q := 112) dX3_tick_109 rfl rfl (by decide) ?_
              refine j_goto (tgt := 36) dX3_tick_112 (by decide) ?_
              exact ih _ _ (by omega) (by omega) (CV_tcB (CV_tcA g2)) (fun x hx => kk x (hx.trans (rfl)))
        · refine j_aload0 (q := 70) dX3_tick_69 rfl ?_
          refine j_getR 5 (q := 73) dX3_tick_70 rfl fl_X3_31 (E.2.2 _ _ (hq 0 _ rfl)) rfl ?_
          refine j_iload1 (q := 74) dX3_tick_73 rfl ?_
          refine j_callV1v (Mc := iX0_endPolicy) (q := 77) (c' := 0) (s' := 0) dX3_tick_74 rfl kV_X0_endPolicy jw_648 ⟨by decide, by decide⟩ (E.2.2 _ _ (hq 3 _ rfl)) rfl rfl rfl (Nat.le_refl _) (Nat.le_refl _) (ct_X0_endPolicy E hq (by omega)) ?_
          refine j_mem (m' := ps m q (cTcA P c)) (by unfold cTcA; first | (rw [if_pos ⟨by assumption, by omega⟩]; done) | (rw [if_neg (fun z => absurd z.2 (by omega))]; done) | (rw [if_neg (fun z => absurd z.1 (nb (by assumption)))]; done)) ?_
          have hA := CV_tcA (c := c) g2
          refine j_aload0 (q := 78) dX3_tick_77 rfl ?_
          refine j_getR 5 (q := 81) dX3_tick_78 rfl fl_X3_31 (E.2.2 _ _ (hq 0 _ rfl)) rfl ?_
          refine j_iload1 (q := 82) dX3_tick_81 rfl ?_
          refine j_callV1 (Mc := iX0_isLeased) (q := 85) (c' := 0) (s' := 0) dX3_tick_82 rfl kV_X0_isLeased jw_464 ⟨by decide, by decide⟩ (E.2.2 _ _ (hq 3 _ rfl)) rfl rfl rfl (Nat.le_refl _) (Nat.le_refl _) (ct_X0_isLeased E hq (by omega)) ?_
          refine j_ifeq_b (tgt := 109) (q := 88) dX3_tick_85 (by decide) rfl (fun h85 => ?_) (fun h85 => ?_)
          · refine j_mem (m' := ps m q (cTcB (cTcA P c) c)) (by unfold cTcB; first | (rw [if_pos ⟨by assumption, by omega⟩]; done) | (rw [if_neg (fun z => absurd z.2 (by omega))]; done) | (rw [if_neg (fun z => absurd z.1 (nb (by assumption)))]; done)) ?_
            refine j_iinc1 (q := 112) dX3_tick_109 rfl rfl (by decide) ?_
            refine j_goto (tgt := 36) dX3_tick_112 (by decide) ?_
            exact ih _ _ (by omega) (by omega) (CV_tcB (CV_tcA g2)) (fun x hx => kk x (hx.trans (rfl)))
          · refine j_aload0 (q := 89) dX3_tick_88 rfl ?_
            refine j_getR 5 (q := 92) dX3_tick_89 rfl fl_X3_31 (E.2.2 _ _ (hq 0 _ rfl)) rfl ?_
            refine j_getR 3 (q := 95) dX3_tick_92 rfl fl_X3_86 (E.2.2 _ _ (hq 3 _ rfl)) rfl ?_
            refine j_iload1 (q := 96) dX3_tick_95 rfl ?_
            refine j_pload (q := 97) (d := 6) rfl (by decide) dX3_tick_96 rfl (E.2.2 _ _ (hq 6 _ rfl)) (by first | exact wr_id' (by omega) (by omega) | with_reducible exact wr_bI _ | exact rfl) (by omega) (by omega) ?_
            refine j_aload0 (q := 98) dX3_tick_97 rfl ?_
            refine j_pgetI (d := 0) rfl (by decide) 0 (j' := 0) (q := 101) dX3_tick_98 rfl fl_X3_9 (E.2.2 _ _ (hq 0 _ rfl)) rfl rfl ?_
            refine j_icmp_gt (tgt := 109) (q := 104) dX3_tick_101 (by decide) rfl rfl rfl (fun h101 => ?_) (fun h101 => ?_)
            · refine j_mem (m' := ps m q (cTcB (cTcA P c) c)) (by unfold cTcB; first | (rw [if_pos ⟨by assumption, by omega⟩]; done) | (rw [if_neg (fun z => absurd z.2 (by omega))]; done) | (rw [if_neg (fun z => absurd z.1 (nb (by assumption)))]; done)) ?_
              refine j_iinc1 (q := 112) dX3_tick_109 rfl rfl (by decide) ?_
              refine j_goto (tgt := 36) dX3_tick_112 (by decide) ?_
              exact ih _ _ (by omega) (by omega) (CV_tcB (CV_tcA g2)) (fun x hx => kk x (hx.trans (rfl)))
            · refine j_aload0 (q := 105) dX3_tick_104 rfl ?_
              refine j_iload1 (q := 106) dX3_tick_105 rfl ?_
              refine j_callV1v (Mc := iX3_endLeaseOf) (q := 109) (c' := 0) (s' := 0) dX3_tick_106 rfl kV_X3_endLeaseOf jw_679 ⟨by decide, by decide⟩ (E.2.2 _ _ (hq 0 _ rfl)) rfl rfl rfl (Nat.le_refl _) (Nat.le_refl _) (ct_X3_endLeaseOf E hq (by omega) (by assumption)) ?_
              refine j_mem (m' := ps m q (cTcB (cTcA P c) c)) (by unfold cTcB; first | (rw [if_pos ⟨by assumption, by omega⟩]; done) | (rw [if_neg (fun z => absurd z.2 (by omega))]; done) | (rw [if_neg (fun z => absurd z.1 (nb (by assumption)))]; done)) ?_
              refine j_iinc1 (q := 112) dX3_tick_109 rfl rfl (by decide) ?_
              refine j_goto (tgt := 36) dX3_tick_112 (by decide) ?_
              exact ih _ _ (by omega) (by omega) (CV_tcB (CV_tcA g2)) (fun x hx => kk x (hx.trans (rfl)))
theorem ct_X3_tick {G : GX} {sh : List SH} (E : EV G sh) {m P : Mem} {q : Nat} (hq : PA q) (hV : CV P) : CT G sh iX3_tick 0 0 [.inr (.ref q)] (ps m q P) none (ps m q (cTk P)) := by
  refine j_met (L0 := [some (.inr (.ref q)), none]) (by decide) E.1 E.2.1 rfl (Nat.le_of_ble_eq_true rfl) ?_
  refine j_aload0 (q := 1) dX3_tick_0 rfl ?_
  refine j_dup (q := 2) dX3_tick_1 rfl rfl ?_
  refine j_pgetI (d := 0) rfl (by decide) 0 (j' := 0) (q := 5) dX3_tick_2 rfl fl_X3_9 (E.2.2 _ _ (hq 0 _ rfl)) rfl rfl ?_
  refine j_iconst (q := 6) dX3_tick_5 rfl ?_
  refine j_iadd (q := 7) dX3_tick_6 rfl ?_
  refine j_pputI (d := 0) rfl (by decide) 0 (j' := 0) (q := 10) dX3_tick_7 rfl fw_X3_9 (E.2.2 _ _ (hq 0 _ rfl)) rfl rfl ?_
  refine j_aload0 (q := 11) dX3_tick_10 rfl ?_
  refine j_iconst (q := 12) dX3_tick_11 rfl ?_
  refine j_aload0 (q := 13) dX3_tick_12 rfl ?_
  refine j_pgetI (d := 0) rfl (by decide) 1 (j' := 1) (q := 16) dX3_tick_13 rfl fl_X3_15 (E.2.2 _ _ (hq 0 _ rfl)) rfl rfl ?_
  refine j_aload0 (q := 17) dX3_tick_16 rfl ?_
  refine j_getR 3 (q := 20) dX3_tick_17 rfl fl_X3_21 (E.2.2 _ _ (hq 0 _ rfl)) rfl ?_
  refine j_bipush (q := 22) dX3_tick_20 rfl rfl ?_
  refine j_pload (q := 23) (d := 1) rfl (by decide) dX3_tick_22 rfl (E.2.2 _ _ (hq 1 _ rfl)) (by first | exact wr_id' (by omega) (by omega) | with_reducible exact wr_bI _ | exact rfl) (by omega) (by omega) ?_
  refine j_isub (q := 24) dX3_tick_23 rfl ?_
  refine j_max (q := 27) dX3_tick_24 rfl jw_505 ⟨by decide, Nat.le_of_ble_eq_true rfl⟩ (Nat.le_refl _) (Nat.le_refl _) ?_
  refine j_pputI (d := 0) rfl (by decide) 1 (j' := 1) (q := 30) dX3_tick_27 rfl fw_X3_15 (E.2.2 _ _ (hq 0 _ rfl)) rfl rfl ?_
  refine j_mem (m' := ps m q (cTk0 P)) rfl ?_
  have h2 := CV_tk0 hV
  refine j_aload0 (q := 31) dX3_tick_30 rfl ?_
  refine j_callV0v (Mc := iX3_loseLateBits) (q := 34) (c' := 0) (s' := 0) dX3_tick_31 rfl kV_X3_loseLateBits jw_674 ⟨by decide, by decide⟩ (E.2.2 _ _ (hq 0 _ rfl)) rfl rfl rfl (Nat.le_refl _) (Nat.le_refl _) (ct_X3_loseLateBits E hq (by assumption)) ?_
  refine j_iconst (q := 35) dX3_tick_34 rfl ?_
  refine j_istore1 (q := 36) dX3_tick_35 rfl rfl (by decide) ?_
  refine lp_X3_tick E hq 64 0 (cLtF 64 (cTk0 P)) (by omega) (by omega) (CV_ltF 64 _ h2) ?_
  intro x hx
  have hx2 : x = cTk P := hx
  exact j_return dX3_tick_115 rfl (by rw [hx2])
theorem lp_X3_letPass {G : GX} {sh : List SH} (E : EV G sh) {m : Mem} {q : Nat} (hq : PA q) {F : FinT} {t : Int} (ht : 0 ≤ t ∧ t ≤ 100) : ∀ (d : Nat) (i : Int) (P : Mem), i + d = t → 0 ≤ i → CV P → (∀ (x : Mem), x = cTkN d P → J G sh iX3_letPass 0 0 F 17 [some (.inr (.ref q)), some (.inl t), none] [] (ps m q x) 0 0) → J G sh iX3_letPass 0 0 F 2 [some (.inr (.ref q)), some (.inl t), some (.inl i)] [] (ps m q P) 0 0 := by
  intro d
  induction d with
  | zero =>
    intro i P g0 g1 g2 kk
    refine j_iload2 (q := 3) dX3_letPass_2 rfl ?_
    refine j_iload1 (q := 4) dX3_letPass_3 rfl ?_
    refine j_icmp_ge (tgt := 17) (q := 7) dX3_letPass_4 (by decide) rfl (by first | exact wr_id' (by omega) (by omega) | with_reducible exact wr_bI _ | exact rfl) (by first | exact wr_id' (by omega) (by omega) | with_reducible exact wr_bI _ | exact rfl) (fun h4 => ?_) (fun h4 => ?_)
    · refine j_fgt2 ?_
      exact kk _ rfl
    · omega
  | succ d ih =>
    intro i P g0 g1 g2 kk
    refine j_iload2 (q := 3) dX3_letPass_2 rfl ?_
    refine j_iload1 (q := 4) dX3_letPass_3 rfl ?_
    refine j_icmp_ge (tgt := 17) (q := 7) dX3_letPass_4 (by decide) rfl (by first | exact wr_id' (by omega) (by omega) | with_reducible exact wr_bI _ | exact rfl) (by first | exact wr_id' (by omega) (by omega) | with_reducible exact wr_bI _ | exact rfl) (fun h4 => ?_) (fun h4 => ?_)
    · omega
    · refine j_aload0 (q := 8) dX3_letPass_7 rfl ?_
      refine j_callV0v (Mc := iX3_tick) (q := 11) (c' := 0) (s' := 0) dX3_letPass_8 rfl kV_X3_tick jw_816 ⟨by decide, by decide⟩ (E.2.2 _ _ (hq 0 _ rfl)) rfl rfl rfl (Nat.le_refl _) (Nat.le_refl _) (ct_X3_tick E hq (by assumption)) ?_
      refine j_iinc2 (q := 14) dX3_letPass_11 rfl rfl (by decide) ?_
      refine j_goto (tgt := 2) dX3_letPass_14 (by decide) ?_
      exact ih _ _ (by omega) (by omega) (CV_tk g2) (fun x hx => kk x (hx.trans (rfl)))
theorem ct_X3_letPass {G : GX} {sh : List SH} (E : EV G sh) {m P : Mem} {q : Nat} (hq : PA q) {t : Int} (ht : 0 ≤ t ∧ t ≤ 100) (hV : CV P) : CT G sh iX3_letPass 0 0 [.inr (.ref q), .inl t] (ps m q P) none (ps m q (cTkN t.toNat P)) := by
  refine j_met (L0 := [some (.inr (.ref q)), some (.inl t), none]) (by decide) E.1 E.2.1 rfl (Nat.le_of_ble_eq_true rfl) ?_
  refine j_iconst (q := 1) dX3_letPass_0 rfl ?_
  refine j_istore2 (q := 2) dX3_letPass_1 rfl rfl (by decide) ?_
  refine lp_X3_letPass E hq ht t.toNat 0 P (by omega) (by omega) hV ?_
  intro x hx
  exact j_return dX3_letPass_17 rfl (by rw [hx])

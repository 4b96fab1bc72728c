/-! the model: its small methods -/
theorem ct_X8_within {G : GX} (E : EV G) {m : Mem} {v : Int} {a : Int} {b : Int} (h1 : -2147483648 ≤ v ∧ v < 2147483648) (h2 : -2147483648 ≤ a ∧ a < 2147483648) (h3 : -2147483648 ≤ b ∧ b < 2147483648) : CT G SHP iX8_within 0 0 [.inl v, .inl a, .inl b] (m) (some (.inl (bI (wi v a b)))) (m) := by
  refine j_met (L0 := [some (.inl v), some (.inl a), some (.inl b)]) (by decide) E.1 E.2 rfl (Nat.le_of_ble_eq_true rfl) ?_
  refine j_iload0 (q := 1) dX8_within_0 rfl ?_
  refine j_iload1 (q := 2) dX8_within_1 rfl ?_
  refine j_icmp_lt (tgt := 14) (q := 5) dX8_within_2 (by decide) rfl (by first | exact wr_id' (by omega) (by omega) | with_reducible exact wr_bI _ | exact rfl) (by first | exact wr_id' (by omega) (by omega) | with_reducible exact wr_bI _ | exact rfl) (fun h2 => ?_) (fun h2 => ?_)
  · refine j_iconst (q := 15) dX8_within_14 rfl ?_
    exact j_zreturn dX8_within_15 rfl (by decide) (by first | exact bI_t (by omega) | exact bI_f (by omega) | simp [bI, *]) (rfl)
  · refine j_iload0 (q := 6) dX8_within_5 rfl ?_
    refine j_iload2 (q := 7) dX8_within_6 rfl ?_
    refine j_icmp_gt (tgt := 14) (q := 10) dX8_within_7 (by decide) rfl (by first | exact wr_id' (by omega) (by omega) | with_reducible exact wr_bI _ | exact rfl) (by first | exact wr_id' (by omega) (by omega) | with_reducible exact wr_bI _ | exact rfl) (fun h7 => ?_) (fun h7 => ?_)
    · refine j_iconst (q := 15) dX8_within_14 rfl ?_
      exact j_zreturn dX8_within_15 rfl (by decide) (by first | exact bI_t (by omega) | exact bI_f (by omega) | simp [bI, *]) (rfl)
    · refine j_iconst (q := 11) dX8_within_10 rfl ?_
      refine j_goto (tgt := 15) dX8_within_11 (by decide) ?_
      exact j_zreturn dX8_within_15 rfl (by decide) (by first | exact bI_t (by omega) | exact bI_f (by omega) | simp [bI, *]) (rfl)
theorem ct_X8_less {G : GX} (E : EV G) {m : Mem} {a : Int} {b : Int} : CT G SHP iX8_less 0 0 [.inl a, .inl b] (m) (some (.inl (zLess a b))) (m) := by
  refine j_met (L0 := [some (.inl a), some (.inl b)]) (by decide) E.1 E.2 rfl (Nat.le_of_ble_eq_true rfl) ?_
  refine j_iload0 (q := 1) dX8_less_0 rfl ?_
  refine j_iload1 (q := 2) dX8_less_1 rfl ?_
  refine j_icmp_ge (tgt := 9) (q := 5) dX8_less_2 (by decide) rfl rfl rfl (fun h2 => ?_) (fun h2 => ?_)
  · refine j_iload1 (q := 10) dX8_less_9 rfl ?_
    exact j_ireturn dX8_less_10 rfl (by unfold zLess; first | rw [if_pos (by omega)] | rw [if_neg (by omega)]) (rfl)
  · refine j_iload0 (q := 6) dX8_less_5 rfl ?_
    refine j_goto (tgt := 10) dX8_less_6 (by decide) ?_
    exact j_ireturn dX8_less_10 rfl (by unfold zLess; first | rw [if_pos (by omega)] | rw [if_neg (by omega)]) (rfl)
theorem ct_X8_notBelow {G : GX} (E : EV G) {m : Mem} {v : Int} : CT G SHP iX8_notBelow 0 0 [.inl v] (m) (some (.inl (zNB v))) (m) := by
  refine j_met (L0 := [some (.inl v)]) (by decide) E.1 E.2 rfl (Nat.le_of_ble_eq_true rfl) ?_
  refine j_iload0 (q := 1) dX8_notBelow_0 rfl ?_
  refine j_if_ge (tgt := 8) (q := 4) dX8_notBelow_1 (by decide) rfl rfl (fun h1 => ?_) (fun h1 => ?_)
  · refine j_iload0 (q := 9) dX8_notBelow_8 rfl ?_
    exact j_ireturn dX8_notBelow_9 rfl (by unfold zNB; first | rw [if_pos (by omega)] | rw [if_neg (by omega)]) (rfl)
  · refine j_iconst (q := 5) dX8_notBelow_4 rfl ?_
    refine j_goto (tgt := 9) dX8_notBelow_5 (by decide) ?_
    exact j_ireturn dX8_notBelow_9 rfl (by unfold zNB; first | rw [if_pos (by omega)] | rw [if_neg (by omega)]) (rfl)
theorem ct_X8_isCore {G : GX} (E : EV G) {m : Mem} {c : Int} (h1 : -2147483648 ≤ c ∧ c < 2147483648) : CT G SHP iX8_isCore 0 0 [.inl c] (m) (some (.inl (bI (wi c 0 63)))) (m) := by
  refine j_met (L0 := [some (.inl c)]) (by decide) E.1 E.2 rfl (Nat.le_of_ble_eq_true rfl) ?_
  refine j_iload0 (q := 1) dX8_isCore_0 rfl ?_
  refine j_iconst (q := 2) dX8_isCore_1 rfl ?_
  refine j_bipush (q := 4) dX8_isCore_2 rfl rfl ?_
  refine j_callS3 (Mc := iX8_within) (q := 7) (c' := 0) (s' := 0) dX8_isCore_4 rfl kS_X8_within jw_1035 ⟨by decide, by decide⟩ rfl (Nat.le_refl _) (Nat.le_refl _) (ct_X8_within E (by omega) (by omega) (by omega)) ?_
  exact j_zreturn dX8_isCore_7 rfl (bI_01 _) (rfl) (rfl)
theorem ct_X8_isTenant {G : GX} (E : EV G) {m : Mem} {z : Z} {t : Int} (h1 : -2147483648 ≤ t ∧ t < 2147483648) (h2 : 0 ≤ z 2 ∧ z 2 ≤ 6) : CT G SHP iX8_isTenant 0 0 [.inr (.ref 197), .inl t] (sz m z) (some (.inl (bI (wi t 0 (z 2 - 1))))) (sz m z) := by
  refine j_met (L0 := [some (.inr (.ref 197)), some (.inl t)]) (by decide) E.1 E.2 rfl (Nat.le_of_ble_eq_true rfl) ?_
  refine j_iload1 (q := 1) dX8_isTenant_0 rfl ?_
  refine j_iconst (q := 2) dX8_isTenant_1 rfl ?_
  refine j_aload0 (q := 3) dX8_isTenant_2 rfl ?_
  refine j_getR 0 (q := 6) dX8_isTenant_3 rfl fl_X8_7 sh_197 rfl ?_
  refine j_iconst (q := 7) dX8_isTenant_6 rfl ?_
  refine j_zload (q := 8) dX8_isTenant_7 rfl (by first | exact wr_id' (by omega) (by omega) | with_reducible exact wr_bI _ | exact rfl) (by omega) (by omega) ?_
  refine j_iconst (q := 9) dX8_isTenant_8 rfl ?_
  refine j_isub (q := 10) dX8_isTenant_9 rfl ?_
  refine j_callS3 (Mc := iX8_within) (q := 13) (c' := 0) (s' := 0) dX8_isTenant_10 rfl kS_X8_within jw_1035 ⟨by decide, by decide⟩ rfl (Nat.le_refl _) (Nat.le_refl _) (ct_X8_within E (by omega) (by omega) (by omega)) ?_
  exact j_zreturn dX8_isTenant_13 rfl (bI_01 _) (rfl) (rfl)
theorem ct_X8_isInsurer {G : GX} (E : EV G) {m : Mem} {z : Z} {t : Int} (h1 : -2147483648 ≤ t ∧ t < 2147483648) (h2 : 0 ≤ z 3 ∧ z 3 ≤ 3) : CT G SHP iX8_isInsurer 0 0 [.inr (.ref 197), .inl t] (sz m z) (some (.inl (bI (wi t 0 (z 3 - 1))))) (sz m z) := by
  refine j_met (L0 := [some (.inr (.ref 197)), some (.inl t)]) (by decide) E.1 E.2 rfl (Nat.le_of_ble_eq_true rfl) ?_
  refine j_iload1 (q := 1) dX8_isInsurer_0 rfl ?_
  refine j_iconst (q := 2) dX8_isInsurer_1 rfl ?_
  refine j_aload0 (q := 3) dX8_isInsurer_2 rfl ?_
  refine j_getR 0 (q := 6) dX8_isInsurer_3 rfl fl_X8_7 sh_197 rfl ?_
  refine j_iconst (q := 7) dX8_isInsurer_6 rfl ?_
  refine j_zload (q := 8) dX8_isInsurer_7 rfl (by first | exact wr_id' (by omega) (by omega) | with_reducible exact wr_bI _ | exact rfl) (by omega) (by omega) ?_
  refine j_iconst (q := 9) dX8_isInsurer_8 rfl ?_
  refine j_isub (q := 10) dX8_isInsurer_9 rfl ?_
  refine j_callS3 (Mc := iX8_within) (q := 13) (c' := 0) (s' := 0) dX8_isInsurer_10 rfl kS_X8_within jw_1035 ⟨by decide, by decide⟩ rfl (Nat.le_refl _) (Nat.le_refl _) (ct_X8_within E (by omega) (by omega) (by omega)) ?_
  exact j_zreturn dX8_isInsurer_13 rfl (bI_01 _) (rfl) (rfl)
theorem ct_X8_of {G : GX} (E : EV G) {m : Mem} {z : Z} {c : Int} {w : Int} (h1 : 0 ≤ c ∧ c < 64) (h2 : 0 ≤ w ∧ w < 9) : CT G SHP iX8_of 0 0 [.inr (.ref 197), .inl c, .inl w] (sz m z) (some (.inl (z (59 + 9 * c + w)))) (sz m z) := by
  refine j_met (L0 := [some (.inr (.ref 197)), some (.inl c), some (.inl w)]) (by decide) E.1 E.2 rfl (Nat.le_of_ble_eq_true rfl) ?_
  refine j_aload0 (q := 1) dX8_of_0 rfl ?_
  refine j_getR 0 (q := 4) dX8_of_1 rfl fl_X8_7 sh_197 rfl ?_
  refine j_bipush (q := 6) dX8_of_4 rfl rfl ?_
  refine j_bipush (q := 8) dX8_of_6 rfl rfl ?_
  refine j_iload1 (q := 9) dX8_of_8 rfl ?_
  refine j_imul (q := 10) dX8_of_9 rfl ?_
  refine j_iadd (q := 11) dX8_of_10 rfl ?_
  refine j_iload2 (q := 12) dX8_of_11 rfl ?_
  refine j_iadd (q := 13) dX8_of_12 rfl ?_
  refine j_zload (q := 14) dX8_of_13 rfl (by first | exact wr_id' (by omega) (by omega) | with_reducible exact wr_bI _ | exact rfl) (by omega) (by omega) ?_
  exact j_ireturn dX8_of_14 rfl (rfl) (rfl)
theorem ct_X8_lay {G : GX} (E : EV G) {m : Mem} {z : Z} {c : Int} {w : Int} {v : Int} (h1 : 0 ≤ c ∧ c < 64) (h2 : 0 ≤ w ∧ w < 9) : CT G SHP iX8_lay 0 0 [.inr (.ref 197), .inl c, .inl w, .inl v] (sz m z) none (sz m (u1 z (59 + 9 * c + w) v)) := by
  refine j_met (L0 := [some (.inr (.ref 197)), some (.inl c), some (.inl w), some (.inl v)]) (by decide) E.1 E.2 rfl (Nat.le_of_ble_eq_true rfl) ?_
  refine j_aload0 (q := 1) dX8_lay_0 rfl ?_
  refine j_getR 0 (q := 4) dX8_lay_1 rfl fl_X8_7 sh_197 rfl ?_
  refine j_bipush (q := 6) dX8_lay_4 rfl rfl ?_
  refine j_bipush (q := 8) dX8_lay_6 rfl rfl ?_
  refine j_iload1 (q := 9) dX8_lay_8 rfl ?_
  refine j_imul (q := 10) dX8_lay_9 rfl ?_
  refine j_iadd (q := 11) dX8_lay_10 rfl ?_
  refine j_iload2 (q := 12) dX8_lay_11 rfl ?_
  refine j_iadd (q := 13) dX8_lay_12 rfl ?_
  refine j_iload3 (q := 14) dX8_lay_13 rfl ?_
  refine j_zstore (q := 15) dX8_lay_14 rfl (by first | exact wr_id' (by omega) (by omega) | with_reducible exact wr_bI _ | exact rfl) (by omega) (by omega) ?_
  exact j_return dX8_lay_15 rfl (rfl)
theorem ct_X8_ofTenant {G : GX} (E : EV G) {m : Mem} {z : Z} {c : Int} {w : Int} (h1 : 0 ≤ c ∧ c < 6) (h2 : 0 ≤ w ∧ w < 3) : CT G SHP iX8_ofTenant 0 0 [.inr (.ref 197), .inl c, .inl w] (sz m z) (some (.inl (z (23 + 3 * c + w)))) (sz m z) := by
  refine j_met (L0 := [some (.inr (.ref 197)), some (.inl c), some (.inl w)]) (by decide) E.1 E.2 rfl (Nat.le_of_ble_eq_true rfl) ?_
  refine j_aload0 (q := 1) dX8_ofTenant_0 rfl ?_
  refine j_getR 0 (q := 4) dX8_ofTenant_1 rfl fl_X8_7 sh_197 rfl ?_
  refine j_bipush (q := 6) dX8_ofTenant_4 rfl rfl ?_
  refine j_iconst (q := 7) dX8_ofTenant_6 rfl ?_
  refine j_iload1 (q := 8) dX8_ofTenant_7 rfl ?_
  refine j_imul (q := 9) dX8_ofTenant_8 rfl ?_
  refine j_iadd (q := 10) dX8_ofTenant_9 rfl ?_
  refine j_iload2 (q := 11) dX8_ofTenant_10 rfl ?_
  refine j_iadd (q := 12) dX8_ofTenant_11 rfl ?_
  refine j_zload (q := 13) dX8_ofTenant_12 rfl (by first | exact wr_id' (by omega) (by omega) | with_reducible exact wr_bI _ | exact rfl) (by omega) (by omega) ?_
  exact j_ireturn dX8_ofTenant_13 rfl (rfl) (rfl)
theorem ct_X8_ofInsurer {G : GX} (E : EV G) {m : Mem} {z : Z} {c : Int} {w : Int} (h1 : 0 ≤ c ∧ c < 3) (h2 : 0 ≤ w ∧ w < 6) : CT G SHP iX8_ofInsurer 0 0 [.inr (.ref 197), .inl c, .inl w] (sz m z) (some (.inl (z (41 + 6 * c + w)))) (sz m z) := by
  refine j_met (L0 := [some (.inr (.ref 197)), some (.inl c), some (.inl w)]) (by decide) E.1 E.2 rfl (Nat.le_of_ble_eq_true rfl) ?_
  refine j_aload0 (q := 1) dX8_ofInsurer_0 rfl ?_
  refine j_getR 0 (q := 4) dX8_ofInsurer_1 rfl fl_X8_7 sh_197 rfl ?_
  refine j_bipush (q := 6) dX8_ofInsurer_4 rfl rfl ?_
  refine j_bipush (q := 8) dX8_ofInsurer_6 rfl rfl ?_
  refine j_iload1 (q := 9) dX8_ofInsurer_8 rfl ?_
  refine j_imul (q := 10) dX8_ofInsurer_9 rfl ?_
  refine j_iadd (q := 11) dX8_ofInsurer_10 rfl ?_
  refine j_iload2 (q := 12) dX8_ofInsurer_11 rfl ?_
  refine j_iadd (q := 13) dX8_ofInsurer_12 rfl ?_
  refine j_zload (q := 14) dX8_ofInsurer_13 rfl (by first | exact wr_id' (by omega) (by omega) | with_reducible exact wr_bI _ | exact rfl) (by omega) (by omega) ?_
  exact j_ireturn dX8_ofInsurer_14 rfl (rfl) (rfl)
theorem ct_X8_rule {G : GX} (E : EV G) {m : Mem} {z : Z} {s : Int} (h1 : 0 ≤ s ∧ s < 8) : CT G SHP iX8_rule 0 0 [.inr (.ref 197), .inl s] (sz m z) (some (.inl (z (15 + s)))) (sz m z) := by
  refine j_met (L0 := [some (.inr (.ref 197)), some (.inl s)]) (by decide) E.1 E.2 rfl (Nat.le_of_ble_eq_true rfl) ?_
  refine j_aload0 (q := 1) dX8_rule_0 rfl ?_
  refine j_getR 0 (q := 4) dX8_rule_1 rfl fl_X8_7 sh_197 rfl ?_
  refine j_bipush (q := 6) dX8_rule_4 rfl rfl ?_
  refine j_iload1 (q := 7) dX8_rule_6 rfl ?_
  refine j_iadd (q := 8) dX8_rule_7 rfl ?_
  refine j_zload (q := 9) dX8_rule_8 rfl (by first | exact wr_id' (by omega) (by omega) | with_reducible exact wr_bI _ | exact rfl) (by omega) (by omega) ?_
  exact j_ireturn dX8_rule_9 rfl (rfl) (rfl)
theorem ct_X8_fails {G : GX} (E : EV G) {m : Mem} {z : Z} {b : Int} : CT G SHP iX8_fails 0 0 [.inr (.ref 197), .inl b] (sz m z) (some (.inl 0)) (sz (up m 197 12 b) z) := by
  refine j_met (L0 := [some (.inr (.ref 197)), some (.inl b)]) (by decide) E.1 E.2 rfl (Nat.le_of_ble_eq_true rfl) ?_
  refine j_aload0 (q := 1) dX8_fails_0 rfl ?_
  refine j_iload1 (q := 2) dX8_fails_1 rfl ?_
  refine j_nputI (by decide) 12 (j' := 12) (q := 5) dX8_fails_2 rfl fw_X8_38 sh_197 rfl rfl ?_
  refine j_iconst (q := 6) dX8_fails_5 rfl ?_
  exact j_ireturn dX8_fails_6 rfl (rfl) (rfl)
theorem ct_X8_thrown {G : GX} (E : EV G) {m : Mem} {z : Z} : CT G SHP iX8_thrown 0 0 [.inr (.ref 197)] (sz m z) (some (.inl (m 197 12))) (sz m z) := by
  refine j_met (L0 := [some (.inr (.ref 197))]) (by decide) E.1 E.2 rfl (Nat.le_of_ble_eq_true rfl) ?_
  refine j_aload0 (q := 1) dX8_thrown_0 rfl ?_
  refine j_ngetI (by decide) 12 (j' := 12) (q := 4) dX8_thrown_1 rfl fl_X8_38 sh_197 rfl rfl ?_
  exact j_ireturn dX8_thrown_4 rfl (rfl) (rfl)
theorem ct_X8_isLeased {G : GX} (E : EV G) {m : Mem} {z : Z} {c : Int} (h1 : 0 ≤ c ∧ c < 64) : CT G SHP iX8_isLeased 0 0 [.inr (.ref 197), .inl c] (sz m z) (some (.inl (bI (zLs z c)))) (sz m z) := by
  refine j_met (L0 := [some (.inr (.ref 197)), some (.inl c)]) (by decide) E.1 E.2 rfl (Nat.le_of_ble_eq_true rfl) ?_
  refine j_aload0 (q := 1) dX8_isLeased_0 rfl ?_
  refine j_iload1 (q := 2) dX8_isLeased_1 rfl ?_
  refine j_iconst (q := 3) dX8_isLeased_2 rfl ?_
  refine j_callV2 (Mc := iX8_of) (q := 6) (c' := 0) (s' := 0) dX8_isLeased_3 rfl kV_X8_of jw_1079 ⟨by decide, by decide⟩ sh_197 rfl rfl rfl (Nat.le_refl _) (Nat.le_refl _) (ct_X8_of E (by omega) (by omega)) ?_
  refine j_if_le (tgt := 13) (q := 9) dX8_isLeased_6 (by decide) rfl (by first | exact wr_id' (by omega) (by omega) | with_reducible exact wr_bI _ | exact rfl) (fun h6 => ?_) (fun h6 => ?_)
  · refine j_iconst (q := 14) dX8_isLeased_13 rfl ?_
    exact j_zreturn dX8_isLeased_14 rfl (by decide) (by first | exact bI_t (by omega) | exact bI_f (by omega) | simp [bI, *]) (rfl)
  · refine j_iconst (q := 10) dX8_isLeased_9 rfl ?_
    refine j_goto (tgt := 14) dX8_isLeased_10 (by decide) ?_
    exact j_zreturn dX8_isLeased_14 rfl (by decide) (by first | exact bI_t (by omega) | exact bI_f (by omega) | simp [bI, *]) (rfl)
theorem ct_X8_isOwed {G : GX} (E : EV G) {m : Mem} {z : Z} {c : Int} (h1 : 0 ≤ c ∧ c < 64) : CT G SHP iX8_isOwed 0 0 [.inr (.ref 197), .inl c] (sz m z) (some (.inl (bI (zOw z c)))) (sz m z) := by
  refine j_met (L0 := [some (.inr (.ref 197)), some (.inl c)]) (by decide) E.1 E.2 rfl (Nat.le_of_ble_eq_true rfl) ?_
  refine j_aload0 (q := 1) dX8_isOwed_0 rfl ?_
  refine j_iload1 (q := 2) dX8_isOwed_1 rfl ?_
  refine j_bipush (q := 4) dX8_isOwed_2 rfl rfl ?_
  refine j_callV2 (Mc := iX8_of) (q := 7) (c' := 0) (s' := 0) dX8_isOwed_4 rfl kV_X8_of jw_1079 ⟨by decide, by decide⟩ sh_197 rfl rfl rfl (Nat.le_refl _) (Nat.le_refl _) (ct_X8_of E (by omega) (by omega)) ?_
  refine j_if_le (tgt := 14) (q := 10) dX8_isOwed_7 (by decide) rfl (by first | exact wr_id' (by omega) (by omega) | with_reducible exact wr_bI _ | exact rfl) (fun h7 => ?_) (fun h7 => ?_)
  · refine j_iconst (q := 15) dX8_isOwed_14 rfl ?_
    exact j_zreturn dX8_isOwed_15 rfl (by decide) (by first | exact bI_t (by omega) | exact bI_f (by omega) | simp [bI, *]) (rfl)
  · refine j_iconst (q := 11) dX8_isOwed_10 rfl ?_
    refine j_goto (tgt := 15) dX8_isOwed_11 (by decide) ?_
    exact j_zreturn dX8_isOwed_15 rfl (by decide) (by first | exact bI_t (by omega) | exact bI_f (by omega) | simp [bI, *]) (rfl)
theorem ct_X8_canRead {G : GX} (E : EV G) {m : Mem} {z : Z} {c : Int} (h1 : 0 ≤ c ∧ c < 64) : CT G SHP iX8_canRead 0 0 [.inr (.ref 197), .inl c] (sz m z) (some (.inl (bI (zCR z c)))) (sz m z) := by
  refine j_met (L0 := [some (.inr (.ref 197)), some (.inl c)]) (by decide) E.1 E.2 rfl (Nat.le_of_ble_eq_true rfl) ?_
  refine j_aload0 (q := 1) dX8_canRead_0 rfl ?_
  refine j_iload1 (q := 2) dX8_canRead_1 rfl ?_
  refine j_callV1 (Mc := iX8_isLeased) (q := 5) (c' := 0) (s' := 0) dX8_canRead_2 rfl kV_X8_isLeased jw_1075 ⟨by decide, by decide⟩ sh_197 rfl rfl rfl (Nat.le_refl _) (Nat.le_refl _) (ct_X8_isLeased E (by omega)) ?_
  refine j_ifeq_b (tgt := 20) (q := 8) dX8_canRead_5 (by decide) rfl (fun h5 => ?_) (fun h5 => ?_)
  · refine j_iconst (q := 21) dX8_canRead_20 rfl ?_
    exact j_zreturn dX8_canRead_21 rfl (by decide) (by simp [bI, zCR, *]) (rfl)
  · refine j_aload0 (q := 9) dX8_canRead_8 rfl ?_
    refine j_iload1 (q := 10) dX8_canRead_9 rfl ?_
    refine j_callV1 (Mc := iX8_isOwed) (q := 13) (c' := 0) (s' := 0) dX8_canRead_10 rfl kV_X8_isOwed jw_1152 ⟨by decide, by decide⟩ sh_197 rfl rfl rfl (Nat.le_refl _) (Nat.le_refl _) (ct_X8_isOwed E (by omega)) ?_
    refine j_ifne_b (tgt := 20) (q := 16) dX8_canRead_13 (by decide) rfl (fun h13 => ?_) (fun h13 => ?_)
    · refine j_iconst (q := 21) dX8_canRead_20 rfl ?_
      exact j_zreturn dX8_canRead_21 rfl (by decide) (by simp [bI, zCR, *]) (rfl)
    · refine j_iconst (q := 17) dX8_canRead_16 rfl ?_
      refine j_goto (tgt := 21) dX8_canRead_17 (by decide) ?_
      exact j_zreturn dX8_canRead_21 rfl (by decide) (by simp [bI, zCR, *]) (rfl)

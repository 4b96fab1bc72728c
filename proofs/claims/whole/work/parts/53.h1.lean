/-! the model: insure, where it may not -/
theorem ct_X8_insure_e3 {G : GX} (E : EV G) {m : Mem} {z : Z} {K : Int} {c : Int} {i : Int} {k : Int} (r_c : -2147483648 ≤ c ∧ c < 2147483648) (r_i : -2147483648 ≤ i ∧ i < 2147483648) (r_k : -2147483648 ≤ k ∧ k < 2147483648) (hs : 0 ≤ m 197 10 ∧ m 197 10 ≤ 6) (h3 : 0 ≤ z 3 ∧ z 3 ≤ 3) (hw : ∀ c, 0 ≤ c → c < 64 → 0 ≤ z (59 + 9 * c + 2) ∧ z (59 + 9 * c + 2) ≤ 6) (hc : 0 ≤ c ∧ c < 64) (hi : 0 ≤ i ∧ i < z 3) (hk : 1 ≤ k ∧ k ≤ 200) (hm : ¬ (zLs z c = true ∧ wr (z (59 + 9 * c + 4)) = 0 ∧ k ≤ wr (z (59 + 9 * c + 3)) ∧ ¬ wr (z (23 + 3 * (z (59 + 9 * c + 2) - 1) + 0)) < wr (zPrem z c i k (z 1)))) : CT G SHP iX8_insure 0 0 [.inr (.ref 197), .inl c, .inl i, .inl k] (sz m z) (some (.inl 0)) (sz (up m 197 12 3) z) := by
  refine j_met (L0 := [some (.inr (.ref 197)), some (.inl c), some (.inl i), some (.inl k), none, none]) (by decide) E.1 E.2 rfl (Nat.le_of_ble_eq_true rfl) ?_
  refine j_aload0 (q := 1) dX8_insure_0 rfl ?_
  refine j_iconst (q := 2) dX8_insure_1 rfl ?_
  refine j_nputI (by decide) 12 (j' := 12) (q := 5) dX8_insure_2 rfl fw_X8_38 sh_197 rfl rfl ?_
  refine j_mem (m' := sz (th0 m) z) rfl ?_
  refine j_iload1 (q := 6) dX8_insure_5 rfl ?_
  refine j_callS1 (Mc := iX8_isCore) (q := 9) (c' := 0) (s' := 0) dX8_insure_6 rfl kS_X8_isCore jw_1065 ⟨by decide, by decide⟩ rfl (Nat.le_refl _) (Nat.le_refl _) (ct_X8_isCore E (by omega)) ?_
  refine j_ifeq_b (tgt := 20) (q := 12) dX8_insure_9 (by decide) rfl (fun h9 => ?_) (fun h9 => ?_)
  · exfalso
    first | omega | (simp only [wi, decide_eq_true_eq, decide_eq_false_iff_not] at *; omega) | (simp_all [wi]; done) | (simp_all [wi]; omega)
  · refine j_aload0 (q := 13) dX8_insure_12 rfl ?_
    refine j_iload2 (q := 14) dX8_insure_13 rfl ?_
    refine j_callV1 (Mc := iX8_isInsurer) (q := 17) (c' := 0) (s' := 0) dX8_insure_14 rfl kV_X8_isInsurer jw_1091 ⟨by decide, by decide⟩ sh_197 rfl rfl rfl (Nat.le_refl _) (Nat.le_refl _) (ct_X8_isInsurer E (by omega) (by omega)) ?_
    refine j_ifne_b (tgt := 26) (q := 20) dX8_insure_17 (by decide) rfl (fun h17 => ?_) (fun h17 => ?_)
    · refine j_iload3 (q := 27) dX8_insure_26 rfl ?_
      refine j_callS1 (Mc := iX8_areTicks) (q := 30) (c' := 0) (s' := 0) dX8_insure_27 rfl kS_X8_areTicks jw_1072 ⟨by decide, by decide⟩ rfl (Nat.le_refl _) (Nat.le_refl _) (ct_X8_areTicks E (by omega)) ?_
      refine j_ifne_b (tgt := 39) (q := 33) dX8_insure_30 (by decide) rfl (fun h30 => ?_) (fun h30 => ?_)
      · refine j_aload0 (q := 40) dX8_insure_39 rfl ?_
        refine j_iload1 (q := 41) dX8_insure_40 rfl ?_
        refine j_iload2 (q := 42) dX8_insure_41 rfl ?_
        refine j_iload3 (q := 43) dX8_insure_42 rfl ?_
        refine j_callV3 (Mc := iX8_premiumNow) (q := 46) (c' := 0) (s' := 0) dX8_insure_43 rfl kV_X8_premiumNow jw_1095 ⟨by decide, by decide⟩ sh_197 rfl rfl rfl (Nat.le_refl _) (Nat.le_refl _) (ct_X8_premiumNow E (by omega) (by omega)) ?_
        refine j_istore4 (q := 48) dX8_insure_46 rfl rfl (by decide) ?_
        refine j_aload0 (q := 49) dX8_insure_48 rfl ?_
        refine j_iload1 (q := 50) dX8_insure_49 rfl ?_
        refine j_callV1 (Mc := iX8_isLeased) (q := 53) (c' := 0) (s' := 0) dX8_insure_50 rfl kV_X8_isLeased jw_1075 ⟨by decide, by decide⟩ sh_197 rfl rfl rfl (Nat.le_refl _) (Nat.le_refl _) (ct_X8_isLeased E (by omega)) ?_
        refine j_ifeq_b (tgt := 79) (q := 56) dX8_insure_53 (by decide) rfl (fun h53 => ?_) (fun h53 => ?_)
        · refine j_iconst (q := 80) dX8_insure_79 rfl ?_
          refine j_istore5 (q := 82) dX8_insure_80 rfl rfl (by decide) ?_
          refine j_iload5 (q := 84) dX8_insure_82 rfl ?_
          refine j_if_eq (tgt := 105) (q := 87) dX8_insure_84 (by decide) rfl (by first | exact wr_id' (by omega) (by omega) | with_reducible exact wr_bI _ | exact rfl) (fun h84 => ?_) (fun h84 => ?_)
          · refine j_aload0 (q := 106) dX8_insure_105 rfl ?_
            refine j_iconst (q := 107) dX8_insure_106 rfl ?_
            refine j_callV1 (Mc := iX8_fails) (q := 110) (c' := 0) (s' := 0) dX8_insure_107 rfl kV_X8_fails jw_1038 ⟨by decide, by decide⟩ sh_197 rfl rfl rfl (Nat.le_refl _) (Nat.le_refl _) (ct_X8_fails E) ?_
            exact j_ireturn dX8_insure_110 rfl (rfl) (by rw [th0, up_up])
          · omega
        · have hwc := hw c hc.1 hc.2
          have hl2 : 0 < z (59 + 9 * c + 2) := (zLs_p hwc).mp h53
          refine j_aload0 (q := 57) dX8_insure_56 rfl ?_
          refine j_iload1 (q := 58) dX8_insure_57 rfl ?_
          refine j_iconst (q := 59) dX8_insure_58 rfl ?_
          refine j_callV2 (Mc := iX8_of) (q := 62) (c' := 0) (s' := 0) dX8_insure_59 rfl kV_X8_of jw_1079 ⟨by decide, by decide⟩ sh_197 rfl rfl rfl (Nat.le_refl _) (Nat.le_refl _) (ct_X8_of E (by omega) (by omega)) ?_
          refine j_if_ne (tgt := 79) (q := 65) dX8_insure_62 (by decide) rfl rfl (fun h62 => ?_) (fun h62 => ?_)
          · refine j_iconst (q := 80) dX8_insure_79 rfl ?_
            refine j_istore5 (q := 82) dX8_insure_80 rfl rfl (by decide) ?_
            refine j_iload5 (q := 84) dX8_insure_82 rfl ?_
            refine j_if_eq (tgt := 105) (q := 87) dX8_insure_84 (by decide) rfl (by first | exact wr_id' (by omega) (by omega) | with_reducible exact wr_bI _ | exact rfl) (fun h84 => ?_) (fun h84 => ?_)
            · refine j_aload0 (q := 106) dX8_insure_105 rfl ?_
              refine j_iconst (q := 107) dX8_insure_106 rfl ?_
              refine j_callV1 (Mc := iX8_fails) (q := 110) (c' := 0) (s' := 0) dX8_insure_107 rfl kV_X8_fails jw_1038 ⟨by decide, by decide⟩ sh_197 rfl rfl rfl (Nat.le_refl _) (Nat.le_refl _) (ct_X8_fails E) ?_
              exact j_ireturn dX8_insure_110 rfl (rfl) (by rw [th0, up_up])
            · omega
          · refine j_aload0 (q := 66) dX8_insure_65 rfl ?_
            refine j_iload1 (q := 67) dX8_insure_66 rfl ?_
            refine j_iconst (q := 68) dX8_insure_67 rfl ?_
            refine j_callV2 (Mc := iX8_of) (q := 71) (c' := 0) (s' := 0) dX8_insure_68 rfl kV_X8_of jw_1079 ⟨by decide, by decide⟩ sh_197 rfl rfl rfl (Nat.le_refl _) (Nat.le_refl _) (ct_X8_of E (by omega) (by omega)) ?_
            refine j_iload3 (q := 72) dX8_insure_71 rfl ?_
            refine j_icmp_lt (tgt := 79) (q := 75) dX8_insure_72 (by decide) rfl rfl (by first | exact wr_id' (by omega) (by omega) | with_reducible exact wr_bI _ | exact rfl) (fun h72 => ?_) (fun h72 => ?_)
            · refine j_iconst (q := 80) dX8_insure_79 rfl ?_
              refine j_istore5 (q := 82) dX8_insure_80 rfl rfl (by decide) ?_
              refine j_iload5 (q := 84) dX8_insure_82 rfl ?_
              refine j_if_eq (tgt := 105) (q := 87) dX8_insure_84 (by decide) rfl (by first | exact wr_id' (by omega) (by omega) | with_reducible exact wr_bI _ | exact rfl) (fun h84 => ?_) (fun h84 => ?_)
              · refine j_aload0 (q := 106) dX8_insure_105 rfl ?_
                refine j_iconst (q := 107) dX8_insure_106 rfl ?_
                refine j_callV1 (Mc := iX8_fails) (q := 110) (c' := 0) (s' := 0) dX8_insure_107 rfl kV_X8_fails jw_1038 ⟨by decide, by decide⟩ sh_197 rfl rfl rfl (Nat.le_refl _) (Nat.le_refl _) (ct_X8_fails E) ?_
                exact j_ireturn dX8_insure_110 rfl (rfl) (by rw [th0, up_up])
              · omega
            · refine j_iconst (q := 76) dX8_insure_75 rfl ?_
              refine j_goto (tgt := 80) dX8_insure_76 (by decide) ?_
              refine j_istore5 (q := 82) dX8_insure_80 rfl rfl (by decide) ?_
              refine j_iload5 (q := 84) dX8_insure_82 rfl ?_
              refine j_if_eq (tgt := 105) (q := 87) dX8_insure_84 (by decide) rfl (by first | exact wr_id' (by omega) (by omega) | with_reducible exact wr_bI _ | exact rfl) (fun h84 => ?_) (fun h84 => ?_)
              · omega
              · refine j_aload0 (q := 88) dX8_insure_87 rfl ?_
                refine j_aload0 (q := 89) dX8_insure_88 rfl ?_
                refine j_iload1 (q := 90) dX8_insure_89 rfl ?_
                refine j_iconst (q := 91) dX8_insure_90 rfl ?_
                refine j_callV2 (Mc := iX8_of) (q := 94) (c' := 0) (s' := 0) dX8_insure_91 rfl kV_X8_of jw_1079 ⟨by decide, by decide⟩ sh_197 rfl rfl rfl (Nat.le_refl _) (Nat.le_refl _) (ct_X8_of E (by omega) (by omega)) ?_
                refine j_iconst (q := 95) dX8_insure_94 rfl ?_
                refine j_isub (q := 96) dX8_insure_95 rfl ?_
                refine j_iconst (q := 97) dX8_insure_96 rfl ?_
                refine j_callV2 (Mc := iX8_ofTenant) (q := 100) (c' := 0) (s' := 0) dX8_insure_97 rfl kV_X8_ofTenant jw_1083 ⟨by decide, by decide⟩ sh_197 rfl rfl rfl (Nat.le_refl _) (Nat.le_refl _) (ct_X8_ofTenant E (by omega) (by omega)) ?_
                refine j_iload4 (q := 102) dX8_insure_100 rfl ?_
                refine j_icmp_ge (tgt := 111) (q := 105) dX8_insure_102 (by decide) rfl rfl rfl (fun h102 => ?_) (fun h102 => ?_)
                · exact absurd (⟨h53, by omega, by omega, by omega⟩ : zLs z c = true ∧ wr (z (59 + 9 * c + 4)) = 0 ∧ k ≤ wr (z (59 + 9 * c + 3)) ∧ ¬ wr (z (23 + 3 * (z (59 + 9 * c + 2) - 1) + 0)) < wr (zPrem z c i k (z 1))) hm
                · refine j_aload0 (q := 106) dX8_insure_105 rfl ?_
                  refine j_iconst (q := 107) dX8_insure_106 rfl ?_
                  refine j_callV1 (Mc := iX8_fails) (q := 110) (c' := 0) (s' := 0) dX8_insure_107 rfl kV_X8_fails jw_1038 ⟨by decide, by decide⟩ sh_197 rfl rfl rfl (Nat.le_refl _) (Nat.le_refl _) (ct_X8_fails E) ?_
                  exact j_ireturn dX8_insure_110 rfl (rfl) (by rw [th0, up_up])
      · exfalso
        first | omega | (simp only [wi, decide_eq_true_eq, decide_eq_false_iff_not] at *; omega) | (simp_all [wi]; done) | (simp_all [wi]; omega)
    · exfalso
      first | omega | (simp only [wi, decide_eq_true_eq, decide_eq_false_iff_not] at *; omega) | (simp_all [wi]; done) | (simp_all [wi]; omega)

/-! the model: its public methods -/
def zAT (z : Z) (v : Int) : Z := u1 (u1 z (23 + 3 * z 2) v) 2 (u1 z (23 + 3 * z 2) v 2 + 1)
def zAI (z : Z) (f r c : Int) : Z :=
  let z1 := u1 (u1 (u1 z (41 + 6 * z 3 + 0) f) (41 + 6 * z 3 + 1) r) (41 + 6 * z 3 + 2) c
  u1 z1 3 (z1 3 + 1)
theorem zMost_b (s : Int) : 0 ≤ zMost s ∧ zMost s ≤ 100 := by unfold zMost; split; omega; split; omega; split <;> omega
def zLe (z : Z) (c t k : Int) : Z :=
  let z1 := u1 z (23 + 3 * t) (z (23 + 3 * t) - k * z (15 + 0))
  let z2 := u1 z1 12 (z1 12 + k * z (15 + 0))
  u1 (u1 z2 (59 + 9 * c + 2) (t + 1)) (59 + 9 * c + 3) k
def zIn0 (z : Z) (c i k : Int) : Z :=
  let p := zPrem z c i k (z 1)
  let z1 := u1 z (23 + 3 * (z (59 + 9 * c + 2) - 1)) (z (23 + 3 * (z (59 + 9 * c + 2) - 1)) - p)
  let z2 := u1 z1 (41 + 6 * i + 0) (z1 (41 + 6 * i + 0) + p)
  let z3 := u1 z2 (41 + 6 * i + 4) (z2 (41 + 6 * i + 4) + p)
  u1 (u1 z3 (59 + 9 * c + 4) (i + 1)) (59 + 9 * c + 5) k
def zIn (z : Z) (c i k : Int) : Z := zPay (zIn0 z c i k) i
def zRen (z : Z) (c : Int) : Z :=
  let z1 := u1 (u1 z (59 + 9 * c + 1) 100) (59 + 9 * c + 0) 0
  let z2 := u1 z1 12 (z1 12 - z1 (15 + 7))
  u1 z2 13 (z2 13 + z2 (15 + 7))
def mApp (m : Mem) (c : Int) : Mem := up (up m 201 (m 197 11) c) 197 11 (m 197 11 + 1)
theorem ct_X8_addTenant_ok {G : GX} (E : EV G) {m : Mem} {z : Z} {K : Int} {v : Int} (r_v : -2147483648 ≤ v ∧ v < 2147483648) (hs : 0 ≤ m 197 10 ∧ m 197 10 ≤ 6) (h2 : 0 ≤ z 2 ∧ z 2 ≤ 6) (hv : 0 ≤ v ∧ v ≤ 10000) (hn : z 2 < 6) : CT G SHP iX8_addTenant 0 0 [.inr (.ref 197), .inl v] (sz m z) (some (.inl (zAT z v 2 - 1))) (sz (zSv z (th0 m)) (zAT z v)) := by
  refine j_met (L0 := [some (.inr (.ref 197)), some (.inl v)]) (by decide) E.1 E.2 rfl (Nat.le_of_ble_eq_true rfl) ?_
  refine j_aload0 (q := 1) dX8_addTenant_0 rfl ?_
  refine j_iconst (q := 2) dX8_addTenant_1 rfl ?_
  refine j_nputI (by decide) 12 (j' := 12) (q := 5) dX8_addTenant_2 rfl fw_X8_38 sh_197 rfl rfl ?_
  refine j_mem (m' := sz (th0 m) z) rfl ?_
  have e10 : th0 m 197 10 = m 197 10 := up_ne (by omega)
  have e11 : th0 m 197 11 = m 197 11 := up_ne (by omega)
  refine j_iload1 (q := 6) dX8_addTenant_5 rfl ?_
  refine j_iconst (q := 7) dX8_addTenant_6 rfl ?_
  refine j_sipush (q := 10) dX8_addTenant_7 rfl rfl ?_
  refine j_callS3 (Mc := iX8_within) (q := 13) (c' := 0) (s' := 0) dX8_addTenant_10 rfl kS_X8_within jw_1035 ⟨by decide, by decide⟩ rfl (Nat.le_refl _) (Nat.le_refl _) (ct_X8_within E (by omega) (by omega) (by omega)) ?_
  refine j_ifne_b (tgt := 22) (q := 16) dX8_addTenant_13 (by decide) rfl (fun h13 => ?_) (fun h13 => ?_)
  · refine j_aload0 (q := 23) dX8_addTenant_22 rfl ?_
    refine j_getR 0 (q := 26) dX8_addTenant_23 rfl fl_X8_7 sh_197 rfl ?_
    refine j_iconst (q := 27) dX8_addTenant_26 rfl ?_
    refine j_zload (q := 28) dX8_addTenant_27 rfl (by first | exact wr_id' (by omega) (by omega) | with_reducible exact wr_bI _ | exact rfl) (by omega) (by omega) ?_
    refine j_bipush (q := 30) dX8_addTenant_28 rfl rfl ?_
    refine j_icmp_ne (tgt := 39) (q := 33) dX8_addTenant_30 (by decide) rfl (by first | exact wr_id' (by omega) (by omega) | with_reducible exact wr_bI _ | exact rfl) (by first | exact wr_id' (by omega) (by omega) | with_reducible exact wr_bI _ | exact rfl) (fun h30 => ?_) (fun h30 => ?_)
    · refine j_aload0 (q := 40) dX8_addTenant_39 rfl ?_
      refine j_callV0v (Mc := iX8_save) (q := 43) (c' := 0) (s' := 0) dX8_addTenant_40 rfl kV_X8_save jw_1042 ⟨by decide, by decide⟩ sh_197 rfl rfl rfl (Nat.le_refl _) (Nat.le_refl _) (ct_X8_save E (by first | assumption | omega)) ?_
      refine j_aload0 (q := 44) dX8_addTenant_43 rfl ?_
      refine j_getR 0 (q := 47) dX8_addTenant_44 rfl fl_X8_7 sh_197 rfl ?_
      refine j_bipush (q := 49) dX8_addTenant_47 rfl rfl ?_
      refine j_iconst (q := 50) dX8_addTenant_49 rfl ?_
      refine j_aload0 (q := 51) dX8_addTenant_50 rfl ?_
      refine j_getR 0 (q := 54) dX8_addTenant_51 rfl fl_X8_7 sh_197 rfl ?_
      refine j_iconst (q := 55) dX8_addTenant_54 rfl ?_
      refine j_zload (q := 56) dX8_addTenant_55 rfl (by first | exact wr_id' (by omega) (by omega) | with_reducible exact wr_bI _ | exact rfl) (by omega) (by omega) ?_
      refine j_imul (q := 57) dX8_addTenant_56 rfl ?_
      refine j_iadd (q := 58) dX8_addTenant_57 rfl ?_
      refine j_iload1 (q := 59) dX8_addTenant_58 rfl ?_
      refine j_zstore (q := 60) dX8_addTenant_59 rfl (by first | exact wr_id' (by omega) (by omega) | with_reducible exact wr_bI _ | exact rfl) (by omega) (by omega) ?_
      refine j_aload0 (q := 61) dX8_addTenant_60 rfl ?_
      refine j_getR 0 (q := 64) dX8_addTenant_61 rfl fl_X8_7 sh_197 rfl ?_
      refine j_iconst (q := 65) dX8_addTenant_64 rfl ?_
      refine j_dup2 (q := 66) dX8_addTenant_65 rfl rfl rfl ?_
      refine j_zload (q := 67) dX8_addTenant_66 rfl (by first | exact wr_id' (by omega) (by omega) | with_reducible exact wr_bI _ | exact rfl) (by omega) (by omega) ?_
      refine j_iconst (q := 68) dX8_addTenant_67 rfl ?_
      refine j_iadd (q := 69) dX8_addTenant_68 rfl ?_
      refine j_zstore (q := 70) dX8_addTenant_69 rfl (by first | exact wr_id' (by omega) (by omega) | with_reducible exact wr_bI _ | exact rfl) (by omega) (by omega) ?_
      refine j_aload0 (q := 71) dX8_addTenant_70 rfl ?_
      refine j_getR 0 (q := 74) dX8_addTenant_71 rfl fl_X8_7 sh_197 rfl ?_
      refine j_iconst (q := 75) dX8_addTenant_74 rfl ?_
      refine j_zload (q := 76) dX8_addTenant_75 rfl (by first | exact wr_id' (by omega) (by omega) | with_reducible exact wr_bI _ | exact rfl) (by omega) (by omega) ?_
      refine j_iconst (q := 77) dX8_addTenant_76 rfl ?_
      refine j_isub (q := 78) dX8_addTenant_77 rfl ?_
      exact j_ireturn dX8_addTenant_78 rfl (rfl) (rfl)
    · exfalso
      first | omega | (simp only [wi, decide_eq_true_eq, decide_eq_false_iff_not] at *; omega) | (simp_all [wi]; done) | (simp_all [wi]; omega)
  · exfalso
    first | omega | (simp only [wi, decide_eq_true_eq, decide_eq_false_iff_not] at *; omega) | (simp_all [wi]; done) | (simp_all [wi]; omega)
theorem ct_X8_addTenant_e1 {G : GX} (E : EV G) {m : Mem} {z : Z} {K : Int} {v : Int} (r_v : -2147483648 ≤ v ∧ v < 2147483648) (hs : 0 ≤ m 197 10 ∧ m 197 10 ≤ 6) (h2 : 0 ≤ z 2 ∧ z 2 ≤ 6) (hv : ¬ (0 ≤ v ∧ v ≤ 10000)) : CT G SHP iX8_addTenant 0 0 [.inr (.ref 197), .inl v] (sz m z) (some (.inl 0)) (sz (up m 197 12 1) z) := by
  refine j_met (L0 := [some (.inr (.ref 197)), some (.inl v)]) (by decide) E.1 E.2 rfl (Nat.le_of_ble_eq_true rfl) ?_
  refine j_aload0 (q := 1) dX8_addTenant_0 rfl ?_
  refine j_iconst (q := 2) dX8_addTenant_1 rfl ?_
  refine j_nputI (by decide) 12 (j' := 12) (q := 5) dX8_addTenant_2 rfl fw_X8_38 sh_197 rfl rfl ?_
  refine j_mem (m' := sz (th0 m) z) rfl ?_
  have e10 : th0 m 197 10 = m 197 10 := up_ne (by omega)
  have e11 : th0 m 197 11 = m 197 11 := up_ne (by omega)
  refine j_iload1 (q := 6) dX8_addTenant_5 rfl ?_
  refine j_iconst (q := 7) dX8_addTenant_6 rfl ?_
  refine j_sipush (q := 10) dX8_addTenant_7 rfl rfl ?_
  refine j_callS3 (Mc := iX8_within) (q := 13) (c' := 0) (s' := 0) dX8_addTenant_10 rfl kS_X8_within jw_1035 ⟨by decide, by decide⟩ rfl (Nat.le_refl _) (Nat.le_refl _) (ct_X8_within E (by omega) (by omega) (by omega)) ?_
  refine j_ifne_b (tgt := 22) (q := 16) dX8_addTenant_13 (by decide) rfl (fun h13 => ?_) (fun h13 => ?_)
  · exfalso
    first | omega | (simp only [wi, decide_eq_true_eq, decide_eq_false_iff_not] at *; omega) | (simp_all [wi]; done) | (simp_all [wi]; omega)
  · refine j_aload0 (q := 17) dX8_addTenant_16 rfl ?_
    refine j_iconst (q := 18) dX8_addTenant_17 rfl ?_
    refine j_callV1 (Mc := iX8_fails) (q := 21) (c' := 0) (s' := 0) dX8_addTenant_18 rfl kV_X8_fails jw_1038 ⟨by decide, by decide⟩ sh_197 rfl rfl rfl (Nat.le_refl _) (Nat.le_refl _) (ct_X8_fails E) ?_
    exact j_ireturn dX8_addTenant_21 rfl (rfl) (by rw [th0, up_up])
theorem ct_X8_addTenant_e2 {G : GX} (E : EV G) {m : Mem} {z : Z} {K : Int} {v : Int} (r_v : -2147483648 ≤ v ∧ v < 2147483648) (hs : 0 ≤ m 197 10 ∧ m 197 10 ≤ 6) (h2 : 0 ≤ z 2 ∧ z 2 ≤ 6) (hv : 0 ≤ v ∧ v ≤ 10000) (hn : z 2 = 6) : CT G SHP iX8_addTenant 0 0 [.inr (.ref 197), .inl v] (sz m z) (some (.inl 0)) (sz (up m 197 12 2) z) := by
  refine j_met (L0 := [some (.inr (.ref 197)), some (.inl v)]) (by decide) E.1 E.2 rfl (Nat.le_of_ble_eq_true rfl) ?_
  refine j_aload0 (q := 1) dX8_addTenant_0 rfl ?_
  refine j_iconst (q := 2) dX8_addTenant_1 rfl ?_
  refine j_nputI (by decide) 12 (j' := 12) (q := 5) dX8_addTenant_2 rfl fw_X8_38 sh_197 rfl rfl ?_
  refine j_mem (m' := sz (th0 m) z) rfl ?_
  have e10 : th0 m 197 10 = m 197 10 := up_ne (by omega)
  have e11 : th0 m 197 11 = m 197 11 := up_ne (by omega)
  refine j_iload1 (q := 6) dX8_addTenant_5 rfl ?_
  refine j_iconst (q := 7) dX8_addTenant_6 rfl ?_
  refine j_sipush (q := 10) dX8_addTenant_7 rfl rfl ?_
  refine j_callS3 (Mc := iX8_within) (q := 13) (c' := 0) (s' := 0) dX8_addTenant_10 rfl kS_X8_within jw_1035 ⟨by decide, by decide⟩ rfl (Nat.le_refl _) (Nat.le_refl _) (ct_X8_within E (by omega) (by omega) (by omega)) ?_
  refine j_ifne_b (tgt := 22) (q := 16) dX8_addTenant_13 (by decide) rfl (fun h13 => ?_) (fun h13 => ?_)
  · refine j_aload0 (q := 23) dX8_addTenant_22 rfl ?_
    refine j_getR 0 (q := 26) dX8_addTenant_23 rfl fl_X8_7 sh_197 rfl ?_
    refine j_iconst (q := 27) dX8_addTenant_26 rfl ?_
    refine j_zload (q := 28) dX8_addTenant_27 rfl (by first | exact wr_id' (by omega) (by omega) | with_reducible exact wr_bI _ | exact rfl) (by omega) (by omega) ?_
    refine j_bipush (q := 30) dX8_addTenant_28 rfl rfl ?_
    refine j_icmp_ne (tgt := 39) (q := 33) dX8_addTenant_30 (by decide) rfl (by first | exact wr_id' (by omega) (by omega) | with_reducible exact wr_bI _ | exact rfl) (by first | exact wr_id' (by omega) (by omega) | with_reducible exact wr_bI _ | exact rfl) (fun h30 => ?_) (fun h30 => ?_)
    · exfalso
      first | omega | (simp only [wi, decide_eq_true_eq, decide_eq_false_iff_not] at *; omega) | (simp_all [wi]; done) | (simp_all [wi]; omega)
    · refine j_aload0 (q := 34) dX8_addTenant_33 rfl ?_
      refine j_iconst (q := 35) dX8_addTenant_34 rfl ?_
      refine j_callV1 (Mc := iX8_fails) (q := 38) (c' := 0) (s' := 0) dX8_addTenant_35 rfl kV_X8_fails jw_1038 ⟨by decide, by decide⟩ sh_197 rfl rfl rfl (Nat.le_refl _) (Nat.le_refl _) (ct_X8_fails E) ?_
      exact j_ireturn dX8_addTenant_38 rfl (rfl) (by rw [th0, up_up])
  · exfalso
    first | omega | (simp only [wi, decide_eq_true_eq, decide_eq_false_iff_not] at *; omega) | (simp_all [wi]; done) | (simp_all [wi]; omega)
theorem ct_X8_addInsurer_ok {G : GX} (E : EV G) {m : Mem} {z : Z} {K : Int} {f : Int} {r : Int} {c : Int} (r_f : -2147483648 ≤ f ∧ f < 2147483648) (r_r : -2147483648 ≤ r ∧ r < 2147483648) (r_c : -2147483648 ≤ c ∧ c < 2147483648) (hs : 0 ≤ m 197 10 ∧ m 197 10 ≤ 6) (h3 : 0 ≤ z 3 ∧ z 3 ≤ 3) (ha : 0 ≤ f ∧ f ≤ 10000) (hb : 1 ≤ r ∧ r ≤ 200) (hc : 1 ≤ c ∧ c ≤ 500) (hn : z 3 < 3) : CT G SHP iX8_addInsurer 0 0 [.inr (.ref 197), .inl f, .inl r, .inl c] (sz m z) (some (.inl (zAI z f r c 3 - 1))) (sz (zSv z (th0 m)) (zAI z f r c)) := by
  refine j_met (L0 := [some (.inr (.ref 197)), some (.inl f), some (.inl r), some (.inl c), none]) (by decide) E.1 E.2 rfl (Nat.le_of_ble_eq_true rfl) ?_
  refine j_aload0 (q := 1) dX8_addInsurer_0 rfl ?_
  refine j_iconst (q := 2) dX8_addInsurer_1 rfl ?_
  refine j_nputI (by decide) 12 (j' := 12) (q := 5) dX8_addInsurer_2 rfl fw_X8_38 sh_197 rfl rfl ?_
  refine j_mem (m' := sz (th0 m) z) rfl ?_
  have e10 : th0 m 197 10 = m 197 10 := up_ne (by omega)
  have e11 : th0 m 197 11 = m 197 11 := up_ne (by omega)
  refine j_iload1 (q := 6) dX8_addInsurer_5 rfl ?_
  refine j_iconst (q := 7) dX8_addInsurer_6 rfl ?_
  refine j_sipush (q := 10) dX8_addInsurer_7 rfl rfl ?_
  refine j_callS3 (Mc := iX8_within) (q := 13) (c' := 0) (s' := 0) dX8_addInsurer_10 rfl kS_X8_within jw_1035 ⟨by decide, by decide⟩ rfl (Nat.le_refl _) (Nat.le_refl _) (ct_X8_within E (by omega) (by omega) (by omega)) ?_
  refine j_ifeq_b (tgt := 38) (q := 16) dX8_addInsurer_13 (by decide) rfl (fun h13 => ?_) (fun h13 => ?_)
  · exfalso
    first | omega | (simp only [wi, decide_eq_true_eq, decide_eq_false_iff_not] at *; omega) | (simp_all [wi]; done) | (simp_all [wi]; omega)
  · refine j_iload2 (q := 17) dX8_addInsurer_16 rfl ?_
    refine j_iconst (q := 18) dX8_addInsurer_17 rfl ?_
    refine j_sipush (q := 21) dX8_addInsurer_18 rfl rfl ?_
    refine j_callS3 (Mc := iX8_within) (q := 24) (c' := 0) (s' := 0) dX8_addInsurer_21 rfl kS_X8_within jw_1035 ⟨by decide, by decide⟩ rfl (Nat.le_refl _) (Nat.le_refl _) (ct_X8_within E (by omega) (by omega) (by omega)) ?_
    refine j_ifeq_b (tgt := 38) (q := 27) dX8_addInsurer_24 (by decide) rfl (fun h24 => ?_) (fun h24 => ?_)
    · exfalso
      first | omega | (simp only [wi, decide_eq_true_eq, decide_eq_false_iff_not] at *; omega) | (simp_all [wi]; done) | (simp_all [wi]; omega)
    · refine j_iload3 (q := 28) dX8_addInsurer_27 rfl ?_
      refine j_iconst (q := 29) dX8_addInsurer_28 rfl ?_
      refine j_sipush (q := 32) dX8_addInsurer_29 rfl rfl ?_
      refine j_callS3 (Mc := iX8_within) (q := 35) (c' := 0) (s' := 0) dX8_addInsurer_32 rfl kS_X8_within jw_1035 ⟨by decide, by decide⟩ rfl (Nat.le_refl _) (Nat.le_refl _) (ct_X8_within E (by omega) (by omega) (by omega)) ?_
      refine j_ifne_b (tgt := 44) (q := 38) dX8_addInsurer_35 (by decide) rfl (fun h35 => ?_) (fun h35 => ?_)
      · refine j_aload0 (q := 45) dX8_addInsurer_44 rfl ?_
        refine j_getR 0 (q := 48) dX8_addInsurer_45 rfl fl_X8_7 sh_197 rfl ?_
        refine j_iconst (q := 49) dX8_addInsurer_48 rfl ?_
        refine j_zload (q := 50) dX8_addInsurer_49 rfl (by first | exact wr_id' (by omega) (by omega) | with_reducible exact wr_bI _ | exact rfl) (by omega) (by omega) ?_
        refine j_iconst (q := 51) dX8_addInsurer_50 rfl ?_
        refine j_icmp_ne (tgt := 60) (q := 54) dX8_addInsurer_51 (by decide) rfl (by first | exact wr_id' (by omega) (by omega) | with_reducible exact wr_bI _ | exact rfl) (by first | exact wr_id' (by omega) (by omega) | with_reducible exact wr_bI _ | exact rfl) (fun h51 => ?_) (fun h51 => ?_)
        · refine j_aload0 (q := 61) dX8_addInsurer_60 rfl ?_
          refine j_callV0v (Mc := iX8_save) (q := 64) (c' := 0) (s' := 0) dX8_addInsurer_61 rfl kV_X8_save jw_1042 ⟨by decide, by decide⟩ sh_197 rfl rfl rfl (Nat.le_refl _) (Nat.le_refl _) (ct_X8_save E (by first | assumption | omega)) ?_
          refine j_bipush (q := 66) dX8_addInsurer_64 rfl rfl ?_
          refine j_bipush (q := 68) dX8_addInsurer_66 rfl rfl ?_
          refine j_aload0 (q := 69) dX8_addInsurer_68 rfl ?_
          refine j_getR 0 (q := 72) dX8_addInsurer_69 rfl fl_X8_7 sh_197 rfl ?_
          refine j_iconst (q := 73) dX8_addInsurer_72 rfl ?_
          refine j_zload (q := 74) dX8_addInsurer_73 rfl (by first | exact wr_id' (by omega) (by omega) | with_reducible exact wr_bI _ | exact rfl) (by omega) (by omega) ?_
          refine j_imul (q := 75) dX8_addInsurer_74 rfl ?_
          refine j_iadd (q := 76) dX8_addInsurer_75 rfl ?_
          refine j_istore4 (q := 78) dX8_addInsurer_76 rfl rfl (by decide) ?_
          refine j_aload0 (q := 79) dX8_addInsurer_78 rfl ?_
          refine j_getR 0 (q := 82) dX8_addInsurer_79 rfl fl_X8_7 sh_197 rfl ?_
          refine j_iload4 (q := 84) dX8_addInsurer_82 rfl ?_
          refine j_iconst (q := 85) dX8_addInsurer_84 rfl ?_
          refine j_iadd (q := 86) dX8_addInsurer_85 rfl ?_
          refine j_iload1 (q := 87) dX8_addInsurer_86 rfl ?_
          refine j_zstore (q := 88) dX8_addInsurer_87 rfl (by first | exact wr_id' (by omega) (by omega) | with_reducible exact wr_bI _ | exact rfl) (by omega) (by omega) ?_
          refine j_aload0 (q := 89) dX8_addInsurer_88 rfl ?_
          refine j_getR 0 (q := 92) dX8_addInsurer_89 rfl fl_X8_7 sh_197 rfl ?_
          refine j_iload4 (q := 94) dX8_addInsurer_92 rfl ?_
          refine j_iconst (q := 95) dX8_addInsurer_94 rfl ?_
          refine j_iadd (q := 96) dX8_addInsurer_95 rfl ?_
          refine j_iload2 (q := 97) dX8_addInsurer_96 rfl ?_
          refine j_zstore (q := 98) dX8_addInsurer_97 rfl (by first | exact wr_id' (by omega) (by omega) | with_reducible exact wr_bI _ | exact rfl) (by omega) (by omega) ?_
          refine j_aload0 (q := 99) dX8_addInsurer_98 rfl ?_
          refine j_getR 0 (q := 102) dX8_addInsurer_99 rfl fl_X8_7 sh_197 rfl ?_
          refine j_iload4 (q := 104) dX8_addInsurer_102 rfl ?_
          refine j_iconst (q := 105) dX8_addInsurer_104 rfl ?_
          refine j_iadd (q := 106) dX8_addInsurer_105 rfl ?_
          refine j_iload3 (q := 107) dX8_addInsurer_106 rfl ?_
          refine j_zstore (q := 108) dX8_addInsurer_107 rfl (by first | exact wr_id' (by omega) (by omega) | with_reducible exact wr_bI _ | exact rfl) (by omega) (by omega) ?_
          refine j_aload0 (q := 109) dX8_addInsurer_108 rfl ?_
          refine j_getR 0 (q := 112) dX8_addInsurer_109 rfl fl_X8_7 sh_197 rfl ?_
          refine j_iconst (q := 113) dX8_addInsurer_112 rfl ?_
          refine j_dup2 (q := 114) dX8_addInsurer_113 rfl rfl rfl ?_
          refine j_zload (q := 115) dX8_addInsurer_114 rfl (by first | exact wr_id' (by omega) (by omega) | with_reducible exact wr_bI _ | exact rfl) (by omega) (by omega) ?_
          refine j_iconst (q := 116) dX8_addInsurer_115 rfl ?_
          refine j_iadd (q := 117) dX8_addInsurer_116 rfl ?_
          refine j_zstore (q := 118) dX8_addInsurer_117 rfl (by first | exact wr_id' (by omega) (by omega) | with_reducible exact wr_bI _ | exact rfl) (by omega) (by omega) ?_
          refine j_aload0 (q := 119) dX8_addInsurer_118 rfl ?_
          refine j_getR 0 (q := 122) dX8_addInsurer_119 rfl fl_X8_7 sh_197 rfl ?_
          refine j_iconst (q := 123) dX8_addInsurer_122 rfl ?_
          refine j_zload (q := 124) dX8_addInsurer_123 rfl (by first | exact wr_id' (by omega) (by omega) | with_reducible exact wr_bI _ | exact rfl) (by omega) (by omega) ?_
          refine j_iconst (q := 125) dX8_addInsurer_124 rfl ?_
          refine j_isub (q := 126) dX8_addInsurer_125 rfl ?_
          exact j_ireturn dX8_addInsurer_126 rfl (rfl) (rfl)
        · exfalso
          first | omega | (simp only [wi, decide_eq_true_eq, decide_eq_false_iff_not] at *; omega) | (simp_all [wi]; done) | (simp_all [wi]; omega)
      · exfalso
        first | omega | (simp only [wi, decide_eq_true_eq, decide_eq_false_iff_not] at *; omega) | (simp_all [wi]; done) | (simp_all [wi]; omega)
theorem ct_X8_addInsurer_e1 {G : GX} (E : EV G) {m : Mem} {z : Z} {K : Int} {f : Int} {r : Int} {c : Int} (r_f : -2147483648 ≤ f ∧ f < 2147483648) (r_r : -2147483648 ≤ r ∧ r < 2147483648) (r_c : -2147483648 ≤ c ∧ c < 2147483648) (hs : 0 ≤ m 197 10 ∧ m 197 10 ≤ 6) (h3 : 0 ≤ z 3 ∧ z 3 ≤ 3) (hv : ¬ ((0 ≤ f ∧ f ≤ 10000) ∧ (1 ≤ r ∧ r ≤ 200) ∧ 1 ≤ c ∧ c ≤ 500)) : CT G SHP iX8_addInsurer 0 0 [.inr (.ref 197), .inl f, .inl r, .inl c] (sz m z) (some (.inl 0)) (sz (up m 197 12 1) z) := by
  refine j_met (L0 := [some (.inr (.ref 197)), some (.inl f), some (.inl r), some (.inl c), none]) (by decide) E.1 E.2 rfl (Nat.le_of_ble_eq_true rfl) ?_
  refine j_aload0 (q := 1) dX8_addInsurer_0 rfl ?_
  refine j_iconst (q := 2) dX8_addInsurer_1 rfl ?_
  refine j_nputI (by decide) 12 (j' := 12) (q := 5) dX8_addInsurer_2 rfl fw_X8_38 sh_197 rfl rfl ?_
  refine j_mem (m' := sz (th0 m) z) rfl ?_
  have e10 : th0 m 197 10 = m 197 10 := up_ne (by omega)
  have e11 : th0 m 197 11 = m 197 11 := up_ne (by omega)
  refine j_iload1 (q := 6) dX8_addInsurer_5 rfl ?_
  refine j_iconst (q := 7) dX8_addInsurer_6 rfl ?_
  refine j_sipush (q := 10) dX8_addInsurer_7 rfl rfl ?_
  refine j_callS3 (Mc := iX8_within) (q := 13) (c' := 0) (s' := 0) dX8_addInsurer_10 rfl kS_X8_within jw_1035 ⟨by decide, by decide⟩ rfl (Nat.le_refl _) (Nat.le_refl _) (ct_X8_within E (by omega) (by omega) (by omega)) ?_
  refine j_ifeq_b (tgt := 38) (q := 16) dX8_addInsurer_13 (by decide) rfl (fun h13 => ?_) (fun h13 => ?_)
  · refine j_aload0 (q := 39) dX8_addInsurer_38 rfl ?_
    refine j_iconst (q := 40) dX8_addInsurer_39 rfl ?_
    refine j_callV1 (Mc := iX8_fails) (q := 43) (c' := 0) (s' := 0) dX8_addInsurer_40 rfl kV_X8_fails jw_1038 ⟨by decide, by decide⟩ sh_197 rfl rfl rfl (Nat.le_refl _) (Nat.le_refl _) (ct_X8_fails E) ?_
    exact j_ireturn dX8_addInsurer_43 rfl (rfl) (by rw [th0, up_up])
  · refine j_iload2 (q := 17) dX8_addInsurer_16 rfl ?_
    refine j_iconst (q := 18) dX8_addInsurer_17 rfl ?_
    refine j_sipush (q := 21) dX8_addInsurer_18 rfl rfl ?_
    refine j_callS3 (Mc := iX8_within) (q := 24) (c' := 0) (s' := 0) dX8_addInsurer_21 rfl kS_X8_within jw_1035 ⟨by decide, by decide⟩ rfl (Nat.le_refl _) (Nat.le_refl _) (ct_X8_within E (by omega) (by omega) (by omega)) ?_
    refine j_ifeq_b (tgt := 38) (q := 27) dX8_addInsurer_24 (by decide) rfl (fun h24 => ?_) (fun h24 => ?_)
    · refine j_aload0 (q := 39) dX8_addInsurer_38 rfl ?_
      refine j_iconst (q := 40) dX8_addInsurer_39 rfl ?_
      refine j_callV1 (Mc := iX8_fails) (q := 43) (c' := 0) (s' := 0) dX8_addInsurer_40 rfl kV_X8_fails jw_1038 ⟨by decide, by decide⟩ sh_197 rfl rfl rfl (Nat.le_refl _) (Nat.le_refl _) (ct_X8_fails E) ?_
      exact j_ireturn dX8_addInsurer_43 rfl (rfl) (by rw [th0, up_up])
    · refine j_iload3 (q := 28) dX8_addInsurer_27 rfl ?_
      refine j_iconst (q := 29) dX8_addInsurer_28 rfl ?_
      refine j_sipush (q := 32) dX8_addInsurer_29 rfl rfl ?_
      refine j_callS3 (Mc := iX8_within) (q := 35) (c' := 0) (s' := 0) dX8_addInsurer_32 rfl kS_X8_within jw_1035 ⟨by decide, by decide⟩ rfl (Nat.le_refl _) (Nat.le_refl _) (ct_X8_within E (by omega) (by omega) (by omega)) ?_
      refine j_ifne_b (tgt := 44) (q := 38) dX8_addInsurer_35 (by decide) rfl (fun h35 => ?_) (fun h35 => ?_)
      · exfalso
        first | omega | (simp only [wi, decide_eq_true_eq, decide_eq_false_iff_not] at *; omega) | (simp_all [wi]; done) | (simp_all [wi]; omega)
      · refine j_aload0 (q := 39) dX8_addInsurer_38 rfl ?_
        refine j_iconst (q := 40) dX8_addInsurer_39 rfl ?_
        refine j_callV1 (Mc := iX8_fails) (q := 43) (c' := 0) (s' := 0) dX8_addInsurer_40 rfl kV_X8_fails jw_1038 ⟨by decide, by decide⟩ sh_197 rfl rfl rfl (Nat.le_refl _) (Nat.le_refl _) (ct_X8_fails E) ?_
        exact j_ireturn dX8_addInsurer_43 rfl (rfl) (by rw [th0, up_up])
theorem ct_X8_addInsurer_e2 {G : GX} (E : EV G) {m : Mem} {z : Z} {K : Int} {f : Int} {r : Int} {c : Int} (r_f : -2147483648 ≤ f ∧ f < 2147483648) (r_r : -2147483648 ≤ r ∧ r < 2147483648) (r_c : -2147483648 ≤ c ∧ c < 2147483648) (hs : 0 ≤ m 197 10 ∧ m 197 10 ≤ 6) (h3 : 0 ≤ z 3 ∧ z 3 ≤ 3) (ha : 0 ≤ f ∧ f ≤ 10000) (hb : 1 ≤ r ∧ r ≤ 200) (hc : 1 ≤ c ∧ c ≤ 500) (hn : z 3 = 3) : CT G SHP iX8_addInsurer 0 0 [.inr (.ref 197), .inl f, .inl r, .inl c] (sz m z) (some (.inl 0)) (sz (up m 197 12 2) z) := by
  refine j_met (L0 := [some (.inr (.ref 197)), some (.inl f), some (.inl r), some (.inl c), none]) (by decide) E.1 E.2 rfl (Nat.le_of_ble_eq_true rfl) ?_
  refine j_aload0 (q := 1) dX8_addInsurer_0 rfl ?_
  refine j_iconst (q := 2) dX8_addInsurer_1 rfl ?_
  refine j_nputI (by decide) 12 (j' := 12) (q := 5) dX8_addInsurer_2 rfl fw_X8_38 sh_197 rfl rfl ?_
  refine j_mem (m' := sz (th0 m) z) rfl ?_
  have e10 : th0 m 197 10 = m 197 10 := up_ne (by omega)
  have e11 : th0 m 197 11 = m 197 11 := up_ne (by omega)
  refine j_iload1 (q := 6) dX8_addInsurer_5 rfl ?_
  refine j_iconst (q := 7) dX8_addInsurer_6 rfl ?_
  refine j_sipush (q := 10) dX8_addInsurer_7 rfl rfl ?_
  refine j_callS3 (Mc := iX8_within) (q := 13) (c' := 0) (s' := 0) dX8_addInsurer_10 rfl kS_X8_within jw_1035 ⟨by decide, by decide⟩ rfl (Nat.le_refl _) (Nat.le_refl _) (ct_X8_within E (by omega) (by omega) (by omega)) ?_
  refine j_ifeq_b (tgt := 38) (q := 16) dX8_addInsurer_13 (by decide) rfl (fun h13 => ?_) (fun h13 => ?_)
  · exfalso
    first | omega | (simp only [wi, decide_eq_true_eq, decide_eq_false_iff_not] at *; omega) | (simp_all [wi]; done) | (simp_all [wi]; omega)
  · refine j_iload2 (q := 17) dX8_addInsurer_16 rfl ?_
    refine j_iconst (q := 18) dX8_addInsurer_17 rfl ?_
    refine j_sipush (q := 21) dX8_addInsurer_18 rfl rfl ?_
    refine j_callS3 (Mc := iX8_within) (q := 24) (c' := 0) (s' := 0) dX8_addInsurer_21 rfl kS_X8_within jw_1035 ⟨by decide, by decide⟩ rfl (Nat.le_refl _) (Nat.le_refl _) (ct_X8_within E (by omega) (by omega) (by omega)) ?_
    refine j_ifeq_b (tgt := 38) (q := 27) dX8_addInsurer_24 (by decide) rfl (fun h24 => ?_) (fun h24 => ?_)
    · exfalso
      first | omega | (simp only [wi, decide_eq_true_eq, decide_eq_false_iff_not] at *; omega) | (simp_all [wi]; done) | (simp_all [wi]; omega)
    · refine j_iload3 (q := 28) dX8_addInsurer_27 rfl ?_
      refine j_iconst (q := 29) dX8_addInsurer_28 rfl ?_
      refine j_sipush (q := 32) dX8_addInsurer_29 rfl rfl ?_
      refine j_callS3 (Mc := iX8_within) (q := 35) (c' := 0) (s' := 0) dX8_addInsurer_32 rfl kS_X8_within jw_1035 ⟨by decide, by decide⟩ rfl (Nat.le_refl _) (Nat.le_refl _) (ct_X8_within E (by omega) (by omega) (by omega)) ?_
      refine j_ifne_b (tgt := 44) (q := 38) dX8_addInsurer_35 (by decide) rfl (fun h35 => ?_) (fun h35 => ?_)
      · refine j_aload0 (q := 45) dX8_addInsurer_44 rfl ?_
        refine j_getR 0 (q := 48) dX8_addInsurer_45 rfl fl_X8_7 sh_197 rfl ?_
        refine j_iconst (q := 49) dX8_addInsurer_48 rfl ?_
        refine j_zload (q := 50) dX8_addInsurer_49 rfl (by first | exact wr_id' (by omega) (by omega) | with_reducible exact wr_bI _ | exact rfl) (by omega) (by omega) ?_
        refine j_iconst (q := 51) dX8_addInsurer_50 rfl ?_
        refine j_icmp_ne (tgt := 60) (q := 54) dX8_addInsurer_51 (by decide) rfl (by first | exact wr_id' (by omega) (by omega) | with_reducible exact wr_bI _ | exact rfl) (by first | exact wr_id' (by omega) (by omega) | with_reducible exact wr_bI _ | exact rfl) (fun h51 => ?_) (fun h51 => ?_)
        · exfalso
          first | omega | (simp only [wi, decide_eq_true_eq, decide_eq_false_iff_not] at *; omega) | (simp_all [wi]; done) | (simp_all [wi]; omega)
        · refine j_aload0 (q := 55) dX8_addInsurer_54 rfl ?_
          refine j_iconst (q := 56) dX8_addInsurer_55 rfl ?_
          refine j_callV1 (Mc := iX8_fails) (q := 59) (c' := 0) (s' := 0) dX8_addInsurer_56 rfl kV_X8_fails jw_1038 ⟨by decide, by decide⟩ sh_197 rfl rfl rfl (Nat.le_refl _) (Nat.le_refl _) (ct_X8_fails E) ?_
          exact j_ireturn dX8_addInsurer_59 rfl (rfl) (by rw [th0, up_up])
      · exfalso
        first | omega | (simp only [wi, decide_eq_true_eq, decide_eq_false_iff_not] at *; omega) | (simp_all [wi]; done) | (simp_all [wi]; omega)
theorem ct_X8_set_ok {G : GX} (E : EV G) {m : Mem} {z : Z} {K : Int} {s : Int} {v : Int} (r_s : -2147483648 ≤ s ∧ s < 2147483648) (r_v : -2147483648 ≤ v ∧ v < 2147483648) (hs : 0 ≤ m 197 10 ∧ m 197 10 ≤ 6) (h1 : 0 ≤ s ∧ s < 8) (hv : 0 ≤ v ∧ v ≤ zMost s) : CT G SHP iX8_set 0 0 [.inr (.ref 197), .inl s, .inl v] (sz m z) (some (.inl (z (15 + s)))) (sz (zSv z (th0 m)) (u1 z (15 + s) v)) := by
  refine j_met (L0 := [some (.inr (.ref 197)), some (.inl s), some (.inl v), none]) (by decide) E.1 E.2 rfl (Nat.le_of_ble_eq_true rfl) ?_
  refine j_aload0 (q := 1) dX8_set_0 rfl ?_
  refine j_iconst (q := 2) dX8_set_1 rfl ?_
  refine j_nputI (by decide) 12 (j' := 12) (q := 5) dX8_set_2 rfl fw_X8_38 sh_197 rfl rfl ?_
  refine j_mem (m' := sz (th0 m) z) rfl ?_
  have e10 : th0 m 197 10 = m 197 10 := up_ne (by omega)
  have e11 : th0 m 197 11 = m 197 11 := up_ne (by omega)
  have hm := zMost_b s
  refine j_iload1 (q := 6) dX8_set_5 rfl ?_
  refine j_iconst (q := 7) dX8_set_6 rfl ?_
  refine j_bipush (q := 9) dX8_set_7 rfl rfl ?_
  refine j_callS3 (Mc := iX8_within) (q := 12) (c' := 0) (s' := 0) dX8_set_9 rfl kS_X8_within jw_1035 ⟨by decide, by decide⟩ rfl (Nat.le_refl _) (Nat.le_refl _) (ct_X8_within E (by omega) (by omega) (by omega)) ?_
  refine j_ifne_b (tgt := 21) (q := 15) dX8_set_12 (by decide) rfl (fun h12 => ?_) (fun h12 => ?_)
  · refine j_iload2 (q := 22) dX8_set_21 rfl ?_
    refine j_iconst (q := 23) dX8_set_22 rfl ?_
    refine j_iload1 (q := 24) dX8_set_23 rfl ?_
    refine j_callS1 (Mc := iX8_mostOf) (q := 27) (c' := 0) (s' := 0) dX8_set_24 rfl kS_X8_mostOf jw_1054 ⟨by decide, by decide⟩ rfl (Nat.le_refl _) (Nat.le_refl _) (ct_X8_mostOf E (by omega)) ?_
    refine j_callS3 (Mc := iX8_within) (q := 30) (c' := 0) (s' := 0) dX8_set_27 rfl kS_X8_within jw_1035 ⟨by decide, by decide⟩ rfl (Nat.le_refl _) (Nat.le_refl _) (ct_X8_within E (by omega) (by omega) (by omega)) ?_
    refine j_ifne_b (tgt := 39) (q := 33) dX8_set_30 (by decide) rfl (fun h30 => ?_) (fun h30 => ?_)
    · refine j_aload0 (q := 40) dX8_set_39 rfl ?_
      refine j_callV0v (Mc := iX8_save) (q := 43) (c' := 0) (s' := 0) dX8_set_40 rfl kV_X8_save jw_1042 ⟨by decide, by decide⟩ sh_197 rfl rfl rfl (Nat.le_refl _) (Nat.le_refl _) (ct_X8_save E (by first | assumption | omega)) ?_
      refine j_aload0 (q := 44) dX8_set_43 rfl ?_
      refine j_iload1 (q := 45) dX8_set_44 rfl ?_
      refine j_callV1 (Mc := iX8_rule) (q := 48) (c' := 0) (s' := 0) dX8_set_45 rfl kV_X8_rule jw_1057 ⟨by decide, by decide⟩ sh_197 rfl rfl rfl (Nat.le_refl _) (Nat.le_refl _) (ct_X8_rule E (by omega)) ?_
      refine j_istore3 (q := 49) dX8_set_48 rfl rfl (by decide) ?_
      refine j_aload0 (q := 50) dX8_set_49 rfl ?_
      refine j_getR 0 (q := 53) dX8_set_50 rfl fl_X8_7 sh_197 rfl ?_
      refine j_bipush (q := 55) dX8_set_53 rfl rfl ?_
      refine j_iload1 (q := 56) dX8_set_55 rfl ?_
      refine j_iadd (q := 57) dX8_set_56 rfl ?_
      refine j_iload2 (q := 58) dX8_set_57 rfl ?_
      refine j_zstore (q := 59) dX8_set_58 rfl (by first | exact wr_id' (by omega) (by omega) | with_reducible exact wr_bI _ | exact rfl) (by omega) (by omega) ?_
      refine j_iload3 (q := 60) dX8_set_59 rfl ?_
      exact j_ireturn dX8_set_60 rfl (rfl) (rfl)
    · exfalso
      first | omega | (simp only [wi, decide_eq_true_eq, decide_eq_false_iff_not] at *; omega) | (simp_all [wi]; done) | (simp_all [wi]; omega)
  · exfalso
    first | omega | (simp only [wi, decide_eq_true_eq, decide_eq_false_iff_not] at *; omega) | (simp_all [wi]; done) | (simp_all [wi]; omega)
theorem ct_X8_set_e1 {G : GX} (E : EV G) {m : Mem} {z : Z} {K : Int} {s : Int} {v : Int} (r_s : -2147483648 ≤ s ∧ s < 2147483648) (r_v : -2147483648 ≤ v ∧ v < 2147483648) (hs : 0 ≤ m 197 10 ∧ m 197 10 ≤ 6) (h1 : ¬ (0 ≤ s ∧ s < 8)) : CT G SHP iX8_set 0 0 [.inr (.ref 197), .inl s, .inl v] (sz m z) (some (.inl 0)) (sz (up m 197 12 1) z) := by
  refine j_met (L0 := [some (.inr (.ref 197)), some (.inl s), some (.inl v), none]) (by decide) E.1 E.2 rfl (Nat.le_of_ble_eq_true rfl) ?_
  refine j_aload0 (q := 1) dX8_set_0 rfl ?_
  refine j_iconst (q := 2) dX8_set_1 rfl ?_
  refine j_nputI (by decide) 12 (j' := 12) (q := 5) dX8_set_2 rfl fw_X8_38 sh_197 rfl rfl ?_
  refine j_mem (m' := sz (th0 m) z) rfl ?_
  have e10 : th0 m 197 10 = m 197 10 := up_ne (by omega)
  have e11 : th0 m 197 11 = m 197 11 := up_ne (by omega)
  refine j_iload1 (q := 6) dX8_set_5 rfl ?_
  refine j_iconst (q := 7) dX8_set_6 rfl ?_
  refine j_bipush (q := 9) dX8_set_7 rfl rfl ?_
  refine j_callS3 (Mc := iX8_within) (q := 12) (c' := 0) (s' := 0) dX8_set_9 rfl kS_X8_within jw_1035 ⟨by decide, by decide⟩ rfl (Nat.le_refl _) (Nat.le_refl _) (ct_X8_within E (by omega) (by omega) (by omega)) ?_
  refine j_ifne_b (tgt := 21) (q := 15) dX8_set_12 (by decide) rfl (fun h12 => ?_) (fun h12 => ?_)
  · exfalso
    first | omega | (simp only [wi, decide_eq_true_eq, decide_eq_false_iff_not] at *; omega) | (simp_all [wi]; done) | (simp_all [wi]; omega)
  · refine j_aload0 (q := 16) dX8_set_15 rfl ?_
    refine j_iconst (q := 17) dX8_set_16 rfl ?_
    refine j_callV1 (Mc := iX8_fails) (q := 20) (c' := 0) (s' := 0) dX8_set_17 rfl kV_X8_fails jw_1038 ⟨by decide, by decide⟩ sh_197 rfl rfl rfl (Nat.le_refl _) (Nat.le_refl _) (ct_X8_fails E) ?_
    exact j_ireturn dX8_set_20 rfl (rfl) (by rw [th0, up_up])
theorem ct_X8_set_e2 {G : GX} (E : EV G) {m : Mem} {z : Z} {K : Int} {s : Int} {v : Int} (r_s : -2147483648 ≤ s ∧ s < 2147483648) (r_v : -2147483648 ≤ v ∧ v < 2147483648) (hs : 0 ≤ m 197 10 ∧ m 197 10 ≤ 6) (h1 : 0 ≤ s ∧ s < 8) (hv : ¬ (0 ≤ v ∧ v ≤ zMost s)) (hm : 0 ≤ zMost s ∧ zMost s ≤ 100) : CT G SHP iX8_set 0 0 [.inr (.ref 197), .inl s, .inl v] (sz m z) (some (.inl 0)) (sz (up m 197 12 2) z) := by
  refine j_met (L0 := [some (.inr (.ref 197)), some (.inl s), some (.inl v), none]) (by decide) E.1 E.2 rfl (Nat.le_of_ble_eq_true rfl) ?_
  refine j_aload0 (q := 1) dX8_set_0 rfl ?_
  refine j_iconst (q := 2) dX8_set_1 rfl ?_
  refine j_nputI (by decide) 12 (j' := 12) (q := 5) dX8_set_2 rfl fw_X8_38 sh_197 rfl rfl ?_
  refine j_mem (m' := sz (th0 m) z) rfl ?_
  have e10 : th0 m 197 10 = m 197 10 := up_ne (by omega)
  have e11 : th0 m 197 11 = m 197 11 := up_ne (by omega)
  refine j_iload1 (q := 6) dX8_set_5 rfl ?_
  refine j_iconst (q := 7) dX8_set_6 rfl ?_
  refine j_bipush (q := 9) dX8_set_7 rfl rfl ?_
  refine j_callS3 (Mc := iX8_within) (q := 12) (c' := 0) (s' := 0) dX8_set_9 rfl kS_X8_within jw_1035 ⟨by decide, by decide⟩ rfl (Nat.le_refl _) (Nat.le_refl _) (ct_X8_within E (by omega) (by omega) (by omega)) ?_
  refine j_ifne_b (tgt := 21) (q := 15) dX8_set_12 (by decide) rfl (fun h12 => ?_) (fun h12 => ?_)
  · refine j_iload2 (q := 22) dX8_set_21 rfl ?_
    refine j_iconst (q := 23) dX8_set_22 rfl ?_
    refine j_iload1 (q := 24) dX8_set_23 rfl ?_
    refine j_callS1 (Mc := iX8_mostOf) (q := 27) (c' := 0) (s' := 0) dX8_set_24 rfl kS_X8_mostOf jw_1054 ⟨by decide, by decide⟩ rfl (Nat.le_refl _) (Nat.le_refl _) (ct_X8_mostOf E (by omega)) ?_
    refine j_callS3 (Mc := iX8_within) (q := 30) (c' := 0) (s' := 0) dX8_set_27 rfl kS_X8_within jw_1035 ⟨by decide, by decide⟩ rfl (Nat.le_refl _) (Nat.le_refl _) (ct_X8_within E (by omega) (by omega) (by omega)) ?_
    refine j_ifne_b (tgt := 39) (q := 33) dX8_set_30 (by decide) rfl (fun h30 => ?_) (fun h30 => ?_)
    · exfalso
      first | omega | (simp only [wi, decide_eq_true_eq, decide_eq_false_iff_not] at *; omega) | (simp_all [wi]; done) | (simp_all [wi]; omega)
    · refine j_aload0 (q := 34) dX8_set_33 rfl ?_
      refine j_iconst (q := 35) dX8_set_34 rfl ?_
      refine j_callV1 (Mc := iX8_fails) (q := 38) (c' := 0) (s' := 0) dX8_set_35 rfl kV_X8_fails jw_1038 ⟨by decide, by decide⟩ sh_197 rfl rfl rfl (Nat.le_refl _) (Nat.le_refl _) (ct_X8_fails E) ?_
      exact j_ireturn dX8_set_38 rfl (rfl) (by rw [th0, up_up])
  · exfalso
    first | omega | (simp only [wi, decide_eq_true_eq, decide_eq_false_iff_not] at *; omega) | (simp_all [wi]; done) | (simp_all [wi]; omega)
theorem ct_X8_lease_ok {G : GX} (E : EV G) {m : Mem} {z : Z} {K : Int} {c : Int} {t : Int} {k : Int} (r_c : -2147483648 ≤ c ∧ c < 2147483648) (r_t : -2147483648 ≤ t ∧ t < 2147483648) (r_k : -2147483648 ≤ k ∧ k < 2147483648) (hs : 0 ≤ m 197 10 ∧ m 197 10 ≤ 6) (h2 : 0 ≤ z 2 ∧ z 2 ≤ 6) (hc : 0 ≤ c ∧ c < 64) (ht : 0 ≤ t ∧ t < z 2) (hk : 1 ≤ k ∧ k ≤ 200) (hl : zLs z c = false) (hm : ¬ wr (z (23 + 3 * t + 0)) < wr (k * z (15 + 0))) : CT G SHP iX8_lease 0 0 [.inr (.ref 197), .inl c, .inl t, .inl k] (sz m z) (some (.inl (zLe z c t k (23 + 3 * t + 0)))) (sz (zSv z (th0 m)) (zLe z c t k)) := by
  refine j_met (L0 := [some (.inr (.ref 197)), some (.inl c), some (.inl t), some (.inl k), none]) (by decide) E.1 E.2 rfl (Nat.le_of_ble_eq_true rfl) ?_
  refine j_aload0 (q := 1) dX8_lease_0 rfl ?_
  refine j_iconst (q := 2) dX8_lease_1 rfl ?_
  refine j_nputI (by decide) 12 (j' := 12) (q := 5) dX8_lease_2 rfl fw_X8_38 sh_197 rfl rfl ?_
  refine j_mem (m' := sz (th0 m) z) rfl ?_
  have e10 : th0 m 197 10 = m 197 10 := up_ne (by omega)
  have e11 : th0 m 197 11 = m 197 11 := up_ne (by omega)
  refine j_iload1 (q := 6) dX8_lease_5 rfl ?_
  refine j_callS1 (Mc := iX8_isCore) (q := 9) (c' := 0) (s' := 0) dX8_lease_6 rfl kS_X8_isCore jw_1065 ⟨by decide, by decide⟩ rfl (Nat.le_refl _) (Nat.le_refl _) (ct_X8_isCore E (by omega)) ?_
  refine j_ifeq_b (tgt := 20) (q := 12) dX8_lease_9 (by decide) rfl (fun h9 => ?_) (fun h9 => ?_)
  · exfalso
    first | omega | (simp only [wi, decide_eq_true_eq, decide_eq_false_iff_not] at *; omega) | (simp_all [wi]; done) | (simp_all [wi]; omega)
  · refine j_aload0 (q := 13) dX8_lease_12 rfl ?_
    refine j_iload2 (q := 14) dX8_lease_13 rfl ?_
    refine j_callV1 (Mc := iX8_isTenant) (q := 17) (c' := 0) (s' := 0) dX8_lease_14 rfl kV_X8_isTenant jw_1068 ⟨by decide, by decide⟩ sh_197 rfl rfl rfl (Nat.le_refl _) (Nat.le_refl _) (ct_X8_isTenant E (by omega) (by omega)) ?_
    refine j_ifne_b (tgt := 26) (q := 20) dX8_lease_17 (by decide) rfl (fun h17 => ?_) (fun h17 => ?_)
    · refine j_iload3 (q := 27) dX8_lease_26 rfl ?_
      refine j_callS1 (Mc := iX8_areTicks) (q := 30) (c' := 0) (s' := 0) dX8_lease_27 rfl kS_X8_areTicks jw_1072 ⟨by decide, by decide⟩ rfl (Nat.le_refl _) (Nat.le_refl _) (ct_X8_areTicks E (by omega)) ?_
      refine j_ifne_b (tgt := 39) (q := 33) dX8_lease_30 (by decide) rfl (fun h30 => ?_) (fun h30 => ?_)
      · refine j_iload3 (q := 40) dX8_lease_39 rfl ?_
        refine j_aload0 (q := 41) dX8_lease_40 rfl ?_
        refine j_iconst (q := 42) dX8_lease_41 rfl ?_
        refine j_callV1 (Mc := iX8_rule) (q := 45) (c' := 0) (s' := 0) dX8_lease_42 rfl kV_X8_rule jw_1057 ⟨by decide, by decide⟩ sh_197 rfl rfl rfl (Nat.le_refl _) (Nat.le_refl _) (ct_X8_rule E (by omega)) ?_
        refine j_imul (q := 46) dX8_lease_45 rfl ?_
        refine j_istore4 (q := 48) dX8_lease_46 rfl rfl (by decide) ?_
        refine j_aload0 (q := 49) dX8_lease_48 rfl ?_
        refine j_iload1 (q := 50) dX8_lease_49 rfl ?_
        refine j_callV1 (Mc := iX8_isLeased) (q := 53) (c' := 0) (s' := 0) dX8_lease_50 rfl kV_X8_isLeased jw_1075 ⟨by decide, by decide⟩ sh_197 rfl rfl rfl (Nat.le_refl _) (Nat.le_refl _) (ct_X8_isLeased E (by omega)) ?_
        refine j_ifne_b (tgt := 67) (q := 56) dX8_lease_53 (by decide) rfl (fun h53 => ?_) (fun h53 => ?_)
        · exfalso
          first | omega | (simp only [wi, decide_eq_true_eq, decide_eq_false_iff_not] at *; omega) | (simp_all [wi]; done) | (simp_all [wi]; omega)
        · refine j_aload0 (q := 57) dX8_lease_56 rfl ?_
          refine j_iload2 (q := 58) dX8_lease_57 rfl ?_
          refine j_iconst (q := 59) dX8_lease_58 rfl ?_
          refine j_callV2 (Mc := iX8_ofTenant) (q := 62) (c' := 0) (s' := 0) dX8_lease_59 rfl kV_X8_ofTenant jw_1083 ⟨by decide, by decide⟩ sh_197 rfl rfl rfl (Nat.le_refl _) (Nat.le_refl _) (ct_X8_ofTenant E (by omega) (by omega)) ?_
          refine j_iload4 (q := 64) dX8_lease_62 rfl ?_
          refine j_icmp_ge (tgt := 73) (q := 67) dX8_lease_64 (by decide) rfl rfl rfl (fun h64 => ?_) (fun h64 => ?_)
          · refine j_aload0 (q := 74) dX8_lease_73 rfl ?_
            refine j_callV0v (Mc := iX8_save) (q := 77) (c' := 0) (s' := 0) dX8_lease_74 rfl kV_X8_save jw_1042 ⟨by decide, by decide⟩ sh_197 rfl rfl rfl (Nat.le_refl _) (Nat.le_refl _) (ct_X8_save E (by first | assumption | omega)) ?_
            refine j_aload0 (q := 78) dX8_lease_77 rfl ?_
            refine j_getR 0 (q := 81) dX8_lease_78 rfl fl_X8_7 sh_197 rfl ?_
            refine j_bipush (q := 83) dX8_lease_81 rfl rfl ?_
            refine j_iconst (q := 84) dX8_lease_83 rfl ?_
            refine j_iload2 (q := 85) dX8_lease_84 rfl ?_
            refine j_imul (q := 86) dX8_lease_85 rfl ?_
            refine j_iadd (q := 87) dX8_lease_86 rfl ?_
            refine j_dup2 (q := 88) dX8_lease_87 rfl rfl rfl ?_
            refine j_zload (q := 89) dX8_lease_88 rfl (by first | exact wr_id' (by omega) (by omega) | with_reducible exact wr_bI _ | exact rfl) (by omega) (by omega) ?_
            refine j_iload4 (q := 91) dX8_lease_89 rfl ?_
            refine j_isub (q := 92) dX8_lease_91 rfl ?_
            refine j_zstore (q := 93) dX8_lease_92 rfl (by first | exact wr_id' (by omega) (by omega) | with_reducible exact wr_bI _ | exact rfl) (by omega) (by omega) ?_
            refine j_aload0 (q := 94) dX8_lease_93 rfl ?_
            refine j_getR 0 (q := 97) dX8_lease_94 rfl fl_X8_7 sh_197 rfl ?_
            refine j_bipush (q := 99) dX8_lease_97 rfl rfl ?_
            refine j_dup2 (q := 100) dX8_lease_99 rfl rfl rfl ?_
            refine j_zload (q := 101) dX8_lease_100 rfl (by first | exact wr_id' (by omega) (by omega) | with_reducible exact wr_bI _ | exact rfl) (by omega) (by omega) ?_
            refine j_iload4 (q := 103) dX8_lease_101 rfl ?_
            refine j_iadd (q := 104) dX8_lease_103 rfl ?_
            refine j_zstore (q := 105) dX8_lease_104 rfl (by first | exact wr_id' (by omega) (by omega) | with_reducible exact wr_bI _ | exact rfl) (by omega) (by omega) ?_
            refine j_aload0 (q := 106) dX8_lease_105 rfl ?_
            refine j_iload1 (q := 107) dX8_lease_106 rfl ?_
            refine j_iconst (q := 108) dX8_lease_107 rfl ?_
            refine j_iload2 (q := 109) dX8_lease_108 rfl ?_
            refine j_iconst (q := 110) dX8_lease_109 rfl ?_
            refine j_iadd (q := 111) dX8_lease_110 rfl ?_
            refine j_callV3v (Mc := iX8_lay) (q := 114) (c' := 0) (s' := 0) dX8_lease_111 rfl kV_X8_lay jw_980 ⟨by decide, by decide⟩ sh_197 rfl rfl rfl (Nat.le_refl _) (Nat.le_refl _) (ct_X8_lay E (by omega) (by omega)) ?_
            refine j_aload0 (q := 115) dX8_lease_114 rfl ?_
            refine j_iload1 (q := 116) dX8_lease_115 rfl ?_
            refine j_iconst (q := 117) dX8_lease_116 rfl ?_
            refine j_iload3 (q := 118) dX8_lease_117 rfl ?_
            refine j_callV3v (Mc := iX8_lay) (q := 121) (c' := 0) (s' := 0) dX8_lease_118 rfl kV_X8_lay jw_980 ⟨by decide, by decide⟩ sh_197 rfl rfl rfl (Nat.le_refl _) (Nat.le_refl _) (ct_X8_lay E (by omega) (by omega)) ?_
            refine j_aload0 (q := 122) dX8_lease_121 rfl ?_
            refine j_iload2 (q := 123) dX8_lease_122 rfl ?_
            refine j_iconst (q := 124) dX8_lease_123 rfl ?_
            refine j_callV2 (Mc := iX8_ofTenant) (q := 127) (c' := 0) (s' := 0) dX8_lease_124 rfl kV_X8_ofTenant jw_1083 ⟨by decide, by decide⟩ sh_197 rfl rfl rfl (Nat.le_refl _) (Nat.le_refl _) (ct_X8_ofTenant E (by omega) (by omega)) ?_
            exact j_ireturn dX8_lease_127 rfl (rfl) (rfl)
          · exfalso
            first | omega | (simp only [wi, decide_eq_true_eq, decide_eq_false_iff_not] at *; omega) | (simp_all [wi]; done) | (simp_all [wi]; omega)
      · exfalso
        first | omega | (simp only [wi, decide_eq_true_eq, decide_eq_false_iff_not] at *; omega) | (simp_all [wi]; done) | (simp_all [wi]; omega)
    · exfalso
      first | omega | (simp only [wi, decide_eq_true_eq, decide_eq_false_iff_not] at *; omega) | (simp_all [wi]; done) | (simp_all [wi]; omega)
theorem ct_X8_lease_e1 {G : GX} (E : EV G) {m : Mem} {z : Z} {K : Int} {c : Int} {t : Int} {k : Int} (r_c : -2147483648 ≤ c ∧ c < 2147483648) (r_t : -2147483648 ≤ t ∧ t < 2147483648) (r_k : -2147483648 ≤ k ∧ k < 2147483648) (hs : 0 ≤ m 197 10 ∧ m 197 10 ≤ 6) (h2 : 0 ≤ z 2 ∧ z 2 ≤ 6) (hx : ¬ ((0 ≤ c ∧ c < 64) ∧ 0 ≤ t ∧ t < z 2)) : CT G SHP iX8_lease 0 0 [.inr (.ref 197), .inl c, .inl t, .inl k] (sz m z) (some (.inl 0)) (sz (up m 197 12 1) z) := by
  refine j_met (L0 := [some (.inr (.ref 197)), some (.inl c), some (.inl t), some (.inl k), none]) (by decide) E.1 E.2 rfl (Nat.le_of_ble_eq_true rfl) ?_
  refine j_aload0 (q := 1) dX8_lease_0 rfl ?_
  refine j_iconst (q := 2) dX8_lease_1 rfl ?_
  refine j_nputI (by decide) 12 (j' := 12) (q := 5) dX8_lease_2 rfl fw_X8_38 sh_197 rfl rfl ?_
  refine j_mem (m' := sz (th0 m) z) rfl ?_
  have e10 : th0 m 197 10 = m 197 10 := up_ne (by omega)
  have e11 : th0 m 197 11 = m 197 11 := up_ne (by omega)
  refine j_iload1 (q := 6) dX8_lease_5 rfl ?_
  refine j_callS1 (Mc := iX8_isCore) (q := 9) (c' := 0) (s' := 0) dX8_lease_6 rfl kS_X8_isCore jw_1065 ⟨by decide, by decide⟩ rfl (Nat.le_refl _) (Nat.le_refl _) (ct_X8_isCore E (by omega)) ?_
  refine j_ifeq_b (tgt := 20) (q := 12) dX8_lease_9 (by decide) rfl (fun h9 => ?_) (fun h9 => ?_)
  · refine j_aload0 (q := 21) dX8_lease_20 rfl ?_
    refine j_iconst (q := 22) dX8_lease_21 rfl ?_
    refine j_callV1 (Mc := iX8_fails) (q := 25) (c' := 0) (s' := 0) dX8_lease_22 rfl kV_X8_fails jw_1038 ⟨by decide, by decide⟩ sh_197 rfl rfl rfl (Nat.le_refl _) (Nat.le_refl _) (ct_X8_fails E) ?_
    exact j_ireturn dX8_lease_25 rfl (rfl) (by rw [th0, up_up])
  · refine j_aload0 (q := 13) dX8_lease_12 rfl ?_
    refine j_iload2 (q := 14) dX8_lease_13 rfl ?_
    refine j_callV1 (Mc := iX8_isTenant) (q := 17) (c' := 0) (s' := 0) dX8_lease_14 rfl kV_X8_isTenant jw_1068 ⟨by decide, by decide⟩ sh_197 rfl rfl rfl (Nat.le_refl _) (Nat.le_refl _) (ct_X8_isTenant E (by omega) (by omega)) ?_
    refine j_ifne_b (tgt := 26) (q := 20) dX8_lease_17 (by decide) rfl (fun h17 => ?_) (fun h17 => ?_)
    · exfalso
      first | omega | (simp only [wi, decide_eq_true_eq, decide_eq_false_iff_not] at *; omega) | (simp_all [wi]; done) | (simp_all [wi]; omega)
    · refine j_aload0 (q := 21) dX8_lease_20 rfl ?_
      refine j_iconst (q := 22) dX8_lease_21 rfl ?_
      refine j_callV1 (Mc := iX8_fails) (q := 25) (c' := 0) (s' := 0) dX8_lease_22 rfl kV_X8_fails jw_1038 ⟨by decide, by decide⟩ sh_197 rfl rfl rfl (Nat.le_refl _) (Nat.le_refl _) (ct_X8_fails E) ?_
      exact j_ireturn dX8_lease_25 rfl (rfl) (by rw [th0, up_up])
theorem ct_X8_lease_e2 {G : GX} (E : EV G) {m : Mem} {z : Z} {K : Int} {c : Int} {t : Int} {k : Int} (r_c : -2147483648 ≤ c ∧ c < 2147483648) (r_t : -2147483648 ≤ t ∧ t < 2147483648) (r_k : -2147483648 ≤ k ∧ k < 2147483648) (hs : 0 ≤ m 197 10 ∧ m 197 10 ≤ 6) (h2 : 0 ≤ z 2 ∧ z 2 ≤ 6) (hc : 0 ≤ c ∧ c < 64) (ht : 0 ≤ t ∧ t < z 2) (hk : ¬ (1 ≤ k ∧ k ≤ 200)) : CT G SHP iX8_lease 0 0 [.inr (.ref 197), .inl c, .inl t, .inl k] (sz m z) (some (.inl 0)) (sz (up m 197 12 2) z) := by
  refine j_met (L0 := [some (.inr (.ref 197)), some (.inl c), some (.inl t), some (.inl k), none]) (by decide) E.1 E.2 rfl (Nat.le_of_ble_eq_true rfl) ?_
  refine j_aload0 (q := 1) dX8_lease_0 rfl ?_
  refine j_iconst (q := 2) dX8_lease_1 rfl ?_
  refine j_nputI (by decide) 12 (j' := 12) (q := 5) dX8_lease_2 rfl fw_X8_38 sh_197 rfl rfl ?_
  refine j_mem (m' := sz (th0 m) z) rfl ?_
  have e10 : th0 m 197 10 = m 197 10 := up_ne (by omega)
  have e11 : th0 m 197 11 = m 197 11 := up_ne (by omega)
  refine j_iload1 (q := 6) dX8_lease_5 rfl ?_
  refine j_callS1 (Mc := iX8_isCore) (q := 9) (c' := 0) (s' := 0) dX8_lease_6 rfl kS_X8_isCore jw_1065 ⟨by decide, by decide⟩ rfl (Nat.le_refl _) (Nat.le_refl _) (ct_X8_isCore E (by omega)) ?_
  refine j_ifeq_b (tgt := 20) (q := 12) dX8_lease_9 (by decide) rfl (fun h9 => ?_) (fun h9 => ?_)
  · exfalso
    first | omega | (simp only [wi, decide_eq_true_eq, decide_eq_false_iff_not] at *; omega) | (simp_all [wi]; done) | (simp_all [wi]; omega)
  · refine j_aload0 (q := 13) dX8_lease_12 rfl ?_
    refine j_iload2 (q := 14) dX8_lease_13 rfl ?_
    refine j_callV1 (Mc := iX8_isTenant) (q := 17) (c' := 0) (s' := 0) dX8_lease_14 rfl kV_X8_isTenant jw_1068 ⟨by decide, by decide⟩ sh_197 rfl rfl rfl (Nat.le_refl _) (Nat.le_refl _) (ct_X8_isTenant E (by omega) (by omega)) ?_
    refine j_ifne_b (tgt := 26) (q := 20) dX8_lease_17 (by decide) rfl (fun h17 => ?_) (fun h17 => ?_)
    · refine j_iload3 (q := 27) dX8_lease_26 rfl ?_
      refine j_callS1 (Mc := iX8_areTicks) (q := 30) (c' := 0) (s' := 0) dX8_lease_27 rfl kS_X8_areTicks jw_1072 ⟨by decide, by decide⟩ rfl (Nat.le_refl _) (Nat.le_refl _) (ct_X8_areTicks E (by omega)) ?_
      refine j_ifne_b (tgt := 39) (q := 33) dX8_lease_30 (by decide) rfl (fun h30 => ?_) (fun h30 => ?_)
      · exfalso
        first | omega | (simp only [wi, decide_eq_true_eq, decide_eq_false_iff_not] at *; omega) | (simp_all [wi]; done) | (simp_all [wi]; omega)
      · refine j_aload0 (q := 34) dX8_lease_33 rfl ?_
        refine j_iconst (q := 35) dX8_lease_34 rfl ?_
        refine j_callV1 (Mc := iX8_fails) (q := 38) (c' := 0) (s' := 0) dX8_lease_35 rfl kV_X8_fails jw_1038 ⟨by decide, by decide⟩ sh_197 rfl rfl rfl (Nat.le_refl _) (Nat.le_refl _) (ct_X8_fails E) ?_
        exact j_ireturn dX8_lease_38 rfl (rfl) (by rw [th0, up_up])
    · exfalso
      first | omega | (simp only [wi, decide_eq_true_eq, decide_eq_false_iff_not] at *; omega) | (simp_all [wi]; done) | (simp_all [wi]; omega)
theorem ct_X8_lease_e3 {G : GX} (E : EV G) {m : Mem} {z : Z} {K : Int} {c : Int} {t : Int} {k : Int} (r_c : -2147483648 ≤ c ∧ c < 2147483648) (r_t : -2147483648 ≤ t ∧ t < 2147483648) (r_k : -2147483648 ≤ k ∧ k < 2147483648) (hs : 0 ≤ m 197 10 ∧ m 197 10 ≤ 6) (h2 : 0 ≤ z 2 ∧ z 2 ≤ 6) (hc : 0 ≤ c ∧ c < 64) (ht : 0 ≤ t ∧ t < z 2) (hk : 1 ≤ k ∧ k ≤ 200) (hl : zLs z c = true ∨ wr (z (23 + 3 * t + 0)) < wr (k * z (15 + 0))) : CT G SHP iX8_lease 0 0 [.inr (.ref 197), .inl c, .inl t, .inl k] (sz m z) (some (.inl 0)) (sz (up m 197 12 3) z) := by
  refine j_met (L0 := [some (.inr (.ref 197)), some (.inl c), some (.inl t), some (.inl k), none]) (by decide) E.1 E.2 rfl (Nat.le_of_ble_eq_true rfl) ?_
  refine j_aload0 (q := 1) dX8_lease_0 rfl ?_
  refine j_iconst (q := 2) dX8_lease_1 rfl ?_
  refine j_nputI (by decide) 12 (j' := 12) (q := 5) dX8_lease_2 rfl fw_X8_38 sh_197 rfl rfl ?_
  refine j_mem (m' := sz (th0 m) z) rfl ?_
  have e10 : th0 m 197 10 = m 197 10 := up_ne (by omega)
  have e11 : th0 m 197 11 = m 197 11 := up_ne (by omega)
  refine j_iload1 (q := 6) dX8_lease_5 rfl ?_
  refine j_callS1 (Mc := iX8_isCore) (q := 9) (c' := 0) (s' := 0) dX8_lease_6 rfl kS_X8_isCore jw_1065 ⟨by decide, by decide⟩ rfl (Nat.le_refl _) (Nat.le_refl _) (ct_X8_isCore E (by omega)) ?_
  refine j_ifeq_b (tgt := 20) (q := 12) dX8_lease_9 (by decide) rfl (fun h9 => ?_) (fun h9 => ?_)
  · exfalso
    first | omega | (simp only [wi, decide_eq_true_eq, decide_eq_false_iff_not] at *; omega) | (simp_all [wi]; done) | (simp_all [wi]; omega)
  · refine j_aload0 (q := 13) dX8_lease_12 rfl ?_
    refine j_iload2 (q := 14) dX8_lease_13 rfl ?_
    refine j_callV1 (Mc := iX8_isTenant) (q := 17) (c' := 0) (s' := 0) dX8_lease_14 rfl kV_X8_isTenant jw_1068 ⟨by decide, by decide⟩ sh_197 rfl rfl rfl (Nat.le_refl _) (Nat.le_refl _) (ct_X8_isTenant E (by omega) (by omega)) ?_
    refine j_ifne_b (tgt := 26) (q := 20) dX8_lease_17 (by decide) rfl (fun h17 => ?_) (fun h17 => ?_)
    · refine j_iload3 (q := 27) dX8_lease_26 rfl ?_
      refine j_callS1 (Mc := iX8_areTicks) (q := 30) (c' := 0) (s' := 0) dX8_lease_27 rfl kS_X8_areTicks jw_1072 ⟨by decide, by decide⟩ rfl (Nat.le_refl _) (Nat.le_refl _) (ct_X8_areTicks E (by omega)) ?_
      refine j_ifne_b (tgt := 39) (q := 33) dX8_lease_30 (by decide) rfl (fun h30 => ?_) (fun h30 => ?_)
      · refine j_iload3 (q := 40) dX8_lease_39 rfl ?_
        refine j_aload0 (q := 41) dX8_lease_40 rfl ?_
        refine j_iconst (q := 42) dX8_lease_41 rfl ?_
        refine j_callV1 (Mc := iX8_rule) (q := 45) (c' := 0) (s' := 0) dX8_lease_42 rfl kV_X8_rule jw_1057 ⟨by decide, by decide⟩ sh_197 rfl rfl rfl (Nat.le_refl _) (Nat.le_refl _) (ct_X8_rule E (by omega)) ?_
        refine j_imul (q := 46) dX8_lease_45 rfl ?_
        refine j_istore4 (q := 48) dX8_lease_46 rfl rfl (by decide) ?_
        refine j_aload0 (q := 49) dX8_lease_48 rfl ?_
        refine j_iload1 (q := 50) dX8_lease_49 rfl ?_
        refine j_callV1 (Mc := iX8_isLeased) (q := 53) (c' := 0) (s' := 0) dX8_lease_50 rfl kV_X8_isLeased jw_1075 ⟨by decide, by decide⟩ sh_197 rfl rfl rfl (Nat.le_refl _) (Nat.le_refl _) (ct_X8_isLeased E (by omega)) ?_
        refine j_ifne_b (tgt := 67) (q := 56) dX8_lease_53 (by decide) rfl (fun h53 => ?_) (fun h53 => ?_)
        · refine j_aload0 (q := 68) dX8_lease_67 rfl ?_
          refine j_iconst (q := 69) dX8_lease_68 rfl ?_
          refine j_callV1 (Mc := iX8_fails) (q := 72) (c' := 0) (s' := 0) dX8_lease_69 rfl kV_X8_fails jw_1038 ⟨by decide, by decide⟩ sh_197 rfl rfl rfl (Nat.le_refl _) (Nat.le_refl _) (ct_X8_fails E) ?_
          exact j_ireturn dX8_lease_72 rfl (rfl) (by rw [th0, up_up])
        · refine j_aload0 (q := 57) dX8_lease_56 rfl ?_
          refine j_iload2 (q := 58) dX8_lease_57 rfl ?_
          refine j_iconst (q := 59) dX8_lease_58 rfl ?_
          refine j_callV2 (Mc := iX8_ofTenant) (q := 62) (c' := 0) (s' := 0) dX8_lease_59 rfl kV_X8_ofTenant jw_1083 ⟨by decide, by decide⟩ sh_197 rfl rfl rfl (Nat.le_refl _) (Nat.le_refl _) (ct_X8_ofTenant E (by omega) (by omega)) ?_
          refine j_iload4 (q := 64) dX8_lease_62 rfl ?_
          refine j_icmp_ge (tgt := 73) (q := 67) dX8_lease_64 (by decide) rfl rfl rfl (fun h64 => ?_) (fun h64 => ?_)
          · exfalso
            first | omega | (simp only [wi, decide_eq_true_eq, decide_eq_false_iff_not] at *; omega) | (simp_all [wi]; done) | (simp_all [wi]; omega)
          · refine j_aload0 (q := 68) dX8_lease_67 rfl ?_
            refine j_iconst (q := 69) dX8_lease_68 rfl ?_
            refine j_callV1 (Mc := iX8_fails) (q := 72) (c' := 0) (s' := 0) dX8_lease_69 rfl kV_X8_fails jw_1038 ⟨by decide, by decide⟩ sh_197 rfl rfl rfl (Nat.le_refl _) (Nat.le_refl _) (ct_X8_fails E) ?_
            exact j_ireturn dX8_lease_72 rfl (rfl) (by rw [th0, up_up])
      · exfalso
        first | omega | (simp only [wi, decide_eq_true_eq, decide_eq_false_iff_not] at *; omega) | (simp_all [wi]; done) | (simp_all [wi]; omega)
    · exfalso
      first | omega | (simp only [wi, decide_eq_true_eq, decide_eq_false_iff_not] at *; omega) | (simp_all [wi]; done) | (simp_all [wi]; omega)
theorem ct_X8_insure_ok {G : GX} (E : EV G) {m : Mem} {z : Z} {K : Int} {c : Int} {i : Int} {k : Int} (r_c : -2147483648 ≤ c ∧ c < 2147483648) (r_i : -2147483648 ≤ i ∧ i < 2147483648) (r_k : -2147483648 ≤ k ∧ k < 2147483648) (hs : 0 ≤ m 197 10 ∧ m 197 10 ≤ 6) (h3 : 0 ≤ z 3 ∧ z 3 ≤ 3) (hw : ∀ c, 0 ≤ c → c < 64 → 0 ≤ z (59 + 9 * c + 2) ∧ z (59 + 9 * c + 2) ≤ 6) (hc : 0 ≤ c ∧ c < 64) (hi : 0 ≤ i ∧ i < z 3) (hk : 1 ≤ k ∧ k ≤ 200) (hm : zLs z c = true ∧ wr (z (59 + 9 * c + 4)) = 0 ∧ k ≤ wr (z (59 + 9 * c + 3)) ∧ ¬ wr (z (23 + 3 * (z (59 + 9 * c + 2) - 1) + 0)) < wr (zPrem z c i k (z 1))) (hp : 0 ≤ z (41 + 6 * i + 5) ∧ z (41 + 6 * i + 5) ≤ 512) (hq : QE z) : CT G SHP iX8_insure 0 0 [.inr (.ref 197), .inl c, .inl i, .inl k] (sz m z) (some (.inl (zPrem z c i k (z 1)))) (sz (zSv z (th0 m)) (zIn z c i k)) := by
  refine j_met (L0 := [some (.inr (.ref 197)), some (.inl c), some (.inl i), some (.inl k), none, none]) (by decide) E.1 E.2 rfl (Nat.le_of_ble_eq_true rfl) ?_
  refine j_aload0 (q := 1) dX8_insure_0 rfl ?_
  refine j_iconst (q := 2) dX8_insure_1 rfl ?_
  refine j_nputI (by decide) 12 (j' := 12) (q := 5) dX8_insure_2 rfl fw_X8_38 sh_197 rfl rfl ?_
  refine j_mem (m' := sz (th0 m) z) rfl ?_
  have e10 : th0 m 197 10 = m 197 10 := up_ne (by omega)
  have e11 : th0 m 197 11 = m 197 11 := up_ne (by omega)
  refine j_iload1 (q := 6) dX8_insure_5 rfl ?_
  refine j_callS1 (Mc := iX8_isCore) (q := 9) (c' := 0) (s' := 0) dX8_insure_6 rfl kS_X8_isCore jw_1065 ⟨by decide, by decide⟩ rfl (Nat.le_refl _) (Nat.le_refl _) (ct_X8_isCore E (by omega)) ?_
  refine j_ifeq_b (tgt := 20) (q := 12) dX8_insure_9 (by decide) rfl (fun h9 => ?_) (fun h9 => ?_)
  · exfalso
    first | omega | (simp only [wi, decide_eq_true_eq, decide_eq_false_iff_not] at *; omega) | (simp_all [wi]; done) | (simp_all [wi]; omega)
  · refine j_aload0 (q := 13) dX8_insure_12 rfl ?_
    refine j_iload2 (q := 14) dX8_insure_13 rfl ?_
    refine j_callV1 (Mc := iX8_isInsurer) (q := 17) (c' := 0) (s' := 0) dX8_insure_14 rfl kV_X8_isInsurer jw_1091 ⟨by decide, by decide⟩ sh_197 rfl rfl rfl (Nat.le_refl _) (Nat.le_refl _) (ct_X8_isInsurer E (by omega) (by omega)) ?_
    refine j_ifne_b (tgt := 26) (q := 20) dX8_insure_17 (by decide) rfl (fun h17 => ?_) (fun h17 => ?_)
    · refine j_iload3 (q := 27) dX8_insure_26 rfl ?_
      refine j_callS1 (Mc := iX8_areTicks) (q := 30) (c' := 0) (s' := 0) dX8_insure_27 rfl kS_X8_areTicks jw_1072 ⟨by decide, by decide⟩ rfl (Nat.le_refl _) (Nat.le_refl _) (ct_X8_areTicks E (by omega)) ?_
      refine j_ifne_b (tgt := 39) (q := 33) dX8_insure_30 (by decide) rfl (fun h30 => ?_) (fun h30 => ?_)
      · refine j_aload0 (q := 40) dX8_insure_39 rfl ?_
        refine j_iload1 (q := 41) dX8_insure_40 rfl ?_
        refine j_iload2 (q := 42) dX8_insure_41 rfl ?_
        refine j_iload3 (q := 43) dX8_insure_42 rfl ?_
        refine j_callV3 (Mc := iX8_premiumNow) (q := 46) (c' := 0) (s' := 0) dX8_insure_43 rfl kV_X8_premiumNow jw_1095 ⟨by decide, by decide⟩ sh_197 rfl rfl rfl (Nat.le_refl _) (Nat.le_refl _) (ct_X8_premiumNow E (by omega) (by omega)) ?_
        refine j_istore4 (q := 48) dX8_insure_46 rfl rfl (by decide) ?_
        refine j_aload0 (q := 49) dX8_insure_48 rfl ?_
        refine j_iload1 (q := 50) dX8_insure_49 rfl ?_
        refine j_callV1 (Mc := iX8_isLeased) (q := 53) (c' := 0) (s' := 0) dX8_insure_50 rfl kV_X8_isLeased jw_1075 ⟨by decide, by decide⟩ sh_197 rfl rfl rfl (Nat.le_refl _) (Nat.le_refl _) (ct_X8_isLeased E (by omega)) ?_
        refine j_ifeq_b (tgt := 79) (q := 56) dX8_insure_53 (by decide) rfl (fun h53 => ?_) (fun h53 => ?_)
        · exfalso
          first | omega | (simp only [wi, decide_eq_true_eq, decide_eq_false_iff_not] at *; omega) | (simp_all [wi]; done) | (simp_all [wi]; omega)
        · have hwc := hw c hc.1 hc.2
          have hl2 : 0 < z (59 + 9 * c + 2) := (zLs_p hwc).mp h53
          refine j_aload0 (q := 57) dX8_insure_56 rfl ?_
          refine j_iload1 (q := 58) dX8_insure_57 rfl ?_
          refine j_iconst (q := 59) dX8_insure_58 rfl ?_
          refine j_callV2 (Mc := iX8_of) (q := 62) (c' := 0) (s' := 0) dX8_insure_59 rfl kV_X8_of jw_1079 ⟨by decide, by decide⟩ sh_197 rfl rfl rfl (Nat.le_refl _) (Nat.le_refl _) (ct_X8_of E (by omega) (by omega)) ?_
          refine j_if_ne (tgt := 79) (q := 65) dX8_insure_62 (by decide) rfl rfl (fun h62 => ?_) (fun h62 => ?_)
          · exfalso
            first | omega | (simp only [wi, decide_eq_true_eq, decide_eq_false_iff_not] at *; omega) | (simp_all [wi]; done) | (simp_all [wi]; omega)
          · refine j_aload0 (q := 66) dX8_insure_65 rfl ?_
            refine j_iload1 (q := 67) dX8_insure_66 rfl ?_
            refine j_iconst (q := 68) dX8_insure_67 rfl ?_
            refine j_callV2 (Mc := iX8_of) (q := 71) (c' := 0) (s' := 0) dX8_insure_68 rfl kV_X8_of jw_1079 ⟨by decide, by decide⟩ sh_197 rfl rfl rfl (Nat.le_refl _) (Nat.le_refl _) (ct_X8_of E (by omega) (by omega)) ?_
            refine j_iload3 (q := 72) dX8_insure_71 rfl ?_
            refine j_icmp_lt (tgt := 79) (q := 75) dX8_insure_72 (by decide) rfl rfl (by first | exact wr_id' (by omega) (by omega) | with_reducible exact wr_bI _ | exact rfl) (fun h72 => ?_) (fun h72 => ?_)
            · exfalso
              first | omega | (simp only [wi, decide_eq_true_eq, decide_eq_false_iff_not] at *; omega) | (simp_all [wi]; done) | (simp_all [wi]; omega)
            · refine j_iconst (q := 76) dX8_insure_75 rfl ?_
              refine j_goto (tgt := 80) dX8_insure_76 (by decide) ?_
              refine j_istore5 (q := 82) dX8_insure_80 rfl rfl (by decide) ?_
              refine j_iload5 (q := 84) dX8_insure_82 rfl ?_
              refine j_if_eq (tgt := 105) (q := 87) dX8_insure_84 (by decide) rfl (by first | exact wr_id' (by omega) (by omega) | with_reducible exact wr_bI _ | exact rfl) (fun h84 => ?_) (fun h84 => ?_)
              · omega
              · refine j_aload0 (q := 88) dX8_insure_87 rfl ?_
                refine j_aload0 (q := 89) dX8_insure_88 rfl ?_
                refine j_iload1 (q := 90) dX8_insure_89 rfl ?_
                refine j_iconst (q := 91) dX8_insure_90 rfl ?_
                refine j_callV2 (Mc := iX8_of) (q := 94) (c' := 0) (s' := 0) dX8_insure_91 rfl kV_X8_of jw_1079 ⟨by decide, by decide⟩ sh_197 rfl rfl rfl (Nat.le_refl _) (Nat.le_refl _) (ct_X8_of E (by omega) (by omega)) ?_
                refine j_iconst (q := 95) dX8_insure_94 rfl ?_
                refine j_isub (q := 96) dX8_insure_95 rfl ?_
                refine j_iconst (q := 97) dX8_insure_96 rfl ?_
                refine j_callV2 (Mc := iX8_ofTenant) (q := 100) (c' := 0) (s' := 0) dX8_insure_97 rfl kV_X8_ofTenant jw_1083 ⟨by decide, by decide⟩ sh_197 rfl rfl rfl (Nat.le_refl _) (Nat.le_refl _) (ct_X8_ofTenant E (by omega) (by omega)) ?_
                refine j_iload4 (q := 102) dX8_insure_100 rfl ?_
                refine j_icmp_ge (tgt := 111) (q := 105) dX8_insure_102 (by decide) rfl rfl rfl (fun h102 => ?_) (fun h102 => ?_)
                · refine j_aload0 (q := 112) dX8_insure_111 rfl ?_
                  refine j_callV0v (Mc := iX8_save) (q := 115) (c' := 0) (s' := 0) dX8_insure_112 rfl kV_X8_save jw_1042 ⟨by decide, by decide⟩ sh_197 rfl rfl rfl (Nat.le_refl _) (Nat.le_refl _) (ct_X8_save E (by first | assumption | omega)) ?_
                  refine j_aload0 (q := 116) dX8_insure_115 rfl ?_
                  refine j_getR 0 (q := 119) dX8_insure_116 rfl fl_X8_7 sh_197 rfl ?_
                  refine j_bipush (q := 121) dX8_insure_119 rfl rfl ?_
                  refine j_iconst (q := 122) dX8_insure_121 rfl ?_
                  refine j_aload0 (q := 123) dX8_insure_122 rfl ?_
                  refine j_iload1 (q := 124) dX8_insure_123 rfl ?_
                  refine j_iconst (q := 125) dX8_insure_124 rfl ?_
                  refine j_callV2 (Mc := iX8_of) (q := 128) (c' := 0) (s' := 0) dX8_insure_125 rfl kV_X8_of jw_1079 ⟨by decide, by decide⟩ sh_197 rfl rfl rfl (Nat.le_refl _) (Nat.le_refl _) (ct_X8_of E (by omega) (by omega)) ?_
                  refine j_iconst (q := 129) dX8_insure_128 rfl ?_
                  refine j_isub (q := 130) dX8_insure_129 rfl ?_
                  refine j_imul (q := 131) dX8_insure_130 rfl ?_
                  refine j_iadd (q := 132) dX8_insure_131 rfl ?_
                  refine j_dup2 (q := 133) dX8_insure_132 rfl rfl rfl ?_
                  refine j_zload (q := 134) dX8_insure_133 rfl (by first | exact wr_id' (by omega) (by omega) | with_reducible exact wr_bI _ | exact rfl) (by omega) (by omega) ?_
                  refine j_iload4 (q := 136) dX8_insure_134 rfl ?_
                  refine j_isub (q := 137) dX8_insure_136 rfl ?_
                  refine j_zstore (q := 138) dX8_insure_137 rfl (by first | exact wr_id' (by omega) (by omega) | with_reducible exact wr_bI _ | exact rfl) (by omega) (by omega) ?_
                  refine j_aload0 (q := 139) dX8_insure_138 rfl ?_
                  refine j_getR 0 (q := 142) dX8_insure_139 rfl fl_X8_7 sh_197 rfl ?_
                  refine j_bipush (q := 144) dX8_insure_142 rfl rfl ?_
                  refine j_bipush (q := 146) dX8_insure_144 rfl rfl ?_
                  refine j_iload2 (q := 147) dX8_insure_146 rfl ?_
                  refine j_imul (q := 148) dX8_insure_147 rfl ?_
                  refine j_iadd (q := 149) dX8_insure_148 rfl ?_
                  refine j_iconst (q := 150) dX8_insure_149 rfl ?_
                  refine j_iadd (q := 151) dX8_insure_150 rfl ?_
                  refine j_dup2 (q := 152) dX8_insure_151 rfl rfl rfl ?_
                  refine j_zload (q := 153) dX8_insure_152 rfl (by first | exact wr_id' (by omega) (by omega) | with_reducible exact wr_bI _ | exact rfl) (by omega) (by omega) ?_
                  refine j_iload4 (q := 155) dX8_insure_153 rfl ?_
                  refine j_iadd (q := 156) dX8_insure_155 rfl ?_
                  refine j_zstore (q := 157) dX8_insure_156 rfl (by first | exact wr_id' (by omega) (by omega) | with_reducible exact wr_bI _ | exact rfl) (by omega) (by omega) ?_
                  refine j_aload0 (q := 158) dX8_insure_157 rfl ?_
                  refine j_getR 0 (q := 161) dX8_insure_158 rfl fl_X8_7 sh_197 rfl ?_
                  refine j_bipush (q := 163) dX8_insure_161 rfl rfl ?_
                  refine j_bipush (q := 165) dX8_insure_163 rfl rfl ?_
                  refine j_iload2 (q := 166) dX8_insure_165 rfl ?_
                  refine j_imul (q := 167) dX8_insure_166 rfl ?_
                  refine j_iadd (q := 168) dX8_insure_167 rfl ?_
                  refine j_iconst (q := 169) dX8_insure_168 rfl ?_
                  refine j_iadd (q := 170) dX8_insure_169 rfl ?_
                  refine j_dup2 (q := 171) dX8_insure_170 rfl rfl rfl ?_
                  refine j_zload (q := 172) dX8_insure_171 rfl (by first | exact wr_id' (by omega) (by omega) | with_reducible exact wr_bI _ | exact rfl) (by omega) (by omega) ?_
                  refine j_iload4 (q := 174) dX8_insure_172 rfl ?_
                  refine j_iadd (q := 175) dX8_insure_174 rfl ?_
                  refine j_zstore (q := 176) dX8_insure_175 rfl (by first | exact wr_id' (by omega) (by omega) | with_reducible exact wr_bI _ | exact rfl) (by omega) (by omega) ?_
                  refine j_aload0 (q := 177) dX8_insure_176 rfl ?_
                  refine j_iload1 (q := 178) dX8_insure_177 rfl ?_
                  refine j_iconst (q := 179) dX8_insure_178 rfl ?_
                  refine j_iload2 (q := 180) dX8_insure_179 rfl ?_
                  refine j_iconst (q := 181) dX8_insure_180 rfl ?_
                  refine j_iadd (q := 182) dX8_insure_181 rfl ?_
                  refine j_callV3v (Mc := iX8_lay) (q := 185) (c' := 0) (s' := 0) dX8_insure_182 rfl kV_X8_lay jw_980 ⟨by decide, by decide⟩ sh_197 rfl rfl rfl (Nat.le_refl _) (Nat.le_refl _) (ct_X8_lay E (by omega) (by omega)) ?_
                  refine j_aload0 (q := 186) dX8_insure_185 rfl ?_
                  refine j_iload1 (q := 187) dX8_insure_186 rfl ?_
                  refine j_iconst (q := 188) dX8_insure_187 rfl ?_
                  refine j_iload3 (q := 189) dX8_insure_188 rfl ?_
                  refine j_callV3v (Mc := iX8_lay) (q := 192) (c' := 0) (s' := 0) dX8_insure_189 rfl kV_X8_lay jw_980 ⟨by decide, by decide⟩ sh_197 rfl rfl rfl (Nat.le_refl _) (Nat.le_refl _) (ct_X8_lay E (by omega) (by omega)) ?_
                  refine j_mem (m' := sz (zSv z (th0 m)) (zIn0 z c i k)) rfl ?_
                  have wp : 0 ≤ zIn0 z c i k (41 + 6 * i + 5) ∧ zIn0 z c i k (41 + 6 * i + 5) ≤ 512 := by simp only [zIn0]; rw [u1_ne (by omega), u1_ne (by omega), u1_ne (by omega), u1_ne (by omega), u1_ne (by omega)]; exact hp
                  have wq : QE (zIn0 z c i k) := fun j a b => by simp only [zIn0]; rw [u1_ne (by omega), u1_ne (by omega), u1_ne (by omega), u1_ne (by omega), u1_ne (by omega)]; exact hq j a b
                  refine j_aload0 (q := 193) dX8_insure_192 rfl ?_
                  refine j_iload2 (q := 194) dX8_insure_193 rfl ?_
                  refine j_callV1v (Mc := iX8_pay) (q := 197) (c' := 0) (s' := 0) dX8_insure_194 rfl kV_X8_pay jw_1107 ⟨by decide, by decide⟩ sh_197 rfl rfl rfl (Nat.le_refl _) (Nat.le_refl _) (ct_X8_pay E (by omega) wp wq) ?_
                  refine j_iload4 (q := 199) dX8_insure_197 rfl ?_
                  exact j_ireturn dX8_insure_199 rfl (rfl) (rfl)
                · exfalso
                  first | omega | (simp only [wi, decide_eq_true_eq, decide_eq_false_iff_not] at *; omega) | (simp_all [wi]; done) | (simp_all [wi]; omega)
      · exfalso
        first | omega | (simp only [wi, decide_eq_true_eq, decide_eq_false_iff_not] at *; omega) | (simp_all [wi]; done) | (simp_all [wi]; omega)
    · exfalso
      first | omega | (simp only [wi, decide_eq_true_eq, decide_eq_false_iff_not] at *; omega) | (simp_all [wi]; done) | (simp_all [wi]; omega)
theorem ct_X8_insure_e1 {G : GX} (E : EV G) {m : Mem} {z : Z} {K : Int} {c : Int} {i : Int} {k : Int} (r_c : -2147483648 ≤ c ∧ c < 2147483648) (r_i : -2147483648 ≤ i ∧ i < 2147483648) (r_k : -2147483648 ≤ k ∧ k < 2147483648) (hs : 0 ≤ m 197 10 ∧ m 197 10 ≤ 6) (h3 : 0 ≤ z 3 ∧ z 3 ≤ 3) (hw : ∀ c, 0 ≤ c → c < 64 → 0 ≤ z (59 + 9 * c + 2) ∧ z (59 + 9 * c + 2) ≤ 6) (hx : ¬ ((0 ≤ c ∧ c < 64) ∧ 0 ≤ i ∧ i < z 3)) : CT G SHP iX8_insure 0 0 [.inr (.ref 197), .inl c, .inl i, .inl k] (sz m z) (some (.inl 0)) (sz (up m 197 12 1) z) := by
  refine j_met (L0 := [some (.inr (.ref 197)), some (.inl c), some (.inl i), some (.inl k), none, none]) (by decide) E.1 E.2 rfl (Nat.le_of_ble_eq_true rfl) ?_
  refine j_aload0 (q := 1) dX8_insure_0 rfl ?_
  refine j_iconst (q := 2) dX8_insure_1 rfl ?_
  refine j_nputI (by decide) 12 (j' := 12) (q := 5) dX8_insure_2 rfl fw_X8_38 sh_197 rfl rfl ?_
  refine j_mem (m' := sz (th0 m) z) rfl ?_
  have e10 : th0 m 197 10 = m 197 10 := up_ne (by omega)
  have e11 : th0 m 197 11 = m 197 11 := up_ne (by omega)
  refine j_iload1 (q := 6) dX8_insure_5 rfl ?_
  refine j_callS1 (Mc := iX8_isCore) (q := 9) (c' := 0) (s' := 0) dX8_insure_6 rfl kS_X8_isCore jw_1065 ⟨by decide, by decide⟩ rfl (Nat.le_refl _) (Nat.le_refl _) (ct_X8_isCore E (by omega)) ?_
  refine j_ifeq_b (tgt := 20) (q := 12) dX8_insure_9 (by decide) rfl (fun h9 => ?_) (fun h9 => ?_)
  · refine j_aload0 (q := 21) dX8_insure_20 rfl ?_
    refine j_iconst (q := 22) dX8_insure_21 rfl ?_
    refine j_callV1 (Mc := iX8_fails) (q := 25) (c' := 0) (s' := 0) dX8_insure_22 rfl kV_X8_fails jw_1038 ⟨by decide, by decide⟩ sh_197 rfl rfl rfl (Nat.le_refl _) (Nat.le_refl _) (ct_X8_fails E) ?_
    exact j_ireturn dX8_insure_25 rfl (rfl) (by rw [th0, up_up])
  · refine j_aload0 (q := 13) dX8_insure_12 rfl ?_
    refine j_iload2 (q := 14) dX8_insure_13 rfl ?_
    refine j_callV1 (Mc := iX8_isInsurer) (q := 17) (c' := 0) (s' := 0) dX8_insure_14 rfl kV_X8_isInsurer jw_1091 ⟨by decide, by decide⟩ sh_197 rfl rfl rfl (Nat.le_refl _) (Nat.le_refl _) (ct_X8_isInsurer E (by omega) (by omega)) ?_
    refine j_ifne_b (tgt := 26) (q := 20) dX8_insure_17 (by decide) rfl (fun h17 => ?_) (fun h17 => ?_)
    · exfalso
      first | omega | (simp only [wi, decide_eq_true_eq, decide_eq_false_iff_not] at *; omega) | (simp_all [wi]; done) | (simp_all [wi]; omega)
    · refine j_aload0 (q := 21) dX8_insure_20 rfl ?_
      refine j_iconst (q := 22) dX8_insure_21 rfl ?_
      refine j_callV1 (Mc := iX8_fails) (q := 25) (c' := 0) (s' := 0) dX8_insure_22 rfl kV_X8_fails jw_1038 ⟨by decide, by decide⟩ sh_197 rfl rfl rfl (Nat.le_refl _) (Nat.le_refl _) (ct_X8_fails E) ?_
      exact j_ireturn dX8_insure_25 rfl (rfl) (by rw [th0, up_up])
theorem ct_X8_insure_e2 {G : GX} (E : EV G) {m : Mem} {z : Z} {K : Int} {c : Int} {i : Int} {k : Int} (r_c : -2147483648 ≤ c ∧ c < 2147483648) (r_i : -2147483648 ≤ i ∧ i < 2147483648) (r_k : -2147483648 ≤ k ∧ k < 2147483648) (hs : 0 ≤ m 197 10 ∧ m 197 10 ≤ 6) (h3 : 0 ≤ z 3 ∧ z 3 ≤ 3) (hw : ∀ c, 0 ≤ c → c < 64 → 0 ≤ z (59 + 9 * c + 2) ∧ z (59 + 9 * c + 2) ≤ 6) (hc : 0 ≤ c ∧ c < 64) (hi : 0 ≤ i ∧ i < z 3) (hk : ¬ (1 ≤ k ∧ k ≤ 200)) : CT G SHP iX8_insure 0 0 [.inr (.ref 197), .inl c, .inl i, .inl k] (sz m z) (some (.inl 0)) (sz (up m 197 12 2) z) := by
  refine j_met (L0 := [some (.inr (.ref 197)), some (.inl c), some (.inl i), some (.inl k), none, none]) (by decide) E.1 E.2 rfl (Nat.le_of_ble_eq_true rfl) ?_
  refine j_aload0 (q := 1) dX8_insure_0 rfl ?_
  refine j_iconst (q := 2) dX8_insure_1 rfl ?_
  refine j_nputI (by decide) 12 (j' := 12) (q := 5) dX8_insure_2 rfl fw_X8_38 sh_197 rfl rfl ?_
  refine j_mem (m' := sz (th0 m) z) rfl ?_
  have e10 : th0 m 197 10 = m 197 10 := up_ne (by omega)
  have e11 : th0 m 197 11 = m 197 11 := up_ne (by omega)
  refine j_iload1 (q := 6) dX8_insure_5 rfl ?_
  refine j_callS1 (Mc := iX8_isCore) (q := 9) (c' := 0) (s' := 0) dX8_insure_6 rfl kS_X8_isCore jw_1065 ⟨by decide, by decide⟩ rfl (Nat.le_refl _) (Nat.le_refl _) (ct_X8_isCore E (by omega)) ?_
  refine j_ifeq_b (tgt := 20) (q := 12) dX8_insure_9 (by decide) rfl (fun h9 => ?_) (fun h9 => ?_)
  · exfalso
    first | omega | (simp only [wi, decide_eq_true_eq, decide_eq_false_iff_not] at *; omega) | (simp_all [wi]; done) | (simp_all [wi]; omega)
  · refine j_aload0 (q := 13) dX8_insure_12 rfl ?_
    refine j_iload2 (q := 14) dX8_insure_13 rfl ?_
    refine j_callV1 (Mc := iX8_isInsurer) (q := 17) (c' := 0) (s' := 0) dX8_insure_14 rfl kV_X8_isInsurer jw_1091 ⟨by decide, by decide⟩ sh_197 rfl rfl rfl (Nat.le_refl _) (Nat.le_refl _) (ct_X8_isInsurer E (by omega) (by omega)) ?_
    refine j_ifne_b (tgt := 26) (q := 20) dX8_insure_17 (by decide) rfl (fun h17 => ?_) (fun h17 => ?_)
    · refine j_iload3 (q := 27) dX8_insure_26 rfl ?_
      refine j_callS1 (Mc := iX8_areTicks) (q := 30) (c' := 0) (s' := 0) dX8_insure_27 rfl kS_X8_areTicks jw_1072 ⟨by decide, by decide⟩ rfl (Nat.le_refl _) (Nat.le_refl _) (ct_X8_areTicks E (by omega)) ?_
      refine j_ifne_b (tgt := 39) (q := 33) dX8_insure_30 (by decide) rfl (fun h30 => ?_) (fun h30 => ?_)
      · exfalso
        first | omega | (simp only [wi, decide_eq_true_eq, decide_eq_false_iff_not] at *; omega) | (simp_all [wi]; done) | (simp_all [wi]; omega)
      · refine j_aload0 (q := 34) dX8_insure_33 rfl ?_
        refine j_iconst (q := 35) dX8_insure_34 rfl ?_
        refine j_callV1 (Mc := iX8_fails) (q := 38) (c' := 0) (s' := 0) dX8_insure_35 rfl kV_X8_fails jw_1038 ⟨by decide, by decide⟩ sh_197 rfl rfl rfl (Nat.le_refl _) (Nat.le_refl _) (ct_X8_fails E) ?_
        exact j_ireturn dX8_insure_38 rfl (rfl) (by rw [th0, up_up])
    · exfalso
      first | omega | (simp only [wi, decide_eq_true_eq, decide_eq_false_iff_not] at *; omega) | (simp_all [wi]; done) | (simp_all [wi]; omega)
theorem ct_X8_renew_ok {G : GX} (E : EV G) {m : Mem} {z : Z} {K : Int} {c : Int} (r_c : -2147483648 ≤ c ∧ c < 2147483648) (hs : 0 ≤ m 197 10 ∧ m 197 10 ≤ 6) (hc : 0 ≤ c ∧ c < 64) (hl : zLs z c = false) (hm : ¬ wr (z 12) < wr (z (15 + 7))) : CT G SHP iX8_renew 0 0 [.inr (.ref 197), .inl c] (sz m z) (some (.inl (z (59 + 9 * c + 1)))) (sz (zSv z (th0 m)) (zRen z c)) := by
  refine j_met (L0 := [some (.inr (.ref 197)), some (.inl c), none]) (by decide) E.1 E.2 rfl (Nat.le_of_ble_eq_true rfl) ?_
  refine j_aload0 (q := 1) dX8_renew_0 rfl ?_
  refine j_iconst (q := 2) dX8_renew_1 rfl ?_
  refine j_nputI (by decide) 12 (j' := 12) (q := 5) dX8_renew_2 rfl fw_X8_38 sh_197 rfl rfl ?_
  refine j_mem (m' := sz (th0 m) z) rfl ?_
  have e10 : th0 m 197 10 = m 197 10 := up_ne (by omega)
  have e11 : th0 m 197 11 = m 197 11 := up_ne (by omega)
  refine j_iload1 (q := 6) dX8_renew_5 rfl ?_
  refine j_callS1 (Mc := iX8_isCore) (q := 9) (c' := 0) (s' := 0) dX8_renew_6 rfl kS_X8_isCore jw_1065 ⟨by decide, by decide⟩ rfl (Nat.le_refl _) (Nat.le_refl _) (ct_X8_isCore E (by omega)) ?_
  refine j_ifne_b (tgt := 18) (q := 12) dX8_renew_9 (by decide) rfl (fun h9 => ?_) (fun h9 => ?_)
  · refine j_aload0 (q := 19) dX8_renew_18 rfl ?_
    refine j_iload1 (q := 20) dX8_renew_19 rfl ?_
    refine j_callV1 (Mc := iX8_isLeased) (q := 23) (c' := 0) (s' := 0) dX8_renew_20 rfl kV_X8_isLeased jw_1075 ⟨by decide, by decide⟩ sh_197 rfl rfl rfl (Nat.le_refl _) (Nat.le_refl _) (ct_X8_isLeased E (by omega)) ?_
    refine j_ifne_b (tgt := 42) (q := 26) dX8_renew_23 (by decide) rfl (fun h23 => ?_) (fun h23 => ?_)
    · exfalso
      first | omega | (simp only [wi, decide_eq_true_eq, decide_eq_false_iff_not] at *; omega) | (simp_all [wi]; done) | (simp_all [wi]; omega)
    · refine j_aload0 (q := 27) dX8_renew_26 rfl ?_
      refine j_getR 0 (q := 30) dX8_renew_27 rfl fl_X8_7 sh_197 rfl ?_
      refine j_bipush (q := 32) dX8_renew_30 rfl rfl ?_
      refine j_zload (q := 33) dX8_renew_32 rfl (by first | exact wr_id' (by omega) (by omega) | with_reducible exact wr_bI _ | exact rfl) (by omega) (by omega) ?_
      refine j_aload0 (q := 34) dX8_renew_33 rfl ?_
      refine j_bipush (q := 36) dX8_renew_34 rfl rfl ?_
      refine j_callV1 (Mc := iX8_rule) (q := 39) (c' := 0) (s' := 0) dX8_renew_36 rfl kV_X8_rule jw_1057 ⟨by decide, by decide⟩ sh_197 rfl rfl rfl (Nat.le_refl _) (Nat.le_refl _) (ct_X8_rule E (by omega)) ?_
      refine j_icmp_ge (tgt := 48) (q := 42) dX8_renew_39 (by decide) rfl rfl rfl (fun h39 => ?_) (fun h39 => ?_)
      · refine j_aload0 (q := 49) dX8_renew_48 rfl ?_
        refine j_callV0v (Mc := iX8_save) (q := 52) (c' := 0) (s' := 0) dX8_renew_49 rfl kV_X8_save jw_1042 ⟨by decide, by decide⟩ sh_197 rfl rfl rfl (Nat.le_refl _) (Nat.le_refl _) (ct_X8_save E (by first | assumption | omega)) ?_
        refine j_aload0 (q := 53) dX8_renew_52 rfl ?_
        refine j_iload1 (q := 54) dX8_renew_53 rfl ?_
        refine j_iconst (q := 55) dX8_renew_54 rfl ?_
        refine j_callV2 (Mc := iX8_of) (q := 58) (c' := 0) (s' := 0) dX8_renew_55 rfl kV_X8_of jw_1079 ⟨by decide, by decide⟩ sh_197 rfl rfl rfl (Nat.le_refl _) (Nat.le_refl _) (ct_X8_of E (by omega) (by omega)) ?_
        refine j_istore2 (q := 59) dX8_renew_58 rfl rfl (by decide) ?_
        refine j_aload0 (q := 60) dX8_renew_59 rfl ?_
        refine j_iload1 (q := 61) dX8_renew_60 rfl ?_
        refine j_iconst (q := 62) dX8_renew_61 rfl ?_
        refine j_bipush (q := 64) dX8_renew_62 rfl rfl ?_
        refine j_callV3v (Mc := iX8_lay) (q := 67) (c' := 0) (s' := 0) dX8_renew_64 rfl kV_X8_lay jw_980 ⟨by decide, by decide⟩ sh_197 rfl rfl rfl (Nat.le_refl _) (Nat.le_refl _) (ct_X8_lay E (by omega) (by omega)) ?_
        refine j_aload0 (q := 68) dX8_renew_67 rfl ?_
        refine j_iload1 (q := 69) dX8_renew_68 rfl ?_
        refine j_iconst (q := 70) dX8_renew_69 rfl ?_
        refine j_iconst (q := 71) dX8_renew_70 rfl ?_
        refine j_callV3v (Mc := iX8_lay) (q := 74) (c' := 0) (s' := 0) dX8_renew_71 rfl kV_X8_lay jw_980 ⟨by decide, by decide⟩ sh_197 rfl rfl rfl (Nat.le_refl _) (Nat.le_refl _) (ct_X8_lay E (by omega) (by omega)) ?_
        refine j_aload0 (q := 75) dX8_renew_74 rfl ?_
        refine j_getR 0 (q := 78) dX8_renew_75 rfl fl_X8_7 sh_197 rfl ?_
        refine j_bipush (q := 80) dX8_renew_78 rfl rfl ?_
        refine j_dup2 (q := 81) dX8_renew_80 rfl rfl rfl ?_
        refine j_zload (q := 82) dX8_renew_81 rfl (by first | exact wr_id' (by omega) (by omega) | with_reducible exact wr_bI _ | exact rfl) (by omega) (by omega) ?_
        refine j_aload0 (q := 83) dX8_renew_82 rfl ?_
        refine j_bipush (q := 85) dX8_renew_83 rfl rfl ?_
        refine j_callV1 (Mc := iX8_rule) (q := 88) (c' := 0) (s' := 0) dX8_renew_85 rfl kV_X8_rule jw_1057 ⟨by decide, by decide⟩ sh_197 rfl rfl rfl (Nat.le_refl _) (Nat.le_refl _) (ct_X8_rule E (by omega)) ?_
        refine j_isub (q := 89) dX8_renew_88 rfl ?_
        refine j_zstore (q := 90) dX8_renew_89 rfl (by first | exact wr_id' (by omega) (by omega) | with_reducible exact wr_bI _ | exact rfl) (by omega) (by omega) ?_
        refine j_aload0 (q := 91) dX8_renew_90 rfl ?_
        refine j_getR 0 (q := 94) dX8_renew_91 rfl fl_X8_7 sh_197 rfl ?_
        refine j_bipush (q := 96) dX8_renew_94 rfl rfl ?_
        refine j_dup2 (q := 97) dX8_renew_96 rfl rfl rfl ?_
        refine j_zload (q := 98) dX8_renew_97 rfl (by first | exact wr_id' (by omega) (by omega) | with_reducible exact wr_bI _ | exact rfl) (by omega) (by omega) ?_
        refine j_aload0 (q := 99) dX8_renew_98 rfl ?_
        refine j_bipush (q := 101) dX8_renew_99 rfl rfl ?_
        refine j_callV1 (Mc := iX8_rule) (q := 104) (c' := 0) (s' := 0) dX8_renew_101 rfl kV_X8_rule jw_1057 ⟨by decide, by decide⟩ sh_197 rfl rfl rfl (Nat.le_refl _) (Nat.le_refl _) (ct_X8_rule E (by omega)) ?_
        refine j_iadd (q := 105) dX8_renew_104 rfl ?_
        refine j_zstore (q := 106) dX8_renew_105 rfl (by first | exact wr_id' (by omega) (by omega) | with_reducible exact wr_bI _ | exact rfl) (by omega) (by omega) ?_
        refine j_iload2 (q := 107) dX8_renew_106 rfl ?_
        exact j_ireturn dX8_renew_107 rfl (rfl) (rfl)
      · exfalso
        first | omega | (simp only [wi, decide_eq_true_eq, decide_eq_false_iff_not] at *; omega) | (simp_all [wi]; done) | (simp_all [wi]; omega)
  · exfalso
    first | omega | (simp only [wi, decide_eq_true_eq, decide_eq_false_iff_not] at *; omega) | (simp_all [wi]; done) | (simp_all [wi]; omega)
theorem ct_X8_renew_e1 {G : GX} (E : EV G) {m : Mem} {z : Z} {K : Int} {c : Int} (r_c : -2147483648 ≤ c ∧ c < 2147483648) (hs : 0 ≤ m 197 10 ∧ m 197 10 ≤ 6) (hx : ¬ (0 ≤ c ∧ c < 64)) : CT G SHP iX8_renew 0 0 [.inr (.ref 197), .inl c] (sz m z) (some (.inl 0)) (sz (up m 197 12 1) z) := by
  refine j_met (L0 := [some (.inr (.ref 197)), some (.inl c), none]) (by decide) E.1 E.2 rfl (Nat.le_of_ble_eq_true rfl) ?_
  refine j_aload0 (q := 1) dX8_renew_0 rfl ?_
  refine j_iconst (q := 2) dX8_renew_1 rfl ?_
  refine j_nputI (by decide) 12 (j' := 12) (q := 5) dX8_renew_2 rfl fw_X8_38 sh_197 rfl rfl ?_
  refine j_mem (m' := sz (th0 m) z) rfl ?_
  have e10 : th0 m 197 10 = m 197 10 := up_ne (by omega)
  have e11 : th0 m 197 11 = m 197 11 := up_ne (by omega)
  refine j_iload1 (q := 6) dX8_renew_5 rfl ?_
  refine j_callS1 (Mc := iX8_isCore) (q := 9) (c' := 0) (s' := 0) dX8_renew_6 rfl kS_X8_isCore jw_1065 ⟨by decide, by decide⟩ rfl (Nat.le_refl _) (Nat.le_refl _) (ct_X8_isCore E (by omega)) ?_
  refine j_ifne_b (tgt := 18) (q := 12) dX8_renew_9 (by decide) rfl (fun h9 => ?_) (fun h9 => ?_)
  · exfalso
    first | omega | (simp only [wi, decide_eq_true_eq, decide_eq_false_iff_not] at *; omega) | (simp_all [wi]; done) | (simp_all [wi]; omega)
  · refine j_aload0 (q := 13) dX8_renew_12 rfl ?_
    refine j_iconst (q := 14) dX8_renew_13 rfl ?_
    refine j_callV1 (Mc := iX8_fails) (q := 17) (c' := 0) (s' := 0) dX8_renew_14 rfl kV_X8_fails jw_1038 ⟨by decide, by decide⟩ sh_197 rfl rfl rfl (Nat.le_refl _) (Nat.le_refl _) (ct_X8_fails E) ?_
    exact j_ireturn dX8_renew_17 rfl (rfl) (by rw [th0, up_up])
theorem ct_X8_renew_e2 {G : GX} (E : EV G) {m : Mem} {z : Z} {K : Int} {c : Int} (r_c : -2147483648 ≤ c ∧ c < 2147483648) (hs : 0 ≤ m 197 10 ∧ m 197 10 ≤ 6) (hc : 0 ≤ c ∧ c < 64) (hl : zLs z c = true ∨ wr (z 12) < wr (z (15 + 7))) : CT G SHP iX8_renew 0 0 [.inr (.ref 197), .inl c] (sz m z) (some (.inl 0)) (sz (up m 197 12 2) z) := by
  refine j_met (L0 := [some (.inr (.ref 197)), some (.inl c), none]) (by decide) E.1 E.2 rfl (Nat.le_of_ble_eq_true rfl) ?_
  refine j_aload0 (q := 1) dX8_renew_0 rfl ?_
  refine j_iconst (q := 2) dX8_renew_1 rfl ?_
  refine j_nputI (by decide) 12 (j' := 12) (q := 5) dX8_renew_2 rfl fw_X8_38 sh_197 rfl rfl ?_
  refine j_mem (m' := sz (th0 m) z) rfl ?_
  have e10 : th0 m 197 10 = m 197 10 := up_ne (by omega)
  have e11 : th0 m 197 11 = m 197 11 := up_ne (by omega)
  refine j_iload1 (q := 6) dX8_renew_5 rfl ?_
  refine j_callS1 (Mc := iX8_isCore) (q := 9) (c' := 0) (s' := 0) dX8_renew_6 rfl kS_X8_isCore jw_1065 ⟨by decide, by decide⟩ rfl (Nat.le_refl _) (Nat.le_refl _) (ct_X8_isCore E (by omega)) ?_
  refine j_ifne_b (tgt := 18) (q := 12) dX8_renew_9 (by decide) rfl (fun h9 => ?_) (fun h9 => ?_)
  · refine j_aload0 (q := 19) dX8_renew_18 rfl ?_
    refine j_iload1 (q := 20) dX8_renew_19 rfl ?_
    refine j_callV1 (Mc := iX8_isLeased) (q := 23) (c' := 0) (s' := 0) dX8_renew_20 rfl kV_X8_isLeased jw_1075 ⟨by decide, by decide⟩ sh_197 rfl rfl rfl (Nat.le_refl _) (Nat.le_refl _) (ct_X8_isLeased E (by omega)) ?_
    refine j_ifne_b (tgt := 42) (q := 26) dX8_renew_23 (by decide) rfl (fun h23 => ?_) (fun h23 => ?_)
    · refine j_aload0 (q := 43) dX8_renew_42 rfl ?_
      refine j_iconst (q := 44) dX8_renew_43 rfl ?_
      refine j_callV1 (Mc := iX8_fails) (q := 47) (c' := 0) (s' := 0) dX8_renew_44 rfl kV_X8_fails jw_1038 ⟨by decide, by decide⟩ sh_197 rfl rfl rfl (Nat.le_refl _) (Nat.le_refl _) (ct_X8_fails E) ?_
      exact j_ireturn dX8_renew_47 rfl (rfl) (by rw [th0, up_up])
    · refine j_aload0 (q := 27) dX8_renew_26 rfl ?_
      refine j_getR 0 (q := 30) dX8_renew_27 rfl fl_X8_7 sh_197 rfl ?_
      refine j_bipush (q := 32) dX8_renew_30 rfl rfl ?_
      refine j_zload (q := 33) dX8_renew_32 rfl (by first | exact wr_id' (by omega) (by omega) | with_reducible exact wr_bI _ | exact rfl) (by omega) (by omega) ?_
      refine j_aload0 (q := 34) dX8_renew_33 rfl ?_
      refine j_bipush (q := 36) dX8_renew_34 rfl rfl ?_
      refine j_callV1 (Mc := iX8_rule) (q := 39) (c' := 0) (s' := 0) dX8_renew_36 rfl kV_X8_rule jw_1057 ⟨by decide, by decide⟩ sh_197 rfl rfl rfl (Nat.le_refl _) (Nat.le_refl _) (ct_X8_rule E (by omega)) ?_
      refine j_icmp_ge (tgt := 48) (q := 42) dX8_renew_39 (by decide) rfl rfl rfl (fun h39 => ?_) (fun h39 => ?_)
      · exfalso
        first | omega | (simp only [wi, decide_eq_true_eq, decide_eq_false_iff_not] at *; omega) | (simp_all [wi]; done) | (simp_all [wi]; omega)
      · refine j_aload0 (q := 43) dX8_renew_42 rfl ?_
        refine j_iconst (q := 44) dX8_renew_43 rfl ?_
        refine j_callV1 (Mc := iX8_fails) (q := 47) (c' := 0) (s' := 0) dX8_renew_44 rfl kV_X8_fails jw_1038 ⟨by decide, by decide⟩ sh_197 rfl rfl rfl (Nat.le_refl _) (Nat.le_refl _) (ct_X8_fails E) ?_
        exact j_ireturn dX8_renew_47 rfl (rfl) (by rw [th0, up_up])
  · exfalso
    first | omega | (simp only [wi, decide_eq_true_eq, decide_eq_false_iff_not] at *; omega) | (simp_all [wi]; done) | (simp_all [wi]; omega)
theorem ct_X8_write_ok {G : GX} (E : EV G) {m : Mem} {z : Z} {K : Int} {c : Int} {b : Bool} (r_c : -2147483648 ≤ c ∧ c < 2147483648) (hs : 0 ≤ m 197 10 ∧ m 197 10 ≤ 6) (hc : 0 ≤ c ∧ c < 64) (hl : zLs z c = true) (hW : WI z K) : CT G SHP iX8_write 0 0 [.inr (.ref 197), .inl c, .inl (bI b)] (sz m z) (some (.inl (zWr z c (bI b) (59 + 9 * c + 0)))) (sz (zSv z (th0 m)) (zWr z c (bI b))) := by
  refine j_met (L0 := [some (.inr (.ref 197)), some (.inl c), some (.inl (bI b))]) (by decide) E.1 E.2 rfl (Nat.le_of_ble_eq_true rfl) ?_
  refine j_aload0 (q := 1) dX8_write_0 rfl ?_
  refine j_iconst (q := 2) dX8_write_1 rfl ?_
  refine j_nputI (by decide) 12 (j' := 12) (q := 5) dX8_write_2 rfl fw_X8_38 sh_197 rfl rfl ?_
  refine j_mem (m' := sz (th0 m) z) rfl ?_
  have e10 : th0 m 197 10 = m 197 10 := up_ne (by omega)
  have e11 : th0 m 197 11 = m 197 11 := up_ne (by omega)
  refine j_iload1 (q := 6) dX8_write_5 rfl ?_
  refine j_callS1 (Mc := iX8_isCore) (q := 9) (c' := 0) (s' := 0) dX8_write_6 rfl kS_X8_isCore jw_1065 ⟨by decide, by decide⟩ rfl (Nat.le_refl _) (Nat.le_refl _) (ct_X8_isCore E (by omega)) ?_
  refine j_ifne_b (tgt := 18) (q := 12) dX8_write_9 (by decide) rfl (fun h9 => ?_) (fun h9 => ?_)
  · refine j_aload0 (q := 19) dX8_write_18 rfl ?_
    refine j_iload1 (q := 20) dX8_write_19 rfl ?_
    refine j_callV1 (Mc := iX8_isLeased) (q := 23) (c' := 0) (s' := 0) dX8_write_20 rfl kV_X8_isLeased jw_1075 ⟨by decide, by decide⟩ sh_197 rfl rfl rfl (Nat.le_refl _) (Nat.le_refl _) (ct_X8_isLeased E (by omega)) ?_
    refine j_ifne_b (tgt := 32) (q := 26) dX8_write_23 (by decide) rfl (fun h23 => ?_) (fun h23 => ?_)
    · refine j_aload0 (q := 33) dX8_write_32 rfl ?_
      refine j_callV0v (Mc := iX8_save) (q := 36) (c' := 0) (s' := 0) dX8_write_33 rfl kV_X8_save jw_1042 ⟨by decide, by decide⟩ sh_197 rfl rfl rfl (Nat.le_refl _) (Nat.le_refl _) (ct_X8_save E (by first | assumption | omega)) ?_
      refine j_aload0 (q := 37) dX8_write_36 rfl ?_
      refine j_iload1 (q := 38) dX8_write_37 rfl ?_
      refine j_iload2 (q := 39) dX8_write_38 rfl ?_
      refine j_ifeq_b (tgt := 46) (q := 42) dX8_write_39 (by decide) rfl (fun h39 => ?_) (fun h39 => ?_)
      · refine j_iconst (q := 47) dX8_write_46 rfl ?_
        refine j_callV2 (Mc := iX8_writes) (q := 50) (c' := 0) (s' := 0) dX8_write_47 rfl kV_X8_writes jw_1119 ⟨by decide, by decide⟩ sh_197 rfl rfl rfl (Nat.le_refl _) (Nat.le_refl _) (ct_X8_writes E (by omega) (by assumption)) ?_
        exact j_ireturn dX8_write_50 rfl (by first | (rw [show b = true by assumption]; rfl) | (rw [show b = false by assumption]; rfl)) (by first | (rw [show b = true by assumption]; rfl) | (rw [show b = false by assumption]; rfl))
      · refine j_iconst (q := 43) dX8_write_42 rfl ?_
        refine j_goto (tgt := 47) dX8_write_43 (by decide) ?_
        refine j_callV2 (Mc := iX8_writes) (q := 50) (c' := 0) (s' := 0) dX8_write_47 rfl kV_X8_writes jw_1119 ⟨by decide, by decide⟩ sh_197 rfl rfl rfl (Nat.le_refl _) (Nat.le_refl _) (ct_X8_writes E (by omega) (by assumption)) ?_
        exact j_ireturn dX8_write_50 rfl (by first | (rw [show b = true by assumption]; rfl) | (rw [show b = false by assumption]; rfl)) (by first | (rw [show b = true by assumption]; rfl) | (rw [show b = false by assumption]; rfl))
    · exfalso
      first | omega | (simp only [wi, decide_eq_true_eq, decide_eq_false_iff_not] at *; omega) | (simp_all [wi]; done) | (simp_all [wi]; omega)
  · exfalso
    first | omega | (simp only [wi, decide_eq_true_eq, decide_eq_false_iff_not] at *; omega) | (simp_all [wi]; done) | (simp_all [wi]; omega)
theorem ct_X8_write_e1 {G : GX} (E : EV G) {m : Mem} {z : Z} {K : Int} {c : Int} {b : Bool} (r_c : -2147483648 ≤ c ∧ c < 2147483648) (hs : 0 ≤ m 197 10 ∧ m 197 10 ≤ 6) (hx : ¬ (0 ≤ c ∧ c < 64)) : CT G SHP iX8_write 0 0 [.inr (.ref 197), .inl c, .inl (bI b)] (sz m z) (some (.inl 0)) (sz (up m 197 12 1) z) := by
  refine j_met (L0 := [some (.inr (.ref 197)), some (.inl c), some (.inl (bI b))]) (by decide) E.1 E.2 rfl (Nat.le_of_ble_eq_true rfl) ?_
  refine j_aload0 (q := 1) dX8_write_0 rfl ?_
  refine j_iconst (q := 2) dX8_write_1 rfl ?_
  refine j_nputI (by decide) 12 (j' := 12) (q := 5) dX8_write_2 rfl fw_X8_38 sh_197 rfl rfl ?_
  refine j_mem (m' := sz (th0 m) z) rfl ?_
  have e10 : th0 m 197 10 = m 197 10 := up_ne (by omega)
  have e11 : th0 m 197 11 = m 197 11 := up_ne (by omega)
  refine j_iload1 (q := 6) dX8_write_5 rfl ?_
  refine j_callS1 (Mc := iX8_isCore) (q := 9) (c' := 0) (s' := 0) dX8_write_6 rfl kS_X8_isCore jw_1065 ⟨by decide, by decide⟩ rfl (Nat.le_refl _) (Nat.le_refl _) (ct_X8_isCore E (by omega)) ?_
  refine j_ifne_b (tgt := 18) (q := 12) dX8_write_9 (by decide) rfl (fun h9 => ?_) (fun h9 => ?_)
  · exfalso
    first | omega | (simp only [wi, decide_eq_true_eq, decide_eq_false_iff_not] at *; omega) | (simp_all [wi]; done) | (simp_all [wi]; omega)
  · refine j_aload0 (q := 13) dX8_write_12 rfl ?_
    refine j_iconst (q := 14) dX8_write_13 rfl ?_
    refine j_callV1 (Mc := iX8_fails) (q := 17) (c' := 0) (s' := 0) dX8_write_14 rfl kV_X8_fails jw_1038 ⟨by decide, by decide⟩ sh_197 rfl rfl rfl (Nat.le_refl _) (Nat.le_refl _) (ct_X8_fails E) ?_
    exact j_ireturn dX8_write_17 rfl (rfl) (by rw [th0, up_up])
theorem ct_X8_write_e2 {G : GX} (E : EV G) {m : Mem} {z : Z} {K : Int} {c : Int} {b : Bool} (r_c : -2147483648 ≤ c ∧ c < 2147483648) (hs : 0 ≤ m 197 10 ∧ m 197 10 ≤ 6) (hc : 0 ≤ c ∧ c < 64) (hl : zLs z c = false) : CT G SHP iX8_write 0 0 [.inr (.ref 197), .inl c, .inl (bI b)] (sz m z) (some (.inl 0)) (sz (up m 197 12 2) z) := by
  refine j_met (L0 := [some (.inr (.ref 197)), some (.inl c), some (.inl (bI b))]) (by decide) E.1 E.2 rfl (Nat.le_of_ble_eq_true rfl) ?_
  refine j_aload0 (q := 1) dX8_write_0 rfl ?_
  refine j_iconst (q := 2) dX8_write_1 rfl ?_
  refine j_nputI (by decide) 12 (j' := 12) (q := 5) dX8_write_2 rfl fw_X8_38 sh_197 rfl rfl ?_
  refine j_mem (m' := sz (th0 m) z) rfl ?_
  have e10 : th0 m 197 10 = m 197 10 := up_ne (by omega)
  have e11 : th0 m 197 11 = m 197 11 := up_ne (by omega)
  refine j_iload1 (q := 6) dX8_write_5 rfl ?_
  refine j_callS1 (Mc := iX8_isCore) (q := 9) (c' := 0) (s' := 0) dX8_write_6 rfl kS_X8_isCore jw_1065 ⟨by decide, by decide⟩ rfl (Nat.le_refl _) (Nat.le_refl _) (ct_X8_isCore E (by omega)) ?_
  refine j_ifne_b (tgt := 18) (q := 12) dX8_write_9 (by decide) rfl (fun h9 => ?_) (fun h9 => ?_)
  · refine j_aload0 (q := 19) dX8_write_18 rfl ?_
    refine j_iload1 (q := 20) dX8_write_19 rfl ?_
    refine j_callV1 (Mc := iX8_isLeased) (q := 23) (c' := 0) (s' := 0) dX8_write_20 rfl kV_X8_isLeased jw_1075 ⟨by decide, by decide⟩ sh_197 rfl rfl rfl (Nat.le_refl _) (Nat.le_refl _) (ct_X8_isLeased E (by omega)) ?_
    refine j_ifne_b (tgt := 32) (q := 26) dX8_write_23 (by decide) rfl (fun h23 => ?_) (fun h23 => ?_)
    · exfalso
      first | omega | (simp only [wi, decide_eq_true_eq, decide_eq_false_iff_not] at *; omega) | (simp_all [wi]; done) | (simp_all [wi]; omega)
    · refine j_aload0 (q := 27) dX8_write_26 rfl ?_
      refine j_iconst (q := 28) dX8_write_27 rfl ?_
      refine j_callV1 (Mc := iX8_fails) (q := 31) (c' := 0) (s' := 0) dX8_write_28 rfl kV_X8_fails jw_1038 ⟨by decide, by decide⟩ sh_197 rfl rfl rfl (Nat.le_refl _) (Nat.le_refl _) (ct_X8_fails E) ?_
      exact j_ireturn dX8_write_31 rfl (rfl) (by rw [th0, up_up])
  · exfalso
    first | omega | (simp only [wi, decide_eq_true_eq, decide_eq_false_iff_not] at *; omega) | (simp_all [wi]; done) | (simp_all [wi]; omega)
theorem ct_X8_read_ok {G : GX} (E : EV G) {m : Mem} {z : Z} {K : Int} {c : Int} (r_c : -2147483648 ≤ c ∧ c < 2147483648) (hs : 0 ≤ m 197 10 ∧ m 197 10 ≤ 6) (hc : 0 ≤ c ∧ c < 64) (hl : zCR z c = true) (hW : WI z K) : CT G SHP iX8_read 0 0 [.inr (.ref 197), .inl c] (sz m z) (some (.inl (zRd1 z c (59 + 9 * c + 0)))) (sz (zSv z (th0 m)) (zRd z c)) := by
  refine j_met (L0 := [some (.inr (.ref 197)), some (.inl c)]) (by decide) E.1 E.2 rfl (Nat.le_of_ble_eq_true rfl) ?_
  refine j_aload0 (q := 1) dX8_read_0 rfl ?_
  refine j_iconst (q := 2) dX8_read_1 rfl ?_
  refine j_nputI (by decide) 12 (j' := 12) (q := 5) dX8_read_2 rfl fw_X8_38 sh_197 rfl rfl ?_
  refine j_mem (m' := sz (th0 m) z) rfl ?_
  have e10 : th0 m 197 10 = m 197 10 := up_ne (by omega)
  have e11 : th0 m 197 11 = m 197 11 := up_ne (by omega)
  refine j_iload1 (q := 6) dX8_read_5 rfl ?_
  refine j_callS1 (Mc := iX8_isCore) (q := 9) (c' := 0) (s' := 0) dX8_read_6 rfl kS_X8_isCore jw_1065 ⟨by decide, by decide⟩ rfl (Nat.le_refl _) (Nat.le_refl _) (ct_X8_isCore E (by omega)) ?_
  refine j_ifne_b (tgt := 18) (q := 12) dX8_read_9 (by decide) rfl (fun h9 => ?_) (fun h9 => ?_)
  · refine j_aload0 (q := 19) dX8_read_18 rfl ?_
    refine j_iload1 (q := 20) dX8_read_19 rfl ?_
    refine j_callV1 (Mc := iX8_canRead) (q := 23) (c' := 0) (s' := 0) dX8_read_20 rfl kV_X8_canRead jw_1160 ⟨by decide, by decide⟩ sh_197 rfl rfl rfl (Nat.le_refl _) (Nat.le_refl _) (ct_X8_canRead E (by omega)) ?_
    refine j_ifne_b (tgt := 32) (q := 26) dX8_read_23 (by decide) rfl (fun h23 => ?_) (fun h23 => ?_)
    · refine j_aload0 (q := 33) dX8_read_32 rfl ?_
      refine j_callV0v (Mc := iX8_save) (q := 36) (c' := 0) (s' := 0) dX8_read_33 rfl kV_X8_save jw_1042 ⟨by decide, by decide⟩ sh_197 rfl rfl rfl (Nat.le_refl _) (Nat.le_refl _) (ct_X8_save E (by first | assumption | omega)) ?_
      refine j_aload0 (q := 37) dX8_read_36 rfl ?_
      refine j_iload1 (q := 38) dX8_read_37 rfl ?_
      refine j_callV1 (Mc := iX8_reads) (q := 41) (c' := 0) (s' := 0) dX8_read_38 rfl kV_X8_reads jw_1164 ⟨by decide, by decide⟩ sh_197 rfl rfl rfl (Nat.le_refl _) (Nat.le_refl _) (ct_X8_reads E (by omega) (by assumption)) ?_
      exact j_ireturn dX8_read_41 rfl (rfl) (rfl)
    · exfalso
      first | omega | (simp only [wi, decide_eq_true_eq, decide_eq_false_iff_not] at *; omega) | (simp_all [wi]; done) | (simp_all [wi]; omega)
  · exfalso
    first | omega | (simp only [wi, decide_eq_true_eq, decide_eq_false_iff_not] at *; omega) | (simp_all [wi]; done) | (simp_all [wi]; omega)
theorem ct_X8_read_e1 {G : GX} (E : EV G) {m : Mem} {z : Z} {K : Int} {c : Int} (r_c : -2147483648 ≤ c ∧ c < 2147483648) (hs : 0 ≤ m 197 10 ∧ m 197 10 ≤ 6) (hx : ¬ (0 ≤ c ∧ c < 64)) : CT G SHP iX8_read 0 0 [.inr (.ref 197), .inl c] (sz m z) (some (.inl 0)) (sz (up m 197 12 1) z) := by
  refine j_met (L0 := [some (.inr (.ref 197)), some (.inl c)]) (by decide) E.1 E.2 rfl (Nat.le_of_ble_eq_true rfl) ?_
  refine j_aload0 (q := 1) dX8_read_0 rfl ?_
  refine j_iconst (q := 2) dX8_read_1 rfl ?_
  refine j_nputI (by decide) 12 (j' := 12) (q := 5) dX8_read_2 rfl fw_X8_38 sh_197 rfl rfl ?_
  refine j_mem (m' := sz (th0 m) z) rfl ?_
  have e10 : th0 m 197 10 = m 197 10 := up_ne (by omega)
  have e11 : th0 m 197 11 = m 197 11 := up_ne (by omega)
  refine j_iload1 (q := 6) dX8_read_5 rfl ?_
  refine j_callS1 (Mc := iX8_isCore) (q := 9) (c' := 0) (s' := 0) dX8_read_6 rfl kS_X8_isCore jw_1065 ⟨by decide, by decide⟩ rfl (Nat.le_refl _) (Nat.le_refl _) (ct_X8_isCore E (by omega)) ?_
  refine j_ifne_b (tgt := 18) (q := 12) dX8_read_9 (by decide) rfl (fun h9 => ?_) (fun h9 => ?_)
  · exfalso
    first | omega | (simp only [wi, decide_eq_true_eq, decide_eq_false_iff_not] at *; omega) | (simp_all [wi]; done) | (simp_all [wi]; omega)
  · refine j_aload0 (q := 13) dX8_read_12 rfl ?_
    refine j_iconst (q := 14) dX8_read_13 rfl ?_
    refine j_callV1 (Mc := iX8_fails) (q := 17) (c' := 0) (s' := 0) dX8_read_14 rfl kV_X8_fails jw_1038 ⟨by decide, by decide⟩ sh_197 rfl rfl rfl (Nat.le_refl _) (Nat.le_refl _) (ct_X8_fails E) ?_
    exact j_ireturn dX8_read_17 rfl (rfl) (by rw [th0, up_up])
theorem ct_X8_read_e2 {G : GX} (E : EV G) {m : Mem} {z : Z} {K : Int} {c : Int} (r_c : -2147483648 ≤ c ∧ c < 2147483648) (hs : 0 ≤ m 197 10 ∧ m 197 10 ≤ 6) (hc : 0 ≤ c ∧ c < 64) (hl : zCR z c = false) : CT G SHP iX8_read 0 0 [.inr (.ref 197), .inl c] (sz m z) (some (.inl 0)) (sz (up m 197 12 2) z) := by
  refine j_met (L0 := [some (.inr (.ref 197)), some (.inl c)]) (by decide) E.1 E.2 rfl (Nat.le_of_ble_eq_true rfl) ?_
  refine j_aload0 (q := 1) dX8_read_0 rfl ?_
  refine j_iconst (q := 2) dX8_read_1 rfl ?_
  refine j_nputI (by decide) 12 (j' := 12) (q := 5) dX8_read_2 rfl fw_X8_38 sh_197 rfl rfl ?_
  refine j_mem (m' := sz (th0 m) z) rfl ?_
  have e10 : th0 m 197 10 = m 197 10 := up_ne (by omega)
  have e11 : th0 m 197 11 = m 197 11 := up_ne (by omega)
  refine j_iload1 (q := 6) dX8_read_5 rfl ?_
  refine j_callS1 (Mc := iX8_isCore) (q := 9) (c' := 0) (s' := 0) dX8_read_6 rfl kS_X8_isCore jw_1065 ⟨by decide, by decide⟩ rfl (Nat.le_refl _) (Nat.le_refl _) (ct_X8_isCore E (by omega)) ?_
  refine j_ifne_b (tgt := 18) (q := 12) dX8_read_9 (by decide) rfl (fun h9 => ?_) (fun h9 => ?_)
  · refine j_aload0 (q := 19) dX8_read_18 rfl ?_
    refine j_iload1 (q := 20) dX8_read_19 rfl ?_
    refine j_callV1 (Mc := iX8_canRead) (q := 23) (c' := 0) (s' := 0) dX8_read_20 rfl kV_X8_canRead jw_1160 ⟨by decide, by decide⟩ sh_197 rfl rfl rfl (Nat.le_refl _) (Nat.le_refl _) (ct_X8_canRead E (by omega)) ?_
    refine j_ifne_b (tgt := 32) (q := 26) dX8_read_23 (by decide) rfl (fun h23 => ?_) (fun h23 => ?_)
    · exfalso
      first | omega | (simp only [wi, decide_eq_true_eq, decide_eq_false_iff_not] at *; omega) | (simp_all [wi]; done) | (simp_all [wi]; omega)
    · refine j_aload0 (q := 27) dX8_read_26 rfl ?_
      refine j_iconst (q := 28) dX8_read_27 rfl ?_
      refine j_callV1 (Mc := iX8_fails) (q := 31) (c' := 0) (s' := 0) dX8_read_28 rfl kV_X8_fails jw_1038 ⟨by decide, by decide⟩ sh_197 rfl rfl rfl (Nat.le_refl _) (Nat.le_refl _) (ct_X8_fails E) ?_
      exact j_ireturn dX8_read_31 rfl (rfl) (by rw [th0, up_up])
  · exfalso
    first | omega | (simp only [wi, decide_eq_true_eq, decide_eq_false_iff_not] at *; omega) | (simp_all [wi]; done) | (simp_all [wi]; omega)
theorem zSv_205 {z : Z} {m : Mem} {j : Int} : zSv z m 205 j = m 205 j := by
  unfold zSv; rw [up_ne (by omega)]
  unfold shB; rw [if_neg (by omega)]
  unfold zSvA
  split
  · rw [up_ne (by omega)]; exact if_neg (by omega)
  · rfl
theorem zSv_205' {z : Z} {m : Mem} : zSv z m 205 = m 205 := by funext j; exact zSv_205
theorem ct_X8_writeBack_ok {G : GX} (E : EV G) {m : Mem} {z : Z} {K : Int} (hs : 0 ≤ m 197 10 ∧ m 197 10 ≤ 6) (hn : 0 < zOwN z) (hW : WI z K) : CT G SHP iX8_writeBack 0 0 [.inr (.ref 197)] (sz m z) (some (.inl (zOrd z (m 205) 0))) (sz (so (zSv z (th0 m)) (zOrd z (m 205))) (zWb z (zOrd z (m 205) 0))) := by
  refine j_met (L0 := [some (.inr (.ref 197))]) (by decide) E.1 E.2 rfl (Nat.le_of_ble_eq_true rfl) ?_
  refine j_aload0 (q := 1) dX8_writeBack_0 rfl ?_
  refine j_iconst (q := 2) dX8_writeBack_1 rfl ?_
  refine j_nputI (by decide) 12 (j' := 12) (q := 5) dX8_writeBack_2 rfl fw_X8_38 sh_197 rfl rfl ?_
  refine j_mem (m' := sz (th0 m) z) rfl ?_
  have e10 : th0 m 197 10 = m 197 10 := up_ne (by omega)
  have e11 : th0 m 197 11 = m 197 11 := up_ne (by omega)
  have hb := zOw_b z
  have hwz : wr (zOwN z) = zOwN z := wr_id' (by omega) (by omega)
  refine j_aload0 (q := 6) dX8_writeBack_5 rfl ?_
  refine j_callV0 (Mc := iX8_owedMany) (q := 9) (c' := 0) (s' := 0) dX8_writeBack_6 rfl kV_X8_owedMany jw_1172 ⟨by decide, by decide⟩ sh_197 rfl rfl rfl (Nat.le_refl _) (Nat.le_refl _) (ct_X8_owedMany E) ?_
  refine j_if_ne (tgt := 18) (q := 12) dX8_writeBack_9 (by decide) rfl rfl (fun h9 => ?_) (fun h9 => ?_)
  · refine j_aload0 (q := 19) dX8_writeBack_18 rfl ?_
    refine j_callV0v (Mc := iX8_save) (q := 22) (c' := 0) (s' := 0) dX8_writeBack_19 rfl kV_X8_save jw_1042 ⟨by decide, by decide⟩ sh_197 rfl rfl rfl (Nat.le_refl _) (Nat.le_refl _) (ct_X8_save E (by first | assumption | omega)) ?_
    have e5 : zSv z (th0 m) 205 = m 205 := by rw [zSv_205']; rfl
    have hn2 : 0 < zOrN z (zSv z (th0 m) 205) := by rw [zOrN_n]; exact hn
    refine j_aload0 (q := 23) dX8_writeBack_22 rfl ?_
    refine j_callV0 (Mc := iX8_writesBack) (q := 26) (c' := 0) (s' := 0) dX8_writeBack_23 rfl kV_X8_writesBack jw_1176 ⟨by decide, by decide⟩ sh_197 rfl rfl rfl (Nat.le_refl _) (Nat.le_refl _) (ct_X8_writesBack E (by assumption) (by assumption)) ?_
    exact j_ireturn dX8_writeBack_26 rfl (by rw [e5]) (by rw [e5])
  · exfalso
    first | omega | (simp only [wi, decide_eq_true_eq, decide_eq_false_iff_not] at *; omega) | (simp_all [wi]; done) | (simp_all [wi]; omega)
theorem ct_X8_writeBack_e1 {G : GX} (E : EV G) {m : Mem} {z : Z} {K : Int} (hs : 0 ≤ m 197 10 ∧ m 197 10 ≤ 6) (hn : wr (zOwN z) = 0) : CT G SHP iX8_writeBack 0 0 [.inr (.ref 197)] (sz m z) (some (.inl 0)) (sz (up m 197 12 1) z) := by
  refine j_met (L0 := [some (.inr (.ref 197))]) (by decide) E.1 E.2 rfl (Nat.le_of_ble_eq_true rfl) ?_
  refine j_aload0 (q := 1) dX8_writeBack_0 rfl ?_
  refine j_iconst (q := 2) dX8_writeBack_1 rfl ?_
  refine j_nputI (by decide) 12 (j' := 12) (q := 5) dX8_writeBack_2 rfl fw_X8_38 sh_197 rfl rfl ?_
  refine j_mem (m' := sz (th0 m) z) rfl ?_
  have e10 : th0 m 197 10 = m 197 10 := up_ne (by omega)
  have e11 : th0 m 197 11 = m 197 11 := up_ne (by omega)
  refine j_aload0 (q := 6) dX8_writeBack_5 rfl ?_
  refine j_callV0 (Mc := iX8_owedMany) (q := 9) (c' := 0) (s' := 0) dX8_writeBack_6 rfl kV_X8_owedMany jw_1172 ⟨by decide, by decide⟩ sh_197 rfl rfl rfl (Nat.le_refl _) (Nat.le_refl _) (ct_X8_owedMany E) ?_
  refine j_if_ne (tgt := 18) (q := 12) dX8_writeBack_9 (by decide) rfl rfl (fun h9 => ?_) (fun h9 => ?_)
  · exfalso
    first | omega | (simp only [wi, decide_eq_true_eq, decide_eq_false_iff_not] at *; omega) | (simp_all [wi]; done) | (simp_all [wi]; omega)
  · refine j_aload0 (q := 13) dX8_writeBack_12 rfl ?_
    refine j_iconst (q := 14) dX8_writeBack_13 rfl ?_
    refine j_callV1 (Mc := iX8_fails) (q := 17) (c' := 0) (s' := 0) dX8_writeBack_14 rfl kV_X8_fails jw_1038 ⟨by decide, by decide⟩ sh_197 rfl rfl rfl (Nat.le_refl _) (Nat.le_refl _) (ct_X8_fails E) ?_
    exact j_ireturn dX8_writeBack_17 rfl (rfl) (by rw [th0, up_up])
theorem WI_tkN' {K : Int} {d : Nat} {s : Z × (Int → Int)} (h : WI s.1 K) : WI (zTkN d s).1 K := WI_tkN d s h
theorem lp_X8_pass {G : GX} (E : EV G) {m : Mem} {K : Int} {F : FinT} {t : Int} (hv : 0 ≤ t ∧ t ≤ 100) : ∀ (d : Nat) (i : Int) (s : Z × (Int → Int)), i + d = t → 0 ≤ i → WI s.1 K → (∀ (x : Z × (Int → Int)), x = zTkN d s → J G SHP iX8_pass 0 0 F 62 [some (.inr (.ref 197)), some (.inl t), none] [] (sz (so m x.2) x.1) 0 0) → J G SHP iX8_pass 0 0 F 47 [some (.inr (.ref 197)), some (.inl t), some (.inl i)] [] (sz (so m s.2) s.1) 0 0 := by
  intro d
  induction d with
  | zero =>
    intro i s g0 g1 g2 kk
    refine j_iload2 (q := 48) dX8_pass_47 rfl ?_
    refine j_iload1 (q := 49) dX8_pass_48 rfl ?_
    refine j_icmp_ge (tgt := 62) (q := 52) dX8_pass_49 (by decide) rfl (by first | exact wr_id' (by omega) (by omega) | with_reducible exact wr_bI _ | exact rfl) (by first | exact wr_id' (by omega) (by omega) | with_reducible exact wr_bI _ | exact rfl) (fun h49 => ?_) (fun h49 => ?_)
    · refine j_fgt2 ?_
      exact kk _ rfl
    · omega
  | succ d ih =>
    intro i s g0 g1 g2 kk
    refine j_iload2 (q := 48) dX8_pass_47 rfl ?_
    refine j_iload1 (q := 49) dX8_pass_48 rfl ?_
    refine j_icmp_ge (tgt := 62) (q := 52) dX8_pass_49 (by decide) rfl (by first | exact wr_id' (by omega) (by omega) | with_reducible exact wr_bI _ | exact rfl) (by first | exact wr_id' (by omega) (by omega) | with_reducible exact wr_bI _ | exact rfl) (fun h49 => ?_) (fun h49 => ?_)
    · omega
    · refine j_aload0 (q := 53) dX8_pass_52 rfl ?_
      refine j_callV0v (Mc := iX8_tick) (q := 56) (c' := 0) (s' := 0) dX8_pass_53 rfl kV_X8_tick jw_1192 ⟨by decide, by decide⟩ sh_197 rfl rfl rfl (Nat.le_refl _) (Nat.le_refl _) (ct_X8_tick E (by assumption)) ?_
      refine j_mem (m' := sz (so m (zTk s.1 s.2, zOrd (zTk0 s.1) s.2).2) (zTk s.1 s.2, zOrd (zTk0 s.1) s.2).1) (by rw [so_so]; simp only [so_at]) ?_
      refine j_iinc2 (q := 59) dX8_pass_56 rfl rfl (by decide) ?_
      refine j_goto (tgt := 47) dX8_pass_59 (by decide) ?_
      exact ih _ (zTk s.1 s.2, zOrd (zTk0 s.1) s.2) (by omega) (by omega) (by dsimp only; exact WI_tk g2) (fun x hx => kk x (hx.trans (rfl)))
theorem ct_X8_pass_ok {G : GX} (E : EV G) {m : Mem} {z : Z} {K : Int} {t : Int} (r_t : -2147483648 ≤ t ∧ t < 2147483648) (hs : 0 ≤ m 197 10 ∧ m 197 10 ≤ 6) (ht : 1 ≤ t ∧ t ≤ 100) (hz : 0 ≤ z 0 ∧ z 0 + t ≤ 10000) (hW : WI z K) : CT G SHP iX8_pass 0 0 [.inr (.ref 197), .inl t] (sz m z) (some (.inl ((zTkN t.toNat (z, m 205)).1 1))) (sz (so (zSv z (th0 m)) (zTkN t.toNat (z, m 205)).2) (zTkN t.toNat (z, m 205)).1) := by
  refine j_met (L0 := [some (.inr (.ref 197)), some (.inl t), none]) (by decide) E.1 E.2 rfl (Nat.le_of_ble_eq_true rfl) ?_
  refine j_aload0 (q := 1) dX8_pass_0 rfl ?_
  refine j_iconst (q := 2) dX8_pass_1 rfl ?_
  refine j_nputI (by decide) 12 (j' := 12) (q := 5) dX8_pass_2 rfl fw_X8_38 sh_197 rfl rfl ?_
  refine j_mem (m' := sz (th0 m) z) rfl ?_
  have e10 : th0 m 197 10 = m 197 10 := up_ne (by omega)
  have e11 : th0 m 197 11 = m 197 11 := up_ne (by omega)
  refine j_iload1 (q := 6) dX8_pass_5 rfl ?_
  refine j_iconst (q := 7) dX8_pass_6 rfl ?_
  refine j_bipush (q := 9) dX8_pass_7 rfl rfl ?_
  refine j_callS3 (Mc := iX8_within) (q := 12) (c' := 0) (s' := 0) dX8_pass_9 rfl kS_X8_within jw_1035 ⟨by decide, by decide⟩ rfl (Nat.le_refl _) (Nat.le_refl _) (ct_X8_within E (by omega) (by omega) (by omega)) ?_
  refine j_ifne_b (tgt := 21) (q := 15) dX8_pass_12 (by decide) rfl (fun h12 => ?_) (fun h12 => ?_)
  · refine j_aload0 (q := 22) dX8_pass_21 rfl ?_
    refine j_getR 0 (q := 25) dX8_pass_22 rfl fl_X8_7 sh_197 rfl ?_
    refine j_iconst (q := 26) dX8_pass_25 rfl ?_
    refine j_zload (q := 27) dX8_pass_26 rfl (by first | exact wr_id' (by omega) (by omega) | with_reducible exact wr_bI _ | exact rfl) (by omega) (by omega) ?_
    refine j_iload1 (q := 28) dX8_pass_27 rfl ?_
    refine j_iadd (q := 29) dX8_pass_28 rfl ?_
    refine j_sipush (q := 32) dX8_pass_29 rfl rfl ?_
    refine j_icmp_le (tgt := 41) (q := 35) dX8_pass_32 (by decide) rfl (by first | exact wr_id' (by omega) (by omega) | with_reducible exact wr_bI _ | exact rfl) (by first | exact wr_id' (by omega) (by omega) | with_reducible exact wr_bI _ | exact rfl) (fun h32 => ?_) (fun h32 => ?_)
    · refine j_aload0 (q := 42) dX8_pass_41 rfl ?_
      refine j_callV0v (Mc := iX8_save) (q := 45) (c' := 0) (s' := 0) dX8_pass_42 rfl kV_X8_save jw_1042 ⟨by decide, by decide⟩ sh_197 rfl rfl rfl (Nat.le_refl _) (Nat.le_refl _) (ct_X8_save E (by first | assumption | omega)) ?_
      refine j_iconst (q := 46) dX8_pass_45 rfl ?_
      refine j_istore2 (q := 47) dX8_pass_46 rfl rfl (by decide) ?_
      refine j_mem (m' := sz (so (zSv z (th0 m)) (m 205)) z) (by rw [show m 205 = zSv z (th0 m) 205 from by rw [zSv_205']; rfl, so_self]) ?_
      refine lp_X8_pass E (K := K) (t := t) ⟨by omega, by omega⟩ t.toNat 0 (z, m 205) (by omega) (by omega) hW ?_
      intro x hx
      refine j_aload0 (q := 63) dX8_pass_62 rfl ?_
      refine j_getR 0 (q := 66) dX8_pass_63 rfl fl_X8_7 sh_197 rfl ?_
      refine j_iconst (q := 67) dX8_pass_66 rfl ?_
      refine j_zload (q := 68) dX8_pass_67 rfl (by first | exact wr_id' (by omega) (by omega) | with_reducible exact wr_bI _ | exact rfl) (by omega) (by omega) ?_
      exact j_ireturn dX8_pass_68 rfl (by rw [hx]) (by rw [hx])
    · exfalso
      first | omega | (simp only [wi, decide_eq_true_eq, decide_eq_false_iff_not] at *; omega) | (simp_all [wi]; done) | (simp_all [wi]; omega)
  · exfalso
    first | omega | (simp only [wi, decide_eq_true_eq, decide_eq_false_iff_not] at *; omega) | (simp_all [wi]; done) | (simp_all [wi]; omega)
theorem ct_X8_pass_e1 {G : GX} (E : EV G) {m : Mem} {z : Z} {K : Int} {t : Int} (r_t : -2147483648 ≤ t ∧ t < 2147483648) (hs : 0 ≤ m 197 10 ∧ m 197 10 ≤ 6) (hx : ¬ (1 ≤ t ∧ t ≤ 100)) : CT G SHP iX8_pass 0 0 [.inr (.ref 197), .inl t] (sz m z) (some (.inl 0)) (sz (up m 197 12 1) z) := by
  refine j_met (L0 := [some (.inr (.ref 197)), some (.inl t), none]) (by decide) E.1 E.2 rfl (Nat.le_of_ble_eq_true rfl) ?_
  refine j_aload0 (q := 1) dX8_pass_0 rfl ?_
  refine j_iconst (q := 2) dX8_pass_1 rfl ?_
  refine j_nputI (by decide) 12 (j' := 12) (q := 5) dX8_pass_2 rfl fw_X8_38 sh_197 rfl rfl ?_
  refine j_mem (m' := sz (th0 m) z) rfl ?_
  have e10 : th0 m 197 10 = m 197 10 := up_ne (by omega)
  have e11 : th0 m 197 11 = m 197 11 := up_ne (by omega)
  refine j_iload1 (q := 6) dX8_pass_5 rfl ?_
  refine j_iconst (q := 7) dX8_pass_6 rfl ?_
  refine j_bipush (q := 9) dX8_pass_7 rfl rfl ?_
  refine j_callS3 (Mc := iX8_within) (q := 12) (c' := 0) (s' := 0) dX8_pass_9 rfl kS_X8_within jw_1035 ⟨by decide, by decide⟩ rfl (Nat.le_refl _) (Nat.le_refl _) (ct_X8_within E (by omega) (by omega) (by omega)) ?_
  refine j_ifne_b (tgt := 21) (q := 15) dX8_pass_12 (by decide) rfl (fun h12 => ?_) (fun h12 => ?_)
  · exfalso
    first | omega | (simp only [wi, decide_eq_true_eq, decide_eq_false_iff_not] at *; omega) | (simp_all [wi]; done) | (simp_all [wi]; omega)
  · refine j_aload0 (q := 16) dX8_pass_15 rfl ?_
    refine j_iconst (q := 17) dX8_pass_16 rfl ?_
    refine j_callV1 (Mc := iX8_fails) (q := 20) (c' := 0) (s' := 0) dX8_pass_17 rfl kV_X8_fails jw_1038 ⟨by decide, by decide⟩ sh_197 rfl rfl rfl (Nat.le_refl _) (Nat.le_refl _) (ct_X8_fails E) ?_
    exact j_ireturn dX8_pass_20 rfl (rfl) (by rw [th0, up_up])
theorem ct_X8_pass_e2 {G : GX} (E : EV G) {m : Mem} {z : Z} {K : Int} {t : Int} (r_t : -2147483648 ≤ t ∧ t < 2147483648) (hs : 0 ≤ m 197 10 ∧ m 197 10 ≤ 6) (ht : 1 ≤ t ∧ t ≤ 100) (hz : (0 ≤ z 0 ∧ z 0 ≤ 10000) ∧ ¬ z 0 + t ≤ 10000) : CT G SHP iX8_pass 0 0 [.inr (.ref 197), .inl t] (sz m z) (some (.inl 0)) (sz (up m 197 12 2) z) := by
  refine j_met (L0 := [some (.inr (.ref 197)), some (.inl t), none]) (by decide) E.1 E.2 rfl (Nat.le_of_ble_eq_true rfl) ?_
  refine j_aload0 (q := 1) dX8_pass_0 rfl ?_
  refine j_iconst (q := 2) dX8_pass_1 rfl ?_
  refine j_nputI (by decide) 12 (j' := 12) (q := 5) dX8_pass_2 rfl fw_X8_38 sh_197 rfl rfl ?_
  refine j_mem (m' := sz (th0 m) z) rfl ?_
  have e10 : th0 m 197 10 = m 197 10 := up_ne (by omega)
  have e11 : th0 m 197 11 = m 197 11 := up_ne (by omega)
  refine j_iload1 (q := 6) dX8_pass_5 rfl ?_
  refine j_iconst (q := 7) dX8_pass_6 rfl ?_
  refine j_bipush (q := 9) dX8_pass_7 rfl rfl ?_
  refine j_callS3 (Mc := iX8_within) (q := 12) (c' := 0) (s' := 0) dX8_pass_9 rfl kS_X8_within jw_1035 ⟨by decide, by decide⟩ rfl (Nat.le_refl _) (Nat.le_refl _) (ct_X8_within E (by omega) (by omega) (by omega)) ?_
  refine j_ifne_b (tgt := 21) (q := 15) dX8_pass_12 (by decide) rfl (fun h12 => ?_) (fun h12 => ?_)
  · refine j_aload0 (q := 22) dX8_pass_21 rfl ?_
    refine j_getR 0 (q := 25) dX8_pass_22 rfl fl_X8_7 sh_197 rfl ?_
    refine j_iconst (q := 26) dX8_pass_25 rfl ?_
    refine j_zload (q := 27) dX8_pass_26 rfl (by first | exact wr_id' (by omega) (by omega) | with_reducible exact wr_bI _ | exact rfl) (by omega) (by omega) ?_
    refine j_iload1 (q := 28) dX8_pass_27 rfl ?_
    refine j_iadd (q := 29) dX8_pass_28 rfl ?_
    refine j_sipush (q := 32) dX8_pass_29 rfl rfl ?_
    refine j_icmp_le (tgt := 41) (q := 35) dX8_pass_32 (by decide) rfl (by first | exact wr_id' (by omega) (by omega) | with_reducible exact wr_bI _ | exact rfl) (by first | exact wr_id' (by omega) (by omega) | with_reducible exact wr_bI _ | exact rfl) (fun h32 => ?_) (fun h32 => ?_)
    · exfalso
      first | omega | (simp only [wi, decide_eq_true_eq, decide_eq_false_iff_not] at *; omega) | (simp_all [wi]; done) | (simp_all [wi]; omega)
    · refine j_aload0 (q := 36) dX8_pass_35 rfl ?_
      refine j_iconst (q := 37) dX8_pass_36 rfl ?_
      refine j_callV1 (Mc := iX8_fails) (q := 40) (c' := 0) (s' := 0) dX8_pass_37 rfl kV_X8_fails jw_1038 ⟨by decide, by decide⟩ sh_197 rfl rfl rfl (Nat.le_refl _) (Nat.le_refl _) (ct_X8_fails E) ?_
      exact j_ireturn dX8_pass_40 rfl (rfl) (by rw [th0, up_up])
  · exfalso
    first | omega | (simp only [wi, decide_eq_true_eq, decide_eq_false_iff_not] at *; omega) | (simp_all [wi]; done) | (simp_all [wi]; omega)
theorem ct_X8_append_ok {G : GX} (E : EV G) {m : Mem} {z : Z} {K : Int} {c : Int} (r_c : -2147483648 ≤ c ∧ c < 2147483648) (hl : 0 ≤ m 197 11 ∧ m 197 11 ≤ 60) (hc : 33 ≤ c ∧ c ≤ 126) (hn : m 197 11 < 60) : CT G SHP iX8_append 0 0 [.inr (.ref 197), .inl c] (sz m z) (some (.inl (m 197 11 + 1))) (sz (mApp (th0 m) c) z) := by
  refine j_met (L0 := [some (.inr (.ref 197)), some (.inl c)]) (by decide) E.1 E.2 rfl (Nat.le_of_ble_eq_true rfl) ?_
  refine j_aload0 (q := 1) dX8_append_0 rfl ?_
  refine j_iconst (q := 2) dX8_append_1 rfl ?_
  refine j_nputI (by decide) 12 (j' := 12) (q := 5) dX8_append_2 rfl fw_X8_38 sh_197 rfl rfl ?_
  refine j_mem (m' := sz (th0 m) z) rfl ?_
  have e10 : th0 m 197 10 = m 197 10 := up_ne (by omega)
  have e11 : th0 m 197 11 = m 197 11 := up_ne (by omega)
  refine j_iload1 (q := 6) dX8_append_5 rfl ?_
  refine j_bipush (q := 8) dX8_append_6 rfl rfl ?_
  refine j_bipush (q := 10) dX8_append_8 rfl rfl ?_
  refine j_callS3 (Mc := iX8_within) (q := 13) (c' := 0) (s' := 0) dX8_append_10 rfl kS_X8_within jw_1035 ⟨by decide, by decide⟩ rfl (Nat.le_refl _) (Nat.le_refl _) (ct_X8_within E (by omega) (by omega) (by omega)) ?_
  refine j_ifne_b (tgt := 22) (q := 16) dX8_append_13 (by decide) rfl (fun h13 => ?_) (fun h13 => ?_)
  · refine j_aload0 (q := 23) dX8_append_22 rfl ?_
    refine j_ngetI (by decide) 11 (j' := 11) (q := 26) dX8_append_23 rfl fl_X8_160 sh_197 rfl rfl ?_
    refine j_bipush (q := 28) dX8_append_26 rfl rfl ?_
    refine j_icmp_ne (tgt := 37) (q := 31) dX8_append_28 (by decide) rfl (by first | exact wr_id' (by omega) (by omega) | with_reducible exact wr_bI _ | exact rfl) (by first | exact wr_id' (by omega) (by omega) | with_reducible exact wr_bI _ | exact rfl) (fun h28 => ?_) (fun h28 => ?_)
    · refine j_aload0 (q := 38) dX8_append_37 rfl ?_
      refine j_getR 3 (q := 41) dX8_append_38 rfl fl_X8_19 sh_197 rfl ?_
      refine j_aload0 (q := 42) dX8_append_41 rfl ?_
      refine j_ngetI (by decide) 11 (j' := 11) (q := 45) dX8_append_42 rfl fl_X8_160 sh_197 rfl rfl ?_
      refine j_iload1 (q := 46) dX8_append_45 rfl ?_
      refine j_nstore (q := 47) (by decide) dX8_append_46 rfl sh_201 (by first | exact wr_id' (by omega) (by omega) | with_reducible exact wr_bI _ | exact rfl) (by omega) (by omega) ?_
      have e12 : up (th0 m) 201 (th0 m 197 11) c 197 11 = th0 m 197 11 := up_ne (by omega)
      refine j_aload0 (q := 48) dX8_append_47 rfl ?_
      refine j_dup (q := 49) dX8_append_48 rfl rfl ?_
      refine j_ngetI (by decide) 11 (j' := 11) (q := 52) dX8_append_49 rfl fl_X8_160 sh_197 rfl rfl ?_
      refine j_iconst (q := 53) dX8_append_52 rfl ?_
      refine j_iadd (q := 54) dX8_append_53 rfl ?_
      refine j_nputI (by decide) 11 (j' := 11) (q := 57) dX8_append_54 rfl fw_X8_160 sh_197 rfl rfl ?_
      refine j_mem (m' := sz (mApp (th0 m) c) z) (by rw [e12]; rfl) ?_
      refine j_aload0 (q := 58) dX8_append_57 rfl ?_
      refine j_ngetI (by decide) 11 (j' := 11) (q := 61) dX8_append_58 rfl fl_X8_160 sh_197 rfl rfl ?_
      exact j_ireturn dX8_append_61 rfl (by rw [mApp, up_at, e11]) (rfl)
    · exfalso
      first | omega | (simp only [wi, decide_eq_true_eq, decide_eq_false_iff_not] at *; omega) | (simp_all [wi]; done) | (simp_all [wi]; omega)
  · exfalso
    first | omega | (simp only [wi, decide_eq_true_eq, decide_eq_false_iff_not] at *; omega) | (simp_all [wi]; done) | (simp_all [wi]; omega)
theorem ct_X8_append_e1 {G : GX} (E : EV G) {m : Mem} {z : Z} {K : Int} {c : Int} (r_c : -2147483648 ≤ c ∧ c < 2147483648) (hl : 0 ≤ m 197 11 ∧ m 197 11 ≤ 60) (hx : ¬ (33 ≤ c ∧ c ≤ 126)) : CT G SHP iX8_append 0 0 [.inr (.ref 197), .inl c] (sz m z) (some (.inl 0)) (sz (up m 197 12 1) z) := by
  refine j_met (L0 := [some (.inr (.ref 197)), some (.inl c)]) (by decide) E.1 E.2 rfl (Nat.le_of_ble_eq_true rfl) ?_
  refine j_aload0 (q := 1) dX8_append_0 rfl ?_
  refine j_iconst (q := 2) dX8_append_1 rfl ?_
  refine j_nputI (by decide) 12 (j' := 12) (q := 5) dX8_append_2 rfl fw_X8_38 sh_197 rfl rfl ?_
  refine j_mem (m' := sz (th0 m) z) rfl ?_
  have e10 : th0 m 197 10 = m 197 10 := up_ne (by omega)
  have e11 : th0 m 197 11 = m 197 11 := up_ne (by omega)
  refine j_iload1 (q := 6) dX8_append_5 rfl ?_
  refine j_bipush (q := 8) dX8_append_6 rfl rfl ?_
  refine j_bipush (q := 10) dX8_append_8 rfl rfl ?_
  refine j_callS3 (Mc := iX8_within) (q := 13) (c' := 0) (s' := 0) dX8_append_10 rfl kS_X8_within jw_1035 ⟨by decide, by decide⟩ rfl (Nat.le_refl _) (Nat.le_refl _) (ct_X8_within E (by omega) (by omega) (by omega)) ?_
  refine j_ifne_b (tgt := 22) (q := 16) dX8_append_13 (by decide) rfl (fun h13 => ?_) (fun h13 => ?_)
  · exfalso
    first | omega | (simp only [wi, decide_eq_true_eq, decide_eq_false_iff_not] at *; omega) | (simp_all [wi]; done) | (simp_all [wi]; omega)
  · refine j_aload0 (q := 17) dX8_append_16 rfl ?_
    refine j_iconst (q := 18) dX8_append_17 rfl ?_
    refine j_callV1 (Mc := iX8_fails) (q := 21) (c' := 0) (s' := 0) dX8_append_18 rfl kV_X8_fails jw_1038 ⟨by decide, by decide⟩ sh_197 rfl rfl rfl (Nat.le_refl _) (Nat.le_refl _) (ct_X8_fails E) ?_
    exact j_ireturn dX8_append_21 rfl (rfl) (by rw [th0, up_up])
theorem ct_X8_append_e2 {G : GX} (E : EV G) {m : Mem} {z : Z} {K : Int} {c : Int} (r_c : -2147483648 ≤ c ∧ c < 2147483648) (hl : 0 ≤ m 197 11 ∧ m 197 11 ≤ 60) (hc : 33 ≤ c ∧ c ≤ 126) (hn : m 197 11 = 60) : CT G SHP iX8_append 0 0 [.inr (.ref 197), .inl c] (sz m z) (some (.inl 0)) (sz (up m 197 12 2) z) := by
  refine j_met (L0 := [some (.inr (.ref 197)), some (.inl c)]) (by decide) E.1 E.2 rfl (Nat.le_of_ble_eq_true rfl) ?_
  refine j_aload0 (q := 1) dX8_append_0 rfl ?_
  refine j_iconst (q := 2) dX8_append_1 rfl ?_
  refine j_nputI (by decide) 12 (j' := 12) (q := 5) dX8_append_2 rfl fw_X8_38 sh_197 rfl rfl ?_
  refine j_mem (m' := sz (th0 m) z) rfl ?_
  have e10 : th0 m 197 10 = m 197 10 := up_ne (by omega)
  have e11 : th0 m 197 11 = m 197 11 := up_ne (by omega)
  refine j_iload1 (q := 6) dX8_append_5 rfl ?_
  refine j_bipush (q := 8) dX8_append_6 rfl rfl ?_
  refine j_bipush (q := 10) dX8_append_8 rfl rfl ?_
  refine j_callS3 (Mc := iX8_within) (q := 13) (c' := 0) (s' := 0) dX8_append_10 rfl kS_X8_within jw_1035 ⟨by decide, by decide⟩ rfl (Nat.le_refl _) (Nat.le_refl _) (ct_X8_within E (by omega) (by omega) (by omega)) ?_
  refine j_ifne_b (tgt := 22) (q := 16) dX8_append_13 (by decide) rfl (fun h13 => ?_) (fun h13 => ?_)
  · refine j_aload0 (q := 23) dX8_append_22 rfl ?_
    refine j_ngetI (by decide) 11 (j' := 11) (q := 26) dX8_append_23 rfl fl_X8_160 sh_197 rfl rfl ?_
    refine j_bipush (q := 28) dX8_append_26 rfl rfl ?_
    refine j_icmp_ne (tgt := 37) (q := 31) dX8_append_28 (by decide) rfl (by first | exact wr_id' (by omega) (by omega) | with_reducible exact wr_bI _ | exact rfl) (by first | exact wr_id' (by omega) (by omega) | with_reducible exact wr_bI _ | exact rfl) (fun h28 => ?_) (fun h28 => ?_)
    · exfalso
      first | omega | (simp only [wi, decide_eq_true_eq, decide_eq_false_iff_not] at *; omega) | (simp_all [wi]; done) | (simp_all [wi]; omega)
    · refine j_aload0 (q := 32) dX8_append_31 rfl ?_
      refine j_iconst (q := 33) dX8_append_32 rfl ?_
      refine j_callV1 (Mc := iX8_fails) (q := 36) (c' := 0) (s' := 0) dX8_append_33 rfl kV_X8_fails jw_1038 ⟨by decide, by decide⟩ sh_197 rfl rfl rfl (Nat.le_refl _) (Nat.le_refl _) (ct_X8_fails E) ?_
      exact j_ireturn dX8_append_36 rfl (rfl) (by rw [th0, up_up])
  · exfalso
    first | omega | (simp only [wi, decide_eq_true_eq, decide_eq_false_iff_not] at *; omega) | (simp_all [wi]; done) | (simp_all [wi]; omega)
theorem ct_X8_clearBuffer_ok {G : GX} (E : EV G) {m : Mem} {z : Z} {K : Int} : CT G SHP iX8_clearBuffer 0 0 [.inr (.ref 197)] (sz m z) (some (.inl (m 197 11))) (sz (up (th0 m) 197 11 0) z) := by
  refine j_met (L0 := [some (.inr (.ref 197)), none]) (by decide) E.1 E.2 rfl (Nat.le_of_ble_eq_true rfl) ?_
  refine j_aload0 (q := 1) dX8_clearBuffer_0 rfl ?_
  refine j_iconst (q := 2) dX8_clearBuffer_1 rfl ?_
  refine j_nputI (by decide) 12 (j' := 12) (q := 5) dX8_clearBuffer_2 rfl fw_X8_38 sh_197 rfl rfl ?_
  refine j_mem (m' := sz (th0 m) z) rfl ?_
  have e10 : th0 m 197 10 = m 197 10 := up_ne (by omega)
  have e11 : th0 m 197 11 = m 197 11 := up_ne (by omega)
  refine j_aload0 (q := 6) dX8_clearBuffer_5 rfl ?_
  refine j_ngetI (by decide) 11 (j' := 11) (q := 9) dX8_clearBuffer_6 rfl fl_X8_160 sh_197 rfl rfl ?_
  refine j_istore1 (q := 10) dX8_clearBuffer_9 rfl rfl (by decide) ?_
  refine j_aload0 (q := 11) dX8_clearBuffer_10 rfl ?_
  refine j_iconst (q := 12) dX8_clearBuffer_11 rfl ?_
  refine j_nputI (by decide) 11 (j' := 11) (q := 15) dX8_clearBuffer_12 rfl fw_X8_160 sh_197 rfl rfl ?_
  refine j_iload1 (q := 16) dX8_clearBuffer_15 rfl ?_
  exact j_ireturn dX8_clearBuffer_16 rfl (by rw [e11]) (rfl)
theorem TX_th {m : Mem} (h : TX m) : TX (th0 m) := by
  have e11 : th0 m 197 11 = m 197 11 := up_ne (by omega)
  have e2 : ∀ j, th0 m 201 j = m 201 j := fun j => up_ne (by omega)
  exact ⟨by rw [e11]; exact h.1, fun j a b => by rw [e2]; exact h.2 j a (by omega)⟩
theorem ct_X8_firstError_ok {G : GX} (E : EV G) {m : Mem} {z : Z} {K : Int} (hT : TX m) : CT G SHP iX8_firstError 0 0 [.inr (.ref 197)] (sz m z) (some (.inl (pScK (th0 m)))) (sz (pScn (th0 m)) z) := by
  refine j_met (L0 := [some (.inr (.ref 197))]) (by decide) E.1 E.2 rfl (Nat.le_of_ble_eq_true rfl) ?_
  refine j_aload0 (q := 1) dX8_firstError_0 rfl ?_
  refine j_iconst (q := 2) dX8_firstError_1 rfl ?_
  refine j_nputI (by decide) 12 (j' := 12) (q := 5) dX8_firstError_2 rfl fw_X8_38 sh_197 rfl rfl ?_
  refine j_mem (m' := sz (th0 m) z) rfl ?_
  have e10 : th0 m 197 10 = m 197 10 := up_ne (by omega)
  have e11 : th0 m 197 11 = m 197 11 := up_ne (by omega)
  have hT2 := TX_th hT
  refine j_aload0 (q := 6) dX8_firstError_5 rfl ?_
  refine j_callV0 (Mc := iX8_scan) (q := 9) (c' := 0) (s' := 0) dX8_firstError_6 rfl kV_X8_scan jw_1216 ⟨by decide, by decide⟩ sh_197 rfl rfl rfl (Nat.le_refl _) (Nat.le_refl _) (ct_X8_scan E (by assumption)) ?_
  exact j_ireturn dX8_firstError_9 rfl (rfl) (rfl)
theorem ct_X8_core_ok {G : GX} (E : EV G) {m : Mem} {z : Z} {K : Int} {c : Int} {w : Int} (r_c : -2147483648 ≤ c ∧ c < 2147483648) (r_w : -2147483648 ≤ w ∧ w < 2147483648) (hc : 0 ≤ c ∧ c < 64) (hw : 0 ≤ w ∧ w < 9) : CT G SHP iX8_core 0 0 [.inr (.ref 197), .inl c, .inl w] (sz m z) (some (.inl (zCN z c w))) (sz (th0 m) z) := by
  refine j_met (L0 := [some (.inr (.ref 197)), some (.inl c), some (.inl w)]) (by decide) E.1 E.2 rfl (Nat.le_of_ble_eq_true rfl) ?_
  refine j_aload0 (q := 1) dX8_core_0 rfl ?_
  refine j_iconst (q := 2) dX8_core_1 rfl ?_
  refine j_nputI (by decide) 12 (j' := 12) (q := 5) dX8_core_2 rfl fw_X8_38 sh_197 rfl rfl ?_
  refine j_mem (m' := sz (th0 m) z) rfl ?_
  have e10 : th0 m 197 10 = m 197 10 := up_ne (by omega)
  have e11 : th0 m 197 11 = m 197 11 := up_ne (by omega)
  refine j_iload1 (q := 6) dX8_core_5 rfl ?_
  refine j_callS1 (Mc := iX8_isCore) (q := 9) (c' := 0) (s' := 0) dX8_core_6 rfl kS_X8_isCore jw_1065 ⟨by decide, by decide⟩ rfl (Nat.le_refl _) (Nat.le_refl _) (ct_X8_isCore E (by omega)) ?_
  refine j_ifne_b (tgt := 18) (q := 12) dX8_core_9 (by decide) rfl (fun h9 => ?_) (fun h9 => ?_)
  · refine j_iload2 (q := 19) dX8_core_18 rfl ?_
    refine j_iconst (q := 20) dX8_core_19 rfl ?_
    refine j_bipush (q := 22) dX8_core_20 rfl rfl ?_
    refine j_callS3 (Mc := iX8_within) (q := 25) (c' := 0) (s' := 0) dX8_core_22 rfl kS_X8_within jw_1035 ⟨by decide, by decide⟩ rfl (Nat.le_refl _) (Nat.le_refl _) (ct_X8_within E (by omega) (by omega) (by omega)) ?_
    refine j_ifeq_b (tgt := 37) (q := 28) dX8_core_25 (by decide) rfl (fun h25 => ?_) (fun h25 => ?_)
    · exfalso
      first | omega | (simp only [wi, decide_eq_true_eq, decide_eq_false_iff_not] at *; omega) | (simp_all [wi]; done) | (simp_all [wi]; omega)
    · refine j_aload0 (q := 29) dX8_core_28 rfl ?_
      refine j_iload1 (q := 30) dX8_core_29 rfl ?_
      refine j_iload2 (q := 31) dX8_core_30 rfl ?_
      refine j_callV2 (Mc := iX8_coreNow) (q := 34) (c' := 0) (s' := 0) dX8_core_31 rfl kV_X8_coreNow jw_1256 ⟨by decide, by decide⟩ sh_197 rfl rfl rfl (Nat.le_refl _) (Nat.le_refl _) (ct_X8_coreNow E (by omega) (by omega)) ?_
      refine j_goto (tgt := 42) dX8_core_34 (by decide) ?_
      exact j_ireturn dX8_core_42 rfl (rfl) (rfl)
  · exfalso
    first | omega | (simp only [wi, decide_eq_true_eq, decide_eq_false_iff_not] at *; omega) | (simp_all [wi]; done) | (simp_all [wi]; omega)
theorem ct_X8_core_e1 {G : GX} (E : EV G) {m : Mem} {z : Z} {K : Int} {c : Int} {w : Int} (r_c : -2147483648 ≤ c ∧ c < 2147483648) (r_w : -2147483648 ≤ w ∧ w < 2147483648) (hx : ¬ (0 ≤ c ∧ c < 64)) : CT G SHP iX8_core 0 0 [.inr (.ref 197), .inl c, .inl w] (sz m z) (some (.inl 0)) (sz (up m 197 12 1) z) := by
  refine j_met (L0 := [some (.inr (.ref 197)), some (.inl c), some (.inl w)]) (by decide) E.1 E.2 rfl (Nat.le_of_ble_eq_true rfl) ?_
  refine j_aload0 (q := 1) dX8_core_0 rfl ?_
  refine j_iconst (q := 2) dX8_core_1 rfl ?_
  refine j_nputI (by decide) 12 (j' := 12) (q := 5) dX8_core_2 rfl fw_X8_38 sh_197 rfl rfl ?_
  refine j_mem (m' := sz (th0 m) z) rfl ?_
  have e10 : th0 m 197 10 = m 197 10 := up_ne (by omega)
  have e11 : th0 m 197 11 = m 197 11 := up_ne (by omega)
  refine j_iload1 (q := 6) dX8_core_5 rfl ?_
  refine j_callS1 (Mc := iX8_isCore) (q := 9) (c' := 0) (s' := 0) dX8_core_6 rfl kS_X8_isCore jw_1065 ⟨by decide, by decide⟩ rfl (Nat.le_refl _) (Nat.le_refl _) (ct_X8_isCore E (by omega)) ?_
  refine j_ifne_b (tgt := 18) (q := 12) dX8_core_9 (by decide) rfl (fun h9 => ?_) (fun h9 => ?_)
  · exfalso
    first | omega | (simp only [wi, decide_eq_true_eq, decide_eq_false_iff_not] at *; omega) | (simp_all [wi]; done) | (simp_all [wi]; omega)
  · refine j_aload0 (q := 13) dX8_core_12 rfl ?_
    refine j_iconst (q := 14) dX8_core_13 rfl ?_
    refine j_callV1 (Mc := iX8_fails) (q := 17) (c' := 0) (s' := 0) dX8_core_14 rfl kV_X8_fails jw_1038 ⟨by decide, by decide⟩ sh_197 rfl rfl rfl (Nat.le_refl _) (Nat.le_refl _) (ct_X8_fails E) ?_
    exact j_ireturn dX8_core_17 rfl (rfl) (by rw [th0, up_up])
theorem ct_X8_core_e2 {G : GX} (E : EV G) {m : Mem} {z : Z} {K : Int} {c : Int} {w : Int} (r_c : -2147483648 ≤ c ∧ c < 2147483648) (r_w : -2147483648 ≤ w ∧ w < 2147483648) (hc : 0 ≤ c ∧ c < 64) (hw : ¬ (0 ≤ w ∧ w < 9)) : CT G SHP iX8_core 0 0 [.inr (.ref 197), .inl c, .inl w] (sz m z) (some (.inl 0)) (sz (up m 197 12 2) z) := by
  refine j_met (L0 := [some (.inr (.ref 197)), some (.inl c), some (.inl w)]) (by decide) E.1 E.2 rfl (Nat.le_of_ble_eq_true rfl) ?_
  refine j_aload0 (q := 1) dX8_core_0 rfl ?_
  refine j_iconst (q := 2) dX8_core_1 rfl ?_
  refine j_nputI (by decide) 12 (j' := 12) (q := 5) dX8_core_2 rfl fw_X8_38 sh_197 rfl rfl ?_
  refine j_mem (m' := sz (th0 m) z) rfl ?_
  have e10 : th0 m 197 10 = m 197 10 := up_ne (by omega)
  have e11 : th0 m 197 11 = m 197 11 := up_ne (by omega)
  refine j_iload1 (q := 6) dX8_core_5 rfl ?_
  refine j_callS1 (Mc := iX8_isCore) (q := 9) (c' := 0) (s' := 0) dX8_core_6 rfl kS_X8_isCore jw_1065 ⟨by decide, by decide⟩ rfl (Nat.le_refl _) (Nat.le_refl _) (ct_X8_isCore E (by omega)) ?_
  refine j_ifne_b (tgt := 18) (q := 12) dX8_core_9 (by decide) rfl (fun h9 => ?_) (fun h9 => ?_)
  · refine j_iload2 (q := 19) dX8_core_18 rfl ?_
    refine j_iconst (q := 20) dX8_core_19 rfl ?_
    refine j_bipush (q := 22) dX8_core_20 rfl rfl ?_
    refine j_callS3 (Mc := iX8_within) (q := 25) (c' := 0) (s' := 0) dX8_core_22 rfl kS_X8_within jw_1035 ⟨by decide, by decide⟩ rfl (Nat.le_refl _) (Nat.le_refl _) (ct_X8_within E (by omega) (by omega) (by omega)) ?_
    refine j_ifeq_b (tgt := 37) (q := 28) dX8_core_25 (by decide) rfl (fun h25 => ?_) (fun h25 => ?_)
    · refine j_aload0 (q := 38) dX8_core_37 rfl ?_
      refine j_iconst (q := 39) dX8_core_38 rfl ?_
      refine j_callV1 (Mc := iX8_fails) (q := 42) (c' := 0) (s' := 0) dX8_core_39 rfl kV_X8_fails jw_1038 ⟨by decide, by decide⟩ sh_197 rfl rfl rfl (Nat.le_refl _) (Nat.le_refl _) (ct_X8_fails E) ?_
      exact j_ireturn dX8_core_42 rfl (rfl) (by rw [th0, up_up])
    · exfalso
      first | omega | (simp only [wi, decide_eq_true_eq, decide_eq_false_iff_not] at *; omega) | (simp_all [wi]; done) | (simp_all [wi]; omega)
  · exfalso
    first | omega | (simp only [wi, decide_eq_true_eq, decide_eq_false_iff_not] at *; omega) | (simp_all [wi]; done) | (simp_all [wi]; omega)
theorem ct_X8_tenant_ok {G : GX} (E : EV G) {m : Mem} {z : Z} {K : Int} {t : Int} {w : Int} (r_t : -2147483648 ≤ t ∧ t < 2147483648) (r_w : -2147483648 ≤ w ∧ w < 2147483648) (h2 : 0 ≤ z 2 ∧ z 2 ≤ 6) (hW : WI z K) (ht : 0 ≤ t ∧ t < z 2) (hw : 0 ≤ w ∧ w < 6) : CT G SHP iX8_tenant 0 0 [.inr (.ref 197), .inl t, .inl w] (sz m z) (some (.inl (zTN z t w))) (sz (th0 m) z) := by
  refine j_met (L0 := [some (.inr (.ref 197)), some (.inl t), some (.inl w)]) (by decide) E.1 E.2 rfl (Nat.le_of_ble_eq_true rfl) ?_
  refine j_aload0 (q := 1) dX8_tenant_0 rfl ?_
  refine j_iconst (q := 2) dX8_tenant_1 rfl ?_
  refine j_nputI (by decide) 12 (j' := 12) (q := 5) dX8_tenant_2 rfl fw_X8_38 sh_197 rfl rfl ?_
  refine j_mem (m' := sz (th0 m) z) rfl ?_
  have e10 : th0 m 197 10 = m 197 10 := up_ne (by omega)
  have e11 : th0 m 197 11 = m 197 11 := up_ne (by omega)
  have h3 := hW.1
  have h4 := hW.2.1
  have h5 : ∀ i, 0 ≤ i → i < 3 → 0 ≤ z (41 + 6 * i + 5) ∧ z (41 + 6 * i + 5) ≤ 512 := fun i a b => WI_wt hW ⟨a, b⟩
  refine j_aload0 (q := 6) dX8_tenant_5 rfl ?_
  refine j_iload1 (q := 7) dX8_tenant_6 rfl ?_
  refine j_callV1 (Mc := iX8_isTenant) (q := 10) (c' := 0) (s' := 0) dX8_tenant_7 rfl kV_X8_isTenant jw_1068 ⟨by decide, by decide⟩ sh_197 rfl rfl rfl (Nat.le_refl _) (Nat.le_refl _) (ct_X8_isTenant E (by omega) (by omega)) ?_
  refine j_ifne_b (tgt := 19) (q := 13) dX8_tenant_10 (by decide) rfl (fun h10 => ?_) (fun h10 => ?_)
  · refine j_iload2 (q := 20) dX8_tenant_19 rfl ?_
    refine j_iconst (q := 21) dX8_tenant_20 rfl ?_
    refine j_iconst (q := 22) dX8_tenant_21 rfl ?_
    refine j_callS3 (Mc := iX8_within) (q := 25) (c' := 0) (s' := 0) dX8_tenant_22 rfl kS_X8_within jw_1035 ⟨by decide, by decide⟩ rfl (Nat.le_refl _) (Nat.le_refl _) (ct_X8_within E (by omega) (by omega) (by omega)) ?_
    refine j_ifeq_b (tgt := 37) (q := 28) dX8_tenant_25 (by decide) rfl (fun h25 => ?_) (fun h25 => ?_)
    · exfalso
      first | omega | (simp only [wi, decide_eq_true_eq, decide_eq_false_iff_not] at *; omega) | (simp_all [wi]; done) | (simp_all [wi]; omega)
    · refine j_aload0 (q := 29) dX8_tenant_28 rfl ?_
      refine j_iload1 (q := 30) dX8_tenant_29 rfl ?_
      refine j_iload2 (q := 31) dX8_tenant_30 rfl ?_
      refine j_callV2 (Mc := iX8_tenantNow) (q := 34) (c' := 0) (s' := 0) dX8_tenant_31 rfl kV_X8_tenantNow jw_1264 ⟨by decide, by decide⟩ sh_197 rfl rfl rfl (Nat.le_refl _) (Nat.le_refl _) (ct_X8_tenantNow E (by omega) (by omega) (by omega) (by omega) h5) ?_
      refine j_goto (tgt := 42) dX8_tenant_34 (by decide) ?_
      exact j_ireturn dX8_tenant_42 rfl (rfl) (rfl)
  · exfalso
    first | omega | (simp only [wi, decide_eq_true_eq, decide_eq_false_iff_not] at *; omega) | (simp_all [wi]; done) | (simp_all [wi]; omega)
theorem ct_X8_tenant_e1 {G : GX} (E : EV G) {m : Mem} {z : Z} {K : Int} {t : Int} {w : Int} (r_t : -2147483648 ≤ t ∧ t < 2147483648) (r_w : -2147483648 ≤ w ∧ w < 2147483648) (h2 : 0 ≤ z 2 ∧ z 2 ≤ 6) (hx : ¬ (0 ≤ t ∧ t < z 2)) : CT G SHP iX8_tenant 0 0 [.inr (.ref 197), .inl t, .inl w] (sz m z) (some (.inl 0)) (sz (up m 197 12 1) z) := by
  refine j_met (L0 := [some (.inr (.ref 197)), some (.inl t), some (.inl w)]) (by decide) E.1 E.2 rfl (Nat.le_of_ble_eq_true rfl) ?_
  refine j_aload0 (q := 1) dX8_tenant_0 rfl ?_
  refine j_iconst (q := 2) dX8_tenant_1 rfl ?_
  refine j_nputI (by decide) 12 (j' := 12) (q := 5) dX8_tenant_2 rfl fw_X8_38 sh_197 rfl rfl ?_
  refine j_mem (m' := sz (th0 m) z) rfl ?_
  have e10 : th0 m 197 10 = m 197 10 := up_ne (by omega)
  have e11 : th0 m 197 11 = m 197 11 := up_ne (by omega)
  refine j_aload0 (q := 6) dX8_tenant_5 rfl ?_
  refine j_iload1 (q := 7) dX8_tenant_6 rfl ?_
  refine j_callV1 (Mc := iX8_isTenant) (q := 10) (c' := 0) (s' := 0) dX8_tenant_7 rfl kV_X8_isTenant jw_1068 ⟨by decide, by decide⟩ sh_197 rfl rfl rfl (Nat.le_refl _) (Nat.le_refl _) (ct_X8_isTenant E (by omega) (by omega)) ?_
  refine j_ifne_b (tgt := 19) (q := 13) dX8_tenant_10 (by decide) rfl (fun h10 => ?_) (fun h10 => ?_)
  · exfalso
    first | omega | (simp only [wi, decide_eq_true_eq, decide_eq_false_iff_not] at *; omega) | (simp_all [wi]; done) | (simp_all [wi]; omega)
  · refine j_aload0 (q := 14) dX8_tenant_13 rfl ?_
    refine j_iconst (q := 15) dX8_tenant_14 rfl ?_
    refine j_callV1 (Mc := iX8_fails) (q := 18) (c' := 0) (s' := 0) dX8_tenant_15 rfl kV_X8_fails jw_1038 ⟨by decide, by decide⟩ sh_197 rfl rfl rfl (Nat.le_refl _) (Nat.le_refl _) (ct_X8_fails E) ?_
    exact j_ireturn dX8_tenant_18 rfl (rfl) (by rw [th0, up_up])
theorem ct_X8_tenant_e2 {G : GX} (E : EV G) {m : Mem} {z : Z} {K : Int} {t : Int} {w : Int} (r_t : -2147483648 ≤ t ∧ t < 2147483648) (r_w : -2147483648 ≤ w ∧ w < 2147483648) (h2 : 0 ≤ z 2 ∧ z 2 ≤ 6) (ht : 0 ≤ t ∧ t < z 2) (hw : ¬ (0 ≤ w ∧ w < 6)) : CT G SHP iX8_tenant 0 0 [.inr (.ref 197), .inl t, .inl w] (sz m z) (some (.inl 0)) (sz (up m 197 12 2) z) := by
  refine j_met (L0 := [some (.inr (.ref 197)), some (.inl t), some (.inl w)]) (by decide) E.1 E.2 rfl (Nat.le_of_ble_eq_true rfl) ?_
  refine j_aload0 (q := 1) dX8_tenant_0 rfl ?_
  refine j_iconst (q := 2) dX8_tenant_1 rfl ?_
  refine j_nputI (by decide) 12 (j' := 12) (q := 5) dX8_tenant_2 rfl fw_X8_38 sh_197 rfl rfl ?_
  refine j_mem (m' := sz (th0 m) z) rfl ?_
  have e10 : th0 m 197 10 = m 197 10 := up_ne (by omega)
  have e11 : th0 m 197 11 = m 197 11 := up_ne (by omega)
  refine j_aload0 (q := 6) dX8_tenant_5 rfl ?_
  refine j_iload1 (q := 7) dX8_tenant_6 rfl ?_
  refine j_callV1 (Mc := iX8_isTenant) (q := 10) (c' := 0) (s' := 0) dX8_tenant_7 rfl kV_X8_isTenant jw_1068 ⟨by decide, by decide⟩ sh_197 rfl rfl rfl (Nat.le_refl _) (Nat.le_refl _) (ct_X8_isTenant E (by omega) (by omega)) ?_
  refine j_ifne_b (tgt := 19) (q := 13) dX8_tenant_10 (by decide) rfl (fun h10 => ?_) (fun h10 => ?_)
  · refine j_iload2 (q := 20) dX8_tenant_19 rfl ?_
    refine j_iconst (q := 21) dX8_tenant_20 rfl ?_
    refine j_iconst (q := 22) dX8_tenant_21 rfl ?_
    refine j_callS3 (Mc := iX8_within) (q := 25) (c' := 0) (s' := 0) dX8_tenant_22 rfl kS_X8_within jw_1035 ⟨by decide, by decide⟩ rfl (Nat.le_refl _) (Nat.le_refl _) (ct_X8_within E (by omega) (by omega) (by omega)) ?_
    refine j_ifeq_b (tgt := 37) (q := 28) dX8_tenant_25 (by decide) rfl (fun h25 => ?_) (fun h25 => ?_)
    · refine j_aload0 (q := 38) dX8_tenant_37 rfl ?_
      refine j_iconst (q := 39) dX8_tenant_38 rfl ?_
      refine j_callV1 (Mc := iX8_fails) (q := 42) (c' := 0) (s' := 0) dX8_tenant_39 rfl kV_X8_fails jw_1038 ⟨by decide, by decide⟩ sh_197 rfl rfl rfl (Nat.le_refl _) (Nat.le_refl _) (ct_X8_fails E) ?_
      exact j_ireturn dX8_tenant_42 rfl (rfl) (by rw [th0, up_up])
    · exfalso
      first | omega | (simp only [wi, decide_eq_true_eq, decide_eq_false_iff_not] at *; omega) | (simp_all [wi]; done) | (simp_all [wi]; omega)
  · exfalso
    first | omega | (simp only [wi, decide_eq_true_eq, decide_eq_false_iff_not] at *; omega) | (simp_all [wi]; done) | (simp_all [wi]; omega)
theorem ct_X8_insurer_ok {G : GX} (E : EV G) {m : Mem} {z : Z} {K : Int} {i : Int} {w : Int} (r_i : -2147483648 ≤ i ∧ i < 2147483648) (r_w : -2147483648 ≤ w ∧ w < 2147483648) (h3 : 0 ≤ z 3 ∧ z 3 ≤ 3) (hi : 0 ≤ i ∧ i < z 3) (hw : 0 ≤ w ∧ w < 7) : CT G SHP iX8_insurer 0 0 [.inr (.ref 197), .inl i, .inl w] (sz m z) (some (.inl (zIN z i w))) (sz (th0 m) z) := by
  refine j_met (L0 := [some (.inr (.ref 197)), some (.inl i), some (.inl w)]) (by decide) E.1 E.2 rfl (Nat.le_of_ble_eq_true rfl) ?_
  refine j_aload0 (q := 1) dX8_insurer_0 rfl ?_
  refine j_iconst (q := 2) dX8_insurer_1 rfl ?_
  refine j_nputI (by decide) 12 (j' := 12) (q := 5) dX8_insurer_2 rfl fw_X8_38 sh_197 rfl rfl ?_
  refine j_mem (m' := sz (th0 m) z) rfl ?_
  have e10 : th0 m 197 10 = m 197 10 := up_ne (by omega)
  have e11 : th0 m 197 11 = m 197 11 := up_ne (by omega)
  refine j_aload0 (q := 6) dX8_insurer_5 rfl ?_
  refine j_iload1 (q := 7) dX8_insurer_6 rfl ?_
  refine j_callV1 (Mc := iX8_isInsurer) (q := 10) (c' := 0) (s' := 0) dX8_insurer_7 rfl kV_X8_isInsurer jw_1091 ⟨by decide, by decide⟩ sh_197 rfl rfl rfl (Nat.le_refl _) (Nat.le_refl _) (ct_X8_isInsurer E (by omega) (by omega)) ?_
  refine j_ifne_b (tgt := 19) (q := 13) dX8_insurer_10 (by decide) rfl (fun h10 => ?_) (fun h10 => ?_)
  · refine j_iload2 (q := 20) dX8_insurer_19 rfl ?_
    refine j_iconst (q := 21) dX8_insurer_20 rfl ?_
    refine j_bipush (q := 23) dX8_insurer_21 rfl rfl ?_
    refine j_callS3 (Mc := iX8_within) (q := 26) (c' := 0) (s' := 0) dX8_insurer_23 rfl kS_X8_within jw_1035 ⟨by decide, by decide⟩ rfl (Nat.le_refl _) (Nat.le_refl _) (ct_X8_within E (by omega) (by omega) (by omega)) ?_
    refine j_ifeq_b (tgt := 38) (q := 29) dX8_insurer_26 (by decide) rfl (fun h26 => ?_) (fun h26 => ?_)
    · exfalso
      first | omega | (simp only [wi, decide_eq_true_eq, decide_eq_false_iff_not] at *; omega) | (simp_all [wi]; done) | (simp_all [wi]; omega)
    · refine j_aload0 (q := 30) dX8_insurer_29 rfl ?_
      refine j_iload1 (q := 31) dX8_insurer_30 rfl ?_
      refine j_iload2 (q := 32) dX8_insurer_31 rfl ?_
      refine j_callV2 (Mc := iX8_insurerNow) (q := 35) (c' := 0) (s' := 0) dX8_insurer_32 rfl kV_X8_insurerNow jw_1280 ⟨by decide, by decide⟩ sh_197 rfl rfl rfl (Nat.le_refl _) (Nat.le_refl _) (ct_X8_insurerNow E (by omega) (by omega)) ?_
      refine j_goto (tgt := 43) dX8_insurer_35 (by decide) ?_
      exact j_ireturn dX8_insurer_43 rfl (rfl) (rfl)
  · exfalso
    first | omega | (simp only [wi, decide_eq_true_eq, decide_eq_false_iff_not] at *; omega) | (simp_all [wi]; done) | (simp_all [wi]; omega)
theorem ct_X8_insurer_e1 {G : GX} (E : EV G) {m : Mem} {z : Z} {K : Int} {i : Int} {w : Int} (r_i : -2147483648 ≤ i ∧ i < 2147483648) (r_w : -2147483648 ≤ w ∧ w < 2147483648) (h3 : 0 ≤ z 3 ∧ z 3 ≤ 3) (hx : ¬ (0 ≤ i ∧ i < z 3)) : CT G SHP iX8_insurer 0 0 [.inr (.ref 197), .inl i, .inl w] (sz m z) (some (.inl 0)) (sz (up m 197 12 1) z) := by
  refine j_met (L0 := [some (.inr (.ref 197)), some (.inl i), some (.inl w)]) (by decide) E.1 E.2 rfl (Nat.le_of_ble_eq_true rfl) ?_
  refine j_aload0 (q := 1) dX8_insurer_0 rfl ?_
  refine j_iconst (q := 2) dX8_insurer_1 rfl ?_
  refine j_nputI (by decide) 12 (j' := 12) (q := 5) dX8_insurer_2 rfl fw_X8_38 sh_197 rfl rfl ?_
  refine j_mem (m' := sz (th0 m) z) rfl ?_
  have e10 : th0 m 197 10 = m 197 10 := up_ne (by omega)
  have e11 : th0 m 197 11 = m 197 11 := up_ne (by omega)
  refine j_aload0 (q := 6) dX8_insurer_5 rfl ?_
  refine j_iload1 (q := 7) dX8_insurer_6 rfl ?_
  refine j_callV1 (Mc := iX8_isInsurer) (q := 10) (c' := 0) (s' := 0) dX8_insurer_7 rfl kV_X8_isInsurer jw_1091 ⟨by decide, by decide⟩ sh_197 rfl rfl rfl (Nat.le_refl _) (Nat.le_refl _) (ct_X8_isInsurer E (by omega) (by omega)) ?_
  refine j_ifne_b (tgt := 19) (q := 13) dX8_insurer_10 (by decide) rfl (fun h10 => ?_) (fun h10 => ?_)
  · exfalso
    first | omega | (simp only [wi, decide_eq_true_eq, decide_eq_false_iff_not] at *; omega) | (simp_all [wi]; done) | (simp_all [wi]; omega)
  · refine j_aload0 (q := 14) dX8_insurer_13 rfl ?_
    refine j_iconst (q := 15) dX8_insurer_14 rfl ?_
    refine j_callV1 (Mc := iX8_fails) (q := 18) (c' := 0) (s' := 0) dX8_insurer_15 rfl kV_X8_fails jw_1038 ⟨by decide, by decide⟩ sh_197 rfl rfl rfl (Nat.le_refl _) (Nat.le_refl _) (ct_X8_fails E) ?_
    exact j_ireturn dX8_insurer_18 rfl (rfl) (by rw [th0, up_up])
theorem ct_X8_insurer_e2 {G : GX} (E : EV G) {m : Mem} {z : Z} {K : Int} {i : Int} {w : Int} (r_i : -2147483648 ≤ i ∧ i < 2147483648) (r_w : -2147483648 ≤ w ∧ w < 2147483648) (h3 : 0 ≤ z 3 ∧ z 3 ≤ 3) (hi : 0 ≤ i ∧ i < z 3) (hw : ¬ (0 ≤ w ∧ w < 7)) : CT G SHP iX8_insurer 0 0 [.inr (.ref 197), .inl i, .inl w] (sz m z) (some (.inl 0)) (sz (up m 197 12 2) z) := by
  refine j_met (L0 := [some (.inr (.ref 197)), some (.inl i), some (.inl w)]) (by decide) E.1 E.2 rfl (Nat.le_of_ble_eq_true rfl) ?_
  refine j_aload0 (q := 1) dX8_insurer_0 rfl ?_
  refine j_iconst (q := 2) dX8_insurer_1 rfl ?_
  refine j_nputI (by decide) 12 (j' := 12) (q := 5) dX8_insurer_2 rfl fw_X8_38 sh_197 rfl rfl ?_
  refine j_mem (m' := sz (th0 m) z) rfl ?_
  have e10 : th0 m 197 10 = m 197 10 := up_ne (by omega)
  have e11 : th0 m 197 11 = m 197 11 := up_ne (by omega)
  refine j_aload0 (q := 6) dX8_insurer_5 rfl ?_
  refine j_iload1 (q := 7) dX8_insurer_6 rfl ?_
  refine j_callV1 (Mc := iX8_isInsurer) (q := 10) (c' := 0) (s' := 0) dX8_insurer_7 rfl kV_X8_isInsurer jw_1091 ⟨by decide, by decide⟩ sh_197 rfl rfl rfl (Nat.le_refl _) (Nat.le_refl _) (ct_X8_isInsurer E (by omega) (by omega)) ?_
  refine j_ifne_b (tgt := 19) (q := 13) dX8_insurer_10 (by decide) rfl (fun h10 => ?_) (fun h10 => ?_)
  · refine j_iload2 (q := 20) dX8_insurer_19 rfl ?_
    refine j_iconst (q := 21) dX8_insurer_20 rfl ?_
    refine j_bipush (q := 23) dX8_insurer_21 rfl rfl ?_
    refine j_callS3 (Mc := iX8_within) (q := 26) (c' := 0) (s' := 0) dX8_insurer_23 rfl kS_X8_within jw_1035 ⟨by decide, by decide⟩ rfl (Nat.le_refl _) (Nat.le_refl _) (ct_X8_within E (by omega) (by omega) (by omega)) ?_
    refine j_ifeq_b (tgt := 38) (q := 29) dX8_insurer_26 (by decide) rfl (fun h26 => ?_) (fun h26 => ?_)
    · refine j_aload0 (q := 39) dX8_insurer_38 rfl ?_
      refine j_iconst (q := 40) dX8_insurer_39 rfl ?_
      refine j_callV1 (Mc := iX8_fails) (q := 43) (c' := 0) (s' := 0) dX8_insurer_40 rfl kV_X8_fails jw_1038 ⟨by decide, by decide⟩ sh_197 rfl rfl rfl (Nat.le_refl _) (Nat.le_refl _) (ct_X8_fails E) ?_
      exact j_ireturn dX8_insurer_43 rfl (rfl) (by rw [th0, up_up])
    · exfalso
      first | omega | (simp only [wi, decide_eq_true_eq, decide_eq_false_iff_not] at *; omega) | (simp_all [wi]; done) | (simp_all [wi]; omega)
  · exfalso
    first | omega | (simp only [wi, decide_eq_true_eq, decide_eq_false_iff_not] at *; omega) | (simp_all [wi]; done) | (simp_all [wi]; omega)
def zOwd (z : Z) (o : Int → Int) (p w : Int) : Int := if zOrN z o ≤ p then -1 else if w = 0 then zOrd z o p else z (59 + 9 * zOrd z o p + 6) - 1
theorem ct_X8_owed_ok {G : GX} (E : EV G) {m : Mem} {z : Z} {K : Int} {p : Int} {w : Int} (r_p : -2147483648 ≤ p ∧ p < 2147483648) (r_w : -2147483648 ≤ w ∧ w < 2147483648) (hp : 0 ≤ p ∧ p < 64) (hw : 0 ≤ w ∧ w < 2) : CT G SHP iX8_owed 0 0 [.inr (.ref 197), .inl p, .inl w] (sz m z) (some (.inl (zOwd z (m 205) p w))) (sz (so (th0 m) (zOrd z (m 205))) z) := by
  refine j_met (L0 := [some (.inr (.ref 197)), some (.inl p), some (.inl w)]) (by decide) E.1 E.2 rfl (Nat.le_of_ble_eq_true rfl) ?_
  refine j_aload0 (q := 1) dX8_owed_0 rfl ?_
  refine j_iconst (q := 2) dX8_owed_1 rfl ?_
  refine j_nputI (by decide) 12 (j' := 12) (q := 5) dX8_owed_2 rfl fw_X8_38 sh_197 rfl rfl ?_
  refine j_mem (m' := sz (th0 m) z) rfl ?_
  have e10 : th0 m 197 10 = m 197 10 := up_ne (by omega)
  have e11 : th0 m 197 11 = m 197 11 := up_ne (by omega)
  have hb := zOr_b z (m 205)
  have e5 : th0 m 205 = m 205 := rfl
  refine j_iload1 (q := 6) dX8_owed_5 rfl ?_
  refine j_iconst (q := 7) dX8_owed_6 rfl ?_
  refine j_bipush (q := 9) dX8_owed_7 rfl rfl ?_
  refine j_callS3 (Mc := iX8_within) (q := 12) (c' := 0) (s' := 0) dX8_owed_9 rfl kS_X8_within jw_1035 ⟨by decide, by decide⟩ rfl (Nat.le_refl _) (Nat.le_refl _) (ct_X8_within E (by omega) (by omega) (by omega)) ?_
  refine j_ifeq_b (tgt := 24) (q := 15) dX8_owed_12 (by decide) rfl (fun h12 => ?_) (fun h12 => ?_)
  · exfalso
    first | omega | (simp only [wi, decide_eq_true_eq, decide_eq_false_iff_not] at *; omega) | (simp_all [wi]; done) | (simp_all [wi]; omega)
  · refine j_iload2 (q := 16) dX8_owed_15 rfl ?_
    refine j_iconst (q := 17) dX8_owed_16 rfl ?_
    refine j_iconst (q := 18) dX8_owed_17 rfl ?_
    refine j_callS3 (Mc := iX8_within) (q := 21) (c' := 0) (s' := 0) dX8_owed_18 rfl kS_X8_within jw_1035 ⟨by decide, by decide⟩ rfl (Nat.le_refl _) (Nat.le_refl _) (ct_X8_within E (by omega) (by omega) (by omega)) ?_
    refine j_ifne_b (tgt := 30) (q := 24) dX8_owed_21 (by decide) rfl (fun h21 => ?_) (fun h21 => ?_)
    · refine j_iload1 (q := 31) dX8_owed_30 rfl ?_
      refine j_aload0 (q := 32) dX8_owed_31 rfl ?_
      refine j_callV0 (Mc := iX8_layOwed) (q := 35) (c' := 0) (s' := 0) dX8_owed_32 rfl kV_X8_layOwed jw_1180 ⟨by decide, by decide⟩ sh_197 rfl rfl rfl (Nat.le_refl _) (Nat.le_refl _) (show CT G SHP iX8_layOwed 0 0 [.inr (.ref 197)] (sz (th0 m) z) (some (.inl (zOrN z (m 205)))) (sz (so (th0 m) (zOrd z (m 205))) z) from ct_X8_layOwed E) ?_
      refine j_icmp_lt (tgt := 40) (q := 38) dX8_owed_35 (by decide) rfl (by first | exact wr_id' (by omega) (by omega) | with_reducible exact wr_bI _ | exact rfl) (by first | exact wr_id' (by omega) (by omega) | with_reducible exact wr_bI _ | exact rfl) (fun h35 => ?_) (fun h35 => ?_)
      · have hob := hb.1 p (by omega) (by omega)
        have hob2 : 0 ≤ so (th0 m) (zOrd z (m 205)) 205 p ∧ so (th0 m) (zOrd z (m 205)) 205 p < 64 := hob
        refine j_iload2 (q := 41) dX8_owed_40 rfl ?_
        refine j_if_ne (tgt := 53) (q := 44) dX8_owed_41 (by decide) rfl (by first | exact wr_id' (by omega) (by omega) | with_reducible exact wr_bI _ | exact rfl) (fun h41 => ?_) (fun h41 => ?_)
        · refine j_aload0 (q := 54) dX8_owed_53 rfl ?_
          refine j_aload0 (q := 55) dX8_owed_54 rfl ?_
          refine j_getR 7 (q := 58) dX8_owed_55 rfl fl_X8_31 sh_197 rfl ?_
          refine j_iload1 (q := 59) dX8_owed_58 rfl ?_
          refine j_nload (q := 60) (by decide) dX8_owed_59 rfl sh_205 (by first | exact wr_id' (by omega) (by omega) | with_reducible exact wr_bI _ | exact rfl) (by omega) (by omega) ?_
          refine j_bipush (q := 62) dX8_owed_60 rfl rfl ?_
          refine j_callV2 (Mc := iX8_of) (q := 65) (c' := 0) (s' := 0) dX8_owed_62 rfl kV_X8_of jw_1079 ⟨by decide, by decide⟩ sh_197 rfl rfl rfl (Nat.le_refl _) (Nat.le_refl _) (ct_X8_of E (by omega) (by omega)) ?_
          refine j_iconst (q := 66) dX8_owed_65 rfl ?_
          refine j_isub (q := 67) dX8_owed_66 rfl ?_
          exact j_ireturn dX8_owed_67 rfl (by first | (rw [zOwd, if_neg (by omega), if_pos (by omega)]; rfl) | (rw [zOwd, if_neg (by omega), if_neg (by omega)]; rfl)) (rfl)
        · refine j_aload0 (q := 45) dX8_owed_44 rfl ?_
          refine j_getR 7 (q := 48) dX8_owed_45 rfl fl_X8_31 sh_197 rfl ?_
          refine j_iload1 (q := 49) dX8_owed_48 rfl ?_
          refine j_nload (q := 50) (by decide) dX8_owed_49 rfl sh_205 (by first | exact wr_id' (by omega) (by omega) | with_reducible exact wr_bI _ | exact rfl) (by omega) (by omega) ?_
          refine j_goto (tgt := 67) dX8_owed_50 (by decide) ?_
          exact j_ireturn dX8_owed_67 rfl (by first | (rw [zOwd, if_neg (by omega), if_pos (by omega)]; rfl) | (rw [zOwd, if_neg (by omega), if_neg (by omega)]; rfl)) (rfl)
      · refine j_iconst (q := 39) dX8_owed_38 rfl ?_
        exact j_ireturn dX8_owed_39 rfl (by rw [zOwd, if_pos (by omega)]) (rfl)
    · exfalso
      first | omega | (simp only [wi, decide_eq_true_eq, decide_eq_false_iff_not] at *; omega) | (simp_all [wi]; done) | (simp_all [wi]; omega)
theorem ct_X8_owed_e1 {G : GX} (E : EV G) {m : Mem} {z : Z} {K : Int} {p : Int} {w : Int} (r_p : -2147483648 ≤ p ∧ p < 2147483648) (r_w : -2147483648 ≤ w ∧ w < 2147483648) (hx : ¬ ((0 ≤ p ∧ p < 64) ∧ 0 ≤ w ∧ w < 2)) : CT G SHP iX8_owed 0 0 [.inr (.ref 197), .inl p, .inl w] (sz m z) (some (.inl 0)) (sz (up m 197 12 1) z) := by
  refine j_met (L0 := [some (.inr (.ref 197)), some (.inl p), some (.inl w)]) (by decide) E.1 E.2 rfl (Nat.le_of_ble_eq_true rfl) ?_
  refine j_aload0 (q := 1) dX8_owed_0 rfl ?_
  refine j_iconst (q := 2) dX8_owed_1 rfl ?_
  refine j_nputI (by decide) 12 (j' := 12) (q := 5) dX8_owed_2 rfl fw_X8_38 sh_197 rfl rfl ?_
  refine j_mem (m' := sz (th0 m) z) rfl ?_
  have e10 : th0 m 197 10 = m 197 10 := up_ne (by omega)
  have e11 : th0 m 197 11 = m 197 11 := up_ne (by omega)
  refine j_iload1 (q := 6) dX8_owed_5 rfl ?_
  refine j_iconst (q := 7) dX8_owed_6 rfl ?_
  refine j_bipush (q := 9) dX8_owed_7 rfl rfl ?_
  refine j_callS3 (Mc := iX8_within) (q := 12) (c' := 0) (s' := 0) dX8_owed_9 rfl kS_X8_within jw_1035 ⟨by decide, by decide⟩ rfl (Nat.le_refl _) (Nat.le_refl _) (ct_X8_within E (by omega) (by omega) (by omega)) ?_
  refine j_ifeq_b (tgt := 24) (q := 15) dX8_owed_12 (by decide) rfl (fun h12 => ?_) (fun h12 => ?_)
  · refine j_aload0 (q := 25) dX8_owed_24 rfl ?_
    refine j_iconst (q := 26) dX8_owed_25 rfl ?_
    refine j_callV1 (Mc := iX8_fails) (q := 29) (c' := 0) (s' := 0) dX8_owed_26 rfl kV_X8_fails jw_1038 ⟨by decide, by decide⟩ sh_197 rfl rfl rfl (Nat.le_refl _) (Nat.le_refl _) (ct_X8_fails E) ?_
    exact j_ireturn dX8_owed_29 rfl (rfl) (by rw [th0, up_up])
  · refine j_iload2 (q := 16) dX8_owed_15 rfl ?_
    refine j_iconst (q := 17) dX8_owed_16 rfl ?_
    refine j_iconst (q := 18) dX8_owed_17 rfl ?_
    refine j_callS3 (Mc := iX8_within) (q := 21) (c' := 0) (s' := 0) dX8_owed_18 rfl kS_X8_within jw_1035 ⟨by decide, by decide⟩ rfl (Nat.le_refl _) (Nat.le_refl _) (ct_X8_within E (by omega) (by omega) (by omega)) ?_
    refine j_ifne_b (tgt := 30) (q := 24) dX8_owed_21 (by decide) rfl (fun h21 => ?_) (fun h21 => ?_)
    · exfalso
      first | omega | (simp only [wi, decide_eq_true_eq, decide_eq_false_iff_not] at *; omega) | (simp_all [wi]; done) | (simp_all [wi]; omega)
    · refine j_aload0 (q := 25) dX8_owed_24 rfl ?_
      refine j_iconst (q := 26) dX8_owed_25 rfl ?_
      refine j_callV1 (Mc := iX8_fails) (q := 29) (c' := 0) (s' := 0) dX8_owed_26 rfl kV_X8_fails jw_1038 ⟨by decide, by decide⟩ sh_197 rfl rfl rfl (Nat.le_refl _) (Nat.le_refl _) (ct_X8_fails E) ?_
      exact j_ireturn dX8_owed_29 rfl (rfl) (by rw [th0, up_up])
theorem ct_X8_weakest_ok {G : GX} (E : EV G) {m : Mem} {z : Z} {K : Int} {p : Int} (r_p : -2147483648 ≤ p ∧ p < 2147483648) (hp : 0 ≤ p ∧ p < 64) : CT G SHP iX8_weakest 0 0 [.inr (.ref 197), .inl p] (sz m z) (some (.inl (zWst z p))) (sz (th0 m) z) := by
  refine j_met (L0 := [some (.inr (.ref 197)), some (.inl p)]) (by decide) E.1 E.2 rfl (Nat.le_of_ble_eq_true rfl) ?_
  refine j_aload0 (q := 1) dX8_weakest_0 rfl ?_
  refine j_iconst (q := 2) dX8_weakest_1 rfl ?_
  refine j_nputI (by decide) 12 (j' := 12) (q := 5) dX8_weakest_2 rfl fw_X8_38 sh_197 rfl rfl ?_
  refine j_mem (m' := sz (th0 m) z) rfl ?_
  have e10 : th0 m 197 10 = m 197 10 := up_ne (by omega)
  have e11 : th0 m 197 11 = m 197 11 := up_ne (by omega)
  refine j_iload1 (q := 6) dX8_weakest_5 rfl ?_
  refine j_callS1 (Mc := iX8_isCore) (q := 9) (c' := 0) (s' := 0) dX8_weakest_6 rfl kS_X8_isCore jw_1065 ⟨by decide, by decide⟩ rfl (Nat.le_refl _) (Nat.le_refl _) (ct_X8_isCore E (by omega)) ?_
  refine j_ifeq_b (tgt := 20) (q := 12) dX8_weakest_9 (by decide) rfl (fun h9 => ?_) (fun h9 => ?_)
  · exfalso
    first | omega | (simp only [wi, decide_eq_true_eq, decide_eq_false_iff_not] at *; omega) | (simp_all [wi]; done) | (simp_all [wi]; omega)
  · refine j_aload0 (q := 13) dX8_weakest_12 rfl ?_
    refine j_iload1 (q := 14) dX8_weakest_13 rfl ?_
    refine j_callV1 (Mc := iX8_weakestAt) (q := 17) (c' := 0) (s' := 0) dX8_weakest_14 rfl kV_X8_weakestAt jw_1296 ⟨by decide, by decide⟩ sh_197 rfl rfl rfl (Nat.le_refl _) (Nat.le_refl _) (ct_X8_weakestAt E (by omega)) ?_
    refine j_goto (tgt := 25) dX8_weakest_17 (by decide) ?_
    exact j_ireturn dX8_weakest_25 rfl (rfl) (rfl)
theorem ct_X8_weakest_e1 {G : GX} (E : EV G) {m : Mem} {z : Z} {K : Int} {p : Int} (r_p : -2147483648 ≤ p ∧ p < 2147483648) (hp : ¬ (0 ≤ p ∧ p < 64)) : CT G SHP iX8_weakest 0 0 [.inr (.ref 197), .inl p] (sz m z) (some (.inl 0)) (sz (up m 197 12 1) z) := by
  refine j_met (L0 := [some (.inr (.ref 197)), some (.inl p)]) (by decide) E.1 E.2 rfl (Nat.le_of_ble_eq_true rfl) ?_
  refine j_aload0 (q := 1) dX8_weakest_0 rfl ?_
  refine j_iconst (q := 2) dX8_weakest_1 rfl ?_
  refine j_nputI (by decide) 12 (j' := 12) (q := 5) dX8_weakest_2 rfl fw_X8_38 sh_197 rfl rfl ?_
  refine j_mem (m' := sz (th0 m) z) rfl ?_
  have e10 : th0 m 197 10 = m 197 10 := up_ne (by omega)
  have e11 : th0 m 197 11 = m 197 11 := up_ne (by omega)
  refine j_iload1 (q := 6) dX8_weakest_5 rfl ?_
  refine j_callS1 (Mc := iX8_isCore) (q := 9) (c' := 0) (s' := 0) dX8_weakest_6 rfl kS_X8_isCore jw_1065 ⟨by decide, by decide⟩ rfl (Nat.le_refl _) (Nat.le_refl _) (ct_X8_isCore E (by omega)) ?_
  refine j_ifeq_b (tgt := 20) (q := 12) dX8_weakest_9 (by decide) rfl (fun h9 => ?_) (fun h9 => ?_)
  · refine j_aload0 (q := 21) dX8_weakest_20 rfl ?_
    refine j_iconst (q := 22) dX8_weakest_21 rfl ?_
    refine j_callV1 (Mc := iX8_fails) (q := 25) (c' := 0) (s' := 0) dX8_weakest_22 rfl kV_X8_fails jw_1038 ⟨by decide, by decide⟩ sh_197 rfl rfl rfl (Nat.le_refl _) (Nat.le_refl _) (ct_X8_fails E) ?_
    exact j_ireturn dX8_weakest_25 rfl (rfl) (by rw [th0, up_up])
  · exfalso
    first | omega | (simp only [wi, decide_eq_true_eq, decide_eq_false_iff_not] at *; omega) | (simp_all [wi]; done) | (simp_all [wi]; omega)
theorem ct_X8_count_ok {G : GX} (E : EV G) {m : Mem} {z : Z} {K : Int} {w : Int} (r_w : -2147483648 ≤ w ∧ w < 2147483648) (hw : 0 ≤ w ∧ w < 19) : CT G SHP iX8_count 0 0 [.inr (.ref 197), .inl w] (sz m z) (some (.inl (zCnt z (m 197 10) w))) (sz (th0 m) z) := by
  refine j_met (L0 := [some (.inr (.ref 197)), some (.inl w)]) (by decide) E.1 E.2 rfl (Nat.le_of_ble_eq_true rfl) ?_
  refine j_aload0 (q := 1) dX8_count_0 rfl ?_
  refine j_iconst (q := 2) dX8_count_1 rfl ?_
  refine j_nputI (by decide) 12 (j' := 12) (q := 5) dX8_count_2 rfl fw_X8_38 sh_197 rfl rfl ?_
  refine j_mem (m' := sz (th0 m) z) rfl ?_
  have e10 : th0 m 197 10 = m 197 10 := up_ne (by omega)
  have e11 : th0 m 197 11 = m 197 11 := up_ne (by omega)
  refine j_iload1 (q := 6) dX8_count_5 rfl ?_
  refine j_iconst (q := 7) dX8_count_6 rfl ?_
  refine j_bipush (q := 9) dX8_count_7 rfl rfl ?_
  refine j_callS3 (Mc := iX8_within) (q := 12) (c' := 0) (s' := 0) dX8_count_9 rfl kS_X8_within jw_1035 ⟨by decide, by decide⟩ rfl (Nat.le_refl _) (Nat.le_refl _) (ct_X8_within E (by omega) (by omega) (by omega)) ?_
  refine j_ifeq_b (tgt := 23) (q := 15) dX8_count_12 (by decide) rfl (fun h12 => ?_) (fun h12 => ?_)
  · exfalso
    first | omega | (simp only [wi, decide_eq_true_eq, decide_eq_false_iff_not] at *; omega) | (simp_all [wi]; done) | (simp_all [wi]; omega)
  · refine j_aload0 (q := 16) dX8_count_15 rfl ?_
    refine j_iload1 (q := 17) dX8_count_16 rfl ?_
    refine j_callV1 (Mc := iX8_counted) (q := 20) (c' := 0) (s' := 0) dX8_count_17 rfl kV_X8_counted jw_1304 ⟨by decide, by decide⟩ sh_197 rfl rfl rfl (Nat.le_refl _) (Nat.le_refl _) (ct_X8_counted E (by omega)) ?_
    refine j_goto (tgt := 28) dX8_count_20 (by decide) ?_
    exact j_ireturn dX8_count_28 rfl (by rw [e10]) (rfl)
theorem ct_X8_count_e1 {G : GX} (E : EV G) {m : Mem} {z : Z} {K : Int} {w : Int} (r_w : -2147483648 ≤ w ∧ w < 2147483648) (hw : ¬ (0 ≤ w ∧ w < 19)) : CT G SHP iX8_count 0 0 [.inr (.ref 197), .inl w] (sz m z) (some (.inl 0)) (sz (up m 197 12 1) z) := by
  refine j_met (L0 := [some (.inr (.ref 197)), some (.inl w)]) (by decide) E.1 E.2 rfl (Nat.le_of_ble_eq_true rfl) ?_
  refine j_aload0 (q := 1) dX8_count_0 rfl ?_
  refine j_iconst (q := 2) dX8_count_1 rfl ?_
  refine j_nputI (by decide) 12 (j' := 12) (q := 5) dX8_count_2 rfl fw_X8_38 sh_197 rfl rfl ?_
  refine j_mem (m' := sz (th0 m) z) rfl ?_
  have e10 : th0 m 197 10 = m 197 10 := up_ne (by omega)
  have e11 : th0 m 197 11 = m 197 11 := up_ne (by omega)
  refine j_iload1 (q := 6) dX8_count_5 rfl ?_
  refine j_iconst (q := 7) dX8_count_6 rfl ?_
  refine j_bipush (q := 9) dX8_count_7 rfl rfl ?_
  refine j_callS3 (Mc := iX8_within) (q := 12) (c' := 0) (s' := 0) dX8_count_9 rfl kS_X8_within jw_1035 ⟨by decide, by decide⟩ rfl (Nat.le_refl _) (Nat.le_refl _) (ct_X8_within E (by omega) (by omega) (by omega)) ?_
  refine j_ifeq_b (tgt := 23) (q := 15) dX8_count_12 (by decide) rfl (fun h12 => ?_) (fun h12 => ?_)
  · refine j_aload0 (q := 24) dX8_count_23 rfl ?_
    refine j_iconst (q := 25) dX8_count_24 rfl ?_
    refine j_callV1 (Mc := iX8_fails) (q := 28) (c' := 0) (s' := 0) dX8_count_25 rfl kV_X8_fails jw_1038 ⟨by decide, by decide⟩ sh_197 rfl rfl rfl (Nat.le_refl _) (Nat.le_refl _) (ct_X8_fails E) ?_
    exact j_ireturn dX8_count_28 rfl (rfl) (by rw [th0, up_up])
  · exfalso
    first | omega | (simp only [wi, decide_eq_true_eq, decide_eq_false_iff_not] at *; omega) | (simp_all [wi]; done) | (simp_all [wi]; omega)
theorem ct_X8_setting_ok {G : GX} (E : EV G) {m : Mem} {z : Z} {K : Int} {s : Int} (r_s : -2147483648 ≤ s ∧ s < 2147483648) (h1 : 0 ≤ s ∧ s < 8) : CT G SHP iX8_setting 0 0 [.inr (.ref 197), .inl s] (sz m z) (some (.inl (z (15 + s)))) (sz (th0 m) z) := by
  refine j_met (L0 := [some (.inr (.ref 197)), some (.inl s)]) (by decide) E.1 E.2 rfl (Nat.le_of_ble_eq_true rfl) ?_
  refine j_aload0 (q := 1) dX8_setting_0 rfl ?_
  refine j_iconst (q := 2) dX8_setting_1 rfl ?_
  refine j_nputI (by decide) 12 (j' := 12) (q := 5) dX8_setting_2 rfl fw_X8_38 sh_197 rfl rfl ?_
  refine j_mem (m' := sz (th0 m) z) rfl ?_
  have e10 : th0 m 197 10 = m 197 10 := up_ne (by omega)
  have e11 : th0 m 197 11 = m 197 11 := up_ne (by omega)
  refine j_iload1 (q := 6) dX8_setting_5 rfl ?_
  refine j_iconst (q := 7) dX8_setting_6 rfl ?_
  refine j_bipush (q := 9) dX8_setting_7 rfl rfl ?_
  refine j_callS3 (Mc := iX8_within) (q := 12) (c' := 0) (s' := 0) dX8_setting_9 rfl kS_X8_within jw_1035 ⟨by decide, by decide⟩ rfl (Nat.le_refl _) (Nat.le_refl _) (ct_X8_within E (by omega) (by omega) (by omega)) ?_
  refine j_ifeq_b (tgt := 23) (q := 15) dX8_setting_12 (by decide) rfl (fun h12 => ?_) (fun h12 => ?_)
  · exfalso
    first | omega | (simp only [wi, decide_eq_true_eq, decide_eq_false_iff_not] at *; omega) | (simp_all [wi]; done) | (simp_all [wi]; omega)
  · refine j_aload0 (q := 16) dX8_setting_15 rfl ?_
    refine j_iload1 (q := 17) dX8_setting_16 rfl ?_
    refine j_callV1 (Mc := iX8_rule) (q := 20) (c' := 0) (s' := 0) dX8_setting_17 rfl kV_X8_rule jw_1057 ⟨by decide, by decide⟩ sh_197 rfl rfl rfl (Nat.le_refl _) (Nat.le_refl _) (ct_X8_rule E (by omega)) ?_
    refine j_goto (tgt := 28) dX8_setting_20 (by decide) ?_
    exact j_ireturn dX8_setting_28 rfl (rfl) (rfl)
theorem ct_X8_setting_e1 {G : GX} (E : EV G) {m : Mem} {z : Z} {K : Int} {s : Int} (r_s : -2147483648 ≤ s ∧ s < 2147483648) (h1 : ¬ (0 ≤ s ∧ s < 8)) : CT G SHP iX8_setting 0 0 [.inr (.ref 197), .inl s] (sz m z) (some (.inl 0)) (sz (up m 197 12 1) z) := by
  refine j_met (L0 := [some (.inr (.ref 197)), some (.inl s)]) (by decide) E.1 E.2 rfl (Nat.le_of_ble_eq_true rfl) ?_
  refine j_aload0 (q := 1) dX8_setting_0 rfl ?_
  refine j_iconst (q := 2) dX8_setting_1 rfl ?_
  refine j_nputI (by decide) 12 (j' := 12) (q := 5) dX8_setting_2 rfl fw_X8_38 sh_197 rfl rfl ?_
  refine j_mem (m' := sz (th0 m) z) rfl ?_
  have e10 : th0 m 197 10 = m 197 10 := up_ne (by omega)
  have e11 : th0 m 197 11 = m 197 11 := up_ne (by omega)
  refine j_iload1 (q := 6) dX8_setting_5 rfl ?_
  refine j_iconst (q := 7) dX8_setting_6 rfl ?_
  refine j_bipush (q := 9) dX8_setting_7 rfl rfl ?_
  refine j_callS3 (Mc := iX8_within) (q := 12) (c' := 0) (s' := 0) dX8_setting_9 rfl kS_X8_within jw_1035 ⟨by decide, by decide⟩ rfl (Nat.le_refl _) (Nat.le_refl _) (ct_X8_within E (by omega) (by omega) (by omega)) ?_
  refine j_ifeq_b (tgt := 23) (q := 15) dX8_setting_12 (by decide) rfl (fun h12 => ?_) (fun h12 => ?_)
  · refine j_aload0 (q := 24) dX8_setting_23 rfl ?_
    refine j_iconst (q := 25) dX8_setting_24 rfl ?_
    refine j_callV1 (Mc := iX8_fails) (q := 28) (c' := 0) (s' := 0) dX8_setting_25 rfl kV_X8_fails jw_1038 ⟨by decide, by decide⟩ sh_197 rfl rfl rfl (Nat.le_refl _) (Nat.le_refl _) (ct_X8_fails E) ?_
    exact j_ireturn dX8_setting_28 rfl (rfl) (by rw [th0, up_up])
  · exfalso
    first | omega | (simp only [wi, decide_eq_true_eq, decide_eq_false_iff_not] at *; omega) | (simp_all [wi]; done) | (simp_all [wi]; omega)
theorem ct_X8_premium_ok {G : GX} (E : EV G) {m : Mem} {z : Z} {K : Int} {c : Int} {i : Int} {k : Int} (r_c : -2147483648 ≤ c ∧ c < 2147483648) (r_i : -2147483648 ≤ i ∧ i < 2147483648) (r_k : -2147483648 ≤ k ∧ k < 2147483648) (h3 : 0 ≤ z 3 ∧ z 3 ≤ 3) (hc : 0 ≤ c ∧ c < 64) (hi : 0 ≤ i ∧ i < z 3) (hk : 1 ≤ k ∧ k ≤ 200) : CT G SHP iX8_premium 0 0 [.inr (.ref 197), .inl c, .inl i, .inl k] (sz m z) (some (.inl (zPrem z c i k (z 1)))) (sz (th0 m) z) := by
  refine j_met (L0 := [some (.inr (.ref 197)), some (.inl c), some (.inl i), some (.inl k)]) (by decide) E.1 E.2 rfl (Nat.le_of_ble_eq_true rfl) ?_
  refine j_aload0 (q := 1) dX8_premium_0 rfl ?_
  refine j_iconst (q := 2) dX8_premium_1 rfl ?_
  refine j_nputI (by decide) 12 (j' := 12) (q := 5) dX8_premium_2 rfl fw_X8_38 sh_197 rfl rfl ?_
  refine j_mem (m' := sz (th0 m) z) rfl ?_
  have e10 : th0 m 197 10 = m 197 10 := up_ne (by omega)
  have e11 : th0 m 197 11 = m 197 11 := up_ne (by omega)
  refine j_iload1 (q := 6) dX8_premium_5 rfl ?_
  refine j_callS1 (Mc := iX8_isCore) (q := 9) (c' := 0) (s' := 0) dX8_premium_6 rfl kS_X8_isCore jw_1065 ⟨by decide, by decide⟩ rfl (Nat.le_refl _) (Nat.le_refl _) (ct_X8_isCore E (by omega)) ?_
  refine j_ifeq_b (tgt := 20) (q := 12) dX8_premium_9 (by decide) rfl (fun h9 => ?_) (fun h9 => ?_)
  · exfalso
    first | omega | (simp only [wi, decide_eq_true_eq, decide_eq_false_iff_not] at *; omega) | (simp_all [wi]; done) | (simp_all [wi]; omega)
  · refine j_aload0 (q := 13) dX8_premium_12 rfl ?_
    refine j_iload2 (q := 14) dX8_premium_13 rfl ?_
    refine j_callV1 (Mc := iX8_isInsurer) (q := 17) (c' := 0) (s' := 0) dX8_premium_14 rfl kV_X8_isInsurer jw_1091 ⟨by decide, by decide⟩ sh_197 rfl rfl rfl (Nat.le_refl _) (Nat.le_refl _) (ct_X8_isInsurer E (by omega) (by omega)) ?_
    refine j_ifne_b (tgt := 26) (q := 20) dX8_premium_17 (by decide) rfl (fun h17 => ?_) (fun h17 => ?_)
    · refine j_iload3 (q := 27) dX8_premium_26 rfl ?_
      refine j_callS1 (Mc := iX8_areTicks) (q := 30) (c' := 0) (s' := 0) dX8_premium_27 rfl kS_X8_areTicks jw_1072 ⟨by decide, by decide⟩ rfl (Nat.le_refl _) (Nat.le_refl _) (ct_X8_areTicks E (by omega)) ?_
      refine j_ifeq_b (tgt := 43) (q := 33) dX8_premium_30 (by decide) rfl (fun h30 => ?_) (fun h30 => ?_)
      · exfalso
        first | omega | (simp only [wi, decide_eq_true_eq, decide_eq_false_iff_not] at *; omega) | (simp_all [wi]; done) | (simp_all [wi]; omega)
      · refine j_aload0 (q := 34) dX8_premium_33 rfl ?_
        refine j_iload1 (q := 35) dX8_premium_34 rfl ?_
        refine j_iload2 (q := 36) dX8_premium_35 rfl ?_
        refine j_iload3 (q := 37) dX8_premium_36 rfl ?_
        refine j_callV3 (Mc := iX8_premiumNow) (q := 40) (c' := 0) (s' := 0) dX8_premium_37 rfl kV_X8_premiumNow jw_1095 ⟨by decide, by decide⟩ sh_197 rfl rfl rfl (Nat.le_refl _) (Nat.le_refl _) (ct_X8_premiumNow E (by omega) (by omega)) ?_
        refine j_goto (tgt := 48) dX8_premium_40 (by decide) ?_
        exact j_ireturn dX8_premium_48 rfl (rfl) (rfl)
    · exfalso
      first | omega | (simp only [wi, decide_eq_true_eq, decide_eq_false_iff_not] at *; omega) | (simp_all [wi]; done) | (simp_all [wi]; omega)
theorem ct_X8_premium_e1 {G : GX} (E : EV G) {m : Mem} {z : Z} {K : Int} {c : Int} {i : Int} {k : Int} (r_c : -2147483648 ≤ c ∧ c < 2147483648) (r_i : -2147483648 ≤ i ∧ i < 2147483648) (r_k : -2147483648 ≤ k ∧ k < 2147483648) (h3 : 0 ≤ z 3 ∧ z 3 ≤ 3) (hx : ¬ ((0 ≤ c ∧ c < 64) ∧ 0 ≤ i ∧ i < z 3)) : CT G SHP iX8_premium 0 0 [.inr (.ref 197), .inl c, .inl i, .inl k] (sz m z) (some (.inl 0)) (sz (up m 197 12 1) z) := by
  refine j_met (L0 := [some (.inr (.ref 197)), some (.inl c), some (.inl i), some (.inl k)]) (by decide) E.1 E.2 rfl (Nat.le_of_ble_eq_true rfl) ?_
  refine j_aload0 (q := 1) dX8_premium_0 rfl ?_
  refine j_iconst (q := 2) dX8_premium_1 rfl ?_
  refine j_nputI (by decide) 12 (j' := 12) (q := 5) dX8_premium_2 rfl fw_X8_38 sh_197 rfl rfl ?_
  refine j_mem (m' := sz (th0 m) z) rfl ?_
  have e10 : th0 m 197 10 = m 197 10 := up_ne (by omega)
  have e11 : th0 m 197 11 = m 197 11 := up_ne (by omega)
  refine j_iload1 (q := 6) dX8_premium_5 rfl ?_
  refine j_callS1 (Mc := iX8_isCore) (q := 9) (c' := 0) (s' := 0) dX8_premium_6 rfl kS_X8_isCore jw_1065 ⟨by decide, by decide⟩ rfl (Nat.le_refl _) (Nat.le_refl _) (ct_X8_isCore E (by omega)) ?_
  refine j_ifeq_b (tgt := 20) (q := 12) dX8_premium_9 (by decide) rfl (fun h9 => ?_) (fun h9 => ?_)
  · refine j_aload0 (q := 21) dX8_premium_20 rfl ?_
    refine j_iconst (q := 22) dX8_premium_21 rfl ?_
    refine j_callV1 (Mc := iX8_fails) (q := 25) (c' := 0) (s' := 0) dX8_premium_22 rfl kV_X8_fails jw_1038 ⟨by decide, by decide⟩ sh_197 rfl rfl rfl (Nat.le_refl _) (Nat.le_refl _) (ct_X8_fails E) ?_
    exact j_ireturn dX8_premium_25 rfl (rfl) (by rw [th0, up_up])
  · refine j_aload0 (q := 13) dX8_premium_12 rfl ?_
    refine j_iload2 (q := 14) dX8_premium_13 rfl ?_
    refine j_callV1 (Mc := iX8_isInsurer) (q := 17) (c' := 0) (s' := 0) dX8_premium_14 rfl kV_X8_isInsurer jw_1091 ⟨by decide, by decide⟩ sh_197 rfl rfl rfl (Nat.le_refl _) (Nat.le_refl _) (ct_X8_isInsurer E (by omega) (by omega)) ?_
    refine j_ifne_b (tgt := 26) (q := 20) dX8_premium_17 (by decide) rfl (fun h17 => ?_) (fun h17 => ?_)
    · exfalso
      first | omega | (simp only [wi, decide_eq_true_eq, decide_eq_false_iff_not] at *; omega) | (simp_all [wi]; done) | (simp_all [wi]; omega)
    · refine j_aload0 (q := 21) dX8_premium_20 rfl ?_
      refine j_iconst (q := 22) dX8_premium_21 rfl ?_
      refine j_callV1 (Mc := iX8_fails) (q := 25) (c' := 0) (s' := 0) dX8_premium_22 rfl kV_X8_fails jw_1038 ⟨by decide, by decide⟩ sh_197 rfl rfl rfl (Nat.le_refl _) (Nat.le_refl _) (ct_X8_fails E) ?_
      exact j_ireturn dX8_premium_25 rfl (rfl) (by rw [th0, up_up])
theorem ct_X8_premium_e2 {G : GX} (E : EV G) {m : Mem} {z : Z} {K : Int} {c : Int} {i : Int} {k : Int} (r_c : -2147483648 ≤ c ∧ c < 2147483648) (r_i : -2147483648 ≤ i ∧ i < 2147483648) (r_k : -2147483648 ≤ k ∧ k < 2147483648) (h3 : 0 ≤ z 3 ∧ z 3 ≤ 3) (hc : 0 ≤ c ∧ c < 64) (hi : 0 ≤ i ∧ i < z 3) (hk : ¬ (1 ≤ k ∧ k ≤ 200)) : CT G SHP iX8_premium 0 0 [.inr (.ref 197), .inl c, .inl i, .inl k] (sz m z) (some (.inl 0)) (sz (up m 197 12 2) z) := by
  refine j_met (L0 := [some (.inr (.ref 197)), some (.inl c), some (.inl i), some (.inl k)]) (by decide) E.1 E.2 rfl (Nat.le_of_ble_eq_true rfl) ?_
  refine j_aload0 (q := 1) dX8_premium_0 rfl ?_
  refine j_iconst (q := 2) dX8_premium_1 rfl ?_
  refine j_nputI (by decide) 12 (j' := 12) (q := 5) dX8_premium_2 rfl fw_X8_38 sh_197 rfl rfl ?_
  refine j_mem (m' := sz (th0 m) z) rfl ?_
  have e10 : th0 m 197 10 = m 197 10 := up_ne (by omega)
  have e11 : th0 m 197 11 = m 197 11 := up_ne (by omega)
  refine j_iload1 (q := 6) dX8_premium_5 rfl ?_
  refine j_callS1 (Mc := iX8_isCore) (q := 9) (c' := 0) (s' := 0) dX8_premium_6 rfl kS_X8_isCore jw_1065 ⟨by decide, by decide⟩ rfl (Nat.le_refl _) (Nat.le_refl _) (ct_X8_isCore E (by omega)) ?_
  refine j_ifeq_b (tgt := 20) (q := 12) dX8_premium_9 (by decide) rfl (fun h9 => ?_) (fun h9 => ?_)
  · exfalso
    first | omega | (simp only [wi, decide_eq_true_eq, decide_eq_false_iff_not] at *; omega) | (simp_all [wi]; done) | (simp_all [wi]; omega)
  · refine j_aload0 (q := 13) dX8_premium_12 rfl ?_
    refine j_iload2 (q := 14) dX8_premium_13 rfl ?_
    refine j_callV1 (Mc := iX8_isInsurer) (q := 17) (c' := 0) (s' := 0) dX8_premium_14 rfl kV_X8_isInsurer jw_1091 ⟨by decide, by decide⟩ sh_197 rfl rfl rfl (Nat.le_refl _) (Nat.le_refl _) (ct_X8_isInsurer E (by omega) (by omega)) ?_
    refine j_ifne_b (tgt := 26) (q := 20) dX8_premium_17 (by decide) rfl (fun h17 => ?_) (fun h17 => ?_)
    · refine j_iload3 (q := 27) dX8_premium_26 rfl ?_
      refine j_callS1 (Mc := iX8_areTicks) (q := 30) (c' := 0) (s' := 0) dX8_premium_27 rfl kS_X8_areTicks jw_1072 ⟨by decide, by decide⟩ rfl (Nat.le_refl _) (Nat.le_refl _) (ct_X8_areTicks E (by omega)) ?_
      refine j_ifeq_b (tgt := 43) (q := 33) dX8_premium_30 (by decide) rfl (fun h30 => ?_) (fun h30 => ?_)
      · refine j_aload0 (q := 44) dX8_premium_43 rfl ?_
        refine j_iconst (q := 45) dX8_premium_44 rfl ?_
        refine j_callV1 (Mc := iX8_fails) (q := 48) (c' := 0) (s' := 0) dX8_premium_45 rfl kV_X8_fails jw_1038 ⟨by decide, by decide⟩ sh_197 rfl rfl rfl (Nat.le_refl _) (Nat.le_refl _) (ct_X8_fails E) ?_
        exact j_ireturn dX8_premium_48 rfl (rfl) (by rw [th0, up_up])
      · exfalso
        first | omega | (simp only [wi, decide_eq_true_eq, decide_eq_false_iff_not] at *; omega) | (simp_all [wi]; done) | (simp_all [wi]; omega)
    · exfalso
      first | omega | (simp only [wi, decide_eq_true_eq, decide_eq_false_iff_not] at *; omega) | (simp_all [wi]; done) | (simp_all [wi]; omega)
theorem ct_X8_cheapest_ok {G : GX} (E : EV G) {m : Mem} {z : Z} {K : Int} {c : Int} {v : Int} {k : Int} (r_c : -2147483648 ≤ c ∧ c < 2147483648) (r_v : -2147483648 ≤ v ∧ v < 2147483648) (r_k : -2147483648 ≤ k ∧ k < 2147483648) (h3 : 0 ≤ z 3 ∧ z 3 ≤ 3) (hc : 0 ≤ c ∧ c < 64) (hv : 1 ≤ v ∧ v ≤ 500) (hk : 1 ≤ k ∧ k ≤ 200) : CT G SHP iX8_cheapest 0 0 [.inr (.ref 197), .inl c, .inl v, .inl k] (sz m z) (some (.inl (zCh z c v k))) (sz (th0 m) z) := by
  refine j_met (L0 := [some (.inr (.ref 197)), some (.inl c), some (.inl v), some (.inl k)]) (by decide) E.1 E.2 rfl (Nat.le_of_ble_eq_true rfl) ?_
  refine j_aload0 (q := 1) dX8_cheapest_0 rfl ?_
  refine j_iconst (q := 2) dX8_cheapest_1 rfl ?_
  refine j_nputI (by decide) 12 (j' := 12) (q := 5) dX8_cheapest_2 rfl fw_X8_38 sh_197 rfl rfl ?_
  refine j_mem (m' := sz (th0 m) z) rfl ?_
  have e10 : th0 m 197 10 = m 197 10 := up_ne (by omega)
  have e11 : th0 m 197 11 = m 197 11 := up_ne (by omega)
  refine j_iload1 (q := 6) dX8_cheapest_5 rfl ?_
  refine j_callS1 (Mc := iX8_isCore) (q := 9) (c' := 0) (s' := 0) dX8_cheapest_6 rfl kS_X8_isCore jw_1065 ⟨by decide, by decide⟩ rfl (Nat.le_refl _) (Nat.le_refl _) (ct_X8_isCore E (by omega)) ?_
  refine j_ifne_b (tgt := 18) (q := 12) dX8_cheapest_9 (by decide) rfl (fun h9 => ?_) (fun h9 => ?_)
  · refine j_iload2 (q := 19) dX8_cheapest_18 rfl ?_
    refine j_iconst (q := 20) dX8_cheapest_19 rfl ?_
    refine j_sipush (q := 23) dX8_cheapest_20 rfl rfl ?_
    refine j_callS3 (Mc := iX8_within) (q := 26) (c' := 0) (s' := 0) dX8_cheapest_23 rfl kS_X8_within jw_1035 ⟨by decide, by decide⟩ rfl (Nat.le_refl _) (Nat.le_refl _) (ct_X8_within E (by omega) (by omega) (by omega)) ?_
    refine j_ifeq_b (tgt := 46) (q := 29) dX8_cheapest_26 (by decide) rfl (fun h26 => ?_) (fun h26 => ?_)
    · exfalso
      first | omega | (simp only [wi, decide_eq_true_eq, decide_eq_false_iff_not] at *; omega) | (simp_all [wi]; done) | (simp_all [wi]; omega)
    · refine j_iload3 (q := 30) dX8_cheapest_29 rfl ?_
      refine j_callS1 (Mc := iX8_areTicks) (q := 33) (c' := 0) (s' := 0) dX8_cheapest_30 rfl kS_X8_areTicks jw_1072 ⟨by decide, by decide⟩ rfl (Nat.le_refl _) (Nat.le_refl _) (ct_X8_areTicks E (by omega)) ?_
      refine j_ifeq_b (tgt := 46) (q := 36) dX8_cheapest_33 (by decide) rfl (fun h33 => ?_) (fun h33 => ?_)
      · exfalso
        first | omega | (simp only [wi, decide_eq_true_eq, decide_eq_false_iff_not] at *; omega) | (simp_all [wi]; done) | (simp_all [wi]; omega)
      · refine j_aload0 (q := 37) dX8_cheapest_36 rfl ?_
        refine j_iload1 (q := 38) dX8_cheapest_37 rfl ?_
        refine j_iload2 (q := 39) dX8_cheapest_38 rfl ?_
        refine j_iload3 (q := 40) dX8_cheapest_39 rfl ?_
        refine j_callV3 (Mc := iX8_cheapestNow) (q := 43) (c' := 0) (s' := 0) dX8_cheapest_40 rfl kV_X8_cheapestNow jw_1324 ⟨by decide, by decide⟩ sh_197 rfl rfl rfl (Nat.le_refl _) (Nat.le_refl _) (ct_X8_cheapestNow E (by omega) (by omega) (by omega)) ?_
        refine j_goto (tgt := 51) dX8_cheapest_43 (by decide) ?_
        exact j_ireturn dX8_cheapest_51 rfl (rfl) (rfl)
  · exfalso
    first | omega | (simp only [wi, decide_eq_true_eq, decide_eq_false_iff_not] at *; omega) | (simp_all [wi]; done) | (simp_all [wi]; omega)
theorem ct_X8_cheapest_e1 {G : GX} (E : EV G) {m : Mem} {z : Z} {K : Int} {c : Int} {v : Int} {k : Int} (r_c : -2147483648 ≤ c ∧ c < 2147483648) (r_v : -2147483648 ≤ v ∧ v < 2147483648) (r_k : -2147483648 ≤ k ∧ k < 2147483648) (h3 : 0 ≤ z 3 ∧ z 3 ≤ 3) (hx : ¬ (0 ≤ c ∧ c < 64)) : CT G SHP iX8_cheapest 0 0 [.inr (.ref 197), .inl c, .inl v, .inl k] (sz m z) (some (.inl 0)) (sz (up m 197 12 1) z) := by
  refine j_met (L0 := [some (.inr (.ref 197)), some (.inl c), some (.inl v), some (.inl k)]) (by decide) E.1 E.2 rfl (Nat.le_of_ble_eq_true rfl) ?_
  refine j_aload0 (q := 1) dX8_cheapest_0 rfl ?_
  refine j_iconst (q := 2) dX8_cheapest_1 rfl ?_
  refine j_nputI (by decide) 12 (j' := 12) (q := 5) dX8_cheapest_2 rfl fw_X8_38 sh_197 rfl rfl ?_
  refine j_mem (m' := sz (th0 m) z) rfl ?_
  have e10 : th0 m 197 10 = m 197 10 := up_ne (by omega)
  have e11 : th0 m 197 11 = m 197 11 := up_ne (by omega)
  refine j_iload1 (q := 6) dX8_cheapest_5 rfl ?_
  refine j_callS1 (Mc := iX8_isCore) (q := 9) (c' := 0) (s' := 0) dX8_cheapest_6 rfl kS_X8_isCore jw_1065 ⟨by decide, by decide⟩ rfl (Nat.le_refl _) (Nat.le_refl _) (ct_X8_isCore E (by omega)) ?_
  refine j_ifne_b (tgt := 18) (q := 12) dX8_cheapest_9 (by decide) rfl (fun h9 => ?_) (fun h9 => ?_)
  · exfalso
    first | omega | (simp only [wi, decide_eq_true_eq, decide_eq_false_iff_not] at *; omega) | (simp_all [wi]; done) | (simp_all [wi]; omega)
  · refine j_aload0 (q := 13) dX8_cheapest_12 rfl ?_
    refine j_iconst (q := 14) dX8_cheapest_13 rfl ?_
    refine j_callV1 (Mc := iX8_fails) (q := 17) (c' := 0) (s' := 0) dX8_cheapest_14 rfl kV_X8_fails jw_1038 ⟨by decide, by decide⟩ sh_197 rfl rfl rfl (Nat.le_refl _) (Nat.le_refl _) (ct_X8_fails E) ?_
    exact j_ireturn dX8_cheapest_17 rfl (rfl) (by rw [th0, up_up])
theorem ct_X8_cheapest_e2 {G : GX} (E : EV G) {m : Mem} {z : Z} {K : Int} {c : Int} {v : Int} {k : Int} (r_c : -2147483648 ≤ c ∧ c < 2147483648) (r_v : -2147483648 ≤ v ∧ v < 2147483648) (r_k : -2147483648 ≤ k ∧ k < 2147483648) (h3 : 0 ≤ z 3 ∧ z 3 ≤ 3) (hc : 0 ≤ c ∧ c < 64) (hv : ¬ ((1 ≤ v ∧ v ≤ 500) ∧ 1 ≤ k ∧ k ≤ 200)) : CT G SHP iX8_cheapest 0 0 [.inr (.ref 197), .inl c, .inl v, .inl k] (sz m z) (some (.inl 0)) (sz (up m 197 12 2) z) := by
  refine j_met (L0 := [some (.inr (.ref 197)), some (.inl c), some (.inl v), some (.inl k)]) (by decide) E.1 E.2 rfl (Nat.le_of_ble_eq_true rfl) ?_
  refine j_aload0 (q := 1) dX8_cheapest_0 rfl ?_
  refine j_iconst (q := 2) dX8_cheapest_1 rfl ?_
  refine j_nputI (by decide) 12 (j' := 12) (q := 5) dX8_cheapest_2 rfl fw_X8_38 sh_197 rfl rfl ?_
  refine j_mem (m' := sz (th0 m) z) rfl ?_
  have e10 : th0 m 197 10 = m 197 10 := up_ne (by omega)
  have e11 : th0 m 197 11 = m 197 11 := up_ne (by omega)
  refine j_iload1 (q := 6) dX8_cheapest_5 rfl ?_
  refine j_callS1 (Mc := iX8_isCore) (q := 9) (c' := 0) (s' := 0) dX8_cheapest_6 rfl kS_X8_isCore jw_1065 ⟨by decide, by decide⟩ rfl (Nat.le_refl _) (Nat.le_refl _) (ct_X8_isCore E (by omega)) ?_
  refine j_ifne_b (tgt := 18) (q := 12) dX8_cheapest_9 (by decide) rfl (fun h9 => ?_) (fun h9 => ?_)
  · refine j_iload2 (q := 19) dX8_cheapest_18 rfl ?_
    refine j_iconst (q := 20) dX8_cheapest_19 rfl ?_
    refine j_sipush (q := 23) dX8_cheapest_20 rfl rfl ?_
    refine j_callS3 (Mc := iX8_within) (q := 26) (c' := 0) (s' := 0) dX8_cheapest_23 rfl kS_X8_within jw_1035 ⟨by decide, by decide⟩ rfl (Nat.le_refl _) (Nat.le_refl _) (ct_X8_within E (by omega) (by omega) (by omega)) ?_
    refine j_ifeq_b (tgt := 46) (q := 29) dX8_cheapest_26 (by decide) rfl (fun h26 => ?_) (fun h26 => ?_)
    · refine j_aload0 (q := 47) dX8_cheapest_46 rfl ?_
      refine j_iconst (q := 48) dX8_cheapest_47 rfl ?_
      refine j_callV1 (Mc := iX8_fails) (q := 51) (c' := 0) (s' := 0) dX8_cheapest_48 rfl kV_X8_fails jw_1038 ⟨by decide, by decide⟩ sh_197 rfl rfl rfl (Nat.le_refl _) (Nat.le_refl _) (ct_X8_fails E) ?_
      exact j_ireturn dX8_cheapest_51 rfl (rfl) (by rw [th0, up_up])
    · refine j_iload3 (q := 30) dX8_cheapest_29 rfl ?_
      refine j_callS1 (Mc := iX8_areTicks) (q := 33) (c' := 0) (s' := 0) dX8_cheapest_30 rfl kS_X8_areTicks jw_1072 ⟨by decide, by decide⟩ rfl (Nat.le_refl _) (Nat.le_refl _) (ct_X8_areTicks E (by omega)) ?_
      refine j_ifeq_b (tgt := 46) (q := 36) dX8_cheapest_33 (by decide) rfl (fun h33 => ?_) (fun h33 => ?_)
      · refine j_aload0 (q := 47) dX8_cheapest_46 rfl ?_
        refine j_iconst (q := 48) dX8_cheapest_47 rfl ?_
        refine j_callV1 (Mc := iX8_fails) (q := 51) (c' := 0) (s' := 0) dX8_cheapest_48 rfl kV_X8_fails jw_1038 ⟨by decide, by decide⟩ sh_197 rfl rfl rfl (Nat.le_refl _) (Nat.le_refl _) (ct_X8_fails E) ?_
        exact j_ireturn dX8_cheapest_51 rfl (rfl) (by rw [th0, up_up])
      · exfalso
        first | omega | (simp only [wi, decide_eq_true_eq, decide_eq_false_iff_not] at *; omega) | (simp_all [wi]; done) | (simp_all [wi]; omega)
  · exfalso
    first | omega | (simp only [wi, decide_eq_true_eq, decide_eq_false_iff_not] at *; omega) | (simp_all [wi]; done) | (simp_all [wi]; omega)
theorem ct_X8_waitFor_ok {G : GX} (E : EV G) {m : Mem} {z : Z} {K : Int} {c : Int} {i : Int} {k : Int} {x : Int} (r_c : -2147483648 ≤ c ∧ c < 2147483648) (r_i : -2147483648 ≤ i ∧ i < 2147483648) (r_k : -2147483648 ≤ k ∧ k < 2147483648) (r_x : -2147483648 ≤ x ∧ x < 2147483648) (h3 : 0 ≤ z 3 ∧ z 3 ≤ 3) (hc : 0 ≤ c ∧ c < 64) (hi : 0 ≤ i ∧ i < z 3) (hk : 1 ≤ k ∧ k ≤ 200) (hx : 1 ≤ x ∧ x ≤ 10000) : CT G SHP iX8_waitFor 0 0 [.inr (.ref 197), .inl c, .inl i, .inl k, .inl x] (sz m z) (some (.inl (zWt z c i k x))) (sz (th0 m) z) := by
  refine j_met (L0 := [some (.inr (.ref 197)), some (.inl c), some (.inl i), some (.inl k), some (.inl x)]) (by decide) E.1 E.2 rfl (Nat.le_of_ble_eq_true rfl) ?_
  refine j_aload0 (q := 1) dX8_waitFor_0 rfl ?_
  refine j_iconst (q := 2) dX8_waitFor_1 rfl ?_
  refine j_nputI (by decide) 12 (j' := 12) (q := 5) dX8_waitFor_2 rfl fw_X8_38 sh_197 rfl rfl ?_
  refine j_mem (m' := sz (th0 m) z) rfl ?_
  have e10 : th0 m 197 10 = m 197 10 := up_ne (by omega)
  have e11 : th0 m 197 11 = m 197 11 := up_ne (by omega)
  refine j_iload1 (q := 6) dX8_waitFor_5 rfl ?_
  refine j_callS1 (Mc := iX8_isCore) (q := 9) (c' := 0) (s' := 0) dX8_waitFor_6 rfl kS_X8_isCore jw_1065 ⟨by decide, by decide⟩ rfl (Nat.le_refl _) (Nat.le_refl _) (ct_X8_isCore E (by omega)) ?_
  refine j_ifeq_b (tgt := 20) (q := 12) dX8_waitFor_9 (by decide) rfl (fun h9 => ?_) (fun h9 => ?_)
  · exfalso
    first | omega | (simp only [wi, decide_eq_true_eq, decide_eq_false_iff_not] at *; omega) | (simp_all [wi]; done) | (simp_all [wi]; omega)
  · refine j_aload0 (q := 13) dX8_waitFor_12 rfl ?_
    refine j_iload2 (q := 14) dX8_waitFor_13 rfl ?_
    refine j_callV1 (Mc := iX8_isInsurer) (q := 17) (c' := 0) (s' := 0) dX8_waitFor_14 rfl kV_X8_isInsurer jw_1091 ⟨by decide, by decide⟩ sh_197 rfl rfl rfl (Nat.le_refl _) (Nat.le_refl _) (ct_X8_isInsurer E (by omega) (by omega)) ?_
    refine j_ifne_b (tgt := 26) (q := 20) dX8_waitFor_17 (by decide) rfl (fun h17 => ?_) (fun h17 => ?_)
    · refine j_iload3 (q := 27) dX8_waitFor_26 rfl ?_
      refine j_callS1 (Mc := iX8_areTicks) (q := 30) (c' := 0) (s' := 0) dX8_waitFor_27 rfl kS_X8_areTicks jw_1072 ⟨by decide, by decide⟩ rfl (Nat.le_refl _) (Nat.le_refl _) (ct_X8_areTicks E (by omega)) ?_
      refine j_ifeq_b (tgt := 57) (q := 33) dX8_waitFor_30 (by decide) rfl (fun h30 => ?_) (fun h30 => ?_)
      · exfalso
        first | omega | (simp only [wi, decide_eq_true_eq, decide_eq_false_iff_not] at *; omega) | (simp_all [wi]; done) | (simp_all [wi]; omega)
      · refine j_iload4 (q := 35) dX8_waitFor_33 rfl ?_
        refine j_iconst (q := 36) dX8_waitFor_35 rfl ?_
        refine j_sipush (q := 39) dX8_waitFor_36 rfl rfl ?_
        refine j_callS3 (Mc := iX8_within) (q := 42) (c' := 0) (s' := 0) dX8_waitFor_39 rfl kS_X8_within jw_1035 ⟨by decide, by decide⟩ rfl (Nat.le_refl _) (Nat.le_refl _) (ct_X8_within E (by omega) (by omega) (by omega)) ?_
        refine j_ifeq_b (tgt := 57) (q := 45) dX8_waitFor_42 (by decide) rfl (fun h42 => ?_) (fun h42 => ?_)
        · exfalso
          first | omega | (simp only [wi, decide_eq_true_eq, decide_eq_false_iff_not] at *; omega) | (simp_all [wi]; done) | (simp_all [wi]; omega)
        · refine j_aload0 (q := 46) dX8_waitFor_45 rfl ?_
          refine j_iload1 (q := 47) dX8_waitFor_46 rfl ?_
          refine j_iload2 (q := 48) dX8_waitFor_47 rfl ?_
          refine j_iload3 (q := 49) dX8_waitFor_48 rfl ?_
          refine j_iload4 (q := 51) dX8_waitFor_49 rfl ?_
          refine j_callV4 (Mc := iX8_waitNow) (q := 54) (c' := 0) (s' := 0) dX8_waitFor_51 rfl kV_X8_waitNow jw_1332 ⟨by decide, by decide⟩ sh_197 rfl rfl rfl (Nat.le_refl _) (Nat.le_refl _) (ct_X8_waitNow E (by omega) (by omega) (by omega)) ?_
          refine j_goto (tgt := 62) dX8_waitFor_54 (by decide) ?_
          exact j_ireturn dX8_waitFor_62 rfl (rfl) (rfl)
    · exfalso
      first | omega | (simp only [wi, decide_eq_true_eq, decide_eq_false_iff_not] at *; omega) | (simp_all [wi]; done) | (simp_all [wi]; omega)
theorem ct_X8_waitFor_e1 {G : GX} (E : EV G) {m : Mem} {z : Z} {K : Int} {c : Int} {i : Int} {k : Int} {x : Int} (r_c : -2147483648 ≤ c ∧ c < 2147483648) (r_i : -2147483648 ≤ i ∧ i < 2147483648) (r_k : -2147483648 ≤ k ∧ k < 2147483648) (r_x : -2147483648 ≤ x ∧ x < 2147483648) (h3 : 0 ≤ z 3 ∧ z 3 ≤ 3) (hq : ¬ ((0 ≤ c ∧ c < 64) ∧ 0 ≤ i ∧ i < z 3)) : CT G SHP iX8_waitFor 0 0 [.inr (.ref 197), .inl c, .inl i, .inl k, .inl x] (sz m z) (some (.inl 0)) (sz (up m 197 12 1) z) := by
  refine j_met (L0 := [some (.inr (.ref 197)), some (.inl c), some (.inl i), some (.inl k), some (.inl x)]) (by decide) E.1 E.2 rfl (Nat.le_of_ble_eq_true rfl) ?_
  refine j_aload0 (q := 1) dX8_waitFor_0 rfl ?_
  refine j_iconst (q := 2) dX8_waitFor_1 rfl ?_
  refine j_nputI (by decide) 12 (j' := 12) (q := 5) dX8_waitFor_2 rfl fw_X8_38 sh_197 rfl rfl ?_
  refine j_mem (m' := sz (th0 m) z) rfl ?_
  have e10 : th0 m 197 10 = m 197 10 := up_ne (by omega)
  have e11 : th0 m 197 11 = m 197 11 := up_ne (by omega)
  refine j_iload1 (q := 6) dX8_waitFor_5 rfl ?_
  refine j_callS1 (Mc := iX8_isCore) (q := 9) (c' := 0) (s' := 0) dX8_waitFor_6 rfl kS_X8_isCore jw_1065 ⟨by decide, by decide⟩ rfl (Nat.le_refl _) (Nat.le_refl _) (ct_X8_isCore E (by omega)) ?_
  refine j_ifeq_b (tgt := 20) (q := 12) dX8_waitFor_9 (by decide) rfl (fun h9 => ?_) (fun h9 => ?_)
  · refine j_aload0 (q := 21) dX8_waitFor_20 rfl ?_
    refine j_iconst (q := 22) dX8_waitFor_21 rfl ?_
    refine j_callV1 (Mc := iX8_fails) (q := 25) (c' := 0) (s' := 0) dX8_waitFor_22 rfl kV_X8_fails jw_1038 ⟨by decide, by decide⟩ sh_197 rfl rfl rfl (Nat.le_refl _) (Nat.le_refl _) (ct_X8_fails E) ?_
    exact j_ireturn dX8_waitFor_25 rfl (rfl) (by rw [th0, up_up])
  · refine j_aload0 (q := 13) dX8_waitFor_12 rfl ?_
    refine j_iload2 (q := 14) dX8_waitFor_13 rfl ?_
    refine j_callV1 (Mc := iX8_isInsurer) (q := 17) (c' := 0) (s' := 0) dX8_waitFor_14 rfl kV_X8_isInsurer jw_1091 ⟨by decide, by decide⟩ sh_197 rfl rfl rfl (Nat.le_refl _) (Nat.le_refl _) (ct_X8_isInsurer E (by omega) (by omega)) ?_
    refine j_ifne_b (tgt := 26) (q := 20) dX8_waitFor_17 (by decide) rfl (fun h17 => ?_) (fun h17 => ?_)
    · exfalso
      first | omega | (simp only [wi, decide_eq_true_eq, decide_eq_false_iff_not] at *; omega) | (simp_all [wi]; done) | (simp_all [wi]; omega)
    · refine j_aload0 (q := 21) dX8_waitFor_20 rfl ?_
      refine j_iconst (q := 22) dX8_waitFor_21 rfl ?_
      refine j_callV1 (Mc := iX8_fails) (q := 25) (c' := 0) (s' := 0) dX8_waitFor_22 rfl kV_X8_fails jw_1038 ⟨by decide, by decide⟩ sh_197 rfl rfl rfl (Nat.le_refl _) (Nat.le_refl _) (ct_X8_fails E) ?_
      exact j_ireturn dX8_waitFor_25 rfl (rfl) (by rw [th0, up_up])
theorem ct_X8_waitFor_e2 {G : GX} (E : EV G) {m : Mem} {z : Z} {K : Int} {c : Int} {i : Int} {k : Int} {x : Int} (r_c : -2147483648 ≤ c ∧ c < 2147483648) (r_i : -2147483648 ≤ i ∧ i < 2147483648) (r_k : -2147483648 ≤ k ∧ k < 2147483648) (r_x : -2147483648 ≤ x ∧ x < 2147483648) (h3 : 0 ≤ z 3 ∧ z 3 ≤ 3) (hc : 0 ≤ c ∧ c < 64) (hi : 0 ≤ i ∧ i < z 3) (hv : ¬ ((1 ≤ k ∧ k ≤ 200) ∧ 1 ≤ x ∧ x ≤ 10000)) : CT G SHP iX8_waitFor 0 0 [.inr (.ref 197), .inl c, .inl i, .inl k, .inl x] (sz m z) (some (.inl 0)) (sz (up m 197 12 2) z) := by
  refine j_met (L0 := [some (.inr (.ref 197)), some (.inl c), some (.inl i), some (.inl k), some (.inl x)]) (by decide) E.1 E.2 rfl (Nat.le_of_ble_eq_true rfl) ?_
  refine j_aload0 (q := 1) dX8_waitFor_0 rfl ?_
  refine j_iconst (q := 2) dX8_waitFor_1 rfl ?_
  refine j_nputI (by decide) 12 (j' := 12) (q := 5) dX8_waitFor_2 rfl fw_X8_38 sh_197 rfl rfl ?_
  refine j_mem (m' := sz (th0 m) z) rfl ?_
  have e10 : th0 m 197 10 = m 197 10 := up_ne (by omega)
  have e11 : th0 m 197 11 = m 197 11 := up_ne (by omega)
  refine j_iload1 (q := 6) dX8_waitFor_5 rfl ?_
  refine j_callS1 (Mc := iX8_isCore) (q := 9) (c' := 0) (s' := 0) dX8_waitFor_6 rfl kS_X8_isCore jw_1065 ⟨by decide, by decide⟩ rfl (Nat.le_refl _) (Nat.le_refl _) (ct_X8_isCore E (by omega)) ?_
  refine j_ifeq_b (tgt := 20) (q := 12) dX8_waitFor_9 (by decide) rfl (fun h9 => ?_) (fun h9 => ?_)
  · exfalso
    first | omega | (simp only [wi, decide_eq_true_eq, decide_eq_false_iff_not] at *; omega) | (simp_all [wi]; done) | (simp_all [wi]; omega)
  · refine j_aload0 (q := 13) dX8_waitFor_12 rfl ?_
    refine j_iload2 (q := 14) dX8_waitFor_13 rfl ?_
    refine j_callV1 (Mc := iX8_isInsurer) (q := 17) (c' := 0) (s' := 0) dX8_waitFor_14 rfl kV_X8_isInsurer jw_1091 ⟨by decide, by decide⟩ sh_197 rfl rfl rfl (Nat.le_refl _) (Nat.le_refl _) (ct_X8_isInsurer E (by omega) (by omega)) ?_
    refine j_ifne_b (tgt := 26) (q := 20) dX8_waitFor_17 (by decide) rfl (fun h17 => ?_) (fun h17 => ?_)
    · refine j_iload3 (q := 27) dX8_waitFor_26 rfl ?_
      refine j_callS1 (Mc := iX8_areTicks) (q := 30) (c' := 0) (s' := 0) dX8_waitFor_27 rfl kS_X8_areTicks jw_1072 ⟨by decide, by decide⟩ rfl (Nat.le_refl _) (Nat.le_refl _) (ct_X8_areTicks E (by omega)) ?_
      refine j_ifeq_b (tgt := 57) (q := 33) dX8_waitFor_30 (by decide) rfl (fun h30 => ?_) (fun h30 => ?_)
      · refine j_aload0 (q := 58) dX8_waitFor_57 rfl ?_
        refine j_iconst (q := 59) dX8_waitFor_58 rfl ?_
        refine j_callV1 (Mc := iX8_fails) (q := 62) (c' := 0) (s' := 0) dX8_waitFor_59 rfl kV_X8_fails jw_1038 ⟨by decide, by decide⟩ sh_197 rfl rfl rfl (Nat.le_refl _) (Nat.le_refl _) (ct_X8_fails E) ?_
        exact j_ireturn dX8_waitFor_62 rfl (rfl) (by rw [th0, up_up])
      · refine j_iload4 (q := 35) dX8_waitFor_33 rfl ?_
        refine j_iconst (q := 36) dX8_waitFor_35 rfl ?_
        refine j_sipush (q := 39) dX8_waitFor_36 rfl rfl ?_
        refine j_callS3 (Mc := iX8_within) (q := 42) (c' := 0) (s' := 0) dX8_waitFor_39 rfl kS_X8_within jw_1035 ⟨by decide, by decide⟩ rfl (Nat.le_refl _) (Nat.le_refl _) (ct_X8_within E (by omega) (by omega) (by omega)) ?_
        refine j_ifeq_b (tgt := 57) (q := 45) dX8_waitFor_42 (by decide) rfl (fun h42 => ?_) (fun h42 => ?_)
        · refine j_aload0 (q := 58) dX8_waitFor_57 rfl ?_
          refine j_iconst (q := 59) dX8_waitFor_58 rfl ?_
          refine j_callV1 (Mc := iX8_fails) (q := 62) (c' := 0) (s' := 0) dX8_waitFor_59 rfl kV_X8_fails jw_1038 ⟨by decide, by decide⟩ sh_197 rfl rfl rfl (Nat.le_refl _) (Nat.le_refl _) (ct_X8_fails E) ?_
          exact j_ireturn dX8_waitFor_62 rfl (rfl) (by rw [th0, up_up])
        · exfalso
          first | omega | (simp only [wi, decide_eq_true_eq, decide_eq_false_iff_not] at *; omega) | (simp_all [wi]; done) | (simp_all [wi]; omega)
    · exfalso
      first | omega | (simp only [wi, decide_eq_true_eq, decide_eq_false_iff_not] at *; omega) | (simp_all [wi]; done) | (simp_all [wi]; omega)
theorem ct_X8_ifRead_ok {G : GX} (E : EV G) {m : Mem} {z : Z} {K : Int} {c : Int} {w : Int} (r_c : -2147483648 ≤ c ∧ c < 2147483648) (r_w : -2147483648 ≤ w ∧ w < 2147483648) (hc : 0 ≤ c ∧ c < 64) (hw : 0 ≤ w ∧ w < 5) : CT G SHP iX8_ifRead 0 0 [.inr (.ref 197), .inl c, .inl w] (sz m z) (some (.inl (zRN z c w))) (sz (th0 m) z) := by
  refine j_met (L0 := [some (.inr (.ref 197)), some (.inl c), some (.inl w)]) (by decide) E.1 E.2 rfl (Nat.le_of_ble_eq_true rfl) ?_
  refine j_aload0 (q := 1) dX8_ifRead_0 rfl ?_
  refine j_iconst (q := 2) dX8_ifRead_1 rfl ?_
  refine j_nputI (by decide) 12 (j' := 12) (q := 5) dX8_ifRead_2 rfl fw_X8_38 sh_197 rfl rfl ?_
  refine j_mem (m' := sz (th0 m) z) rfl ?_
  have e10 : th0 m 197 10 = m 197 10 := up_ne (by omega)
  have e11 : th0 m 197 11 = m 197 11 := up_ne (by omega)
  refine j_iload1 (q := 6) dX8_ifRead_5 rfl ?_
  refine j_callS1 (Mc := iX8_isCore) (q := 9) (c' := 0) (s' := 0) dX8_ifRead_6 rfl kS_X8_isCore jw_1065 ⟨by decide, by decide⟩ rfl (Nat.le_refl _) (Nat.le_refl _) (ct_X8_isCore E (by omega)) ?_
  refine j_ifne_b (tgt := 18) (q := 12) dX8_ifRead_9 (by decide) rfl (fun h9 => ?_) (fun h9 => ?_)
  · refine j_iload2 (q := 19) dX8_ifRead_18 rfl ?_
    refine j_iconst (q := 20) dX8_ifRead_19 rfl ?_
    refine j_iconst (q := 21) dX8_ifRead_20 rfl ?_
    refine j_callS3 (Mc := iX8_within) (q := 24) (c' := 0) (s' := 0) dX8_ifRead_21 rfl kS_X8_within jw_1035 ⟨by decide, by decide⟩ rfl (Nat.le_refl _) (Nat.le_refl _) (ct_X8_within E (by omega) (by omega) (by omega)) ?_
    refine j_ifeq_b (tgt := 36) (q := 27) dX8_ifRead_24 (by decide) rfl (fun h24 => ?_) (fun h24 => ?_)
    · exfalso
      first | omega | (simp only [wi, decide_eq_true_eq, decide_eq_false_iff_not] at *; omega) | (simp_all [wi]; done) | (simp_all [wi]; omega)
    · refine j_aload0 (q := 28) dX8_ifRead_27 rfl ?_
      refine j_iload1 (q := 29) dX8_ifRead_28 rfl ?_
      refine j_iload2 (q := 30) dX8_ifRead_29 rfl ?_
      refine j_callV2 (Mc := iX8_readNow) (q := 33) (c' := 0) (s' := 0) dX8_ifRead_30 rfl kV_X8_readNow jw_1340 ⟨by decide, by decide⟩ sh_197 rfl rfl rfl (Nat.le_refl _) (Nat.le_refl _) (ct_X8_readNow E (by omega) (by omega)) ?_
      refine j_goto (tgt := 41) dX8_ifRead_33 (by decide) ?_
      exact j_ireturn dX8_ifRead_41 rfl (rfl) (rfl)
  · exfalso
    first | omega | (simp only [wi, decide_eq_true_eq, decide_eq_false_iff_not] at *; omega) | (simp_all [wi]; done) | (simp_all [wi]; omega)
theorem ct_X8_ifRead_e1 {G : GX} (E : EV G) {m : Mem} {z : Z} {K : Int} {c : Int} {w : Int} (r_c : -2147483648 ≤ c ∧ c < 2147483648) (r_w : -2147483648 ≤ w ∧ w < 2147483648) (hx : ¬ (0 ≤ c ∧ c < 64)) : CT G SHP iX8_ifRead 0 0 [.inr (.ref 197), .inl c, .inl w] (sz m z) (some (.inl 0)) (sz (up m 197 12 1) z) := by
  refine j_met (L0 := [some (.inr (.ref 197)), some (.inl c), some (.inl w)]) (by decide) E.1 E.2 rfl (Nat.le_of_ble_eq_true rfl) ?_
  refine j_aload0 (q := 1) dX8_ifRead_0 rfl ?_
  refine j_iconst (q := 2) dX8_ifRead_1 rfl ?_
  refine j_nputI (by decide) 12 (j' := 12) (q := 5) dX8_ifRead_2 rfl fw_X8_38 sh_197 rfl rfl ?_
  refine j_mem (m' := sz (th0 m) z) rfl ?_
  have e10 : th0 m 197 10 = m 197 10 := up_ne (by omega)
  have e11 : th0 m 197 11 = m 197 11 := up_ne (by omega)
  refine j_iload1 (q := 6) dX8_ifRead_5 rfl ?_
  refine j_callS1 (Mc := iX8_isCore) (q := 9) (c' := 0) (s' := 0) dX8_ifRead_6 rfl kS_X8_isCore jw_1065 ⟨by decide, by decide⟩ rfl (Nat.le_refl _) (Nat.le_refl _) (ct_X8_isCore E (by omega)) ?_
  refine j_ifne_b (tgt := 18) (q := 12) dX8_ifRead_9 (by decide) rfl (fun h9 => ?_) (fun h9 => ?_)
  · exfalso
    first | omega | (simp only [wi, decide_eq_true_eq, decide_eq_false_iff_not] at *; omega) | (simp_all [wi]; done) | (simp_all [wi]; omega)
  · refine j_aload0 (q := 13) dX8_ifRead_12 rfl ?_
    refine j_iconst (q := 14) dX8_ifRead_13 rfl ?_
    refine j_callV1 (Mc := iX8_fails) (q := 17) (c' := 0) (s' := 0) dX8_ifRead_14 rfl kV_X8_fails jw_1038 ⟨by decide, by decide⟩ sh_197 rfl rfl rfl (Nat.le_refl _) (Nat.le_refl _) (ct_X8_fails E) ?_
    exact j_ireturn dX8_ifRead_17 rfl (rfl) (by rw [th0, up_up])
theorem ct_X8_ifRead_e2 {G : GX} (E : EV G) {m : Mem} {z : Z} {K : Int} {c : Int} {w : Int} (r_c : -2147483648 ≤ c ∧ c < 2147483648) (r_w : -2147483648 ≤ w ∧ w < 2147483648) (hc : 0 ≤ c ∧ c < 64) (hw : ¬ (0 ≤ w ∧ w < 5)) : CT G SHP iX8_ifRead 0 0 [.inr (.ref 197), .inl c, .inl w] (sz m z) (some (.inl 0)) (sz (up m 197 12 2) z) := by
  refine j_met (L0 := [some (.inr (.ref 197)), some (.inl c), some (.inl w)]) (by decide) E.1 E.2 rfl (Nat.le_of_ble_eq_true rfl) ?_
  refine j_aload0 (q := 1) dX8_ifRead_0 rfl ?_
  refine j_iconst (q := 2) dX8_ifRead_1 rfl ?_
  refine j_nputI (by decide) 12 (j' := 12) (q := 5) dX8_ifRead_2 rfl fw_X8_38 sh_197 rfl rfl ?_
  refine j_mem (m' := sz (th0 m) z) rfl ?_
  have e10 : th0 m 197 10 = m 197 10 := up_ne (by omega)
  have e11 : th0 m 197 11 = m 197 11 := up_ne (by omega)
  refine j_iload1 (q := 6) dX8_ifRead_5 rfl ?_
  refine j_callS1 (Mc := iX8_isCore) (q := 9) (c' := 0) (s' := 0) dX8_ifRead_6 rfl kS_X8_isCore jw_1065 ⟨by decide, by decide⟩ rfl (Nat.le_refl _) (Nat.le_refl _) (ct_X8_isCore E (by omega)) ?_
  refine j_ifne_b (tgt := 18) (q := 12) dX8_ifRead_9 (by decide) rfl (fun h9 => ?_) (fun h9 => ?_)
  · refine j_iload2 (q := 19) dX8_ifRead_18 rfl ?_
    refine j_iconst (q := 20) dX8_ifRead_19 rfl ?_
    refine j_iconst (q := 21) dX8_ifRead_20 rfl ?_
    refine j_callS3 (Mc := iX8_within) (q := 24) (c' := 0) (s' := 0) dX8_ifRead_21 rfl kS_X8_within jw_1035 ⟨by decide, by decide⟩ rfl (Nat.le_refl _) (Nat.le_refl _) (ct_X8_within E (by omega) (by omega) (by omega)) ?_
    refine j_ifeq_b (tgt := 36) (q := 27) dX8_ifRead_24 (by decide) rfl (fun h24 => ?_) (fun h24 => ?_)
    · refine j_aload0 (q := 37) dX8_ifRead_36 rfl ?_
      refine j_iconst (q := 38) dX8_ifRead_37 rfl ?_
      refine j_callV1 (Mc := iX8_fails) (q := 41) (c' := 0) (s' := 0) dX8_ifRead_38 rfl kV_X8_fails jw_1038 ⟨by decide, by decide⟩ sh_197 rfl rfl rfl (Nat.le_refl _) (Nat.le_refl _) (ct_X8_fails E) ?_
      exact j_ireturn dX8_ifRead_41 rfl (rfl) (by rw [th0, up_up])
    · exfalso
      first | omega | (simp only [wi, decide_eq_true_eq, decide_eq_false_iff_not] at *; omega) | (simp_all [wi]; done) | (simp_all [wi]; omega)
  · exfalso
    first | omega | (simp only [wi, decide_eq_true_eq, decide_eq_false_iff_not] at *; omega) | (simp_all [wi]; done) | (simp_all [wi]; omega)
theorem ct_X8_gentlest_ok {G : GX} (E : EV G) {m : Mem} {z : Z} {K : Int} : CT G SHP iX8_gentlest 0 0 [.inr (.ref 197)] (sz m z) (some (.inl (zG z))) (sz (th0 m) z) := by
  refine j_met (L0 := [some (.inr (.ref 197))]) (by decide) E.1 E.2 rfl (Nat.le_of_ble_eq_true rfl) ?_
  refine j_aload0 (q := 1) dX8_gentlest_0 rfl ?_
  refine j_iconst (q := 2) dX8_gentlest_1 rfl ?_
  refine j_nputI (by decide) 12 (j' := 12) (q := 5) dX8_gentlest_2 rfl fw_X8_38 sh_197 rfl rfl ?_
  refine j_mem (m' := sz (th0 m) z) rfl ?_
  have e10 : th0 m 197 10 = m 197 10 := up_ne (by omega)
  have e11 : th0 m 197 11 = m 197 11 := up_ne (by omega)
  refine j_aload0 (q := 6) dX8_gentlest_5 rfl ?_
  refine j_callV0 (Mc := iX8_gentlestNow) (q := 9) (c' := 0) (s' := 0) dX8_gentlest_6 rfl kV_X8_gentlestNow jw_1352 ⟨by decide, by decide⟩ sh_197 rfl rfl rfl (Nat.le_refl _) (Nat.le_refl _) (ct_X8_gentlestNow E) ?_
  exact j_ireturn dX8_gentlest_9 rfl (rfl) (rfl)
theorem ct_X8_savable_ok {G : GX} (E : EV G) {m : Mem} {z : Z} {K : Int} {p : Int} (r_p : -2147483648 ≤ p ∧ p < 2147483648) (hp : 1 ≤ p ∧ p ≤ 9) (hW : WI z K) : CT G SHP iX8_savable 0 0 [.inr (.ref 197), .inl p] (sz m z) (some (.inl (zSvb z p (m 205)))) (sz (so (kpM z (th0 m) 2195) (zSbE z p (m 205)).2) (brZ (kpM z (th0 m) 2195 199) (zSbE z p (m 205)).1 2195)) := by
  refine j_met (L0 := [some (.inr (.ref 197)), some (.inl p)]) (by decide) E.1 E.2 rfl (Nat.le_of_ble_eq_true rfl) ?_
  refine j_aload0 (q := 1) dX8_savable_0 rfl ?_
  refine j_iconst (q := 2) dX8_savable_1 rfl ?_
  refine j_nputI (by decide) 12 (j' := 12) (q := 5) dX8_savable_2 rfl fw_X8_38 sh_197 rfl rfl ?_
  refine j_mem (m' := sz (th0 m) z) rfl ?_
  have e10 : th0 m 197 10 = m 197 10 := up_ne (by omega)
  have e11 : th0 m 197 11 = m 197 11 := up_ne (by omega)
  refine j_iload1 (q := 6) dX8_savable_5 rfl ?_
  refine j_iconst (q := 7) dX8_savable_6 rfl ?_
  refine j_bipush (q := 9) dX8_savable_7 rfl rfl ?_
  refine j_callS3 (Mc := iX8_within) (q := 12) (c' := 0) (s' := 0) dX8_savable_9 rfl kS_X8_within jw_1035 ⟨by decide, by decide⟩ rfl (Nat.le_refl _) (Nat.le_refl _) (ct_X8_within E (by omega) (by omega) (by omega)) ?_
  refine j_ifeq_b (tgt := 23) (q := 15) dX8_savable_12 (by decide) rfl (fun h12 => ?_) (fun h12 => ?_)
  · exfalso
    first | omega | (simp only [wi, decide_eq_true_eq, decide_eq_false_iff_not] at *; omega) | (simp_all [wi]; done) | (simp_all [wi]; omega)
  · refine j_aload0 (q := 16) dX8_savable_15 rfl ?_
    refine j_iload1 (q := 17) dX8_savable_16 rfl ?_
    refine j_callV1 (Mc := iX8_savableNow) (q := 20) (c' := 0) (s' := 0) dX8_savable_17 rfl kV_X8_savableNow jw_1364 ⟨by decide, by decide⟩ sh_197 rfl rfl rfl (Nat.le_refl _) (Nat.le_refl _) (show CT G SHP iX8_savableNow 0 0 [.inr (.ref 197), .inl p] (sz (th0 m) z) (some (.inl (zSvb z p (m 205)))) (sz (so (kpM z (th0 m) 2195) (zSbE z p (m 205)).2) (brZ (kpM z (th0 m) 2195 199) (zSbE z p (m 205)).1 2195)) from ct_X8_savableNow E (by omega) hW) ?_
    refine j_goto (tgt := 28) dX8_savable_20 (by decide) ?_
    exact j_ireturn dX8_savable_28 rfl (rfl) (rfl)
theorem ct_X8_savable_e1 {G : GX} (E : EV G) {m : Mem} {z : Z} {K : Int} {p : Int} (r_p : -2147483648 ≤ p ∧ p < 2147483648) (hp : ¬ (1 ≤ p ∧ p ≤ 9)) : CT G SHP iX8_savable 0 0 [.inr (.ref 197), .inl p] (sz m z) (some (.inl 0)) (sz (up m 197 12 1) z) := by
  refine j_met (L0 := [some (.inr (.ref 197)), some (.inl p)]) (by decide) E.1 E.2 rfl (Nat.le_of_ble_eq_true rfl) ?_
  refine j_aload0 (q := 1) dX8_savable_0 rfl ?_
  refine j_iconst (q := 2) dX8_savable_1 rfl ?_
  refine j_nputI (by decide) 12 (j' := 12) (q := 5) dX8_savable_2 rfl fw_X8_38 sh_197 rfl rfl ?_
  refine j_mem (m' := sz (th0 m) z) rfl ?_
  have e10 : th0 m 197 10 = m 197 10 := up_ne (by omega)
  have e11 : th0 m 197 11 = m 197 11 := up_ne (by omega)
  refine j_iload1 (q := 6) dX8_savable_5 rfl ?_
  refine j_iconst (q := 7) dX8_savable_6 rfl ?_
  refine j_bipush (q := 9) dX8_savable_7 rfl rfl ?_
  refine j_callS3 (Mc := iX8_within) (q := 12) (c' := 0) (s' := 0) dX8_savable_9 rfl kS_X8_within jw_1035 ⟨by decide, by decide⟩ rfl (Nat.le_refl _) (Nat.le_refl _) (ct_X8_within E (by omega) (by omega) (by omega)) ?_
  refine j_ifeq_b (tgt := 23) (q := 15) dX8_savable_12 (by decide) rfl (fun h12 => ?_) (fun h12 => ?_)
  · refine j_aload0 (q := 24) dX8_savable_23 rfl ?_
    refine j_iconst (q := 25) dX8_savable_24 rfl ?_
    refine j_callV1 (Mc := iX8_fails) (q := 28) (c' := 0) (s' := 0) dX8_savable_25 rfl kV_X8_fails jw_1038 ⟨by decide, by decide⟩ sh_197 rfl rfl rfl (Nat.le_refl _) (Nat.le_refl _) (ct_X8_fails E) ?_
    exact j_ireturn dX8_savable_28 rfl (rfl) (by rw [th0, up_up])
  · exfalso
    first | omega | (simp only [wi, decide_eq_true_eq, decide_eq_false_iff_not] at *; omega) | (simp_all [wi]; done) | (simp_all [wi]; omega)
theorem ct_X8_atRisk_ok {G : GX} (E : EV G) {m : Mem} {z : Z} {K : Int} {t : Int} (r_t : -2147483648 ≤ t ∧ t < 2147483648) (h2 : 0 ≤ z 2 ∧ z 2 ≤ 6) (ht : 0 ≤ t ∧ t < z 2) : CT G SHP iX8_atRisk 0 0 [.inr (.ref 197), .inl t] (sz m z) (some (.inl (zRk z t))) (sz (th0 m) z) := by
  refine j_met (L0 := [some (.inr (.ref 197)), some (.inl t)]) (by decide) E.1 E.2 rfl (Nat.le_of_ble_eq_true rfl) ?_
  refine j_aload0 (q := 1) dX8_atRisk_0 rfl ?_
  refine j_iconst (q := 2) dX8_atRisk_1 rfl ?_
  refine j_nputI (by decide) 12 (j' := 12) (q := 5) dX8_atRisk_2 rfl fw_X8_38 sh_197 rfl rfl ?_
  refine j_mem (m' := sz (th0 m) z) rfl ?_
  have e10 : th0 m 197 10 = m 197 10 := up_ne (by omega)
  have e11 : th0 m 197 11 = m 197 11 := up_ne (by omega)
  refine j_aload0 (q := 6) dX8_atRisk_5 rfl ?_
  refine j_iload1 (q := 7) dX8_atRisk_6 rfl ?_
  refine j_callV1 (Mc := iX8_isTenant) (q := 10) (c' := 0) (s' := 0) dX8_atRisk_7 rfl kV_X8_isTenant jw_1068 ⟨by decide, by decide⟩ sh_197 rfl rfl rfl (Nat.le_refl _) (Nat.le_refl _) (ct_X8_isTenant E (by omega) (by omega)) ?_
  refine j_ifeq_b (tgt := 21) (q := 13) dX8_atRisk_10 (by decide) rfl (fun h10 => ?_) (fun h10 => ?_)
  · exfalso
    first | omega | (simp only [wi, decide_eq_true_eq, decide_eq_false_iff_not] at *; omega) | (simp_all [wi]; done) | (simp_all [wi]; omega)
  · refine j_aload0 (q := 14) dX8_atRisk_13 rfl ?_
    refine j_iload1 (q := 15) dX8_atRisk_14 rfl ?_
    refine j_callV1 (Mc := iX8_riskNow) (q := 18) (c' := 0) (s' := 0) dX8_atRisk_15 rfl kV_X8_riskNow jw_1380 ⟨by decide, by decide⟩ sh_197 rfl rfl rfl (Nat.le_refl _) (Nat.le_refl _) (ct_X8_riskNow E (by omega)) ?_
    refine j_goto (tgt := 26) dX8_atRisk_18 (by decide) ?_
    exact j_ireturn dX8_atRisk_26 rfl (rfl) (rfl)
theorem ct_X8_atRisk_e1 {G : GX} (E : EV G) {m : Mem} {z : Z} {K : Int} {t : Int} (r_t : -2147483648 ≤ t ∧ t < 2147483648) (h2 : 0 ≤ z 2 ∧ z 2 ≤ 6) (hx : ¬ (0 ≤ t ∧ t < z 2)) : CT G SHP iX8_atRisk 0 0 [.inr (.ref 197), .inl t] (sz m z) (some (.inl 0)) (sz (up m 197 12 1) z) := by
  refine j_met (L0 := [some (.inr (.ref 197)), some (.inl t)]) (by decide) E.1 E.2 rfl (Nat.le_of_ble_eq_true rfl) ?_
  refine j_aload0 (q := 1) dX8_atRisk_0 rfl ?_
  refine j_iconst (q := 2) dX8_atRisk_1 rfl ?_
  refine j_nputI (by decide) 12 (j' := 12) (q := 5) dX8_atRisk_2 rfl fw_X8_38 sh_197 rfl rfl ?_
  refine j_mem (m' := sz (th0 m) z) rfl ?_
  have e10 : th0 m 197 10 = m 197 10 := up_ne (by omega)
  have e11 : th0 m 197 11 = m 197 11 := up_ne (by omega)
  refine j_aload0 (q := 6) dX8_atRisk_5 rfl ?_
  refine j_iload1 (q := 7) dX8_atRisk_6 rfl ?_
  refine j_callV1 (Mc := iX8_isTenant) (q := 10) (c' := 0) (s' := 0) dX8_atRisk_7 rfl kV_X8_isTenant jw_1068 ⟨by decide, by decide⟩ sh_197 rfl rfl rfl (Nat.le_refl _) (Nat.le_refl _) (ct_X8_isTenant E (by omega) (by omega)) ?_
  refine j_ifeq_b (tgt := 21) (q := 13) dX8_atRisk_10 (by decide) rfl (fun h10 => ?_) (fun h10 => ?_)
  · refine j_aload0 (q := 22) dX8_atRisk_21 rfl ?_
    refine j_iconst (q := 23) dX8_atRisk_22 rfl ?_
    refine j_callV1 (Mc := iX8_fails) (q := 26) (c' := 0) (s' := 0) dX8_atRisk_23 rfl kV_X8_fails jw_1038 ⟨by decide, by decide⟩ sh_197 rfl rfl rfl (Nat.le_refl _) (Nat.le_refl _) (ct_X8_fails E) ?_
    exact j_ireturn dX8_atRisk_26 rfl (rfl) (by rw [th0, up_up])
  · exfalso
    first | omega | (simp only [wi, decide_eq_true_eq, decide_eq_false_iff_not] at *; omega) | (simp_all [wi]; done) | (simp_all [wi]; omega)
theorem ct_X8_backShare_ok {G : GX} (E : EV G) {m : Mem} {z : Z} {K : Int} : CT G SHP iX8_backShare 0 0 [.inr (.ref 197)] (sz m z) (some (.inr (.double (zBk z)))) (sz (th0 m) z) := by
  refine j_met (L0 := [some (.inr (.ref 197))]) (by decide) E.1 E.2 rfl (Nat.le_of_ble_eq_true rfl) ?_
  refine j_aload0 (q := 1) dX8_backShare_0 rfl ?_
  refine j_iconst (q := 2) dX8_backShare_1 rfl ?_
  refine j_nputI (by decide) 12 (j' := 12) (q := 5) dX8_backShare_2 rfl fw_X8_38 sh_197 rfl rfl ?_
  refine j_mem (m' := sz (th0 m) z) rfl ?_
  have e10 : th0 m 197 10 = m 197 10 := up_ne (by omega)
  have e11 : th0 m 197 11 = m 197 11 := up_ne (by omega)
  refine j_aload0 (q := 6) dX8_backShare_5 rfl ?_
  refine j_callV0 (Mc := iX8_backNow) (q := 9) (c' := 0) (s' := 0) dX8_backShare_6 rfl kV_X8_backNow jw_1388 ⟨by decide, by decide⟩ sh_197 rfl rfl rfl (Nat.le_refl _) (Nat.le_refl _) (ct_X8_backNow E) ?_
  exact j_dreturn dX8_backShare_9 rfl (rfl) (rfl)

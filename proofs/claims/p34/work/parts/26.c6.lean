/-! the class: its face, what changes -/
section
variable {G : GX} {sh : List SH} {M : MI} {mc ms : Nat} {F : FinT} {pc : Nat} {L : List (Option PV)} {S : List PV} {m : Mem} {k n : Nat}
def lU (x : Int64) (y : Int) : Int64 := (x.toUInt64 >>> ((jI y).toInt64.toUInt64 &&& Int64.toUInt64 63)).toInt64
theorem j_lushr {x : Int64} {y : Int} {q : Nat} (hd : decode (mB M) pc = .ok (.lushr, 1)) (hq : pc + 1 = q) (kk : J G sh M mc ms F q L (.inr (.long (lU x y)) :: S) m k n) : J G sh M mc ms F pc L (.inl y :: .inr (.long x) :: S) m k n := by
  intro p e s mm args below meth c R C H locs ls hP hS hL
  subst hq
  exact lv_lushr C.x C.b hd rfl (kk p e s mm args below meth c R C H locs ls hP hS hL)
theorem j_l2i {x : Int64} {q : Nat} (hd : decode (mB M) pc = .ok (.l2i, 1)) (hq : pc + 1 = q) (kk : J G sh M mc ms F q L (.inl x.toInt32.toInt :: S) m k n) : J G sh M mc ms F pc L (.inr (.long x) :: S) m k n := by
  intro p e s mm args below meth c R C H locs ls hP hS hL
  subst hq
  refine lv_l2i C.x C.b hd rfl ?_
  have h := kk p e s mm args below meth c R C H locs ls hP hS hL
  have e1 : jv G (.inl x.toInt32.toInt) = .int x.toInt32 := by show Value.int (jI x.toInt32.toInt) = _; unfold jI; rw [Int32.ofInt_toInt]
  rw [List.map_cons, e1] at h
  exact h
end
def bcA1 (x : Int64) : Int64 := x - (lU x 1 &&& 6148914691236517205)
def bcA2 (x : Int64) : Int64 := (x &&& 3689348814741910323) + (lU x 2 &&& 3689348814741910323)
def bcA3 (x : Int64) : Int64 := (x + lU x 4) &&& 1085102592571150095
def bcA4 (x : Int64) (n : Int) : Int64 := x + lU x n
def bc (x : Int64) : Int := iA (bcA4 (bcA4 (bcA4 (bcA3 (bcA2 (bcA1 x))) 8) 16) 32).toInt32.toInt 127
theorem wi_t {v a b : Int} (h : a ≤ v ∧ v ≤ b) : wi v a b = true := decide_eq_true h
theorem wi_f {v a b : Int} (h : ¬ (a ≤ v ∧ v ≤ b)) : wi v a b = false := decide_eq_false h
theorem ct_J13_bitCount_95d88 {G : GX} {sh : List SH} (E : EV G sh) {m : Mem} {x : Int64} : CT G sh iJ13_bitCount_95d88 0 0 [.inr (.long x)] (m) (some (.inl (bc x))) (m) := by
  refine j_met (L0 := [some (.inr (.long x)), none]) (by decide) E.1 E.2.1 rfl (Nat.le_of_ble_eq_true rfl) ?_
  refine j_lload0 (q := 1) dJ13_bitCount_95d88_0 rfl ?_
  refine j_lload0 (q := 2) dJ13_bitCount_95d88_1 rfl ?_
  refine j_iconst (q := 3) dJ13_bitCount_95d88_2 rfl ?_
  refine j_lushr (q := 4) dJ13_bitCount_95d88_3 rfl ?_
  refine j_ldc2 (q := 7) dJ13_bitCount_95d88_4 rfl jw_409 ?_
  refine j_land (q := 8) dJ13_bitCount_95d88_7 rfl ?_
  refine j_lsub (q := 9) dJ13_bitCount_95d88_8 rfl ?_
  refine j_lstore0 (q := 10) dJ13_bitCount_95d88_9 rfl (by decide) ?_
  refine j_lload0 (q := 11) dJ13_bitCount_95d88_10 rfl ?_
  refine j_ldc2 (q := 14) dJ13_bitCount_95d88_11 rfl jw_410 ?_
  refine j_land (q := 15) dJ13_bitCount_95d88_14 rfl ?_
  refine j_lload0 (q := 16) dJ13_bitCount_95d88_15 rfl ?_
  refine j_iconst (q := 17) dJ13_bitCount_95d88_16 rfl ?_
  refine j_lushr (q := 18) dJ13_bitCount_95d88_17 rfl ?_
  refine j_ldc2 (q := 21) dJ13_bitCount_95d88_18 rfl jw_410 ?_
  refine j_land (q := 22) dJ13_bitCount_95d88_21 rfl ?_
  refine j_ladd (q := 23) dJ13_bitCount_95d88_22 rfl ?_
  refine j_lstore0 (q := 24) dJ13_bitCount_95d88_23 rfl (by decide) ?_
  refine j_lload0 (q := 25) dJ13_bitCount_95d88_24 rfl ?_
  refine j_lload0 (q := 26) dJ13_bitCount_95d88_25 rfl ?_
  refine j_iconst (q := 27) dJ13_bitCount_95d88_26 rfl ?_
  refine j_lushr (q := 28) dJ13_bitCount_95d88_27 rfl ?_
  refine j_ladd (q := 29) dJ13_bitCount_95d88_28 rfl ?_
  refine j_ldc2 (q := 32) dJ13_bitCount_95d88_29 rfl jw_411 ?_
  refine j_land (q := 33) dJ13_bitCount_95d88_32 rfl ?_
  refine j_lstore0 (q := 34) dJ13_bitCount_95d88_33 rfl (by decide) ?_
  refine j_lload0 (q := 35) dJ13_bitCount_95d88_34 rfl ?_
  refine j_lload0 (q := 36) dJ13_bitCount_95d88_35 rfl ?_
  refine j_bipush (q := 38) dJ13_bitCount_95d88_36 rfl rfl ?_
  refine j_lushr (q := 39) dJ13_bitCount_95d88_38 rfl ?_
  refine j_ladd (q := 40) dJ13_bitCount_95d88_39 rfl ?_
  refine j_lstore0 (q := 41) dJ13_bitCount_95d88_40 rfl (by decide) ?_
  refine j_lload0 (q := 42) dJ13_bitCount_95d88_41 rfl ?_
  refine j_lload0 (q := 43) dJ13_bitCount_95d88_42 rfl ?_
  refine j_bipush (q := 45) dJ13_bitCount_95d88_43 rfl rfl ?_
  refine j_lushr (q := 46) dJ13_bitCount_95d88_45 rfl ?_
  refine j_ladd (q := 47) dJ13_bitCount_95d88_46 rfl ?_
  refine j_lstore0 (q := 48) dJ13_bitCount_95d88_47 rfl (by decide) ?_
  refine j_lload0 (q := 49) dJ13_bitCount_95d88_48 rfl ?_
  refine j_lload0 (q := 50) dJ13_bitCount_95d88_49 rfl ?_
  refine j_bipush (q := 52) dJ13_bitCount_95d88_50 rfl rfl ?_
  refine j_lushr (q := 53) dJ13_bitCount_95d88_52 rfl ?_
  refine j_ladd (q := 54) dJ13_bitCount_95d88_53 rfl ?_
  refine j_lstore0 (q := 55) dJ13_bitCount_95d88_54 rfl (by decide) ?_
  refine j_lload0 (q := 56) dJ13_bitCount_95d88_55 rfl ?_
  refine j_l2i (q := 57) dJ13_bitCount_95d88_56 rfl ?_
  refine j_bipush (q := 59) dJ13_bitCount_95d88_57 rfl rfl ?_
  refine j_iand (q := 60) dJ13_bitCount_95d88_59 rfl ?_
  exact j_ireturn dJ13_bitCount_95d88_60 rfl (rfl) (rfl)
theorem ct_X0_leasedTo {G : GX} {sh : List SH} (E : EV G sh) {m P : Mem} {q : Nat} (hq : PA q) {t : Int} : CT G sh iX0_leasedTo 0 0 [.inr (.ref (q + 3)), .inl t] (ps m q P) (some (.inl (bc (cLsF P t)))) (ps m q P) := by
  refine j_met (L0 := [some (.inr (.ref (q + 3))), some (.inl t)]) (by decide) E.1 E.2.1 rfl (Nat.le_of_ble_eq_true rfl) ?_
  refine j_aload0 (q := 1) dX0_leasedTo_0 rfl ?_
  refine j_iload1 (q := 2) dX0_leasedTo_1 rfl ?_
  refine j_callV1 (Mc := iX0_leasesOf) (q := 5) (c' := 0) (s' := 0) dX0_leasedTo_2 rfl kV_X0_leasesOf jw_399 ⟨by decide, by decide⟩ (E.2.2 _ _ (hq 3 _ rfl)) rfl rfl rfl (Nat.le_refl _) (Nat.le_refl _) (ct_X0_leasesOf E hq) ?_
  refine j_callS1 (Mc := iJ13_bitCount_95d88) (q := 8) (c' := 0) (s' := 0) dX0_leasedTo_5 rfl kS_J13_bitCount_95d88 jw_406 ⟨by decide, by decide⟩ rfl (Nat.le_refl _) (Nat.le_refl _) (ct_J13_bitCount_95d88 E) ?_
  exact j_ireturn dX0_leasedTo_8 rfl (rfl) (rfl)
theorem ct_X0_insuredOf {G : GX} {sh : List SH} (E : EV G sh) {m P : Mem} {q : Nat} (hq : PA q) {t : Int} : CT G sh iX0_insuredOf 0 0 [.inr (.ref (q + 3)), .inl t] (ps m q P) (some (.inl (bc (cLsF P t &&& cInF P)))) (ps m q P) := by
  refine j_met (L0 := [some (.inr (.ref (q + 3))), some (.inl t)]) (by decide) E.1 E.2.1 rfl (Nat.le_of_ble_eq_true rfl) ?_
  refine j_aload0 (q := 1) dX0_insuredOf_0 rfl ?_
  refine j_iload1 (q := 2) dX0_insuredOf_1 rfl ?_
  refine j_callV1 (Mc := iX0_leasesOf) (q := 5) (c' := 0) (s' := 0) dX0_insuredOf_2 rfl kV_X0_leasesOf jw_399 ⟨by decide, by decide⟩ (E.2.2 _ _ (hq 3 _ rfl)) rfl rfl rfl (Nat.le_refl _) (Nat.le_refl _) (ct_X0_leasesOf E hq) ?_
  refine j_aload0 (q := 6) dX0_insuredOf_5 rfl ?_
  refine j_callV0 (Mc := iX0_insured) (q := 9) (c' := 0) (s' := 0) dX0_insuredOf_6 rfl kV_X0_insured jw_416 ⟨by decide, by decide⟩ (E.2.2 _ _ (hq 3 _ rfl)) rfl rfl rfl (Nat.le_refl _) (Nat.le_refl _) (ct_X0_insured E hq) ?_
  refine j_land (q := 10) dX0_insuredOf_9 rfl ?_
  refine j_callS1 (Mc := iJ13_bitCount_95d88) (q := 13) (c' := 0) (s' := 0) dX0_insuredOf_10 rfl kS_J13_bitCount_95d88 jw_406 ⟨by decide, by decide⟩ rfl (Nat.le_refl _) (Nat.le_refl _) (ct_J13_bitCount_95d88 E) ?_
  exact j_ireturn dX0_insuredOf_13 rfl (rfl) (rfl)
theorem ct_X0_leasedInAll {G : GX} {sh : List SH} (E : EV G sh) {m P : Mem} {q : Nat} (hq : PA q) : CT G sh iX0_leasedInAll 0 0 [.inr (.ref (q + 3))] (ps m q P) (some (.inl (64 - bc (cLsF P (-1))))) (ps m q P) := by
  refine j_met (L0 := [some (.inr (.ref (q + 3)))]) (by decide) E.1 E.2.1 rfl (Nat.le_of_ble_eq_true rfl) ?_
  refine j_bipush (q := 2) dX0_leasedInAll_0 rfl rfl ?_
  refine j_aload0 (q := 3) dX0_leasedInAll_2 rfl ?_
  refine j_iconst (q := 4) dX0_leasedInAll_3 rfl ?_
  refine j_callV1 (Mc := iX0_leasedTo) (q := 7) (c' := 0) (s' := 0) dX0_leasedInAll_4 rfl kV_X0_leasedTo jw_395 ⟨by decide, by decide⟩ (E.2.2 _ _ (hq 3 _ rfl)) rfl rfl rfl (Nat.le_refl _) (Nat.le_refl _) (ct_X0_leasedTo E hq) ?_
  refine j_isub (q := 8) dX0_leasedInAll_7 rfl ?_
  exact j_ireturn dX0_leasedInAll_8 rfl (rfl) (rfl)
theorem ct_X0_insuredInAll {G : GX} {sh : List SH} (E : EV G sh) {m P : Mem} {q : Nat} (hq : PA q) : CT G sh iX0_insuredInAll 0 0 [.inr (.ref (q + 3))] (ps m q P) (some (.inl (bc (cInF P)))) (ps m q P) := by
  refine j_met (L0 := [some (.inr (.ref (q + 3)))]) (by decide) E.1 E.2.1 rfl (Nat.le_of_ble_eq_true rfl) ?_
  refine j_aload0 (q := 1) dX0_insuredInAll_0 rfl ?_
  refine j_callV0 (Mc := iX0_insured) (q := 4) (c' := 0) (s' := 0) dX0_insuredInAll_1 rfl kV_X0_insured jw_416 ⟨by decide, by decide⟩ (E.2.2 _ _ (hq 3 _ rfl)) rfl rfl rfl (Nat.le_refl _) (Nat.le_refl _) (ct_X0_insured E hq) ?_
  refine j_callS1 (Mc := iJ13_bitCount_95d88) (q := 7) (c' := 0) (s' := 0) dX0_insuredInAll_4 rfl kS_J13_bitCount_95d88 jw_406 ⟨by decide, by decide⟩ rfl (Nat.le_refl _) (Nat.le_refl _) (ct_J13_bitCount_95d88 E) ?_
  exact j_ireturn dX0_insuredInAll_7 rfl (rfl) (rfl)
theorem ct_X7_requireCore {G : GX} {sh : List SH} (E : EV G sh) {m : Mem} {c : Int} (h1 : 0 ≤ c ∧ c < 64) (h2 : 0 ≤ c ∧ c < 64) : CT G sh iX7_requireCore 0 0 [.inl c] (m) none (m) := by
  refine j_met (L0 := [some (.inl c)]) (by decide) E.1 E.2.1 rfl (Nat.le_of_ble_eq_true rfl) ?_
  refine j_iload0 (q := 1) dX7_requireCore_0 rfl ?_
  refine j_callS1 (Mc := iX7_isCore) (q := 4) (c' := 0) (s' := 0) dX7_requireCore_1 rfl kS_X7_isCore jw_448 ⟨by decide, by decide⟩ rfl (Nat.le_refl _) (Nat.le_refl _) (ct_X7_isCore E (by omega)) ?_
  refine j_ifne_b (tgt := 18) (q := 7) dX7_requireCore_4 (by decide) rfl (fun h4 => ?_) (fun h4 => ?_)
  · exact j_return dX7_requireCore_18 rfl (rfl)
  · exfalso
    first | omega | (simp only [wi, decide_eq_true_eq, decide_eq_false_iff_not] at *; omega) | (simp_all [wi]; done) | (simp_all [wi]; omega)
theorem ct_X7_requireSetting {G : GX} {sh : List SH} (E : EV G sh) {m : Mem} {c : Int} (h1 : 0 ≤ c ∧ c < 8) (h2 : 0 ≤ c ∧ c < 8) : CT G sh iX7_requireSetting 0 0 [.inl c] (m) none (m) := by
  refine j_met (L0 := [some (.inl c)]) (by decide) E.1 E.2.1 rfl (Nat.le_of_ble_eq_true rfl) ?_
  refine j_iload0 (q := 1) dX7_requireSetting_0 rfl ?_
  refine j_iconst (q := 2) dX7_requireSetting_1 rfl ?_
  refine j_bipush (q := 4) dX7_requireSetting_2 rfl rfl ?_
  refine j_callS3 (Mc := iX7_within) (q := 7) (c' := 0) (s' := 0) dX7_requireSetting_4 rfl kS_X7_within jw_263 ⟨by decide, by decide⟩ rfl (Nat.le_refl _) (Nat.le_refl _) (ct_X7_within E (by omega) (by omega) (by omega)) ?_
  refine j_ifne_b (tgt := 21) (q := 10) dX7_requireSetting_7 (by decide) rfl (fun h7 => ?_) (fun h7 => ?_)
  · exact j_return dX7_requireSetting_21 rfl (rfl)
  · exfalso
    first | omega | (simp only [wi, decide_eq_true_eq, decide_eq_false_iff_not] at *; omega) | (simp_all [wi]; done) | (simp_all [wi]; omega)
theorem ct_X7_requireTenant {G : GX} {sh : List SH} (E : EV G sh) {m P : Mem} (hq : PA 1) {t : Int} (h1 : 0 ≤ t ∧ t < P 13 0) (h2 : 0 ≤ P 13 0 ∧ P 13 0 ≤ 6) : CT G sh iX7_requireTenant 0 0 [.inr (.ref 0), .inl t] (ps m 1 P) none (ps m 1 P) := by
  refine j_met (L0 := [some (.inr (.ref 0)), some (.inl t)]) (by decide) E.1 E.2.1 rfl (Nat.le_of_ble_eq_true rfl) ?_
  refine j_aload0 (q := 1) dX7_requireTenant_0 rfl ?_
  refine j_getR 0 (q := 4) dX7_requireTenant_1 rfl fl_X7_10 (E.2.2 _ _ sh_0) rfl ?_
  refine j_getR 7 (q := 7) dX7_requireTenant_4 rfl fl_X7_41 (E.2.2 _ _ sh_1) rfl ?_
  refine j_iload1 (q := 8) dX7_requireTenant_7 rfl ?_
  refine j_callV1 (Mc := iX5_has) (q := 11) (c' := 0) (s' := 0) dX7_requireTenant_8 rfl kV_X5_has jw_533 ⟨by decide, by decide⟩ (E.2.2 _ _ sh_14) rfl rfl rfl (Nat.le_refl _) (Nat.le_refl _) (ct_X5_has E hq (by omega) (by omega)) ?_
  refine j_ifne_b (tgt := 25) (q := 14) dX7_requireTenant_11 (by decide) rfl (fun h11 => ?_) (fun h11 => ?_)
  · exact j_return dX7_requireTenant_25 rfl (rfl)
  · exfalso
    first | omega | (simp only [wi, decide_eq_true_eq, decide_eq_false_iff_not] at *; omega) | (simp_all [wi]; done) | (simp_all [wi]; omega)
theorem ct_X7_requireInsurer {G : GX} {sh : List SH} (E : EV G sh) {m P : Mem} (hq : PA 1) {t : Int} (h1 : 0 ≤ t ∧ t < P 17 0) (h2 : 0 ≤ P 17 0 ∧ P 17 0 ≤ 3) : CT G sh iX7_requireInsurer 0 0 [.inr (.ref 0), .inl t] (ps m 1 P) none (ps m 1 P) := by
  refine j_met (L0 := [some (.inr (.ref 0)), some (.inl t)]) (by decide) E.1 E.2.1 rfl (Nat.le_of_ble_eq_true rfl) ?_
  refine j_aload0 (q := 1) dX7_requireInsurer_0 rfl ?_
  refine j_getR 0 (q := 4) dX7_requireInsurer_1 rfl fl_X7_10 (E.2.2 _ _ sh_0) rfl ?_
  refine j_getR 8 (q := 7) dX7_requireInsurer_4 rfl fl_X7_62 (E.2.2 _ _ sh_1) rfl ?_
  refine j_iload1 (q := 8) dX7_requireInsurer_7 rfl ?_
  refine j_callV1 (Mc := iX2_has) (q := 11) (c' := 0) (s' := 0) dX7_requireInsurer_8 rfl kV_X2_has jw_561 ⟨by decide, by decide⟩ (E.2.2 _ _ sh_18) rfl rfl rfl (Nat.le_refl _) (Nat.le_refl _) (ct_X2_has E hq (by omega) (by omega)) ?_
  refine j_ifne_b (tgt := 25) (q := 14) dX7_requireInsurer_11 (by decide) rfl (fun h11 => ?_) (fun h11 => ?_)
  · exact j_return dX7_requireInsurer_25 rfl (rfl)
  · exfalso
    first | omega | (simp only [wi, decide_eq_true_eq, decide_eq_false_iff_not] at *; omega) | (simp_all [wi]; done) | (simp_all [wi]; omega)
theorem ct_X7_requireArgument {G : GX} {sh : List SH} (E : EV G sh) {m : Mem} {b : Bool} (hb : b = true) : CT G sh iX7_requireArgument 0 0 [.inl (bI b)] (m) none (m) := by
  refine j_met (L0 := [some (.inl (bI b))]) (by decide) E.1 E.2.1 rfl (Nat.le_of_ble_eq_true rfl) ?_
  refine j_iload0 (q := 1) dX7_requireArgument_0 rfl ?_
  refine j_ifne_b (tgt := 15) (q := 4) dX7_requireArgument_1 (by decide) rfl (fun h1 => ?_) (fun h1 => ?_)
  · exact j_return dX7_requireArgument_15 rfl (rfl)
  · exfalso
    first | omega | (simp only [wi, decide_eq_true_eq, decide_eq_false_iff_not] at *; omega) | (simp_all [wi]; done) | (simp_all [wi]; omega)
theorem ct_X7_requireState {G : GX} {sh : List SH} (E : EV G sh) {m : Mem} {b : Bool} (hb : b = true) : CT G sh iX7_requireState 0 0 [.inl (bI b)] (m) none (m) := by
  refine j_met (L0 := [some (.inl (bI b))]) (by decide) E.1 E.2.1 rfl (Nat.le_of_ble_eq_true rfl) ?_
  refine j_iload0 (q := 1) dX7_requireState_0 rfl ?_
  refine j_ifne_b (tgt := 15) (q := 4) dX7_requireState_1 (by decide) rfl (fun h1 => ?_) (fun h1 => ?_)
  · exact j_return dX7_requireState_15 rfl (rfl)
  · exfalso
    first | omega | (simp only [wi, decide_eq_true_eq, decide_eq_false_iff_not] at *; omega) | (simp_all [wi]; done) | (simp_all [wi]; omega)
def kM (m P : Mem) : Mem := kpS (ps m 1 P)
theorem SR_ps {m P : Mem} (h : SR m) : SR (ps m 1 P) := by
  have e : ps m 1 P 50 = m 50 := ps_ne (by omega)
  unfold SR; rw [e]; exact h
theorem kpS_pg {m : Mem} (h1 : 0 ≤ m 49 0 ∧ m 49 0 ≤ 6) (hs : SR m) : pg (kpS m) 1 = fun d => if d < 24 then m (1 + d) else pg (kpS m) 1 d := by
  funext d
  by_cases hd : d < 24
  · rw [if_pos hd]
    show kpS m (1 + d) = _
    have h2 := kp1_s h1
    have h3 : 0 ≤ kp1 m 49 0 ∧ kp1 m 49 0 < 6 := by rw [h2]; split <;> omega
    obtain ⟨r, hr1, hr, hr2, hr3⟩ := okr_PA ((kp1_SR hs).1 (kp1 m 49 0) h3.1 h3.2)
    funext j
    unfold kpS
    rw [up_ne (by omega), hr1]
    unfold kp2
    rw [ps_ne (by omega), kp1_o (by omega)]
  · rw [if_neg hd]
theorem ps_cg {m P Q : Mem} {b : Nat} (h : ∀ d, d < 24 → P d = Q d) : ps m b P = ps m b Q := by
  funext k
  unfold ps
  split
  · rename_i hk; rw [h _ (by omega)]
  · rfl
theorem kM_ps {m P : Mem} (h1 : 0 ≤ m 49 0 ∧ m 49 0 ≤ 6) (hs : SR m) : kpS (ps m 1 P) = ps (kM m P) 1 P := by
  have e49 : ps m 1 P 49 = m 49 := ps_ne (by omega)
  have h := kpS_pg (m := ps m 1 P) (by rw [e49]; exact h1) (SR_ps hs)
  conv => lhs; rw [← ps_pg (m := kpS (ps m 1 P)) (b := 1)]
  refine ps_cg fun d hd => ?_
  rw [h]
  dsimp only
  rw [if_pos hd, ps_at hd]
theorem ct_X7_addTenant {G : GX} {sh : List SH} (E : EV G sh) {m P : Mem} {v : Int} (r_v : -2147483648 ≤ v ∧ v < 2147483648) (bt : 0 ≤ P 13 0 ∧ P 13 0 ≤ 6) (p0 : 0 ≤ v ∧ v ≤ 10000) (p1 : P 13 0 < 6) (hSR : SR m) (hSZ : 0 ≤ m 49 0 ∧ m 49 0 ≤ 6) (hw : 0 ≤ P 0 10 ∧ P 0 10 ≤ 512) : CT G sh iX7_addTenant 0 0 [.inr (.ref 0), .inl v] (ps m 1 P) (some (.inl (P 13 0))) (ps (kM m P) 1 (cAT P v)) := by
  have hq : PA 1 := PA1
  refine j_met (L0 := [some (.inr (.ref 0)), some (.inl v)]) (by decide) E.1 E.2.1 rfl (Nat.le_of_ble_eq_true rfl) ?_
  refine j_iload1 (q := 1) dX7_addTenant_0 rfl ?_
  refine j_iconst (q := 2) dX7_addTenant_1 rfl ?_
  refine j_sipush (q := 5) dX7_addTenant_2 rfl rfl ?_
  refine j_callS3 (Mc := iX7_within) (q := 8) (c' := 0) (s' := 0) dX7_addTenant_5 rfl kS_X7_within jw_263 ⟨by decide, by decide⟩ rfl (Nat.le_refl _) (Nat.le_refl _) (ct_X7_within E (by omega) (by omega) (by omega)) ?_
  refine j_callS1v (Mc := iX7_requireArgument) (q := 11) (c' := 0) (s' := 0) dX7_addTenant_8 rfl kS_X7_requireArgument jw_336 ⟨by decide, by decide⟩ rfl (Nat.le_refl _) (Nat.le_refl _) (ct_X7_requireArgument E (by first | assumption | exact decide_eq_true (by omega) | (simp_all; done))) ?_
  refine j_aload0 (q := 12) dX7_addTenant_11 rfl ?_
  refine j_getR 0 (q := 15) dX7_addTenant_12 rfl fl_X7_10 (E.2.2 _ _ sh_0) rfl ?_
  refine j_getR 7 (q := 18) dX7_addTenant_15 rfl fl_X7_41 (E.2.2 _ _ sh_1) rfl ?_
  refine j_pgetI (d := 13) rfl (by decide) 0 (j' := 0) (q := 21) dX7_addTenant_18 rfl fl_X7_45 (E.2.2 _ _ sh_14) rfl rfl ?_
  refine j_bipush (q := 23) dX7_addTenant_21 rfl rfl ?_
  refine j_icmp_ge (tgt := 30) (q := 26) dX7_addTenant_23 (by decide) rfl (by first | exact wr_id' (by omega) (by omega) | with_reducible exact wr_bI _ | exact rfl) (by first | exact wr_id' (by omega) (by omega) | with_reducible exact wr_bI _ | exact rfl) (fun h23 => ?_) (fun h23 => ?_)
  · refine j_iconst (q := 31) dX7_addTenant_30 rfl ?_
    exfalso
    first | omega | (simp only [wi, decide_eq_true_eq, decide_eq_false_iff_not] at *; omega) | (simp_all [wi]; done) | (simp_all [wi]; omega)
  · refine j_iconst (q := 27) dX7_addTenant_26 rfl ?_
    refine j_goto (tgt := 31) dX7_addTenant_27 (by decide) ?_
    refine j_callS1v (Mc := iX7_requireState) (q := 34) (c' := 0) (s' := 0) dX7_addTenant_31 rfl kS_X7_requireState jw_714 ⟨by decide, by decide⟩ rfl (Nat.le_refl _) (Nat.le_refl _) (ct_X7_requireState (b := true) E rfl) ?_
    refine j_aload0 (q := 35) dX7_addTenant_34 rfl ?_
    refine j_getR 2 (q := 38) dX7_addTenant_35 rfl fl_X7_22 (E.2.2 _ _ sh_0) rfl ?_
    refine j_aload0 (q := 39) dX7_addTenant_38 rfl ?_
    refine j_getR 0 (q := 42) dX7_addTenant_39 rfl fl_X7_10 (E.2.2 _ _ sh_0) rfl ?_
    refine j_callV1v (Mc := iX4_keep) (q := 45) (c' := 0) (s' := 0) dX7_addTenant_42 rfl kV_X4_keep jw_355 ⟨by decide, by decide⟩ (E.2.2 _ _ sh_49) rfl rfl rfl (Nat.le_refl _) (Nat.le_refl _) (show CT G sh iX4_keep 0 0 [.inr (.ref 49), .inr (.ref 1)] (ps m 1 P) none (ps (kM m P) 1 P) from (kM_ps hSZ hSR) ▸ ct_X4_keep E (SR_ps hSR) (by have e : ps m 1 P 49 = m 49 := ps_ne (by omega); rw [e]; exact hSZ) hw) ?_
    refine j_aload0 (q := 46) dX7_addTenant_45 rfl ?_
    refine j_getR 0 (q := 49) dX7_addTenant_46 rfl fl_X7_10 (E.2.2 _ _ sh_0) rfl ?_
    refine j_getR 7 (q := 52) dX7_addTenant_49 rfl fl_X7_41 (E.2.2 _ _ sh_1) rfl ?_
    refine j_iload1 (q := 53) dX7_addTenant_52 rfl ?_
    refine j_callV1 (Mc := iX5_enter) (q := 56) (c' := 0) (s' := 0) dX7_addTenant_53 rfl kV_X5_enter jw_733 ⟨by decide, by decide⟩ (E.2.2 _ _ sh_14) rfl rfl rfl (Nat.le_refl _) (Nat.le_refl _) (ct_X5_enter E hq (by omega)) ?_
    exact j_ireturn dX7_addTenant_56 rfl (rfl) (rfl)
theorem ct_X7_addInsurer {G : GX} {sh : List SH} (E : EV G sh) {m P : Mem} {f : Int} {r : Int} {c : Int} (r_f : -2147483648 ≤ f ∧ f < 2147483648) (r_r : -2147483648 ≤ r ∧ r < 2147483648) (r_c : -2147483648 ≤ c ∧ c < 2147483648) (bi : 0 ≤ P 17 0 ∧ P 17 0 ≤ 3) (p0 : 0 ≤ f ∧ f ≤ 10000) (p1 : 1 ≤ r ∧ r ≤ 200) (p2 : 1 ≤ c ∧ c ≤ 500) (p3 : P 17 0 < 3) (hSR : SR m) (hSZ : 0 ≤ m 49 0 ∧ m 49 0 ≤ 6) (hw : 0 ≤ P 0 10 ∧ P 0 10 ≤ 512) : CT G sh iX7_addInsurer 0 0 [.inr (.ref 0), .inl f, .inl r, .inl c] (ps m 1 P) (some (.inl (P 17 0))) (ps (kM m P) 1 (cAI P f r c)) := by
  have hq : PA 1 := PA1
  refine j_met (L0 := [some (.inr (.ref 0)), some (.inl f), some (.inl r), some (.inl c)]) (by decide) E.1 E.2.1 rfl (Nat.le_of_ble_eq_true rfl) ?_
  refine j_iload1 (q := 1) dX7_addInsurer_0 rfl ?_
  refine j_iconst (q := 2) dX7_addInsurer_1 rfl ?_
  refine j_sipush (q := 5) dX7_addInsurer_2 rfl rfl ?_
  refine j_callS3 (Mc := iX7_within) (q := 8) (c' := 0) (s' := 0) dX7_addInsurer_5 rfl kS_X7_within jw_263 ⟨by decide, by decide⟩ rfl (Nat.le_refl _) (Nat.le_refl _) (ct_X7_within E (by omega) (by omega) (by omega)) ?_
  refine j_callS1v (Mc := iX7_requireArgument) (q := 11) (c' := 0) (s' := 0) dX7_addInsurer_8 rfl kS_X7_requireArgument jw_336 ⟨by decide, by decide⟩ rfl (Nat.le_refl _) (Nat.le_refl _) (ct_X7_requireArgument E (by first | assumption | exact decide_eq_true (by omega) | (simp_all; done))) ?_
  refine j_iload2 (q := 12) dX7_addInsurer_11 rfl ?_
  refine j_iconst (q := 13) dX7_addInsurer_12 rfl ?_
  refine j_sipush (q := 16) dX7_addInsurer_13 rfl rfl ?_
  refine j_callS3 (Mc := iX7_within) (q := 19) (c' := 0) (s' := 0) dX7_addInsurer_16 rfl kS_X7_within jw_263 ⟨by decide, by decide⟩ rfl (Nat.le_refl _) (Nat.le_refl _) (ct_X7_within E (by omega) (by omega) (by omega)) ?_
  refine j_callS1v (Mc := iX7_requireArgument) (q := 22) (c' := 0) (s' := 0) dX7_addInsurer_19 rfl kS_X7_requireArgument jw_336 ⟨by decide, by decide⟩ rfl (Nat.le_refl _) (Nat.le_refl _) (ct_X7_requireArgument E (by first | assumption | exact decide_eq_true (by omega) | (simp_all; done))) ?_
  refine j_iload3 (q := 23) dX7_addInsurer_22 rfl ?_
  refine j_iconst (q := 24) dX7_addInsurer_23 rfl ?_
  refine j_sipush (q := 27) dX7_addInsurer_24 rfl rfl ?_
  refine j_callS3 (Mc := iX7_within) (q := 30) (c' := 0) (s' := 0) dX7_addInsurer_27 rfl kS_X7_within jw_263 ⟨by decide, by decide⟩ rfl (Nat.le_refl _) (Nat.le_refl _) (ct_X7_within E (by omega) (by omega) (by omega)) ?_
  refine j_callS1v (Mc := iX7_requireArgument) (q := 33) (c' := 0) (s' := 0) dX7_addInsurer_30 rfl kS_X7_requireArgument jw_336 ⟨by decide, by decide⟩ rfl (Nat.le_refl _) (Nat.le_refl _) (ct_X7_requireArgument E (by first | assumption | exact decide_eq_true (by omega) | (simp_all; done))) ?_
  refine j_aload0 (q := 34) dX7_addInsurer_33 rfl ?_
  refine j_getR 0 (q := 37) dX7_addInsurer_34 rfl fl_X7_10 (E.2.2 _ _ sh_0) rfl ?_
  refine j_getR 8 (q := 40) dX7_addInsurer_37 rfl fl_X7_62 (E.2.2 _ _ sh_1) rfl ?_
  refine j_pgetI (d := 17) rfl (by decide) 0 (j' := 0) (q := 43) dX7_addInsurer_40 rfl fl_X7_66 (E.2.2 _ _ sh_18) rfl rfl ?_
  refine j_iconst (q := 44) dX7_addInsurer_43 rfl ?_
  refine j_icmp_ge (tgt := 51) (q := 47) dX7_addInsurer_44 (by decide) rfl (by first | exact wr_id' (by omega) (by omega) | with_reducible exact wr_bI _ | exact rfl) (by first | exact wr_id' (by omega) (by omega) | with_reducible exact wr_bI _ | exact rfl) (fun h44 => ?_) (fun h44 => ?_)
  · refine j_iconst (q := 52) dX7_addInsurer_51 rfl ?_
    exfalso
    first | omega | (simp only [wi, decide_eq_true_eq, decide_eq_false_iff_not] at *; omega) | (simp_all [wi]; done) | (simp_all [wi]; omega)
  · refine j_iconst (q := 48) dX7_addInsurer_47 rfl ?_
    refine j_goto (tgt := 52) dX7_addInsurer_48 (by decide) ?_
    refine j_callS1v (Mc := iX7_requireState) (q := 55) (c' := 0) (s' := 0) dX7_addInsurer_52 rfl kS_X7_requireState jw_714 ⟨by decide, by decide⟩ rfl (Nat.le_refl _) (Nat.le_refl _) (ct_X7_requireState (b := true) E rfl) ?_
    refine j_aload0 (q := 56) dX7_addInsurer_55 rfl ?_
    refine j_getR 2 (q := 59) dX7_addInsurer_56 rfl fl_X7_22 (E.2.2 _ _ sh_0) rfl ?_
    refine j_aload0 (q := 60) dX7_addInsurer_59 rfl ?_
    refine j_getR 0 (q := 63) dX7_addInsurer_60 rfl fl_X7_10 (E.2.2 _ _ sh_0) rfl ?_
    refine j_callV1v (Mc := iX4_keep) (q := 66) (c' := 0) (s' := 0) dX7_addInsurer_63 rfl kV_X4_keep jw_355 ⟨by decide, by decide⟩ (E.2.2 _ _ sh_49) rfl rfl rfl (Nat.le_refl _) (Nat.le_refl _) (show CT G sh iX4_keep 0 0 [.inr (.ref 49), .inr (.ref 1)] (ps m 1 P) none (ps (kM m P) 1 P) from (kM_ps hSZ hSR) ▸ ct_X4_keep E (SR_ps hSR) (by have e : ps m 1 P 49 = m 49 := ps_ne (by omega); rw [e]; exact hSZ) hw) ?_
    refine j_aload0 (q := 67) dX7_addInsurer_66 rfl ?_
    refine j_getR 0 (q := 70) dX7_addInsurer_67 rfl fl_X7_10 (E.2.2 _ _ sh_0) rfl ?_
    refine j_getR 8 (q := 73) dX7_addInsurer_70 rfl fl_X7_62 (E.2.2 _ _ sh_1) rfl ?_
    refine j_iload1 (q := 74) dX7_addInsurer_73 rfl ?_
    refine j_iload2 (q := 75) dX7_addInsurer_74 rfl ?_
    refine j_iload3 (q := 76) dX7_addInsurer_75 rfl ?_
    refine j_callV3 (Mc := iX2_enter) (q := 79) (c' := 0) (s' := 0) dX7_addInsurer_76 rfl kV_X2_enter jw_741 ⟨by decide, by decide⟩ (E.2.2 _ _ sh_18) rfl rfl rfl (Nat.le_refl _) (Nat.le_refl _) (ct_X2_enter E hq (by omega)) ?_
    exact j_ireturn dX7_addInsurer_79 rfl (rfl) (rfl)
theorem c24 {m P : Mem} {d : Nat} (h : d < 24) : ps m 1 P (1 + d) = P d := ps_at h
def cMost (s : Int) : Int := if s = 0 ∨ s = 1 ∨ s = 2 then 20 else if s = 3 ∨ s = 7 then 50 else if s = 6 then 10 else 100
theorem ct_X7_set {G : GX} {sh : List SH} (E : EV G sh) {m P : Mem} {s : Int} {v : Int} (r_s : -2147483648 ≤ s ∧ s < 2147483648) (r_v : -2147483648 ≤ v ∧ v < 2147483648) (hgl : (gE G 1).2.1 = 8 ∧ ∀ s, 0 ≤ s → s < 8 → 0 ≤ (gE G 1).2.2 s ∧ (gE G 1).2.2 s ≤ 100) (p0 : 0 ≤ s ∧ s < 8) (p1 : 0 ≤ v ∧ v ≤ (gE G 1).2.2 s) (hSR : SR m) (hSZ : 0 ≤ m 49 0 ∧ m 49 0 ≤ 6) (hw : 0 ≤ P 0 10 ∧ P 0 10 ≤ 512) : CT G sh iX7_set 0 0 [.inr (.ref 0), .inl s, .inl v] (ps m 1 P) (some (.inl (P 1 s))) (ps (kM m P) 1 (up P 1 s v)) := by
  have hq : PA 1 := PA1
  refine j_met (L0 := [some (.inr (.ref 0)), some (.inl s), some (.inl v), none]) (by decide) E.1 E.2.1 rfl (Nat.le_of_ble_eq_true rfl) ?_
  refine j_iload1 (q := 1) dX7_set_0 rfl ?_
  refine j_callS1v (Mc := iX7_requireSetting) (q := 4) (c' := 0) (s' := 0) dX7_set_1 rfl kS_X7_requireSetting jw_260 ⟨by decide, by decide⟩ rfl (Nat.le_refl _) (Nat.le_refl _) (ct_X7_requireSetting E (by omega) (by omega)) ?_
  have hgs := hgl.2 s p0.1 p0.2
  refine j_iload2 (q := 5) dX7_set_4 rfl ?_
  refine j_iconst (q := 6) dX7_set_5 rfl ?_
  refine j_getMost (q := 9) dX7_set_6 rfl jw_334 ?_
  refine j_iload1 (q := 10) dX7_set_9 rfl ?_
  refine j_oload (q := 11) (by decide) dX7_set_10 rfl (by first | exact wr_id' (by omega) (by omega) | with_reducible exact wr_bI _ | exact rfl) (by omega) (by omega) ?_
  refine j_callS3 (Mc := iX7_within) (q := 14) (c' := 0) (s' := 0) dX7_set_11 rfl kS_X7_within jw_263 ⟨by decide, by decide⟩ rfl (Nat.le_refl _) (Nat.le_refl _) (ct_X7_within E (by omega) (by omega) (by omega)) ?_
  refine j_callS1v (Mc := iX7_requireArgument) (q := 17) (c' := 0) (s' := 0) dX7_set_14 rfl kS_X7_requireArgument jw_336 ⟨by decide, by decide⟩ rfl (Nat.le_refl _) (Nat.le_refl _) (ct_X7_requireArgument E (by first | assumption | exact decide_eq_true (by omega) | (simp_all; done))) ?_
  refine j_aload0 (q := 18) dX7_set_17 rfl ?_
  refine j_getR 2 (q := 21) dX7_set_18 rfl fl_X7_22 (E.2.2 _ _ sh_0) rfl ?_
  refine j_aload0 (q := 22) dX7_set_21 rfl ?_
  refine j_getR 0 (q := 25) dX7_set_22 rfl fl_X7_10 (E.2.2 _ _ sh_0) rfl ?_
  refine j_callV1v (Mc := iX4_keep) (q := 28) (c' := 0) (s' := 0) dX7_set_25 rfl kV_X4_keep jw_355 ⟨by decide, by decide⟩ (E.2.2 _ _ sh_49) rfl rfl rfl (Nat.le_refl _) (Nat.le_refl _) (show CT G sh iX4_keep 0 0 [.inr (.ref 49), .inr (.ref 1)] (ps m 1 P) none (ps (kM m P) 1 P) from (kM_ps hSZ hSR) ▸ ct_X4_keep E (SR_ps hSR) (by have e : ps m 1 P 49 = m 49 := ps_ne (by omega); rw [e]; exact hSZ) hw) ?_
  refine j_aload0 (q := 29) dX7_set_28 rfl ?_
  refine j_getR 0 (q := 32) dX7_set_29 rfl fl_X7_10 (E.2.2 _ _ sh_0) rfl ?_
  refine j_getR 3 (q := 35) dX7_set_32 rfl fl_X7_80 (E.2.2 _ _ sh_1) rfl ?_
  refine j_iload1 (q := 36) dX7_set_35 rfl ?_
  refine j_pload (q := 37) (d := 1) rfl (by decide) dX7_set_36 rfl (E.2.2 _ _ sh_2) (by first | exact wr_id' (by omega) (by omega) | with_reducible exact wr_bI _ | exact rfl) (by omega) (by omega) ?_
  refine j_istore3 (q := 38) dX7_set_37 rfl rfl (by decide) ?_
  refine j_aload0 (q := 39) dX7_set_38 rfl ?_
  refine j_getR 0 (q := 42) dX7_set_39 rfl fl_X7_10 (E.2.2 _ _ sh_0) rfl ?_
  refine j_getR 3 (q := 45) dX7_set_42 rfl fl_X7_80 (E.2.2 _ _ sh_1) rfl ?_
  refine j_iload1 (q := 46) dX7_set_45 rfl ?_
  refine j_iload2 (q := 47) dX7_set_46 rfl ?_
  refine j_pstore (q := 48) (d := 1) rfl (by decide) dX7_set_47 rfl (E.2.2 _ _ sh_2) (by first | exact wr_id' (by omega) (by omega) | with_reducible exact wr_bI _ | exact rfl) (by omega) (by omega) ?_
  refine j_iload3 (q := 49) dX7_set_48 rfl ?_
  exact j_ireturn dX7_set_49 rfl (rfl) (rfl)
theorem ct_X7_lease {G : GX} {sh : List SH} (E : EV G sh) {m P : Mem} {c : Int} {t : Int} {k : Int} (r_c : -2147483648 ≤ c ∧ c < 2147483648) (r_t : -2147483648 ≤ t ∧ t < 2147483648) (r_k : -2147483648 ≤ k ∧ k < 2147483648) (bt : 0 ≤ P 13 0 ∧ P 13 0 ≤ 6) (p0 : 0 ≤ c ∧ c < 64) (p1 : 0 ≤ t ∧ t < P 13 0) (p2 : 1 ≤ k ∧ k ≤ 200) (p3 : cLs P c = false) (p4 : ¬ wr (P 14 t) < wr (cRent P k)) (hSR : SR m) (hSZ : 0 ≤ m 49 0 ∧ m 49 0 ≤ 6) (hw : 0 ≤ P 0 10 ∧ P 0 10 ≤ 512) : CT G sh iX7_lease 0 0 [.inr (.ref 0), .inl c, .inl t, .inl k] (ps m 1 P) (some (.inl (cLeO P c t k 14 t))) (ps (kM m P) 1 (cLeO P c t k)) := by
  have hq : PA 1 := PA1
  refine j_met (L0 := [some (.inr (.ref 0)), some (.inl c), some (.inl t), some (.inl k)]) (by decide) E.1 E.2.1 rfl (Nat.le_of_ble_eq_true rfl) ?_
  refine j_iload1 (q := 1) dX7_lease_0 rfl ?_
  refine j_callS1v (Mc := iX7_requireCore) (q := 4) (c' := 0) (s' := 0) dX7_lease_1 rfl kS_X7_requireCore jw_445 ⟨by decide, by decide⟩ rfl (Nat.le_refl _) (Nat.le_refl _) (ct_X7_requireCore E (by omega) (by omega)) ?_
  refine j_aload0 (q := 5) dX7_lease_4 rfl ?_
  refine j_iload2 (q := 6) dX7_lease_5 rfl ?_
  refine j_callV1v (Mc := iX7_requireTenant) (q := 9) (c' := 0) (s' := 0) dX7_lease_6 rfl kV_X7_requireTenant jw_529 ⟨by decide, by decide⟩ (E.2.2 _ _ sh_0) rfl rfl rfl (Nat.le_refl _) (Nat.le_refl _) (ct_X7_requireTenant E hq (by omega) (by omega)) ?_
  refine j_iload3 (q := 10) dX7_lease_9 rfl ?_
  refine j_iconst (q := 11) dX7_lease_10 rfl ?_
  refine j_sipush (q := 14) dX7_lease_11 rfl rfl ?_
  refine j_callS3 (Mc := iX7_within) (q := 17) (c' := 0) (s' := 0) dX7_lease_14 rfl kS_X7_within jw_263 ⟨by decide, by decide⟩ rfl (Nat.le_refl _) (Nat.le_refl _) (ct_X7_within E (by omega) (by omega) (by omega)) ?_
  refine j_callS1v (Mc := iX7_requireArgument) (q := 20) (c' := 0) (s' := 0) dX7_lease_17 rfl kS_X7_requireArgument jw_336 ⟨by decide, by decide⟩ rfl (Nat.le_refl _) (Nat.le_refl _) (ct_X7_requireArgument E (by first | assumption | exact decide_eq_true (by omega) | (simp_all; done))) ?_
  refine j_aload0 (q := 21) dX7_lease_20 rfl ?_
  refine j_getR 0 (q := 24) dX7_lease_21 rfl fl_X7_10 (E.2.2 _ _ sh_0) rfl ?_
  refine j_getR 5 (q := 27) dX7_lease_24 rfl fl_X7_89 (E.2.2 _ _ sh_1) rfl ?_
  refine j_iload1 (q := 28) dX7_lease_27 rfl ?_
  refine j_callV1 (Mc := iX0_isLeased) (q := 31) (c' := 0) (s' := 0) dX7_lease_28 rfl kV_X0_isLeased jw_749 ⟨by decide, by decide⟩ (E.2.2 _ _ sh_4) rfl rfl rfl (Nat.le_refl _) (Nat.le_refl _) (ct_X0_isLeased E hq (by omega)) ?_
  refine j_ifne_b (tgt := 38) (q := 34) dX7_lease_31 (by decide) rfl (fun h31 => ?_) (fun h31 => ?_)
  · refine j_iconst (q := 39) dX7_lease_38 rfl ?_
    exfalso
    first | omega | (simp only [wi, decide_eq_true_eq, decide_eq_false_iff_not] at *; omega) | (simp_all [wi]; done) | (simp_all [wi]; omega)
  · refine j_iconst (q := 35) dX7_lease_34 rfl ?_
    refine j_goto (tgt := 39) dX7_lease_35 (by decide) ?_
    refine j_callS1v (Mc := iX7_requireState) (q := 42) (c' := 0) (s' := 0) dX7_lease_39 rfl kS_X7_requireState jw_714 ⟨by decide, by decide⟩ rfl (Nat.le_refl _) (Nat.le_refl _) (ct_X7_requireState (b := true) E rfl) ?_
    refine j_aload0 (q := 43) dX7_lease_42 rfl ?_
    refine j_getR 0 (q := 46) dX7_lease_43 rfl fl_X7_10 (E.2.2 _ _ sh_0) rfl ?_
    refine j_getR 7 (q := 49) dX7_lease_46 rfl fl_X7_41 (E.2.2 _ _ sh_1) rfl ?_
    refine j_getR 1 (q := 52) dX7_lease_49 rfl fl_X7_99 (E.2.2 _ _ sh_14) rfl ?_
    refine j_iload2 (q := 53) dX7_lease_52 rfl ?_
    refine j_pload (q := 54) (d := 14) rfl (by decide) dX7_lease_53 rfl (E.2.2 _ _ sh_15) (by first | exact wr_id' (by omega) (by omega) | with_reducible exact wr_bI _ | exact rfl) (by omega) (by omega) ?_
    refine j_aload0 (q := 55) dX7_lease_54 rfl ?_
    refine j_getR 0 (q := 58) dX7_lease_55 rfl fl_X7_10 (E.2.2 _ _ sh_0) rfl ?_
    refine j_iload3 (q := 59) dX7_lease_58 rfl ?_
    refine j_callV1 (Mc := iX3_rentFor) (q := 62) (c' := 0) (s' := 0) dX7_lease_59 rfl kV_X3_rentFor jw_750 ⟨by decide, by decide⟩ (E.2.2 _ _ sh_1) rfl rfl rfl (Nat.le_refl _) (Nat.le_refl _) (ct_X3_rentFor E hq) ?_
    refine j_icmp_lt (tgt := 69) (q := 65) dX7_lease_62 (by decide) rfl rfl rfl (fun h62 => ?_) (fun h62 => ?_)
    · refine j_iconst (q := 70) dX7_lease_69 rfl ?_
      exfalso
      first | omega | (simp only [wi, decide_eq_true_eq, decide_eq_false_iff_not] at *; omega) | (simp_all [wi]; done) | (simp_all [wi]; omega)
    · refine j_iconst (q := 66) dX7_lease_65 rfl ?_
      refine j_goto (tgt := 70) dX7_lease_66 (by decide) ?_
      refine j_callS1v (Mc := iX7_requireState) (q := 73) (c' := 0) (s' := 0) dX7_lease_70 rfl kS_X7_requireState jw_714 ⟨by decide, by decide⟩ rfl (Nat.le_refl _) (Nat.le_refl _) (ct_X7_requireState (b := true) E rfl) ?_
      refine j_aload0 (q := 74) dX7_lease_73 rfl ?_
      refine j_getR 2 (q := 77) dX7_lease_74 rfl fl_X7_22 (E.2.2 _ _ sh_0) rfl ?_
      refine j_aload0 (q := 78) dX7_lease_77 rfl ?_
      refine j_getR 0 (q := 81) dX7_lease_78 rfl fl_X7_10 (E.2.2 _ _ sh_0) rfl ?_
      refine j_callV1v (Mc := iX4_keep) (q := 84) (c' := 0) (s' := 0) dX7_lease_81 rfl kV_X4_keep jw_355 ⟨by decide, by decide⟩ (E.2.2 _ _ sh_49) rfl rfl rfl (Nat.le_refl _) (Nat.le_refl _) (show CT G sh iX4_keep 0 0 [.inr (.ref 49), .inr (.ref 1)] (ps m 1 P) none (ps (kM m P) 1 P) from (kM_ps hSZ hSR) ▸ ct_X4_keep E (SR_ps hSR) (by have e : ps m 1 P 49 = m 49 := ps_ne (by omega); rw [e]; exact hSZ) hw) ?_
      refine j_aload0 (q := 85) dX7_lease_84 rfl ?_
      refine j_getR 0 (q := 88) dX7_lease_85 rfl fl_X7_10 (E.2.2 _ _ sh_0) rfl ?_
      refine j_iload1 (q := 89) dX7_lease_88 rfl ?_
      refine j_iload2 (q := 90) dX7_lease_89 rfl ?_
      refine j_iload3 (q := 91) dX7_lease_90 rfl ?_
      refine j_callV3v (Mc := iX3_leaseOut) (q := 94) (c' := 0) (s' := 0) dX7_lease_91 rfl kV_X3_leaseOut jw_754 ⟨by decide, by decide⟩ (E.2.2 _ _ sh_1) rfl rfl rfl (Nat.le_refl _) (Nat.le_refl _) (ct_X3_leaseOut E hq (by omega) (by omega)) ?_
      refine j_aload0 (q := 95) dX7_lease_94 rfl ?_
      refine j_getR 0 (q := 98) dX7_lease_95 rfl fl_X7_10 (E.2.2 _ _ sh_0) rfl ?_
      refine j_getR 7 (q := 101) dX7_lease_98 rfl fl_X7_41 (E.2.2 _ _ sh_1) rfl ?_
      refine j_getR 1 (q := 104) dX7_lease_101 rfl fl_X7_99 (E.2.2 _ _ sh_14) rfl ?_
      refine j_iload2 (q := 105) dX7_lease_104 rfl ?_
      refine j_pload (q := 106) (d := 14) rfl (by decide) dX7_lease_105 rfl (E.2.2 _ _ sh_15) (by first | exact wr_id' (by omega) (by omega) | with_reducible exact wr_bI _ | exact rfl) (by omega) (by omega) ?_
      exact j_ireturn dX7_lease_106 rfl (rfl) (rfl)
theorem ct_X7_insure {G : GX} {sh : List SH} (E : EV G sh) {m P : Mem} {c : Int} {i : Int} {k : Int} (r_c : -2147483648 ≤ c ∧ c < 2147483648) (r_i : -2147483648 ≤ i ∧ i < 2147483648) (r_k : -2147483648 ≤ k ∧ k < 2147483648) (bt : 0 ≤ P 13 0 ∧ P 13 0 ≤ 6) (bi : 0 ≤ P 17 0 ∧ P 17 0 ≤ 3) (hV : CV P) (p0 : 0 ≤ c ∧ c < 64) (p1 : 0 ≤ i ∧ i < P 17 0) (p2 : 1 ≤ k ∧ k ≤ 200) (p3 : 0 ≤ P 5 c ∧ P 5 c < P 13 0) (p4 : cHp P c = false) (p5 : ¬ wr (cLL P c) < k) (p6 : ¬ wr (P 14 (P 5 c)) < wr (cPrem P c i k (P 0 1))) (hSR : SR m) (hSZ : 0 ≤ m 49 0 ∧ m 49 0 ≤ 6) (hw : 0 ≤ P 0 10 ∧ P 0 10 ≤ 512) : CT G sh iX7_insure 0 0 [.inr (.ref 0), .inl c, .inl i, .inl k] (ps m 1 P) (some (.inl (cPrem P c i k (P 0 1)))) (ps (kM m P) 1 (cPay (cMkP P c i k (P 5 c) (cPrem P c i k (P 0 1))) i)) := by
  have hq : PA 1 := PA1
  refine j_met (L0 := [some (.inr (.ref 0)), some (.inl c), some (.inl i), some (.inl k), none, none]) (by decide) E.1 E.2.1 rfl (Nat.le_of_ble_eq_true rfl) ?_
  refine j_iload1 (q := 1) dX7_insure_0 rfl ?_
  refine j_callS1v (Mc := iX7_requireCore) (q := 4) (c' := 0) (s' := 0) dX7_insure_1 rfl kS_X7_requireCore jw_445 ⟨by decide, by decide⟩ rfl (Nat.le_refl _) (Nat.le_refl _) (ct_X7_requireCore E (by omega) (by omega)) ?_
  refine j_aload0 (q := 5) dX7_insure_4 rfl ?_
  refine j_iload2 (q := 6) dX7_insure_5 rfl ?_
  refine j_callV1v (Mc := iX7_requireInsurer) (q := 9) (c' := 0) (s' := 0) dX7_insure_6 rfl kV_X7_requireInsurer jw_557 ⟨by decide, by decide⟩ (E.2.2 _ _ sh_0) rfl rfl rfl (Nat.le_refl _) (Nat.le_refl _) (ct_X7_requireInsurer E hq (by omega) (by omega)) ?_
  refine j_iload3 (q := 10) dX7_insure_9 rfl ?_
  refine j_iconst (q := 11) dX7_insure_10 rfl ?_
  refine j_sipush (q := 14) dX7_insure_11 rfl rfl ?_
  refine j_callS3 (Mc := iX7_within) (q := 17) (c' := 0) (s' := 0) dX7_insure_14 rfl kS_X7_within jw_263 ⟨by decide, by decide⟩ rfl (Nat.le_refl _) (Nat.le_refl _) (ct_X7_within E (by omega) (by omega) (by omega)) ?_
  refine j_callS1v (Mc := iX7_requireArgument) (q := 20) (c' := 0) (s' := 0) dX7_insure_17 rfl kS_X7_requireArgument jw_336 ⟨by decide, by decide⟩ rfl (Nat.le_refl _) (Nat.le_refl _) (ct_X7_requireArgument E (by first | assumption | exact decide_eq_true (by omega) | (simp_all; done))) ?_
  have hb5 := hV.2.2.2.2 c p0.1 p0.2
  refine j_aload0 (q := 21) dX7_insure_20 rfl ?_
  refine j_getR 0 (q := 24) dX7_insure_21 rfl fl_X7_10 (E.2.2 _ _ sh_0) rfl ?_
  refine j_getR 5 (q := 27) dX7_insure_24 rfl fl_X7_89 (E.2.2 _ _ sh_1) rfl ?_
  refine j_getR 2 (q := 30) dX7_insure_27 rfl fl_X7_112 (E.2.2 _ _ sh_4) rfl ?_
  refine j_iload1 (q := 31) dX7_insure_30 rfl ?_
  refine j_pload (q := 32) (d := 5) rfl (by decide) dX7_insure_31 rfl (E.2.2 _ _ sh_6) (by first | exact wr_id' (by omega) (by omega) | with_reducible exact wr_bI _ | exact rfl) (by omega) (by omega) ?_
  refine j_istore4 (q := 34) dX7_insure_32 rfl rfl (by decide) ?_
  refine j_aload0 (q := 35) dX7_insure_34 rfl ?_
  refine j_getR 0 (q := 38) dX7_insure_35 rfl fl_X7_10 (E.2.2 _ _ sh_0) rfl ?_
  refine j_getR 7 (q := 41) dX7_insure_38 rfl fl_X7_41 (E.2.2 _ _ sh_1) rfl ?_
  refine j_iload4 (q := 43) dX7_insure_41 rfl ?_
  refine j_callV1 (Mc := iX5_has) (q := 46) (c' := 0) (s' := 0) dX7_insure_43 rfl kV_X5_has jw_533 ⟨by decide, by decide⟩ (E.2.2 _ _ sh_14) rfl rfl rfl (Nat.le_refl _) (Nat.le_refl _) (ct_X5_has E hq (by omega) (by omega)) ?_
  refine j_callS1v (Mc := iX7_requireState) (q := 49) (c' := 0) (s' := 0) dX7_insure_46 rfl kS_X7_requireState jw_714 ⟨by decide, by decide⟩ rfl (Nat.le_refl _) (Nat.le_refl _) (ct_X7_requireState E (by first | assumption | exact decide_eq_true (by omega) | (simp_all; done))) ?_
  refine j_aload0 (q := 50) dX7_insure_49 rfl ?_
  refine j_getR 0 (q := 53) dX7_insure_50 rfl fl_X7_10 (E.2.2 _ _ sh_0) rfl ?_
  refine j_getR 5 (q := 56) dX7_insure_53 rfl fl_X7_89 (E.2.2 _ _ sh_1) rfl ?_
  refine j_iload1 (q := 57) dX7_insure_56 rfl ?_
  refine j_callV1 (Mc := iX0_hasPolicy) (q := 60) (c' := 0) (s' := 0) dX7_insure_57 rfl kV_X0_hasPolicy jw_763 ⟨by decide, by decide⟩ (E.2.2 _ _ sh_4) rfl rfl rfl (Nat.le_refl _) (Nat.le_refl _) (ct_X0_hasPolicy E hq (by omega)) ?_
  refine j_ifne_b (tgt := 67) (q := 63) dX7_insure_60 (by decide) rfl (fun h60 => ?_) (fun h60 => ?_)
  · refine j_iconst (q := 68) dX7_insure_67 rfl ?_
    exfalso
    first | omega | (simp only [wi, decide_eq_true_eq, decide_eq_false_iff_not] at *; omega) | (simp_all [wi]; done) | (simp_all [wi]; omega)
  · refine j_iconst (q := 64) dX7_insure_63 rfl ?_
    refine j_goto (tgt := 68) dX7_insure_64 (by decide) ?_
    refine j_callS1v (Mc := iX7_requireState) (q := 71) (c' := 0) (s' := 0) dX7_insure_68 rfl kS_X7_requireState jw_714 ⟨by decide, by decide⟩ rfl (Nat.le_refl _) (Nat.le_refl _) (ct_X7_requireState (b := true) E rfl) ?_
    refine j_aload0 (q := 72) dX7_insure_71 rfl ?_
    refine j_getR 0 (q := 75) dX7_insure_72 rfl fl_X7_10 (E.2.2 _ _ sh_0) rfl ?_
    refine j_iload1 (q := 76) dX7_insure_75 rfl ?_
    refine j_callV1 (Mc := iX3_leaseLeft) (q := 79) (c' := 0) (s' := 0) dX7_insure_76 rfl kV_X3_leaseLeft jw_460 ⟨by decide, by decide⟩ (E.2.2 _ _ sh_1) rfl rfl rfl (Nat.le_refl _) (Nat.le_refl _) (ct_X3_leaseLeft E hq (by omega)) ?_
    refine j_iload3 (q := 80) dX7_insure_79 rfl ?_
    refine j_icmp_lt (tgt := 87) (q := 83) dX7_insure_80 (by decide) rfl rfl (by first | exact wr_id' (by omega) (by omega) | with_reducible exact wr_bI _ | exact rfl) (fun h80 => ?_) (fun h80 => ?_)
    · refine j_iconst (q := 88) dX7_insure_87 rfl ?_
      exfalso
      first | omega | (simp only [wi, decide_eq_true_eq, decide_eq_false_iff_not] at *; omega) | (simp_all [wi]; done) | (simp_all [wi]; omega)
    · refine j_iconst (q := 84) dX7_insure_83 rfl ?_
      refine j_goto (tgt := 88) dX7_insure_84 (by decide) ?_
      refine j_callS1v (Mc := iX7_requireState) (q := 91) (c' := 0) (s' := 0) dX7_insure_88 rfl kS_X7_requireState jw_714 ⟨by decide, by decide⟩ rfl (Nat.le_refl _) (Nat.le_refl _) (ct_X7_requireState (b := true) E rfl) ?_
      refine j_aload0 (q := 92) dX7_insure_91 rfl ?_
      refine j_getR 0 (q := 95) dX7_insure_92 rfl fl_X7_10 (E.2.2 _ _ sh_0) rfl ?_
      refine j_iload1 (q := 96) dX7_insure_95 rfl ?_
      refine j_iload2 (q := 97) dX7_insure_96 rfl ?_
      refine j_iload3 (q := 98) dX7_insure_97 rfl ?_
      refine j_aload0 (q := 99) dX7_insure_98 rfl ?_
      refine j_getR 0 (q := 102) dX7_insure_99 rfl fl_X7_10 (E.2.2 _ _ sh_0) rfl ?_
      refine j_pgetI (d := 0) rfl (by decide) 1 (j' := 1) (q := 105) dX7_insure_102 rfl fl_X7_124 (E.2.2 _ _ sh_1) rfl rfl ?_
      refine j_callV4 (Mc := iX3_premiumFor) (q := 108) (c' := 0) (s' := 0) dX7_insure_105 rfl kV_X3_premiumFor jw_695 ⟨by decide, by decide⟩ (E.2.2 _ _ sh_1) rfl rfl rfl (Nat.le_refl _) (Nat.le_refl _) (ct_X3_premiumFor E hq (by omega) (by omega)) ?_
      refine j_istore5 (q := 110) dX7_insure_108 rfl rfl (by decide) ?_
      refine j_aload0 (q := 111) dX7_insure_110 rfl ?_
      refine j_getR 0 (q := 114) dX7_insure_111 rfl fl_X7_10 (E.2.2 _ _ sh_0) rfl ?_
      refine j_getR 7 (q := 117) dX7_insure_114 rfl fl_X7_41 (E.2.2 _ _ sh_1) rfl ?_
      refine j_getR 1 (q := 120) dX7_insure_117 rfl fl_X7_99 (E.2.2 _ _ sh_14) rfl ?_
      refine j_iload4 (q := 122) dX7_insure_120 rfl ?_
      refine j_pload (q := 123) (d := 14) rfl (by decide) dX7_insure_122 rfl (E.2.2 _ _ sh_15) (by first | exact wr_id' (by omega) (by omega) | with_reducible exact wr_bI _ | exact rfl) (by omega) (by omega) ?_
      refine j_iload5 (q := 125) dX7_insure_123 rfl ?_
      refine j_icmp_lt (tgt := 132) (q := 128) dX7_insure_125 (by decide) rfl rfl rfl (fun h125 => ?_) (fun h125 => ?_)
      · refine j_iconst (q := 133) dX7_insure_132 rfl ?_
        exfalso
        first | omega | (simp only [wi, decide_eq_true_eq, decide_eq_false_iff_not] at *; omega) | (simp_all [wi]; done) | (simp_all [wi]; omega)
      · refine j_iconst (q := 129) dX7_insure_128 rfl ?_
        refine j_goto (tgt := 133) dX7_insure_129 (by decide) ?_
        refine j_callS1v (Mc := iX7_requireState) (q := 136) (c' := 0) (s' := 0) dX7_insure_133 rfl kS_X7_requireState jw_714 ⟨by decide, by decide⟩ rfl (Nat.le_refl _) (Nat.le_refl _) (ct_X7_requireState (b := true) E rfl) ?_
        refine j_aload0 (q := 137) dX7_insure_136 rfl ?_
        refine j_getR 2 (q := 140) dX7_insure_137 rfl fl_X7_22 (E.2.2 _ _ sh_0) rfl ?_
        refine j_aload0 (q := 141) dX7_insure_140 rfl ?_
        refine j_getR 0 (q := 144) dX7_insure_141 rfl fl_X7_10 (E.2.2 _ _ sh_0) rfl ?_
        refine j_callV1v (Mc := iX4_keep) (q := 147) (c' := 0) (s' := 0) dX7_insure_144 rfl kV_X4_keep jw_355 ⟨by decide, by decide⟩ (E.2.2 _ _ sh_49) rfl rfl rfl (Nat.le_refl _) (Nat.le_refl _) (show CT G sh iX4_keep 0 0 [.inr (.ref 49), .inr (.ref 1)] (ps m 1 P) none (ps (kM m P) 1 P) from (kM_ps hSZ hSR) ▸ ct_X4_keep E (SR_ps hSR) (by have e : ps m 1 P 49 = m 49 := ps_ne (by omega); rw [e]; exact hSZ) hw) ?_
        refine j_aload0 (q := 148) dX7_insure_147 rfl ?_
        refine j_getR 0 (q := 151) dX7_insure_148 rfl fl_X7_10 (E.2.2 _ _ sh_0) rfl ?_
        refine j_iload1 (q := 152) dX7_insure_151 rfl ?_
        refine j_iload2 (q := 153) dX7_insure_152 rfl ?_
        refine j_iload3 (q := 154) dX7_insure_153 rfl ?_
        refine j_iload4 (q := 156) dX7_insure_154 rfl ?_
        refine j_iload5 (q := 158) dX7_insure_156 rfl ?_
        refine j_callV5v (Mc := iX3_makePolicy) (q := 161) (c' := 0) (s' := 0) dX7_insure_158 rfl kV_X3_makePolicy jw_764 ⟨by decide, by decide⟩ (E.2.2 _ _ sh_1) rfl rfl rfl (Nat.le_refl _) (Nat.le_refl _) (ct_X3_makePolicy E hq (by omega) (by omega) (by omega) (by assumption)) ?_
        refine j_iload5 (q := 163) dX7_insure_161 rfl ?_
        exact j_ireturn dX7_insure_163 rfl (rfl) (rfl)
theorem ct_X7_renew {G : GX} {sh : List SH} (E : EV G sh) {m P : Mem} {c : Int} (r_c : -2147483648 ≤ c ∧ c < 2147483648) (p0 : 0 ≤ c ∧ c < 64) (p1 : cLs P c = false) (p2 : ¬ wr (P 0 2) < wr (P 1 7)) (hSR : SR m) (hSZ : 0 ≤ m 49 0 ∧ m 49 0 ≤ 6) (hw : 0 ≤ P 0 10 ∧ P 0 10 ≤ 512) : CT G sh iX7_renew 0 0 [.inr (.ref 0), .inl c] (ps m 1 P) (some (.inl (P 4 c))) (ps (kM m P) 1 (cRpl P c)) := by
  have hq : PA 1 := PA1
  refine j_met (L0 := [some (.inr (.ref 0)), some (.inl c), none]) (by decide) E.1 E.2.1 rfl (Nat.le_of_ble_eq_true rfl) ?_
  refine j_iload1 (q := 1) dX7_renew_0 rfl ?_
  refine j_callS1v (Mc := iX7_requireCore) (q := 4) (c' := 0) (s' := 0) dX7_renew_1 rfl kS_X7_requireCore jw_445 ⟨by decide, by decide⟩ rfl (Nat.le_refl _) (Nat.le_refl _) (ct_X7_requireCore E (by omega) (by omega)) ?_
  refine j_aload0 (q := 5) dX7_renew_4 rfl ?_
  refine j_getR 0 (q := 8) dX7_renew_5 rfl fl_X7_10 (E.2.2 _ _ sh_0) rfl ?_
  refine j_getR 5 (q := 11) dX7_renew_8 rfl fl_X7_89 (E.2.2 _ _ sh_1) rfl ?_
  refine j_iload1 (q := 12) dX7_renew_11 rfl ?_
  refine j_callV1 (Mc := iX0_isLeased) (q := 15) (c' := 0) (s' := 0) dX7_renew_12 rfl kV_X0_isLeased jw_749 ⟨by decide, by decide⟩ (E.2.2 _ _ sh_4) rfl rfl rfl (Nat.le_refl _) (Nat.le_refl _) (ct_X0_isLeased E hq (by omega)) ?_
  refine j_ifne_b (tgt := 22) (q := 18) dX7_renew_15 (by decide) rfl (fun h15 => ?_) (fun h15 => ?_)
  · refine j_iconst (q := 23) dX7_renew_22 rfl ?_
    exfalso
    first | omega | (simp only [wi, decide_eq_true_eq, decide_eq_false_iff_not] at *; omega) | (simp_all [wi]; done) | (simp_all [wi]; omega)
  · refine j_iconst (q := 19) dX7_renew_18 rfl ?_
    refine j_goto (tgt := 23) dX7_renew_19 (by decide) ?_
    refine j_callS1v (Mc := iX7_requireState) (q := 26) (c' := 0) (s' := 0) dX7_renew_23 rfl kS_X7_requireState jw_714 ⟨by decide, by decide⟩ rfl (Nat.le_refl _) (Nat.le_refl _) (ct_X7_requireState (b := true) E rfl) ?_
    refine j_aload0 (q := 27) dX7_renew_26 rfl ?_
    refine j_getR 0 (q := 30) dX7_renew_27 rfl fl_X7_10 (E.2.2 _ _ sh_0) rfl ?_
    refine j_pgetI (d := 0) rfl (by decide) 2 (j' := 2) (q := 33) dX7_renew_30 rfl fl_X7_135 (E.2.2 _ _ sh_1) rfl rfl ?_
    refine j_aload0 (q := 34) dX7_renew_33 rfl ?_
    refine j_getR 0 (q := 37) dX7_renew_34 rfl fl_X7_10 (E.2.2 _ _ sh_0) rfl ?_
    refine j_getR 3 (q := 40) dX7_renew_37 rfl fl_X7_80 (E.2.2 _ _ sh_1) rfl ?_
    refine j_bipush (q := 42) dX7_renew_40 rfl rfl ?_
    refine j_pload (q := 43) (d := 1) rfl (by decide) dX7_renew_42 rfl (E.2.2 _ _ sh_2) (by first | exact wr_id' (by omega) (by omega) | with_reducible exact wr_bI _ | exact rfl) (by omega) (by omega) ?_
    refine j_icmp_lt (tgt := 50) (q := 46) dX7_renew_43 (by decide) rfl rfl rfl (fun h43 => ?_) (fun h43 => ?_)
    · refine j_iconst (q := 51) dX7_renew_50 rfl ?_
      exfalso
      first | omega | (simp only [wi, decide_eq_true_eq, decide_eq_false_iff_not] at *; omega) | (simp_all [wi]; done) | (simp_all [wi]; omega)
    · refine j_iconst (q := 47) dX7_renew_46 rfl ?_
      refine j_goto (tgt := 51) dX7_renew_47 (by decide) ?_
      refine j_callS1v (Mc := iX7_requireState) (q := 54) (c' := 0) (s' := 0) dX7_renew_51 rfl kS_X7_requireState jw_714 ⟨by decide, by decide⟩ rfl (Nat.le_refl _) (Nat.le_refl _) (ct_X7_requireState (b := true) E rfl) ?_
      refine j_aload0 (q := 55) dX7_renew_54 rfl ?_
      refine j_getR 2 (q := 58) dX7_renew_55 rfl fl_X7_22 (E.2.2 _ _ sh_0) rfl ?_
      refine j_aload0 (q := 59) dX7_renew_58 rfl ?_
      refine j_getR 0 (q := 62) dX7_renew_59 rfl fl_X7_10 (E.2.2 _ _ sh_0) rfl ?_
      refine j_callV1v (Mc := iX4_keep) (q := 65) (c' := 0) (s' := 0) dX7_renew_62 rfl kV_X4_keep jw_355 ⟨by decide, by decide⟩ (E.2.2 _ _ sh_49) rfl rfl rfl (Nat.le_refl _) (Nat.le_refl _) (show CT G sh iX4_keep 0 0 [.inr (.ref 49), .inr (.ref 1)] (ps m 1 P) none (ps (kM m P) 1 P) from (kM_ps hSZ hSR) ▸ ct_X4_keep E (SR_ps hSR) (by have e : ps m 1 P 49 = m 49 := ps_ne (by omega); rw [e]; exact hSZ) hw) ?_
      refine j_aload0 (q := 66) dX7_renew_65 rfl ?_
      refine j_getR 0 (q := 69) dX7_renew_66 rfl fl_X7_10 (E.2.2 _ _ sh_0) rfl ?_
      refine j_getR 5 (q := 72) dX7_renew_69 rfl fl_X7_89 (E.2.2 _ _ sh_1) rfl ?_
      refine j_getR 1 (q := 75) dX7_renew_72 rfl fl_X7_138 (E.2.2 _ _ sh_4) rfl ?_
      refine j_iload1 (q := 76) dX7_renew_75 rfl ?_
      refine j_pload (q := 77) (d := 4) rfl (by decide) dX7_renew_76 rfl (E.2.2 _ _ sh_5) (by first | exact wr_id' (by omega) (by omega) | with_reducible exact wr_bI _ | exact rfl) (by omega) (by omega) ?_
      refine j_istore2 (q := 78) dX7_renew_77 rfl rfl (by decide) ?_
      refine j_aload0 (q := 79) dX7_renew_78 rfl ?_
      refine j_getR 0 (q := 82) dX7_renew_79 rfl fl_X7_10 (E.2.2 _ _ sh_0) rfl ?_
      refine j_iload1 (q := 83) dX7_renew_82 rfl ?_
      refine j_callV1v (Mc := iX3_replaceCore) (q := 86) (c' := 0) (s' := 0) dX7_renew_83 rfl kV_X3_replaceCore jw_772 ⟨by decide, by decide⟩ (E.2.2 _ _ sh_1) rfl rfl rfl (Nat.le_refl _) (Nat.le_refl _) (ct_X3_replaceCore E hq (by omega)) ?_
      refine j_iload2 (q := 87) dX7_renew_86 rfl ?_
      exact j_ireturn dX7_renew_87 rfl (rfl) (rfl)
theorem ct_X7_write {G : GX} {sh : List SH} (E : EV G sh) {m P : Mem} {c : Int} {b : Bool} (r_c : -2147483648 ≤ c ∧ c < 2147483648) (hV : CV P) (p0 : 0 ≤ c ∧ c < 64) (p1 : cLs P c = true) (hSR : SR m) (hSZ : 0 ≤ m 49 0 ∧ m 49 0 ≤ 6) (hw : 0 ≤ P 0 10 ∧ P 0 10 ≤ 512) : CT G sh iX7_write 0 0 [.inr (.ref 0), .inl c, .inl (bI b)] (ps m 1 P) (some (.inl (bI (cOne (cWb P c b) c)))) (ps (kM m P) 1 (cWb P c b)) := by
  have hq : PA 1 := PA1
  refine j_met (L0 := [some (.inr (.ref 0)), some (.inl c), some (.inl (bI b))]) (by decide) E.1 E.2.1 rfl (Nat.le_of_ble_eq_true rfl) ?_
  refine j_iload1 (q := 1) dX7_write_0 rfl ?_
  refine j_callS1v (Mc := iX7_requireCore) (q := 4) (c' := 0) (s' := 0) dX7_write_1 rfl kS_X7_requireCore jw_445 ⟨by decide, by decide⟩ rfl (Nat.le_refl _) (Nat.le_refl _) (ct_X7_requireCore E (by omega) (by omega)) ?_
  refine j_aload0 (q := 5) dX7_write_4 rfl ?_
  refine j_getR 0 (q := 8) dX7_write_5 rfl fl_X7_10 (E.2.2 _ _ sh_0) rfl ?_
  refine j_getR 5 (q := 11) dX7_write_8 rfl fl_X7_89 (E.2.2 _ _ sh_1) rfl ?_
  refine j_iload1 (q := 12) dX7_write_11 rfl ?_
  refine j_callV1 (Mc := iX0_isLeased) (q := 15) (c' := 0) (s' := 0) dX7_write_12 rfl kV_X0_isLeased jw_749 ⟨by decide, by decide⟩ (E.2.2 _ _ sh_4) rfl rfl rfl (Nat.le_refl _) (Nat.le_refl _) (ct_X0_isLeased E hq (by omega)) ?_
  refine j_callS1v (Mc := iX7_requireState) (q := 18) (c' := 0) (s' := 0) dX7_write_15 rfl kS_X7_requireState jw_714 ⟨by decide, by decide⟩ rfl (Nat.le_refl _) (Nat.le_refl _) (ct_X7_requireState E (by first | assumption | exact decide_eq_true (by omega) | (simp_all; done))) ?_
  refine j_aload0 (q := 19) dX7_write_18 rfl ?_
  refine j_getR 2 (q := 22) dX7_write_19 rfl fl_X7_22 (E.2.2 _ _ sh_0) rfl ?_
  refine j_aload0 (q := 23) dX7_write_22 rfl ?_
  refine j_getR 0 (q := 26) dX7_write_23 rfl fl_X7_10 (E.2.2 _ _ sh_0) rfl ?_
  refine j_callV1v (Mc := iX4_keep) (q := 29) (c' := 0) (s' := 0) dX7_write_26 rfl kV_X4_keep jw_355 ⟨by decide, by decide⟩ (E.2.2 _ _ sh_49) rfl rfl rfl (Nat.le_refl _) (Nat.le_refl _) (show CT G sh iX4_keep 0 0 [.inr (.ref 49), .inr (.ref 1)] (ps m 1 P) none (ps (kM m P) 1 P) from (kM_ps hSZ hSR) ▸ ct_X4_keep E (SR_ps hSR) (by have e : ps m 1 P 49 = m 49 := ps_ne (by omega); rw [e]; exact hSZ) hw) ?_
  refine j_aload0 (q := 30) dX7_write_29 rfl ?_
  refine j_getR 0 (q := 33) dX7_write_30 rfl fl_X7_10 (E.2.2 _ _ sh_0) rfl ?_
  refine j_iload1 (q := 34) dX7_write_33 rfl ?_
  refine j_iload2 (q := 35) dX7_write_34 rfl ?_
  refine j_callV2v (Mc := iX3_writeBit) (q := 38) (c' := 0) (s' := 0) dX7_write_35 rfl kV_X3_writeBit jw_780 ⟨by decide, by decide⟩ (E.2.2 _ _ sh_1) rfl rfl rfl (Nat.le_refl _) (Nat.le_refl _) (ct_X3_writeBit E hq (by omega) (by assumption)) ?_
  refine j_aload0 (q := 39) dX7_write_38 rfl ?_
  refine j_getR 0 (q := 42) dX7_write_39 rfl fl_X7_10 (E.2.2 _ _ sh_0) rfl ?_
  refine j_getR 5 (q := 45) dX7_write_42 rfl fl_X7_89 (E.2.2 _ _ sh_1) rfl ?_
  refine j_iload1 (q := 46) dX7_write_45 rfl ?_
  refine j_callV1 (Mc := iX0_bitOf) (q := 49) (c' := 0) (s' := 0) dX7_write_46 rfl kV_X0_bitOf jw_452 ⟨by decide, by decide⟩ (E.2.2 _ _ sh_4) rfl rfl rfl (Nat.le_refl _) (Nat.le_refl _) (ct_X0_bitOf E hq) ?_
  exact j_ireturn dX7_write_49 rfl (rfl) (rfl)
theorem ct_X7_read {G : GX} {sh : List SH} (E : EV G sh) {m P : Mem} {c : Int} (r_c : -2147483648 ≤ c ∧ c < 2147483648) (hV : CV P) (p0 : 0 ≤ c ∧ c < 64) (p1 : cCR P c = true) (hSR : SR m) (hSZ : 0 ≤ m 49 0 ∧ m 49 0 ≤ 6) (hw : 0 ≤ P 0 10 ∧ P 0 10 ≤ 512) : CT G sh iX7_read 0 0 [.inr (.ref 0), .inl c] (ps m 1 P) (some (.inl (bI (cOne (cRdA P c) c)))) (ps (kM m P) 1 (cRd P c)) := by
  have hq : PA 1 := PA1
  refine j_met (L0 := [some (.inr (.ref 0)), some (.inl c)]) (by decide) E.1 E.2.1 rfl (Nat.le_of_ble_eq_true rfl) ?_
  refine j_iload1 (q := 1) dX7_read_0 rfl ?_
  refine j_callS1v (Mc := iX7_requireCore) (q := 4) (c' := 0) (s' := 0) dX7_read_1 rfl kS_X7_requireCore jw_445 ⟨by decide, by decide⟩ rfl (Nat.le_refl _) (Nat.le_refl _) (ct_X7_requireCore E (by omega) (by omega)) ?_
  refine j_aload0 (q := 5) dX7_read_4 rfl ?_
  refine j_getR 0 (q := 8) dX7_read_5 rfl fl_X7_10 (E.2.2 _ _ sh_0) rfl ?_
  refine j_iload1 (q := 9) dX7_read_8 rfl ?_
  refine j_callV1 (Mc := iX3_canBeRead) (q := 12) (c' := 0) (s' := 0) dX7_read_9 rfl kV_X3_canBeRead jw_520 ⟨by decide, by decide⟩ (E.2.2 _ _ sh_1) rfl rfl rfl (Nat.le_refl _) (Nat.le_refl _) (ct_X3_canBeRead E hq (by omega)) ?_
  refine j_callS1v (Mc := iX7_requireState) (q := 15) (c' := 0) (s' := 0) dX7_read_12 rfl kS_X7_requireState jw_714 ⟨by decide, by decide⟩ rfl (Nat.le_refl _) (Nat.le_refl _) (ct_X7_requireState E (by first | assumption | exact decide_eq_true (by omega) | (simp_all; done))) ?_
  refine j_aload0 (q := 16) dX7_read_15 rfl ?_
  refine j_getR 2 (q := 19) dX7_read_16 rfl fl_X7_22 (E.2.2 _ _ sh_0) rfl ?_
  refine j_aload0 (q := 20) dX7_read_19 rfl ?_
  refine j_getR 0 (q := 23) dX7_read_20 rfl fl_X7_10 (E.2.2 _ _ sh_0) rfl ?_
  refine j_callV1v (Mc := iX4_keep) (q := 26) (c' := 0) (s' := 0) dX7_read_23 rfl kV_X4_keep jw_355 ⟨by decide, by decide⟩ (E.2.2 _ _ sh_49) rfl rfl rfl (Nat.le_refl _) (Nat.le_refl _) (show CT G sh iX4_keep 0 0 [.inr (.ref 49), .inr (.ref 1)] (ps m 1 P) none (ps (kM m P) 1 P) from (kM_ps hSZ hSR) ▸ ct_X4_keep E (SR_ps hSR) (by have e : ps m 1 P 49 = m 49 := ps_ne (by omega); rw [e]; exact hSZ) hw) ?_
  refine j_aload0 (q := 27) dX7_read_26 rfl ?_
  refine j_getR 0 (q := 30) dX7_read_27 rfl fl_X7_10 (E.2.2 _ _ sh_0) rfl ?_
  refine j_iload1 (q := 31) dX7_read_30 rfl ?_
  refine j_callV1 (Mc := iX3_readBit) (q := 34) (c' := 0) (s' := 0) dX7_read_31 rfl kV_X3_readBit jw_791 ⟨by decide, by decide⟩ (E.2.2 _ _ sh_1) rfl rfl rfl (Nat.le_refl _) (Nat.le_refl _) (ct_X3_readBit E hq (by omega) (by assumption)) ?_
  exact j_ireturn dX7_read_34 rfl (rfl) (rfl)
theorem ct_X7_writeBack {G : GX} {sh : List SH} (E : EV G sh) {m P : Mem} (hV : CV P) (hd : 0 ≤ P 10 0 ∧ P 10 0 ≤ 64) (p0 : 0 < P 10 0) (hSR : SR m) (hSZ : 0 ≤ m 49 0 ∧ m 49 0 ≤ 6) (hw : 0 ≤ P 0 10 ∧ P 0 10 ≤ 512) : CT G sh iX7_writeBack 0 0 [.inr (.ref 0)] (ps m 1 P) (some (.inl (cFi P))) (ps (kM m P) 1 (cFb P)) := by
  have hq : PA 1 := PA1
  refine j_met (L0 := [some (.inr (.ref 0))]) (by decide) E.1 E.2.1 rfl (Nat.le_of_ble_eq_true rfl) ?_
  refine j_aload0 (q := 1) dX7_writeBack_0 rfl ?_
  refine j_getR 0 (q := 4) dX7_writeBack_1 rfl fl_X7_10 (E.2.2 _ _ sh_0) rfl ?_
  refine j_getR 6 (q := 7) dX7_writeBack_4 rfl fl_X7_157 (E.2.2 _ _ sh_1) rfl ?_
  refine j_pgetI (d := 10) rfl (by decide) 0 (j' := 0) (q := 10) dX7_writeBack_7 rfl fl_X7_161 (E.2.2 _ _ sh_11) rfl rfl ?_
  refine j_if_le (tgt := 17) (q := 13) dX7_writeBack_10 (by decide) rfl (by first | exact wr_id' (by omega) (by omega) | with_reducible exact wr_bI _ | exact rfl) (fun h10 => ?_) (fun h10 => ?_)
  · refine j_iconst (q := 18) dX7_writeBack_17 rfl ?_
    exfalso
    first | omega | (simp only [wi, decide_eq_true_eq, decide_eq_false_iff_not] at *; omega) | (simp_all [wi]; done) | (simp_all [wi]; omega)
  · refine j_iconst (q := 14) dX7_writeBack_13 rfl ?_
    refine j_goto (tgt := 18) dX7_writeBack_14 (by decide) ?_
    refine j_callS1v (Mc := iX7_requireState) (q := 21) (c' := 0) (s' := 0) dX7_writeBack_18 rfl kS_X7_requireState jw_714 ⟨by decide, by decide⟩ rfl (Nat.le_refl _) (Nat.le_refl _) (ct_X7_requireState (b := true) E rfl) ?_
    refine j_aload0 (q := 22) dX7_writeBack_21 rfl ?_
    refine j_getR 2 (q := 25) dX7_writeBack_22 rfl fl_X7_22 (E.2.2 _ _ sh_0) rfl ?_
    refine j_aload0 (q := 26) dX7_writeBack_25 rfl ?_
    refine j_getR 0 (q := 29) dX7_writeBack_26 rfl fl_X7_10 (E.2.2 _ _ sh_0) rfl ?_
    refine j_callV1v (Mc := iX4_keep) (q := 32) (c' := 0) (s' := 0) dX7_writeBack_29 rfl kV_X4_keep jw_355 ⟨by decide, by decide⟩ (E.2.2 _ _ sh_49) rfl rfl rfl (Nat.le_refl _) (Nat.le_refl _) (show CT G sh iX4_keep 0 0 [.inr (.ref 49), .inr (.ref 1)] (ps m 1 P) none (ps (kM m P) 1 P) from (kM_ps hSZ hSR) ▸ ct_X4_keep E (SR_ps hSR) (by have e : ps m 1 P 49 = m 49 := ps_ne (by omega); rw [e]; exact hSZ) hw) ?_
    refine j_aload0 (q := 33) dX7_writeBack_32 rfl ?_
    refine j_getR 0 (q := 36) dX7_writeBack_33 rfl fl_X7_10 (E.2.2 _ _ sh_0) rfl ?_
    refine j_callV0 (Mc := iX3_writeFirstBack) (q := 39) (c' := 0) (s' := 0) dX7_writeBack_36 rfl kV_X3_writeFirstBack jw_620 ⟨by decide, by decide⟩ (E.2.2 _ _ sh_1) rfl rfl rfl (Nat.le_refl _) (Nat.le_refl _) (ct_X3_writeFirstBack E hq (by assumption)) ?_
    exact j_ireturn dX7_writeBack_39 rfl (rfl) (rfl)
theorem ct_X7_pass {G : GX} {sh : List SH} (E : EV G sh) {m P : Mem} {t : Int} (r_t : -2147483648 ≤ t ∧ t < 2147483648) (hV : CV P) (hz : 0 ≤ P 0 0 ∧ P 0 0 ≤ 10000) (p0 : 1 ≤ t ∧ t ≤ 100) (p1 : P 0 0 + t ≤ 10000) (hSR : SR m) (hSZ : 0 ≤ m 49 0 ∧ m 49 0 ≤ 6) (hw : 0 ≤ P 0 10 ∧ P 0 10 ≤ 512) : CT G sh iX7_pass 0 0 [.inr (.ref 0), .inl t] (ps m 1 P) (some (.inl (cTkN t.toNat P 0 1))) (ps (kM m P) 1 (cTkN t.toNat P)) := by
  have hq : PA 1 := PA1
  refine j_met (L0 := [some (.inr (.ref 0)), some (.inl t)]) (by decide) E.1 E.2.1 rfl (Nat.le_of_ble_eq_true rfl) ?_
  refine j_iload1 (q := 1) dX7_pass_0 rfl ?_
  refine j_iconst (q := 2) dX7_pass_1 rfl ?_
  refine j_bipush (q := 4) dX7_pass_2 rfl rfl ?_
  refine j_callS3 (Mc := iX7_within) (q := 7) (c' := 0) (s' := 0) dX7_pass_4 rfl kS_X7_within jw_263 ⟨by decide, by decide⟩ rfl (Nat.le_refl _) (Nat.le_refl _) (ct_X7_within E (by omega) (by omega) (by omega)) ?_
  refine j_callS1v (Mc := iX7_requireArgument) (q := 10) (c' := 0) (s' := 0) dX7_pass_7 rfl kS_X7_requireArgument jw_336 ⟨by decide, by decide⟩ rfl (Nat.le_refl _) (Nat.le_refl _) (ct_X7_requireArgument E (by first | assumption | exact decide_eq_true (by omega) | (simp_all; done))) ?_
  refine j_aload0 (q := 11) dX7_pass_10 rfl ?_
  refine j_getR 0 (q := 14) dX7_pass_11 rfl fl_X7_10 (E.2.2 _ _ sh_0) rfl ?_
  refine j_pgetI (d := 0) rfl (by decide) 0 (j' := 0) (q := 17) dX7_pass_14 rfl fl_X7_168 (E.2.2 _ _ sh_1) rfl rfl ?_
  refine j_iload1 (q := 18) dX7_pass_17 rfl ?_
  refine j_iadd (q := 19) dX7_pass_18 rfl ?_
  refine j_sipush (q := 22) dX7_pass_19 rfl rfl ?_
  refine j_icmp_gt (tgt := 29) (q := 25) dX7_pass_22 (by decide) rfl (by first | exact wr_id' (by omega) (by omega) | with_reducible exact wr_bI _ | exact rfl) (by first | exact wr_id' (by omega) (by omega) | with_reducible exact wr_bI _ | exact rfl) (fun h22 => ?_) (fun h22 => ?_)
  · refine j_iconst (q := 30) dX7_pass_29 rfl ?_
    exfalso
    first | omega | (simp only [wi, decide_eq_true_eq, decide_eq_false_iff_not] at *; omega) | (simp_all [wi]; done) | (simp_all [wi]; omega)
  · refine j_iconst (q := 26) dX7_pass_25 rfl ?_
    refine j_goto (tgt := 30) dX7_pass_26 (by decide) ?_
    refine j_callS1v (Mc := iX7_requireState) (q := 33) (c' := 0) (s' := 0) dX7_pass_30 rfl kS_X7_requireState jw_714 ⟨by decide, by decide⟩ rfl (Nat.le_refl _) (Nat.le_refl _) (ct_X7_requireState (b := true) E rfl) ?_
    refine j_aload0 (q := 34) dX7_pass_33 rfl ?_
    refine j_getR 2 (q := 37) dX7_pass_34 rfl fl_X7_22 (E.2.2 _ _ sh_0) rfl ?_
    refine j_aload0 (q := 38) dX7_pass_37 rfl ?_
    refine j_getR 0 (q := 41) dX7_pass_38 rfl fl_X7_10 (E.2.2 _ _ sh_0) rfl ?_
    refine j_callV1v (Mc := iX4_keep) (q := 44) (c' := 0) (s' := 0) dX7_pass_41 rfl kV_X4_keep jw_355 ⟨by decide, by decide⟩ (E.2.2 _ _ sh_49) rfl rfl rfl (Nat.le_refl _) (Nat.le_refl _) (show CT G sh iX4_keep 0 0 [.inr (.ref 49), .inr (.ref 1)] (ps m 1 P) none (ps (kM m P) 1 P) from (kM_ps hSZ hSR) ▸ ct_X4_keep E (SR_ps hSR) (by have e : ps m 1 P 49 = m 49 := ps_ne (by omega); rw [e]; exact hSZ) hw) ?_
    refine j_aload0 (q := 45) dX7_pass_44 rfl ?_
    refine j_getR 0 (q := 48) dX7_pass_45 rfl fl_X7_10 (E.2.2 _ _ sh_0) rfl ?_
    refine j_iload1 (q := 49) dX7_pass_48 rfl ?_
    refine j_callV1v (Mc := iX3_letPass) (q := 52) (c' := 0) (s' := 0) dX7_pass_49 rfl kV_X3_letPass jw_812 ⟨by decide, by decide⟩ (E.2.2 _ _ sh_1) rfl rfl rfl (Nat.le_refl _) (Nat.le_refl _) (ct_X3_letPass E hq (by omega) (by assumption)) ?_
    refine j_aload0 (q := 53) dX7_pass_52 rfl ?_
    refine j_getR 0 (q := 56) dX7_pass_53 rfl fl_X7_10 (E.2.2 _ _ sh_0) rfl ?_
    refine j_pgetI (d := 0) rfl (by decide) 1 (j' := 1) (q := 59) dX7_pass_56 rfl fl_X7_124 (E.2.2 _ _ sh_1) rfl rfl ?_
    exact j_ireturn dX7_pass_59 rfl (rfl) (rfl)
def tPut (m : Mem) (c : Int) : Mem := up (up m 196 (m 195 0) c) 195 0 (m 195 0 + 1)
theorem ct_X7_append {G : GX} {sh : List SH} (E : EV G sh) {m : Mem} {c : Int} (r_c : -2147483648 ≤ c ∧ c < 2147483648) (hl : 0 ≤ m 195 0 ∧ m 195 0 ≤ 60) (p0 : 33 ≤ c ∧ c ≤ 126) (p1 : m 195 0 < 60) : CT G sh iX7_append 0 0 [.inr (.ref 0), .inl c] (m) (some (.inl (m 195 0 + 1))) (tPut m c) := by
  refine j_met (L0 := [some (.inr (.ref 0)), some (.inl c)]) (by decide) E.1 E.2.1 rfl (Nat.le_of_ble_eq_true rfl) ?_
  refine j_iload1 (q := 1) dX7_append_0 rfl ?_
  refine j_bipush (q := 3) dX7_append_1 rfl rfl ?_
  refine j_bipush (q := 5) dX7_append_3 rfl rfl ?_
  refine j_callS3 (Mc := iX7_within) (q := 8) (c' := 0) (s' := 0) dX7_append_5 rfl kS_X7_within jw_263 ⟨by decide, by decide⟩ rfl (Nat.le_refl _) (Nat.le_refl _) (ct_X7_within E (by omega) (by omega) (by omega)) ?_
  refine j_callS1v (Mc := iX7_requireArgument) (q := 11) (c' := 0) (s' := 0) dX7_append_8 rfl kS_X7_requireArgument jw_336 ⟨by decide, by decide⟩ rfl (Nat.le_refl _) (Nat.le_refl _) (ct_X7_requireArgument E (by first | assumption | exact decide_eq_true (by omega) | (simp_all; done))) ?_
  refine j_aload0 (q := 12) dX7_append_11 rfl ?_
  refine j_getR 3 (q := 15) dX7_append_12 rfl fl_X7_29 (E.2.2 _ _ sh_0) rfl ?_
  refine j_getI 0 (j' := 0) (q := 18) dX7_append_15 rfl fl_X7_174 (E.2.2 _ _ sh_195) rfl rfl ?_
  refine j_bipush (q := 20) dX7_append_18 rfl rfl ?_
  refine j_icmp_ge (tgt := 27) (q := 23) dX7_append_20 (by decide) rfl (by first | exact wr_id' (by omega) (by omega) | with_reducible exact wr_bI _ | exact rfl) (by first | exact wr_id' (by omega) (by omega) | with_reducible exact wr_bI _ | exact rfl) (fun h20 => ?_) (fun h20 => ?_)
  · refine j_iconst (q := 28) dX7_append_27 rfl ?_
    exfalso
    first | omega | (simp only [wi, decide_eq_true_eq, decide_eq_false_iff_not] at *; omega) | (simp_all [wi]; done) | (simp_all [wi]; omega)
  · refine j_iconst (q := 24) dX7_append_23 rfl ?_
    refine j_goto (tgt := 28) dX7_append_24 (by decide) ?_
    refine j_callS1v (Mc := iX7_requireState) (q := 31) (c' := 0) (s' := 0) dX7_append_28 rfl kS_X7_requireState jw_714 ⟨by decide, by decide⟩ rfl (Nat.le_refl _) (Nat.le_refl _) (ct_X7_requireState (b := true) E rfl) ?_
    refine j_aload0 (q := 32) dX7_append_31 rfl ?_
    refine j_getR 3 (q := 35) dX7_append_32 rfl fl_X7_29 (E.2.2 _ _ sh_0) rfl ?_
    refine j_iload1 (q := 36) dX7_append_35 rfl ?_
    refine j_callV1v (Mc := iX6_put) (q := 39) (c' := 0) (s' := 0) dX7_append_36 rfl kV_X6_put jw_828 ⟨by decide, by decide⟩ (E.2.2 _ _ sh_195) rfl rfl rfl (Nat.le_refl _) (Nat.le_refl _) (ct_X6_put E (by omega)) ?_
    refine j_aload0 (q := 40) dX7_append_39 rfl ?_
    refine j_getR 3 (q := 43) dX7_append_40 rfl fl_X7_29 (E.2.2 _ _ sh_0) rfl ?_
    refine j_getI 0 (j' := 0) (q := 46) dX7_append_43 rfl fl_X7_174 (E.2.2 _ _ sh_195) rfl rfl ?_
    exact j_ireturn dX7_append_46 rfl (by rw [up_at]) (rfl)
theorem ct_X7_clearBuffer {G : GX} {sh : List SH} (E : EV G sh) {m : Mem} : CT G sh iX7_clearBuffer 0 0 [.inr (.ref 0)] (m) (some (.inl (m 195 0))) (up m 195 0 0) := by
  refine j_met (L0 := [some (.inr (.ref 0)), none]) (by decide) E.1 E.2.1 rfl (Nat.le_of_ble_eq_true rfl) ?_
  refine j_aload0 (q := 1) dX7_clearBuffer_0 rfl ?_
  refine j_getR 3 (q := 4) dX7_clearBuffer_1 rfl fl_X7_29 (E.2.2 _ _ sh_0) rfl ?_
  refine j_getI 0 (j' := 0) (q := 7) dX7_clearBuffer_4 rfl fl_X7_174 (E.2.2 _ _ sh_195) rfl rfl ?_
  refine j_istore1 (q := 8) dX7_clearBuffer_7 rfl rfl (by decide) ?_
  refine j_aload0 (q := 9) dX7_clearBuffer_8 rfl ?_
  refine j_getR 3 (q := 12) dX7_clearBuffer_9 rfl fl_X7_29 (E.2.2 _ _ sh_0) rfl ?_
  refine j_iconst (q := 13) dX7_clearBuffer_12 rfl ?_
  refine j_putI 0 (j' := 0) (q := 16) dX7_clearBuffer_13 rfl fw_X7_174 (E.2.2 _ _ sh_195) rfl rfl ?_
  refine j_iload1 (q := 17) dX7_clearBuffer_16 rfl ?_
  exact j_ireturn dX7_clearBuffer_17 rfl (rfl) (rfl)

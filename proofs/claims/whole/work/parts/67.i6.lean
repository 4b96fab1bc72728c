/-! WRAPPERS, method by method -/
def hL_addTenant : HT := [(0, 9, 12, 13), (0, 9, 15, 15)]
theorem kW_L_addTenant : KSW iL_addTenant hL_addTenant 3 := ⟨jw_695, jw_0, ⟨by decide, by decide, by decide +kernel⟩, jw_694⟩
theorem lo_L_addTenant {G : GX} (E : EV G) {m m' : Mem} {v0 : Int} {r : Int} (hM : CT G SHP iX7_addTenant 0 0 [.inr (.ref 0), .inl v0] m (some (.inl r)) m') : CW G SHP iL_addTenant hL_addTenant 1 6 [.inr (.ref 0), .inl v0, .inr (.ref 206)] m (some (.inl 0)) (up m' 206 0 (i2 r).toInt) := by
  refine jw_met (L0 := [some (.inr (.ref 0)), some (.inl v0), some (.inr (.ref 206)), none]) (by decide) E.1 E.2 rfl (Nat.le_of_ble_eq_true rfl) ?_
  refine j_aload2 (q := 1) dL_addTenant_0 rfl ?_
  refine j_iconst (q := 2) dL_addTenant_1 rfl ?_
  refine j_aload0 (q := 3) dL_addTenant_2 rfl ?_
  refine j_iload1 (q := 4) dL_addTenant_3 rfl ?_
  refine j_callV1 (Mc := iX7_addTenant) (q := 7) (c' := 0) (s' := 0) dL_addTenant_4 rfl kV_X7_addTenant jw_698 ⟨by decide, by decide⟩ sh_0 rfl rfl rfl (by decide) (by decide) hM ?_
  refine j_i2l (q := 8) dL_addTenant_7 rfl ?_
  refine j_lastore (q := 9) (i' := 0) dL_addTenant_8 rfl sh_206 rfl (by decide) (by decide) ?_
  refine j_goto (tgt := 18) dL_addTenant_9 (by decide) ?_
  refine j_iconst (q := 19) dL_addTenant_18 rfl ?_
  exact jw_ireturn dL_addTenant_19 rfl (by decide) (by decide)
theorem lx_L_addTenant_1 {G : GX} (E : EV G) {m m' : Mem} {v0 : Int} (hM : CTX G SHP iX7_addTenant 1 6 [.inr (.ref 0), .inl v0] m jXA m') : CW G SHP iL_addTenant hL_addTenant 1 6 [.inr (.ref 0), .inl v0, .inr (.ref 206)] m (some (.inl 1)) m' := by
  refine jw_met (L0 := [some (.inr (.ref 0)), some (.inl v0), some (.inr (.ref 206)), none]) (by decide) E.1 E.2 rfl (Nat.le_of_ble_eq_true rfl) ?_
  refine j_aload2 (q := 1) dL_addTenant_0 rfl ?_
  refine j_iconst (q := 2) dL_addTenant_1 rfl ?_
  refine j_aload0 (q := 3) dL_addTenant_2 rfl ?_
  refine j_iload1 (q := 4) dL_addTenant_3 rfl ?_
  refine j_catchV1 (Mc := iX7_addTenant) (c' := 1) (s' := 6) (a := 0) (b := 9) (hpc := 12) (ct := 13) (i := 3) (q1 := 13) (pre := []) (suf := [(0, 9, 15, 15)]) dL_addTenant_4 kV_X7_addTenant jw_698 ⟨by decide, by decide⟩ sh_0 rfl rfl rfl (by decide) (by decide) hM rfl (fun _ h => absurd h List.not_mem_nil) ⟨by decide, by decide⟩ (by decide) jw_696 (by decide) (Or.inl ⟨3, dL_addTenant_12, rfl, rfl⟩) rfl rfl (by decide) ?_
  refine j_iconst (q := 14) dL_addTenant_13 rfl ?_
  exact jw_ireturn dL_addTenant_14 rfl (by decide) (by decide)
theorem lx_L_addTenant_2 {G : GX} (E : EV G) {m m' : Mem} {v0 : Int} (hM : CTX G SHP iX7_addTenant 1 6 [.inr (.ref 0), .inl v0] m jXS m') : CW G SHP iL_addTenant hL_addTenant 1 6 [.inr (.ref 0), .inl v0, .inr (.ref 206)] m (some (.inl 2)) m' := by
  refine jw_met (L0 := [some (.inr (.ref 0)), some (.inl v0), some (.inr (.ref 206)), none]) (by decide) E.1 E.2 rfl (Nat.le_of_ble_eq_true rfl) ?_
  refine j_aload2 (q := 1) dL_addTenant_0 rfl ?_
  refine j_iconst (q := 2) dL_addTenant_1 rfl ?_
  refine j_aload0 (q := 3) dL_addTenant_2 rfl ?_
  refine j_iload1 (q := 4) dL_addTenant_3 rfl ?_
  refine j_catchV1 (Mc := iX7_addTenant) (c' := 1) (s' := 6) (a := 0) (b := 9) (hpc := 15) (ct := 15) (i := 3) (q1 := 16) (pre := [(0, 9, 12, 13)]) (suf := []) dL_addTenant_4 kV_X7_addTenant jw_698 ⟨by decide, by decide⟩ sh_0 rfl rfl rfl (by decide) (by decide) hM rfl (fun y hy => by
    simp only [List.mem_cons, List.not_mem_nil, or_false] at hy
    rcases hy with rfl
    · exact ⟨by decide, jXA, jw_696, by decide⟩) ⟨by decide, by decide⟩ (by decide) jw_697 (by decide) (Or.inl ⟨3, dL_addTenant_15, rfl, rfl⟩) rfl rfl (by decide) ?_
  refine j_iconst (q := 17) dL_addTenant_16 rfl ?_
  exact jw_ireturn dL_addTenant_17 rfl (by decide) (by decide)
def hL_addInsurer : HT := [(0, 12, 15, 13), (0, 12, 19, 15)]
theorem kW_L_addInsurer : KSW iL_addInsurer hL_addInsurer 5 := ⟨jw_736, jw_0, ⟨by decide, by decide, by decide +kernel⟩, jw_735⟩
theorem lo_L_addInsurer {G : GX} (E : EV G) {m m' : Mem} {v0 v1 v2 : Int} {r : Int} (hM : CT G SHP iX7_addInsurer 0 0 [.inr (.ref 0), .inl v0, .inl v1, .inl v2] m (some (.inl r)) m') : CW G SHP iL_addInsurer hL_addInsurer 1 6 [.inr (.ref 0), .inl v0, .inl v1, .inl v2, .inr (.ref 206)] m (some (.inl 0)) (up m' 206 0 (i2 r).toInt) := by
  refine jw_met (L0 := [some (.inr (.ref 0)), some (.inl v0), some (.inl v1), some (.inl v2), some (.inr (.ref 206)), none]) (by decide) E.1 E.2 rfl (Nat.le_of_ble_eq_true rfl) ?_
  refine j_aload4 (q := 2) dL_addInsurer_0 rfl ?_
  refine j_iconst (q := 3) dL_addInsurer_2 rfl ?_
  refine j_aload0 (q := 4) dL_addInsurer_3 rfl ?_
  refine j_iload1 (q := 5) dL_addInsurer_4 rfl ?_
  refine j_iload2 (q := 6) dL_addInsurer_5 rfl ?_
  refine j_iload3 (q := 7) dL_addInsurer_6 rfl ?_
  refine j_callV3 (Mc := iX7_addInsurer) (q := 10) (c' := 0) (s' := 0) dL_addInsurer_7 rfl kV_X7_addInsurer jw_737 ⟨by decide, by decide⟩ sh_0 rfl rfl rfl (by decide) (by decide) hM ?_
  refine j_i2l (q := 11) dL_addInsurer_10 rfl ?_
  refine j_lastore (q := 12) (i' := 0) dL_addInsurer_11 rfl sh_206 rfl (by decide) (by decide) ?_
  refine j_goto (tgt := 23) dL_addInsurer_12 (by decide) ?_
  refine j_iconst (q := 24) dL_addInsurer_23 rfl ?_
  exact jw_ireturn dL_addInsurer_24 rfl (by decide) (by decide)
theorem lx_L_addInsurer_1 {G : GX} (E : EV G) {m m' : Mem} {v0 v1 v2 : Int} (hM : CTX G SHP iX7_addInsurer 1 6 [.inr (.ref 0), .inl v0, .inl v1, .inl v2] m jXA m') : CW G SHP iL_addInsurer hL_addInsurer 1 6 [.inr (.ref 0), .inl v0, .inl v1, .inl v2, .inr (.ref 206)] m (some (.inl 1)) m' := by
  refine jw_met (L0 := [some (.inr (.ref 0)), some (.inl v0), some (.inl v1), some (.inl v2), some (.inr (.ref 206)), none]) (by decide) E.1 E.2 rfl (Nat.le_of_ble_eq_true rfl) ?_
  refine j_aload4 (q := 2) dL_addInsurer_0 rfl ?_
  refine j_iconst (q := 3) dL_addInsurer_2 rfl ?_
  refine j_aload0 (q := 4) dL_addInsurer_3 rfl ?_
  refine j_iload1 (q := 5) dL_addInsurer_4 rfl ?_
  refine j_iload2 (q := 6) dL_addInsurer_5 rfl ?_
  refine j_iload3 (q := 7) dL_addInsurer_6 rfl ?_
  refine j_catchV3 (Mc := iX7_addInsurer) (c' := 1) (s' := 6) (a := 0) (b := 12) (hpc := 15) (ct := 13) (i := 5) (q1 := 17) (pre := []) (suf := [(0, 12, 19, 15)]) dL_addInsurer_7 kV_X7_addInsurer jw_737 ⟨by decide, by decide⟩ sh_0 rfl rfl rfl (by decide) (by decide) hM rfl (fun _ h => absurd h List.not_mem_nil) ⟨by decide, by decide⟩ (by decide) jw_696 (by decide) (Or.inr ⟨dL_addInsurer_15, rfl⟩) rfl rfl (by decide) ?_
  refine j_iconst (q := 18) dL_addInsurer_17 rfl ?_
  exact jw_ireturn dL_addInsurer_18 rfl (by decide) (by decide)
theorem lx_L_addInsurer_2 {G : GX} (E : EV G) {m m' : Mem} {v0 v1 v2 : Int} (hM : CTX G SHP iX7_addInsurer 1 6 [.inr (.ref 0), .inl v0, .inl v1, .inl v2] m jXS m') : CW G SHP iL_addInsurer hL_addInsurer 1 6 [.inr (.ref 0), .inl v0, .inl v1, .inl v2, .inr (.ref 206)] m (some (.inl 2)) m' := by
  refine jw_met (L0 := [some (.inr (.ref 0)), some (.inl v0), some (.inl v1), some (.inl v2), some (.inr (.ref 206)), none]) (by decide) E.1 E.2 rfl (Nat.le_of_ble_eq_true rfl) ?_
  refine j_aload4 (q := 2) dL_addInsurer_0 rfl ?_
  refine j_iconst (q := 3) dL_addInsurer_2 rfl ?_
  refine j_aload0 (q := 4) dL_addInsurer_3 rfl ?_
  refine j_iload1 (q := 5) dL_addInsurer_4 rfl ?_
  refine j_iload2 (q := 6) dL_addInsurer_5 rfl ?_
  refine j_iload3 (q := 7) dL_addInsurer_6 rfl ?_
  refine j_catchV3 (Mc := iX7_addInsurer) (c' := 1) (s' := 6) (a := 0) (b := 12) (hpc := 19) (ct := 15) (i := 5) (q1 := 21) (pre := [(0, 12, 15, 13)]) (suf := []) dL_addInsurer_7 kV_X7_addInsurer jw_737 ⟨by decide, by decide⟩ sh_0 rfl rfl rfl (by decide) (by decide) hM rfl (fun y hy => by
    simp only [List.mem_cons, List.not_mem_nil, or_false] at hy
    rcases hy with rfl
    · exact ⟨by decide, jXA, jw_696, by decide⟩) ⟨by decide, by decide⟩ (by decide) jw_697 (by decide) (Or.inr ⟨dL_addInsurer_19, rfl⟩) rfl rfl (by decide) ?_
  refine j_iconst (q := 22) dL_addInsurer_21 rfl ?_
  exact jw_ireturn dL_addInsurer_22 rfl (by decide) (by decide)
def hL_set : HT := [(0, 10, 13, 25), (0, 10, 17, 13)]
theorem kW_L_set : KSW iL_set hL_set 4 := ⟨jw_747, jw_0, ⟨by decide, by decide, by decide +kernel⟩, jw_746⟩
theorem lo_L_set {G : GX} (E : EV G) {m m' : Mem} {v0 v1 : Int} {r : Int} (hM : CT G SHP iX7_set 0 0 [.inr (.ref 0), .inl v0, .inl v1] m (some (.inl r)) m') : CW G SHP iL_set hL_set 1 6 [.inr (.ref 0), .inl v0, .inl v1, .inr (.ref 206)] m (some (.inl 0)) (up m' 206 0 (i2 r).toInt) := by
  refine jw_met (L0 := [some (.inr (.ref 0)), some (.inl v0), some (.inl v1), some (.inr (.ref 206)), none]) (by decide) E.1 E.2 rfl (Nat.le_of_ble_eq_true rfl) ?_
  refine j_aload3 (q := 1) dL_set_0 rfl ?_
  refine j_iconst (q := 2) dL_set_1 rfl ?_
  refine j_aload0 (q := 3) dL_set_2 rfl ?_
  refine j_iload1 (q := 4) dL_set_3 rfl ?_
  refine j_iload2 (q := 5) dL_set_4 rfl ?_
  refine j_callV2 (Mc := iX7_set) (q := 8) (c' := 0) (s' := 0) dL_set_5 rfl kV_X7_set jw_749 ⟨by decide, by decide⟩ sh_0 rfl rfl rfl (by decide) (by decide) hM ?_
  refine j_i2l (q := 9) dL_set_8 rfl ?_
  refine j_lastore (q := 10) (i' := 0) dL_set_9 rfl sh_206 rfl (by decide) (by decide) ?_
  refine j_goto (tgt := 21) dL_set_10 (by decide) ?_
  refine j_iconst (q := 22) dL_set_21 rfl ?_
  exact jw_ireturn dL_set_22 rfl (by decide) (by decide)
theorem lx_L_set_1 {G : GX} (E : EV G) {m m' : Mem} {v0 v1 : Int} (hM : CTX G SHP iX7_set 1 6 [.inr (.ref 0), .inl v0, .inl v1] m jXO m') : CW G SHP iL_set hL_set 1 6 [.inr (.ref 0), .inl v0, .inl v1, .inr (.ref 206)] m (some (.inl 1)) m' := by
  refine jw_met (L0 := [some (.inr (.ref 0)), some (.inl v0), some (.inl v1), some (.inr (.ref 206)), none]) (by decide) E.1 E.2 rfl (Nat.le_of_ble_eq_true rfl) ?_
  refine j_aload3 (q := 1) dL_set_0 rfl ?_
  refine j_iconst (q := 2) dL_set_1 rfl ?_
  refine j_aload0 (q := 3) dL_set_2 rfl ?_
  refine j_iload1 (q := 4) dL_set_3 rfl ?_
  refine j_iload2 (q := 5) dL_set_4 rfl ?_
  refine j_catchV2 (Mc := iX7_set) (c' := 1) (s' := 6) (a := 0) (b := 10) (hpc := 13) (ct := 25) (i := 4) (q1 := 15) (pre := []) (suf := [(0, 10, 17, 13)]) dL_set_5 kV_X7_set jw_749 ⟨by decide, by decide⟩ sh_0 rfl rfl rfl (by decide) (by decide) hM rfl (fun _ h => absurd h List.not_mem_nil) ⟨by decide, by decide⟩ (by decide) jw_748 (by decide) (Or.inr ⟨dL_set_13, rfl⟩) rfl rfl (by decide) ?_
  refine j_iconst (q := 16) dL_set_15 rfl ?_
  exact jw_ireturn dL_set_16 rfl (by decide) (by decide)
theorem lx_L_set_2 {G : GX} (E : EV G) {m m' : Mem} {v0 v1 : Int} (hM : CTX G SHP iX7_set 1 6 [.inr (.ref 0), .inl v0, .inl v1] m jXA m') : CW G SHP iL_set hL_set 1 6 [.inr (.ref 0), .inl v0, .inl v1, .inr (.ref 206)] m (some (.inl 2)) m' := by
  refine jw_met (L0 := [some (.inr (.ref 0)), some (.inl v0), some (.inl v1), some (.inr (.ref 206)), none]) (by decide) E.1 E.2 rfl (Nat.le_of_ble_eq_true rfl) ?_
  refine j_aload3 (q := 1) dL_set_0 rfl ?_
  refine j_iconst (q := 2) dL_set_1 rfl ?_
  refine j_aload0 (q := 3) dL_set_2 rfl ?_
  refine j_iload1 (q := 4) dL_set_3 rfl ?_
  refine j_iload2 (q := 5) dL_set_4 rfl ?_
  refine j_catchV2 (Mc := iX7_set) (c' := 1) (s' := 6) (a := 0) (b := 10) (hpc := 17) (ct := 13) (i := 4) (q1 := 19) (pre := [(0, 10, 13, 25)]) (suf := []) dL_set_5 kV_X7_set jw_749 ⟨by decide, by decide⟩ sh_0 rfl rfl rfl (by decide) (by decide) hM rfl (fun y hy => by
    simp only [List.mem_cons, List.not_mem_nil, or_false] at hy
    rcases hy with rfl
    · exact ⟨by decide, jXO, jw_748, by decide⟩) ⟨by decide, by decide⟩ (by decide) jw_696 (by decide) (Or.inr ⟨dL_set_17, rfl⟩) rfl rfl (by decide) ?_
  refine j_iconst (q := 20) dL_set_19 rfl ?_
  exact jw_ireturn dL_set_20 rfl (by decide) (by decide)
def hL_lease : HT := [(0, 12, 15, 25), (0, 12, 19, 13), (0, 12, 23, 15)]
theorem kW_L_lease : KSW iL_lease hL_lease 5 := ⟨jw_757, jw_0, ⟨by decide, by decide, by decide +kernel⟩, jw_756⟩
theorem lo_L_lease {G : GX} (E : EV G) {m m' : Mem} {v0 v1 v2 : Int} {r : Int} (hM : CT G SHP iX7_lease 0 0 [.inr (.ref 0), .inl v0, .inl v1, .inl v2] m (some (.inl r)) m') : CW G SHP iL_lease hL_lease 1 6 [.inr (.ref 0), .inl v0, .inl v1, .inl v2, .inr (.ref 206)] m (some (.inl 0)) (up m' 206 0 (i2 r).toInt) := by
  refine jw_met (L0 := [some (.inr (.ref 0)), some (.inl v0), some (.inl v1), some (.inl v2), some (.inr (.ref 206)), none]) (by decide) E.1 E.2 rfl (Nat.le_of_ble_eq_true rfl) ?_
  refine j_aload4 (q := 2) dL_lease_0 rfl ?_
  refine j_iconst (q := 3) dL_lease_2 rfl ?_
  refine j_aload0 (q := 4) dL_lease_3 rfl ?_
  refine j_iload1 (q := 5) dL_lease_4 rfl ?_
  refine j_iload2 (q := 6) dL_lease_5 rfl ?_
  refine j_iload3 (q := 7) dL_lease_6 rfl ?_
  refine j_callV3 (Mc := iX7_lease) (q := 10) (c' := 0) (s' := 0) dL_lease_7 rfl kV_X7_lease jw_758 ⟨by decide, by decide⟩ sh_0 rfl rfl rfl (by decide) (by decide) hM ?_
  refine j_i2l (q := 11) dL_lease_10 rfl ?_
  refine j_lastore (q := 12) (i' := 0) dL_lease_11 rfl sh_206 rfl (by decide) (by decide) ?_
  refine j_goto (tgt := 27) dL_lease_12 (by decide) ?_
  refine j_iconst (q := 28) dL_lease_27 rfl ?_
  exact jw_ireturn dL_lease_28 rfl (by decide) (by decide)
theorem lx_L_lease_1 {G : GX} (E : EV G) {m m' : Mem} {v0 v1 v2 : Int} (hM : CTX G SHP iX7_lease 1 6 [.inr (.ref 0), .inl v0, .inl v1, .inl v2] m jXO m') : CW G SHP iL_lease hL_lease 1 6 [.inr (.ref 0), .inl v0, .inl v1, .inl v2, .inr (.ref 206)] m (some (.inl 1)) m' := by
  refine jw_met (L0 := [some (.inr (.ref 0)), some (.inl v0), some (.inl v1), some (.inl v2), some (.inr (.ref 206)), none]) (by decide) E.1 E.2 rfl (Nat.le_of_ble_eq_true rfl) ?_
  refine j_aload4 (q := 2) dL_lease_0 rfl ?_
  refine j_iconst (q := 3) dL_lease_2 rfl ?_
  refine j_aload0 (q := 4) dL_lease_3 rfl ?_
  refine j_iload1 (q := 5) dL_lease_4 rfl ?_
  refine j_iload2 (q := 6) dL_lease_5 rfl ?_
  refine j_iload3 (q := 7) dL_lease_6 rfl ?_
  refine j_catchV3 (Mc := iX7_lease) (c' := 1) (s' := 6) (a := 0) (b := 12) (hpc := 15) (ct := 25) (i := 5) (q1 := 17) (pre := []) (suf := [(0, 12, 19, 13), (0, 12, 23, 15)]) dL_lease_7 kV_X7_lease jw_758 ⟨by decide, by decide⟩ sh_0 rfl rfl rfl (by decide) (by decide) hM rfl (fun _ h => absurd h List.not_mem_nil) ⟨by decide, by decide⟩ (by decide) jw_748 (by decide) (Or.inr ⟨dL_lease_15, rfl⟩) rfl rfl (by decide) ?_
  refine j_iconst (q := 18) dL_lease_17 rfl ?_
  exact jw_ireturn dL_lease_18 rfl (by decide) (by decide)
theorem lx_L_lease_2 {G : GX} (E : EV G) {m m' : Mem} {v0 v1 v2 : Int} (hM : CTX G SHP iX7_lease 1 6 [.inr (.ref 0), .inl v0, .inl v1, .inl v2] m jXA m') : CW G SHP iL_lease hL_lease 1 6 [.inr (.ref 0), .inl v0, .inl v1, .inl v2, .inr (.ref 206)] m (some (.inl 2)) m' := by
  refine jw_met (L0 := [some (.inr (.ref 0)), some (.inl v0), some (.inl v1), some (.inl v2), some (.inr (.ref 206)), none]) (by decide) E.1 E.2 rfl (Nat.le_of_ble_eq_true rfl) ?_
  refine j_aload4 (q := 2) dL_lease_0 rfl ?_
  refine j_iconst (q := 3) dL_lease_2 rfl ?_
  refine j_aload0 (q := 4) dL_lease_3 rfl ?_
  refine j_iload1 (q := 5) dL_lease_4 rfl ?_
  refine j_iload2 (q := 6) dL_lease_5 rfl ?_
  refine j_iload3 (q := 7) dL_lease_6 rfl ?_
  refine j_catchV3 (Mc := iX7_lease) (c' := 1) (s' := 6) (a := 0) (b := 12) (hpc := 19) (ct := 13) (i := 5) (q1 := 21) (pre := [(0, 12, 15, 25)]) (suf := [(0, 12, 23, 15)]) dL_lease_7 kV_X7_lease jw_758 ⟨by decide, by decide⟩ sh_0 rfl rfl rfl (by decide) (by decide) hM rfl (fun y hy => by
    simp only [List.mem_cons, List.not_mem_nil, or_false] at hy
    rcases hy with rfl
    · exact ⟨by decide, jXO, jw_748, by decide⟩) ⟨by decide, by decide⟩ (by decide) jw_696 (by decide) (Or.inr ⟨dL_lease_19, rfl⟩) rfl rfl (by decide) ?_
  refine j_iconst (q := 22) dL_lease_21 rfl ?_
  exact jw_ireturn dL_lease_22 rfl (by decide) (by decide)
theorem lx_L_lease_3 {G : GX} (E : EV G) {m m' : Mem} {v0 v1 v2 : Int} (hM : CTX G SHP iX7_lease 1 6 [.inr (.ref 0), .inl v0, .inl v1, .inl v2] m jXS m') : CW G SHP iL_lease hL_lease 1 6 [.inr (.ref 0), .inl v0, .inl v1, .inl v2, .inr (.ref 206)] m (some (.inl 3)) m' := by
  refine jw_met (L0 := [some (.inr (.ref 0)), some (.inl v0), some (.inl v1), some (.inl v2), some (.inr (.ref 206)), none]) (by decide) E.1 E.2 rfl (Nat.le_of_ble_eq_true rfl) ?_
  refine j_aload4 (q := 2) dL_lease_0 rfl ?_
  refine j_iconst (q := 3) dL_lease_2 rfl ?_
  refine j_aload0 (q := 4) dL_lease_3 rfl ?_
  refine j_iload1 (q := 5) dL_lease_4 rfl ?_
  refine j_iload2 (q := 6) dL_lease_5 rfl ?_
  refine j_iload3 (q := 7) dL_lease_6 rfl ?_
  refine j_catchV3 (Mc := iX7_lease) (c' := 1) (s' := 6) (a := 0) (b := 12) (hpc := 23) (ct := 15) (i := 5) (q1 := 25) (pre := [(0, 12, 15, 25), (0, 12, 19, 13)]) (suf := []) dL_lease_7 kV_X7_lease jw_758 ⟨by decide, by decide⟩ sh_0 rfl rfl rfl (by decide) (by decide) hM rfl (fun y hy => by
    simp only [List.mem_cons, List.not_mem_nil, or_false] at hy
    rcases hy with rfl | rfl
    · exact ⟨by decide, jXO, jw_748, by decide⟩
    · exact ⟨by decide, jXA, jw_696, by decide⟩) ⟨by decide, by decide⟩ (by decide) jw_697 (by decide) (Or.inr ⟨dL_lease_23, rfl⟩) rfl rfl (by decide) ?_
  refine j_iconst (q := 26) dL_lease_25 rfl ?_
  exact jw_ireturn dL_lease_26 rfl (by decide) (by decide)
def hL_insure : HT := [(0, 12, 15, 25), (0, 12, 19, 13), (0, 12, 23, 15)]
theorem kW_L_insure : KSW iL_insure hL_insure 5 := ⟨jw_774, jw_0, ⟨by decide, by decide, by decide +kernel⟩, jw_773⟩
theorem lo_L_insure {G : GX} (E : EV G) {m m' : Mem} {v0 v1 v2 : Int} {r : Int} (hM : CT G SHP iX7_insure 0 0 [.inr (.ref 0), .inl v0, .inl v1, .inl v2] m (some (.inl r)) m') : CW G SHP iL_insure hL_insure 1 6 [.inr (.ref 0), .inl v0, .inl v1, .inl v2, .inr (.ref 206)] m (some (.inl 0)) (up m' 206 0 (i2 r).toInt) := by
  refine jw_met (L0 := [some (.inr (.ref 0)), some (.inl v0), some (.inl v1), some (.inl v2), some (.inr (.ref 206)), none]) (by decide) E.1 E.2 rfl (Nat.le_of_ble_eq_true rfl) ?_
  refine j_aload4 (q := 2) dL_insure_0 rfl ?_
  refine j_iconst (q := 3) dL_insure_2 rfl ?_
  refine j_aload0 (q := 4) dL_insure_3 rfl ?_
  refine j_iload1 (q := 5) dL_insure_4 rfl ?_
  refine j_iload2 (q := 6) dL_insure_5 rfl ?_
  refine j_iload3 (q := 7) dL_insure_6 rfl ?_
  refine j_callV3 (Mc := iX7_insure) (q := 10) (c' := 0) (s' := 0) dL_insure_7 rfl kV_X7_insure jw_775 ⟨by decide, by decide⟩ sh_0 rfl rfl rfl (by decide) (by decide) hM ?_
  refine j_i2l (q := 11) dL_insure_10 rfl ?_
  refine j_lastore (q := 12) (i' := 0) dL_insure_11 rfl sh_206 rfl (by decide) (by decide) ?_
  refine j_goto (tgt := 27) dL_insure_12 (by decide) ?_
  refine j_iconst (q := 28) dL_insure_27 rfl ?_
  exact jw_ireturn dL_insure_28 rfl (by decide) (by decide)
theorem lx_L_insure_1 {G : GX} (E : EV G) {m m' : Mem} {v0 v1 v2 : Int} (hM : CTX G SHP iX7_insure 1 6 [.inr (.ref 0), .inl v0, .inl v1, .inl v2] m jXO m') : CW G SHP iL_insure hL_insure 1 6 [.inr (.ref 0), .inl v0, .inl v1, .inl v2, .inr (.ref 206)] m (some (.inl 1)) m' := by
  refine jw_met (L0 := [some (.inr (.ref 0)), some (.inl v0), some (.inl v1), some (.inl v2), some (.inr (.ref 206)), none]) (by decide) E.1 E.2 rfl (Nat.le_of_ble_eq_true rfl) ?_
  refine j_aload4 (q := 2) dL_insure_0 rfl ?_
  refine j_iconst (q := 3) dL_insure_2 rfl ?_
  refine j_aload0 (q := 4) dL_insure_3 rfl ?_
  refine j_iload1 (q := 5) dL_insure_4 rfl ?_
  refine j_iload2 (q := 6) dL_insure_5 rfl ?_
  refine j_iload3 (q := 7) dL_insure_6 rfl ?_
  refine j_catchV3 (Mc := iX7_insure) (c' := 1) (s' := 6) (a := 0) (b := 12) (hpc := 15) (ct := 25) (i := 5) (q1 := 17) (pre := []) (suf := [(0, 12, 19, 13), (0, 12, 23, 15)]) dL_insure_7 kV_X7_insure jw_775 ⟨by decide, by decide⟩ sh_0 rfl rfl rfl (by decide) (by decide) hM rfl (fun _ h => absurd h List.not_mem_nil) ⟨by decide, by decide⟩ (by decide) jw_748 (by decide) (Or.inr ⟨dL_insure_15, rfl⟩) rfl rfl (by decide) ?_
  refine j_iconst (q := 18) dL_insure_17 rfl ?_
  exact jw_ireturn dL_insure_18 rfl (by decide) (by decide)
theorem lx_L_insure_2 {G : GX} (E : EV G) {m m' : Mem} {v0 v1 v2 : Int} (hM : CTX G SHP iX7_insure 1 6 [.inr (.ref 0), .inl v0, .inl v1, .inl v2] m jXA m') : CW G SHP iL_insure hL_insure 1 6 [.inr (.ref 0), .inl v0, .inl v1, .inl v2, .inr (.ref 206)] m (some (.inl 2)) m' := by
  refine jw_met (L0 := [some (.inr (.ref 0)), some (.inl v0), some (.inl v1), some (.inl v2), some (.inr (.ref 206)), none]) (by decide) E.1 E.2 rfl (Nat.le_of_ble_eq_true rfl) ?_
  refine j_aload4 (q := 2) dL_insure_0 rfl ?_
  refine j_iconst (q := 3) dL_insure_2 rfl ?_
  refine j_aload0 (q := 4) dL_insure_3 rfl ?_
  refine j_iload1 (q := 5) dL_insure_4 rfl ?_
  refine j_iload2 (q := 6) dL_insure_5 rfl ?_
  refine j_iload3 (q := 7) dL_insure_6 rfl ?_
  refine j_catchV3 (Mc := iX7_insure) (c' := 1) (s' := 6) (a := 0) (b := 12) (hpc := 19) (ct := 13) (i := 5) (q1 := 21) (pre := [(0, 12, 15, 25)]) (suf := [(0, 12, 23, 15)]) dL_insure_7 kV_X7_insure jw_775 ⟨by decide, by decide⟩ sh_0 rfl rfl rfl (by decide) (by decide) hM rfl (fun y hy => by
    simp only [List.mem_cons, List.not_mem_nil, or_false] at hy
    rcases hy with rfl
    · exact ⟨by decide, jXO, jw_748, by decide⟩) ⟨by decide, by decide⟩ (by decide) jw_696 (by decide) (Or.inr ⟨dL_insure_19, rfl⟩) rfl rfl (by decide) ?_
  refine j_iconst (q := 22) dL_insure_21 rfl ?_
  exact jw_ireturn dL_insure_22 rfl (by decide) (by decide)
theorem lx_L_insure_3 {G : GX} (E : EV G) {m m' : Mem} {v0 v1 v2 : Int} (hM : CTX G SHP iX7_insure 1 6 [.inr (.ref 0), .inl v0, .inl v1, .inl v2] m jXS m') : CW G SHP iL_insure hL_insure 1 6 [.inr (.ref 0), .inl v0, .inl v1, .inl v2, .inr (.ref 206)] m (some (.inl 3)) m' := by
  refine jw_met (L0 := [some (.inr (.ref 0)), some (.inl v0), some (.inl v1), some (.inl v2), some (.inr (.ref 206)), none]) (by decide) E.1 E.2 rfl (Nat.le_of_ble_eq_true rfl) ?_
  refine j_aload4 (q := 2) dL_insure_0 rfl ?_
  refine j_iconst (q := 3) dL_insure_2 rfl ?_
  refine j_aload0 (q := 4) dL_insure_3 rfl ?_
  refine j_iload1 (q := 5) dL_insure_4 rfl ?_
  refine j_iload2 (q := 6) dL_insure_5 rfl ?_
  refine j_iload3 (q := 7) dL_insure_6 rfl ?_
  refine j_catchV3 (Mc := iX7_insure) (c' := 1) (s' := 6) (a := 0) (b := 12) (hpc := 23) (ct := 15) (i := 5) (q1 := 25) (pre := [(0, 12, 15, 25), (0, 12, 19, 13)]) (suf := []) dL_insure_7 kV_X7_insure jw_775 ⟨by decide, by decide⟩ sh_0 rfl rfl rfl (by decide) (by decide) hM rfl (fun y hy => by
    simp only [List.mem_cons, List.not_mem_nil, or_false] at hy
    rcases hy with rfl | rfl
    · exact ⟨by decide, jXO, jw_748, by decide⟩
    · exact ⟨by decide, jXA, jw_696, by decide⟩) ⟨by decide, by decide⟩ (by decide) jw_697 (by decide) (Or.inr ⟨dL_insure_23, rfl⟩) rfl rfl (by decide) ?_
  refine j_iconst (q := 26) dL_insure_25 rfl ?_
  exact jw_ireturn dL_insure_26 rfl (by decide) (by decide)
def hL_renew : HT := [(0, 9, 12, 25), (0, 9, 15, 15)]
theorem kW_L_renew : KSW iL_renew hL_renew 3 := ⟨jw_790, jw_0, ⟨by decide, by decide, by decide +kernel⟩, jw_789⟩
theorem lo_L_renew {G : GX} (E : EV G) {m m' : Mem} {v0 : Int} {r : Int} (hM : CT G SHP iX7_renew 0 0 [.inr (.ref 0), .inl v0] m (some (.inl r)) m') : CW G SHP iL_renew hL_renew 1 6 [.inr (.ref 0), .inl v0, .inr (.ref 206)] m (some (.inl 0)) (up m' 206 0 (i2 r).toInt) := by
  refine jw_met (L0 := [some (.inr (.ref 0)), some (.inl v0), some (.inr (.ref 206)), none]) (by decide) E.1 E.2 rfl (Nat.le_of_ble_eq_true rfl) ?_
  refine j_aload2 (q := 1) dL_renew_0 rfl ?_
  refine j_iconst (q := 2) dL_renew_1 rfl ?_
  refine j_aload0 (q := 3) dL_renew_2 rfl ?_
  refine j_iload1 (q := 4) dL_renew_3 rfl ?_
  refine j_callV1 (Mc := iX7_renew) (q := 7) (c' := 0) (s' := 0) dL_renew_4 rfl kV_X7_renew jw_791 ⟨by decide, by decide⟩ sh_0 rfl rfl rfl (by decide) (by decide) hM ?_
  refine j_i2l (q := 8) dL_renew_7 rfl ?_
  refine j_lastore (q := 9) (i' := 0) dL_renew_8 rfl sh_206 rfl (by decide) (by decide) ?_
  refine j_goto (tgt := 18) dL_renew_9 (by decide) ?_
  refine j_iconst (q := 19) dL_renew_18 rfl ?_
  exact jw_ireturn dL_renew_19 rfl (by decide) (by decide)
theorem lx_L_renew_1 {G : GX} (E : EV G) {m m' : Mem} {v0 : Int} (hM : CTX G SHP iX7_renew 1 6 [.inr (.ref 0), .inl v0] m jXO m') : CW G SHP iL_renew hL_renew 1 6 [.inr (.ref 0), .inl v0, .inr (.ref 206)] m (some (.inl 1)) m' := by
  refine jw_met (L0 := [some (.inr (.ref 0)), some (.inl v0), some (.inr (.ref 206)), none]) (by decide) E.1 E.2 rfl (Nat.le_of_ble_eq_true rfl) ?_
  refine j_aload2 (q := 1) dL_renew_0 rfl ?_
  refine j_iconst (q := 2) dL_renew_1 rfl ?_
  refine j_aload0 (q := 3) dL_renew_2 rfl ?_
  refine j_iload1 (q := 4) dL_renew_3 rfl ?_
  refine j_catchV1 (Mc := iX7_renew) (c' := 1) (s' := 6) (a := 0) (b := 9) (hpc := 12) (ct := 25) (i := 3) (q1 := 13) (pre := []) (suf := [(0, 9, 15, 15)]) dL_renew_4 kV_X7_renew jw_791 ⟨by decide, by decide⟩ sh_0 rfl rfl rfl (by decide) (by decide) hM rfl (fun _ h => absurd h List.not_mem_nil) ⟨by decide, by decide⟩ (by decide) jw_748 (by decide) (Or.inl ⟨3, dL_renew_12, rfl, rfl⟩) rfl rfl (by decide) ?_
  refine j_iconst (q := 14) dL_renew_13 rfl ?_
  exact jw_ireturn dL_renew_14 rfl (by decide) (by decide)
theorem lx_L_renew_2 {G : GX} (E : EV G) {m m' : Mem} {v0 : Int} (hM : CTX G SHP iX7_renew 1 6 [.inr (.ref 0), .inl v0] m jXS m') : CW G SHP iL_renew hL_renew 1 6 [.inr (.ref 0), .inl v0, .inr (.ref 206)] m (some (.inl 2)) m' := by
  refine jw_met (L0 := [some (.inr (.ref 0)), some (.inl v0), some (.inr (.ref 206)), none]) (by decide) E.1 E.2 rfl (Nat.le_of_ble_eq_true rfl) ?_
  refine j_aload2 (q := 1) dL_renew_0 rfl ?_
  refine j_iconst (q := 2) dL_renew_1 rfl ?_
  refine j_aload0 (q := 3) dL_renew_2 rfl ?_
  refine j_iload1 (q := 4) dL_renew_3 rfl ?_
  refine j_catchV1 (Mc := iX7_renew) (c' := 1) (s' := 6) (a := 0) (b := 9) (hpc := 15) (ct := 15) (i := 3) (q1 := 16) (pre := [(0, 9, 12, 25)]) (suf := []) dL_renew_4 kV_X7_renew jw_791 ⟨by decide, by decide⟩ sh_0 rfl rfl rfl (by decide) (by decide) hM rfl (fun y hy => by
    simp only [List.mem_cons, List.not_mem_nil, or_false] at hy
    rcases hy with rfl
    · exact ⟨by decide, jXO, jw_748, by decide⟩) ⟨by decide, by decide⟩ (by decide) jw_697 (by decide) (Or.inl ⟨3, dL_renew_15, rfl, rfl⟩) rfl rfl (by decide) ?_
  refine j_iconst (q := 17) dL_renew_16 rfl ?_
  exact jw_ireturn dL_renew_17 rfl (by decide) (by decide)
def hL_write : HT := [(0, 10, 13, 25), (0, 10, 17, 15)]
theorem kW_L_write : KSW iL_write hL_write 4 := ⟨jw_801, jw_0, ⟨by decide, by decide, by decide +kernel⟩, jw_800⟩
theorem lo_L_write {G : GX} (E : EV G) {m m' : Mem} {v0 v1 : Int} {r : Int} (hM : CT G SHP iX7_write 0 0 [.inr (.ref 0), .inl v0, .inl v1] m (some (.inl r)) m') : CW G SHP iL_write hL_write 1 6 [.inr (.ref 0), .inl v0, .inl v1, .inr (.ref 206)] m (some (.inl 0)) (up m' 206 0 (i2 r).toInt) := by
  refine jw_met (L0 := [some (.inr (.ref 0)), some (.inl v0), some (.inl v1), some (.inr (.ref 206)), none]) (by decide) E.1 E.2 rfl (Nat.le_of_ble_eq_true rfl) ?_
  refine j_aload3 (q := 1) dL_write_0 rfl ?_
  refine j_iconst (q := 2) dL_write_1 rfl ?_
  refine j_aload0 (q := 3) dL_write_2 rfl ?_
  refine j_iload1 (q := 4) dL_write_3 rfl ?_
  refine j_iload2 (q := 5) dL_write_4 rfl ?_
  refine j_callV2 (Mc := iX7_write) (q := 8) (c' := 0) (s' := 0) dL_write_5 rfl kV_X7_write jw_802 ⟨by decide, by decide⟩ sh_0 rfl rfl rfl (by decide) (by decide) hM ?_
  refine j_i2l (q := 9) dL_write_8 rfl ?_
  refine j_lastore (q := 10) (i' := 0) dL_write_9 rfl sh_206 rfl (by decide) (by decide) ?_
  refine j_goto (tgt := 21) dL_write_10 (by decide) ?_
  refine j_iconst (q := 22) dL_write_21 rfl ?_
  exact jw_ireturn dL_write_22 rfl (by decide) (by decide)
theorem lx_L_write_1 {G : GX} (E : EV G) {m m' : Mem} {v0 v1 : Int} (hM : CTX G SHP iX7_write 1 6 [.inr (.ref 0), .inl v0, .inl v1] m jXO m') : CW G SHP iL_write hL_write 1 6 [.inr (.ref 0), .inl v0, .inl v1, .inr (.ref 206)] m (some (.inl 1)) m' := by
  refine jw_met (L0 := [some (.inr (.ref 0)), some (.inl v0), some (.inl v1), some (.inr (.ref 206)), none]) (by decide) E.1 E.2 rfl (Nat.le_of_ble_eq_true rfl) ?_
  refine j_aload3 (q := 1) dL_write_0 rfl ?_
  refine j_iconst (q := 2) dL_write_1 rfl ?_
  refine j_aload0 (q := 3) dL_write_2 rfl ?_
  refine j_iload1 (q := 4) dL_write_3 rfl ?_
  refine j_iload2 (q := 5) dL_write_4 rfl ?_
  refine j_catchV2 (Mc := iX7_write) (c' := 1) (s' := 6) (a := 0) (b := 10) (hpc := 13) (ct := 25) (i := 4) (q1 := 15) (pre := []) (suf := [(0, 10, 17, 15)]) dL_write_5 kV_X7_write jw_802 ⟨by decide, by decide⟩ sh_0 rfl rfl rfl (by decide) (by decide) hM rfl (fun _ h => absurd h List.not_mem_nil) ⟨by decide, by decide⟩ (by decide) jw_748 (by decide) (Or.inr ⟨dL_write_13, rfl⟩) rfl rfl (by decide) ?_
  refine j_iconst (q := 16) dL_write_15 rfl ?_
  exact jw_ireturn dL_write_16 rfl (by decide) (by decide)
theorem lx_L_write_2 {G : GX} (E : EV G) {m m' : Mem} {v0 v1 : Int} (hM : CTX G SHP iX7_write 1 6 [.inr (.ref 0), .inl v0, .inl v1] m jXS m') : CW G SHP iL_write hL_write 1 6 [.inr (.ref 0), .inl v0, .inl v1, .inr (.ref 206)] m (some (.inl 2)) m' := by
  refine jw_met (L0 := [some (.inr (.ref 0)), some (.inl v0), some (.inl v1), some (.inr (.ref 206)), none]) (by decide) E.1 E.2 rfl (Nat.le_of_ble_eq_true rfl) ?_
  refine j_aload3 (q := 1) dL_write_0 rfl ?_
  refine j_iconst (q := 2) dL_write_1 rfl ?_
  refine j_aload0 (q := 3) dL_write_2 rfl ?_
  refine j_iload1 (q := 4) dL_write_3 rfl ?_
  refine j_iload2 (q := 5) dL_write_4 rfl ?_
  refine j_catchV2 (Mc := iX7_write) (c' := 1) (s' := 6) (a := 0) (b := 10) (hpc := 17) (ct := 15) (i := 4) (q1 := 19) (pre := [(0, 10, 13, 25)]) (suf := []) dL_write_5 kV_X7_write jw_802 ⟨by decide, by decide⟩ sh_0 rfl rfl rfl (by decide) (by decide) hM rfl (fun y hy => by
    simp only [List.mem_cons, List.not_mem_nil, or_false] at hy
    rcases hy with rfl
    · exact ⟨by decide, jXO, jw_748, by decide⟩) ⟨by decide, by decide⟩ (by decide) jw_697 (by decide) (Or.inr ⟨dL_write_17, rfl⟩) rfl rfl (by decide) ?_
  refine j_iconst (q := 20) dL_write_19 rfl ?_
  exact jw_ireturn dL_write_20 rfl (by decide) (by decide)
def hL_read : HT := [(0, 9, 12, 25), (0, 9, 15, 15)]
theorem kW_L_read : KSW iL_read hL_read 3 := ⟨jw_812, jw_0, ⟨by decide, by decide, by decide +kernel⟩, jw_811⟩
theorem lo_L_read {G : GX} (E : EV G) {m m' : Mem} {v0 : Int} {r : Int} (hM : CT G SHP iX7_read 0 0 [.inr (.ref 0), .inl v0] m (some (.inl r)) m') : CW G SHP iL_read hL_read 1 6 [.inr (.ref 0), .inl v0, .inr (.ref 206)] m (some (.inl 0)) (up m' 206 0 (i2 r).toInt) := by
  refine jw_met (L0 := [some (.inr (.ref 0)), some (.inl v0), some (.inr (.ref 206)), none]) (by decide) E.1 E.2 rfl (Nat.le_of_ble_eq_true rfl) ?_
  refine j_aload2 (q := 1) dL_read_0 rfl ?_
  refine j_iconst (q := 2) dL_read_1 rfl ?_
  refine j_aload0 (q := 3) dL_read_2 rfl ?_
  refine j_iload1 (q := 4) dL_read_3 rfl ?_
  refine j_callV1 (Mc := iX7_read) (q := 7) (c' := 0) (s' := 0) dL_read_4 rfl kV_X7_read jw_813 ⟨by decide, by decide⟩ sh_0 rfl rfl rfl (by decide) (by decide) hM ?_
  refine j_i2l (q := 8) dL_read_7 rfl ?_
  refine j_lastore (q := 9) (i' := 0) dL_read_8 rfl sh_206 rfl (by decide) (by decide) ?_
  refine j_goto (tgt := 18) dL_read_9 (by decide) ?_
  refine j_iconst (q := 19) dL_read_18 rfl ?_
  exact jw_ireturn dL_read_19 rfl (by decide) (by decide)
theorem lx_L_read_1 {G : GX} (E : EV G) {m m' : Mem} {v0 : Int} (hM : CTX G SHP iX7_read 1 6 [.inr (.ref 0), .inl v0] m jXO m') : CW G SHP iL_read hL_read 1 6 [.inr (.ref 0), .inl v0, .inr (.ref 206)] m (some (.inl 1)) m' := by
  refine jw_met (L0 := [some (.inr (.ref 0)), some (.inl v0), some (.inr (.ref 206)), none]) (by decide) E.1 E.2 rfl (Nat.le_of_ble_eq_true rfl) ?_
  refine j_aload2 (q := 1) dL_read_0 rfl ?_
  refine j_iconst (q := 2) dL_read_1 rfl ?_
  refine j_aload0 (q := 3) dL_read_2 rfl ?_
  refine j_iload1 (q := 4) dL_read_3 rfl ?_
  refine j_catchV1 (Mc := iX7_read) (c' := 1) (s' := 6) (a := 0) (b := 9) (hpc := 12) (ct := 25) (i := 3) (q1 := 13) (pre := []) (suf := [(0, 9, 15, 15)]) dL_read_4 kV_X7_read jw_813 ⟨by decide, by decide⟩ sh_0 rfl rfl rfl (by decide) (by decide) hM rfl (fun _ h => absurd h List.not_mem_nil) ⟨by decide, by decide⟩ (by decide) jw_748 (by decide) (Or.inl ⟨3, dL_read_12, rfl, rfl⟩) rfl rfl (by decide) ?_
  refine j_iconst (q := 14) dL_read_13 rfl ?_
  exact jw_ireturn dL_read_14 rfl (by decide) (by decide)
theorem lx_L_read_2 {G : GX} (E : EV G) {m m' : Mem} {v0 : Int} (hM : CTX G SHP iX7_read 1 6 [.inr (.ref 0), .inl v0] m jXS m') : CW G SHP iL_read hL_read 1 6 [.inr (.ref 0), .inl v0, .inr (.ref 206)] m (some (.inl 2)) m' := by
  refine jw_met (L0 := [some (.inr (.ref 0)), some (.inl v0), some (.inr (.ref 206)), none]) (by decide) E.1 E.2 rfl (Nat.le_of_ble_eq_true rfl) ?_
  refine j_aload2 (q := 1) dL_read_0 rfl ?_
  refine j_iconst (q := 2) dL_read_1 rfl ?_
  refine j_aload0 (q := 3) dL_read_2 rfl ?_
  refine j_iload1 (q := 4) dL_read_3 rfl ?_
  refine j_catchV1 (Mc := iX7_read) (c' := 1) (s' := 6) (a := 0) (b := 9) (hpc := 15) (ct := 15) (i := 3) (q1 := 16) (pre := [(0, 9, 12, 25)]) (suf := []) dL_read_4 kV_X7_read jw_813 ⟨by decide, by decide⟩ sh_0 rfl rfl rfl (by decide) (by decide) hM rfl (fun y hy => by
    simp only [List.mem_cons, List.not_mem_nil, or_false] at hy
    rcases hy with rfl
    · exact ⟨by decide, jXO, jw_748, by decide⟩) ⟨by decide, by decide⟩ (by decide) jw_697 (by decide) (Or.inl ⟨3, dL_read_15, rfl, rfl⟩) rfl rfl (by decide) ?_
  refine j_iconst (q := 17) dL_read_16 rfl ?_
  exact jw_ireturn dL_read_17 rfl (by decide) (by decide)
def hL_writeBack : HT := [(0, 8, 11, 15)]
theorem kW_L_writeBack : KSW iL_writeBack hL_writeBack 2 := ⟨jw_829, jw_0, ⟨by decide, by decide, by decide +kernel⟩, jw_828⟩
theorem lo_L_writeBack {G : GX} (E : EV G) {m m' : Mem} {r : Int} (hM : CT G SHP iX7_writeBack 0 0 [.inr (.ref 0)] m (some (.inl r)) m') : CW G SHP iL_writeBack hL_writeBack 1 6 [.inr (.ref 0), .inr (.ref 206)] m (some (.inl 0)) (up m' 206 0 (i2 r).toInt) := by
  refine jw_met (L0 := [some (.inr (.ref 0)), some (.inr (.ref 206)), none]) (by decide) E.1 E.2 rfl (Nat.le_of_ble_eq_true rfl) ?_
  refine j_aload1 (q := 1) dL_writeBack_0 rfl ?_
  refine j_iconst (q := 2) dL_writeBack_1 rfl ?_
  refine j_aload0 (q := 3) dL_writeBack_2 rfl ?_
  refine j_callV0 (Mc := iX7_writeBack) (q := 6) (c' := 0) (s' := 0) dL_writeBack_3 rfl kV_X7_writeBack jw_830 ⟨by decide, by decide⟩ sh_0 rfl rfl rfl (by decide) (by decide) hM ?_
  refine j_i2l (q := 7) dL_writeBack_6 rfl ?_
  refine j_lastore (q := 8) (i' := 0) dL_writeBack_7 rfl sh_206 rfl (by decide) (by decide) ?_
  refine j_goto (tgt := 14) dL_writeBack_8 (by decide) ?_
  refine j_iconst (q := 15) dL_writeBack_14 rfl ?_
  exact jw_ireturn dL_writeBack_15 rfl (by decide) (by decide)
theorem lx_L_writeBack_1 {G : GX} (E : EV G) {m m' : Mem} (hM : CTX G SHP iX7_writeBack 1 6 [.inr (.ref 0)] m jXS m') : CW G SHP iL_writeBack hL_writeBack 1 6 [.inr (.ref 0), .inr (.ref 206)] m (some (.inl 1)) m' := by
  refine jw_met (L0 := [some (.inr (.ref 0)), some (.inr (.ref 206)), none]) (by decide) E.1 E.2 rfl (Nat.le_of_ble_eq_true rfl) ?_
  refine j_aload1 (q := 1) dL_writeBack_0 rfl ?_
  refine j_iconst (q := 2) dL_writeBack_1 rfl ?_
  refine j_aload0 (q := 3) dL_writeBack_2 rfl ?_
  refine j_catchV0 (Mc := iX7_writeBack) (c' := 1) (s' := 6) (a := 0) (b := 8) (hpc := 11) (ct := 15) (i := 2) (q1 := 12) (pre := []) (suf := []) dL_writeBack_3 kV_X7_writeBack jw_830 ⟨by decide, by decide⟩ sh_0 rfl rfl rfl (by decide) (by decide) hM rfl (fun _ h => absurd h List.not_mem_nil) ⟨by decide, by decide⟩ (by decide) jw_697 (by decide) (Or.inl ⟨2, dL_writeBack_11, rfl, rfl⟩) rfl rfl (by decide) ?_
  refine j_iconst (q := 13) dL_writeBack_12 rfl ?_
  exact jw_ireturn dL_writeBack_13 rfl (by decide) (by decide)
def hL_pass : HT := [(0, 9, 12, 13), (0, 9, 15, 15)]
theorem kW_L_pass : KSW iL_pass hL_pass 3 := ⟨jw_836, jw_0, ⟨by decide, by decide, by decide +kernel⟩, jw_835⟩
theorem lo_L_pass {G : GX} (E : EV G) {m m' : Mem} {v0 : Int} {r : Int} (hM : CT G SHP iX7_pass 0 0 [.inr (.ref 0), .inl v0] m (some (.inl r)) m') : CW G SHP iL_pass hL_pass 1 6 [.inr (.ref 0), .inl v0, .inr (.ref 206)] m (some (.inl 0)) (up m' 206 0 (i2 r).toInt) := by
  refine jw_met (L0 := [some (.inr (.ref 0)), some (.inl v0), some (.inr (.ref 206)), none]) (by decide) E.1 E.2 rfl (Nat.le_of_ble_eq_true rfl) ?_
  refine j_aload2 (q := 1) dL_pass_0 rfl ?_
  refine j_iconst (q := 2) dL_pass_1 rfl ?_
  refine j_aload0 (q := 3) dL_pass_2 rfl ?_
  refine j_iload1 (q := 4) dL_pass_3 rfl ?_
  refine j_callV1 (Mc := iX7_pass) (q := 7) (c' := 0) (s' := 0) dL_pass_4 rfl kV_X7_pass jw_837 ⟨by decide, by decide⟩ sh_0 rfl rfl rfl (by decide) (by decide) hM ?_
  refine j_i2l (q := 8) dL_pass_7 rfl ?_
  refine j_lastore (q := 9) (i' := 0) dL_pass_8 rfl sh_206 rfl (by decide) (by decide) ?_
  refine j_goto (tgt := 18) dL_pass_9 (by decide) ?_
  refine j_iconst (q := 19) dL_pass_18 rfl ?_
  exact jw_ireturn dL_pass_19 rfl (by decide) (by decide)
theorem lx_L_pass_1 {G : GX} (E : EV G) {m m' : Mem} {v0 : Int} (hM : CTX G SHP iX7_pass 1 6 [.inr (.ref 0), .inl v0] m jXA m') : CW G SHP iL_pass hL_pass 1 6 [.inr (.ref 0), .inl v0, .inr (.ref 206)] m (some (.inl 1)) m' := by
  refine jw_met (L0 := [some (.inr (.ref 0)), some (.inl v0), some (.inr (.ref 206)), none]) (by decide) E.1 E.2 rfl (Nat.le_of_ble_eq_true rfl) ?_
  refine j_aload2 (q := 1) dL_pass_0 rfl ?_
  refine j_iconst (q := 2) dL_pass_1 rfl ?_
  refine j_aload0 (q := 3) dL_pass_2 rfl ?_
  refine j_iload1 (q := 4) dL_pass_3 rfl ?_
  refine j_catchV1 (Mc := iX7_pass) (c' := 1) (s' := 6) (a := 0) (b := 9) (hpc := 12) (ct := 13) (i := 3) (q1 := 13) (pre := []) (suf := [(0, 9, 15, 15)]) dL_pass_4 kV_X7_pass jw_837 ⟨by decide, by decide⟩ sh_0 rfl rfl rfl (by decide) (by decide) hM rfl (fun _ h => absurd h List.not_mem_nil) ⟨by decide, by decide⟩ (by decide) jw_696 (by decide) (Or.inl ⟨3, dL_pass_12, rfl, rfl⟩) rfl rfl (by decide) ?_
  refine j_iconst (q := 14) dL_pass_13 rfl ?_
  exact jw_ireturn dL_pass_14 rfl (by decide) (by decide)
theorem lx_L_pass_2 {G : GX} (E : EV G) {m m' : Mem} {v0 : Int} (hM : CTX G SHP iX7_pass 1 6 [.inr (.ref 0), .inl v0] m jXS m') : CW G SHP iL_pass hL_pass 1 6 [.inr (.ref 0), .inl v0, .inr (.ref 206)] m (some (.inl 2)) m' := by
  refine jw_met (L0 := [some (.inr (.ref 0)), some (.inl v0), some (.inr (.ref 206)), none]) (by decide) E.1 E.2 rfl (Nat.le_of_ble_eq_true rfl) ?_
  refine j_aload2 (q := 1) dL_pass_0 rfl ?_
  refine j_iconst (q := 2) dL_pass_1 rfl ?_
  refine j_aload0 (q := 3) dL_pass_2 rfl ?_
  refine j_iload1 (q := 4) dL_pass_3 rfl ?_
  refine j_catchV1 (Mc := iX7_pass) (c' := 1) (s' := 6) (a := 0) (b := 9) (hpc := 15) (ct := 15) (i := 3) (q1 := 16) (pre := [(0, 9, 12, 13)]) (suf := []) dL_pass_4 kV_X7_pass jw_837 ⟨by decide, by decide⟩ sh_0 rfl rfl rfl (by decide) (by decide) hM rfl (fun y hy => by
    simp only [List.mem_cons, List.not_mem_nil, or_false] at hy
    rcases hy with rfl
    · exact ⟨by decide, jXA, jw_696, by decide⟩) ⟨by decide, by decide⟩ (by decide) jw_697 (by decide) (Or.inl ⟨3, dL_pass_15, rfl, rfl⟩) rfl rfl (by decide) ?_
  refine j_iconst (q := 17) dL_pass_16 rfl ?_
  exact jw_ireturn dL_pass_17 rfl (by decide) (by decide)
def hL_append : HT := [(0, 9, 12, 13), (0, 9, 15, 15)]
theorem kW_L_append : KSW iL_append hL_append 3 := ⟨jw_848, jw_0, ⟨by decide, by decide, by decide +kernel⟩, jw_847⟩
theorem lo_L_append {G : GX} (E : EV G) {m m' : Mem} {v0 : Int} {r : Int} (hM : CT G SHP iX7_append 0 0 [.inr (.ref 0), .inl v0] m (some (.inl r)) m') : CW G SHP iL_append hL_append 1 6 [.inr (.ref 0), .inl v0, .inr (.ref 206)] m (some (.inl 0)) (up m' 206 0 (i2 r).toInt) := by
  refine jw_met (L0 := [some (.inr (.ref 0)), some (.inl v0), some (.inr (.ref 206)), none]) (by decide) E.1 E.2 rfl (Nat.le_of_ble_eq_true rfl) ?_
  refine j_aload2 (q := 1) dL_append_0 rfl ?_
  refine j_iconst (q := 2) dL_append_1 rfl ?_
  refine j_aload0 (q := 3) dL_append_2 rfl ?_
  refine j_iload1 (q := 4) dL_append_3 rfl ?_
  refine j_callV1 (Mc := iX7_append) (q := 7) (c' := 0) (s' := 0) dL_append_4 rfl kV_X7_append jw_849 ⟨by decide, by decide⟩ sh_0 rfl rfl rfl (by decide) (by decide) hM ?_
  refine j_i2l (q := 8) dL_append_7 rfl ?_
  refine j_lastore (q := 9) (i' := 0) dL_append_8 rfl sh_206 rfl (by decide) (by decide) ?_
  refine j_goto (tgt := 18) dL_append_9 (by decide) ?_
  refine j_iconst (q := 19) dL_append_18 rfl ?_
  exact jw_ireturn dL_append_19 rfl (by decide) (by decide)
theorem lx_L_append_1 {G : GX} (E : EV G) {m m' : Mem} {v0 : Int} (hM : CTX G SHP iX7_append 1 6 [.inr (.ref 0), .inl v0] m jXA m') : CW G SHP iL_append hL_append 1 6 [.inr (.ref 0), .inl v0, .inr (.ref 206)] m (some (.inl 1)) m' := by
  refine jw_met (L0 := [some (.inr (.ref 0)), some (.inl v0), some (.inr (.ref 206)), none]) (by decide) E.1 E.2 rfl (Nat.le_of_ble_eq_true rfl) ?_
  refine j_aload2 (q := 1) dL_append_0 rfl ?_
  refine j_iconst (q := 2) dL_append_1 rfl ?_
  refine j_aload0 (q := 3) dL_append_2 rfl ?_
  refine j_iload1 (q := 4) dL_append_3 rfl ?_
  refine j_catchV1 (Mc := iX7_append) (c' := 1) (s' := 6) (a := 0) (b := 9) (hpc := 12) (ct := 13) (i := 3) (q1 := 13) (pre := []) (suf := [(0, 9, 15, 15)]) dL_append_4 kV_X7_append jw_849 ⟨by decide, by decide⟩ sh_0 rfl rfl rfl (by decide) (by decide) hM rfl (fun _ h => absurd h List.not_mem_nil) ⟨by decide, by decide⟩ (by decide) jw_696 (by decide) (Or.inl ⟨3, dL_append_12, rfl, rfl⟩) rfl rfl (by decide) ?_
  refine j_iconst (q := 14) dL_append_13 rfl ?_
  exact jw_ireturn dL_append_14 rfl (by decide) (by decide)
theorem lx_L_append_2 {G : GX} (E : EV G) {m m' : Mem} {v0 : Int} (hM : CTX G SHP iX7_append 1 6 [.inr (.ref 0), .inl v0] m jXS m') : CW G SHP iL_append hL_append 1 6 [.inr (.ref 0), .inl v0, .inr (.ref 206)] m (some (.inl 2)) m' := by
  refine jw_met (L0 := [some (.inr (.ref 0)), some (.inl v0), some (.inr (.ref 206)), none]) (by decide) E.1 E.2 rfl (Nat.le_of_ble_eq_true rfl) ?_
  refine j_aload2 (q := 1) dL_append_0 rfl ?_
  refine j_iconst (q := 2) dL_append_1 rfl ?_
  refine j_aload0 (q := 3) dL_append_2 rfl ?_
  refine j_iload1 (q := 4) dL_append_3 rfl ?_
  refine j_catchV1 (Mc := iX7_append) (c' := 1) (s' := 6) (a := 0) (b := 9) (hpc := 15) (ct := 15) (i := 3) (q1 := 16) (pre := [(0, 9, 12, 13)]) (suf := []) dL_append_4 kV_X7_append jw_849 ⟨by decide, by decide⟩ sh_0 rfl rfl rfl (by decide) (by decide) hM rfl (fun y hy => by
    simp only [List.mem_cons, List.not_mem_nil, or_false] at hy
    rcases hy with rfl
    · exact ⟨by decide, jXA, jw_696, by decide⟩) ⟨by decide, by decide⟩ (by decide) jw_697 (by decide) (Or.inl ⟨3, dL_append_15, rfl, rfl⟩) rfl rfl (by decide) ?_
  refine j_iconst (q := 17) dL_append_16 rfl ?_
  exact jw_ireturn dL_append_17 rfl (by decide) (by decide)
def hL_run : HT := [(0, 9, 12, 25), (0, 9, 15, 13)]
theorem kW_L_run : KSW iL_run hL_run 3 := ⟨jw_859, jw_0, ⟨by decide, by decide, by decide +kernel⟩, jw_858⟩
theorem lo_L_run {G : GX} (E : EV G) {m m' : Mem} {v0 : Int} {r : Int} (hM : CT G SHP iX7_run 0 0 [.inr (.ref 0), .inl v0] m (some (.inl r)) m') : CW G SHP iL_run hL_run 1 6 [.inr (.ref 0), .inl v0, .inr (.ref 206)] m (some (.inl 0)) (up m' 206 0 (i2 r).toInt) := by
  refine jw_met (L0 := [some (.inr (.ref 0)), some (.inl v0), some (.inr (.ref 206)), none]) (by decide) E.1 E.2 rfl (Nat.le_of_ble_eq_true rfl) ?_
  refine j_aload2 (q := 1) dL_run_0 rfl ?_
  refine j_iconst (q := 2) dL_run_1 rfl ?_
  refine j_aload0 (q := 3) dL_run_2 rfl ?_
  refine j_iload1 (q := 4) dL_run_3 rfl ?_
  refine j_callV1 (Mc := iX7_run) (q := 7) (c' := 0) (s' := 0) dL_run_4 rfl kV_X7_run jw_860 ⟨by decide, by decide⟩ sh_0 rfl rfl rfl (by decide) (by decide) hM ?_
  refine j_i2l (q := 8) dL_run_7 rfl ?_
  refine j_lastore (q := 9) (i' := 0) dL_run_8 rfl sh_206 rfl (by decide) (by decide) ?_
  refine j_goto (tgt := 18) dL_run_9 (by decide) ?_
  refine j_iconst (q := 19) dL_run_18 rfl ?_
  exact jw_ireturn dL_run_19 rfl (by decide) (by decide)
theorem lx_L_run_1 {G : GX} (E : EV G) {m m' : Mem} {v0 : Int} (hM : CTX G SHP iX7_run 1 6 [.inr (.ref 0), .inl v0] m jXO m') : CW G SHP iL_run hL_run 1 6 [.inr (.ref 0), .inl v0, .inr (.ref 206)] m (some (.inl 1)) m' := by
  refine jw_met (L0 := [some (.inr (.ref 0)), some (.inl v0), some (.inr (.ref 206)), none]) (by decide) E.1 E.2 rfl (Nat.le_of_ble_eq_true rfl) ?_
  refine j_aload2 (q := 1) dL_run_0 rfl ?_
  refine j_iconst (q := 2) dL_run_1 rfl ?_
  refine j_aload0 (q := 3) dL_run_2 rfl ?_
  refine j_iload1 (q := 4) dL_run_3 rfl ?_
  refine j_catchV1 (Mc := iX7_run) (c' := 1) (s' := 6) (a := 0) (b := 9) (hpc := 12) (ct := 25) (i := 3) (q1 := 13) (pre := []) (suf := [(0, 9, 15, 13)]) dL_run_4 kV_X7_run jw_860 ⟨by decide, by decide⟩ sh_0 rfl rfl rfl (by decide) (by decide) hM rfl (fun _ h => absurd h List.not_mem_nil) ⟨by decide, by decide⟩ (by decide) jw_748 (by decide) (Or.inl ⟨3, dL_run_12, rfl, rfl⟩) rfl rfl (by decide) ?_
  refine j_iconst (q := 14) dL_run_13 rfl ?_
  exact jw_ireturn dL_run_14 rfl (by decide) (by decide)
theorem lx_L_run_2 {G : GX} (E : EV G) {m m' : Mem} {v0 : Int} (hM : CTX G SHP iX7_run 1 6 [.inr (.ref 0), .inl v0] m jXA m') : CW G SHP iL_run hL_run 1 6 [.inr (.ref 0), .inl v0, .inr (.ref 206)] m (some (.inl 2)) m' := by
  refine jw_met (L0 := [some (.inr (.ref 0)), some (.inl v0), some (.inr (.ref 206)), none]) (by decide) E.1 E.2 rfl (Nat.le_of_ble_eq_true rfl) ?_
  refine j_aload2 (q := 1) dL_run_0 rfl ?_
  refine j_iconst (q := 2) dL_run_1 rfl ?_
  refine j_aload0 (q := 3) dL_run_2 rfl ?_
  refine j_iload1 (q := 4) dL_run_3 rfl ?_
  refine j_catchV1 (Mc := iX7_run) (c' := 1) (s' := 6) (a := 0) (b := 9) (hpc := 15) (ct := 13) (i := 3) (q1 := 16) (pre := [(0, 9, 12, 25)]) (suf := []) dL_run_4 kV_X7_run jw_860 ⟨by decide, by decide⟩ sh_0 rfl rfl rfl (by decide) (by decide) hM rfl (fun y hy => by
    simp only [List.mem_cons, List.not_mem_nil, or_false] at hy
    rcases hy with rfl
    · exact ⟨by decide, jXO, jw_748, by decide⟩) ⟨by decide, by decide⟩ (by decide) jw_696 (by decide) (Or.inl ⟨3, dL_run_15, rfl, rfl⟩) rfl rfl (by decide) ?_
  refine j_iconst (q := 17) dL_run_16 rfl ?_
  exact jw_ireturn dL_run_17 rfl (by decide) (by decide)
def hL_undo : HT := [(0, 8, 11, 15)]
theorem kW_L_undo : KSW iL_undo hL_undo 2 := ⟨jw_895, jw_0, ⟨by decide, by decide, by decide +kernel⟩, jw_894⟩
theorem lo_L_undo {G : GX} (E : EV G) {m m' : Mem} {r : Int} (hM : CT G SHP iX7_undo 0 0 [.inr (.ref 0)] m (some (.inl r)) m') : CW G SHP iL_undo hL_undo 1 6 [.inr (.ref 0), .inr (.ref 206)] m (some (.inl 0)) (up m' 206 0 (i2 r).toInt) := by
  refine jw_met (L0 := [some (.inr (.ref 0)), some (.inr (.ref 206)), none]) (by decide) E.1 E.2 rfl (Nat.le_of_ble_eq_true rfl) ?_
  refine j_aload1 (q := 1) dL_undo_0 rfl ?_
  refine j_iconst (q := 2) dL_undo_1 rfl ?_
  refine j_aload0 (q := 3) dL_undo_2 rfl ?_
  refine j_callV0 (Mc := iX7_undo) (q := 6) (c' := 0) (s' := 0) dL_undo_3 rfl kV_X7_undo jw_896 ⟨by decide, by decide⟩ sh_0 rfl rfl rfl (by decide) (by decide) hM ?_
  refine j_i2l (q := 7) dL_undo_6 rfl ?_
  refine j_lastore (q := 8) (i' := 0) dL_undo_7 rfl sh_206 rfl (by decide) (by decide) ?_
  refine j_goto (tgt := 14) dL_undo_8 (by decide) ?_
  refine j_iconst (q := 15) dL_undo_14 rfl ?_
  exact jw_ireturn dL_undo_15 rfl (by decide) (by decide)
theorem lx_L_undo_1 {G : GX} (E : EV G) {m m' : Mem} (hM : CTX G SHP iX7_undo 1 6 [.inr (.ref 0)] m jXS m') : CW G SHP iL_undo hL_undo 1 6 [.inr (.ref 0), .inr (.ref 206)] m (some (.inl 1)) m' := by
  refine jw_met (L0 := [some (.inr (.ref 0)), some (.inr (.ref 206)), none]) (by decide) E.1 E.2 rfl (Nat.le_of_ble_eq_true rfl) ?_
  refine j_aload1 (q := 1) dL_undo_0 rfl ?_
  refine j_iconst (q := 2) dL_undo_1 rfl ?_
  refine j_aload0 (q := 3) dL_undo_2 rfl ?_
  refine j_catchV0 (Mc := iX7_undo) (c' := 1) (s' := 6) (a := 0) (b := 8) (hpc := 11) (ct := 15) (i := 2) (q1 := 12) (pre := []) (suf := []) dL_undo_3 kV_X7_undo jw_896 ⟨by decide, by decide⟩ sh_0 rfl rfl rfl (by decide) (by decide) hM rfl (fun _ h => absurd h List.not_mem_nil) ⟨by decide, by decide⟩ (by decide) jw_697 (by decide) (Or.inl ⟨2, dL_undo_11, rfl, rfl⟩) rfl rfl (by decide) ?_
  refine j_iconst (q := 13) dL_undo_12 rfl ?_
  exact jw_ireturn dL_undo_13 rfl (by decide) (by decide)
def hL_core : HT := [(0, 10, 13, 25), (0, 10, 17, 13)]
theorem kW_L_core : KSW iL_core hL_core 4 := ⟨jw_906, jw_0, ⟨by decide, by decide, by decide +kernel⟩, jw_905⟩
theorem lo_L_core {G : GX} (E : EV G) {m m' : Mem} {v0 v1 : Int} {r : Int} (hM : CT G SHP iX7_core 0 0 [.inr (.ref 0), .inl v0, .inl v1] m (some (.inl r)) m') : CW G SHP iL_core hL_core 1 6 [.inr (.ref 0), .inl v0, .inl v1, .inr (.ref 206)] m (some (.inl 0)) (up m' 206 0 (i2 r).toInt) := by
  refine jw_met (L0 := [some (.inr (.ref 0)), some (.inl v0), some (.inl v1), some (.inr (.ref 206)), none]) (by decide) E.1 E.2 rfl (Nat.le_of_ble_eq_true rfl) ?_
  refine j_aload3 (q := 1) dL_core_0 rfl ?_
  refine j_iconst (q := 2) dL_core_1 rfl ?_
  refine j_aload0 (q := 3) dL_core_2 rfl ?_
  refine j_iload1 (q := 4) dL_core_3 rfl ?_
  refine j_iload2 (q := 5) dL_core_4 rfl ?_
  refine j_callV2 (Mc := iX7_core) (q := 8) (c' := 0) (s' := 0) dL_core_5 rfl kV_X7_core jw_907 ⟨by decide, by decide⟩ sh_0 rfl rfl rfl (by decide) (by decide) hM ?_
  refine j_i2l (q := 9) dL_core_8 rfl ?_
  refine j_lastore (q := 10) (i' := 0) dL_core_9 rfl sh_206 rfl (by decide) (by decide) ?_
  refine j_goto (tgt := 21) dL_core_10 (by decide) ?_
  refine j_iconst (q := 22) dL_core_21 rfl ?_
  exact jw_ireturn dL_core_22 rfl (by decide) (by decide)
theorem lx_L_core_1 {G : GX} (E : EV G) {m m' : Mem} {v0 v1 : Int} (hM : CTX G SHP iX7_core 1 6 [.inr (.ref 0), .inl v0, .inl v1] m jXO m') : CW G SHP iL_core hL_core 1 6 [.inr (.ref 0), .inl v0, .inl v1, .inr (.ref 206)] m (some (.inl 1)) m' := by
  refine jw_met (L0 := [some (.inr (.ref 0)), some (.inl v0), some (.inl v1), some (.inr (.ref 206)), none]) (by decide) E.1 E.2 rfl (Nat.le_of_ble_eq_true rfl) ?_
  refine j_aload3 (q := 1) dL_core_0 rfl ?_
  refine j_iconst (q := 2) dL_core_1 rfl ?_
  refine j_aload0 (q := 3) dL_core_2 rfl ?_
  refine j_iload1 (q := 4) dL_core_3 rfl ?_
  refine j_iload2 (q := 5) dL_core_4 rfl ?_
  refine j_catchV2 (Mc := iX7_core) (c' := 1) (s' := 6) (a := 0) (b := 10) (hpc := 13) (ct := 25) (i := 4) (q1 := 15) (pre := []) (suf := [(0, 10, 17, 13)]) dL_core_5 kV_X7_core jw_907 ⟨by decide, by decide⟩ sh_0 rfl rfl rfl (by decide) (by decide) hM rfl (fun _ h => absurd h List.not_mem_nil) ⟨by decide, by decide⟩ (by decide) jw_748 (by decide) (Or.inr ⟨dL_core_13, rfl⟩) rfl rfl (by decide) ?_
  refine j_iconst (q := 16) dL_core_15 rfl ?_
  exact jw_ireturn dL_core_16 rfl (by decide) (by decide)
theorem lx_L_core_2 {G : GX} (E : EV G) {m m' : Mem} {v0 v1 : Int} (hM : CTX G SHP iX7_core 1 6 [.inr (.ref 0), .inl v0, .inl v1] m jXA m') : CW G SHP iL_core hL_core 1 6 [.inr (.ref 0), .inl v0, .inl v1, .inr (.ref 206)] m (some (.inl 2)) m' := by
  refine jw_met (L0 := [some (.inr (.ref 0)), some (.inl v0), some (.inl v1), some (.inr (.ref 206)), none]) (by decide) E.1 E.2 rfl (Nat.le_of_ble_eq_true rfl) ?_
  refine j_aload3 (q := 1) dL_core_0 rfl ?_
  refine j_iconst (q := 2) dL_core_1 rfl ?_
  refine j_aload0 (q := 3) dL_core_2 rfl ?_
  refine j_iload1 (q := 4) dL_core_3 rfl ?_
  refine j_iload2 (q := 5) dL_core_4 rfl ?_
  refine j_catchV2 (Mc := iX7_core) (c' := 1) (s' := 6) (a := 0) (b := 10) (hpc := 17) (ct := 13) (i := 4) (q1 := 19) (pre := [(0, 10, 13, 25)]) (suf := []) dL_core_5 kV_X7_core jw_907 ⟨by decide, by decide⟩ sh_0 rfl rfl rfl (by decide) (by decide) hM rfl (fun y hy => by
    simp only [List.mem_cons, List.not_mem_nil, or_false] at hy
    rcases hy with rfl
    · exact ⟨by decide, jXO, jw_748, by decide⟩) ⟨by decide, by decide⟩ (by decide) jw_696 (by decide) (Or.inr ⟨dL_core_17, rfl⟩) rfl rfl (by decide) ?_
  refine j_iconst (q := 20) dL_core_19 rfl ?_
  exact jw_ireturn dL_core_20 rfl (by decide) (by decide)
def hL_tenant : HT := [(0, 10, 13, 25), (0, 10, 17, 13)]
theorem kW_L_tenant : KSW iL_tenant hL_tenant 4 := ⟨jw_910, jw_0, ⟨by decide, by decide, by decide +kernel⟩, jw_909⟩
theorem lo_L_tenant {G : GX} (E : EV G) {m m' : Mem} {v0 v1 : Int} {r : Int} (hM : CT G SHP iX7_tenant 0 0 [.inr (.ref 0), .inl v0, .inl v1] m (some (.inl r)) m') : CW G SHP iL_tenant hL_tenant 1 6 [.inr (.ref 0), .inl v0, .inl v1, .inr (.ref 206)] m (some (.inl 0)) (up m' 206 0 (i2 r).toInt) := by
  refine jw_met (L0 := [some (.inr (.ref 0)), some (.inl v0), some (.inl v1), some (.inr (.ref 206)), none]) (by decide) E.1 E.2 rfl (Nat.le_of_ble_eq_true rfl) ?_
  refine j_aload3 (q := 1) dL_tenant_0 rfl ?_
  refine j_iconst (q := 2) dL_tenant_1 rfl ?_
  refine j_aload0 (q := 3) dL_tenant_2 rfl ?_
  refine j_iload1 (q := 4) dL_tenant_3 rfl ?_
  refine j_iload2 (q := 5) dL_tenant_4 rfl ?_
  refine j_callV2 (Mc := iX7_tenant) (q := 8) (c' := 0) (s' := 0) dL_tenant_5 rfl kV_X7_tenant jw_911 ⟨by decide, by decide⟩ sh_0 rfl rfl rfl (by decide) (by decide) hM ?_
  refine j_i2l (q := 9) dL_tenant_8 rfl ?_
  refine j_lastore (q := 10) (i' := 0) dL_tenant_9 rfl sh_206 rfl (by decide) (by decide) ?_
  refine j_goto (tgt := 21) dL_tenant_10 (by decide) ?_
  refine j_iconst (q := 22) dL_tenant_21 rfl ?_
  exact jw_ireturn dL_tenant_22 rfl (by decide) (by decide)
theorem lx_L_tenant_1 {G : GX} (E : EV G) {m m' : Mem} {v0 v1 : Int} (hM : CTX G SHP iX7_tenant 1 6 [.inr (.ref 0), .inl v0, .inl v1] m jXO m') : CW G SHP iL_tenant hL_tenant 1 6 [.inr (.ref 0), .inl v0, .inl v1, .inr (.ref 206)] m (some (.inl 1)) m' := by
  refine jw_met (L0 := [some (.inr (.ref 0)), some (.inl v0), some (.inl v1), some (.inr (.ref 206)), none]) (by decide) E.1 E.2 rfl (Nat.le_of_ble_eq_true rfl) ?_
  refine j_aload3 (q := 1) dL_tenant_0 rfl ?_
  refine j_iconst (q := 2) dL_tenant_1 rfl ?_
  refine j_aload0 (q := 3) dL_tenant_2 rfl ?_
  refine j_iload1 (q := 4) dL_tenant_3 rfl ?_
  refine j_iload2 (q := 5) dL_tenant_4 rfl ?_
  refine j_catchV2 (Mc := iX7_tenant) (c' := 1) (s' := 6) (a := 0) (b := 10) (hpc := 13) (ct := 25) (i := 4) (q1 := 15) (pre := []) (suf := [(0, 10, 17, 13)]) dL_tenant_5 kV_X7_tenant jw_911 ⟨by decide, by decide⟩ sh_0 rfl rfl rfl (by decide) (by decide) hM rfl (fun _ h => absurd h List.not_mem_nil) ⟨by decide, by decide⟩ (by decide) jw_748 (by decide) (Or.inr ⟨dL_tenant_13, rfl⟩) rfl rfl (by decide) ?_
  refine j_iconst (q := 16) dL_tenant_15 rfl ?_
  exact jw_ireturn dL_tenant_16 rfl (by decide) (by decide)
theorem lx_L_tenant_2 {G : GX} (E : EV G) {m m' : Mem} {v0 v1 : Int} (hM : CTX G SHP iX7_tenant 1 6 [.inr (.ref 0), .inl v0, .inl v1] m jXA m') : CW G SHP iL_tenant hL_tenant 1 6 [.inr (.ref 0), .inl v0, .inl v1, .inr (.ref 206)] m (some (.inl 2)) m' := by
  refine jw_met (L0 := [some (.inr (.ref 0)), some (.inl v0), some (.inl v1), some (.inr (.ref 206)), none]) (by decide) E.1 E.2 rfl (Nat.le_of_ble_eq_true rfl) ?_
  refine j_aload3 (q := 1) dL_tenant_0 rfl ?_
  refine j_iconst (q := 2) dL_tenant_1 rfl ?_
  refine j_aload0 (q := 3) dL_tenant_2 rfl ?_
  refine j_iload1 (q := 4) dL_tenant_3 rfl ?_
  refine j_iload2 (q := 5) dL_tenant_4 rfl ?_
  refine j_catchV2 (Mc := iX7_tenant) (c' := 1) (s' := 6) (a := 0) (b := 10) (hpc := 17) (ct := 13) (i := 4) (q1 := 19) (pre := [(0, 10, 13, 25)]) (suf := []) dL_tenant_5 kV_X7_tenant jw_911 ⟨by decide, by decide⟩ sh_0 rfl rfl rfl (by decide) (by decide) hM rfl (fun y hy => by
    simp only [List.mem_cons, List.not_mem_nil, or_false] at hy
    rcases hy with rfl
    · exact ⟨by decide, jXO, jw_748, by decide⟩) ⟨by decide, by decide⟩ (by decide) jw_696 (by decide) (Or.inr ⟨dL_tenant_17, rfl⟩) rfl rfl (by decide) ?_
  refine j_iconst (q := 20) dL_tenant_19 rfl ?_
  exact jw_ireturn dL_tenant_20 rfl (by decide) (by decide)
def hL_insurer : HT := [(0, 10, 13, 25), (0, 10, 17, 13)]
theorem kW_L_insurer : KSW iL_insurer hL_insurer 4 := ⟨jw_914, jw_0, ⟨by decide, by decide, by decide +kernel⟩, jw_913⟩
theorem lo_L_insurer {G : GX} (E : EV G) {m m' : Mem} {v0 v1 : Int} {r : Int} (hM : CT G SHP iX7_insurer 0 0 [.inr (.ref 0), .inl v0, .inl v1] m (some (.inl r)) m') : CW G SHP iL_insurer hL_insurer 1 6 [.inr (.ref 0), .inl v0, .inl v1, .inr (.ref 206)] m (some (.inl 0)) (up m' 206 0 (i2 r).toInt) := by
  refine jw_met (L0 := [some (.inr (.ref 0)), some (.inl v0), some (.inl v1), some (.inr (.ref 206)), none]) (by decide) E.1 E.2 rfl (Nat.le_of_ble_eq_true rfl) ?_
  refine j_aload3 (q := 1) dL_insurer_0 rfl ?_
  refine j_iconst (q := 2) dL_insurer_1 rfl ?_
  refine j_aload0 (q := 3) dL_insurer_2 rfl ?_
  refine j_iload1 (q := 4) dL_insurer_3 rfl ?_
  refine j_iload2 (q := 5) dL_insurer_4 rfl ?_
  refine j_callV2 (Mc := iX7_insurer) (q := 8) (c' := 0) (s' := 0) dL_insurer_5 rfl kV_X7_insurer jw_915 ⟨by decide, by decide⟩ sh_0 rfl rfl rfl (by decide) (by decide) hM ?_
  refine j_i2l (q := 9) dL_insurer_8 rfl ?_
  refine j_lastore (q := 10) (i' := 0) dL_insurer_9 rfl sh_206 rfl (by decide) (by decide) ?_
  refine j_goto (tgt := 21) dL_insurer_10 (by decide) ?_
  refine j_iconst (q := 22) dL_insurer_21 rfl ?_
  exact jw_ireturn dL_insurer_22 rfl (by decide) (by decide)
theorem lx_L_insurer_1 {G : GX} (E : EV G) {m m' : Mem} {v0 v1 : Int} (hM : CTX G SHP iX7_insurer 1 6 [.inr (.ref 0), .inl v0, .inl v1] m jXO m') : CW G SHP iL_insurer hL_insurer 1 6 [.inr (.ref 0), .inl v0, .inl v1, .inr (.ref 206)] m (some (.inl 1)) m' := by
  refine jw_met (L0 := [some (.inr (.ref 0)), some (.inl v0), some (.inl v1), some (.inr (.ref 206)), none]) (by decide) E.1 E.2 rfl (Nat.le_of_ble_eq_true rfl) ?_
  refine j_aload3 (q := 1) dL_insurer_0 rfl ?_
  refine j_iconst (q := 2) dL_insurer_1 rfl ?_
  refine j_aload0 (q := 3) dL_insurer_2 rfl ?_
  refine j_iload1 (q := 4) dL_insurer_3 rfl ?_
  refine j_iload2 (q := 5) dL_insurer_4 rfl ?_
  refine j_catchV2 (Mc := iX7_insurer) (c' := 1) (s' := 6) (a := 0) (b := 10) (hpc := 13) (ct := 25) (i := 4) (q1 := 15) (pre := []) (suf := [(0, 10, 17, 13)]) dL_insurer_5 kV_X7_insurer jw_915 ⟨by decide, by decide⟩ sh_0 rfl rfl rfl (by decide) (by decide) hM rfl (fun _ h => absurd h List.not_mem_nil) ⟨by decide, by decide⟩ (by decide) jw_748 (by decide) (Or.inr ⟨dL_insurer_13, rfl⟩) rfl rfl (by decide) ?_
  refine j_iconst (q := 16) dL_insurer_15 rfl ?_
  exact jw_ireturn dL_insurer_16 rfl (by decide) (by decide)
theorem lx_L_insurer_2 {G : GX} (E : EV G) {m m' : Mem} {v0 v1 : Int} (hM : CTX G SHP iX7_insurer 1 6 [.inr (.ref 0), .inl v0, .inl v1] m jXA m') : CW G SHP iL_insurer hL_insurer 1 6 [.inr (.ref 0), .inl v0, .inl v1, .inr (.ref 206)] m (some (.inl 2)) m' := by
  refine jw_met (L0 := [some (.inr (.ref 0)), some (.inl v0), some (.inl v1), some (.inr (.ref 206)), none]) (by decide) E.1 E.2 rfl (Nat.le_of_ble_eq_true rfl) ?_
  refine j_aload3 (q := 1) dL_insurer_0 rfl ?_
  refine j_iconst (q := 2) dL_insurer_1 rfl ?_
  refine j_aload0 (q := 3) dL_insurer_2 rfl ?_
  refine j_iload1 (q := 4) dL_insurer_3 rfl ?_
  refine j_iload2 (q := 5) dL_insurer_4 rfl ?_
  refine j_catchV2 (Mc := iX7_insurer) (c' := 1) (s' := 6) (a := 0) (b := 10) (hpc := 17) (ct := 13) (i := 4) (q1 := 19) (pre := [(0, 10, 13, 25)]) (suf := []) dL_insurer_5 kV_X7_insurer jw_915 ⟨by decide, by decide⟩ sh_0 rfl rfl rfl (by decide) (by decide) hM rfl (fun y hy => by
    simp only [List.mem_cons, List.not_mem_nil, or_false] at hy
    rcases hy with rfl
    · exact ⟨by decide, jXO, jw_748, by decide⟩) ⟨by decide, by decide⟩ (by decide) jw_696 (by decide) (Or.inr ⟨dL_insurer_17, rfl⟩) rfl rfl (by decide) ?_
  refine j_iconst (q := 20) dL_insurer_19 rfl ?_
  exact jw_ireturn dL_insurer_20 rfl (by decide) (by decide)
def hL_owed : HT := [(0, 10, 13, 13)]
theorem kW_L_owed : KSW iL_owed hL_owed 4 := ⟨jw_918, jw_0, ⟨by decide, by decide, by decide +kernel⟩, jw_917⟩
theorem lo_L_owed {G : GX} (E : EV G) {m m' : Mem} {v0 v1 : Int} {r : Int} (hM : CT G SHP iX7_owed 0 0 [.inr (.ref 0), .inl v0, .inl v1] m (some (.inl r)) m') : CW G SHP iL_owed hL_owed 1 6 [.inr (.ref 0), .inl v0, .inl v1, .inr (.ref 206)] m (some (.inl 0)) (up m' 206 0 (i2 r).toInt) := by
  refine jw_met (L0 := [some (.inr (.ref 0)), some (.inl v0), some (.inl v1), some (.inr (.ref 206)), none]) (by decide) E.1 E.2 rfl (Nat.le_of_ble_eq_true rfl) ?_
  refine j_aload3 (q := 1) dL_owed_0 rfl ?_
  refine j_iconst (q := 2) dL_owed_1 rfl ?_
  refine j_aload0 (q := 3) dL_owed_2 rfl ?_
  refine j_iload1 (q := 4) dL_owed_3 rfl ?_
  refine j_iload2 (q := 5) dL_owed_4 rfl ?_
  refine j_callV2 (Mc := iX7_owed) (q := 8) (c' := 0) (s' := 0) dL_owed_5 rfl kV_X7_owed jw_919 ⟨by decide, by decide⟩ sh_0 rfl rfl rfl (by decide) (by decide) hM ?_
  refine j_i2l (q := 9) dL_owed_8 rfl ?_
  refine j_lastore (q := 10) (i' := 0) dL_owed_9 rfl sh_206 rfl (by decide) (by decide) ?_
  refine j_goto (tgt := 17) dL_owed_10 (by decide) ?_
  refine j_iconst (q := 18) dL_owed_17 rfl ?_
  exact jw_ireturn dL_owed_18 rfl (by decide) (by decide)
theorem lx_L_owed_1 {G : GX} (E : EV G) {m m' : Mem} {v0 v1 : Int} (hM : CTX G SHP iX7_owed 1 6 [.inr (.ref 0), .inl v0, .inl v1] m jXA m') : CW G SHP iL_owed hL_owed 1 6 [.inr (.ref 0), .inl v0, .inl v1, .inr (.ref 206)] m (some (.inl 1)) m' := by
  refine jw_met (L0 := [some (.inr (.ref 0)), some (.inl v0), some (.inl v1), some (.inr (.ref 206)), none]) (by decide) E.1 E.2 rfl (Nat.le_of_ble_eq_true rfl) ?_
  refine j_aload3 (q := 1) dL_owed_0 rfl ?_
  refine j_iconst (q := 2) dL_owed_1 rfl ?_
  refine j_aload0 (q := 3) dL_owed_2 rfl ?_
  refine j_iload1 (q := 4) dL_owed_3 rfl ?_
  refine j_iload2 (q := 5) dL_owed_4 rfl ?_
  refine j_catchV2 (Mc := iX7_owed) (c' := 1) (s' := 6) (a := 0) (b := 10) (hpc := 13) (ct := 13) (i := 4) (q1 := 15) (pre := []) (suf := []) dL_owed_5 kV_X7_owed jw_919 ⟨by decide, by decide⟩ sh_0 rfl rfl rfl (by decide) (by decide) hM rfl (fun _ h => absurd h List.not_mem_nil) ⟨by decide, by decide⟩ (by decide) jw_696 (by decide) (Or.inr ⟨dL_owed_13, rfl⟩) rfl rfl (by decide) ?_
  refine j_iconst (q := 16) dL_owed_15 rfl ?_
  exact jw_ireturn dL_owed_16 rfl (by decide) (by decide)
def hL_weakest : HT := [(0, 9, 12, 13)]
theorem kW_L_weakest : KSW iL_weakest hL_weakest 3 := ⟨jw_922, jw_0, ⟨by decide, by decide, by decide +kernel⟩, jw_921⟩
theorem lo_L_weakest {G : GX} (E : EV G) {m m' : Mem} {v0 : Int} {r : Int} (hM : CT G SHP iX7_weakest 0 0 [.inr (.ref 0), .inl v0] m (some (.inl r)) m') : CW G SHP iL_weakest hL_weakest 1 6 [.inr (.ref 0), .inl v0, .inr (.ref 206)] m (some (.inl 0)) (up m' 206 0 (i2 r).toInt) := by
  refine jw_met (L0 := [some (.inr (.ref 0)), some (.inl v0), some (.inr (.ref 206)), none]) (by decide) E.1 E.2 rfl (Nat.le_of_ble_eq_true rfl) ?_
  refine j_aload2 (q := 1) dL_weakest_0 rfl ?_
  refine j_iconst (q := 2) dL_weakest_1 rfl ?_
  refine j_aload0 (q := 3) dL_weakest_2 rfl ?_
  refine j_iload1 (q := 4) dL_weakest_3 rfl ?_
  refine j_callV1 (Mc := iX7_weakest) (q := 7) (c' := 0) (s' := 0) dL_weakest_4 rfl kV_X7_weakest jw_923 ⟨by decide, by decide⟩ sh_0 rfl rfl rfl (by decide) (by decide) hM ?_
  refine j_i2l (q := 8) dL_weakest_7 rfl ?_
  refine j_lastore (q := 9) (i' := 0) dL_weakest_8 rfl sh_206 rfl (by decide) (by decide) ?_
  refine j_goto (tgt := 15) dL_weakest_9 (by decide) ?_
  refine j_iconst (q := 16) dL_weakest_15 rfl ?_
  exact jw_ireturn dL_weakest_16 rfl (by decide) (by decide)
theorem lx_L_weakest_1 {G : GX} (E : EV G) {m m' : Mem} {v0 : Int} (hM : CTX G SHP iX7_weakest 1 6 [.inr (.ref 0), .inl v0] m jXA m') : CW G SHP iL_weakest hL_weakest 1 6 [.inr (.ref 0), .inl v0, .inr (.ref 206)] m (some (.inl 1)) m' := by
  refine jw_met (L0 := [some (.inr (.ref 0)), some (.inl v0), some (.inr (.ref 206)), none]) (by decide) E.1 E.2 rfl (Nat.le_of_ble_eq_true rfl) ?_
  refine j_aload2 (q := 1) dL_weakest_0 rfl ?_
  refine j_iconst (q := 2) dL_weakest_1 rfl ?_
  refine j_aload0 (q := 3) dL_weakest_2 rfl ?_
  refine j_iload1 (q := 4) dL_weakest_3 rfl ?_
  refine j_catchV1 (Mc := iX7_weakest) (c' := 1) (s' := 6) (a := 0) (b := 9) (hpc := 12) (ct := 13) (i := 3) (q1 := 13) (pre := []) (suf := []) dL_weakest_4 kV_X7_weakest jw_923 ⟨by decide, by decide⟩ sh_0 rfl rfl rfl (by decide) (by decide) hM rfl (fun _ h => absurd h List.not_mem_nil) ⟨by decide, by decide⟩ (by decide) jw_696 (by decide) (Or.inl ⟨3, dL_weakest_12, rfl, rfl⟩) rfl rfl (by decide) ?_
  refine j_iconst (q := 14) dL_weakest_13 rfl ?_
  exact jw_ireturn dL_weakest_14 rfl (by decide) (by decide)
def hL_count : HT := [(0, 9, 12, 13)]
theorem kW_L_count : KSW iL_count hL_count 3 := ⟨jw_929, jw_0, ⟨by decide, by decide, by decide +kernel⟩, jw_928⟩
theorem lo_L_count {G : GX} (E : EV G) {m m' : Mem} {v0 : Int} {r : Int} (hM : CT G SHP iX7_count 0 0 [.inr (.ref 0), .inl v0] m (some (.inl r)) m') : CW G SHP iL_count hL_count 1 6 [.inr (.ref 0), .inl v0, .inr (.ref 206)] m (some (.inl 0)) (up m' 206 0 (i2 r).toInt) := by
  refine jw_met (L0 := [some (.inr (.ref 0)), some (.inl v0), some (.inr (.ref 206)), none]) (by decide) E.1 E.2 rfl (Nat.le_of_ble_eq_true rfl) ?_
  refine j_aload2 (q := 1) dL_count_0 rfl ?_
  refine j_iconst (q := 2) dL_count_1 rfl ?_
  refine j_aload0 (q := 3) dL_count_2 rfl ?_
  refine j_iload1 (q := 4) dL_count_3 rfl ?_
  refine j_callV1 (Mc := iX7_count) (q := 7) (c' := 0) (s' := 0) dL_count_4 rfl kV_X7_count jw_930 ⟨by decide, by decide⟩ sh_0 rfl rfl rfl (by decide) (by decide) hM ?_
  refine j_i2l (q := 8) dL_count_7 rfl ?_
  refine j_lastore (q := 9) (i' := 0) dL_count_8 rfl sh_206 rfl (by decide) (by decide) ?_
  refine j_goto (tgt := 15) dL_count_9 (by decide) ?_
  refine j_iconst (q := 16) dL_count_15 rfl ?_
  exact jw_ireturn dL_count_16 rfl (by decide) (by decide)
theorem lx_L_count_1 {G : GX} (E : EV G) {m m' : Mem} {v0 : Int} (hM : CTX G SHP iX7_count 1 6 [.inr (.ref 0), .inl v0] m jXA m') : CW G SHP iL_count hL_count 1 6 [.inr (.ref 0), .inl v0, .inr (.ref 206)] m (some (.inl 1)) m' := by
  refine jw_met (L0 := [some (.inr (.ref 0)), some (.inl v0), some (.inr (.ref 206)), none]) (by decide) E.1 E.2 rfl (Nat.le_of_ble_eq_true rfl) ?_
  refine j_aload2 (q := 1) dL_count_0 rfl ?_
  refine j_iconst (q := 2) dL_count_1 rfl ?_
  refine j_aload0 (q := 3) dL_count_2 rfl ?_
  refine j_iload1 (q := 4) dL_count_3 rfl ?_
  refine j_catchV1 (Mc := iX7_count) (c' := 1) (s' := 6) (a := 0) (b := 9) (hpc := 12) (ct := 13) (i := 3) (q1 := 13) (pre := []) (suf := []) dL_count_4 kV_X7_count jw_930 ⟨by decide, by decide⟩ sh_0 rfl rfl rfl (by decide) (by decide) hM rfl (fun _ h => absurd h List.not_mem_nil) ⟨by decide, by decide⟩ (by decide) jw_696 (by decide) (Or.inl ⟨3, dL_count_12, rfl, rfl⟩) rfl rfl (by decide) ?_
  refine j_iconst (q := 14) dL_count_13 rfl ?_
  exact jw_ireturn dL_count_14 rfl (by decide) (by decide)
def hL_setting : HT := [(0, 9, 12, 25)]
theorem kW_L_setting : KSW iL_setting hL_setting 3 := ⟨jw_933, jw_0, ⟨by decide, by decide, by decide +kernel⟩, jw_932⟩
theorem lo_L_setting {G : GX} (E : EV G) {m m' : Mem} {v0 : Int} {r : Int} (hM : CT G SHP iX7_setting 0 0 [.inr (.ref 0), .inl v0] m (some (.inl r)) m') : CW G SHP iL_setting hL_setting 1 6 [.inr (.ref 0), .inl v0, .inr (.ref 206)] m (some (.inl 0)) (up m' 206 0 (i2 r).toInt) := by
  refine jw_met (L0 := [some (.inr (.ref 0)), some (.inl v0), some (.inr (.ref 206)), none]) (by decide) E.1 E.2 rfl (Nat.le_of_ble_eq_true rfl) ?_
  refine j_aload2 (q := 1) dL_setting_0 rfl ?_
  refine j_iconst (q := 2) dL_setting_1 rfl ?_
  refine j_aload0 (q := 3) dL_setting_2 rfl ?_
  refine j_iload1 (q := 4) dL_setting_3 rfl ?_
  refine j_callV1 (Mc := iX7_setting) (q := 7) (c' := 0) (s' := 0) dL_setting_4 rfl kV_X7_setting jw_934 ⟨by decide, by decide⟩ sh_0 rfl rfl rfl (by decide) (by decide) hM ?_
  refine j_i2l (q := 8) dL_setting_7 rfl ?_
  refine j_lastore (q := 9) (i' := 0) dL_setting_8 rfl sh_206 rfl (by decide) (by decide) ?_
  refine j_goto (tgt := 15) dL_setting_9 (by decide) ?_
  refine j_iconst (q := 16) dL_setting_15 rfl ?_
  exact jw_ireturn dL_setting_16 rfl (by decide) (by decide)
theorem lx_L_setting_1 {G : GX} (E : EV G) {m m' : Mem} {v0 : Int} (hM : CTX G SHP iX7_setting 1 6 [.inr (.ref 0), .inl v0] m jXO m') : CW G SHP iL_setting hL_setting 1 6 [.inr (.ref 0), .inl v0, .inr (.ref 206)] m (some (.inl 1)) m' := by
  refine jw_met (L0 := [some (.inr (.ref 0)), some (.inl v0), some (.inr (.ref 206)), none]) (by decide) E.1 E.2 rfl (Nat.le_of_ble_eq_true rfl) ?_
  refine j_aload2 (q := 1) dL_setting_0 rfl ?_
  refine j_iconst (q := 2) dL_setting_1 rfl ?_
  refine j_aload0 (q := 3) dL_setting_2 rfl ?_
  refine j_iload1 (q := 4) dL_setting_3 rfl ?_
  refine j_catchV1 (Mc := iX7_setting) (c' := 1) (s' := 6) (a := 0) (b := 9) (hpc := 12) (ct := 25) (i := 3) (q1 := 13) (pre := []) (suf := []) dL_setting_4 kV_X7_setting jw_934 ⟨by decide, by decide⟩ sh_0 rfl rfl rfl (by decide) (by decide) hM rfl (fun _ h => absurd h List.not_mem_nil) ⟨by decide, by decide⟩ (by decide) jw_748 (by decide) (Or.inl ⟨3, dL_setting_12, rfl, rfl⟩) rfl rfl (by decide) ?_
  refine j_iconst (q := 14) dL_setting_13 rfl ?_
  exact jw_ireturn dL_setting_14 rfl (by decide) (by decide)
def hL_premium : HT := [(0, 12, 15, 25), (0, 12, 19, 13)]
theorem kW_L_premium : KSW iL_premium hL_premium 5 := ⟨jw_937, jw_0, ⟨by decide, by decide, by decide +kernel⟩, jw_936⟩
theorem lo_L_premium {G : GX} (E : EV G) {m m' : Mem} {v0 v1 v2 : Int} {r : Int} (hM : CT G SHP iX7_premium 0 0 [.inr (.ref 0), .inl v0, .inl v1, .inl v2] m (some (.inl r)) m') : CW G SHP iL_premium hL_premium 1 6 [.inr (.ref 0), .inl v0, .inl v1, .inl v2, .inr (.ref 206)] m (some (.inl 0)) (up m' 206 0 (i2 r).toInt) := by
  refine jw_met (L0 := [some (.inr (.ref 0)), some (.inl v0), some (.inl v1), some (.inl v2), some (.inr (.ref 206)), none]) (by decide) E.1 E.2 rfl (Nat.le_of_ble_eq_true rfl) ?_
  refine j_aload4 (q := 2) dL_premium_0 rfl ?_
  refine j_iconst (q := 3) dL_premium_2 rfl ?_
  refine j_aload0 (q := 4) dL_premium_3 rfl ?_
  refine j_iload1 (q := 5) dL_premium_4 rfl ?_
  refine j_iload2 (q := 6) dL_premium_5 rfl ?_
  refine j_iload3 (q := 7) dL_premium_6 rfl ?_
  refine j_callV3 (Mc := iX7_premium) (q := 10) (c' := 0) (s' := 0) dL_premium_7 rfl kV_X7_premium jw_938 ⟨by decide, by decide⟩ sh_0 rfl rfl rfl (by decide) (by decide) hM ?_
  refine j_i2l (q := 11) dL_premium_10 rfl ?_
  refine j_lastore (q := 12) (i' := 0) dL_premium_11 rfl sh_206 rfl (by decide) (by decide) ?_
  refine j_goto (tgt := 23) dL_premium_12 (by decide) ?_
  refine j_iconst (q := 24) dL_premium_23 rfl ?_
  exact jw_ireturn dL_premium_24 rfl (by decide) (by decide)
theorem lx_L_premium_1 {G : GX} (E : EV G) {m m' : Mem} {v0 v1 v2 : Int} (hM : CTX G SHP iX7_premium 1 6 [.inr (.ref 0), .inl v0, .inl v1, .inl v2] m jXO m') : CW G SHP iL_premium hL_premium 1 6 [.inr (.ref 0), .inl v0, .inl v1, .inl v2, .inr (.ref 206)] m (some (.inl 1)) m' := by
  refine jw_met (L0 := [some (.inr (.ref 0)), some (.inl v0), some (.inl v1), some (.inl v2), some (.inr (.ref 206)), none]) (by decide) E.1 E.2 rfl (Nat.le_of_ble_eq_true rfl) ?_
  refine j_aload4 (q := 2) dL_premium_0 rfl ?_
  refine j_iconst (q := 3) dL_premium_2 rfl ?_
  refine j_aload0 (q := 4) dL_premium_3 rfl ?_
  refine j_iload1 (q := 5) dL_premium_4 rfl ?_
  refine j_iload2 (q := 6) dL_premium_5 rfl ?_
  refine j_iload3 (q := 7) dL_premium_6 rfl ?_
  refine j_catchV3 (Mc := iX7_premium) (c' := 1) (s' := 6) (a := 0) (b := 12) (hpc := 15) (ct := 25) (i := 5) (q1 := 17) (pre := []) (suf := [(0, 12, 19, 13)]) dL_premium_7 kV_X7_premium jw_938 ⟨by decide, by decide⟩ sh_0 rfl rfl rfl (by decide) (by decide) hM rfl (fun _ h => absurd h List.not_mem_nil) ⟨by decide, by decide⟩ (by decide) jw_748 (by decide) (Or.inr ⟨dL_premium_15, rfl⟩) rfl rfl (by decide) ?_
  refine j_iconst (q := 18) dL_premium_17 rfl ?_
  exact jw_ireturn dL_premium_18 rfl (by decide) (by decide)
theorem lx_L_premium_2 {G : GX} (E : EV G) {m m' : Mem} {v0 v1 v2 : Int} (hM : CTX G SHP iX7_premium 1 6 [.inr (.ref 0), .inl v0, .inl v1, .inl v2] m jXA m') : CW G SHP iL_premium hL_premium 1 6 [.inr (.ref 0), .inl v0, .inl v1, .inl v2, .inr (.ref 206)] m (some (.inl 2)) m' := by
  refine jw_met (L0 := [some (.inr (.ref 0)), some (.inl v0), some (.inl v1), some (.inl v2), some (.inr (.ref 206)), none]) (by decide) E.1 E.2 rfl (Nat.le_of_ble_eq_true rfl) ?_
  refine j_aload4 (q := 2) dL_premium_0 rfl ?_
  refine j_iconst (q := 3) dL_premium_2 rfl ?_
  refine j_aload0 (q := 4) dL_premium_3 rfl ?_
  refine j_iload1 (q := 5) dL_premium_4 rfl ?_
  refine j_iload2 (q := 6) dL_premium_5 rfl ?_
  refine j_iload3 (q := 7) dL_premium_6 rfl ?_
  refine j_catchV3 (Mc := iX7_premium) (c' := 1) (s' := 6) (a := 0) (b := 12) (hpc := 19) (ct := 13) (i := 5) (q1 := 21) (pre := [(0, 12, 15, 25)]) (suf := []) dL_premium_7 kV_X7_premium jw_938 ⟨by decide, by decide⟩ sh_0 rfl rfl rfl (by decide) (by decide) hM rfl (fun y hy => by
    simp only [List.mem_cons, List.not_mem_nil, or_false] at hy
    rcases hy with rfl
    · exact ⟨by decide, jXO, jw_748, by decide⟩) ⟨by decide, by decide⟩ (by decide) jw_696 (by decide) (Or.inr ⟨dL_premium_19, rfl⟩) rfl rfl (by decide) ?_
  refine j_iconst (q := 22) dL_premium_21 rfl ?_
  exact jw_ireturn dL_premium_22 rfl (by decide) (by decide)
def hL_cheapest : HT := [(0, 12, 15, 25), (0, 12, 19, 13)]
theorem kW_L_cheapest : KSW iL_cheapest hL_cheapest 5 := ⟨jw_944, jw_0, ⟨by decide, by decide, by decide +kernel⟩, jw_943⟩
theorem lo_L_cheapest {G : GX} (E : EV G) {m m' : Mem} {v0 v1 v2 : Int} {r : Int} (hM : CT G SHP iX7_cheapest 0 0 [.inr (.ref 0), .inl v0, .inl v1, .inl v2] m (some (.inl r)) m') : CW G SHP iL_cheapest hL_cheapest 1 6 [.inr (.ref 0), .inl v0, .inl v1, .inl v2, .inr (.ref 206)] m (some (.inl 0)) (up m' 206 0 (i2 r).toInt) := by
  refine jw_met (L0 := [some (.inr (.ref 0)), some (.inl v0), some (.inl v1), some (.inl v2), some (.inr (.ref 206)), none]) (by decide) E.1 E.2 rfl (Nat.le_of_ble_eq_true rfl) ?_
  refine j_aload4 (q := 2) dL_cheapest_0 rfl ?_
  refine j_iconst (q := 3) dL_cheapest_2 rfl ?_
  refine j_aload0 (q := 4) dL_cheapest_3 rfl ?_
  refine j_iload1 (q := 5) dL_cheapest_4 rfl ?_
  refine j_iload2 (q := 6) dL_cheapest_5 rfl ?_
  refine j_iload3 (q := 7) dL_cheapest_6 rfl ?_
  refine j_callV3 (Mc := iX7_cheapest) (q := 10) (c' := 0) (s' := 0) dL_cheapest_7 rfl kV_X7_cheapest jw_945 ⟨by decide, by decide⟩ sh_0 rfl rfl rfl (by decide) (by decide) hM ?_
  refine j_i2l (q := 11) dL_cheapest_10 rfl ?_
  refine j_lastore (q := 12) (i' := 0) dL_cheapest_11 rfl sh_206 rfl (by decide) (by decide) ?_
  refine j_goto (tgt := 23) dL_cheapest_12 (by decide) ?_
  refine j_iconst (q := 24) dL_cheapest_23 rfl ?_
  exact jw_ireturn dL_cheapest_24 rfl (by decide) (by decide)
theorem lx_L_cheapest_1 {G : GX} (E : EV G) {m m' : Mem} {v0 v1 v2 : Int} (hM : CTX G SHP iX7_cheapest 1 6 [.inr (.ref 0), .inl v0, .inl v1, .inl v2] m jXO m') : CW G SHP iL_cheapest hL_cheapest 1 6 [.inr (.ref 0), .inl v0, .inl v1, .inl v2, .inr (.ref 206)] m (some (.inl 1)) m' := by
  refine jw_met (L0 := [some (.inr (.ref 0)), some (.inl v0), some (.inl v1), some (.inl v2), some (.inr (.ref 206)), none]) (by decide) E.1 E.2 rfl (Nat.le_of_ble_eq_true rfl) ?_
  refine j_aload4 (q := 2) dL_cheapest_0 rfl ?_
  refine j_iconst (q := 3) dL_cheapest_2 rfl ?_
  refine j_aload0 (q := 4) dL_cheapest_3 rfl ?_
  refine j_iload1 (q := 5) dL_cheapest_4 rfl ?_
  refine j_iload2 (q := 6) dL_cheapest_5 rfl ?_
  refine j_iload3 (q := 7) dL_cheapest_6 rfl ?_
  refine j_catchV3 (Mc := iX7_cheapest) (c' := 1) (s' := 6) (a := 0) (b := 12) (hpc := 15) (ct := 25) (i := 5) (q1 := 17) (pre := []) (suf := [(0, 12, 19, 13)]) dL_cheapest_7 kV_X7_cheapest jw_945 ⟨by decide, by decide⟩ sh_0 rfl rfl rfl (by decide) (by decide) hM rfl (fun _ h => absurd h List.not_mem_nil) ⟨by decide, by decide⟩ (by decide) jw_748 (by decide) (Or.inr ⟨dL_cheapest_15, rfl⟩) rfl rfl (by decide) ?_
  refine j_iconst (q := 18) dL_cheapest_17 rfl ?_
  exact jw_ireturn dL_cheapest_18 rfl (by decide) (by decide)
theorem lx_L_cheapest_2 {G : GX} (E : EV G) {m m' : Mem} {v0 v1 v2 : Int} (hM : CTX G SHP iX7_cheapest 1 6 [.inr (.ref 0), .inl v0, .inl v1, .inl v2] m jXA m') : CW G SHP iL_cheapest hL_cheapest 1 6 [.inr (.ref 0), .inl v0, .inl v1, .inl v2, .inr (.ref 206)] m (some (.inl 2)) m' := by
  refine jw_met (L0 := [some (.inr (.ref 0)), some (.inl v0), some (.inl v1), some (.inl v2), some (.inr (.ref 206)), none]) (by decide) E.1 E.2 rfl (Nat.le_of_ble_eq_true rfl) ?_
  refine j_aload4 (q := 2) dL_cheapest_0 rfl ?_
  refine j_iconst (q := 3) dL_cheapest_2 rfl ?_
  refine j_aload0 (q := 4) dL_cheapest_3 rfl ?_
  refine j_iload1 (q := 5) dL_cheapest_4 rfl ?_
  refine j_iload2 (q := 6) dL_cheapest_5 rfl ?_
  refine j_iload3 (q := 7) dL_cheapest_6 rfl ?_
  refine j_catchV3 (Mc := iX7_cheapest) (c' := 1) (s' := 6) (a := 0) (b := 12) (hpc := 19) (ct := 13) (i := 5) (q1 := 21) (pre := [(0, 12, 15, 25)]) (suf := []) dL_cheapest_7 kV_X7_cheapest jw_945 ⟨by decide, by decide⟩ sh_0 rfl rfl rfl (by decide) (by decide) hM rfl (fun y hy => by
    simp only [List.mem_cons, List.not_mem_nil, or_false] at hy
    rcases hy with rfl
    · exact ⟨by decide, jXO, jw_748, by decide⟩) ⟨by decide, by decide⟩ (by decide) jw_696 (by decide) (Or.inr ⟨dL_cheapest_19, rfl⟩) rfl rfl (by decide) ?_
  refine j_iconst (q := 22) dL_cheapest_21 rfl ?_
  exact jw_ireturn dL_cheapest_22 rfl (by decide) (by decide)
def hL_waitFor : HT := [(0, 14, 17, 25), (0, 14, 21, 13)]
theorem kW_L_waitFor : KSW iL_waitFor hL_waitFor 6 := ⟨jw_951, jw_0, ⟨by decide, by decide, by decide +kernel⟩, jw_950⟩
theorem lo_L_waitFor {G : GX} (E : EV G) {m m' : Mem} {v0 v1 v2 v3 : Int} {r : Int} (hM : CT G SHP iX7_waitFor 0 0 [.inr (.ref 0), .inl v0, .inl v1, .inl v2, .inl v3] m (some (.inl r)) m') : CW G SHP iL_waitFor hL_waitFor 1 6 [.inr (.ref 0), .inl v0, .inl v1, .inl v2, .inl v3, .inr (.ref 206)] m (some (.inl 0)) (up m' 206 0 (i2 r).toInt) := by
  refine jw_met (L0 := [some (.inr (.ref 0)), some (.inl v0), some (.inl v1), some (.inl v2), some (.inl v3), some (.inr (.ref 206)), none]) (by decide) E.1 E.2 rfl (Nat.le_of_ble_eq_true rfl) ?_
  refine j_aload5 (q := 2) dL_waitFor_0 rfl ?_
  refine j_iconst (q := 3) dL_waitFor_2 rfl ?_
  refine j_aload0 (q := 4) dL_waitFor_3 rfl ?_
  refine j_iload1 (q := 5) dL_waitFor_4 rfl ?_
  refine j_iload2 (q := 6) dL_waitFor_5 rfl ?_
  refine j_iload3 (q := 7) dL_waitFor_6 rfl ?_
  refine j_iload4 (q := 9) dL_waitFor_7 rfl ?_
  refine j_callV4 (Mc := iX7_waitFor) (q := 12) (c' := 0) (s' := 0) dL_waitFor_9 rfl kV_X7_waitFor jw_952 ⟨by decide, by decide⟩ sh_0 rfl rfl rfl (by decide) (by decide) hM ?_
  refine j_i2l (q := 13) dL_waitFor_12 rfl ?_
  refine j_lastore (q := 14) (i' := 0) dL_waitFor_13 rfl sh_206 rfl (by decide) (by decide) ?_
  refine j_goto (tgt := 25) dL_waitFor_14 (by decide) ?_
  refine j_iconst (q := 26) dL_waitFor_25 rfl ?_
  exact jw_ireturn dL_waitFor_26 rfl (by decide) (by decide)
theorem lx_L_waitFor_1 {G : GX} (E : EV G) {m m' : Mem} {v0 v1 v2 v3 : Int} (hM : CTX G SHP iX7_waitFor 1 6 [.inr (.ref 0), .inl v0, .inl v1, .inl v2, .inl v3] m jXO m') : CW G SHP iL_waitFor hL_waitFor 1 6 [.inr (.ref 0), .inl v0, .inl v1, .inl v2, .inl v3, .inr (.ref 206)] m (some (.inl 1)) m' := by
  refine jw_met (L0 := [some (.inr (.ref 0)), some (.inl v0), some (.inl v1), some (.inl v2), some (.inl v3), some (.inr (.ref 206)), none]) (by decide) E.1 E.2 rfl (Nat.le_of_ble_eq_true rfl) ?_
  refine j_aload5 (q := 2) dL_waitFor_0 rfl ?_
  refine j_iconst (q := 3) dL_waitFor_2 rfl ?_
  refine j_aload0 (q := 4) dL_waitFor_3 rfl ?_
  refine j_iload1 (q := 5) dL_waitFor_4 rfl ?_
  refine j_iload2 (q := 6) dL_waitFor_5 rfl ?_
  refine j_iload3 (q := 7) dL_waitFor_6 rfl ?_
  refine j_iload4 (q := 9) dL_waitFor_7 rfl ?_
  refine j_catchV4 (Mc := iX7_waitFor) (c' := 1) (s' := 6) (a := 0) (b := 14) (hpc := 17) (ct := 25) (i := 6) (q1 := 19) (pre := []) (suf := [(0, 14, 21, 13)]) dL_waitFor_9 kV_X7_waitFor jw_952 ⟨by decide, by decide⟩ sh_0 rfl rfl rfl (by decide) (by decide) hM rfl (fun _ h => absurd h List.not_mem_nil) ⟨by decide, by decide⟩ (by decide) jw_748 (by decide) (Or.inr ⟨dL_waitFor_17, rfl⟩) rfl rfl (by decide) ?_
  refine j_iconst (q := 20) dL_waitFor_19 rfl ?_
  exact jw_ireturn dL_waitFor_20 rfl (by decide) (by decide)
theorem lx_L_waitFor_2 {G : GX} (E : EV G) {m m' : Mem} {v0 v1 v2 v3 : Int} (hM : CTX G SHP iX7_waitFor 1 6 [.inr (.ref 0), .inl v0, .inl v1, .inl v2, .inl v3] m jXA m') : CW G SHP iL_waitFor hL_waitFor 1 6 [.inr (.ref 0), .inl v0, .inl v1, .inl v2, .inl v3, .inr (.ref 206)] m (some (.inl 2)) m' := by
  refine jw_met (L0 := [some (.inr (.ref 0)), some (.inl v0), some (.inl v1), some (.inl v2), some (.inl v3), some (.inr (.ref 206)), none]) (by decide) E.1 E.2 rfl (Nat.le_of_ble_eq_true rfl) ?_
  refine j_aload5 (q := 2) dL_waitFor_0 rfl ?_
  refine j_iconst (q := 3) dL_waitFor_2 rfl ?_
  refine j_aload0 (q := 4) dL_waitFor_3 rfl ?_
  refine j_iload1 (q := 5) dL_waitFor_4 rfl ?_
  refine j_iload2 (q := 6) dL_waitFor_5 rfl ?_
  refine j_iload3 (q := 7) dL_waitFor_6 rfl ?_
  refine j_iload4 (q := 9) dL_waitFor_7 rfl ?_
  refine j_catchV4 (Mc := iX7_waitFor) (c' := 1) (s' := 6) (a := 0) (b := 14) (hpc := 21) (ct := 13) (i := 6) (q1 := 23) (pre := [(0, 14, 17, 25)]) (suf := []) dL_waitFor_9 kV_X7_waitFor jw_952 ⟨by decide, by decide⟩ sh_0 rfl rfl rfl (by decide) (by decide) hM rfl (fun y hy => by
    simp only [List.mem_cons, List.not_mem_nil, or_false] at hy
    rcases hy with rfl
    · exact ⟨by decide, jXO, jw_748, by decide⟩) ⟨by decide, by decide⟩ (by decide) jw_696 (by decide) (Or.inr ⟨dL_waitFor_21, rfl⟩) rfl rfl (by decide) ?_
  refine j_iconst (q := 24) dL_waitFor_23 rfl ?_
  exact jw_ireturn dL_waitFor_24 rfl (by decide) (by decide)
def hL_ifRead : HT := [(0, 10, 13, 25), (0, 10, 17, 13)]
theorem kW_L_ifRead : KSW iL_ifRead hL_ifRead 4 := ⟨jw_958, jw_0, ⟨by decide, by decide, by decide +kernel⟩, jw_957⟩
theorem lo_L_ifRead {G : GX} (E : EV G) {m m' : Mem} {v0 v1 : Int} {r : Int} (hM : CT G SHP iX7_ifRead 0 0 [.inr (.ref 0), .inl v0, .inl v1] m (some (.inl r)) m') : CW G SHP iL_ifRead hL_ifRead 1 6 [.inr (.ref 0), .inl v0, .inl v1, .inr (.ref 206)] m (some (.inl 0)) (up m' 206 0 (i2 r).toInt) := by
  refine jw_met (L0 := [some (.inr (.ref 0)), some (.inl v0), some (.inl v1), some (.inr (.ref 206)), none]) (by decide) E.1 E.2 rfl (Nat.le_of_ble_eq_true rfl) ?_
  refine j_aload3 (q := 1) dL_ifRead_0 rfl ?_
  refine j_iconst (q := 2) dL_ifRead_1 rfl ?_
  refine j_aload0 (q := 3) dL_ifRead_2 rfl ?_
  refine j_iload1 (q := 4) dL_ifRead_3 rfl ?_
  refine j_iload2 (q := 5) dL_ifRead_4 rfl ?_
  refine j_callV2 (Mc := iX7_ifRead) (q := 8) (c' := 0) (s' := 0) dL_ifRead_5 rfl kV_X7_ifRead jw_959 ⟨by decide, by decide⟩ sh_0 rfl rfl rfl (by decide) (by decide) hM ?_
  refine j_i2l (q := 9) dL_ifRead_8 rfl ?_
  refine j_lastore (q := 10) (i' := 0) dL_ifRead_9 rfl sh_206 rfl (by decide) (by decide) ?_
  refine j_goto (tgt := 21) dL_ifRead_10 (by decide) ?_
  refine j_iconst (q := 22) dL_ifRead_21 rfl ?_
  exact jw_ireturn dL_ifRead_22 rfl (by decide) (by decide)
theorem lx_L_ifRead_1 {G : GX} (E : EV G) {m m' : Mem} {v0 v1 : Int} (hM : CTX G SHP iX7_ifRead 1 6 [.inr (.ref 0), .inl v0, .inl v1] m jXO m') : CW G SHP iL_ifRead hL_ifRead 1 6 [.inr (.ref 0), .inl v0, .inl v1, .inr (.ref 206)] m (some (.inl 1)) m' := by
  refine jw_met (L0 := [some (.inr (.ref 0)), some (.inl v0), some (.inl v1), some (.inr (.ref 206)), none]) (by decide) E.1 E.2 rfl (Nat.le_of_ble_eq_true rfl) ?_
  refine j_aload3 (q := 1) dL_ifRead_0 rfl ?_
  refine j_iconst (q := 2) dL_ifRead_1 rfl ?_
  refine j_aload0 (q := 3) dL_ifRead_2 rfl ?_
  refine j_iload1 (q := 4) dL_ifRead_3 rfl ?_
  refine j_iload2 (q := 5) dL_ifRead_4 rfl ?_
  refine j_catchV2 (Mc := iX7_ifRead) (c' := 1) (s' := 6) (a := 0) (b := 10) (hpc := 13) (ct := 25) (i := 4) (q1 := 15) (pre := []) (suf := [(0, 10, 17, 13)]) dL_ifRead_5 kV_X7_ifRead jw_959 ⟨by decide, by decide⟩ sh_0 rfl rfl rfl (by decide) (by decide) hM rfl (fun _ h => absurd h List.not_mem_nil) ⟨by decide, by decide⟩ (by decide) jw_748 (by decide) (Or.inr ⟨dL_ifRead_13, rfl⟩) rfl rfl (by decide) ?_
  refine j_iconst (q := 16) dL_ifRead_15 rfl ?_
  exact jw_ireturn dL_ifRead_16 rfl (by decide) (by decide)
theorem lx_L_ifRead_2 {G : GX} (E : EV G) {m m' : Mem} {v0 v1 : Int} (hM : CTX G SHP iX7_ifRead 1 6 [.inr (.ref 0), .inl v0, .inl v1] m jXA m') : CW G SHP iL_ifRead hL_ifRead 1 6 [.inr (.ref 0), .inl v0, .inl v1, .inr (.ref 206)] m (some (.inl 2)) m' := by
  refine jw_met (L0 := [some (.inr (.ref 0)), some (.inl v0), some (.inl v1), some (.inr (.ref 206)), none]) (by decide) E.1 E.2 rfl (Nat.le_of_ble_eq_true rfl) ?_
  refine j_aload3 (q := 1) dL_ifRead_0 rfl ?_
  refine j_iconst (q := 2) dL_ifRead_1 rfl ?_
  refine j_aload0 (q := 3) dL_ifRead_2 rfl ?_
  refine j_iload1 (q := 4) dL_ifRead_3 rfl ?_
  refine j_iload2 (q := 5) dL_ifRead_4 rfl ?_
  refine j_catchV2 (Mc := iX7_ifRead) (c' := 1) (s' := 6) (a := 0) (b := 10) (hpc := 17) (ct := 13) (i := 4) (q1 := 19) (pre := [(0, 10, 13, 25)]) (suf := []) dL_ifRead_5 kV_X7_ifRead jw_959 ⟨by decide, by decide⟩ sh_0 rfl rfl rfl (by decide) (by decide) hM rfl (fun y hy => by
    simp only [List.mem_cons, List.not_mem_nil, or_false] at hy
    rcases hy with rfl
    · exact ⟨by decide, jXO, jw_748, by decide⟩) ⟨by decide, by decide⟩ (by decide) jw_696 (by decide) (Or.inr ⟨dL_ifRead_17, rfl⟩) rfl rfl (by decide) ?_
  refine j_iconst (q := 20) dL_ifRead_19 rfl ?_
  exact jw_ireturn dL_ifRead_20 rfl (by decide) (by decide)
def hL_savable : HT := [(0, 9, 12, 13)]
theorem kW_L_savable : KSW iL_savable hL_savable 3 := ⟨jw_968, jw_0, ⟨by decide, by decide, by decide +kernel⟩, jw_967⟩
theorem lo_L_savable {G : GX} (E : EV G) {m m' : Mem} {v0 : Int} {r : Int} (hM : CT G SHP iX7_savable 0 0 [.inr (.ref 0), .inl v0] m (some (.inl r)) m') : CW G SHP iL_savable hL_savable 1 6 [.inr (.ref 0), .inl v0, .inr (.ref 206)] m (some (.inl 0)) (up m' 206 0 (i2 r).toInt) := by
  refine jw_met (L0 := [some (.inr (.ref 0)), some (.inl v0), some (.inr (.ref 206)), none]) (by decide) E.1 E.2 rfl (Nat.le_of_ble_eq_true rfl) ?_
  refine j_aload2 (q := 1) dL_savable_0 rfl ?_
  refine j_iconst (q := 2) dL_savable_1 rfl ?_
  refine j_aload0 (q := 3) dL_savable_2 rfl ?_
  refine j_iload1 (q := 4) dL_savable_3 rfl ?_
  refine j_callV1 (Mc := iX7_savable) (q := 7) (c' := 0) (s' := 0) dL_savable_4 rfl kV_X7_savable jw_969 ⟨by decide, by decide⟩ sh_0 rfl rfl rfl (by decide) (by decide) hM ?_
  refine j_i2l (q := 8) dL_savable_7 rfl ?_
  refine j_lastore (q := 9) (i' := 0) dL_savable_8 rfl sh_206 rfl (by decide) (by decide) ?_
  refine j_goto (tgt := 15) dL_savable_9 (by decide) ?_
  refine j_iconst (q := 16) dL_savable_15 rfl ?_
  exact jw_ireturn dL_savable_16 rfl (by decide) (by decide)
theorem lx_L_savable_1 {G : GX} (E : EV G) {m m' : Mem} {v0 : Int} (hM : CTX G SHP iX7_savable 1 6 [.inr (.ref 0), .inl v0] m jXA m') : CW G SHP iL_savable hL_savable 1 6 [.inr (.ref 0), .inl v0, .inr (.ref 206)] m (some (.inl 1)) m' := by
  refine jw_met (L0 := [some (.inr (.ref 0)), some (.inl v0), some (.inr (.ref 206)), none]) (by decide) E.1 E.2 rfl (Nat.le_of_ble_eq_true rfl) ?_
  refine j_aload2 (q := 1) dL_savable_0 rfl ?_
  refine j_iconst (q := 2) dL_savable_1 rfl ?_
  refine j_aload0 (q := 3) dL_savable_2 rfl ?_
  refine j_iload1 (q := 4) dL_savable_3 rfl ?_
  refine j_catchV1 (Mc := iX7_savable) (c' := 1) (s' := 6) (a := 0) (b := 9) (hpc := 12) (ct := 13) (i := 3) (q1 := 13) (pre := []) (suf := []) dL_savable_4 kV_X7_savable jw_969 ⟨by decide, by decide⟩ sh_0 rfl rfl rfl (by decide) (by decide) hM rfl (fun _ h => absurd h List.not_mem_nil) ⟨by decide, by decide⟩ (by decide) jw_696 (by decide) (Or.inl ⟨3, dL_savable_12, rfl, rfl⟩) rfl rfl (by decide) ?_
  refine j_iconst (q := 14) dL_savable_13 rfl ?_
  exact jw_ireturn dL_savable_14 rfl (by decide) (by decide)
def hL_atRisk : HT := [(0, 9, 12, 25)]
theorem kW_L_atRisk : KSW iL_atRisk hL_atRisk 3 := ⟨jw_972, jw_0, ⟨by decide, by decide, by decide +kernel⟩, jw_971⟩
theorem lo_L_atRisk {G : GX} (E : EV G) {m m' : Mem} {v0 : Int} {r : Int} (hM : CT G SHP iX7_atRisk 0 0 [.inr (.ref 0), .inl v0] m (some (.inl r)) m') : CW G SHP iL_atRisk hL_atRisk 1 6 [.inr (.ref 0), .inl v0, .inr (.ref 206)] m (some (.inl 0)) (up m' 206 0 (i2 r).toInt) := by
  refine jw_met (L0 := [some (.inr (.ref 0)), some (.inl v0), some (.inr (.ref 206)), none]) (by decide) E.1 E.2 rfl (Nat.le_of_ble_eq_true rfl) ?_
  refine j_aload2 (q := 1) dL_atRisk_0 rfl ?_
  refine j_iconst (q := 2) dL_atRisk_1 rfl ?_
  refine j_aload0 (q := 3) dL_atRisk_2 rfl ?_
  refine j_iload1 (q := 4) dL_atRisk_3 rfl ?_
  refine j_callV1 (Mc := iX7_atRisk) (q := 7) (c' := 0) (s' := 0) dL_atRisk_4 rfl kV_X7_atRisk jw_973 ⟨by decide, by decide⟩ sh_0 rfl rfl rfl (by decide) (by decide) hM ?_
  refine j_i2l (q := 8) dL_atRisk_7 rfl ?_
  refine j_lastore (q := 9) (i' := 0) dL_atRisk_8 rfl sh_206 rfl (by decide) (by decide) ?_
  refine j_goto (tgt := 15) dL_atRisk_9 (by decide) ?_
  refine j_iconst (q := 16) dL_atRisk_15 rfl ?_
  exact jw_ireturn dL_atRisk_16 rfl (by decide) (by decide)
theorem lx_L_atRisk_1 {G : GX} (E : EV G) {m m' : Mem} {v0 : Int} (hM : CTX G SHP iX7_atRisk 1 6 [.inr (.ref 0), .inl v0] m jXO m') : CW G SHP iL_atRisk hL_atRisk 1 6 [.inr (.ref 0), .inl v0, .inr (.ref 206)] m (some (.inl 1)) m' := by
  refine jw_met (L0 := [some (.inr (.ref 0)), some (.inl v0), some (.inr (.ref 206)), none]) (by decide) E.1 E.2 rfl (Nat.le_of_ble_eq_true rfl) ?_
  refine j_aload2 (q := 1) dL_atRisk_0 rfl ?_
  refine j_iconst (q := 2) dL_atRisk_1 rfl ?_
  refine j_aload0 (q := 3) dL_atRisk_2 rfl ?_
  refine j_iload1 (q := 4) dL_atRisk_3 rfl ?_
  refine j_catchV1 (Mc := iX7_atRisk) (c' := 1) (s' := 6) (a := 0) (b := 9) (hpc := 12) (ct := 25) (i := 3) (q1 := 13) (pre := []) (suf := []) dL_atRisk_4 kV_X7_atRisk jw_973 ⟨by decide, by decide⟩ sh_0 rfl rfl rfl (by decide) (by decide) hM rfl (fun _ h => absurd h List.not_mem_nil) ⟨by decide, by decide⟩ (by decide) jw_748 (by decide) (Or.inl ⟨3, dL_atRisk_12, rfl, rfl⟩) rfl rfl (by decide) ?_
  refine j_iconst (q := 14) dL_atRisk_13 rfl ?_
  exact jw_ireturn dL_atRisk_14 rfl (by decide) (by decide)

/-! CONSTRUCTORS: the classes inside the plane, the plane, the text -/
theorem fr_X7_10 : FR RX7 10 7 0 := ⟨RX7, TX7, 4, tyX7, (.object "CoreLeases$Plane"), cf_7, by decide, jw_243, rfl, rfl, by decide +kernel, fun _ => ⟨rfl, rfl⟩⟩
theorem fr_X7_16 : FR RX7 16 7 1 := ⟨RX7, TX7, 4, tyX7, (.object "CoreLeases$Plane"), cf_7, by decide, jw_244, rfl, rfl, by decide +kernel, fun _ => ⟨rfl, rfl⟩⟩
theorem fr_X7_22 : FR RX7 22 7 2 := ⟨RX7, TX7, 4, tyX7, (.object "CoreLeases$Saves"), cf_7, by decide, jw_245, rfl, rfl, by decide +kernel, fun _ => ⟨rfl, rfl⟩⟩
theorem fr_X7_29 : FR RX7 29 7 3 := ⟨RX7, TX7, 4, tyX7, (.object "CoreLeases$Text"), cf_7, by decide, jw_246, rfl, rfl, by decide +kernel, fun _ => ⟨rfl, rfl⟩⟩
theorem fr_X0_15 : FR RX0 15 0 1 := ⟨RX0, TX0, 7, tyX0, (.array .int), cf_0, by decide, jw_44, rfl, rfl, by decide +kernel, fun _ => ⟨rfl, rfl⟩⟩
theorem fr_X0_19 : FR RX0 19 0 2 := ⟨RX0, TX0, 7, tyX0, (.array .int), cf_0, by decide, jw_47, rfl, rfl, by decide +kernel, fun _ => ⟨rfl, rfl⟩⟩
theorem fr_X0_22 : FR RX0 22 0 3 := ⟨RX0, TX0, 7, tyX0, (.array .int), cf_0, by decide, jw_50, rfl, rfl, by decide +kernel, fun _ => ⟨rfl, rfl⟩⟩
theorem fr_X0_25 : FR RX0 25 0 4 := ⟨RX0, TX0, 7, tyX0, (.array .int), cf_0, by decide, jw_52, rfl, rfl, by decide +kernel, fun _ => ⟨rfl, rfl⟩⟩
theorem fr_X0_28 : FR RX0 28 0 5 := ⟨RX0, TX0, 7, tyX0, (.array .int), cf_0, by decide, jw_55, rfl, rfl, by decide +kernel, fun _ => ⟨rfl, rfl⟩⟩
theorem fr_X0_31 : FR RX0 31 0 6 := ⟨RX0, TX0, 7, tyX0, (.array .int), cf_0, by decide, jw_57, rfl, rfl, by decide +kernel, fun _ => ⟨rfl, rfl⟩⟩
theorem fr_X1_15 : FR RX1 15 1 1 := ⟨RX1, TX1, 3, tyX1, (.array .int), cf_1, by decide, jw_85, rfl, rfl, by decide +kernel, fun _ => ⟨rfl, rfl⟩⟩
theorem fr_X1_19 : FR RX1 19 1 2 := ⟨RX1, TX1, 3, tyX1, (.array .int), cf_1, by decide, jw_87, rfl, rfl, by decide +kernel, fun _ => ⟨rfl, rfl⟩⟩
theorem fr_X2_15 : FR RX2 15 2 1 := ⟨RX2, TX2, 6, tyX2, (.array .int), cf_2, by decide, jw_130, rfl, rfl, by decide +kernel, fun _ => ⟨rfl, rfl⟩⟩
theorem fr_X2_19 : FR RX2 19 2 2 := ⟨RX2, TX2, 6, tyX2, (.array .int), cf_2, by decide, jw_133, rfl, rfl, by decide +kernel, fun _ => ⟨rfl, rfl⟩⟩
theorem fr_X2_22 : FR RX2 22 2 3 := ⟨RX2, TX2, 6, tyX2, (.array .int), cf_2, by decide, jw_136, rfl, rfl, by decide +kernel, fun _ => ⟨rfl, rfl⟩⟩
theorem fr_X2_25 : FR RX2 25 2 4 := ⟨RX2, TX2, 6, tyX2, (.array .int), cf_2, by decide, jw_139, rfl, rfl, by decide +kernel, fun _ => ⟨rfl, rfl⟩⟩
theorem fr_X2_28 : FR RX2 28 2 5 := ⟨RX2, TX2, 6, tyX2, (.array .int), cf_2, by decide, jw_142, rfl, rfl, by decide +kernel, fun _ => ⟨rfl, rfl⟩⟩
theorem fr_X3_21 : FR RX3 21 3 3 := ⟨RX3, TX3, 11, tyX3, (.array .int), cf_3, by decide, jw_175, rfl, rfl, by decide +kernel, fun _ => ⟨rfl, rfl⟩⟩
theorem fr_X3_25 : FR RX3 25 3 4 := ⟨RX3, TX3, 11, tyX3, (.array .int), cf_3, by decide, jw_177, rfl, rfl, by decide +kernel, fun _ => ⟨rfl, rfl⟩⟩
theorem fr_X3_31 : FR RX3 31 3 5 := ⟨RX3, TX3, 11, tyX3, (.object "CoreLeases$Cores"), cf_3, by decide, jw_179, rfl, rfl, by decide +kernel, fun _ => ⟨rfl, rfl⟩⟩
theorem fr_X3_38 : FR RX3 38 3 6 := ⟨RX3, TX3, 11, tyX3, (.object "CoreLeases$Debts"), cf_3, by decide, jw_181, rfl, rfl, by decide +kernel, fun _ => ⟨rfl, rfl⟩⟩
theorem fr_X3_45 : FR RX3 45 3 7 := ⟨RX3, TX3, 11, tyX3, (.object "CoreLeases$Tenants"), cf_3, by decide, jw_183, rfl, rfl, by decide +kernel, fun _ => ⟨rfl, rfl⟩⟩
theorem fr_X3_52 : FR RX3 52 3 8 := ⟨RX3, TX3, 11, tyX3, (.object "CoreLeases$Insurers"), cf_3, by decide, jw_185, rfl, rfl, by decide +kernel, fun _ => ⟨rfl, rfl⟩⟩
theorem fr_X3_56 : FR RX3 56 3 9 := ⟨RX3, TX3, 11, tyX3, (.array .int), cf_3, by decide, jw_187, rfl, rfl, by decide +kernel, fun _ => ⟨rfl, rfl⟩⟩
theorem fr_X4_17 : FR RX4 17 4 1 := ⟨RX4, TX4, 2, tyX4, (.array (.object "CoreLeases$Plane")), cf_4, by decide, jw_223, rfl, rfl, by decide +kernel, fun _ => ⟨rfl, rfl⟩⟩
theorem fr_X5_15 : FR RX5 15 5 1 := ⟨RX5, TX5, 4, tyX5, (.array .int), cf_5, by decide, jw_104, rfl, rfl, by decide +kernel, fun _ => ⟨rfl, rfl⟩⟩
theorem fr_X5_19 : FR RX5 19 5 2 := ⟨RX5, TX5, 4, tyX5, (.array .int), cf_5, by decide, jw_107, rfl, rfl, by decide +kernel, fun _ => ⟨rfl, rfl⟩⟩
theorem fr_X5_22 : FR RX5 22 5 3 := ⟨RX5, TX5, 4, tyX5, (.array .int), cf_5, by decide, jw_110, rfl, rfl, by decide +kernel, fun _ => ⟨rfl, rfl⟩⟩
theorem fr_X6_15 : FR RX6 15 6 1 := ⟨RX6, TX6, 2, tyX6, (.array .int), cf_6, by decide, jw_237, rfl, rfl, by decide +kernel, fun _ => ⟨rfl, rfl⟩⟩
theorem df_0 {G : GX} : ∀ j, j < 7 → defaultValue (tyX0 j) = vp_V (jfl G [.inl 1, .inl 2, .inl 2, .inl 2, .inl 2, .inl 2, .inl 2] (fun _ => 0)) j := by
  intro j hj
  match j, hj with
  | 0, _ => rfl
  | 1, _ => rfl
  | 2, _ => rfl
  | 3, _ => rfl
  | 4, _ => rfl
  | 5, _ => rfl
  | 6, _ => rfl
  | k + 7, hk => exact absurd hk (by omega)
theorem df_1 {G : GX} : ∀ j, j < 3 → defaultValue (tyX1 j) = vp_V (jfl G [.inl 0, .inl 2, .inl 2] (fun _ => 0)) j := by
  intro j hj
  match j, hj with
  | 0, _ => rfl
  | 1, _ => rfl
  | 2, _ => rfl
  | k + 3, hk => exact absurd hk (by omega)
theorem df_2 {G : GX} : ∀ j, j < 6 → defaultValue (tyX2 j) = vp_V (jfl G [.inl 0, .inl 2, .inl 2, .inl 2, .inl 2, .inl 2] (fun _ => 0)) j := by
  intro j hj
  match j, hj with
  | 0, _ => rfl
  | 1, _ => rfl
  | 2, _ => rfl
  | 3, _ => rfl
  | 4, _ => rfl
  | 5, _ => rfl
  | k + 6, hk => exact absurd hk (by omega)
theorem df_3 {G : GX} : ∀ j, j < 11 → defaultValue (tyX3 j) = vp_V (jfl G [.inl 0, .inl 0, .inl 0, .inl 2, .inl 2, .inl 2, .inl 2, .inl 2, .inl 2, .inl 2, .inl 0] (fun _ => 0)) j := by
  intro j hj
  match j, hj with
  | 0, _ => rfl
  | 1, _ => rfl
  | 2, _ => rfl
  | 3, _ => rfl
  | 4, _ => rfl
  | 5, _ => rfl
  | 6, _ => rfl
  | 7, _ => rfl
  | 8, _ => rfl
  | 9, _ => rfl
  | 10, _ => rfl
  | k + 11, hk => exact absurd hk (by omega)
theorem df_4 {G : GX} : ∀ j, j < 2 → defaultValue (tyX4 j) = vp_V (jfl G [.inl 0, .inl 2] (fun _ => 0)) j := by
  intro j hj
  match j, hj with
  | 0, _ => rfl
  | 1, _ => rfl
  | k + 2, hk => exact absurd hk (by omega)
theorem df_5 {G : GX} : ∀ j, j < 4 → defaultValue (tyX5 j) = vp_V (jfl G [.inl 0, .inl 2, .inl 2, .inl 2] (fun _ => 0)) j := by
  intro j hj
  match j, hj with
  | 0, _ => rfl
  | 1, _ => rfl
  | 2, _ => rfl
  | 3, _ => rfl
  | k + 4, hk => exact absurd hk (by omega)
theorem df_6 {G : GX} : ∀ j, j < 2 → defaultValue (tyX6 j) = vp_V (jfl G [.inl 0, .inl 2] (fun _ => 0)) j := by
  intro j hj
  match j, hj with
  | 0, _ => rfl
  | 1, _ => rfl
  | k + 2, hk => exact absurd hk (by omega)
theorem df_7 {G : GX} : ∀ j, j < 4 → defaultValue (tyX7 j) = vp_V (jfl G [.inl 2, .inl 2, .inl 2, .inl 2] (fun _ => 0)) j := by
  intro j hj
  match j, hj with
  | 0, _ => rfl
  | 1, _ => rfl
  | 2, _ => rfl
  | 3, _ => rfl
  | k + 4, hk => exact absurd hk (by omega)
theorem cpP_x {P : Mem} {d : Nat} {f : Int → Int} {N : Int} {c : Nat} (h : ¬ c = d) : cpP P d f N c = P c := by funext j; exact cpP_o h
def coS (q : Nat) : List SH := [.inl (0, [.inl 1, .inr (q + 1), .inr (q + 2), .inr (q + 3), .inr (q + 4), .inr (q + 5), .inr (q + 6)]), .inr (0, 64), .inr (0, 64), .inr (0, 64), .inr (0, 64), .inr (0, 64), .inr (0, 64)]
def deS (q : Nat) : List SH := [.inl (1, [.inl 0, .inr (q + 1), .inr (q + 2)]), .inr (0, 64), .inr (0, 64)]
def teS (q : Nat) : List SH := [.inl (5, [.inl 0, .inr (q + 1), .inr (q + 2), .inr (q + 3)]), .inr (0, 6), .inr (0, 6), .inr (0, 6)]
def inS (q : Nat) : List SH := [.inl (2, [.inl 0, .inr (q + 1), .inr (q + 2), .inr (q + 3), .inr (q + 4), .inr (q + 5)]), .inr (0, 3), .inr (0, 3), .inr (0, 3), .inr (0, 3), .inr (0, 3)]
def txS (q : Nat) : List SH := [.inl (6, [.inl 0, .inr (q + 1)]), .inr (0, 60)]
def iniC (m : Mem) (b : Nat) : Mem := cpP (cpP (cpP m (b + 1) (fun _ => 100) 64) (b + 2) (fun _ => -1) 64) (b + 4) (fun _ => -1) 64
def iniD (m : Mem) (b : Nat) : Mem := cpP m (b + 2) (fun _ => -1) 64
theorem iniC_o {m : Mem} {b c : Nat} (h : ¬ (c = b + 1 ∨ c = b + 2 ∨ c = b + 4)) : iniC m b c = m c := by
  unfold iniC; rw [cpP_x (by omega), cpP_x (by omega), cpP_x (by omega)]
theorem iniD_o {m : Mem} {b c : Nat} (h : ¬ c = b + 2) : iniD m b c = m c := cpP_x h
theorem cg_X0_init {G : GX} (hl : Lin G) (hfl : (gL G).flags = flags0) {pre : List SH} {b : Nat} (hb : pre.length = b) {m : Mem} (hz : ∀ d, d < 7 → m (b + d) = fun _ => 0) : CG G (pre ++ [.inl (0, [.inl 1, .inl 2, .inl 2, .inl 2, .inl 2, .inl 2, .inl 2])]) iX0_init 6 384 [.inr (.ref b)] m (pre ++ coS b) (iniC m b) := by
  refine jg_met (n0 := b + 1) (L0 := [some (.inr (.ref b))]) hl hfl (by decide) rfl rfl (Nat.le_of_ble_eq_true rfl) (by simp [hb]) ?_
  refine j_aload0 (q := 1) dX0_init_0 rfl ?_
  refine j_obj (q := 4) dX0_init_1 rfl jw_38 jw_25 jw_26 rfl ⟨by decide, by decide⟩ ?_
  refine j_aload0 (q := 5) dX0_init_4 rfl ?_
  refine j_lconst (q := 6) (x := 0) dX0_init_5 rfl rfl ?_
  refine j_putL 0 (j' := 0) (q := 9) dX0_init_6 rfl fw_X0_9 (gx (d := 0) hb rfl) rfl rfl ?_
  refine j_mem (m' := m) (up0 (congrFun (hz 0 (by decide)) _)) ?_
  refine j_aload0 (q := 10) dX0_init_9 rfl ?_
  refine j_bipush (q := 12) dX0_init_10 rfl rfl ?_
  refine j_newI (N := 64) (r := b + 1) (l' := [.inl (0, [.inl 1, .inl 2, .inl 2, .inl 2, .inl 2, .inl 2, .inl 2]), .inr (0, 64)]) hl hb rfl rfl rfl dX0_init_12 rfl rfl (by decide) (hz 1 (by decide)) (by decide) (by decide) ?_
  refine j_putR (d := 0) (l' := [.inl (0, [.inl 1, .inr (b + 1), .inl 2, .inl 2, .inl 2, .inl 2, .inl 2]), .inr (0, 64)]) hl hb dX0_init_14 rfl fr_X0_15 rfl rfl (Nat.le_of_ble_eq_true rfl) rfl ?_
  refine j_aload0 (q := 18) dX0_init_17 rfl ?_
  refine j_bipush (q := 20) dX0_init_18 rfl rfl ?_
  refine j_newI (N := 64) (r := b + 2) (l' := [.inl (0, [.inl 1, .inr (b + 1), .inl 2, .inl 2, .inl 2, .inl 2, .inl 2]), .inr (0, 64), .inr (0, 64)]) hl hb rfl rfl rfl dX0_init_20 rfl rfl (by decide) (hz 2 (by decide)) (by decide) (by decide) ?_
  refine j_putR (d := 0) (l' := [.inl (0, [.inl 1, .inr (b + 1), .inr (b + 2), .inl 2, .inl 2, .inl 2, .inl 2]), .inr (0, 64), .inr (0, 64)]) hl hb dX0_init_22 rfl fr_X0_19 rfl rfl (Nat.le_of_ble_eq_true rfl) rfl ?_
  refine j_aload0 (q := 26) dX0_init_25 rfl ?_
  refine j_bipush (q := 28) dX0_init_26 rfl rfl ?_
  refine j_newI (N := 64) (r := b + 3) (l' := [.inl (0, [.inl 1, .inr (b + 1), .inr (b + 2), .inl 2, .inl 2, .inl 2, .inl 2]), .inr (0, 64), .inr (0, 64), .inr (0, 64)]) hl hb rfl rfl rfl dX0_init_28 rfl rfl (by decide) (hz 3 (by decide)) (by decide) (by decide) ?_
  refine j_putR (d := 0) (l' := [.inl (0, [.inl 1, .inr (b + 1), .inr (b + 2), .inr (b + 3), .inl 2, .inl 2, .inl 2]), .inr (0, 64), .inr (0, 64), .inr (0, 64)]) hl hb dX0_init_30 rfl fr_X0_22 rfl rfl (Nat.le_of_ble_eq_true rfl) rfl ?_
  refine j_aload0 (q := 34) dX0_init_33 rfl ?_
  refine j_bipush (q := 36) dX0_init_34 rfl rfl ?_
  refine j_newI (N := 64) (r := b + 4) (l' := [.inl (0, [.inl 1, .inr (b + 1), .inr (b + 2), .inr (b + 3), .inl 2, .inl 2, .inl 2]), .inr (0, 64), .inr (0, 64), .inr (0, 64), .inr (0, 64)]) hl hb rfl rfl rfl dX0_init_36 rfl rfl (by decide) (hz 4 (by decide)) (by decide) (by decide) ?_
  refine j_putR (d := 0) (l' := [.inl (0, [.inl 1, .inr (b + 1), .inr (b + 2), .inr (b + 3), .inr (b + 4), .inl 2, .inl 2]), .inr (0, 64), .inr (0, 64), .inr (0, 64), .inr (0, 64)]) hl hb dX0_init_38 rfl fr_X0_25 rfl rfl (Nat.le_of_ble_eq_true rfl) rfl ?_
  refine j_aload0 (q := 42) dX0_init_41 rfl ?_
  refine j_bipush (q := 44) dX0_init_42 rfl rfl ?_
  refine j_newI (N := 64) (r := b + 5) (l' := [.inl (0, [.inl 1, .inr (b + 1), .inr (b + 2), .inr (b + 3), .inr (b + 4), .inl 2, .inl 2]), .inr (0, 64), .inr (0, 64), .inr (0, 64), .inr (0, 64), .inr (0, 64)]) hl hb rfl rfl rfl dX0_init_44 rfl rfl (by decide) (hz 5 (by decide)) (by decide) (by decide) ?_
  refine j_putR (d := 0) (l' := [.inl (0, [.inl 1, .inr (b + 1), .inr (b + 2), .inr (b + 3), .inr (b + 4), .inr (b + 5), .inl 2]), .inr (0, 64), .inr (0, 64), .inr (0, 64), .inr (0, 64), .inr (0, 64)]) hl hb dX0_init_46 rfl fr_X0_28 rfl rfl (Nat.le_of_ble_eq_true rfl) rfl ?_
  refine j_aload0 (q := 50) dX0_init_49 rfl ?_
  refine j_bipush (q := 52) dX0_init_50 rfl rfl ?_
  refine j_newI (N := 64) (r := b + 6) (l' := [.inl (0, [.inl 1, .inr (b + 1), .inr (b + 2), .inr (b + 3), .inr (b + 4), .inr (b + 5), .inl 2]), .inr (0, 64), .inr (0, 64), .inr (0, 64), .inr (0, 64), .inr (0, 64), .inr (0, 64)]) hl hb rfl rfl rfl dX0_init_52 rfl rfl (by decide) (hz 6 (by decide)) (by decide) (by decide) ?_
  refine j_putR (d := 0) (l' := [.inl (0, [.inl 1, .inr (b + 1), .inr (b + 2), .inr (b + 3), .inr (b + 4), .inr (b + 5), .inr (b + 6)]), .inr (0, 64), .inr (0, 64), .inr (0, 64), .inr (0, 64), .inr (0, 64), .inr (0, 64)]) hl hb dX0_init_54 rfl fr_X0_31 rfl rfl (Nat.le_of_ble_eq_true rfl) rfl ?_
  refine j_aload0 (q := 58) dX0_init_57 rfl ?_
  refine j_getR 1 (q := 61) dX0_init_58 rfl fl_X0_15 (gx (d := 0) hb rfl) rfl ?_
  refine j_bipush (q := 63) dX0_init_61 rfl rfl ?_
  refine j_callS2v (Mc := iJ7_fill_53178) (q := 66) (c' := 0) (s' := 0) dX0_init_63 rfl kS_J7_fill_53178 jw_39 ⟨by decide, by decide⟩ rfl (by decide) (by decide) (ct_fill (N := 64) hl.ap hfl (gx (d := 1) hb rfl) (by decide)) ?_
  refine j_mem (m' := (cpP m (b + 1) (fun _ => 100) 64)) rfl ?_
  refine j_aload0 (q := 67) dX0_init_66 rfl ?_
  refine j_getR 2 (q := 70) dX0_init_67 rfl fl_X0_19 (gx (d := 0) hb rfl) rfl ?_
  refine j_iconst (q := 71) dX0_init_70 rfl ?_
  refine j_callS2v (Mc := iJ7_fill_53178) (q := 74) (c' := 0) (s' := 0) dX0_init_71 rfl kS_J7_fill_53178 jw_39 ⟨by decide, by decide⟩ rfl (by decide) (by decide) (ct_fill (N := 64) hl.ap hfl (gx (d := 2) hb rfl) (by decide)) ?_
  refine j_mem (m' := (cpP (cpP m (b + 1) (fun _ => 100) 64) (b + 2) (fun _ => -1) 64)) rfl ?_
  refine j_aload0 (q := 75) dX0_init_74 rfl ?_
  refine j_getR 4 (q := 78) dX0_init_75 rfl fl_X0_25 (gx (d := 0) hb rfl) rfl ?_
  refine j_iconst (q := 79) dX0_init_78 rfl ?_
  refine j_callS2v (Mc := iJ7_fill_53178) (q := 82) (c' := 0) (s' := 0) dX0_init_79 rfl kS_J7_fill_53178 jw_39 ⟨by decide, by decide⟩ rfl (by decide) (by decide) (ct_fill (N := 64) hl.ap hfl (gx (d := 4) hb rfl) (by decide)) ?_
  refine j_mem (m' := (cpP (cpP (cpP m (b + 1) (fun _ => 100) 64) (b + 2) (fun _ => -1) 64) (b + 4) (fun _ => -1) 64)) rfl ?_
  exact jg_return dX0_init_82 rfl rfl rfl
theorem cg_X1_init {G : GX} (hl : Lin G) (hfl : (gL G).flags = flags0) {pre : List SH} {b : Nat} (hb : pre.length = b) {m : Mem} (hz : ∀ d, d < 3 → m (b + d) = fun _ => 0) : CG G (pre ++ [.inl (1, [.inl 0, .inl 2, .inl 2])]) iX1_init 2 128 [.inr (.ref b)] m (pre ++ deS b) (iniD m b) := by
  refine jg_met (n0 := b + 1) (L0 := [some (.inr (.ref b))]) hl hfl (by decide) rfl rfl (Nat.le_of_ble_eq_true rfl) (by simp [hb]) ?_
  refine j_aload0 (q := 1) dX1_init_0 rfl ?_
  refine j_obj (q := 4) dX1_init_1 rfl jw_81 jw_25 jw_26 rfl ⟨by decide, by decide⟩ ?_
  refine j_aload0 (q := 5) dX1_init_4 rfl ?_
  refine j_iconst (q := 6) dX1_init_5 rfl ?_
  refine j_putI 0 (j' := 0) (q := 9) dX1_init_6 rfl fw_X1_9 (gx (d := 0) hb rfl) rfl rfl ?_
  refine j_mem (m' := m) (up0 (congrFun (hz 0 (by decide)) _)) ?_
  refine j_aload0 (q := 10) dX1_init_9 rfl ?_
  refine j_bipush (q := 12) dX1_init_10 rfl rfl ?_
  refine j_newI (N := 64) (r := b + 1) (l' := [.inl (1, [.inl 0, .inl 2, .inl 2]), .inr (0, 64)]) hl hb rfl rfl rfl dX1_init_12 rfl rfl (by decide) (hz 1 (by decide)) (by decide) (by decide) ?_
  refine j_putR (d := 0) (l' := [.inl (1, [.inl 0, .inr (b + 1), .inl 2]), .inr (0, 64)]) hl hb dX1_init_14 rfl fr_X1_15 rfl rfl (Nat.le_of_ble_eq_true rfl) rfl ?_
  refine j_aload0 (q := 18) dX1_init_17 rfl ?_
  refine j_bipush (q := 20) dX1_init_18 rfl rfl ?_
  refine j_newI (N := 64) (r := b + 2) (l' := [.inl (1, [.inl 0, .inr (b + 1), .inl 2]), .inr (0, 64), .inr (0, 64)]) hl hb rfl rfl rfl dX1_init_20 rfl rfl (by decide) (hz 2 (by decide)) (by decide) (by decide) ?_
  refine j_putR (d := 0) (l' := [.inl (1, [.inl 0, .inr (b + 1), .inr (b + 2)]), .inr (0, 64), .inr (0, 64)]) hl hb dX1_init_22 rfl fr_X1_19 rfl rfl (Nat.le_of_ble_eq_true rfl) rfl ?_
  refine j_aload0 (q := 26) dX1_init_25 rfl ?_
  refine j_getR 2 (q := 29) dX1_init_26 rfl fl_X1_19 (gx (d := 0) hb rfl) rfl ?_
  refine j_iconst (q := 30) dX1_init_29 rfl ?_
  refine j_callS2v (Mc := iJ7_fill_53178) (q := 33) (c' := 0) (s' := 0) dX1_init_30 rfl kS_J7_fill_53178 jw_82 ⟨by decide, by decide⟩ rfl (by decide) (by decide) (ct_fill (N := 64) hl.ap hfl (gx (d := 2) hb rfl) (by decide)) ?_
  refine j_mem (m' := (cpP m (b + 2) (fun _ => -1) 64)) rfl ?_
  exact jg_return dX1_init_33 rfl rfl rfl
theorem cg_X5_init {G : GX} (hl : Lin G) (hfl : (gL G).flags = flags0) {pre : List SH} {b : Nat} (hb : pre.length = b) {m : Mem} (hz : ∀ d, d < 4 → m (b + d) = fun _ => 0) : CG G (pre ++ [.inl (5, [.inl 0, .inl 2, .inl 2, .inl 2])]) iX5_init 3 18 [.inr (.ref b)] m (pre ++ teS b) (m) := by
  refine jg_met (n0 := b + 1) (L0 := [some (.inr (.ref b))]) hl hfl (by decide) rfl rfl (Nat.le_of_ble_eq_true rfl) (by simp [hb]) ?_
  refine j_aload0 (q := 1) dX5_init_0 rfl ?_
  refine j_obj (q := 4) dX5_init_1 rfl jw_101 jw_25 jw_26 rfl ⟨by decide, by decide⟩ ?_
  refine j_aload0 (q := 5) dX5_init_4 rfl ?_
  refine j_iconst (q := 6) dX5_init_5 rfl ?_
  refine j_putI 0 (j' := 0) (q := 9) dX5_init_6 rfl fw_X5_9 (gx (d := 0) hb rfl) rfl rfl ?_
  refine j_mem (m' := m) (up0 (congrFun (hz 0 (by decide)) _)) ?_
  refine j_aload0 (q := 10) dX5_init_9 rfl ?_
  refine j_bipush (q := 12) dX5_init_10 rfl rfl ?_
  refine j_newI (N := 6) (r := b + 1) (l' := [.inl (5, [.inl 0, .inl 2, .inl 2, .inl 2]), .inr (0, 6)]) hl hb rfl rfl rfl dX5_init_12 rfl rfl (by decide) (hz 1 (by decide)) (by decide) (by decide) ?_
  refine j_putR (d := 0) (l' := [.inl (5, [.inl 0, .inr (b + 1), .inl 2, .inl 2]), .inr (0, 6)]) hl hb dX5_init_14 rfl fr_X5_15 rfl rfl (Nat.le_of_ble_eq_true rfl) rfl ?_
  refine j_aload0 (q := 18) dX5_init_17 rfl ?_
  refine j_bipush (q := 20) dX5_init_18 rfl rfl ?_
  refine j_newI (N := 6) (r := b + 2) (l' := [.inl (5, [.inl 0, .inr (b + 1), .inl 2, .inl 2]), .inr (0, 6), .inr (0, 6)]) hl hb rfl rfl rfl dX5_init_20 rfl rfl (by decide) (hz 2 (by decide)) (by decide) (by decide) ?_
  refine j_putR (d := 0) (l' := [.inl (5, [.inl 0, .inr (b + 1), .inr (b + 2), .inl 2]), .inr (0, 6), .inr (0, 6)]) hl hb dX5_init_22 rfl fr_X5_19 rfl rfl (Nat.le_of_ble_eq_true rfl) rfl ?_
  refine j_aload0 (q := 26) dX5_init_25 rfl ?_
  refine j_bipush (q := 28) dX5_init_26 rfl rfl ?_
  refine j_newI (N := 6) (r := b + 3) (l' := [.inl (5, [.inl 0, .inr (b + 1), .inr (b + 2), .inl 2]), .inr (0, 6), .inr (0, 6), .inr (0, 6)]) hl hb rfl rfl rfl dX5_init_28 rfl rfl (by decide) (hz 3 (by decide)) (by decide) (by decide) ?_
  refine j_putR (d := 0) (l' := [.inl (5, [.inl 0, .inr (b + 1), .inr (b + 2), .inr (b + 3)]), .inr (0, 6), .inr (0, 6), .inr (0, 6)]) hl hb dX5_init_30 rfl fr_X5_22 rfl rfl (Nat.le_of_ble_eq_true rfl) rfl ?_
  exact jg_return dX5_init_33 rfl rfl rfl
theorem cg_X2_init {G : GX} (hl : Lin G) (hfl : (gL G).flags = flags0) {pre : List SH} {b : Nat} (hb : pre.length = b) {m : Mem} (hz : ∀ d, d < 6 → m (b + d) = fun _ => 0) : CG G (pre ++ [.inl (2, [.inl 0, .inl 2, .inl 2, .inl 2, .inl 2, .inl 2])]) iX2_init 5 15 [.inr (.ref b)] m (pre ++ inS b) (m) := by
  refine jg_met (n0 := b + 1) (L0 := [some (.inr (.ref b))]) hl hfl (by decide) rfl rfl (Nat.le_of_ble_eq_true rfl) (by simp [hb]) ?_
  refine j_aload0 (q := 1) dX2_init_0 rfl ?_
  refine j_obj (q := 4) dX2_init_1 rfl jw_127 jw_25 jw_26 rfl ⟨by decide, by decide⟩ ?_
  refine j_aload0 (q := 5) dX2_init_4 rfl ?_
  refine j_iconst (q := 6) dX2_init_5 rfl ?_
  refine j_putI 0 (j' := 0) (q := 9) dX2_init_6 rfl fw_X2_9 (gx (d := 0) hb rfl) rfl rfl ?_
  refine j_mem (m' := m) (up0 (congrFun (hz 0 (by decide)) _)) ?_
  refine j_aload0 (q := 10) dX2_init_9 rfl ?_
  refine j_iconst (q := 11) dX2_init_10 rfl ?_
  refine j_newI (N := 3) (r := b + 1) (l' := [.inl (2, [.inl 0, .inl 2, .inl 2, .inl 2, .inl 2, .inl 2]), .inr (0, 3)]) hl hb rfl rfl rfl dX2_init_11 rfl rfl (by decide) (hz 1 (by decide)) (by decide) (by decide) ?_
  refine j_putR (d := 0) (l' := [.inl (2, [.inl 0, .inr (b + 1), .inl 2, .inl 2, .inl 2, .inl 2]), .inr (0, 3)]) hl hb dX2_init_13 rfl fr_X2_15 rfl rfl (Nat.le_of_ble_eq_true rfl) rfl ?_
  refine j_aload0 (q := 17) dX2_init_16 rfl ?_
  refine j_iconst (q := 18) dX2_init_17 rfl ?_
  refine j_newI (N := 3) (r := b + 2) (l' := [.inl (2, [.inl 0, .inr (b + 1), .inl 2, .inl 2, .inl 2, .inl 2]), .inr (0, 3), .inr (0, 3)]) hl hb rfl rfl rfl dX2_init_18 rfl rfl (by decide) (hz 2 (by decide)) (by decide) (by decide) ?_
  refine j_putR (d := 0) (l' := [.inl (2, [.inl 0, .inr (b + 1), .inr (b + 2), .inl 2, .inl 2, .inl 2]), .inr (0, 3), .inr (0, 3)]) hl hb dX2_init_20 rfl fr_X2_19 rfl rfl (Nat.le_of_ble_eq_true rfl) rfl ?_
  refine j_aload0 (q := 24) dX2_init_23 rfl ?_
  refine j_iconst (q := 25) dX2_init_24 rfl ?_
  refine j_newI (N := 3) (r := b + 3) (l' := [.inl (2, [.inl 0, .inr (b + 1), .inr (b + 2), .inl 2, .inl 2, .inl 2]), .inr (0, 3), .inr (0, 3), .inr (0, 3)]) hl hb rfl rfl rfl dX2_init_25 rfl rfl (by decide) (hz 3 (by decide)) (by decide) (by decide) ?_
  refine j_putR (d := 0) (l' := [.inl (2, [.inl 0, .inr (b + 1), .inr (b + 2), .inr (b + 3), .inl 2, .inl 2]), .inr (0, 3), .inr (0, 3), .inr (0, 3)]) hl hb dX2_init_27 rfl fr_X2_22 rfl rfl (Nat.le_of_ble_eq_true rfl) rfl ?_
  refine j_aload0 (q := 31) dX2_init_30 rfl ?_
  refine j_iconst (q := 32) dX2_init_31 rfl ?_
  refine j_newI (N := 3) (r := b + 4) (l' := [.inl (2, [.inl 0, .inr (b + 1), .inr (b + 2), .inr (b + 3), .inl 2, .inl 2]), .inr (0, 3), .inr (0, 3), .inr (0, 3), .inr (0, 3)]) hl hb rfl rfl rfl dX2_init_32 rfl rfl (by decide) (hz 4 (by decide)) (by decide) (by decide) ?_
  refine j_putR (d := 0) (l' := [.inl (2, [.inl 0, .inr (b + 1), .inr (b + 2), .inr (b + 3), .inr (b + 4), .inl 2]), .inr (0, 3), .inr (0, 3), .inr (0, 3), .inr (0, 3)]) hl hb dX2_init_34 rfl fr_X2_25 rfl rfl (Nat.le_of_ble_eq_true rfl) rfl ?_
  refine j_aload0 (q := 38) dX2_init_37 rfl ?_
  refine j_iconst (q := 39) dX2_init_38 rfl ?_
  refine j_newI (N := 3) (r := b + 5) (l' := [.inl (2, [.inl 0, .inr (b + 1), .inr (b + 2), .inr (b + 3), .inr (b + 4), .inl 2]), .inr (0, 3), .inr (0, 3), .inr (0, 3), .inr (0, 3), .inr (0, 3)]) hl hb rfl rfl rfl dX2_init_39 rfl rfl (by decide) (hz 5 (by decide)) (by decide) (by decide) ?_
  refine j_putR (d := 0) (l' := [.inl (2, [.inl 0, .inr (b + 1), .inr (b + 2), .inr (b + 3), .inr (b + 4), .inr (b + 5)]), .inr (0, 3), .inr (0, 3), .inr (0, 3), .inr (0, 3), .inr (0, 3)]) hl hb dX2_init_41 rfl fr_X2_28 rfl rfl (Nat.le_of_ble_eq_true rfl) rfl ?_
  exact jg_return dX2_init_44 rfl rfl rfl
theorem cg_X6_init {G : GX} (hl : Lin G) (hfl : (gL G).flags = flags0) {pre : List SH} {b : Nat} (hb : pre.length = b) {m : Mem} (hz : ∀ d, d < 2 → m (b + d) = fun _ => 0) : CG G (pre ++ [.inl (6, [.inl 0, .inl 2])]) iX6_init 1 60 [.inr (.ref b)] m (pre ++ txS b) (m) := by
  refine jg_met (n0 := b + 1) (L0 := [some (.inr (.ref b))]) hl hfl (by decide) rfl rfl (Nat.le_of_ble_eq_true rfl) (by simp [hb]) ?_
  refine j_aload0 (q := 1) dX6_init_0 rfl ?_
  refine j_obj (q := 4) dX6_init_1 rfl jw_234 jw_25 jw_26 rfl ⟨by decide, by decide⟩ ?_
  refine j_aload0 (q := 5) dX6_init_4 rfl ?_
  refine j_iconst (q := 6) dX6_init_5 rfl ?_
  refine j_putI 0 (j' := 0) (q := 9) dX6_init_6 rfl fw_X6_9 (gx (d := 0) hb rfl) rfl rfl ?_
  refine j_mem (m' := m) (up0 (congrFun (hz 0 (by decide)) _)) ?_
  refine j_aload0 (q := 10) dX6_init_9 rfl ?_
  refine j_bipush (q := 12) dX6_init_10 rfl rfl ?_
  refine j_newI (N := 60) (r := b + 1) (l' := [.inl (6, [.inl 0, .inl 2]), .inr (0, 60)]) hl hb rfl rfl rfl dX6_init_12 rfl rfl (by decide) (hz 1 (by decide)) (by decide) (by decide) ?_
  refine j_putR (d := 0) (l' := [.inl (6, [.inl 0, .inr (b + 1)]), .inr (0, 60)]) hl hb dX6_init_14 rfl fr_X6_15 rfl rfl (Nat.le_of_ble_eq_true rfl) rfl ?_
  exact jg_return dX6_init_17 rfl rfl rfl
def iniP (G : GX) (m : Mem) (b : Nat) : Mem := cpP (iniD (iniC m (b + 3)) (b + 10)) (b + 1) (gE G 0).2.2 8
theorem iniP_o {G : GX} {m : Mem} {b c : Nat} (h : ¬ (b ≤ c ∧ c < b + 24)) : iniP G m b c = m c := by
  unfold iniP; rw [cpP_x (by omega), iniD_o (by omega), iniC_o (by omega)]
theorem cg_X3_init {G : GX} (hl : Lin G) (hfl : (gL G).flags = flags0) (h8 : (gE G 0).2.1 = 8) {pre : List SH} {b : Nat} (hb : pre.length = b) {m : Mem} (hz : ∀ d, d < 24 → m (b + d) = fun _ => 0) : CG G (pre ++ [.inl (3, [.inl 0, .inl 0, .inl 0, .inl 2, .inl 2, .inl 2, .inl 2, .inl 2, .inl 2, .inl 2, .inl 0])]) iX3_init 23 1104 [.inr (.ref b)] m (pre ++ plS b) (iniP G m b) := by
  refine jg_met (n0 := b + 1) (L0 := [some (.inr (.ref b))]) hl hfl (by decide) rfl rfl (Nat.le_of_ble_eq_true rfl) (by simp [hb]) ?_
  refine j_aload0 (q := 1) dX3_init_0 rfl ?_
  refine j_obj (q := 4) dX3_init_1 rfl jw_32 jw_25 jw_26 rfl ⟨by decide, by decide⟩ ?_
  refine j_aload0 (q := 5) dX3_init_4 rfl ?_
  refine j_iconst (q := 6) dX3_init_5 rfl ?_
  refine j_putI 0 (j' := 0) (q := 9) dX3_init_6 rfl fw_X3_9 (gx (d := 0) hb rfl) rfl rfl ?_
  refine j_mem (m' := m) (up0 (by exact congrFun (hz 0 (by decide)) _)) ?_
  refine j_aload0 (q := 10) dX3_init_9 rfl ?_
  refine j_iconst (q := 11) dX3_init_10 rfl ?_
  refine j_putI 1 (j' := 1) (q := 14) dX3_init_11 rfl fw_X3_15 (gx (d := 0) hb rfl) rfl rfl ?_
  refine j_mem (m' := m) (up0 (by exact congrFun (hz 0 (by decide)) _)) ?_
  refine j_aload0 (q := 15) dX3_init_14 rfl ?_
  refine j_iconst (q := 16) dX3_init_15 rfl ?_
  refine j_putI 2 (j' := 2) (q := 19) dX3_init_16 rfl fw_X3_18 (gx (d := 0) hb rfl) rfl rfl ?_
  refine j_mem (m' := m) (up0 (by exact congrFun (hz 0 (by decide)) _)) ?_
  refine j_aload0 (q := 20) dX3_init_19 rfl ?_
  refine j_bipush (q := 22) dX3_init_20 rfl rfl ?_
  refine j_newI (N := 8) (r := b + 1) (l' := [.inl (3, [.inl 0, .inl 0, .inl 0, .inl 2, .inl 2, .inl 2, .inl 2, .inl 2, .inl 2, .inl 2, .inl 0]), .inr (0, 8)]) hl hb rfl rfl rfl dX3_init_22 rfl rfl (by decide) (by exact hz 1 (by decide)) (by decide) (by decide) ?_
  refine j_putR (d := 0) (l' := [.inl (3, [.inl 0, .inl 0, .inl 0, .inr (b + 1), .inl 2, .inl 2, .inl 2, .inl 2, .inl 2, .inl 2, .inl 0]), .inr (0, 8)]) hl hb dX3_init_24 rfl fr_X3_21 rfl rfl (Nat.le_of_ble_eq_true rfl) rfl ?_
  refine j_aload0 (q := 28) dX3_init_27 rfl ?_
  refine j_bipush (q := 30) dX3_init_28 rfl rfl ?_
  refine j_newI (N := 19) (r := b + 2) (l' := [.inl (3, [.inl 0, .inl 0, .inl 0, .inr (b + 1), .inl 2, .inl 2, .inl 2, .inl 2, .inl 2, .inl 2, .inl 0]), .inr (0, 8), .inr (0, 19)]) hl hb rfl rfl rfl dX3_init_30 rfl rfl (by decide) (by exact hz 2 (by decide)) (by decide) (by decide) ?_
  refine j_putR (d := 0) (l' := [.inl (3, [.inl 0, .inl 0, .inl 0, .inr (b + 1), .inr (b + 2), .inl 2, .inl 2, .inl 2, .inl 2, .inl 2, .inl 0]), .inr (0, 8), .inr (0, 19)]) hl hb dX3_init_32 rfl fr_X3_25 rfl rfl (Nat.le_of_ble_eq_true rfl) rfl ?_
  refine j_aload0 (q := 36) dX3_init_35 rfl ?_
  refine j_new (N := 7) (ks := [.inl 1, .inl 2, .inl 2, .inl 2, .inl 2, .inl 2, .inl 2]) (r := b + 3) (l' := [.inl (3, [.inl 0, .inl 0, .inl 0, .inr (b + 1), .inr (b + 2), .inl 2, .inl 2, .inl 2, .inl 2, .inl 2, .inl 0]), .inr (0, 8), .inr (0, 19), .inl (0, [.inl 1, .inl 2, .inl 2, .inl 2, .inl 2, .inl 2, .inl 2])]) hl hb rfl rfl rfl cf_0 dX3_init_36 rfl jw_33 jw_34 jw_3 df_0 (by exact hz 3 (by decide)) (by decide) (by decide) ?_
  refine j_dup (q := 40) dX3_init_39 rfl rfl ?_
  refine jg_call (Mc := iX0_init) (q := 43) (c' := 6) (s' := 384) (sh' := pre ++ [.inl (3, [.inl 0, .inl 0, .inl 0, .inr (b + 1), .inr (b + 2), .inl 2, .inl 2, .inl 2, .inl 2, .inl 2, .inl 0]), .inr (0, 8), .inr (0, 19), .inl (0, [.inl 1, .inr (b + 4), .inr (b + 5), .inr (b + 6), .inr (b + 7), .inr (b + 8), .inr (b + 9)]), .inr (0, 64), .inr (0, 64), .inr (0, 64), .inr (0, 64), .inr (0, 64), .inr (0, 64)]) (m' := (iniC m (b + 3))) hl (by simp [hb]) dX3_init_40 rfl kC_X0_init jw_35 ⟨by decide, by decide⟩ rfl rfl (by decide) (by decide) (by have h := cg_X0_init hl hfl (pre := pre ++ [.inl (3, [.inl 0, .inl 0, .inl 0, .inr (b + 1), .inr (b + 2), .inl 2, .inl 2, .inl 2, .inl 2, .inl 2, .inl 0]), .inr (0, 8), .inr (0, 19)]) (b := b + 3) (by simp [hb]) (m := m) (fun d hd => by rw [show b + 3 + d = b + (3 + d) by omega]; exact hz (3 + d) (by omega)); simp only [List.append_assoc] at h; exact h) ?_
  refine j_putR (d := 0) (l' := [.inl (3, [.inl 0, .inl 0, .inl 0, .inr (b + 1), .inr (b + 2), .inr (b + 3), .inl 2, .inl 2, .inl 2, .inl 2, .inl 0]), .inr (0, 8), .inr (0, 19), .inl (0, [.inl 1, .inr (b + 4), .inr (b + 5), .inr (b + 6), .inr (b + 7), .inr (b + 8), .inr (b + 9)]), .inr (0, 64), .inr (0, 64), .inr (0, 64), .inr (0, 64), .inr (0, 64), .inr (0, 64)]) hl hb dX3_init_43 rfl fr_X3_31 rfl rfl (Nat.le_of_ble_eq_true rfl) rfl ?_
  refine j_aload0 (q := 47) dX3_init_46 rfl ?_
  refine j_new (N := 3) (ks := [.inl 0, .inl 2, .inl 2]) (r := b + 10) (l' := [.inl (3, [.inl 0, .inl 0, .inl 0, .inr (b + 1), .inr (b + 2), .inr (b + 3), .inl 2, .inl 2, .inl 2, .inl 2, .inl 0]), .inr (0, 8), .inr (0, 19), .inl (0, [.inl 1, .inr (b + 4), .inr (b + 5), .inr (b + 6), .inr (b + 7), .inr (b + 8), .inr (b + 9)]), .inr (0, 64), .inr (0, 64), .inr (0, 64), .inr (0, 64), .inr (0, 64), .inr (0, 64), .inl (1, [.inl 0, .inl 2, .inl 2])]) hl hb rfl rfl rfl cf_1 dX3_init_47 rfl jw_76 jw_77 jw_5 df_1 (by rw [iniC_o (by omega)]; exact hz 10 (by decide)) (by decide) (by decide) ?_
  refine j_dup (q := 51) dX3_init_50 rfl rfl ?_
  refine jg_call (Mc := iX1_init) (q := 54) (c' := 2) (s' := 128) (sh' := pre ++ [.inl (3, [.inl 0, .inl 0, .inl 0, .inr (b + 1), .inr (b + 2), .inr (b + 3), .inl 2, .inl 2, .inl 2, .inl 2, .inl 0]), .inr (0, 8), .inr (0, 19), .inl (0, [.inl 1, .inr (b + 4), .inr (b + 5), .inr (b + 6), .inr (b + 7), .inr (b + 8), .inr (b + 9)]), .inr (0, 64), .inr (0, 64), .inr (0, 64), .inr (0, 64), .inr (0, 64), .inr (0, 64), .inl (1, [.inl 0, .inr (b + 11), .inr (b + 12)]), .inr (0, 64), .inr (0, 64)]) (m' := (iniD (iniC m (b + 3)) (b + 10))) hl (by simp [hb]) dX3_init_51 rfl kC_X1_init jw_78 ⟨by decide, by decide⟩ rfl rfl (by decide) (by decide) (by have h := cg_X1_init hl hfl (pre := pre ++ [.inl (3, [.inl 0, .inl 0, .inl 0, .inr (b + 1), .inr (b + 2), .inr (b + 3), .inl 2, .inl 2, .inl 2, .inl 2, .inl 0]), .inr (0, 8), .inr (0, 19), .inl (0, [.inl 1, .inr (b + 4), .inr (b + 5), .inr (b + 6), .inr (b + 7), .inr (b + 8), .inr (b + 9)]), .inr (0, 64), .inr (0, 64), .inr (0, 64), .inr (0, 64), .inr (0, 64), .inr (0, 64)]) (b := b + 10) (by simp [hb]) (m := (iniC m (b + 3))) (fun d hd => by rw [iniC_o (by omega), show b + 10 + d = b + (10 + d) by omega]; exact hz (10 + d) (by omega)); simp only [List.append_assoc] at h; exact h) ?_
  refine j_putR (d := 0) (l' := [.inl (3, [.inl 0, .inl 0, .inl 0, .inr (b + 1), .inr (b + 2), .inr (b + 3), .inr (b + 10), .inl 2, .inl 2, .inl 2, .inl 0]), .inr (0, 8), .inr (0, 19), .inl (0, [.inl 1, .inr (b + 4), .inr (b + 5), .inr (b + 6), .inr (b + 7), .inr (b + 8), .inr (b + 9)]), .inr (0, 64), .inr (0, 64), .inr (0, 64), .inr (0, 64), .inr (0, 64), .inr (0, 64), .inl (1, [.inl 0, .inr (b + 11), .inr (b + 12)]), .inr (0, 64), .inr (0, 64)]) hl hb dX3_init_54 rfl fr_X3_38 rfl rfl (Nat.le_of_ble_eq_true rfl) rfl ?_
  refine j_aload0 (q := 58) dX3_init_57 rfl ?_
  refine j_new (N := 4) (ks := [.inl 0, .inl 2, .inl 2, .inl 2]) (r := b + 13) (l' := [.inl (3, [.inl 0, .inl 0, .inl 0, .inr (b + 1), .inr (b + 2), .inr (b + 3), .inr (b + 10), .inl 2, .inl 2, .inl 2, .inl 0]), .inr (0, 8), .inr (0, 19), .inl (0, [.inl 1, .inr (b + 4), .inr (b + 5), .inr (b + 6), .inr (b + 7), .inr (b + 8), .inr (b + 9)]), .inr (0, 64), .inr (0, 64), .inr (0, 64), .inr (0, 64), .inr (0, 64), .inr (0, 64), .inl (1, [.inl 0, .inr (b + 11), .inr (b + 12)]), .inr (0, 64), .inr (0, 64), .inl (5, [.inl 0, .inl 2, .inl 2, .inl 2])]) hl hb rfl rfl rfl cf_5 dX3_init_58 rfl jw_96 jw_97 jw_6 df_5 (by rw [iniD_o (by omega), iniC_o (by omega)]; exact hz 13 (by decide)) (by decide) (by decide) ?_
  refine j_dup (q := 62) dX3_init_61 rfl rfl ?_
  refine jg_callN (Mc := iX5_init) (q := 65) (c' := 3) (s' := 18) (sh' := pre ++ [.inl (3, [.inl 0, .inl 0, .inl 0, .inr (b + 1), .inr (b + 2), .inr (b + 3), .inr (b + 10), .inl 2, .inl 2, .inl 2, .inl 0]), .inr (0, 8), .inr (0, 19), .inl (0, [.inl 1, .inr (b + 4), .inr (b + 5), .inr (b + 6), .inr (b + 7), .inr (b + 8), .inr (b + 9)]), .inr (0, 64), .inr (0, 64), .inr (0, 64), .inr (0, 64), .inr (0, 64), .inr (0, 64), .inl (1, [.inl 0, .inr (b + 11), .inr (b + 12)]), .inr (0, 64), .inr (0, 64), .inl (5, [.inl 0, .inr (b + 14), .inr (b + 15), .inr (b + 16)]), .inr (0, 6), .inr (0, 6), .inr (0, 6)]) (m' := (iniD (iniC m (b + 3)) (b + 10))) hl (by simp [hb]) dX3_init_62 rfl kC_X5_init (by decide) ⟨by decide, by decide⟩ rfl rfl (by decide) (by decide) (by have h := cg_X5_init hl hfl (pre := pre ++ [.inl (3, [.inl 0, .inl 0, .inl 0, .inr (b + 1), .inr (b + 2), .inr (b + 3), .inr (b + 10), .inl 2, .inl 2, .inl 2, .inl 0]), .inr (0, 8), .inr (0, 19), .inl (0, [.inl 1, .inr (b + 4), .inr (b + 5), .inr (b + 6), .inr (b + 7), .inr (b + 8), .inr (b + 9)]), .inr (0, 64), .inr (0, 64), .inr (0, 64), .inr (0, 64), .inr (0, 64), .inr (0, 64), .inl (1, [.inl 0, .inr (b + 11), .inr (b + 12)]), .inr (0, 64), .inr (0, 64)]) (b := b + 13) (by simp [hb]) (m := (iniD (iniC m (b + 3)) (b + 10))) (fun d hd => by rw [iniD_o (by omega), iniC_o (by omega), show b + 13 + d = b + (13 + d) by omega]; exact hz (13 + d) (by omega)); simp only [List.append_assoc] at h; exact h) ?_
  refine j_putR (d := 0) (l' := [.inl (3, [.inl 0, .inl 0, .inl 0, .inr (b + 1), .inr (b + 2), .inr (b + 3), .inr (b + 10), .inr (b + 13), .inl 2, .inl 2, .inl 0]), .inr (0, 8), .inr (0, 19), .inl (0, [.inl 1, .inr (b + 4), .inr (b + 5), .inr (b + 6), .inr (b + 7), .inr (b + 8), .inr (b + 9)]), .inr (0, 64), .inr (0, 64), .inr (0, 64), .inr (0, 64), .inr (0, 64), .inr (0, 64), .inl (1, [.inl 0, .inr (b + 11), .inr (b + 12)]), .inr (0, 64), .inr (0, 64), .inl (5, [.inl 0, .inr (b + 14), .inr (b + 15), .inr (b + 16)]), .inr (0, 6), .inr (0, 6), .inr (0, 6)]) hl hb dX3_init_65 rfl fr_X3_45 rfl rfl (Nat.le_of_ble_eq_true rfl) rfl ?_
  refine j_aload0 (q := 69) dX3_init_68 rfl ?_
  refine j_new (N := 6) (ks := [.inl 0, .inl 2, .inl 2, .inl 2, .inl 2, .inl 2]) (r := b + 17) (l' := [.inl (3, [.inl 0, .inl 0, .inl 0, .inr (b + 1), .inr (b + 2), .inr (b + 3), .inr (b + 10), .inr (b + 13), .inl 2, .inl 2, .inl 0]), .inr (0, 8), .inr (0, 19), .inl (0, [.inl 1, .inr (b + 4), .inr (b + 5), .inr (b + 6), .inr (b + 7), .inr (b + 8), .inr (b + 9)]), .inr (0, 64), .inr (0, 64), .inr (0, 64), .inr (0, 64), .inr (0, 64), .inr (0, 64), .inl (1, [.inl 0, .inr (b + 11), .inr (b + 12)]), .inr (0, 64), .inr (0, 64), .inl (5, [.inl 0, .inr (b + 14), .inr (b + 15), .inr (b + 16)]), .inr (0, 6), .inr (0, 6), .inr (0, 6), .inl (2, [.inl 0, .inl 2, .inl 2, .inl 2, .inl 2, .inl 2])]) hl hb rfl rfl rfl cf_2 dX3_init_69 rfl jw_122 jw_123 jw_7 df_2 (by rw [iniD_o (by omega), iniC_o (by omega)]; exact hz 17 (by decide)) (by decide) (by decide) ?_
  refine j_dup (q := 73) dX3_init_72 rfl rfl ?_
  refine jg_callN (Mc := iX2_init) (q := 76) (c' := 5) (s' := 15) (sh' := pre ++ [.inl (3, [.inl 0, .inl 0, .inl 0, .inr (b + 1), .inr (b + 2), .inr (b + 3), .inr (b + 10), .inr (b + 13), .inl 2, .inl 2, .inl 0]), .inr (0, 8), .inr (0, 19), .inl (0, [.inl 1, .inr (b + 4), .inr (b + 5), .inr (b + 6), .inr (b + 7), .inr (b + 8), .inr (b + 9)]), .inr (0, 64), .inr (0, 64), .inr (0, 64), .inr (0, 64), .inr (0, 64), .inr (0, 64), .inl (1, [.inl 0, .inr (b + 11), .inr (b + 12)]), .inr (0, 64), .inr (0, 64), .inl (5, [.inl 0, .inr (b + 14), .inr (b + 15), .inr (b + 16)]), .inr (0, 6), .inr (0, 6), .inr (0, 6), .inl (2, [.inl 0, .inr (b + 18), .inr (b + 19), .inr (b + 20), .inr (b + 21), .inr (b + 22)]), .inr (0, 3), .inr (0, 3), .inr (0, 3), .inr (0, 3), .inr (0, 3)]) (m' := (iniD (iniC m (b + 3)) (b + 10))) hl (by simp [hb]) dX3_init_73 rfl kC_X2_init (by decide) ⟨by decide, by decide⟩ rfl rfl (by decide) (by decide) (by have h := cg_X2_init hl hfl (pre := pre ++ [.inl (3, [.inl 0, .inl 0, .inl 0, .inr (b + 1), .inr (b + 2), .inr (b + 3), .inr (b + 10), .inr (b + 13), .inl 2, .inl 2, .inl 0]), .inr (0, 8), .inr (0, 19), .inl (0, [.inl 1, .inr (b + 4), .inr (b + 5), .inr (b + 6), .inr (b + 7), .inr (b + 8), .inr (b + 9)]), .inr (0, 64), .inr (0, 64), .inr (0, 64), .inr (0, 64), .inr (0, 64), .inr (0, 64), .inl (1, [.inl 0, .inr (b + 11), .inr (b + 12)]), .inr (0, 64), .inr (0, 64), .inl (5, [.inl 0, .inr (b + 14), .inr (b + 15), .inr (b + 16)]), .inr (0, 6), .inr (0, 6), .inr (0, 6)]) (b := b + 17) (by simp [hb]) (m := (iniD (iniC m (b + 3)) (b + 10))) (fun d hd => by rw [iniD_o (by omega), iniC_o (by omega), show b + 17 + d = b + (17 + d) by omega]; exact hz (17 + d) (by omega)); simp only [List.append_assoc] at h; exact h) ?_
  refine j_putR (d := 0) (l' := [.inl (3, [.inl 0, .inl 0, .inl 0, .inr (b + 1), .inr (b + 2), .inr (b + 3), .inr (b + 10), .inr (b + 13), .inr (b + 17), .inl 2, .inl 0]), .inr (0, 8), .inr (0, 19), .inl (0, [.inl 1, .inr (b + 4), .inr (b + 5), .inr (b + 6), .inr (b + 7), .inr (b + 8), .inr (b + 9)]), .inr (0, 64), .inr (0, 64), .inr (0, 64), .inr (0, 64), .inr (0, 64), .inr (0, 64), .inl (1, [.inl 0, .inr (b + 11), .inr (b + 12)]), .inr (0, 64), .inr (0, 64), .inl (5, [.inl 0, .inr (b + 14), .inr (b + 15), .inr (b + 16)]), .inr (0, 6), .inr (0, 6), .inr (0, 6), .inl (2, [.inl 0, .inr (b + 18), .inr (b + 19), .inr (b + 20), .inr (b + 21), .inr (b + 22)]), .inr (0, 3), .inr (0, 3), .inr (0, 3), .inr (0, 3), .inr (0, 3)]) hl hb dX3_init_76 rfl fr_X3_52 rfl rfl (Nat.le_of_ble_eq_true rfl) rfl ?_
  refine j_aload0 (q := 80) dX3_init_79 rfl ?_
  refine j_sipush (q := 83) dX3_init_80 rfl rfl ?_
  refine j_newI (N := 512) (r := b + 23) (l' := [.inl (3, [.inl 0, .inl 0, .inl 0, .inr (b + 1), .inr (b + 2), .inr (b + 3), .inr (b + 10), .inr (b + 13), .inr (b + 17), .inl 2, .inl 0]), .inr (0, 8), .inr (0, 19), .inl (0, [.inl 1, .inr (b + 4), .inr (b + 5), .inr (b + 6), .inr (b + 7), .inr (b + 8), .inr (b + 9)]), .inr (0, 64), .inr (0, 64), .inr (0, 64), .inr (0, 64), .inr (0, 64), .inr (0, 64), .inl (1, [.inl 0, .inr (b + 11), .inr (b + 12)]), .inr (0, 64), .inr (0, 64), .inl (5, [.inl 0, .inr (b + 14), .inr (b + 15), .inr (b + 16)]), .inr (0, 6), .inr (0, 6), .inr (0, 6), .inl (2, [.inl 0, .inr (b + 18), .inr (b + 19), .inr (b + 20), .inr (b + 21), .inr (b + 22)]), .inr (0, 3), .inr (0, 3), .inr (0, 3), .inr (0, 3), .inr (0, 3), .inr (0, 512)]) hl hb rfl rfl rfl dX3_init_83 rfl rfl (by decide) (by rw [iniD_o (by omega), iniC_o (by omega)]; exact hz 23 (by decide)) (by decide) (by decide) ?_
  refine j_putR (d := 0) (l' := [.inl (3, [.inl 0, .inl 0, .inl 0, .inr (b + 1), .inr (b + 2), .inr (b + 3), .inr (b + 10), .inr (b + 13), .inr (b + 17), .inr (b + 23), .inl 0]), .inr (0, 8), .inr (0, 19), .inl (0, [.inl 1, .inr (b + 4), .inr (b + 5), .inr (b + 6), .inr (b + 7), .inr (b + 8), .inr (b + 9)]), .inr (0, 64), .inr (0, 64), .inr (0, 64), .inr (0, 64), .inr (0, 64), .inr (0, 64), .inl (1, [.inl 0, .inr (b + 11), .inr (b + 12)]), .inr (0, 64), .inr (0, 64), .inl (5, [.inl 0, .inr (b + 14), .inr (b + 15), .inr (b + 16)]), .inr (0, 6), .inr (0, 6), .inr (0, 6), .inl (2, [.inl 0, .inr (b + 18), .inr (b + 19), .inr (b + 20), .inr (b + 21), .inr (b + 22)]), .inr (0, 3), .inr (0, 3), .inr (0, 3), .inr (0, 3), .inr (0, 3), .inr (0, 512)]) hl hb dX3_init_85 rfl fr_X3_56 rfl rfl (Nat.le_of_ble_eq_true rfl) rfl ?_
  refine j_aload0 (q := 89) dX3_init_88 rfl ?_
  refine j_iconst (q := 90) dX3_init_89 rfl ?_
  refine j_putI 10 (j' := 10) (q := 93) dX3_init_90 rfl fw_X3_59 (gx (d := 0) hb rfl) rfl rfl ?_
  refine j_mem (m' := (iniD (iniC m (b + 3)) (b + 10))) (up0 (by rw [iniD_o (by omega), iniC_o (by omega)]; exact congrFun (hz 0 (by decide)) _)) ?_
  refine j_getFirst (q := 96) dX3_init_93 rfl rfl rfl ?_
  refine j_aload0 (q := 97) dX3_init_96 rfl ?_
  refine j_getR 3 (q := 100) dX3_init_97 rfl fl_X3_21 (gx (d := 0) hb rfl) rfl ?_
  refine jg_copyO (q := 103) hl hfl h8 (by simp [hb]) dX3_init_100 rfl (by decide) ⟨by decide, by decide⟩ rfl (by decide) (by decide) (gx (d := 1) hb rfl) ?_
  refine j_mem (m' := (cpP (iniD (iniC m (b + 3)) (b + 10)) (b + 1) (gE G 0).2.2 8)) rfl ?_
  exact jg_return dX3_init_103 rfl rfl rfl

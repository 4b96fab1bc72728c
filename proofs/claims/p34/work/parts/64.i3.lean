/-! CONSTRUCTORS: the saves, the class, the model -/
theorem plS_len {q : Nat} : (plS q).length = 24 := rfl
theorem j_kn {G : GX} {sh : List SH} {M : MI} {mc ms : Nat} {F : FinT} {pc : Nat} {L : List (Option PV)} {S : List PV} {m : Mem} {k n k' n' : Nat} (hk : k = k') (hn : n = n') (kk : J G sh M mc ms F pc L S m k' n') : J G sh M mc ms F pc L S m k n := by subst hk; subst hn; exact kk
def spL (b : Nat) : Nat → List SH
  | 0 => [.inl (4, [.inl 0, .inr (b + 1)]), .inr (2, 6)]
  | i + 1 => spL b i ++ plS (b + (2 + 24 * i))
def spM (G : GX) (m : Mem) (b : Nat) : Nat → Mem
  | 0 => m
  | i + 1 => up (iniP G (spM G m b i) (b + (2 + 24 * i))) (b + 1) (i : Int) ((b + (2 + 24 * i) : Nat) : Int)
theorem spL_len {b : Nat} : ∀ i, (spL b i).length = 2 + 24 * i
  | 0 => rfl
  | i + 1 => by rw [spL, List.length_append, spL_len i, plS_len]; omega
theorem spL_0 {b : Nat} : ∀ i, (spL b i)[0]? = some (.inl (4, [.inl 0, .inr (b + 1)]))
  | 0 => rfl
  | i + 1 => by rw [spL, List.getElem?_append_left (by rw [spL_len]; omega)]; exact spL_0 i
theorem spL_1 {b : Nat} : ∀ i, (spL b i)[1]? = some (.inr (2, 6))
  | 0 => rfl
  | i + 1 => by rw [spL, List.getElem?_append_left (by rw [spL_len]; omega)]; exact spL_1 i
theorem spL_p {b i : Nat} : (spL b (i + 1))[2 + 24 * i]? = some (.inl (3, [.inl 0, .inl 0, .inl 0, .inr (b + (2 + 24 * i) + 1), .inr (b + (2 + 24 * i) + 2), .inr (b + (2 + 24 * i) + 3), .inr (b + (2 + 24 * i) + 10), .inr (b + (2 + 24 * i) + 13), .inr (b + (2 + 24 * i) + 17), .inr (b + (2 + 24 * i) + 23), .inl 0])) := by
  rw [spL, List.getElem?_append_right (by rw [spL_len]; omega), spL_len, Nat.sub_self]
  rfl
theorem spM_o {G : GX} {m : Mem} {b c : Nat} : ∀ i, b + (2 + 24 * i) ≤ c → spM G m b i c = m c
  | 0, _ => rfl
  | i + 1, h => by
    rw [spM, up_ne' (by omega), iniP_o (by omega)]
    exact spM_o i (by omega)
theorem lp_X4_init {G : GX} (hl : Lin G) (hfl : (gL G).flags = flags0) (h8 : (gE G 0).2.1 = 8) {pre : List SH} {b : Nat} (hb : pre.length = b) {m : Mem} (hz : ∀ d, d < 146 → ¬ d = 1 → m (b + d) = fun _ => 0) : ∀ (d i : Nat), i + d = 6 → J G (pre ++ spL b i) iX4_init 145 6696 (FH G (b + 1) (FI (FN G (pre ++ spL b 6) 145 6696 none (spM G m b 6)))) 20 [some (.inr (.ref b)), some (.inl (i : Int))] [] (spM G m b i) (1 + 24 * i) (6 + 1115 * i) := by
  intro d
  induction d with
  | zero =>
    intro i g
    obtain rfl : i = 6 := by omega
    refine j_iload1 (q := 21) dX4_init_20 rfl ?_
    refine j_bipush (q := 23) dX4_init_21 rfl rfl ?_
    refine j_icmp_ge (tgt := 45) (q := 26) dX4_init_23 (by decide) rfl (wr_id' (by decide) (by decide)) (wr_id' (by decide) (by decide)) (fun h => ?_) (fun h => absurd (by decide) h)
    exact jg_return dX4_init_45 rfl rfl rfl
  | succ d ih =>
    intro i g
    refine j_iload1 (q := 21) dX4_init_20 rfl ?_
    refine j_bipush (q := 23) dX4_init_21 rfl rfl ?_
    refine j_icmp_ge (tgt := 45) (q := 26) dX4_init_23 (by decide) rfl (wr_id' (by omega) (by omega)) (wr_id' (by decide) (by decide)) (fun h => ?_) (fun h => ?_)
    · omega
    · refine j_aload0 (q := 27) dX4_init_26 rfl ?_
      refine j_getR 1 (q := 30) dX4_init_27 rfl fl_X4_17 (gx (d := 0) hb (spL_0 i)) rfl ?_
      refine j_iload1 (q := 31) dX4_init_30 rfl ?_
      refine j_new (N := 11) (ks := [.inl 0, .inl 0, .inl 0, .inl 2, .inl 2, .inl 2, .inl 2, .inl 2, .inl 2, .inl 2, .inl 0]) (r := b + (2 + 24 * i)) (l' := spL b i ++ [.inl (3, [.inl 0, .inl 0, .inl 0, .inl 2, .inl 2, .inl 2, .inl 2, .inl 2, .inl 2, .inl 2, .inl 0])]) hl hb (by rw [spL_len]; omega) (by rw [spL_len]) rfl cf_3 dX4_init_31 rfl jw_218 jw_28 jw_2 df_3 (by rw [spM_o i (Nat.le_refl _)]; exact hz _ (by omega) (by omega)) (by omega) (by omega) ?_
      refine j_dup (q := 35) dX4_init_34 rfl rfl ?_
      refine jg_call (Mc := iX3_init) (q := 38) (c' := 23) (s' := 1104) (sh' := pre ++ spL b (i + 1)) (m' := iniP G (spM G m b i) (b + (2 + 24 * i))) hl (by simp [hb, spL_len]; omega) dX4_init_35 rfl kC_X3_init jw_220 ⟨by decide, by decide⟩ rfl rfl (by omega) (by omega) (by
        have h := cg_X3_init hl hfl h8 (pre := pre ++ spL b i) (b := b + (2 + 24 * i)) (by simp [hb, spL_len]) (m := spM G m b i) (fun d hd => by
          rw [spM_o i (by omega), show b + (2 + 24 * i) + d = b + (2 + 24 * i + d) by omega]
          exact hz _ (by omega) (by omega))
        simp only [List.append_assoc] at h
        exact h) ?_
      refine j_aastore (q := 39) (i' := (i : Int)) dX4_init_38 rfl (gx (d := 1) hb (spL_1 (i + 1))) (gx (d := 2 + 24 * i) hb spL_p) (wr_id' (by omega) (by omega)) (by omega) (by omega) ?_
      refine j_iinc1 (q := 42) dX4_init_39 rfl rfl (by decide) ?_
      refine j_goto (tgt := 20) dX4_init_42 (by decide) ?_
      have h1 := ih (i + 1) (by omega)
      rw [show ((i + 1 : Nat) : Int) = (i : Int) + 1 from rfl] at h1
      exact j_kn (by omega) (by omega) h1
theorem cg_X4_init {G : GX} (hl : Lin G) (hfl : (gL G).flags = flags0) (h8 : (gE G 0).2.1 = 8) {pre : List SH} {b : Nat} (hb : pre.length = b) {m : Mem} (hz : ∀ d, d < 146 → ¬ d = 1 → m (b + d) = fun _ => 0) (h1 : m (b + 1) = fun _ => -1) : CG G (pre ++ [.inl (4, [.inl 0, .inl 2])]) iX4_init 145 6696 [.inr (.ref b)] m (pre ++ spL b 6) (spM G m b 6) := by
  refine jg_met (n0 := b + 1) (L0 := [some (.inr (.ref b)), none]) hl hfl (by decide) rfl rfl (Nat.le_of_ble_eq_true rfl) (by simp [hb]) ?_
  refine j_aload0 (q := 1) dX4_init_0 rfl ?_
  refine j_obj (q := 4) dX4_init_1 rfl jw_217 jw_25 jw_26 rfl ⟨by decide, by decide⟩ ?_
  refine j_aload0 (q := 5) dX4_init_4 rfl ?_
  refine j_iconst (q := 6) dX4_init_5 rfl ?_
  refine j_putI 0 (j' := 0) (q := 9) dX4_init_6 rfl fw_X4_9 (gx (d := 0) hb rfl) rfl rfl ?_
  refine j_mem (m' := m) (up0 (congrFun (hz 0 (by decide) (by decide)) _)) ?_
  refine j_aload0 (q := 10) dX4_init_9 rfl ?_
  refine j_bipush (q := 12) dX4_init_10 rfl rfl ?_
  refine j_newP (N := 6) (r := b + 1) (l' := [.inl (4, [.inl 0, .inl 2]), .inr (2, 6)]) hl hb rfl rfl rfl dX4_init_12 rfl jw_218 rfl (by decide) h1 (by decide) (by decide) ?_
  refine j_putR (d := 0) (l' := [.inl (4, [.inl 0, .inr (b + 1)]), .inr (2, 6)]) hl hb dX4_init_15 rfl fr_X4_17 rfl rfl (Nat.le_of_ble_eq_true rfl) rfl ?_
  refine j_iconst (q := 19) dX4_init_18 rfl ?_
  refine j_istore1 (q := 20) dX4_init_19 rfl rfl (by decide) ?_
  exact lp_X4_init hl hfl h8 hb hz 6 0 rfl
def SH7 : List SH := (((([.inl (7, [.inr 1, .inr 25, .inr 49, .inr 195])] : List SH) ++ plS 1) ++ plS 25) ++ spL 49 6) ++ txS 195
def iniX (G : GX) (m : Mem) : Mem := spM G (iniP G (iniP G m 1) 25) 49 6
theorem CG_nil {G : GX} {l l' : List SH} {M : MI} {mc ms : Nat} {a : List PV} {m m' : Mem} (h : CG G l M mc ms a m l' m') : CG G ([] ++ l) M mc ms a m ([] ++ l') m' := by
  rw [List.nil_append, List.nil_append]
  exact h
theorem cg_X7_init {G : GX} (hl : Lin G) (hfl : (gL G).flags = flags0) (h8 : (gE G 0).2.1 = 8) {m : Mem} (hz : ∀ c, c < 197 → ¬ c = 50 → m c = fun _ => 0) (h50 : m 50 = fun _ => -1) : CG G ([.inl (7, [.inl 2, .inl 2, .inl 2, .inl 2])] : List SH) iX7_init 196 8990 [.inr (.ref 0)] m SH7 (iniX G m) := by
  have hb : ([] : List SH).length = 0 := rfl
  refine jg_met (n0 := 1) (L0 := [some (.inr (.ref 0))]) hl hfl (by decide) rfl rfl (Nat.le_of_ble_eq_true rfl) rfl ?_
  refine j_shp (sh' := [] ++ ([.inl (7, [.inl 2, .inl 2, .inl 2, .inl 2])] : List SH)) rfl ?_
  refine j_aload0 (q := 1) dX7_init_0 rfl ?_
  refine j_obj (q := 4) dX7_init_1 rfl jw_24 jw_25 jw_26 rfl ⟨by decide, by decide⟩ ?_
  refine j_aload0 (q := 5) dX7_init_4 rfl ?_
  refine j_new (N := 11) (ks := [.inl 0, .inl 0, .inl 0, .inl 2, .inl 2, .inl 2, .inl 2, .inl 2, .inl 2, .inl 2, .inl 0]) (r := 1) (l' := ([.inl (7, [.inl 2, .inl 2, .inl 2, .inl 2])] : List SH) ++ [.inl (3, [.inl 0, .inl 0, .inl 0, .inl 2, .inl 2, .inl 2, .inl 2, .inl 2, .inl 2, .inl 2, .inl 0])]) hl hb (by decide) (by decide) rfl cf_3 dX7_init_5 rfl jw_27 jw_28 jw_2 df_3 (hz 1 (by decide) (by decide)) (by decide) (by decide) ?_
  refine j_dup (q := 9) dX7_init_8 rfl rfl ?_
  refine jg_call (Mc := iX3_init) (q := 12) (c' := 23) (s' := 1104) (sh' := [] ++ (([.inl (7, [.inl 2, .inl 2, .inl 2, .inl 2])] : List SH) ++ plS 1)) (m' := iniP G m 1) hl (by decide) dX7_init_9 rfl kC_X3_init jw_29 ⟨by decide, by decide⟩ rfl rfl (by decide) (by decide) (CG_nil (cg_X3_init hl hfl h8 (pre := ([.inl (7, [.inl 2, .inl 2, .inl 2, .inl 2])] : List SH)) (b := 1) rfl (m := m) (fun d hd => hz _ (by omega) (by omega)))) ?_
  refine j_putR (d := 0) (l' := ([.inl (7, [.inr 1, .inl 2, .inl 2, .inl 2])] : List SH) ++ plS 1) hl hb dX7_init_12 rfl fr_X7_10 rfl rfl (by decide) rfl ?_
  refine j_aload0 (q := 16) dX7_init_15 rfl ?_
  refine j_new (N := 11) (ks := [.inl 0, .inl 0, .inl 0, .inl 2, .inl 2, .inl 2, .inl 2, .inl 2, .inl 2, .inl 2, .inl 0]) (r := 25) (l' := (([.inl (7, [.inr 1, .inl 2, .inl 2, .inl 2])] : List SH) ++ plS 1) ++ [.inl (3, [.inl 0, .inl 0, .inl 0, .inl 2, .inl 2, .inl 2, .inl 2, .inl 2, .inl 2, .inl 2, .inl 0])]) hl hb (by decide) (by decide) rfl cf_3 dX7_init_16 rfl jw_27 jw_28 jw_2 df_3 (by rw [iniP_o (by omega)]; exact hz 25 (by decide) (by decide)) (by decide) (by decide) ?_
  refine j_dup (q := 20) dX7_init_19 rfl rfl ?_
  refine jg_call (Mc := iX3_init) (q := 23) (c' := 23) (s' := 1104) (sh' := [] ++ ((([.inl (7, [.inr 1, .inl 2, .inl 2, .inl 2])] : List SH) ++ plS 1) ++ plS 25)) (m' := iniP G (iniP G m 1) 25) hl (by decide) dX7_init_20 rfl kC_X3_init jw_29 ⟨by decide, by decide⟩ rfl rfl (by decide) (by decide) (CG_nil (cg_X3_init hl hfl h8 (pre := (([.inl (7, [.inr 1, .inl 2, .inl 2, .inl 2])] : List SH) ++ plS 1)) (b := 25) rfl (m := iniP G m 1) (fun d hd => by rw [iniP_o (by omega)]; exact hz _ (by omega) (by omega)))) ?_
  refine j_putR (d := 0) (l' := (([.inl (7, [.inr 1, .inr 25, .inl 2, .inl 2])] : List SH) ++ plS 1) ++ plS 25) hl hb dX7_init_23 rfl fr_X7_16 rfl rfl (by decide) rfl ?_
  refine j_aload0 (q := 27) dX7_init_26 rfl ?_
  refine j_new (N := 2) (ks := [.inl 0, .inl 2]) (r := 49) (l' := ((([.inl (7, [.inr 1, .inr 25, .inl 2, .inl 2])] : List SH) ++ plS 1) ++ plS 25) ++ [.inl (4, [.inl 0, .inl 2])]) hl hb (by decide) (by decide) rfl cf_4 dX7_init_27 rfl jw_212 jw_213 jw_10 df_4 (by rw [iniP_o (by omega), iniP_o (by omega)]; exact hz 49 (by decide) (by decide)) (by decide) (by decide) ?_
  refine j_dup (q := 31) dX7_init_30 rfl rfl ?_
  refine jg_call (Mc := iX4_init) (q := 34) (c' := 145) (s' := 6696) (sh' := [] ++ (((([.inl (7, [.inr 1, .inr 25, .inl 2, .inl 2])] : List SH) ++ plS 1) ++ plS 25) ++ spL 49 6)) (m' := iniX G m) hl (by decide) dX7_init_31 rfl kC_X4_init jw_214 ⟨by decide, by decide⟩ rfl rfl (by decide) (by decide) (CG_nil (cg_X4_init hl hfl h8 (pre := ((([.inl (7, [.inr 1, .inr 25, .inl 2, .inl 2])] : List SH) ++ plS 1) ++ plS 25)) (b := 49) (by simp [plS_len]) (m := (iniP G (iniP G m 1) 25)) (fun d hd h1 => by rw [iniP_o (by omega), iniP_o (by omega)]; exact hz _ (by omega) (by omega)) (by rw [iniP_o (by omega), iniP_o (by omega)]; exact h50))) ?_
  refine j_putR (d := 0) (l' := ((([.inl (7, [.inr 1, .inr 25, .inr 49, .inl 2])] : List SH) ++ plS 1) ++ plS 25) ++ spL 49 6) hl hb dX7_init_34 rfl fr_X7_22 rfl rfl (by decide) rfl ?_
  refine j_aload0 (q := 38) dX7_init_37 rfl ?_
  refine j_new (N := 2) (ks := [.inl 0, .inl 2]) (r := 195) (l' := (((([.inl (7, [.inr 1, .inr 25, .inr 49, .inl 2])] : List SH) ++ plS 1) ++ plS 25) ++ spL 49 6) ++ [.inl (6, [.inl 0, .inl 2])]) hl hb (by simp [plS_len, spL_len]) (by simp [plS_len, spL_len]) rfl cf_6 dX7_init_38 rfl jw_229 jw_230 jw_11 df_6 (by unfold iniX; rw [spM_o 6 (by omega), iniP_o (by omega), iniP_o (by omega)]; exact hz 195 (by decide) (by decide)) (by decide) (by decide) ?_
  refine j_dup (q := 42) dX7_init_41 rfl rfl ?_
  refine jg_callN (Mc := iX6_init) (q := 45) (c' := 1) (s' := 60) (sh' := [] ++ ((((([.inl (7, [.inr 1, .inr 25, .inr 49, .inl 2])] : List SH) ++ plS 1) ++ plS 25) ++ spL 49 6) ++ txS 195)) (m' := iniX G m) hl (by simp [plS_len, spL_len]) dX7_init_42 rfl kC_X6_init (by decide) ⟨by decide, by decide⟩ rfl rfl (by decide) (by decide) (CG_nil (cg_X6_init hl hfl (pre := (((([.inl (7, [.inr 1, .inr 25, .inr 49, .inl 2])] : List SH) ++ plS 1) ++ plS 25) ++ spL 49 6)) (b := 195) (by simp [plS_len, spL_len]) (m := iniX G m) (fun d hd => by unfold iniX; rw [spM_o 6 (by omega), iniP_o (by omega), iniP_o (by omega)]; exact hz _ (by omega) (by omega)))) ?_
  refine j_putR (d := 0) (l' := (((([.inl (7, [.inr 1, .inr 25, .inr 49, .inr 195])] : List SH) ++ plS 1) ++ plS 25) ++ spL 49 6) ++ txS 195) hl hb dX7_init_45 rfl fr_X7_29 rfl rfl (by decide) rfl ?_
  exact jg_return dX7_init_48 rfl rfl rfl

/-! CONSTRUCTORS: the model -/
def mdS : List SH := [.inl (8, [.inr 198, .inr 199, .inr 200, .inr 201, .inr 202, .inr 203, .inr 204, .inr 205, .inl 0, .inl 0, .inl 0, .inl 0, .inl 0, .inl 1]), .inr (0, 2195), .inr (0, 2195), .inr (0, 13170), .inr (0, 60), .inr (0, 32), .inr (0, 32), .inr (0, 32), .inr (0, 64)]
def zI (i : Int) : Z := fun j => if j = 15 then 2 else if j = 16 then 4 else if j = 17 then 3 else if j = 18 then 5 else if j = 19 then 20 else if j = 20 then 60 else if j = 21 then 2 else if j = 22 then 10 else if 59 ≤ j ∧ j < 59 + 9 * i ∧ (j - 60) % 9 = 0 then 100 else 0
theorem zI_s {i : Int} (h : 0 ≤ i) : u1 (zI i) (59 + 9 * i + 1) 100 = zI (i + 1) := by
  funext j
  unfold u1
  by_cases q : j = 59 + 9 * i + 1
  · rw [if_pos q]
    unfold zI
    rw [if_neg (by omega), if_neg (by omega), if_neg (by omega), if_neg (by omega), if_neg (by omega), if_neg (by omega), if_neg (by omega), if_neg (by omega), if_pos (by omega)]
  · rw [if_neg q]
    unfold zI
    by_cases g : 59 ≤ j ∧ j < 59 + 9 * i ∧ (j - 60) % 9 = 0
    · rw [if_pos g, if_pos (show 59 ≤ j ∧ j < 59 + 9 * (i + 1) ∧ (j - 60) % 9 = 0 by omega)]
    · rw [if_neg g, if_neg (show ¬ (59 ≤ j ∧ j < 59 + 9 * (i + 1) ∧ (j - 60) % 9 = 0) by omega)]
theorem ct_layG {G : GX} {sh : List SH} {ks : List (Nat ⊕ Nat)} (hap : jAp G sh.length) (hfl : (gL G).flags = flags0) (h197 : sh[197]? = some (.inl (8, ks))) (hks : ks[0]? = some (.inr 198)) (h198 : sh[198]? = some (.inr (0, 2195))) {m : Mem} {z : Z} {c : Int} {w : Int} {v : Int} (h1 : 0 ≤ c ∧ c < 64) (h2 : 0 ≤ w ∧ w < 9) : CT G sh iX8_lay 0 0 [.inr (.ref 197), .inl c, .inl w, .inl v] (sz m z) none (sz m (u1 z (59 + 9 * c + w) v)) := by
  refine j_met (L0 := [some (.inr (.ref 197)), some (.inl c), some (.inl w), some (.inl v)]) (by decide) hap hfl rfl (Nat.le_of_ble_eq_true rfl) ?_
  refine j_aload0 (q := 1) dX8_lay_0 rfl ?_
  refine j_getR 0 (q := 4) dX8_lay_1 rfl fl_X8_7 h197 hks ?_
  refine j_bipush (q := 6) dX8_lay_4 rfl rfl ?_
  refine j_bipush (q := 8) dX8_lay_6 rfl rfl ?_
  refine j_iload1 (q := 9) dX8_lay_8 rfl ?_
  refine j_imul (q := 10) dX8_lay_9 rfl ?_
  refine j_iadd (q := 11) dX8_lay_10 rfl ?_
  refine j_iload2 (q := 12) dX8_lay_11 rfl ?_
  refine j_iadd (q := 13) dX8_lay_12 rfl ?_
  refine j_iload3 (q := 14) dX8_lay_13 rfl ?_
  refine j_iastore (q := 15) dX8_lay_14 rfl h198 (wr_id' (by omega) (by omega)) (by omega) (by omega) ?_
  exact j_return dX8_lay_15 rfl up_sz
theorem lp_X8_init {G : GX} (hl : Lin G) (hfl : (gL G).flags = flags0) {pre : List SH} (hb : pre.length = 197) {m : Mem} {n0 : Nat} : ∀ (d i : Nat), i + d = 64 → J G (pre ++ mdS) iX8_init 8 17780 (FH G n0 (FI (FN G (pre ++ mdS) 8 17780 none (sz m (zI 64))))) 140 [some (.inr (.ref 197)), some (.inl (i : Int))] [] (sz m (zI (i : Int))) 8 17780 := by
  intro d
  induction d with
  | zero =>
    intro i g
    obtain rfl : i = 64 := by omega
    refine j_iload1 (q := 141) dX8_init_140 rfl ?_
    refine j_bipush (q := 143) dX8_init_141 rfl rfl ?_
    refine j_icmp_ge (tgt := 160) (q := 146) dX8_init_143 (by decide) rfl (wr_id' (by decide) (by decide)) (wr_id' (by decide) (by decide)) (fun h => ?_) (fun h => absurd (by decide) h)
    exact jg_return dX8_init_160 rfl rfl rfl
  | succ d ih =>
    intro i g
    refine j_iload1 (q := 141) dX8_init_140 rfl ?_
    refine j_bipush (q := 143) dX8_init_141 rfl rfl ?_
    refine j_icmp_ge (tgt := 160) (q := 146) dX8_init_143 (by decide) rfl (wr_id' (by omega) (by omega)) (wr_id' (by decide) (by decide)) (fun h => ?_) (fun h => ?_)
    · omega
    · refine j_aload0 (q := 147) dX8_init_146 rfl ?_
      refine j_iload1 (q := 148) dX8_init_147 rfl ?_
      refine j_iconst (q := 149) dX8_init_148 rfl ?_
      refine j_bipush (q := 151) dX8_init_149 rfl rfl ?_
      refine j_callV3v (Mc := iX8_lay) (q := 154) (c' := 0) (s' := 0) dX8_init_151 rfl kV_X8_lay jw_980 ⟨by decide, by decide⟩ (gx (d := 0) hb rfl) rfl rfl rfl (Nat.le_refl _) (Nat.le_refl _) (ct_layG hl.ap hfl (gx (d := 0) hb rfl) rfl (gx (d := 1) hb rfl) (by omega) (by decide)) ?_
      refine j_iinc1 (q := 157) dX8_init_154 rfl rfl (by decide) ?_
      refine j_goto (tgt := 140) dX8_init_157 (by decide) ?_
      have h1 := ih (i + 1) (by omega)
      rw [show ((i + 1 : Nat) : Int) = (i : Int) + 1 from rfl, ← zI_s (by omega)] at h1
      exact h1
theorem cg_X8_init {G : GX} (hl : Lin G) (hfl : (gL G).flags = flags0) {pre : List SH} (hb : pre.length = 197) {m : Mem} (hz : ∀ d, d < 9 → m (197 + d) = fun _ => 0) : CG G (pre ++ [.inl (8, [.inl 2, .inl 2, .inl 2, .inl 2, .inl 2, .inl 2, .inl 2, .inl 2, .inl 0, .inl 0, .inl 0, .inl 0, .inl 0, .inl 1])]) iX8_init 8 17780 [.inr (.ref 197)] m (pre ++ mdS) (sz m (zI 64)) := by
  refine jg_met (n0 := 198) (L0 := [some (.inr (.ref 197)), none]) hl hfl (by decide) rfl rfl (Nat.le_of_ble_eq_true rfl) (by simp [hb]) ?_
  refine j_aload0 (q := 1) dX8_init_0 rfl ?_
  refine j_obj (q := 4) dX8_init_1 rfl jw_979 jw_28 jw_29 rfl ⟨by decide, by decide⟩ ?_
  refine j_aload0 (q := 5) dX8_init_4 rfl ?_
  refine j_sipush (q := 8) dX8_init_5 rfl rfl ?_
  refine j_newI (N := 2195) (r := 198) (l' := [.inl (8, [.inl 2, .inl 2, .inl 2, .inl 2, .inl 2, .inl 2, .inl 2, .inl 2, .inl 0, .inl 0, .inl 0, .inl 0, .inl 0, .inl 1]), .inr (0, 2195)]) hl hb rfl rfl rfl dX8_init_8 rfl rfl (by decide) (hz 1 (by decide)) (by decide) (by decide) ?_
  refine j_putR (d := 0) (l' := [.inl (8, [.inr 198, .inl 2, .inl 2, .inl 2, .inl 2, .inl 2, .inl 2, .inl 2, .inl 0, .inl 0, .inl 0, .inl 0, .inl 0, .inl 1]), .inr (0, 2195)]) hl hb dX8_init_10 rfl fr_X8_7 rfl rfl (Nat.le_of_ble_eq_true rfl) rfl ?_
  refine j_aload0 (q := 14) dX8_init_13 rfl ?_
  refine j_sipush (q := 17) dX8_init_14 rfl rfl ?_
  refine j_newI (N := 2195) (r := 199) (l' := [.inl (8, [.inr 198, .inl 2, .inl 2, .inl 2, .inl 2, .inl 2, .inl 2, .inl 2, .inl 0, .inl 0, .inl 0, .inl 0, .inl 0, .inl 1]), .inr (0, 2195), .inr (0, 2195)]) hl hb rfl rfl rfl dX8_init_17 rfl rfl (by decide) (hz 2 (by decide)) (by decide) (by decide) ?_
  refine j_putR (d := 0) (l' := [.inl (8, [.inr 198, .inr 199, .inl 2, .inl 2, .inl 2, .inl 2, .inl 2, .inl 2, .inl 0, .inl 0, .inl 0, .inl 0, .inl 0, .inl 1]), .inr (0, 2195), .inr (0, 2195)]) hl hb dX8_init_19 rfl fr_X8_13 rfl rfl (Nat.le_of_ble_eq_true rfl) rfl ?_
  refine j_aload0 (q := 23) dX8_init_22 rfl ?_
  refine j_sipush (q := 26) dX8_init_23 rfl rfl ?_
  refine j_newI (N := 13170) (r := 200) (l' := [.inl (8, [.inr 198, .inr 199, .inl 2, .inl 2, .inl 2, .inl 2, .inl 2, .inl 2, .inl 0, .inl 0, .inl 0, .inl 0, .inl 0, .inl 1]), .inr (0, 2195), .inr (0, 2195), .inr (0, 13170)]) hl hb rfl rfl rfl dX8_init_26 rfl rfl (by decide) (hz 3 (by decide)) (by decide) (by decide) ?_
  refine j_putR (d := 0) (l' := [.inl (8, [.inr 198, .inr 199, .inr 200, .inl 2, .inl 2, .inl 2, .inl 2, .inl 2, .inl 0, .inl 0, .inl 0, .inl 0, .inl 0, .inl 1]), .inr (0, 2195), .inr (0, 2195), .inr (0, 13170)]) hl hb dX8_init_28 rfl fr_X8_16 rfl rfl (Nat.le_of_ble_eq_true rfl) rfl ?_
  refine j_aload0 (q := 32) dX8_init_31 rfl ?_
  refine j_bipush (q := 34) dX8_init_32 rfl rfl ?_
  refine j_newI (N := 60) (r := 201) (l' := [.inl (8, [.inr 198, .inr 199, .inr 200, .inl 2, .inl 2, .inl 2, .inl 2, .inl 2, .inl 0, .inl 0, .inl 0, .inl 0, .inl 0, .inl 1]), .inr (0, 2195), .inr (0, 2195), .inr (0, 13170), .inr (0, 60)]) hl hb rfl rfl rfl dX8_init_34 rfl rfl (by decide) (hz 4 (by decide)) (by decide) (by decide) ?_
  refine j_putR (d := 0) (l' := [.inl (8, [.inr 198, .inr 199, .inr 200, .inr 201, .inl 2, .inl 2, .inl 2, .inl 2, .inl 0, .inl 0, .inl 0, .inl 0, .inl 0, .inl 1]), .inr (0, 2195), .inr (0, 2195), .inr (0, 13170), .inr (0, 60)]) hl hb dX8_init_36 rfl fr_X8_19 rfl rfl (Nat.le_of_ble_eq_true rfl) rfl ?_
  refine j_aload0 (q := 40) dX8_init_39 rfl ?_
  refine j_bipush (q := 42) dX8_init_40 rfl rfl ?_
  refine j_newI (N := 32) (r := 202) (l' := [.inl (8, [.inr 198, .inr 199, .inr 200, .inr 201, .inl 2, .inl 2, .inl 2, .inl 2, .inl 0, .inl 0, .inl 0, .inl 0, .inl 0, .inl 1]), .inr (0, 2195), .inr (0, 2195), .inr (0, 13170), .inr (0, 60), .inr (0, 32)]) hl hb rfl rfl rfl dX8_init_42 rfl rfl (by decide) (hz 5 (by decide)) (by decide) (by decide) ?_
  refine j_putR (d := 0) (l' := [.inl (8, [.inr 198, .inr 199, .inr 200, .inr 201, .inr 202, .inl 2, .inl 2, .inl 2, .inl 0, .inl 0, .inl 0, .inl 0, .inl 0, .inl 1]), .inr (0, 2195), .inr (0, 2195), .inr (0, 13170), .inr (0, 60), .inr (0, 32)]) hl hb dX8_init_44 rfl fr_X8_22 rfl rfl (Nat.le_of_ble_eq_true rfl) rfl ?_
  refine j_aload0 (q := 48) dX8_init_47 rfl ?_
  refine j_bipush (q := 50) dX8_init_48 rfl rfl ?_
  refine j_newI (N := 32) (r := 203) (l' := [.inl (8, [.inr 198, .inr 199, .inr 200, .inr 201, .inr 202, .inl 2, .inl 2, .inl 2, .inl 0, .inl 0, .inl 0, .inl 0, .inl 0, .inl 1]), .inr (0, 2195), .inr (0, 2195), .inr (0, 13170), .inr (0, 60), .inr (0, 32), .inr (0, 32)]) hl hb rfl rfl rfl dX8_init_50 rfl rfl (by decide) (hz 6 (by decide)) (by decide) (by decide) ?_
  refine j_putR (d := 0) (l' := [.inl (8, [.inr 198, .inr 199, .inr 200, .inr 201, .inr 202, .inr 203, .inl 2, .inl 2, .inl 0, .inl 0, .inl 0, .inl 0, .inl 0, .inl 1]), .inr (0, 2195), .inr (0, 2195), .inr (0, 13170), .inr (0, 60), .inr (0, 32), .inr (0, 32)]) hl hb dX8_init_52 rfl fr_X8_25 rfl rfl (Nat.le_of_ble_eq_true rfl) rfl ?_
  refine j_aload0 (q := 56) dX8_init_55 rfl ?_
  refine j_bipush (q := 58) dX8_init_56 rfl rfl ?_
  refine j_newI (N := 32) (r := 204) (l' := [.inl (8, [.inr 198, .inr 199, .inr 200, .inr 201, .inr 202, .inr 203, .inl 2, .inl 2, .inl 0, .inl 0, .inl 0, .inl 0, .inl 0, .inl 1]), .inr (0, 2195), .inr (0, 2195), .inr (0, 13170), .inr (0, 60), .inr (0, 32), .inr (0, 32), .inr (0, 32)]) hl hb rfl rfl rfl dX8_init_58 rfl rfl (by decide) (hz 7 (by decide)) (by decide) (by decide) ?_
  refine j_putR (d := 0) (l' := [.inl (8, [.inr 198, .inr 199, .inr 200, .inr 201, .inr 202, .inr 203, .inr 204, .inl 2, .inl 0, .inl 0, .inl 0, .inl 0, .inl 0, .inl 1]), .inr (0, 2195), .inr (0, 2195), .inr (0, 13170), .inr (0, 60), .inr (0, 32), .inr (0, 32), .inr (0, 32)]) hl hb dX8_init_60 rfl fr_X8_28 rfl rfl (Nat.le_of_ble_eq_true rfl) rfl ?_
  refine j_aload0 (q := 64) dX8_init_63 rfl ?_
  refine j_bipush (q := 66) dX8_init_64 rfl rfl ?_
  refine j_newI (N := 64) (r := 205) (l' := [.inl (8, [.inr 198, .inr 199, .inr 200, .inr 201, .inr 202, .inr 203, .inr 204, .inl 2, .inl 0, .inl 0, .inl 0, .inl 0, .inl 0, .inl 1]), .inr (0, 2195), .inr (0, 2195), .inr (0, 13170), .inr (0, 60), .inr (0, 32), .inr (0, 32), .inr (0, 32), .inr (0, 64)]) hl hb rfl rfl rfl dX8_init_66 rfl rfl (by decide) (hz 8 (by decide)) (by decide) (by decide) ?_
  refine j_putR (d := 0) (l' := [.inl (8, [.inr 198, .inr 199, .inr 200, .inr 201, .inr 202, .inr 203, .inr 204, .inr 205, .inl 0, .inl 0, .inl 0, .inl 0, .inl 0, .inl 1]), .inr (0, 2195), .inr (0, 2195), .inr (0, 13170), .inr (0, 60), .inr (0, 32), .inr (0, 32), .inr (0, 32), .inr (0, 64)]) hl hb dX8_init_68 rfl fr_X8_31 rfl rfl (Nat.le_of_ble_eq_true rfl) rfl ?_
  refine j_mem (m' := (sz m (fun _ => 0))) (by rw [← hz 1 (by decide)]; exact sz_self.symm) ?_
  refine j_aload0 (q := 72) dX8_init_71 rfl ?_
  refine j_getR 0 (q := 75) dX8_init_72 rfl fl_X8_7 (gx (d := 0) hb rfl) rfl ?_
  refine j_bipush (q := 77) dX8_init_75 rfl rfl ?_
  refine j_iconst (q := 78) dX8_init_77 rfl ?_
  refine j_iastore (q := 79) (i' := 15) dX8_init_78 rfl (gx (d := 1) hb rfl) rfl (by decide) (by decide) ?_
  refine j_mem (m' := (sz m (u1 (fun _ => 0) 15 2))) up_sz ?_
  refine j_aload0 (q := 80) dX8_init_79 rfl ?_
  refine j_getR 0 (q := 83) dX8_init_80 rfl fl_X8_7 (gx (d := 0) hb rfl) rfl ?_
  refine j_bipush (q := 85) dX8_init_83 rfl rfl ?_
  refine j_iconst (q := 86) dX8_init_85 rfl ?_
  refine j_iastore (q := 87) (i' := 16) dX8_init_86 rfl (gx (d := 1) hb rfl) rfl (by decide) (by decide) ?_
  refine j_mem (m' := (sz m (u1 (u1 (fun _ => 0) 15 2) 16 4))) up_sz ?_
  refine j_aload0 (q := 88) dX8_init_87 rfl ?_
  refine j_getR 0 (q := 91) dX8_init_88 rfl fl_X8_7 (gx (d := 0) hb rfl) rfl ?_
  refine j_bipush (q := 93) dX8_init_91 rfl rfl ?_
  refine j_iconst (q := 94) dX8_init_93 rfl ?_
  refine j_iastore (q := 95) (i' := 17) dX8_init_94 rfl (gx (d := 1) hb rfl) rfl (by decide) (by decide) ?_
  refine j_mem (m' := (sz m (u1 (u1 (u1 (fun _ => 0) 15 2) 16 4) 17 3))) up_sz ?_
  refine j_aload0 (q := 96) dX8_init_95 rfl ?_
  refine j_getR 0 (q := 99) dX8_init_96 rfl fl_X8_7 (gx (d := 0) hb rfl) rfl ?_
  refine j_bipush (q := 101) dX8_init_99 rfl rfl ?_
  refine j_iconst (q := 102) dX8_init_101 rfl ?_
  refine j_iastore (q := 103) (i' := 18) dX8_init_102 rfl (gx (d := 1) hb rfl) rfl (by decide) (by decide) ?_
  refine j_mem (m' := (sz m (u1 (u1 (u1 (u1 (fun _ => 0) 15 2) 16 4) 17 3) 18 5))) up_sz ?_
  refine j_aload0 (q := 104) dX8_init_103 rfl ?_
  refine j_getR 0 (q := 107) dX8_init_104 rfl fl_X8_7 (gx (d := 0) hb rfl) rfl ?_
  refine j_bipush (q := 109) dX8_init_107 rfl rfl ?_
  refine j_bipush (q := 111) dX8_init_109 rfl rfl ?_
  refine j_iastore (q := 112) (i' := 19) dX8_init_111 rfl (gx (d := 1) hb rfl) rfl (by decide) (by decide) ?_
  refine j_mem (m' := (sz m (u1 (u1 (u1 (u1 (u1 (fun _ => 0) 15 2) 16 4) 17 3) 18 5) 19 20))) up_sz ?_
  refine j_aload0 (q := 113) dX8_init_112 rfl ?_
  refine j_getR 0 (q := 116) dX8_init_113 rfl fl_X8_7 (gx (d := 0) hb rfl) rfl ?_
  refine j_bipush (q := 118) dX8_init_116 rfl rfl ?_
  refine j_bipush (q := 120) dX8_init_118 rfl rfl ?_
  refine j_iastore (q := 121) (i' := 20) dX8_init_120 rfl (gx (d := 1) hb rfl) rfl (by decide) (by decide) ?_
  refine j_mem (m' := (sz m (u1 (u1 (u1 (u1 (u1 (u1 (fun _ => 0) 15 2) 16 4) 17 3) 18 5) 19 20) 20 60))) up_sz ?_
  refine j_aload0 (q := 122) dX8_init_121 rfl ?_
  refine j_getR 0 (q := 125) dX8_init_122 rfl fl_X8_7 (gx (d := 0) hb rfl) rfl ?_
  refine j_bipush (q := 127) dX8_init_125 rfl rfl ?_
  refine j_iconst (q := 128) dX8_init_127 rfl ?_
  refine j_iastore (q := 129) (i' := 21) dX8_init_128 rfl (gx (d := 1) hb rfl) rfl (by decide) (by decide) ?_
  refine j_mem (m' := (sz m (u1 (u1 (u1 (u1 (u1 (u1 (u1 (fun _ => 0) 15 2) 16 4) 17 3) 18 5) 19 20) 20 60) 21 2))) up_sz ?_
  refine j_aload0 (q := 130) dX8_init_129 rfl ?_
  refine j_getR 0 (q := 133) dX8_init_130 rfl fl_X8_7 (gx (d := 0) hb rfl) rfl ?_
  refine j_bipush (q := 135) dX8_init_133 rfl rfl ?_
  refine j_bipush (q := 137) dX8_init_135 rfl rfl ?_
  refine j_iastore (q := 138) (i' := 22) dX8_init_137 rfl (gx (d := 1) hb rfl) rfl (by decide) (by decide) ?_
  refine j_mem (m' := (sz m (u1 (u1 (u1 (u1 (u1 (u1 (u1 (u1 (fun _ => 0) 15 2) 16 4) 17 3) 18 5) 19 20) 20 60) 21 2) 22 10))) up_sz ?_
  refine j_iconst (q := 139) dX8_init_138 rfl ?_
  refine j_istore1 (q := 140) dX8_init_139 rfl rfl (by decide) ?_
  refine j_mem (m' := sz m (zI 0)) (by
    congr 1
    funext j
    simp only [u1, zI]
    grind) ?_
  exact lp_X8_init hl hfl hb 64 0 rfl

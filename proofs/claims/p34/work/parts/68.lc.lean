/-! the law: claims, losses, pulses -/
theorem iU_b (x : Int) : 0 ≤ iU x 1 ∧ iU x 1 < 2147483648 := by
  unfold iU
  have e : ((jI 1).toUInt32 &&& Int32.toUInt32 31) = 1 := by decide
  rw [e]
  generalize (jI x).toUInt32 = u
  have h : (u >>> 1).toNat = u.toNat / 2 := by
    rw [UInt32.toNat_shiftRight]
    show u.toNat >>> 1 = _
    rw [Nat.shiftRight_eq_div_pow]
  have hu : u.toNat < 4294967296 := u.toNat_lt
  have e2 : ((u >>> 1).toInt32).toInt = (u >>> 1).toBitVec.toInt := rfl
  have e3 : (u >>> 1).toBitVec.toNat = (u >>> 1).toNat := rfl
  rw [e2, BitVec.toInt_eq_toNat_of_lt (by rw [e3, h]; omega), e3, h]
  omega
/-- a number below n, out of a number of the script -/
def aT (x n : Int) : Int := iU x 1 % n
theorem aT_b (x : Int) {n : Int} (h : 1 ≤ n) : 0 ≤ aT x n ∧ aT x n < n := by
  unfold aT
  exact ⟨Int.emod_nonneg _ (by omega), Int.emod_lt_of_pos _ (by omega)⟩
def lL (a b : Int) : Bool := decide (¬ a = b ∧ (a / 4 = b / 4 ∨ a % 4 = b % 4))
theorem lL_e {a b : Int} (ha : 0 ≤ a ∧ a < 16) (hb : 0 ≤ b ∧ b < 16) : zLin (cr a) (cr b) = lL a b := by
  unfold zLin lL cr
  exact decide_eq_decide.mpr (by omega)
/-- a place of the script -/
def cE (G : GX) (k : Int) : Int := if k < ((gE G 2).2.1 : Int) then (gE G 2).2.2 k else 1332485771 * (k + 1)
theorem u1_u1 {z : Z} {i a b : Int} : u1 (u1 z i a) i b = u1 z i b := by funext x; unfold u1; grind
theorem ct_L_at {G : GX} {sh : List SH} {p : Bool} (E : EW G sh) (hs : LA sh p) {m : Mem} {x : Int} {n : Int} (h1 : 1 ≤ n ∧ n ≤ 100000) : CT G sh iL_at 0 0 [.inl x, .inl n] (m) (some (.inl (aT x n))) (m) := by
  refine j_met (L0 := [some (.inl x), some (.inl n)]) (by decide) E.1 E.2 rfl (Nat.le_of_ble_eq_true rfl) ?_
  refine j_iload0 (q := 1) dL_at_0 rfl ?_
  refine j_iconst (q := 2) dL_at_1 rfl ?_
  refine j_iushr (q := 3) dL_at_2 rfl ?_
  have hu := iU_b x
  refine j_iload1 (q := 4) dL_at_3 rfl ?_
  refine j_iremP (q := 5) dL_at_4 rfl (by first | exact wr_id' (by omega) (by omega) | with_reducible exact wr_bI _ | exact rfl) (by first | exact wr_id' (by omega) (by omega) | with_reducible exact wr_bI _ | exact rfl) (by omega) (by omega) ?_
  exact j_ireturn dL_at_5 rfl (rfl) (rfl)
theorem ct_L_core {G : GX} {sh : List SH} {p : Bool} (E : EW G sh) (hs : LA sh p) {m : Mem} {k : Int} (h1 : 0 ≤ k ∧ k < 16) : CT G sh iL_core 0 0 [.inl k] (m) (some (.inl (cr k))) (m) := by
  refine j_met (L0 := [some (.inl k)]) (by decide) E.1 E.2 rfl (Nat.le_of_ble_eq_true rfl) ?_
  refine j_bipush (q := 2) dL_core_0 rfl rfl ?_
  refine j_iload0 (q := 3) dL_core_2 rfl ?_
  refine j_iconst (q := 4) dL_core_3 rfl ?_
  refine j_idivP (q := 5) dL_core_4 rfl (by first | exact wr_id' (by omega) (by omega) | with_reducible exact wr_bI _ | exact rfl) (by first | exact wr_id' (by omega) (by omega) | with_reducible exact wr_bI _ | exact rfl) (by omega) (by omega) ?_
  refine j_imul (q := 6) dL_core_5 rfl ?_
  refine j_iload0 (q := 7) dL_core_6 rfl ?_
  refine j_iconst (q := 8) dL_core_7 rfl ?_
  refine j_iremP (q := 9) dL_core_8 rfl (by first | exact wr_id' (by omega) (by omega) | with_reducible exact wr_bI _ | exact rfl) (by first | exact wr_id' (by omega) (by omega) | with_reducible exact wr_bI _ | exact rfl) (by omega) (by omega) ?_
  refine j_iadd (q := 10) dL_core_9 rfl ?_
  exact j_ireturn dL_core_10 rfl (rfl) (rfl)
theorem ct_L_line {G : GX} {sh : List SH} {p : Bool} (E : EW G sh) (hs : LA sh p) {m : Mem} {a : Int} {b : Int} (h1 : 0 ≤ a ∧ a < 16) (h2 : 0 ≤ b ∧ b < 16) : CT G sh iL_line 0 0 [.inl a, .inl b] (m) (some (.inl (bI (lL a b)))) (m) := by
  refine j_met (L0 := [some (.inl a), some (.inl b)]) (by decide) E.1 E.2 rfl (Nat.le_of_ble_eq_true rfl) ?_
  refine j_iload0 (q := 1) dL_line_0 rfl ?_
  refine j_iload1 (q := 2) dL_line_1 rfl ?_
  refine j_icmp_eq (tgt := 27) (q := 5) dL_line_2 (by decide) rfl (by first | exact wr_id' (by omega) (by omega) | with_reducible exact wr_bI _ | exact rfl) (by first | exact wr_id' (by omega) (by omega) | with_reducible exact wr_bI _ | exact rfl) (fun h2 => ?_) (fun h2 => ?_)
  · refine j_iconst (q := 28) dL_line_27 rfl ?_
    exact j_zreturn dL_line_28 rfl (by decide) (by unfold lL; first | exact bI_t (by omega) | exact bI_f (by omega)) (rfl)
  · refine j_iload0 (q := 6) dL_line_5 rfl ?_
    refine j_iconst (q := 7) dL_line_6 rfl ?_
    refine j_idivP (q := 8) dL_line_7 rfl (by first | exact wr_id' (by omega) (by omega) | with_reducible exact wr_bI _ | exact rfl) (by first | exact wr_id' (by omega) (by omega) | with_reducible exact wr_bI _ | exact rfl) (by omega) (by omega) ?_
    refine j_iload1 (q := 9) dL_line_8 rfl ?_
    refine j_iconst (q := 10) dL_line_9 rfl ?_
    refine j_idivP (q := 11) dL_line_10 rfl (by first | exact wr_id' (by omega) (by omega) | with_reducible exact wr_bI _ | exact rfl) (by first | exact wr_id' (by omega) (by omega) | with_reducible exact wr_bI _ | exact rfl) (by omega) (by omega) ?_
    refine j_icmp_eq (tgt := 23) (q := 14) dL_line_11 (by decide) rfl (by first | exact wr_id' (by omega) (by omega) | with_reducible exact wr_bI _ | exact rfl) (by first | exact wr_id' (by omega) (by omega) | with_reducible exact wr_bI _ | exact rfl) (fun h11 => ?_) (fun h11 => ?_)
    · refine j_iconst (q := 24) dL_line_23 rfl ?_
      refine j_goto (tgt := 28) dL_line_24 (by decide) ?_
      exact j_zreturn dL_line_28 rfl (by decide) (by unfold lL; first | exact bI_t (by omega) | exact bI_f (by omega)) (rfl)
    · refine j_iload0 (q := 15) dL_line_14 rfl ?_
      refine j_iconst (q := 16) dL_line_15 rfl ?_
      refine j_iremP (q := 17) dL_line_16 rfl (by first | exact wr_id' (by omega) (by omega) | with_reducible exact wr_bI _ | exact rfl) (by first | exact wr_id' (by omega) (by omega) | with_reducible exact wr_bI _ | exact rfl) (by omega) (by omega) ?_
      refine j_iload1 (q := 18) dL_line_17 rfl ?_
      refine j_iconst (q := 19) dL_line_18 rfl ?_
      refine j_iremP (q := 20) dL_line_19 rfl (by first | exact wr_id' (by omega) (by omega) | with_reducible exact wr_bI _ | exact rfl) (by first | exact wr_id' (by omega) (by omega) | with_reducible exact wr_bI _ | exact rfl) (by omega) (by omega) ?_
      refine j_icmp_ne (tgt := 27) (q := 23) dL_line_20 (by decide) rfl (by first | exact wr_id' (by omega) (by omega) | with_reducible exact wr_bI _ | exact rfl) (by first | exact wr_id' (by omega) (by omega) | with_reducible exact wr_bI _ | exact rfl) (fun h20 => ?_) (fun h20 => ?_)
      · refine j_iconst (q := 28) dL_line_27 rfl ?_
        exact j_zreturn dL_line_28 rfl (by decide) (by unfold lL; first | exact bI_t (by omega) | exact bI_f (by omega)) (rfl)
      · refine j_iconst (q := 24) dL_line_23 rfl ?_
        refine j_goto (tgt := 28) dL_line_24 (by decide) ?_
        exact j_zreturn dL_line_28 rfl (by decide) (by unfold lL; first | exact bI_t (by omega) | exact bI_f (by omega)) (rfl)
theorem lp_L_pay_sh {G : GX} {sh : List SH} {p : Bool} (E : EW G sh) (hs : LA sh p) {m : Mem} {F : FinT} {i : Int} (h1 : 0 ≤ i ∧ i < 2) : ∀ (d : Nat) (k : Int) (z : Z), z (41 + 6 * i + 5) = k + d → 0 ≤ k → k + d < 24 → (∀ (x : Z), x = zSh1 (635 + 520 * i) d k z → J G sh iL_pay 0 0 F 155 [some (.inl i), some (.inr (.ref (ix p 3))), some (.inr (.ref (ix p 4))), some (.inr (.ref (ix p 5))), none, none] [] (lz m p x) 0 0) → J G sh iL_pay 0 0 F 116 [some (.inl i), some (.inr (.ref (ix p 3))), some (.inr (.ref (ix p 4))), some (.inr (.ref (ix p 5))), none, some (.inl k)] [] (lz m p z) 0 0 := by
  intro d
  induction d with
  | zero =>
    intro k z g0 g1 g2 kk
    refine j_iload5 (q := 118) dL_pay_116 rfl ?_
    refine j_aload2 (q := 119) dL_pay_118 rfl ?_
    refine j_bipush (q := 121) dL_pay_119 rfl rfl ?_
    refine j_iload0 (q := 122) dL_pay_121 rfl ?_
    refine j_imul (q := 123) dL_pay_122 rfl ?_
    refine j_iconst (q := 124) dL_pay_123 rfl ?_
    refine j_iadd (q := 125) dL_pay_124 rfl ?_
    refine j_l4_5 (q := 126) dL_pay_125 rfl hs (by omega) ?_
    refine j_icmp_ge (tgt := 155) (q := 129) dL_pay_126 (by decide) rfl (by first | exact wr_id' (by omega) (by omega) | with_reducible exact wr_bI _ | exact rfl) (by first | exact wr_id' (by omega) (by omega) | with_reducible exact wr_bI _ | exact rfl) (fun h126 => ?_) (fun h126 => ?_)
    · refine j_fgt5 ?_
      exact kk _ rfl
    · omega
  | succ d ih =>
    intro k z g0 g1 g2 kk
    refine j_iload5 (q := 118) dL_pay_116 rfl ?_
    refine j_aload2 (q := 119) dL_pay_118 rfl ?_
    refine j_bipush (q := 121) dL_pay_119 rfl rfl ?_
    refine j_iload0 (q := 122) dL_pay_121 rfl ?_
    refine j_imul (q := 123) dL_pay_122 rfl ?_
    refine j_iconst (q := 124) dL_pay_123 rfl ?_
    refine j_iadd (q := 125) dL_pay_124 rfl ?_
    refine j_l4_5 (q := 126) dL_pay_125 rfl hs (by omega) ?_
    refine j_icmp_ge (tgt := 155) (q := 129) dL_pay_126 (by decide) rfl (by first | exact wr_id' (by omega) (by omega) | with_reducible exact wr_bI _ | exact rfl) (by first | exact wr_id' (by omega) (by omega) | with_reducible exact wr_bI _ | exact rfl) (fun h126 => ?_) (fun h126 => ?_)
    · omega
    · refine j_aload3 (q := 130) dL_pay_129 rfl ?_
      refine j_bipush (q := 132) dL_pay_130 rfl rfl ?_
      refine j_iload0 (q := 133) dL_pay_132 rfl ?_
      refine j_imul (q := 134) dL_pay_133 rfl ?_
      refine j_iload5 (q := 136) dL_pay_134 rfl ?_
      refine j_iadd (q := 137) dL_pay_136 rfl ?_
      refine j_aload3 (q := 138) dL_pay_137 rfl ?_
      refine j_bipush (q := 140) dL_pay_138 rfl rfl ?_
      refine j_iload0 (q := 141) dL_pay_140 rfl ?_
      refine j_imul (q := 142) dL_pay_141 rfl ?_
      refine j_iload5 (q := 144) dL_pay_142 rfl ?_
      refine j_iadd (q := 145) dL_pay_144 rfl ?_
      refine j_iconst (q := 146) dL_pay_145 rfl ?_
      refine j_iadd (q := 147) dL_pay_146 rfl ?_
      refine j_l5_vk (q := 148) dL_pay_147 rfl hs (by omega) ?_
      refine j_s5_v (q := 149) dL_pay_148 rfl hs (by omega) ?_
      refine j_iinc5 (q := 152) dL_pay_149 rfl rfl (by decide) ?_
      refine j_goto (tgt := 116) dL_pay_152 (by decide) ?_
      exact ih _ _ (by rw [u1_ne (by omega)]; omega) (by omega) (by omega) (fun x hx => kk x (hx.trans (rfl)))
theorem lp_L_pay {G : GX} {sh : List SH} {p : Bool} (E : EW G sh) (hs : LA sh p) {m : Mem} {i : Int} (h1 : 0 ≤ i ∧ i < 2) : ∀ (d : Nat) (z : Z), z (41 + 6 * i + 5) = d → (d : Int) < 24 → QT z → J G sh iL_pay 0 0 (FN G sh 0 0 (none) (lz m p (zPayF i d z))) 0 [some (.inl i), some (.inr (.ref (ix p 3))), some (.inr (.ref (ix p 4))), some (.inr (.ref (ix p 5))), none, none] [] (lz m p z) 0 0 := by
  intro d
  induction d with
  | zero =>
    intro z g0 g1 g2
    have ht := g2 (635 + 520 * i) (by omega) (by omega)
    refine j_aload2 (q := 1) dL_pay_0 rfl ?_
    refine j_bipush (q := 3) dL_pay_1 rfl rfl ?_
    refine j_iload0 (q := 4) dL_pay_3 rfl ?_
    refine j_imul (q := 5) dL_pay_4 rfl ?_
    refine j_iconst (q := 6) dL_pay_5 rfl ?_
    refine j_iadd (q := 7) dL_pay_6 rfl ?_
    refine j_l4_5 (q := 8) dL_pay_7 rfl hs (by omega) ?_
    refine j_if_le (tgt := 158) (q := 11) dL_pay_8 (by decide) rfl (by first | exact wr_id' (by omega) (by omega) | with_reducible exact wr_bI _ | exact rfl) (fun h8 => ?_) (fun h8 => ?_)
    · exact j_return dL_pay_158 rfl (rfl)
    · omega
  | succ d ih =>
    intro z g0 g1 g2
    have ht := g2 (635 + 520 * i) (by omega) (by omega)
    refine j_aload2 (q := 1) dL_pay_0 rfl ?_
    refine j_bipush (q := 3) dL_pay_1 rfl rfl ?_
    refine j_iload0 (q := 4) dL_pay_3 rfl ?_
    refine j_imul (q := 5) dL_pay_4 rfl ?_
    refine j_iconst (q := 6) dL_pay_5 rfl ?_
    refine j_iadd (q := 7) dL_pay_6 rfl ?_
    refine j_l4_5 (q := 8) dL_pay_7 rfl hs (by omega) ?_
    refine j_if_le (tgt := 158) (q := 11) dL_pay_8 (by decide) rfl (by first | exact wr_id' (by omega) (by omega) | with_reducible exact wr_bI _ | exact rfl) (fun h8 => ?_) (fun h8 => ?_)
    · omega
    · refine j_aload2 (q := 12) dL_pay_11 rfl ?_
      refine j_bipush (q := 14) dL_pay_12 rfl rfl ?_
      refine j_iload0 (q := 15) dL_pay_14 rfl ?_
      refine j_imul (q := 16) dL_pay_15 rfl ?_
      refine j_l4_0 (q := 17) dL_pay_16 rfl hs (by omega) ?_
      refine j_aload2 (q := 18) dL_pay_17 rfl ?_
      refine j_bipush (q := 20) dL_pay_18 rfl rfl ?_
      refine j_iload0 (q := 21) dL_pay_20 rfl ?_
      refine j_imul (q := 22) dL_pay_21 rfl ?_
      refine j_iconst (q := 23) dL_pay_22 rfl ?_
      refine j_iadd (q := 24) dL_pay_23 rfl ?_
      refine j_l4_2 (q := 25) dL_pay_24 rfl hs (by omega) ?_
      refine j_icmp_lt (tgt := 158) (q := 28) dL_pay_25 (by decide) rfl rfl rfl (fun h25 => ?_) (fun h25 => ?_)
      · exact j_return dL_pay_158 rfl (by rw [zPayF, if_neg (by omega)])
      · refine j_aload3 (q := 29) dL_pay_28 rfl ?_
        refine j_bipush (q := 31) dL_pay_29 rfl rfl ?_
        refine j_iload0 (q := 32) dL_pay_31 rfl ?_
        refine j_imul (q := 33) dL_pay_32 rfl ?_
        refine j_l5_0 (q := 34) dL_pay_33 rfl hs (by omega) ?_
        refine j_istore4 (q := 36) dL_pay_34 rfl rfl (by decide) ?_
        refine j_aload2 (q := 37) dL_pay_36 rfl ?_
        refine j_bipush (q := 39) dL_pay_37 rfl rfl ?_
        refine j_iload0 (q := 40) dL_pay_39 rfl ?_
        refine j_imul (q := 41) dL_pay_40 rfl ?_
        refine j_dup2 (q := 42) dL_pay_41 rfl rfl rfl ?_
        refine j_l4_0 (q := 43) dL_pay_42 rfl hs (by omega) ?_
        refine j_aload2 (q := 44) dL_pay_43 rfl ?_
        refine j_bipush (q := 46) dL_pay_44 rfl rfl ?_
        refine j_iload0 (q := 47) dL_pay_46 rfl ?_
        refine j_imul (q := 48) dL_pay_47 rfl ?_
        refine j_iconst (q := 49) dL_pay_48 rfl ?_
        refine j_iadd (q := 50) dL_pay_49 rfl ?_
        refine j_l4_2 (q := 51) dL_pay_50 rfl hs (by omega) ?_
        refine j_isub (q := 52) dL_pay_51 rfl ?_
        refine j_s4_0 (q := 53) dL_pay_52 rfl hs (by omega) ?_
        refine j_aload2 (q := 54) dL_pay_53 rfl ?_
        refine j_bipush (q := 56) dL_pay_54 rfl rfl ?_
        refine j_iload0 (q := 57) dL_pay_56 rfl ?_
        refine j_imul (q := 58) dL_pay_57 rfl ?_
        refine j_iconst (q := 59) dL_pay_58 rfl ?_
        refine j_iadd (q := 60) dL_pay_59 rfl ?_
        refine j_dup2 (q := 61) dL_pay_60 rfl rfl rfl ?_
        refine j_l4_3 (q := 62) dL_pay_61 rfl hs (by omega) ?_
        refine j_iconst (q := 63) dL_pay_62 rfl ?_
        refine j_iadd (q := 64) dL_pay_63 rfl ?_
        refine j_s4_3 (q := 65) dL_pay_64 rfl hs (by omega) ?_
        refine j_aload2 (q := 66) dL_pay_65 rfl ?_
        refine j_bipush (q := 68) dL_pay_66 rfl rfl ?_
        refine j_iload0 (q := 69) dL_pay_68 rfl ?_
        refine j_imul (q := 70) dL_pay_69 rfl ?_
        refine j_iconst (q := 71) dL_pay_70 rfl ?_
        refine j_iadd (q := 72) dL_pay_71 rfl ?_
        refine j_dup2 (q := 73) dL_pay_72 rfl rfl rfl ?_
        refine j_l4_5 (q := 74) dL_pay_73 rfl hs (by omega) ?_
        refine j_iconst (q := 75) dL_pay_74 rfl ?_
        refine j_isub (q := 76) dL_pay_75 rfl ?_
        refine j_s4_5 (q := 77) dL_pay_76 rfl hs (by omega) ?_
        refine j_aload1 (q := 78) dL_pay_77 rfl ?_
        refine j_iconst (q := 79) dL_pay_78 rfl ?_
        refine j_iload4 (q := 81) dL_pay_79 rfl ?_
        refine j_imul (q := 82) dL_pay_81 rfl ?_
        refine j_dup2 (q := 83) dL_pay_82 rfl rfl rfl ?_
        refine j_l3_0 (q := 84) dL_pay_83 rfl hs (by omega) ?_
        refine j_aload2 (q := 85) dL_pay_84 rfl ?_
        refine j_bipush (q := 87) dL_pay_85 rfl rfl ?_
        refine j_iload0 (q := 88) dL_pay_87 rfl ?_
        refine j_imul (q := 89) dL_pay_88 rfl ?_
        refine j_iconst (q := 90) dL_pay_89 rfl ?_
        refine j_iadd (q := 91) dL_pay_90 rfl ?_
        refine j_l4_2 (q := 92) dL_pay_91 rfl hs (by omega) ?_
        refine j_iadd (q := 93) dL_pay_92 rfl ?_
        refine j_s3_0 (q := 94) dL_pay_93 rfl hs (by omega) ?_
        refine j_aload1 (q := 95) dL_pay_94 rfl ?_
        refine j_iconst (q := 96) dL_pay_95 rfl ?_
        refine j_iload4 (q := 98) dL_pay_96 rfl ?_
        refine j_imul (q := 99) dL_pay_98 rfl ?_
        refine j_iconst (q := 100) dL_pay_99 rfl ?_
        refine j_iadd (q := 101) dL_pay_100 rfl ?_
        refine j_dup2 (q := 102) dL_pay_101 rfl rfl rfl ?_
        refine j_l3_2 (q := 103) dL_pay_102 rfl hs (by omega) ?_
        refine j_aload2 (q := 104) dL_pay_103 rfl ?_
        refine j_bipush (q := 106) dL_pay_104 rfl rfl ?_
        refine j_iload0 (q := 107) dL_pay_106 rfl ?_
        refine j_imul (q := 108) dL_pay_107 rfl ?_
        refine j_iconst (q := 109) dL_pay_108 rfl ?_
        refine j_iadd (q := 110) dL_pay_109 rfl ?_
        refine j_l4_2 (q := 111) dL_pay_110 rfl hs (by omega) ?_
        refine j_iadd (q := 112) dL_pay_111 rfl ?_
        refine j_s3_2 (q := 113) dL_pay_112 rfl hs (by omega) ?_
        refine j_iconst (q := 114) dL_pay_113 rfl ?_
        refine j_istore5 (q := 116) dL_pay_114 rfl rfl (by decide) ?_
        refine j_fgt4 ?_
        refine lp_L_pay_sh E hs h1 d 0 _ (show zPa z i (41 + 6 * i + 5) = _ by rw [zPa_i (by omega) (by omega) (by omega), if_neg (by omega), if_neg (by omega), if_pos rfl]; omega) (by omega) (by omega) ?_
        intro x hx
        replace hx : x = zSh1 (635 + 520 * i) d 0 (zPa z i) := hx
        refine j_goto (tgt := 0) dL_pay_155 (by decide) ?_
        exact j_fin (rfl) (by rw [zPayF, if_pos (by omega), hx]) (ih _ (by rw [hx, zSh1_at, if_neg (by omega), zPa_i (by omega) (by omega) (by omega), if_neg (by omega), if_neg (by omega), if_pos rfl]; omega) (by omega) (by rw [hx]; exact zSh1_qt (by omega) (by omega) (zPa_qt (by omega) (by omega) g2)))
theorem ct_L_pay {G : GX} {sh : List SH} {p : Bool} (E : EW G sh) (hs : LA sh p) {m : Mem} {z : Z} {i : Int} (h1 : 0 ≤ i ∧ i < 2) (h2 : 0 ≤ z (41 + 6 * i + 5) ∧ z (41 + 6 * i + 5) ≤ 23) (h3 : QT z) : CT G sh iL_pay 0 0 [.inl i, .inr (.ref (ix p 3)), .inr (.ref (ix p 4)), .inr (.ref (ix p 5))] (lz m p z) none (lz m p (zPay z i)) := by
  refine j_met (L0 := [some (.inl i), some (.inr (.ref (ix p 3))), some (.inr (.ref (ix p 4))), some (.inr (.ref (ix p 5))), none, none]) (by decide) E.1 E.2 rfl (Nat.le_of_ble_eq_true rfl) ?_
  exact lp_L_pay E hs h1 (z (41 + 6 * i + 5)).toNat z (by omega) (by omega) h3
theorem ct_L_lost {G : GX} {sh : List SH} {p : Bool} (E : EW G sh) (hs : LA sh p) {m : Mem} {z : Z} {k : Int} (h1 : 0 ≤ k ∧ k < 16) (hX : LX z) : CT G sh iL_lost 0 0 [.inl k, .inr (.ref (ix p 0)), .inr (.ref (ix p 1)), .inr (.ref (ix p 2)), .inr (.ref (ix p 3)), .inr (.ref (ix p 4)), .inr (.ref (ix p 5))] (lz m p z) none (lz m p (zLo z (cr k))) := by
  refine j_met (L0 := [some (.inl k), some (.inr (.ref (ix p 0))), some (.inr (.ref (ix p 1))), some (.inr (.ref (ix p 2))), some (.inr (.ref (ix p 3))), some (.inr (.ref (ix p 4))), some (.inr (.ref (ix p 5))), none, none]) (by decide) E.1 E.2 rfl (Nat.le_of_ble_eq_true rfl) ?_
  have hc := cr_b h1
  refine j_aload3 (q := 1) dL_lost_0 rfl ?_
  refine j_iload0 (q := 2) dL_lost_1 rfl ?_
  refine j_dup2 (q := 3) dL_lost_2 rfl rfl rfl ?_
  refine j_l2_0 (q := 4) dL_lost_3 rfl hs (by omega) ?_
  refine j_iconst (q := 5) dL_lost_4 rfl ?_
  refine j_iadd (q := 6) dL_lost_5 rfl ?_
  refine j_s2_0 (q := 7) dL_lost_6 rfl hs (by omega) ?_
  refine j_mem (m' := lz m p (zL1 z (cr k))) rfl ?_
  have w1 := LX_1 hc hX
  have r1 := w1.2.2 (cr k) hc.1 hc.2
  refine j_aload1 (q := 8) dL_lost_7 rfl ?_
  refine j_iconst (q := 9) dL_lost_8 rfl ?_
  refine j_iload0 (q := 10) dL_lost_9 rfl ?_
  refine j_imul (q := 11) dL_lost_10 rfl ?_
  refine j_iconst (q := 12) dL_lost_11 rfl ?_
  refine j_iadd (q := 13) dL_lost_12 rfl ?_
  refine j_l0_2 (q := 14) dL_lost_13 rfl hs (by omega) ?_
  refine j_istore7 (q := 16) dL_lost_14 rfl rfl (by decide) ?_
  refine j_iload7 (q := 18) dL_lost_16 rfl ?_
  refine j_if_ge (tgt := 22) (q := 21) dL_lost_18 (by decide) rfl (by first | exact wr_id' (by omega) (by omega) | with_reducible exact wr_bI _ | exact rfl) (fun h18 => ?_) (fun h18 => ?_)
  · have hl2 : 0 < zL1 z (cr k) (59 + 9 * cr k + 2) := by omega
    have hl : zLs (zL1 z (cr k)) (cr k) = true := (zLs_p (by omega)).mpr hl2
    refine j_aload4 (q := 24) dL_lost_22 rfl ?_
    refine j_iconst (q := 25) dL_lost_24 rfl ?_
    refine j_iload7 (q := 27) dL_lost_25 rfl ?_
    refine j_imul (q := 28) dL_lost_27 rfl ?_
    refine j_iconst (q := 29) dL_lost_28 rfl ?_
    refine j_iadd (q := 30) dL_lost_29 rfl ?_
    refine j_dup2 (q := 31) dL_lost_30 rfl rfl rfl ?_
    refine j_l3_1 (q := 32) dL_lost_31 rfl hs (by omega) ?_
    refine j_iconst (q := 33) dL_lost_32 rfl ?_
    refine j_iadd (q := 34) dL_lost_33 rfl ?_
    refine j_s3_1 (q := 35) dL_lost_34 rfl hs (by omega) ?_
    refine j_mem (m' := lz m p (zL2 (zL1 z (cr k)) (cr k))) rfl ?_
    have w2 := LX_2 hc hl2 w1
    have r2 := w2.2.2 (cr k) hc.1 hc.2
    refine j_aload2 (q := 36) dL_lost_35 rfl ?_
    refine j_iconst (q := 37) dL_lost_36 rfl ?_
    refine j_iload0 (q := 38) dL_lost_37 rfl ?_
    refine j_imul (q := 39) dL_lost_38 rfl ?_
    refine j_l1_0 (q := 40) dL_lost_39 rfl hs (by omega) ?_
    refine j_istore8 (q := 42) dL_lost_40 rfl rfl (by decide) ?_
    refine j_iload8 (q := 44) dL_lost_42 rfl ?_
    refine j_if_ge (tgt := 48) (q := 47) dL_lost_44 (by decide) rfl (by first | exact wr_id' (by omega) (by omega) | with_reducible exact wr_bI _ | exact rfl) (fun h44 => ?_) (fun h44 => ?_)
    · refine j_aload2 (q := 49) dL_lost_48 rfl ?_
      refine j_iconst (q := 50) dL_lost_49 rfl ?_
      refine j_iload0 (q := 51) dL_lost_50 rfl ?_
      refine j_imul (q := 52) dL_lost_51 rfl ?_
      refine j_iconst (q := 53) dL_lost_52 rfl ?_
      refine j_s1_0 (q := 54) dL_lost_53 rfl hs (by omega) (v' := 0) (by decide) ?_
      refine j_aload2 (q := 55) dL_lost_54 rfl ?_
      refine j_iconst (q := 56) dL_lost_55 rfl ?_
      refine j_iload0 (q := 57) dL_lost_56 rfl ?_
      refine j_imul (q := 58) dL_lost_57 rfl ?_
      refine j_iconst (q := 59) dL_lost_58 rfl ?_
      refine j_iadd (q := 60) dL_lost_59 rfl ?_
      refine j_iconst (q := 61) dL_lost_60 rfl ?_
      refine j_s1_1 (q := 62) dL_lost_61 rfl hs (by omega) ?_
      have e4 : u1 (u1 (zL2 (zL1 z (cr k)) (cr k)) (59 + 9 * cr k + 4) 0) (59 + 9 * cr k + 5) 0 (41 + 6 * (zL2 (zL1 z (cr k)) (cr k) (59 + 9 * cr k + 4) - 1) + 5) = zL2 (zL1 z (cr k)) (cr k) (41 + 6 * (zL2 (zL1 z (cr k)) (cr k) (59 + 9 * cr k + 4) - 1) + 5) := by rw [u1_ne (by omega), u1_ne (by omega)]
      have wt := LX_wt w2 (i := zL2 (zL1 z (cr k)) (cr k) (59 + 9 * cr k + 4) - 1) ⟨by omega, by omega⟩
      have w3 := LX_3 (t := zL1 z (cr k) (59 + 9 * cr k + 2) - 1) hc rfl ⟨by omega, by omega⟩ ⟨by omega, by omega⟩ w2
      refine j_aload6 (q := 64) dL_lost_62 rfl ?_
      refine j_bipush (q := 66) dL_lost_64 rfl rfl ?_
      refine j_iload8 (q := 68) dL_lost_66 rfl ?_
      refine j_imul (q := 69) dL_lost_68 rfl ?_
      refine j_aload5 (q := 71) dL_lost_69 rfl ?_
      refine j_bipush (q := 73) dL_lost_71 rfl rfl ?_
      refine j_iload8 (q := 75) dL_lost_73 rfl ?_
      refine j_imul (q := 76) dL_lost_75 rfl ?_
      refine j_iconst (q := 77) dL_lost_76 rfl ?_
      refine j_iadd (q := 78) dL_lost_77 rfl ?_
      refine j_l4_5 (q := 79) dL_lost_78 rfl hs (by omega) ?_
      refine j_iadd (q := 80) dL_lost_79 rfl ?_
      refine j_iload7 (q := 82) dL_lost_80 rfl ?_
      refine j_s5_v (q := 83) dL_lost_82 rfl hs (by omega) ?_
      refine j_aload5 (q := 85) dL_lost_83 rfl ?_
      refine j_bipush (q := 87) dL_lost_85 rfl rfl ?_
      refine j_iload8 (q := 89) dL_lost_87 rfl ?_
      refine j_imul (q := 90) dL_lost_89 rfl ?_
      refine j_iconst (q := 91) dL_lost_90 rfl ?_
      refine j_iadd (q := 92) dL_lost_91 rfl ?_
      refine j_dup2 (q := 93) dL_lost_92 rfl rfl rfl ?_
      refine j_l4_5 (q := 94) dL_lost_93 rfl hs (by omega) ?_
      refine j_iconst (q := 95) dL_lost_94 rfl ?_
      refine j_iadd (q := 96) dL_lost_95 rfl ?_
      refine j_s4_5 (q := 97) dL_lost_96 rfl hs (by omega) ?_
      refine j_mem (m' := lz m p (zL3 (zL2 (zL1 z (cr k)) (cr k)) (cr k) (zL2 (zL1 z (cr k)) (cr k) (59 + 9 * cr k + 4) - 1) (zL1 z (cr k) (59 + 9 * cr k + 2) - 1))) rfl ?_
      have wt3 := LX_wt w3 (i := zL2 (zL1 z (cr k)) (cr k) (59 + 9 * cr k + 4) - 1) ⟨by omega, by omega⟩
      refine j_iload8 (q := 99) dL_lost_97 rfl ?_
      refine j_aload4 (q := 101) dL_lost_99 rfl ?_
      refine j_aload5 (q := 103) dL_lost_101 rfl ?_
      refine j_aload6 (q := 105) dL_lost_103 rfl ?_
      refine j_callS4v (Mc := iL_pay) (q := 108) (c' := 0) (s' := 0) dL_lost_105 rfl kS_L_pay jw_609 ⟨by decide, by decide⟩ rfl (Nat.le_refl _) (Nat.le_refl _) (ct_L_pay E hs (by omega) (by omega) w3.1) ?_
      exact j_return dL_lost_108 rfl (by rw [zLo, if_pos hl, if_neg (by omega)])
    · exact j_return dL_lost_47 rfl (by rw [zLo, if_pos hl, if_pos (by omega)])
  · exact j_return dL_lost_21 rfl (by rw [zLo, if_neg (fun q => by have := (zLs_p (by omega)).mp q; omega)])
def lPuF (k : Int) : Nat → Int → Z → Z
  | 0, _, z => z
  | d + 1, e, z => lPuF k d (e + 1) (if (lL k e && zWk z (cr e)) = true then zLo (zPd z (cr e)) (cr e) else z)
theorem lPu_t {k : Int} {d : Nat} {c : Int} {z : Z} (h1 : lL k c = true) (h2 : zWk z (cr c) = true) : lPuF k d (c + 1) (zLo (zPd z (cr c)) (cr c)) = lPuF k (d + 1) c z := by rw [lPuF, if_pos (by rw [h1, h2]; rfl)]
theorem lPu_f1 {k : Int} {d : Nat} {c : Int} {z : Z} (h1 : lL k c = false) : lPuF k d (c + 1) z = lPuF k (d + 1) c z := by rw [lPuF, if_neg (by rw [h1]; simp)]
theorem lPu_f2 {k : Int} {d : Nat} {c : Int} {z : Z} (h2 : zWk z (cr c) = false) : lPuF k d (c + 1) z = lPuF k (d + 1) c z := by rw [lPuF, if_neg (by rw [h2]; simp)]
/-- a bit that is not 1 isn't weak -/
theorem zWk_0 {z : Z} {c : Int} (h : z (59 + 9 * c) = 0) : zWk z c = false := by
  unfold zWk
  rw [Int.add_zero, h]
  exact decide_eq_false (fun q => absurd q.1 (by decide))
theorem LX_b0 {z : Z} (h : LX z) {e : Int} (h1 : 0 ≤ e) (h2 : e < 64) (hp : ¬ pl e) : z (59 + 9 * e) = 0 := ((h.2.2 e h1 h2).2.1 hp).1
theorem zPuF_it {k : Int} : ∀ (d : Nat) (c : Int) (z : Z), zPuF k d c z = itF (fun e z => if (zLin k e && zWk z e) = true then zLo (zPd z e) e else z) d c z := by
  intro d
  induction d with
  | zero => intro c z; rfl
  | succ d ih => intro c z; rw [zPuF, itF, ih]
theorem lPuF_it {k : Int} : ∀ (d : Nat) (c : Int) (z : Z), lPuF k d c z = itF (fun e z => if (lL k e && zWk z (cr e)) = true then zLo (zPd z (cr e)) (cr e) else z) d c z := by
  intro d
  induction d with
  | zero => intro c z; rfl
  | succ d ih => intro c z; rw [lPuF, itF, ih]
theorem lPuF_e {k : Int} (hk : 0 ≤ k ∧ k < 16) {z : Z} (h : LX z) : lPuF k 16 0 z = zPuF (cr k) 64 0 z := by
  rw [zPuF_it, lPuF_it, it16 LX (fun c y a b w => ?_) (fun c y a b np w => ?_) h]
  · refine itF_cg 16 0 z (fun e y a b => ?_)
    show _ = if (zLin (cr k) (cr e) && zWk y (cr e)) = true then _ else _
    rw [lL_e hk ⟨a, by omega⟩]
  · show LX (if (zLin (cr k) c && zWk y c) = true then zLo (zPd y c) c else y)
    split
    · exact LX_lo ⟨a, b⟩ (LX_pd ⟨a, b⟩ w)
    · exact w
  · show (if (zLin (cr k) c && zWk y c) = true then zLo (zPd y c) c else y) = y
    rw [if_neg (by rw [zWk_0 (LX_b0 w a b np)]; simp)]
theorem LX_lPuF {k : Int} : ∀ (d : Nat) (e : Int) (z : Z), e + d = 16 → 0 ≤ e → LX z → LX (lPuF k d e z) := by
  intro d
  induction d with
  | zero => intro e z _ _ h; exact h
  | succ d ih =>
    intro e z h1 h2 h
    have hc := cr_b (k := e) ⟨h2, by omega⟩
    rw [lPuF]
    refine ih _ _ (by omega) (by omega) ?_
    split
    · exact LX_lo hc (LX_pd hc h)
    · exact h
theorem lp_L_pulse {G : GX} {sh : List SH} {p : Bool} (E : EW G sh) (hs : LA sh p) {m : Mem} {F : FinT} {k b : Int} (h1 : 0 ≤ k ∧ k < 16) : ∀ (d : Nat) (e : Int) (z : Z), e + d = 16 → 0 ≤ e → LX z → (∀ (x : Z), x = lPuF k d e z → J G sh iL_pulse 0 0 F 120 [some (.inl k), some (.inl b), some (.inr (.ref (ix p 0))), some (.inr (.ref (ix p 1))), some (.inr (.ref (ix p 2))), some (.inr (.ref (ix p 3))), some (.inr (.ref (ix p 4))), some (.inr (.ref (ix p 5))), some (.inr (.ref (ix p 7))), some (.inr (.ref (ix p 6))), none] [] (lz m p x) 0 0) → J G sh iL_pulse 0 0 F 40 [some (.inl k), some (.inl b), some (.inr (.ref (ix p 0))), some (.inr (.ref (ix p 1))), some (.inr (.ref (ix p 2))), some (.inr (.ref (ix p 3))), some (.inr (.ref (ix p 4))), some (.inr (.ref (ix p 5))), some (.inr (.ref (ix p 7))), some (.inr (.ref (ix p 6))), some (.inl e)] [] (lz m p z) 0 0 := by
  intro d
  induction d with
  | zero =>
    intro e z g0 g1 g2 kk
    refine j_iload10 (q := 42) dL_pulse_40 rfl ?_
    refine j_bipush (q := 44) dL_pulse_42 rfl rfl ?_
    refine j_icmp_ge (tgt := 120) (q := 47) dL_pulse_44 (by decide) rfl (by first | exact wr_id' (by omega) (by omega) | with_reducible exact wr_bI _ | exact rfl) (by first | exact wr_id' (by omega) (by omega) | with_reducible exact wr_bI _ | exact rfl) (fun h44 => ?_) (fun h44 => ?_)
    · refine j_fgt10 ?_
      exact kk _ rfl
    · omega
  | succ d ih =>
    intro e z g0 g1 g2 kk
    refine j_iload10 (q := 42) dL_pulse_40 rfl ?_
    refine j_bipush (q := 44) dL_pulse_42 rfl rfl ?_
    refine j_icmp_ge (tgt := 120) (q := 47) dL_pulse_44 (by decide) rfl (by first | exact wr_id' (by omega) (by omega) | with_reducible exact wr_bI _ | exact rfl) (by first | exact wr_id' (by omega) (by omega) | with_reducible exact wr_bI _ | exact rfl) (fun h44 => ?_) (fun h44 => ?_)
    · omega
    · refine j_iload0 (q := 48) dL_pulse_47 rfl ?_
      refine j_iload10 (q := 50) dL_pulse_48 rfl ?_
      refine j_callS2 (Mc := iL_line) (q := 53) (c' := 0) (s' := 0) dL_pulse_50 rfl kS_L_line jw_512 ⟨by decide, by decide⟩ rfl (Nat.le_refl _) (Nat.le_refl _) (ct_L_line E hs (by omega) (by omega)) ?_
      refine j_ifeq_b (tgt := 114) (q := 56) dL_pulse_53 (by decide) rfl (fun h53 => ?_) (fun h53 => ?_)
      · refine j_iinc10 (q := 117) dL_pulse_114 rfl rfl (by decide) ?_
        refine j_goto (tgt := 40) dL_pulse_117 (by decide) ?_
        exact ih _ _ (by omega) (by omega) (by first | assumption | exact LX_lo hc (LX_pd hc g2)) (fun x hx => kk x (hx.trans (by first | exact lPu_t (by assumption) (by unfold zWk; exact decide_eq_true ⟨by omega, by omega⟩) | exact lPu_f1 (by assumption) | exact lPu_f2 (by unfold zWk; exact decide_eq_false (fun q => by omega)))))
      · have hc := cr_b (k := e) ⟨by omega, by omega⟩
        have hb := (g2.2.2 (cr e) hc.1 hc.2).1
        rw [← Int.add_zero (59 + 9 * cr e)] at hb
        have hb0 : wr (z (59 + 9 * cr e + 0)) = z (59 + 9 * cr e + 0) := wr_id' (by omega) (by omega)
        refine j_aload2 (q := 57) dL_pulse_56 rfl ?_
        refine j_iconst (q := 58) dL_pulse_57 rfl ?_
        refine j_iload10 (q := 60) dL_pulse_58 rfl ?_
        refine j_imul (q := 61) dL_pulse_60 rfl ?_
        refine j_l0_0 (q := 62) dL_pulse_61 rfl hs (by omega) ?_
        refine j_if_eq (tgt := 114) (q := 65) dL_pulse_62 (by decide) rfl rfl (fun h62 => ?_) (fun h62 => ?_)
        · refine j_iinc10 (q := 117) dL_pulse_114 rfl rfl (by decide) ?_
          refine j_goto (tgt := 40) dL_pulse_117 (by decide) ?_
          exact ih _ _ (by omega) (by omega) (by first | assumption | exact LX_lo hc (LX_pd hc g2)) (fun x hx => kk x (hx.trans (by first | exact lPu_t (by assumption) (by unfold zWk; exact decide_eq_true ⟨by omega, by omega⟩) | exact lPu_f1 (by assumption) | exact lPu_f2 (by unfold zWk; exact decide_eq_false (fun q => by omega)))))
        · refine j_aload2 (q := 66) dL_pulse_65 rfl ?_
          refine j_iconst (q := 67) dL_pulse_66 rfl ?_
          refine j_iload10 (q := 69) dL_pulse_67 rfl ?_
          refine j_imul (q := 70) dL_pulse_69 rfl ?_
          refine j_iconst (q := 71) dL_pulse_70 rfl ?_
          refine j_iadd (q := 72) dL_pulse_71 rfl ?_
          refine j_l0_1 (q := 73) dL_pulse_72 rfl hs (by omega) ?_
          refine j_aload8 (q := 75) dL_pulse_73 rfl ?_
          refine j_iconst (q := 76) dL_pulse_75 rfl ?_
          refine j_l7_0 (q := 77) dL_pulse_76 rfl hs (by omega) ?_
          refine j_icmp_lt (tgt := 83) (q := 80) dL_pulse_77 (by decide) rfl rfl rfl (fun h77 => ?_) (fun h77 => ?_)
          · refine j_aload2 (q := 84) dL_pulse_83 rfl ?_
            refine j_iconst (q := 85) dL_pulse_84 rfl ?_
            refine j_iload10 (q := 87) dL_pulse_85 rfl ?_
            refine j_imul (q := 88) dL_pulse_87 rfl ?_
            refine j_iconst (q := 89) dL_pulse_88 rfl ?_
            refine j_s0_0 (q := 90) dL_pulse_89 rfl hs (by omega) ?_
            refine j_aload9 (q := 92) dL_pulse_90 rfl ?_
            refine j_bipush (q := 94) dL_pulse_92 rfl rfl ?_
            refine j_dup2 (q := 95) dL_pulse_94 rfl rfl rfl ?_
            refine j_l6_0 (q := 96) dL_pulse_95 rfl hs (by omega) ?_
            refine j_iconst (q := 97) dL_pulse_96 rfl ?_
            refine j_iadd (q := 98) dL_pulse_97 rfl ?_
            refine j_s6_0 (q := 99) dL_pulse_98 rfl hs (by omega) ?_
            refine j_mem (m' := lz m p (zPd z (cr e))) rfl ?_
            have wp := LX_pd hc g2
            refine j_iload10 (q := 101) dL_pulse_99 rfl ?_
            refine j_aload2 (q := 102) dL_pulse_101 rfl ?_
            refine j_aload3 (q := 103) dL_pulse_102 rfl ?_
            refine j_aload4 (q := 105) dL_pulse_103 rfl ?_
            refine j_aload5 (q := 107) dL_pulse_105 rfl ?_
            refine j_aload6 (q := 109) dL_pulse_107 rfl ?_
            refine j_aload7 (q := 111) dL_pulse_109 rfl ?_
            refine j_callS7v (Mc := iL_lost) (q := 114) (c' := 0) (s' := 0) dL_pulse_111 rfl kS_L_lost jw_606 ⟨by decide, by decide⟩ rfl (Nat.le_refl _) (Nat.le_refl _) (ct_L_lost E hs (by omega) (by assumption)) ?_
            refine j_iinc10 (q := 117) dL_pulse_114 rfl rfl (by decide) ?_
            refine j_goto (tgt := 40) dL_pulse_117 (by decide) ?_
            exact ih _ _ (by omega) (by omega) (by first | assumption | exact LX_lo hc (LX_pd hc g2)) (fun x hx => kk x (hx.trans (by first | exact lPu_t (by assumption) (by unfold zWk; exact decide_eq_true ⟨by omega, by omega⟩) | exact lPu_f1 (by assumption) | exact lPu_f2 (by unfold zWk; exact decide_eq_false (fun q => by omega)))))
          · refine j_goto (tgt := 114) dL_pulse_80 (by decide) ?_
            refine j_iinc10 (q := 117) dL_pulse_114 rfl rfl (by decide) ?_
            refine j_goto (tgt := 40) dL_pulse_117 (by decide) ?_
            exact ih _ _ (by omega) (by omega) (by first | assumption | exact LX_lo hc (LX_pd hc g2)) (fun x hx => kk x (hx.trans (by first | exact lPu_t (by assumption) (by unfold zWk; exact decide_eq_true ⟨by omega, by omega⟩) | exact lPu_f1 (by assumption) | exact lPu_f2 (by unfold zWk; exact decide_eq_false (fun q => by omega)))))

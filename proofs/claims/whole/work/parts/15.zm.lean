/-! the model: its changes -/
def zSh1 (q : Int) : Nat → Int → Z → Z
  | 0, _, z => z
  | d + 1, k, z => zSh1 q d (k + 1) (u1 z (q + k) (z (q + k + 1)))
def zPa (z : Z) (i : Int) : Z :=
  let t := z (635 + 520 * i)
  let z1 := u1 z (41 + 6 * i + 0) (z (41 + 6 * i + 0) - z (41 + 6 * i + 2))
  let z2 := u1 z1 (41 + 6 * i + 3) (z1 (41 + 6 * i + 3) + 1)
  let z3 := u1 z2 (41 + 6 * i + 5) (z2 (41 + 6 * i + 5) - 1)
  let z4 := u1 z3 (23 + 3 * t) (z3 (23 + 3 * t) + z3 (41 + 6 * i + 2))
  u1 z4 (23 + 3 * t + 2) (z4 (23 + 3 * t + 2) + z4 (41 + 6 * i + 2))
def zPayF (i : Int) : Nat → Z → Z
  | 0, z => z
  | d + 1, z => if wr (z (41 + 6 * i + 2)) ≤ wr (z (41 + 6 * i + 0)) then zPayF i d (zSh1 (635 + 520 * i) d 0 (zPa z i)) else z
def zPay (z : Z) (i : Int) : Z := zPayF i (z (41 + 6 * i + 5)).toNat z
def QE (z : Z) : Prop := ∀ j, 635 ≤ j → j < 2195 → 0 ≤ z j ∧ z j < 6
theorem u1_e {z : Z} {i v j : Int} : u1 z i v j = if j = i then v else z j := rfl
theorem zSh1_at (q : Int) : ∀ (d : Nat) (k : Int) (z : Z) (j : Int), zSh1 q d k z j = if q + k ≤ j ∧ j < q + k + d then z (j + 1) else z j := by
  intro d
  induction d with
  | zero => intro k z j; rw [zSh1, if_neg (by omega)]
  | succ d ih =>
    intro k z j
    rw [zSh1, ih]
    by_cases h1 : q + (k + 1) ≤ j ∧ j < q + (k + 1) + d
    · rw [if_pos h1, if_pos (by omega), u1_ne (by omega)]
    · rw [if_neg h1]
      by_cases h2 : j = q + k
      · subst h2; rw [u1_at, if_pos (by omega)]
      · rw [u1_ne h2, if_neg (by omega)]
theorem zPa_i {z : Z} {i j : Int} (hi : 0 ≤ i ∧ i < 3) (ht : 0 ≤ z (635 + 520 * i) ∧ z (635 + 520 * i) < 6) (hj : 41 + 6 * i ≤ j ∧ j < 41 + 6 * i + 6) : zPa z i j = if j = 41 + 6 * i then z j - z (41 + 6 * i + 2) else if j = 41 + 6 * i + 3 then z j + 1 else if j = 41 + 6 * i + 5 then z j - 1 else z j := by
  simp only [zPa, u1_e]
  repeat' split
  all_goals first | omega | rfl | (subst_vars; simp)
theorem zPa_o {z : Z} {i j : Int} (hi : 0 ≤ i ∧ i < 3) (ht : 0 ≤ z (635 + 520 * i) ∧ z (635 + 520 * i) < 6) (hj : ¬ (41 + 6 * i ≤ j ∧ j < 41 + 6 * i + 6)) (hk : j < 23 ∨ 41 ≤ j) : zPa z i j = z j := by
  simp only [zPa]
  rw [u1_ne (by omega), u1_ne (by omega), u1_ne (by omega), u1_ne (by omega), u1_ne (by omega)]
theorem zPa_q {z : Z} {i : Int} (hi : 0 ≤ i ∧ i < 3) (ht : 0 ≤ z (635 + 520 * i) ∧ z (635 + 520 * i) < 6) (h : QE z) : QE (zPa z i) := fun j h1 h2 => by
  rw [zPa_o hi ht (by omega) (by omega)]; exact h j h1 h2
theorem zSh1_q {z : Z} {i : Int} {d : Nat} (hi : 0 ≤ i ∧ i < 3) (hd : d < 520) (h : QE z) : QE (zSh1 (635 + 520 * i) d 0 z) := fun j h1 h2 => by
  rw [zSh1_at]; split
  · exact h _ (by omega) (by omega)
  · exact h _ (by omega) (by omega)
theorem lp_X8_pay_sh {G : GX} (E : EV G) {m : Mem} {F : FinT} {i : Int} (h1 : 0 ≤ i ∧ i < 3) : ∀ (d : Nat) (k : Int) (z : Z), z (41 + 6 * i + 5) = k + d → 0 ≤ k → k + d < 513 → (∀ (x : Z), x = zSh1 (635 + 520 * i) d k z → J G SHP iX8_pay 0 0 F 18 [some (.inr (.ref 197)), some (.inl i), some (.inl (41 + 6 * i)), some (.inl (635 + 520 * i)), none, none] [] (sz m x) 0 0) → J G SHP iX8_pay 0 0 F 150 [some (.inr (.ref 197)), some (.inl i), some (.inl (41 + 6 * i)), some (.inl (635 + 520 * i)), none, some (.inl k)] [] (sz m z) 0 0 := by
  intro d
  induction d with
  | zero =>
    intro k z g0 g1 g2 kk
    refine j_iload5 (q := 152) dX8_pay_150 rfl ?_
    refine j_aload0 (q := 153) dX8_pay_152 rfl ?_
    refine j_getR 0 (q := 156) dX8_pay_153 rfl fl_X8_7 sh_197 rfl ?_
    refine j_iload2 (q := 157) dX8_pay_156 rfl ?_
    refine j_iconst (q := 158) dX8_pay_157 rfl ?_
    refine j_iadd (q := 159) dX8_pay_158 rfl ?_
    refine j_zload (q := 160) dX8_pay_159 rfl (by first | exact wr_id' (by omega) (by omega) | with_reducible exact wr_bI _ | exact rfl) (by omega) (by omega) ?_
    refine j_icmp_ge (tgt := 189) (q := 163) dX8_pay_160 (by decide) rfl (by first | exact wr_id' (by omega) (by omega) | with_reducible exact wr_bI _ | exact rfl) (by first | exact wr_id' (by omega) (by omega) | with_reducible exact wr_bI _ | exact rfl) (fun h160 => ?_) (fun h160 => ?_)
    · refine j_goto (tgt := 18) dX8_pay_189 (by decide) ?_
      refine j_fgt5 ?_
      exact kk _ rfl
    · omega
  | succ d ih =>
    intro k z g0 g1 g2 kk
    refine j_iload5 (q := 152) dX8_pay_150 rfl ?_
    refine j_aload0 (q := 153) dX8_pay_152 rfl ?_
    refine j_getR 0 (q := 156) dX8_pay_153 rfl fl_X8_7 sh_197 rfl ?_
    refine j_iload2 (q := 157) dX8_pay_156 rfl ?_
    refine j_iconst (q := 158) dX8_pay_157 rfl ?_
    refine j_iadd (q := 159) dX8_pay_158 rfl ?_
    refine j_zload (q := 160) dX8_pay_159 rfl (by first | exact wr_id' (by omega) (by omega) | with_reducible exact wr_bI _ | exact rfl) (by omega) (by omega) ?_
    refine j_icmp_ge (tgt := 189) (q := 163) dX8_pay_160 (by decide) rfl (by first | exact wr_id' (by omega) (by omega) | with_reducible exact wr_bI _ | exact rfl) (by first | exact wr_id' (by omega) (by omega) | with_reducible exact wr_bI _ | exact rfl) (fun h160 => ?_) (fun h160 => ?_)
    · omega
    · refine j_aload0 (q := 164) dX8_pay_163 rfl ?_
      refine j_getR 0 (q := 167) dX8_pay_164 rfl fl_X8_7 sh_197 rfl ?_
      refine j_iload3 (q := 168) dX8_pay_167 rfl ?_
      refine j_iload5 (q := 170) dX8_pay_168 rfl ?_
      refine j_iadd (q := 171) dX8_pay_170 rfl ?_
      refine j_aload0 (q := 172) dX8_pay_171 rfl ?_
      refine j_getR 0 (q := 175) dX8_pay_172 rfl fl_X8_7 sh_197 rfl ?_
      refine j_iload3 (q := 176) dX8_pay_175 rfl ?_
      refine j_iload5 (q := 178) dX8_pay_176 rfl ?_
      refine j_iadd (q := 179) dX8_pay_178 rfl ?_
      refine j_iconst (q := 180) dX8_pay_179 rfl ?_
      refine j_iadd (q := 181) dX8_pay_180 rfl ?_
      refine j_zload (q := 182) dX8_pay_181 rfl (by first | exact wr_id' (by omega) (by omega) | with_reducible exact wr_bI _ | exact rfl) (by omega) (by omega) ?_
      refine j_zstore (q := 183) dX8_pay_182 rfl (by first | exact wr_id' (by omega) (by omega) | with_reducible exact wr_bI _ | exact rfl) (by omega) (by omega) ?_
      refine j_iinc5 (q := 186) dX8_pay_183 rfl rfl (by decide) ?_
      refine j_goto (tgt := 150) dX8_pay_186 (by decide) ?_
      exact ih _ _ (by rw [u1_ne (by omega)]; omega) (by omega) (by omega) (fun x hx => kk x (hx.trans (rfl)))
theorem lp_X8_pay {G : GX} (E : EV G) {m : Mem} {i : Int} (h1 : 0 ≤ i ∧ i < 3) : ∀ (d : Nat) (z : Z), z (41 + 6 * i + 5) = d → (d : Int) < 513 → QE z → J G SHP iX8_pay 0 0 (FN G SHP 0 0 (none) (sz m (zPayF i d z))) 18 [some (.inr (.ref 197)), some (.inl i), some (.inl (41 + 6 * i)), some (.inl (635 + 520 * i)), none, none] [] (sz m z) 0 0 := by
  intro d
  induction d with
  | zero =>
    intro z g0 g1 g2
    have ht := g2 (635 + 520 * i) (by omega) (by omega)
    refine j_aload0 (q := 19) dX8_pay_18 rfl ?_
    refine j_getR 0 (q := 22) dX8_pay_19 rfl fl_X8_7 sh_197 rfl ?_
    refine j_iload2 (q := 23) dX8_pay_22 rfl ?_
    refine j_iconst (q := 24) dX8_pay_23 rfl ?_
    refine j_iadd (q := 25) dX8_pay_24 rfl ?_
    refine j_zload (q := 26) dX8_pay_25 rfl (by first | exact wr_id' (by omega) (by omega) | with_reducible exact wr_bI _ | exact rfl) (by omega) (by omega) ?_
    refine j_if_le (tgt := 192) (q := 29) dX8_pay_26 (by decide) rfl (by first | exact wr_id' (by omega) (by omega) | with_reducible exact wr_bI _ | exact rfl) (fun h26 => ?_) (fun h26 => ?_)
    · exact j_return dX8_pay_192 rfl (rfl)
    · omega
  | succ d ih =>
    intro z g0 g1 g2
    have ht := g2 (635 + 520 * i) (by omega) (by omega)
    refine j_aload0 (q := 19) dX8_pay_18 rfl ?_
    refine j_getR 0 (q := 22) dX8_pay_19 rfl fl_X8_7 sh_197 rfl ?_
    refine j_iload2 (q := 23) dX8_pay_22 rfl ?_
    refine j_iconst (q := 24) dX8_pay_23 rfl ?_
    refine j_iadd (q := 25) dX8_pay_24 rfl ?_
    refine j_zload (q := 26) dX8_pay_25 rfl (by first | exact wr_id' (by omega) (by omega) | with_reducible exact wr_bI _ | exact rfl) (by omega) (by omega) ?_
    refine j_if_le (tgt := 192) (q := 29) dX8_pay_26 (by decide) rfl (by first | exact wr_id' (by omega) (by omega) | with_reducible exact wr_bI _ | exact rfl) (fun h26 => ?_) (fun h26 => ?_)
    · omega
    · refine j_aload0 (q := 30) dX8_pay_29 rfl ?_
      refine j_getR 0 (q := 33) dX8_pay_30 rfl fl_X8_7 sh_197 rfl ?_
      refine j_iload2 (q := 34) dX8_pay_33 rfl ?_
      refine j_iconst (q := 35) dX8_pay_34 rfl ?_
      refine j_iadd (q := 36) dX8_pay_35 rfl ?_
      refine j_zload (q := 37) dX8_pay_36 rfl (by first | exact wr_id' (by omega) (by omega) | with_reducible exact wr_bI _ | exact rfl) (by omega) (by omega) ?_
      refine j_aload0 (q := 38) dX8_pay_37 rfl ?_
      refine j_getR 0 (q := 41) dX8_pay_38 rfl fl_X8_7 sh_197 rfl ?_
      refine j_iload2 (q := 42) dX8_pay_41 rfl ?_
      refine j_iconst (q := 43) dX8_pay_42 rfl ?_
      refine j_iadd (q := 44) dX8_pay_43 rfl ?_
      refine j_zload (q := 45) dX8_pay_44 rfl (by first | exact wr_id' (by omega) (by omega) | with_reducible exact wr_bI _ | exact rfl) (by omega) (by omega) ?_
      refine j_icmp_lt (tgt := 192) (q := 48) dX8_pay_45 (by decide) rfl rfl rfl (fun h45 => ?_) (fun h45 => ?_)
      · exact j_return dX8_pay_192 rfl (by rw [zPayF, if_neg (by omega)])
      · refine j_aload0 (q := 49) dX8_pay_48 rfl ?_
        refine j_getR 0 (q := 52) dX8_pay_49 rfl fl_X8_7 sh_197 rfl ?_
        refine j_iload3 (q := 53) dX8_pay_52 rfl ?_
        refine j_zload (q := 54) dX8_pay_53 rfl (by first | exact wr_id' (by omega) (by omega) | with_reducible exact wr_bI _ | exact rfl) (by omega) (by omega) ?_
        refine j_istore4 (q := 56) dX8_pay_54 rfl rfl (by decide) ?_
        refine j_aload0 (q := 57) dX8_pay_56 rfl ?_
        refine j_getR 0 (q := 60) dX8_pay_57 rfl fl_X8_7 sh_197 rfl ?_
        refine j_iload2 (q := 61) dX8_pay_60 rfl ?_
        refine j_iconst (q := 62) dX8_pay_61 rfl ?_
        refine j_iadd (q := 63) dX8_pay_62 rfl ?_
        refine j_dup2 (q := 64) dX8_pay_63 rfl rfl rfl ?_
        refine j_zload (q := 65) dX8_pay_64 rfl (by first | exact wr_id' (by omega) (by omega) | with_reducible exact wr_bI _ | exact rfl) (by omega) (by omega) ?_
        refine j_aload0 (q := 66) dX8_pay_65 rfl ?_
        refine j_getR 0 (q := 69) dX8_pay_66 rfl fl_X8_7 sh_197 rfl ?_
        refine j_iload2 (q := 70) dX8_pay_69 rfl ?_
        refine j_iconst (q := 71) dX8_pay_70 rfl ?_
        refine j_iadd (q := 72) dX8_pay_71 rfl ?_
        refine j_zload (q := 73) dX8_pay_72 rfl (by first | exact wr_id' (by omega) (by omega) | with_reducible exact wr_bI _ | exact rfl) (by omega) (by omega) ?_
        refine j_isub (q := 74) dX8_pay_73 rfl ?_
        refine j_zstore (q := 75) dX8_pay_74 rfl (by first | exact wr_id' (by omega) (by omega) | with_reducible exact wr_bI _ | exact rfl) (by omega) (by omega) ?_
        refine j_aload0 (q := 76) dX8_pay_75 rfl ?_
        refine j_getR 0 (q := 79) dX8_pay_76 rfl fl_X8_7 sh_197 rfl ?_
        refine j_iload2 (q := 80) dX8_pay_79 rfl ?_
        refine j_iconst (q := 81) dX8_pay_80 rfl ?_
        refine j_iadd (q := 82) dX8_pay_81 rfl ?_
        refine j_dup2 (q := 83) dX8_pay_82 rfl rfl rfl ?_
        refine j_zload (q := 84) dX8_pay_83 rfl (by first | exact wr_id' (by omega) (by omega) | with_reducible exact wr_bI _ | exact rfl) (by omega) (by omega) ?_
        refine j_iconst (q := 85) dX8_pay_84 rfl ?_
        refine j_iadd (q := 86) dX8_pay_85 rfl ?_
        refine j_zstore (q := 87) dX8_pay_86 rfl (by first | exact wr_id' (by omega) (by omega) | with_reducible exact wr_bI _ | exact rfl) (by omega) (by omega) ?_
        refine j_aload0 (q := 88) dX8_pay_87 rfl ?_
        refine j_getR 0 (q := 91) dX8_pay_88 rfl fl_X8_7 sh_197 rfl ?_
        refine j_iload2 (q := 92) dX8_pay_91 rfl ?_
        refine j_iconst (q := 93) dX8_pay_92 rfl ?_
        refine j_iadd (q := 94) dX8_pay_93 rfl ?_
        refine j_dup2 (q := 95) dX8_pay_94 rfl rfl rfl ?_
        refine j_zload (q := 96) dX8_pay_95 rfl (by first | exact wr_id' (by omega) (by omega) | with_reducible exact wr_bI _ | exact rfl) (by omega) (by omega) ?_
        refine j_iconst (q := 97) dX8_pay_96 rfl ?_
        refine j_isub (q := 98) dX8_pay_97 rfl ?_
        refine j_zstore (q := 99) dX8_pay_98 rfl (by first | exact wr_id' (by omega) (by omega) | with_reducible exact wr_bI _ | exact rfl) (by omega) (by omega) ?_
        refine j_aload0 (q := 100) dX8_pay_99 rfl ?_
        refine j_getR 0 (q := 103) dX8_pay_100 rfl fl_X8_7 sh_197 rfl ?_
        refine j_bipush (q := 105) dX8_pay_103 rfl rfl ?_
        refine j_iconst (q := 106) dX8_pay_105 rfl ?_
        refine j_iload4 (q := 108) dX8_pay_106 rfl ?_
        refine j_imul (q := 109) dX8_pay_108 rfl ?_
        refine j_iadd (q := 110) dX8_pay_109 rfl ?_
        refine j_dup2 (q := 111) dX8_pay_110 rfl rfl rfl ?_
        refine j_zload (q := 112) dX8_pay_111 rfl (by first | exact wr_id' (by omega) (by omega) | with_reducible exact wr_bI _ | exact rfl) (by omega) (by omega) ?_
        refine j_aload0 (q := 113) dX8_pay_112 rfl ?_
        refine j_getR 0 (q := 116) dX8_pay_113 rfl fl_X8_7 sh_197 rfl ?_
        refine j_iload2 (q := 117) dX8_pay_116 rfl ?_
        refine j_iconst (q := 118) dX8_pay_117 rfl ?_
        refine j_iadd (q := 119) dX8_pay_118 rfl ?_
        refine j_zload (q := 120) dX8_pay_119 rfl (by first | exact wr_id' (by omega) (by omega) | with_reducible exact wr_bI _ | exact rfl) (by omega) (by omega) ?_
        refine j_iadd (q := 121) dX8_pay_120 rfl ?_
        refine j_zstore (q := 122) dX8_pay_121 rfl (by first | exact wr_id' (by omega) (by omega) | with_reducible exact wr_bI _ | exact rfl) (by omega) (by omega) ?_
        refine j_aload0 (q := 123) dX8_pay_122 rfl ?_
        refine j_getR 0 (q := 126) dX8_pay_123 rfl fl_X8_7 sh_197 rfl ?_
        refine j_bipush (q := 128) dX8_pay_126 rfl rfl ?_
        refine j_iconst (q := 129) dX8_pay_128 rfl ?_
        refine j_iload4 (q := 131) dX8_pay_129 rfl ?_
        refine j_imul (q := 132) dX8_pay_131 rfl ?_
        refine j_iadd (q := 133) dX8_pay_132 rfl ?_
        refine j_iconst (q := 134) dX8_pay_133 rfl ?_
        refine j_iadd (q := 135) dX8_pay_134 rfl ?_
        refine j_dup2 (q := 136) dX8_pay_135 rfl rfl rfl ?_
        refine j_zload (q := 137) dX8_pay_136 rfl (by first | exact wr_id' (by omega) (by omega) | with_reducible exact wr_bI _ | exact rfl) (by omega) (by omega) ?_
        refine j_aload0 (q := 138) dX8_pay_137 rfl ?_
        refine j_getR 0 (q := 141) dX8_pay_138 rfl fl_X8_7 sh_197 rfl ?_
        refine j_iload2 (q := 142) dX8_pay_141 rfl ?_
        refine j_iconst (q := 143) dX8_pay_142 rfl ?_
        refine j_iadd (q := 144) dX8_pay_143 rfl ?_
        refine j_zload (q := 145) dX8_pay_144 rfl (by first | exact wr_id' (by omega) (by omega) | with_reducible exact wr_bI _ | exact rfl) (by omega) (by omega) ?_
        refine j_iadd (q := 146) dX8_pay_145 rfl ?_
        refine j_zstore (q := 147) dX8_pay_146 rfl (by first | exact wr_id' (by omega) (by omega) | with_reducible exact wr_bI _ | exact rfl) (by omega) (by omega) ?_
        refine j_iconst (q := 148) dX8_pay_147 rfl ?_
        refine j_istore5 (q := 150) dX8_pay_148 rfl rfl (by decide) ?_
        refine j_fgt4 ?_
        refine lp_X8_pay_sh E h1 d 0 _ (show zPa z i (41 + 6 * i + 5) = _ by rw [zPa_i h1 ht (by omega), if_neg (by omega), if_neg (by omega), if_pos rfl]; omega) (by omega) (by omega) ?_
        intro x hx
        replace hx : x = zSh1 (635 + 520 * i) d 0 (zPa z i) := hx
        exact j_fin (rfl) (by rw [zPayF, if_pos (by omega), hx]) (ih _ (by rw [hx, zSh1_at, if_neg (by omega), zPa_i h1 ht (by omega), if_neg (by omega), if_neg (by omega), if_pos rfl]; omega) (by omega) (by rw [hx]; exact zSh1_q h1 (by omega) (zPa_q h1 ht g2)))
theorem ct_X8_pay {G : GX} (E : EV G) {m : Mem} {z : Z} {i : Int} (h1 : 0 ≤ i ∧ i < 3) (h2 : 0 ≤ z (41 + 6 * i + 5) ∧ z (41 + 6 * i + 5) ≤ 512) (h3 : QE z) : CT G SHP iX8_pay 0 0 [.inr (.ref 197), .inl i] (sz m z) none (sz m (zPay z i)) := by
  refine j_met (L0 := [some (.inr (.ref 197)), some (.inl i), none, none, none, none]) (by decide) E.1 E.2 rfl (Nat.le_of_ble_eq_true rfl) ?_
  refine j_bipush (q := 2) dX8_pay_0 rfl rfl ?_
  refine j_bipush (q := 4) dX8_pay_2 rfl rfl ?_
  refine j_iload1 (q := 5) dX8_pay_4 rfl ?_
  refine j_imul (q := 6) dX8_pay_5 rfl ?_
  refine j_iadd (q := 7) dX8_pay_6 rfl ?_
  refine j_istore2 (q := 8) dX8_pay_7 rfl rfl (by decide) ?_
  refine j_sipush (q := 11) dX8_pay_8 rfl rfl ?_
  refine j_sipush (q := 14) dX8_pay_11 rfl rfl ?_
  refine j_iload1 (q := 15) dX8_pay_14 rfl ?_
  refine j_imul (q := 16) dX8_pay_15 rfl ?_
  refine j_iadd (q := 17) dX8_pay_16 rfl ?_
  refine j_istore3 (q := 18) dX8_pay_17 rfl rfl (by decide) ?_
  exact lp_X8_pay E h1 (z (41 + 6 * i + 5)).toNat z (by omega) (by omega) h3
theorem cnt_up {p p' : Int → Bool} {e : Int} (h : ∀ c, ¬ c = e → p' c = p c) : ∀ (d : Nat) (c n n' : Int), cntF p' d c n' - n' = cntF p d c n - n + if c ≤ e ∧ e < c + d then bI (p' e) - bI (p e) else 0 := by
  intro d
  induction d with
  | zero => intro c n n'; rw [if_neg (by omega)]; simp only [cntF]; omega
  | succ d ih =>
    intro c n n'
    have := ih (c + 1) (n + bI (p c)) (n' + bI (p' c))
    simp only [cntF]
    by_cases hc : c = e
    · subst hc; rw [if_neg (by omega)] at this; rw [if_pos (by omega)]; omega
    · rw [h c hc] at this ⊢
      by_cases h2 : c + 1 ≤ e ∧ e < c + 1 + d
      · rw [if_pos h2] at this; rw [if_pos (by omega)]; omega
      · rw [if_neg h2] at this; rw [if_neg (by omega)]; omega
theorem cnt_cg {p p' : Int → Bool} : ∀ (d : Nat) (c n : Int), (∀ e, c ≤ e → e < c + d → p' e = p e) → cntF p' d c n = cntF p d c n := by
  intro d
  induction d with
  | zero => intro c n h; rfl
  | succ d ih =>
    intro c n h
    simp only [cntF]
    rw [h c (by omega) (by omega), ih _ _ (fun e h1 h2 => h e (by omega) (by omega))]
def WI (z : Z) (K : Int) : Prop := (0 ≤ z 2 ∧ z 2 ≤ 6) ∧ (0 ≤ z 3 ∧ z 3 ≤ 3) ∧ QE z ∧ (∀ c, 0 ≤ c → c < 64 → (0 ≤ z (59 + 9 * c + 2) ∧ z (59 + 9 * c + 2) ≤ 6) ∧ 0 ≤ z (59 + 9 * c + 4) ∧ z (59 + 9 * c + 4) ≤ 3) ∧ (0 ≤ z 46 ∧ 0 ≤ z 52 ∧ 0 ≤ z 58) ∧ z 46 + z 52 + z 58 + zCW z 4 ≤ K ∧ K ≤ 512
theorem zCW_b (z : Z) (w : Int) : 0 ≤ zCW z w ∧ zCW z w ≤ 64 := by
  have h := cnt_b (fun c => decide (0 < wr (z (59 + 9 * c + w)))) 64 0 0
  unfold zCW; omega
theorem WI_wt {z : Z} {K i : Int} (h : WI z K) (hi : 0 ≤ i ∧ i < 3) : 0 ≤ z (41 + 6 * i + 5) ∧ z (41 + 6 * i + 5) ≤ 512 := by
  obtain ⟨_, _, _, _, a, b, c⟩ := h
  have := zCW_b z 4
  have e : i = 0 ∨ i = 1 ∨ i = 2 := by omega
  rcases e with rfl | rfl | rfl
  · simp; omega
  · simp; omega
  · simp; omega
def NW (j : Int) : Prop := ¬ j = 2 ∧ ¬ j = 3 ∧ j < 635 ∧ ¬ j = 46 ∧ ¬ j = 52 ∧ ¬ j = 58 ∧ (59 ≤ j → ¬ (j - 59) % 9 = 2 ∧ ¬ (j - 59) % 9 = 4)
theorem WI_cg {z z' : Z} {K : Int} (h : WI z K) (e2 : z' 2 = z 2) (e3 : z' 3 = z 3) (hq : QE z') (hc : ∀ c, 0 ≤ c → c < 64 → z' (59 + 9 * c + 2) = z (59 + 9 * c + 2) ∧ z' (59 + 9 * c + 4) = z (59 + 9 * c + 4)) (hw : 0 ≤ z' 46 ∧ z' 46 ≤ z 46 ∧ 0 ≤ z' 52 ∧ z' 52 ≤ z 52 ∧ 0 ≤ z' 58 ∧ z' 58 ≤ z 58) : WI z' K := by
  obtain ⟨a, b, c, d, e, f, g⟩ := h
  refine ⟨by omega, by omega, hq, fun c h1 h2 => ?_, by omega, ?_, g⟩
  · rw [(hc c h1 h2).1, (hc c h1 h2).2]; exact d c h1 h2
  · have : zCW z' 4 = zCW z 4 := cnt_cg 64 0 0 (fun e h1 h2 => by rw [(hc e (by omega) (by omega)).2])
    omega
theorem WI_u1 {z : Z} {K j v : Int} (hj : NW j) (h : WI z K) : WI (u1 z j v) K := by
  unfold NW at hj
  have hw := h.2.2.2.2.1
  refine WI_cg h (u1_ne (by omega)) (u1_ne (by omega)) (fun k h1 h2 => by rw [u1_ne (by omega)]; exact h.2.2.1 k h1 h2) (fun c h1 h2 => ⟨u1_ne (by omega), u1_ne (by omega)⟩) ?_
  rw [u1_ne (by omega), u1_ne (by omega), u1_ne (by omega)]; omega
theorem zPayF_fr {i : Int} (hi : 0 ≤ i ∧ i < 3) : ∀ (d : Nat) (z : Z), z (41 + 6 * i + 5) = d → (d : Int) < 513 → QE z →
    (∀ j, (j < 23 ∨ 41 ≤ j) → ¬ (41 + 6 * i ≤ j ∧ j < 41 + 6 * i + 6) → j < 635 → zPayF i d z j = z j) ∧ 0 ≤ zPayF i d z (41 + 6 * i + 5) ∧ zPayF i d z (41 + 6 * i + 5) ≤ d ∧ QE (zPayF i d z) := by
  intro d
  induction d with
  | zero => intro z h1 h2 h3; exact ⟨fun j _ _ _ => rfl, by simp only [zPayF]; omega, by simp only [zPayF]; omega, h3⟩
  | succ d ih =>
    intro z h1 h2 h3
    have ht := h3 (635 + 520 * i) (by omega) (by omega)
    rw [zPayF]
    split
    · have q5 : zSh1 (635 + 520 * i) d 0 (zPa z i) (41 + 6 * i + 5) = d := by
        rw [zSh1_at, if_neg (by omega), zPa_i hi ht (by omega), if_neg (by omega), if_neg (by omega), if_pos rfl]; omega
      obtain ⟨a, b, c, e⟩ := ih _ q5 (by omega) (zSh1_q hi (by omega) (zPa_q hi ht h3))
      refine ⟨fun j h4 h5 h6 => ?_, b, by omega, e⟩
      rw [a j h4 h5 h6, zSh1_at, if_neg (by omega), zPa_o hi ht h5 h4]
    · exact ⟨fun j _ _ _ => rfl, by omega, by omega, h3⟩
theorem zPay_fr {z : Z} {i : Int} (hi : 0 ≤ i ∧ i < 3) (hw : 0 ≤ z (41 + 6 * i + 5) ∧ z (41 + 6 * i + 5) ≤ 512) (hq : QE z) :
    (∀ j, (j < 23 ∨ 41 ≤ j) → ¬ (41 + 6 * i ≤ j ∧ j < 41 + 6 * i + 6) → j < 635 → zPay z i j = z j) ∧ 0 ≤ zPay z i (41 + 6 * i + 5) ∧ zPay z i (41 + 6 * i + 5) ≤ z (41 + 6 * i + 5) ∧ QE (zPay z i) := by
  have h := zPayF_fr hi (z (41 + 6 * i + 5)).toNat z (by omega) (by omega) hq
  obtain ⟨a, b, c, d⟩ := h
  exact ⟨a, b, by unfold zPay; omega, d⟩
theorem WI_pay {z : Z} {K i : Int} (hi : 0 ≤ i ∧ i < 3) (h : WI z K) : WI (zPay z i) K := by
  obtain ⟨a, b, c, d⟩ := zPay_fr hi (WI_wt h hi) h.2.2.1
  have hw := h.2.2.2.2.1
  refine WI_cg h (a _ (by omega) (by omega) (by omega)) (a _ (by omega) (by omega) (by omega)) d (fun c h1 h2 => ⟨a _ (by omega) (by omega) (by omega), a _ (by omega) (by omega) (by omega)⟩) ?_
  have e : i = 0 ∨ i = 1 ∨ i = 2 := by omega
  rcases e with rfl | rfl | rfl
  · rw [a 52 (by omega) (by omega) (by omega), a 58 (by omega) (by omega) (by omega)]; simp at b c; omega
  · rw [a 46 (by omega) (by omega) (by omega), a 58 (by omega) (by omega) (by omega)]; simp at b c; omega
  · rw [a 46 (by omega) (by omega) (by omega), a 52 (by omega) (by omega) (by omega)]; simp at b c; omega
def zL1 (z : Z) (c : Int) : Z := u1 z (59 + 9 * c + 8) (z (59 + 9 * c + 8) + 1)
def zL2 (z : Z) (c : Int) : Z := u1 z (23 + 3 * (z (59 + 9 * c + 2) - 1) + 1) (z (23 + 3 * (z (59 + 9 * c + 2) - 1) + 1) + 1)
def zL3 (z : Z) (c i t : Int) : Z :=
  let z4 := u1 (u1 z (59 + 9 * c + 4) 0) (59 + 9 * c + 5) 0
  let z5 := u1 z4 (635 + 520 * i + z4 (41 + 6 * i + 5)) t
  u1 z5 (41 + 6 * i + 5) (z5 (41 + 6 * i + 5) + 1)
def zLo (z : Z) (c : Int) : Z :=
  if zLs (zL1 z c) c = true then
    if zL2 (zL1 z c) c (59 + 9 * c + 4) - 1 = -1 then zL2 (zL1 z c) c
    else zPay (zL3 (zL2 (zL1 z c) c) c (zL2 (zL1 z c) c (59 + 9 * c + 4) - 1) (zL1 z c (59 + 9 * c + 2) - 1)) (zL2 (zL1 z c) c (59 + 9 * c + 4) - 1)
  else zL1 z c
theorem zLs_p {z : Z} {c : Int} (h0 : 0 ≤ z (59 + 9 * c + 2) ∧ z (59 + 9 * c + 2) ≤ 6) : zLs z c = true ↔ 0 < z (59 + 9 * c + 2) := by
  unfold zLs; rw [wr_id' (by omega) (by omega)]; simp
theorem WI_1 {z : Z} {K c : Int} (hc : 0 ≤ c ∧ c < 64) (h : WI z K) : WI (zL1 z c) K := WI_u1 (by unfold NW; omega) h
theorem WI_2 {z : Z} {K c : Int} (hc : 0 ≤ c ∧ c < 64) (hl : 0 < z (59 + 9 * c + 2)) (h : WI z K) : WI (zL2 z c) K := by
  have hw := h.2.2.2.1 c hc.1 hc.2
  exact WI_u1 (by unfold NW; omega) h
theorem WI_3 {z : Z} {K c i t : Int} (hc : 0 ≤ c ∧ c < 64) (hi : i = z (59 + 9 * c + 4) - 1) (hi0 : 0 ≤ i ∧ i < 3) (ht : 0 ≤ t ∧ t < 6) (h : WI z K) : WI (zL3 z c i t) K := by
  have hwt := WI_wt h hi0
  obtain ⟨a, b, q, d, e, f, g⟩ := h
  have hp := cnt_up (p := fun c => decide (0 < wr (z (59 + 9 * c + 4)))) (p' := fun e => decide (0 < wr (u1 z (59 + 9 * c + 4) 0 (59 + 9 * e + 4)))) (e := c) (fun e he => by rw [u1_ne (by omega)]) 64 0 0 0
  rw [if_pos (by omega)] at hp
  have hp1 : bI (decide (0 < wr (u1 z (59 + 9 * c + 4) 0 (59 + 9 * c + 4)))) = 0 := by rw [u1_at]; rfl
  have hp2 : bI (decide (0 < wr (z (59 + 9 * c + 4)))) = 1 := by rw [wr_id' (by omega) (by omega), ← bI_t (by omega)]
  have e4 : u1 (u1 z (59 + 9 * c + 4) 0) (59 + 9 * c + 5) 0 (41 + 6 * i + 5) = z (41 + 6 * i + 5) := by rw [u1_ne (by omega), u1_ne (by omega)]
  have hcw : zCW (zL3 z c i t) 4 = cntF (fun e => decide (0 < wr (u1 z (59 + 9 * c + 4) 0 (59 + 9 * e + 4)))) 64 0 0 := cnt_cg 64 0 0 (fun e h1 h2 => by
    have hz : zL3 z c i t (59 + 9 * e + 4) = u1 z (59 + 9 * c + 4) 0 (59 + 9 * e + 4) := by simp only [zL3]; rw [e4, u1_ne (by omega), u1_ne (by omega), u1_ne (z := u1 z (59 + 9 * c + 4) 0) (by omega)]
    show decide (0 < wr (zL3 z c i t (59 + 9 * e + 4))) = decide (0 < wr (u1 z (59 + 9 * c + 4) 0 (59 + 9 * e + 4)))
    rw [hz])
  refine ⟨?_, ?_, ?_, ?_, ?_, ?_, g⟩
  · simp only [zL3]; rw [e4, u1_ne (by omega), u1_ne (by omega), u1_ne (by omega), u1_ne (by omega)]; exact a
  · simp only [zL3]; rw [e4, u1_ne (by omega), u1_ne (by omega), u1_ne (by omega), u1_ne (by omega)]; exact b
  · intro j h1 h2
    simp only [zL3]; rw [e4, u1_ne (by omega), u1_e]
    split
    · exact ht
    · rw [u1_ne (by omega), u1_ne (by omega)]; exact q j h1 h2
  · intro j h1 h2
    simp only [zL3]; rw [e4, u1_ne (by omega), u1_ne (by omega), u1_ne (by omega), u1_ne (by omega), u1_ne (by omega), u1_ne (by omega), u1_ne (by omega), u1_e]
    have := d j h1 h2
    split <;> omega
  · simp only [zL3]; rw [e4]; simp only [u1_e]; omega
  · have g : ∀ j, j = 46 ∨ j = 52 ∨ j = 58 → zL3 z c i t j = if j = 41 + 6 * i + 5 then z j + 1 else z j := fun j hj => by
      simp only [zL3]; rw [e4]
      by_cases q : j = 41 + 6 * i + 5
      · rw [if_pos q, q, u1_at, u1_ne (by omega), e4]
      · rw [if_neg q, u1_ne q, u1_ne (by omega), u1_ne (by omega), u1_ne (by omega)]
    have w : zL3 z c i t 46 + zL3 z c i t 52 + zL3 z c i t 58 = z 46 + z 52 + z 58 + 1 := by
      rw [g 46 (by omega), g 52 (by omega), g 58 (by omega)]
      have e : i = 0 ∨ i = 1 ∨ i = 2 := by omega
      rcases e with r | r | r
      · rw [if_pos (by omega), if_neg (by omega), if_neg (by omega)]; omega
      · rw [if_neg (by omega), if_pos (by omega), if_neg (by omega)]; omega
      · rw [if_neg (by omega), if_neg (by omega), if_pos (by omega)]; omega
    rw [hcw]
    unfold zCW at f
    rw [hp1, hp2] at hp
    omega
theorem WI_lo {z : Z} {K c : Int} (hc : 0 ≤ c ∧ c < 64) (h : WI z K) : WI (zLo z c) K := by
  have w1 := WI_1 hc h
  have r1 := w1.2.2.2.1 c hc.1 hc.2
  unfold zLo
  split
  · rename_i hl
    have hl := (zLs_p r1.1).mp hl
    have w2 := WI_2 hc hl w1
    have r2 := w2.2.2.2.1 c hc.1 hc.2
    split
    · exact w2
    · exact WI_pay ⟨by omega, by omega⟩ (WI_3 hc rfl ⟨by omega, by omega⟩ ⟨by omega, by omega⟩ w2)
  · exact w1
theorem ct_X8_loses {G : GX} (E : EV G) {m : Mem} {z : Z} {K : Int} {c : Int} (h1 : 0 ≤ c ∧ c < 64) (hW : WI z K) : CT G SHP iX8_loses 0 0 [.inr (.ref 197), .inl c] (sz m z) none (sz m (zLo z c)) := by
  refine j_met (L0 := [some (.inr (.ref 197)), some (.inl c), none, none, none]) (by decide) E.1 E.2 rfl (Nat.le_of_ble_eq_true rfl) ?_
  refine j_aload0 (q := 1) dX8_loses_0 rfl ?_
  refine j_iload1 (q := 2) dX8_loses_1 rfl ?_
  refine j_bipush (q := 4) dX8_loses_2 rfl rfl ?_
  refine j_aload0 (q := 5) dX8_loses_4 rfl ?_
  refine j_iload1 (q := 6) dX8_loses_5 rfl ?_
  refine j_bipush (q := 8) dX8_loses_6 rfl rfl ?_
  refine j_callV2 (Mc := iX8_of) (q := 11) (c' := 0) (s' := 0) dX8_loses_8 rfl kV_X8_of jw_1079 ⟨by decide, by decide⟩ sh_197 rfl rfl rfl (Nat.le_refl _) (Nat.le_refl _) (ct_X8_of E (by omega) (by omega)) ?_
  refine j_iconst (q := 12) dX8_loses_11 rfl ?_
  refine j_iadd (q := 13) dX8_loses_12 rfl ?_
  refine j_callV3v (Mc := iX8_lay) (q := 16) (c' := 0) (s' := 0) dX8_loses_13 rfl kV_X8_lay jw_980 ⟨by decide, by decide⟩ sh_197 rfl rfl rfl (Nat.le_refl _) (Nat.le_refl _) (ct_X8_lay E (by omega) (by omega)) ?_
  refine j_mem (m' := sz m (zL1 z c)) rfl ?_
  have w1 := WI_1 h1 hW
  have r1 := w1.2.2.2.1 c h1.1 h1.2
  refine j_aload0 (q := 17) dX8_loses_16 rfl ?_
  refine j_iload1 (q := 18) dX8_loses_17 rfl ?_
  refine j_callV1 (Mc := iX8_isLeased) (q := 21) (c' := 0) (s' := 0) dX8_loses_18 rfl kV_X8_isLeased jw_1075 ⟨by decide, by decide⟩ sh_197 rfl rfl rfl (Nat.le_refl _) (Nat.le_refl _) (ct_X8_isLeased E (by omega)) ?_
  refine j_ifne_b (tgt := 25) (q := 24) dX8_loses_21 (by decide) rfl (fun h21 => ?_) (fun h21 => ?_)
  · have hl : zLs (zL1 z c) c = true := by cases hb : zLs (zL1 z c) c with | true => rfl | false => exact absurd hb (by simpa using h21)
    have hl2 := (zLs_p r1.1).mp hl
    refine j_aload0 (q := 26) dX8_loses_25 rfl ?_
    refine j_iload1 (q := 27) dX8_loses_26 rfl ?_
    refine j_iconst (q := 28) dX8_loses_27 rfl ?_
    refine j_callV2 (Mc := iX8_of) (q := 31) (c' := 0) (s' := 0) dX8_loses_28 rfl kV_X8_of jw_1079 ⟨by decide, by decide⟩ sh_197 rfl rfl rfl (Nat.le_refl _) (Nat.le_refl _) (ct_X8_of E (by omega) (by omega)) ?_
    refine j_iconst (q := 32) dX8_loses_31 rfl ?_
    refine j_isub (q := 33) dX8_loses_32 rfl ?_
    refine j_istore2 (q := 34) dX8_loses_33 rfl rfl (by decide) ?_
    refine j_aload0 (q := 35) dX8_loses_34 rfl ?_
    refine j_getR 0 (q := 38) dX8_loses_35 rfl fl_X8_7 sh_197 rfl ?_
    refine j_bipush (q := 40) dX8_loses_38 rfl rfl ?_
    refine j_iconst (q := 41) dX8_loses_40 rfl ?_
    refine j_iload2 (q := 42) dX8_loses_41 rfl ?_
    refine j_imul (q := 43) dX8_loses_42 rfl ?_
    refine j_iadd (q := 44) dX8_loses_43 rfl ?_
    refine j_iconst (q := 45) dX8_loses_44 rfl ?_
    refine j_iadd (q := 46) dX8_loses_45 rfl ?_
    refine j_dup2 (q := 47) dX8_loses_46 rfl rfl rfl ?_
    refine j_zload (q := 48) dX8_loses_47 rfl (by first | exact wr_id' (by omega) (by omega) | with_reducible exact wr_bI _ | exact rfl) (by omega) (by omega) ?_
    refine j_iconst (q := 49) dX8_loses_48 rfl ?_
    refine j_iadd (q := 50) dX8_loses_49 rfl ?_
    refine j_zstore (q := 51) dX8_loses_50 rfl (by first | exact wr_id' (by omega) (by omega) | with_reducible exact wr_bI _ | exact rfl) (by omega) (by omega) ?_
    refine j_mem (m' := sz m (zL2 (zL1 z c) c)) rfl ?_
    have w2 := WI_2 h1 hl2 w1
    have r2 := w2.2.2.2.1 c h1.1 h1.2
    refine j_aload0 (q := 52) dX8_loses_51 rfl ?_
    refine j_iload1 (q := 53) dX8_loses_52 rfl ?_
    refine j_iconst (q := 54) dX8_loses_53 rfl ?_
    refine j_callV2 (Mc := iX8_of) (q := 57) (c' := 0) (s' := 0) dX8_loses_54 rfl kV_X8_of jw_1079 ⟨by decide, by decide⟩ sh_197 rfl rfl rfl (Nat.le_refl _) (Nat.le_refl _) (ct_X8_of E (by omega) (by omega)) ?_
    refine j_iconst (q := 58) dX8_loses_57 rfl ?_
    refine j_isub (q := 59) dX8_loses_58 rfl ?_
    refine j_istore3 (q := 60) dX8_loses_59 rfl rfl (by decide) ?_
    refine j_iload3 (q := 61) dX8_loses_60 rfl ?_
    refine j_iconst (q := 62) dX8_loses_61 rfl ?_
    refine j_icmp_eq (tgt := 131) (q := 65) dX8_loses_62 (by decide) rfl (by first | exact wr_id' (by omega) (by omega) | with_reducible exact wr_bI _ | exact rfl) (by first | exact wr_id' (by omega) (by omega) | with_reducible exact wr_bI _ | exact rfl) (fun h62 => ?_) (fun h62 => ?_)
    · exact j_return dX8_loses_131 rfl (by first | rw [zLo, if_pos hl, if_pos (by omega)] | rw [zLo, if_pos hl, if_neg (by omega)])
    · refine j_bipush (q := 67) dX8_loses_65 rfl rfl ?_
      refine j_bipush (q := 69) dX8_loses_67 rfl rfl ?_
      refine j_iload3 (q := 70) dX8_loses_69 rfl ?_
      refine j_imul (q := 71) dX8_loses_70 rfl ?_
      refine j_iadd (q := 72) dX8_loses_71 rfl ?_
      refine j_istore4 (q := 74) dX8_loses_72 rfl rfl (by decide) ?_
      refine j_aload0 (q := 75) dX8_loses_74 rfl ?_
      refine j_iload1 (q := 76) dX8_loses_75 rfl ?_
      refine j_iconst (q := 77) dX8_loses_76 rfl ?_
      refine j_iconst (q := 78) dX8_loses_77 rfl ?_
      refine j_callV3v (Mc := iX8_lay) (q := 81) (c' := 0) (s' := 0) dX8_loses_78 rfl kV_X8_lay jw_980 ⟨by decide, by decide⟩ sh_197 rfl rfl rfl (Nat.le_refl _) (Nat.le_refl _) (ct_X8_lay E (by omega) (by omega)) ?_
      refine j_aload0 (q := 82) dX8_loses_81 rfl ?_
      refine j_iload1 (q := 83) dX8_loses_82 rfl ?_
      refine j_iconst (q := 84) dX8_loses_83 rfl ?_
      refine j_iconst (q := 85) dX8_loses_84 rfl ?_
      refine j_callV3v (Mc := iX8_lay) (q := 88) (c' := 0) (s' := 0) dX8_loses_85 rfl kV_X8_lay jw_980 ⟨by decide, by decide⟩ sh_197 rfl rfl rfl (Nat.le_refl _) (Nat.le_refl _) (ct_X8_lay E (by omega) (by omega)) ?_
      have e4 : u1 (u1 (zL2 (zL1 z c) c) (59 + 9 * c + 4) 0) (59 + 9 * c + 5) 0 (41 + 6 * (zL2 (zL1 z c) c (59 + 9 * c + 4) - 1) + 5) = zL2 (zL1 z c) c (41 + 6 * (zL2 (zL1 z c) c (59 + 9 * c + 4) - 1) + 5) := by rw [u1_ne (by omega), u1_ne (by omega)]
      have wt := WI_wt w2 (i := zL2 (zL1 z c) c (59 + 9 * c + 4) - 1) ⟨by omega, by omega⟩
      refine j_aload0 (q := 89) dX8_loses_88 rfl ?_
      refine j_getR 0 (q := 92) dX8_loses_89 rfl fl_X8_7 sh_197 rfl ?_
      refine j_sipush (q := 95) dX8_loses_92 rfl rfl ?_
      refine j_sipush (q := 98) dX8_loses_95 rfl rfl ?_
      refine j_iload3 (q := 99) dX8_loses_98 rfl ?_
      refine j_imul (q := 100) dX8_loses_99 rfl ?_
      refine j_iadd (q := 101) dX8_loses_100 rfl ?_
      refine j_aload0 (q := 102) dX8_loses_101 rfl ?_
      refine j_getR 0 (q := 105) dX8_loses_102 rfl fl_X8_7 sh_197 rfl ?_
      refine j_iload4 (q := 107) dX8_loses_105 rfl ?_
      refine j_iconst (q := 108) dX8_loses_107 rfl ?_
      refine j_iadd (q := 109) dX8_loses_108 rfl ?_
      refine j_zload (q := 110) dX8_loses_109 rfl (by first | exact wr_id' (by omega) (by omega) | with_reducible exact wr_bI _ | exact rfl) (by omega) (by omega) ?_
      refine j_iadd (q := 111) dX8_loses_110 rfl ?_
      refine j_iload2 (q := 112) dX8_loses_111 rfl ?_
      refine j_zstore (q := 113) dX8_loses_112 rfl (by first | exact wr_id' (by omega) (by omega) | with_reducible exact wr_bI _ | exact rfl) (by omega) (by omega) ?_
      refine j_aload0 (q := 114) dX8_loses_113 rfl ?_
      refine j_getR 0 (q := 117) dX8_loses_114 rfl fl_X8_7 sh_197 rfl ?_
      refine j_iload4 (q := 119) dX8_loses_117 rfl ?_
      refine j_iconst (q := 120) dX8_loses_119 rfl ?_
      refine j_iadd (q := 121) dX8_loses_120 rfl ?_
      refine j_dup2 (q := 122) dX8_loses_121 rfl rfl rfl ?_
      refine j_zload (q := 123) dX8_loses_122 rfl (by first | exact wr_id' (by omega) (by omega) | with_reducible exact wr_bI _ | exact rfl) (by omega) (by omega) ?_
      refine j_iconst (q := 124) dX8_loses_123 rfl ?_
      refine j_iadd (q := 125) dX8_loses_124 rfl ?_
      refine j_zstore (q := 126) dX8_loses_125 rfl (by first | exact wr_id' (by omega) (by omega) | with_reducible exact wr_bI _ | exact rfl) (by omega) (by omega) ?_
      refine j_mem (m' := sz m (zL3 (zL2 (zL1 z c) c) c (zL2 (zL1 z c) c (59 + 9 * c + 4) - 1) (zL1 z c (59 + 9 * c + 2) - 1))) rfl ?_
      have w3 := WI_3 (t := zL1 z c (59 + 9 * c + 2) - 1) h1 rfl ⟨by omega, by omega⟩ ⟨by omega, by omega⟩ w2
      have wt3 := WI_wt w3 (i := zL2 (zL1 z c) c (59 + 9 * c + 4) - 1) ⟨by omega, by omega⟩
      refine j_aload0 (q := 127) dX8_loses_126 rfl ?_
      refine j_iload3 (q := 128) dX8_loses_127 rfl ?_
      refine j_callV1v (Mc := iX8_pay) (q := 131) (c' := 0) (s' := 0) dX8_loses_128 rfl kV_X8_pay jw_1107 ⟨by decide, by decide⟩ sh_197 rfl rfl rfl (Nat.le_refl _) (Nat.le_refl _) (ct_X8_pay E (by omega) (by omega) w3.2.2.1) ?_
      exact j_return dX8_loses_131 rfl (by first | rw [zLo, if_pos hl, if_pos (by omega)] | rw [zLo, if_pos hl, if_neg (by omega)])
  · exact j_return dX8_loses_24 rfl (by rw [zLo, if_neg (by simpa using h21)])

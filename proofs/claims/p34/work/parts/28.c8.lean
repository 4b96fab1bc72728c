/-! the class: what could be saved, undo, programs -/
theorem cFb_10 {P : Mem} : True := trivial
theorem lp_X7_savable_in {G : GX} {sh : List SH} (E : EV G sh) {m : Mem} (hq : PA 25) {F : FinT} {p r : Int} (h1 : 1 ≤ p ∧ p ≤ 9) : ∀ (d : Nat) (i : Int) (Q : Mem), i + d = p → 0 ≤ i → CV Q → (∀ (x : Mem), x = cSvI d Q → J G sh iX7_savable 0 0 F 76 [some (.inr (.ref 0)), some (.inl p), some (.inl r), none] [] (ps m 25 x) 0 0) → J G sh iX7_savable 0 0 F 44 [some (.inr (.ref 0)), some (.inl p), some (.inl r), some (.inl i)] [] (ps m 25 Q) 0 0 := by
  intro d
  induction d with
  | zero =>
    intro i Q g0 g1 g2 kk
    refine j_iload3 (q := 45) dX7_savable_44 rfl ?_
    refine j_iload1 (q := 46) dX7_savable_45 rfl ?_
    refine j_icmp_ge (tgt := 76) (q := 49) dX7_savable_46 (by decide) rfl (by first | exact wr_id' (by omega) (by omega) | with_reducible exact wr_bI _ | exact rfl) (by first | exact wr_id' (by omega) (by omega) | with_reducible exact wr_bI _ | exact rfl) (fun h46 => ?_) (fun h46 => ?_)
    · refine j_fgt3 ?_
      exact kk _ rfl
    · omega
  | succ d ih =>
    intro i Q g0 g1 g2 kk
    refine j_iload3 (q := 45) dX7_savable_44 rfl ?_
    refine j_iload1 (q := 46) dX7_savable_45 rfl ?_
    refine j_icmp_ge (tgt := 76) (q := 49) dX7_savable_46 (by decide) rfl (by first | exact wr_id' (by omega) (by omega) | with_reducible exact wr_bI _ | exact rfl) (by first | exact wr_id' (by omega) (by omega) | with_reducible exact wr_bI _ | exact rfl) (fun h46 => ?_) (fun h46 => ?_)
    · omega
    · refine j_aload0 (q := 50) dX7_savable_49 rfl ?_
      refine j_getR 1 (q := 53) dX7_savable_50 rfl fl_X7_16 (E.2.2 _ _ sh_0) rfl ?_
      refine j_getR 6 (q := 56) dX7_savable_53 rfl fl_X7_157 (E.2.2 _ _ sh_25) rfl ?_
      refine j_pgetI (d := 10) rfl (by decide) 0 (j' := 0) (q := 59) dX7_savable_56 rfl fl_X7_161 (E.2.2 _ _ sh_35) rfl rfl ?_
      refine j_if_le (tgt := 76) (q := 62) dX7_savable_59 (by decide) rfl rfl (fun h59 => ?_) (fun h59 => ?_)
      · obtain ⟨hx0⟩ : Nonempty (cSvI (d + 1) Q = Q) := ⟨by rw [cSvI, if_neg (by omega)]⟩
        refine j_mem (m' := ps m 25 (cSvI (d + 1) Q)) (by rw [hx0]) ?_
        refine j_fgt3 ?_
        exact kk _ rfl
      · refine j_aload0 (q := 63) dX7_savable_62 rfl ?_
        refine j_getR 1 (q := 66) dX7_savable_63 rfl fl_X7_16 (E.2.2 _ _ sh_0) rfl ?_
        refine j_callV0 (Mc := iX3_writeFirstBack) (q := 69) (c' := 0) (s' := 0) dX7_savable_66 rfl kV_X3_writeFirstBack jw_620 ⟨by decide, by decide⟩ (E.2.2 _ _ sh_25) rfl rfl rfl (Nat.le_refl _) (Nat.le_refl _) (ct_X3_writeFirstBack E hq (by assumption)) ?_
        refine j_pop (q := 70) dX7_savable_69 rfl rfl ?_
        refine j_iinc3 (q := 73) dX7_savable_70 rfl rfl (by decide) ?_
        refine j_goto (tgt := 44) dX7_savable_73 (by decide) ?_
        exact ih _ _ (by omega) (by omega) (CV_fb g2) (fun x hx => kk x (hx.trans (by rw [cSvI, if_pos (by omega)])))
theorem lp_X7_savable {G : GX} {sh : List SH} (E : EV G sh) {m : Mem} (hq : PA 25) {F : FinT} {p : Int} (h1 : 1 ≤ p ∧ p ≤ 9) : ∀ (d : Nat) (r : Int) (Q : Mem), r + d = 64 → 0 ≤ r → CV Q → (∀ (x : Mem), x = cSvF p.toNat d Q → J G sh iX7_savable 0 0 F 89 [some (.inr (.ref 0)), some (.inl p), none, none] [] (ps m 25 x) 0 0) → J G sh iX7_savable 0 0 F 23 [some (.inr (.ref 0)), some (.inl p), some (.inl r), none] [] (ps m 25 Q) 0 0 := by
  intro d
  induction d with
  | zero =>
    intro r Q g0 g1 g2 kk
    refine j_iload2 (q := 24) dX7_savable_23 rfl ?_
    refine j_bipush (q := 26) dX7_savable_24 rfl rfl ?_
    refine j_icmp_ge (tgt := 89) (q := 29) dX7_savable_26 (by decide) rfl (by first | exact wr_id' (by omega) (by omega) | with_reducible exact wr_bI _ | exact rfl) (by first | exact wr_id' (by omega) (by omega) | with_reducible exact wr_bI _ | exact rfl) (fun h26 => ?_) (fun h26 => ?_)
    · refine j_fgt2 ?_
      exact kk _ rfl
    · omega
  | succ d ih =>
    intro r Q g0 g1 g2 kk
    refine j_iload2 (q := 24) dX7_savable_23 rfl ?_
    refine j_bipush (q := 26) dX7_savable_24 rfl rfl ?_
    refine j_icmp_ge (tgt := 89) (q := 29) dX7_savable_26 (by decide) rfl (by first | exact wr_id' (by omega) (by omega) | with_reducible exact wr_bI _ | exact rfl) (by first | exact wr_id' (by omega) (by omega) | with_reducible exact wr_bI _ | exact rfl) (fun h26 => ?_) (fun h26 => ?_)
    · omega
    · refine j_aload0 (q := 30) dX7_savable_29 rfl ?_
      refine j_getR 1 (q := 33) dX7_savable_30 rfl fl_X7_16 (E.2.2 _ _ sh_0) rfl ?_
      refine j_getR 6 (q := 36) dX7_savable_33 rfl fl_X7_157 (E.2.2 _ _ sh_25) rfl ?_
      refine j_pgetI (d := 10) rfl (by decide) 0 (j' := 0) (q := 39) dX7_savable_36 rfl fl_X7_161 (E.2.2 _ _ sh_35) rfl rfl ?_
      refine j_if_le (tgt := 89) (q := 42) dX7_savable_39 (by decide) rfl rfl (fun h39 => ?_) (fun h39 => ?_)
      · obtain ⟨hx0⟩ : Nonempty (cSvF p.toNat (d + 1) Q = Q) := ⟨by rw [cSvF, if_neg (by omega)]⟩
        refine j_mem (m' := ps m 25 (cSvF p.toNat (d + 1) Q)) (by rw [hx0]) ?_
        refine j_fgt2 ?_
        exact kk _ rfl
      · refine j_iconst (q := 43) dX7_savable_42 rfl ?_
        refine j_istore3 (q := 44) dX7_savable_43 rfl rfl (by decide) ?_
        refine lp_X7_savable_in E hq h1 p.toNat 0 Q (by omega) (by omega) g2 ?_
        intro x hx
        subst hx
        have hs := CV_svI p.toNat Q g2
        refine j_aload0 (q := 77) dX7_savable_76 rfl ?_
        refine j_getR 1 (q := 80) dX7_savable_77 rfl fl_X7_16 (E.2.2 _ _ sh_0) rfl ?_
        refine j_callV0v (Mc := iX3_tick) (q := 83) (c' := 0) (s' := 0) dX7_savable_80 rfl kV_X3_tick jw_670 ⟨by decide, by decide⟩ (E.2.2 _ _ sh_25) rfl rfl rfl (Nat.le_refl _) (Nat.le_refl _) (ct_X3_tick E hq (by assumption)) ?_
        refine j_iinc2 (q := 86) dX7_savable_83 rfl rfl (by decide) ?_
        refine j_goto (tgt := 23) dX7_savable_86 (by decide) ?_
        exact ih _ _ (by omega) (by omega) (CV_tk (CV_svI _ _ g2)) (fun x hx => kk x (hx.trans (by rw [cSvF, if_pos (by omega)])))
theorem ct_X7_savable {G : GX} {sh : List SH} (E : EV G sh) {m Q : Mem} {p : Int} (r_p : -2147483648 ≤ p ∧ p < 2147483648) (p0 : 1 ≤ p ∧ p ≤ 9) (hV : CV (pg m 1)) : CT G sh iX7_savable 0 0 [.inr (.ref 0), .inl p] (ps m 25 Q) (some (.inl (cSvE Q (pg m 1) p 2 10 - m 3 10))) (ps m 25 (cSvE Q (pg m 1) p)) := by
  have hq : PA 25 := PA25
  have hw : 0 ≤ m 1 10 ∧ m 1 10 ≤ 512 := hV.2.2.1.1
  have hr : PA 1 := PA1
  refine j_met (L0 := [some (.inr (.ref 0)), some (.inl p), none, none]) (by decide) E.1 E.2.1 rfl (Nat.le_of_ble_eq_true rfl) ?_
  refine j_iload1 (q := 1) dX7_savable_0 rfl ?_
  refine j_iconst (q := 2) dX7_savable_1 rfl ?_
  refine j_bipush (q := 4) dX7_savable_2 rfl rfl ?_
  refine j_callS3 (Mc := iX7_within) (q := 7) (c' := 0) (s' := 0) dX7_savable_4 rfl kS_X7_within jw_263 ⟨by decide, by decide⟩ rfl (Nat.le_refl _) (Nat.le_refl _) (ct_X7_within E (by omega) (by omega) (by omega)) ?_
  refine j_callS1v (Mc := iX7_requireArgument) (q := 10) (c' := 0) (s' := 0) dX7_savable_7 rfl kS_X7_requireArgument jw_336 ⟨by decide, by decide⟩ rfl (Nat.le_refl _) (Nat.le_refl _) (ct_X7_requireArgument E (by first | assumption | exact decide_eq_true (by omega) | (simp_all; done))) ?_
  refine j_aload0 (q := 11) dX7_savable_10 rfl ?_
  refine j_getR 1 (q := 14) dX7_savable_11 rfl fl_X7_16 (E.2.2 _ _ sh_0) rfl ?_
  refine j_aload0 (q := 15) dX7_savable_14 rfl ?_
  refine j_getR 0 (q := 18) dX7_savable_15 rfl fl_X7_10 (E.2.2 _ _ sh_0) rfl ?_
  refine j_callV1v (Mc := iX3_become) (q := 21) (c' := 0) (s' := 0) dX7_savable_18 rfl kV_X3_become jw_619 ⟨by decide, by decide⟩ (E.2.2 _ _ sh_25) rfl rfl rfl (Nat.le_refl _) (Nat.le_refl _) (ct_X3_become E hq hr (by omega) hw) ?_
  refine j_iconst (q := 22) dX7_savable_21 rfl ?_
  refine j_istore2 (q := 23) dX7_savable_22 rfl rfl (by decide) ?_
  refine lp_X7_savable E hq p0 64 0 (bcP Q (pg m 1)) (by omega) (by omega) (CV_bc hV) ?_
  intro x hx
  refine j_aload0 (q := 90) dX7_savable_89 rfl ?_
  refine j_getR 1 (q := 93) dX7_savable_90 rfl fl_X7_16 (E.2.2 _ _ sh_0) rfl ?_
  refine j_getR 4 (q := 96) dX7_savable_93 rfl fl_X7_275 (E.2.2 _ _ sh_25) rfl ?_
  refine j_bipush (q := 98) dX7_savable_96 rfl rfl ?_
  refine j_pload (q := 99) (d := 2) rfl (by decide) dX7_savable_98 rfl (E.2.2 _ _ sh_27) (by first | exact wr_id' (by omega) (by omega) | with_reducible exact wr_bI _ | exact rfl) (by omega) (by omega) ?_
  refine j_aload0 (q := 100) dX7_savable_99 rfl ?_
  refine j_getR 0 (q := 103) dX7_savable_100 rfl fl_X7_10 (E.2.2 _ _ sh_0) rfl ?_
  refine j_getR 4 (q := 106) dX7_savable_103 rfl fl_X7_275 (E.2.2 _ _ sh_1) rfl ?_
  refine j_bipush (q := 108) dX7_savable_106 rfl rfl ?_
  refine j_qload (q := 109) (by decide) dX7_savable_108 rfl (E.2.2 _ _ sh_3) (by first | exact wr_id' (by omega) (by omega) | with_reducible exact wr_bI _ | exact rfl) (by omega) (by omega) ?_
  refine j_isub (q := 110) dX7_savable_109 rfl ?_
  exact j_ireturn dX7_savable_110 rfl (by rw [hx]; rfl) (by rw [hx]; rfl)
def uR (m : Mem) : Nat := (m 50 (m 49 0 - 1)).toNat
theorem rsS_ps {m P : Mem} (hs : SR m) (hz : 0 < m 49 0 ∧ m 49 0 ≤ 6) : rsS (ps m 1 P) = ps (up m 49 0 (m 49 0 - 1)) 1 (bcP P (pg m (uR m))) := by
  have e49 : ps m 1 P 49 = m 49 := ps_ne (by omega)
  have e50 : ps m 1 P 50 = m 50 := ps_ne (by omega)
  obtain ⟨r, hr1, hr, hr2, hr3⟩ := okr_PA (hs.1 (m 49 0 - 1) (by omega) (by omega))
  have e1 : rsM (ps m 1 P) = ps (up m 49 0 (m 49 0 - 1)) 1 P := by unfold rsM; rw [up_psn (by omega), e49]
  have e2 : pg (ps (up m 49 0 (m 49 0 - 1)) 1 P) r = pg m r := by
    funext d j
    show ps (up m 49 0 (m 49 0 - 1)) 1 P (r + d) j = m (r + d) j
    rw [ps_ne (by omega), up_ne (by omega)]
  unfold rsS uR
  rw [e1, e49, e50, hr1, ps_ps, show (r : Int).toNat = r by omega, e2]
  refine ps_cg fun d hd => ?_
  have e3 : ∀ (X : Mem), (∀ d, d < 24 → pg (ps X 1 P) 1 d = P d) := fun X d hd => ps_at hd
  funext j
  unfold bcP bcA bcI bcT bcD bcC cpP up
  simp only [e3 _ d hd]
theorem TL_ps {m P : Mem} (h : TL m) : TL (ps m 1 P) := by
  have e1 : ps m 1 P 195 = m 195 := ps_ne (by omega)
  have e2 : ps m 1 P 196 = m 196 := ps_ne (by omega)
  unfold TL; rw [e1, e2]; exact h
theorem tC_ps {m P : Mem} {j : Int} : tC (ps m 1 P) j = tC m j := by
  have e1 : ps m 1 P 195 = m 195 := ps_ne (by omega)
  have e2 : ps m 1 P 196 = m 196 := ps_ne (by omega)
  unfold tC; rw [e1, e2]
theorem tK_ps {m P : Mem} {j : Int} : tK (ps m 1 P) j = tK m j := by unfold tK; rw [tC_ps, tC_ps]
theorem tP_ps {m P : Mem} : ∀ (d : Nat) (i w : Int), tP (ps m 1 P) d i w = tP m d i w := by
  intro d
  induction d with
  | zero => intro i w; rfl
  | succ d ih => intro i w; rw [tP, tP, ih, tC_ps]
theorem cp_codeAt {G : GX} {sh : List SH} (E : EV G sh) {m P : Mem} {j : Int} (h1 : -2147483648 ≤ j ∧ j < 2147483648) (hT : TL m) : CT G sh iX6_codeAt 0 0 [.inr (.ref 195), .inl j] (ps m 1 P) (some (.inl (tC m j))) (ps m 1 P) := tC_ps (P := P) ▸ ct_X6_codeAt E h1 (TL_ps hT)
theorem cp_digitAt {G : GX} {sh : List SH} (E : EV G sh) {m P : Mem} {j : Int} (h1 : -2147483648 ≤ j ∧ j < 2147483648) (hT : TL m) : CT G sh iX6_digitAt 0 0 [.inr (.ref 195), .inl j] (ps m 1 P) (some (.inl (tC m j - 48))) (ps m 1 P) := tC_ps (P := P) ▸ ct_X6_digitAt E h1 (TL_ps hT)
theorem cp_coreAt {G : GX} {sh : List SH} (E : EV G sh) {m P : Mem} {j : Int} (h1 : 0 ≤ j ∧ j ≤ 100) (hT : TL m) : CT G sh iX6_coreAt 0 0 [.inr (.ref 195), .inl j] (ps m 1 P) (some (.inl (tK m j))) (ps m 1 P) := tK_ps (P := P) ▸ ct_X6_coreAt E h1 (TL_ps hT)
theorem cp_stepLength {G : GX} {sh : List SH} (E : EV G sh) {m P : Mem} {j : Int} (h1 : 0 ≤ j ∧ j ≤ 100) (hT : TL m) : CT G sh iX6_stepLength 0 0 [.inr (.ref 195), .inl j] (ps m 1 P) (some (.inl (tN (tC m j)))) (ps m 1 P) := tC_ps (P := P) ▸ ct_X6_stepLength E h1 (TL_ps hT)
def tOk (m : Mem) : Bool := decide (wr (tP m (m 195 0).toNat 0 1) = 2)
theorem cp_isProgram {G : GX} {sh : List SH} (E : EV G sh) {m P : Mem} (hT : TL m) : CT G sh iX6_isProgram 0 0 [.inr (.ref 195)] (ps m 1 P) (some (.inl (bI (tOk m)))) (ps m 1 P) := by
  have h := ct_X6_isProgram E (TL_ps (P := P) hT)
  have e1 : ps m 1 P 195 = m 195 := ps_ne (by omega)
  rw [e1, tP_ps] at h
  exact h
theorem tK_b {m : Mem} (h : TL m) (j : Int) : -500 ≤ tK m j ∧ tK m j ≤ 800 := by
  have h1 := tC_b h j
  have h2 := tC_b h (j + 1)
  unfold tK; omega
theorem tN_b (c : Int) : 1 ≤ tN c ∧ tN c ≤ 5 := by unfold tN; split; omega; split; omega; split <;> omega
def cOn (m P : Mem) (t p : Int) : Bool := wi (tK m (p + 1)) 0 63 && decide (wr (P 5 (tK m (p + 1))) = wr t)
def cMay (m P : Mem) (t p : Int) : Bool :=
  if tC m p = 98 then decide (0 < P 10 0) else if tC m p = 114 then cOn m P t p && cCR P (tK m (p + 1)) else if tC m p = 119 then cOn m P t p else decide (P 0 0 + (tC m (p + 1) - 48) ≤ 10000)
def cDo (m : Mem) (p : Int) (P : Mem) : Mem :=
  if tC m p = 98 then cFb P else if tC m p = 114 then cRd P (tK m (p + 1)) else if tC m p = 119 then cWb P (tK m (p + 1)) (decide (tC m (p + 4) = 49)) else cTkN (tC m (p + 1) - 48).toNat P
def cRnF (m : Mem) (t : Int) : Nat → Int → Int → Mem → Mem × Int
  | 0, _, n, P => (P, n)
  | d + 1, p, n, P => if p < m 195 0 ∧ cMay m P t p = true then cRnF m t d (p + (tN (tC m p) + 1)) (n + 1) (cDo m p P) else (P, n)
theorem CV_do {m P : Mem} {t p : Int} (hm : cMay m P t p = true) (hV : CV P) : CV (cDo m p P) := by
  unfold cDo
  by_cases h0 : tC m p = 98
  · rw [if_pos h0]; exact CV_fb hV
  by_cases h1 : tC m p = 114
  · rw [if_neg h0, if_pos h1]
    rw [cMay, if_neg h0, if_pos h1, Bool.and_eq_true] at hm
    have h2 := of_decide_eq_true (Bool.and_eq_true_iff.mp hm.1).1
    exact CV_rd ⟨h2.1, by omega⟩ hV
  by_cases h2 : tC m p = 119
  · rw [if_neg h0, if_neg h1, if_pos h2]; exact CV_wb hV
  · rw [if_neg h0, if_neg h1, if_neg h2]; exact CV_tkN _ _ hV
theorem cTkN_neg {t : Int} {P : Mem} (h : t ≤ 0) : cTkN t.toNat P = P := by rw [show t.toNat = 0 by omega]; rfl
theorem cn_X3_letPass {G : GX} {sh : List SH} (E : EV G sh) {m P : Mem} {q : Nat} (hq : PA q) {t : Int} (ht : -100 ≤ t ∧ t ≤ 0) : CT G sh iX3_letPass 0 0 [.inr (.ref q), .inl t] (ps m q P) none (ps m q P) := by
  refine j_met (L0 := [some (.inr (.ref q)), some (.inl t), none]) (by decide) E.1 E.2.1 rfl (Nat.le_of_ble_eq_true rfl) ?_
  refine j_iconst (q := 1) dX3_letPass_0 rfl ?_
  refine j_istore2 (q := 2) dX3_letPass_1 rfl rfl (by decide) ?_
  refine j_iload2 (q := 3) dX3_letPass_2 rfl ?_
  refine j_iload1 (q := 4) dX3_letPass_3 rfl ?_
  refine j_icmp_ge (tgt := 17) (q := 7) dX3_letPass_4 (by decide) rfl (by first | exact wr_id' (by omega) (by omega) | with_reducible exact wr_bI _ | exact rfl) (by first | exact wr_id' (by omega) (by omega) | with_reducible exact wr_bI _ | exact rfl) (fun h4 => ?_) (fun h4 => ?_)
  · exact j_return dX3_letPass_17 rfl (rfl)
  · omega
theorem ca_X3_letPass {G : GX} {sh : List SH} (E : EV G sh) {m P : Mem} {q : Nat} (hq : PA q) {t : Int} (ht : -100 ≤ t ∧ t ≤ 100) (hV : CV P) : CT G sh iX3_letPass 0 0 [.inr (.ref q), .inl t] (ps m q P) none (ps m q (cTkN t.toNat P)) := by
  by_cases h : 0 ≤ t
  · exact ct_X3_letPass E hq ⟨h, ht.2⟩ hV
  · rw [cTkN_neg (by omega)]; exact cn_X3_letPass E hq ⟨ht.1, by omega⟩
theorem ct_X7_canDoStep {G : GX} {sh : List SH} (E : EV G sh) {m P : Mem} {t : Int} {p : Int} (hp : 0 ≤ p ∧ p < 60) (hT : TL m) (hV : CV P) (hz : 0 ≤ P 0 0 ∧ P 0 0 ≤ 10000) : CT G sh iX7_canDoStep 0 0 [.inr (.ref 0), .inl t, .inl p] (ps m 1 P) (some (.inl (bI (cMay m P t p)))) (ps m 1 P) := by
  have hq : PA 1 := PA1
  refine j_met (L0 := [some (.inr (.ref 0)), some (.inl t), some (.inl p), none]) (by decide) E.1 E.2.1 rfl (Nat.le_of_ble_eq_true rfl) ?_
  have hb0 := tC_b hT p
  have hb1 := tC_b hT (p + 1)
  have hk1 := tK_b hT (p + 1)
  have hb4 := tC_b hT (p + 4)
  have hd0 := hV.2.2.2.1.1
  refine j_aload0 (q := 1) dX7_canDoStep_0 rfl ?_
  refine j_getR 3 (q := 4) dX7_canDoStep_1 rfl fl_X7_29 (E.2.2 _ _ sh_0) rfl ?_
  refine j_iload2 (q := 5) dX7_canDoStep_4 rfl ?_
  refine j_iconst (q := 6) dX7_canDoStep_5 rfl ?_
  refine j_iadd (q := 7) dX7_canDoStep_6 rfl ?_
  refine j_callV1 (Mc := iX6_coreAt) (q := 10) (c' := 0) (s' := 0) dX7_canDoStep_7 rfl kV_X6_coreAt jw_858 ⟨by decide, by decide⟩ (E.2.2 _ _ sh_195) rfl rfl rfl (Nat.le_refl _) (Nat.le_refl _) (cp_coreAt E (by omega) hT) ?_
  refine j_istore3 (q := 11) dX7_canDoStep_10 rfl rfl (by decide) ?_
  refine j_aload0 (q := 12) dX7_canDoStep_11 rfl ?_
  refine j_getR 3 (q := 15) dX7_canDoStep_12 rfl fl_X7_29 (E.2.2 _ _ sh_0) rfl ?_
  refine j_iload2 (q := 16) dX7_canDoStep_15 rfl ?_
  refine j_callV1 (Mc := iX6_codeAt) (q := 19) (c' := 0) (s' := 0) dX7_canDoStep_16 rfl kV_X6_codeAt jw_866 ⟨by decide, by decide⟩ (E.2.2 _ _ sh_195) rfl rfl rfl (Nat.le_refl _) (Nat.le_refl _) (cp_codeAt E (by omega) hT) ?_
  by_cases h19_98 : tC m p = 98
  · refine j_lookup (x' := tC m p) (tgt := 97) (off := 78) dX7_canDoStep_19 rfl (by first | exact wr_id' (by omega) (by omega) | with_reducible exact wr_bI _ | exact rfl) (by rw [h19_98]; rfl) (by decide) ?_
    refine j_aload0 (q := 98) dX7_canDoStep_97 rfl ?_
    refine j_getR 0 (q := 101) dX7_canDoStep_98 rfl fl_X7_10 (E.2.2 _ _ sh_0) rfl ?_
    refine j_getR 6 (q := 104) dX7_canDoStep_101 rfl fl_X7_157 (E.2.2 _ _ sh_1) rfl ?_
    refine j_pgetI (d := 10) rfl (by decide) 0 (j' := 0) (q := 107) dX7_canDoStep_104 rfl fl_X7_161 (E.2.2 _ _ sh_11) rfl rfl ?_
    refine j_if_le (tgt := 114) (q := 110) dX7_canDoStep_107 (by decide) rfl (by first | exact wr_id' (by omega) (by omega) | with_reducible exact wr_bI _ | exact rfl) (fun h107 => ?_) (fun h107 => ?_)
    · refine j_iconst (q := 115) dX7_canDoStep_114 rfl ?_
      exact j_zreturn dX7_canDoStep_115 rfl (by decide) (by unfold cMay; first | (rw [if_neg (by omega), if_pos (by omega)]; simp [bI, cOn, *]; done) | (rw [if_neg (by omega), if_neg (by omega), if_pos (by omega)]; rfl) | (rw [if_pos (by omega)]; first | exact bI_t (by omega) | exact bI_f (by omega)) | (rw [if_neg (by omega), if_neg (by omega), if_neg (by omega)]; first | exact bI_t (by omega) | exact bI_f (by omega))) (rfl)
    · refine j_iconst (q := 111) dX7_canDoStep_110 rfl ?_
      refine j_goto (tgt := 115) dX7_canDoStep_111 (by decide) ?_
      exact j_zreturn dX7_canDoStep_115 rfl (by decide) (by unfold cMay; first | (rw [if_neg (by omega), if_pos (by omega)]; simp [bI, cOn, *]; done) | (rw [if_neg (by omega), if_neg (by omega), if_pos (by omega)]; rfl) | (rw [if_pos (by omega)]; first | exact bI_t (by omega) | exact bI_f (by omega)) | (rw [if_neg (by omega), if_neg (by omega), if_neg (by omega)]; first | exact bI_t (by omega) | exact bI_f (by omega))) (rfl)
  by_cases h19_114 : tC m p = 114
  · refine j_lookup (x' := tC m p) (tgt := 52) (off := 33) dX7_canDoStep_19 rfl (by first | exact wr_id' (by omega) (by omega) | with_reducible exact wr_bI _ | exact rfl) (by rw [h19_114]; rfl) (by decide) ?_
    refine j_aload0 (q := 53) dX7_canDoStep_52 rfl ?_
    refine j_getR 0 (q := 56) dX7_canDoStep_53 rfl fl_X7_10 (E.2.2 _ _ sh_0) rfl ?_
    refine j_getR 5 (q := 59) dX7_canDoStep_56 rfl fl_X7_89 (E.2.2 _ _ sh_1) rfl ?_
    refine j_iload3 (q := 60) dX7_canDoStep_59 rfl ?_
    refine j_iload1 (q := 61) dX7_canDoStep_60 rfl ?_
    refine j_callV2 (Mc := iX0_isLeasedTo) (q := 64) (c' := 0) (s' := 0) dX7_canDoStep_61 rfl kV_X0_isLeasedTo jw_867 ⟨by decide, by decide⟩ (E.2.2 _ _ sh_4) rfl rfl rfl (Nat.le_refl _) (Nat.le_refl _) (ct_X0_isLeasedTo E hq (by omega)) ?_
    refine j_ifeq_b (tgt := 82) (q := 67) dX7_canDoStep_64 (by decide) rfl (fun h64 => ?_) (fun h64 => ?_)
    · refine j_iconst (q := 83) dX7_canDoStep_82 rfl ?_
      exact j_zreturn dX7_canDoStep_83 rfl (by decide) (by unfold cMay; first | (rw [if_neg (by omega), if_pos (by omega)]; simp [bI, cOn, *]; done) | (rw [if_neg (by omega), if_neg (by omega), if_pos (by omega)]; rfl) | (rw [if_pos (by omega)]; first | exact bI_t (by omega) | exact bI_f (by omega)) | (rw [if_neg (by omega), if_neg (by omega), if_neg (by omega)]; first | exact bI_t (by omega) | exact bI_f (by omega))) (rfl)
    · have hco : wi (tK m (p + 1)) 0 63 = true ∧ wr (P 5 (tK m (p + 1))) = wr t := by have h := h64; simp only [Bool.and_eq_true, decide_eq_true_eq] at h; exact h
      have hc2 := of_decide_eq_true hco.1
      refine j_aload0 (q := 68) dX7_canDoStep_67 rfl ?_
      refine j_getR 0 (q := 71) dX7_canDoStep_68 rfl fl_X7_10 (E.2.2 _ _ sh_0) rfl ?_
      refine j_iload3 (q := 72) dX7_canDoStep_71 rfl ?_
      refine j_callV1 (Mc := iX3_canBeRead) (q := 75) (c' := 0) (s' := 0) dX7_canDoStep_72 rfl kV_X3_canBeRead jw_520 ⟨by decide, by decide⟩ (E.2.2 _ _ sh_1) rfl rfl rfl (Nat.le_refl _) (Nat.le_refl _) (ct_X3_canBeRead E hq (by omega)) ?_
      refine j_ifeq_b (tgt := 82) (q := 78) dX7_canDoStep_75 (by decide) rfl (fun h75 => ?_) (fun h75 => ?_)
      · refine j_iconst (q := 83) dX7_canDoStep_82 rfl ?_
        exact j_zreturn dX7_canDoStep_83 rfl (by decide) (by unfold cMay; first | (rw [if_neg (by omega), if_pos (by omega)]; simp [bI, cOn, *]; done) | (rw [if_neg (by omega), if_neg (by omega), if_pos (by omega)]; rfl) | (rw [if_pos (by omega)]; first | exact bI_t (by omega) | exact bI_f (by omega)) | (rw [if_neg (by omega), if_neg (by omega), if_neg (by omega)]; first | exact bI_t (by omega) | exact bI_f (by omega))) (rfl)
      · refine j_iconst (q := 79) dX7_canDoStep_78 rfl ?_
        refine j_goto (tgt := 83) dX7_canDoStep_79 (by decide) ?_
        exact j_zreturn dX7_canDoStep_83 rfl (by decide) (by unfold cMay; first | (rw [if_neg (by omega), if_pos (by omega)]; simp [bI, cOn, *]; done) | (rw [if_neg (by omega), if_neg (by omega), if_pos (by omega)]; rfl) | (rw [if_pos (by omega)]; first | exact bI_t (by omega) | exact bI_f (by omega)) | (rw [if_neg (by omega), if_neg (by omega), if_neg (by omega)]; first | exact bI_t (by omega) | exact bI_f (by omega))) (rfl)
  by_cases h19_119 : tC m p = 119
  · refine j_lookup (x' := tC m p) (tgt := 84) (off := 65) dX7_canDoStep_19 rfl (by first | exact wr_id' (by omega) (by omega) | with_reducible exact wr_bI _ | exact rfl) (by rw [h19_119]; rfl) (by decide) ?_
    refine j_aload0 (q := 85) dX7_canDoStep_84 rfl ?_
    refine j_getR 0 (q := 88) dX7_canDoStep_85 rfl fl_X7_10 (E.2.2 _ _ sh_0) rfl ?_
    refine j_getR 5 (q := 91) dX7_canDoStep_88 rfl fl_X7_89 (E.2.2 _ _ sh_1) rfl ?_
    refine j_iload3 (q := 92) dX7_canDoStep_91 rfl ?_
    refine j_iload1 (q := 93) dX7_canDoStep_92 rfl ?_
    refine j_callV2 (Mc := iX0_isLeasedTo) (q := 96) (c' := 0) (s' := 0) dX7_canDoStep_93 rfl kV_X0_isLeasedTo jw_867 ⟨by decide, by decide⟩ (E.2.2 _ _ sh_4) rfl rfl rfl (Nat.le_refl _) (Nat.le_refl _) (ct_X0_isLeasedTo E hq (by omega)) ?_
    exact j_zreturn dX7_canDoStep_96 rfl (bI_01 _) (by unfold cMay; rw [if_neg (by omega), if_neg (by omega), if_pos (by omega)]; rfl) (rfl)
  refine j_lookup (x' := tC m p) (tgt := 116) (off := 97) dX7_canDoStep_19 rfl (by first | exact wr_id' (by omega) (by omega) | with_reducible exact wr_bI _ | exact rfl) (by simp only [Op.lookupswitch.offset_cons]; rw [if_neg (fun q => h19_98 q.symm), if_neg (fun q => h19_114 q.symm), if_neg (fun q => h19_119 q.symm)]; rfl) (by decide) ?_
  refine j_aload0 (q := 117) dX7_canDoStep_116 rfl ?_
  refine j_getR 0 (q := 120) dX7_canDoStep_117 rfl fl_X7_10 (E.2.2 _ _ sh_0) rfl ?_
  refine j_pgetI (d := 0) rfl (by decide) 0 (j' := 0) (q := 123) dX7_canDoStep_120 rfl fl_X7_168 (E.2.2 _ _ sh_1) rfl rfl ?_
  refine j_aload0 (q := 124) dX7_canDoStep_123 rfl ?_
  refine j_getR 3 (q := 127) dX7_canDoStep_124 rfl fl_X7_29 (E.2.2 _ _ sh_0) rfl ?_
  refine j_iload2 (q := 128) dX7_canDoStep_127 rfl ?_
  refine j_iconst (q := 129) dX7_canDoStep_128 rfl ?_
  refine j_iadd (q := 130) dX7_canDoStep_129 rfl ?_
  refine j_callV1 (Mc := iX6_digitAt) (q := 133) (c' := 0) (s' := 0) dX7_canDoStep_130 rfl kV_X6_digitAt jw_872 ⟨by decide, by decide⟩ (E.2.2 _ _ sh_195) rfl rfl rfl (Nat.le_refl _) (Nat.le_refl _) (cp_digitAt E (by omega) hT) ?_
  refine j_iadd (q := 134) dX7_canDoStep_133 rfl ?_
  refine j_sipush (q := 137) dX7_canDoStep_134 rfl rfl ?_
  refine j_icmp_gt (tgt := 144) (q := 140) dX7_canDoStep_137 (by decide) rfl (by first | exact wr_id' (by omega) (by omega) | with_reducible exact wr_bI _ | exact rfl) (by first | exact wr_id' (by omega) (by omega) | with_reducible exact wr_bI _ | exact rfl) (fun h137 => ?_) (fun h137 => ?_)
  · refine j_iconst (q := 145) dX7_canDoStep_144 rfl ?_
    exact j_zreturn dX7_canDoStep_145 rfl (by decide) (by unfold cMay; first | (rw [if_neg (by omega), if_pos (by omega)]; simp [bI, cOn, *]; done) | (rw [if_neg (by omega), if_neg (by omega), if_pos (by omega)]; rfl) | (rw [if_pos (by omega)]; first | exact bI_t (by omega) | exact bI_f (by omega)) | (rw [if_neg (by omega), if_neg (by omega), if_neg (by omega)]; first | exact bI_t (by omega) | exact bI_f (by omega))) (rfl)
  · refine j_iconst (q := 141) dX7_canDoStep_140 rfl ?_
    refine j_goto (tgt := 145) dX7_canDoStep_141 (by decide) ?_
    exact j_zreturn dX7_canDoStep_145 rfl (by decide) (by unfold cMay; first | (rw [if_neg (by omega), if_pos (by omega)]; simp [bI, cOn, *]; done) | (rw [if_neg (by omega), if_neg (by omega), if_pos (by omega)]; rfl) | (rw [if_pos (by omega)]; first | exact bI_t (by omega) | exact bI_f (by omega)) | (rw [if_neg (by omega), if_neg (by omega), if_neg (by omega)]; first | exact bI_t (by omega) | exact bI_f (by omega))) (rfl)
theorem ct_X7_doStep {G : GX} {sh : List SH} (E : EV G sh) {m P : Mem} {p : Int} {t : Int} (hp : 0 ≤ p ∧ p < 60) (hT : TL m) (hV : CV P) (hm : cMay m P t p = true) : CT G sh iX7_doStep 0 0 [.inr (.ref 0), .inl p] (ps m 1 P) none (ps m 1 (cDo m p P)) := by
  have hq : PA 1 := PA1
  refine j_met (L0 := [some (.inr (.ref 0)), some (.inl p), none]) (by decide) E.1 E.2.1 rfl (Nat.le_of_ble_eq_true rfl) ?_
  have hb0 := tC_b hT p
  have hb1 := tC_b hT (p + 1)
  have hk1 := tK_b hT (p + 1)
  have hb4 := tC_b hT (p + 4)
  have hd0 := hV.2.2.2.1.1
  refine j_aload0 (q := 1) dX7_doStep_0 rfl ?_
  refine j_getR 3 (q := 4) dX7_doStep_1 rfl fl_X7_29 (E.2.2 _ _ sh_0) rfl ?_
  refine j_iload1 (q := 5) dX7_doStep_4 rfl ?_
  refine j_iconst (q := 6) dX7_doStep_5 rfl ?_
  refine j_iadd (q := 7) dX7_doStep_6 rfl ?_
  refine j_callV1 (Mc := iX6_coreAt) (q := 10) (c' := 0) (s' := 0) dX7_doStep_7 rfl kV_X6_coreAt jw_858 ⟨by decide, by decide⟩ (E.2.2 _ _ sh_195) rfl rfl rfl (Nat.le_refl _) (Nat.le_refl _) (cp_coreAt E (by omega) hT) ?_
  refine j_istore2 (q := 11) dX7_doStep_10 rfl rfl (by decide) ?_
  refine j_aload0 (q := 12) dX7_doStep_11 rfl ?_
  refine j_getR 3 (q := 15) dX7_doStep_12 rfl fl_X7_29 (E.2.2 _ _ sh_0) rfl ?_
  refine j_iload1 (q := 16) dX7_doStep_15 rfl ?_
  refine j_callV1 (Mc := iX6_codeAt) (q := 19) (c' := 0) (s' := 0) dX7_doStep_16 rfl kV_X6_codeAt jw_866 ⟨by decide, by decide⟩ (E.2.2 _ _ sh_195) rfl rfl rfl (Nat.le_refl _) (Nat.le_refl _) (cp_codeAt E (by omega) hT) ?_
  by_cases h19_98 : tC m p = 98
  · refine j_lookup (x' := tC m p) (tgt := 95) (off := 76) dX7_doStep_19 rfl (by first | exact wr_id' (by omega) (by omega) | with_reducible exact wr_bI _ | exact rfl) (by rw [h19_98]; rfl) (by decide) ?_
    refine j_aload0 (q := 96) dX7_doStep_95 rfl ?_
    refine j_getR 0 (q := 99) dX7_doStep_96 rfl fl_X7_10 (E.2.2 _ _ sh_0) rfl ?_
    refine j_callV0 (Mc := iX3_writeFirstBack) (q := 102) (c' := 0) (s' := 0) dX7_doStep_99 rfl kV_X3_writeFirstBack jw_620 ⟨by decide, by decide⟩ (E.2.2 _ _ sh_1) rfl rfl rfl (Nat.le_refl _) (Nat.le_refl _) (ct_X3_writeFirstBack E hq (by assumption)) ?_
    refine j_pop (q := 103) dX7_doStep_102 rfl rfl ?_
    refine j_goto (tgt := 123) dX7_doStep_103 (by decide) ?_
    exact j_return dX7_doStep_123 rfl (by unfold cDo; first | (rw [if_pos (by omega)]; done) | (rw [if_neg (by omega), if_pos (by omega)]; done) | (rw [if_neg (by omega), if_neg (by omega), if_pos (by omega), decide_eq_true (by omega)]; done) | (rw [if_neg (by omega), if_neg (by omega), if_pos (by omega), decide_eq_false (by omega)]; done) | (rw [if_neg (by omega), if_neg (by omega), if_neg (by omega)]; done))
  by_cases h19_114 : tC m p = 114
  · refine j_lookup (x' := tC m p) (tgt := 52) (off := 33) dX7_doStep_19 rfl (by first | exact wr_id' (by omega) (by omega) | with_reducible exact wr_bI _ | exact rfl) (by rw [h19_114]; rfl) (by decide) ?_
    have hm2 := hm
    rw [cMay, if_neg (by omega), if_pos (by omega), Bool.and_eq_true] at hm2
    have hc2 := of_decide_eq_true (Bool.and_eq_true_iff.mp hm2.1).1
    refine j_aload0 (q := 53) dX7_doStep_52 rfl ?_
    refine j_getR 0 (q := 56) dX7_doStep_53 rfl fl_X7_10 (E.2.2 _ _ sh_0) rfl ?_
    refine j_iload2 (q := 57) dX7_doStep_56 rfl ?_
    refine j_callV1 (Mc := iX3_readBit) (q := 60) (c' := 0) (s' := 0) dX7_doStep_57 rfl kV_X3_readBit jw_791 ⟨by decide, by decide⟩ (E.2.2 _ _ sh_1) rfl rfl rfl (Nat.le_refl _) (Nat.le_refl _) (ct_X3_readBit E hq (by omega) (by assumption)) ?_
    refine j_pop (q := 61) dX7_doStep_60 rfl rfl ?_
    refine j_goto (tgt := 123) dX7_doStep_61 (by decide) ?_
    exact j_return dX7_doStep_123 rfl (by unfold cDo; first | (rw [if_pos (by omega)]; done) | (rw [if_neg (by omega), if_pos (by omega)]; done) | (rw [if_neg (by omega), if_neg (by omega), if_pos (by omega), decide_eq_true (by omega)]; done) | (rw [if_neg (by omega), if_neg (by omega), if_pos (by omega), decide_eq_false (by omega)]; done) | (rw [if_neg (by omega), if_neg (by omega), if_neg (by omega)]; done))
  by_cases h19_119 : tC m p = 119
  · refine j_lookup (x' := tC m p) (tgt := 64) (off := 45) dX7_doStep_19 rfl (by first | exact wr_id' (by omega) (by omega) | with_reducible exact wr_bI _ | exact rfl) (by rw [h19_119]; rfl) (by decide) ?_
    have hm2 := hm
    rw [cMay, if_neg (by omega), if_neg (by omega), if_pos (by omega)] at hm2
    have hc2 := of_decide_eq_true (Bool.and_eq_true_iff.mp hm2).1
    refine j_aload0 (q := 65) dX7_doStep_64 rfl ?_
    refine j_getR 0 (q := 68) dX7_doStep_65 rfl fl_X7_10 (E.2.2 _ _ sh_0) rfl ?_
    refine j_iload2 (q := 69) dX7_doStep_68 rfl ?_
    refine j_aload0 (q := 70) dX7_doStep_69 rfl ?_
    refine j_getR 3 (q := 73) dX7_doStep_70 rfl fl_X7_29 (E.2.2 _ _ sh_0) rfl ?_
    refine j_iload1 (q := 74) dX7_doStep_73 rfl ?_
    refine j_iconst (q := 75) dX7_doStep_74 rfl ?_
    refine j_iadd (q := 76) dX7_doStep_75 rfl ?_
    refine j_callV1 (Mc := iX6_codeAt) (q := 79) (c' := 0) (s' := 0) dX7_doStep_76 rfl kV_X6_codeAt jw_866 ⟨by decide, by decide⟩ (E.2.2 _ _ sh_195) rfl rfl rfl (Nat.le_refl _) (Nat.le_refl _) (cp_codeAt E (by omega) hT) ?_
    refine j_bipush (q := 81) dX7_doStep_79 rfl rfl ?_
    refine j_icmp_ne (tgt := 88) (q := 84) dX7_doStep_81 (by decide) rfl (by first | exact wr_id' (by omega) (by omega) | with_reducible exact wr_bI _ | exact rfl) (by first | exact wr_id' (by omega) (by omega) | with_reducible exact wr_bI _ | exact rfl) (fun h81 => ?_) (fun h81 => ?_)
    · refine j_iconst (q := 89) dX7_doStep_88 rfl ?_
      refine j_callV2v (Mc := iX3_writeBit) (q := 92) (c' := 0) (s' := 0) dX7_doStep_89 rfl kV_X3_writeBit jw_780 ⟨by decide, by decide⟩ (E.2.2 _ _ sh_1) rfl rfl rfl (Nat.le_refl _) (Nat.le_refl _) (ct_X3_writeBit (b := false) E hq (by omega) (by assumption)) ?_
      refine j_goto (tgt := 123) dX7_doStep_92 (by decide) ?_
      exact j_return dX7_doStep_123 rfl (by unfold cDo; first | (rw [if_pos (by omega)]; done) | (rw [if_neg (by omega), if_pos (by omega)]; done) | (rw [if_neg (by omega), if_neg (by omega), if_pos (by omega), decide_eq_true (by omega)]; done) | (rw [if_neg (by omega), if_neg (by omega), if_pos (by omega), decide_eq_false (by omega)]; done) | (rw [if_neg (by omega), if_neg (by omega), if_neg (by omega)]; done))
    · refine j_iconst (q := 85) dX7_doStep_84 rfl ?_
      refine j_goto (tgt := 89) dX7_doStep_85 (by decide) ?_
      refine j_callV2v (Mc := iX3_writeBit) (q := 92) (c' := 0) (s' := 0) dX7_doStep_89 rfl kV_X3_writeBit jw_780 ⟨by decide, by decide⟩ (E.2.2 _ _ sh_1) rfl rfl rfl (Nat.le_refl _) (Nat.le_refl _) (ct_X3_writeBit (b := true) E hq (by omega) (by assumption)) ?_
      refine j_goto (tgt := 123) dX7_doStep_92 (by decide) ?_
      exact j_return dX7_doStep_123 rfl (by unfold cDo; first | (rw [if_pos (by omega)]; done) | (rw [if_neg (by omega), if_pos (by omega)]; done) | (rw [if_neg (by omega), if_neg (by omega), if_pos (by omega), decide_eq_true (by omega)]; done) | (rw [if_neg (by omega), if_neg (by omega), if_pos (by omega), decide_eq_false (by omega)]; done) | (rw [if_neg (by omega), if_neg (by omega), if_neg (by omega)]; done))
  refine j_lookup (x' := tC m p) (tgt := 106) (off := 87) dX7_doStep_19 rfl (by first | exact wr_id' (by omega) (by omega) | with_reducible exact wr_bI _ | exact rfl) (by simp only [Op.lookupswitch.offset_cons]; rw [if_neg (fun q => h19_98 q.symm), if_neg (fun q => h19_114 q.symm), if_neg (fun q => h19_119 q.symm)]; rfl) (by decide) ?_
  refine j_aload0 (q := 107) dX7_doStep_106 rfl ?_
  refine j_getR 0 (q := 110) dX7_doStep_107 rfl fl_X7_10 (E.2.2 _ _ sh_0) rfl ?_
  refine j_aload0 (q := 111) dX7_doStep_110 rfl ?_
  refine j_getR 3 (q := 114) dX7_doStep_111 rfl fl_X7_29 (E.2.2 _ _ sh_0) rfl ?_
  refine j_iload1 (q := 115) dX7_doStep_114 rfl ?_
  refine j_iconst (q := 116) dX7_doStep_115 rfl ?_
  refine j_iadd (q := 117) dX7_doStep_116 rfl ?_
  refine j_callV1 (Mc := iX6_digitAt) (q := 120) (c' := 0) (s' := 0) dX7_doStep_117 rfl kV_X6_digitAt jw_872 ⟨by decide, by decide⟩ (E.2.2 _ _ sh_195) rfl rfl rfl (Nat.le_refl _) (Nat.le_refl _) (cp_digitAt E (by omega) hT) ?_
  refine j_callV1v (Mc := iX3_letPass) (q := 123) (c' := 0) (s' := 0) dX7_doStep_120 rfl kV_X3_letPass jw_812 ⟨by decide, by decide⟩ (E.2.2 _ _ sh_1) rfl rfl rfl (Nat.le_refl _) (Nat.le_refl _) (ca_X3_letPass E hq (by omega) (by assumption)) ?_
  exact j_return dX7_doStep_123 rfl (by unfold cDo; first | (rw [if_pos (by omega)]; done) | (rw [if_neg (by omega), if_pos (by omega)]; done) | (rw [if_neg (by omega), if_neg (by omega), if_pos (by omega), decide_eq_true (by omega)]; done) | (rw [if_neg (by omega), if_neg (by omega), if_pos (by omega), decide_eq_false (by omega)]; done) | (rw [if_neg (by omega), if_neg (by omega), if_neg (by omega)]; done))

/-! the class: what its steps leave alone, programs -/
def UL (k : Nat) (j : Int) : Prop := (k = 0 ∧ ¬ j = 10) ∨ k = 1 ∨ k = 4 ∨ k = 5 ∨ k = 6 ∨ k = 8 ∨ (10 ≤ k ∧ k ≤ 13) ∨ k = 17 ∨ (19 ≤ k ∧ k ≤ 21)
theorem cPcF_o {i s : Int} {k : Nat} {x : Int} (h : ¬ k = 18 ∧ ¬ k = 22 ∧ ¬ k = 14 ∧ ¬ k = 16 ∧ ¬ k = 23) : ∀ (d : Nat) (j q : Int) (P : Mem), (cPcF i s d j q P).1 k x = P k x := by
  intro d
  induction d with
  | zero => intro j q P; rfl
  | succ d ih =>
    intro j q P
    rw [cPcF]
    split
    · rw [ih, cPa_o (by omega)]
    · rw [ih, up_ne (by omega)]
theorem cPay_o {P : Mem} {i : Int} {k : Nat} {x : Int} (h : ¬ k = 18 ∧ ¬ k = 22 ∧ ¬ k = 14 ∧ ¬ k = 16 ∧ ¬ k = 23 ∧ ¬ (k = 0 ∧ x = 10)) : cPay P i k x = P k x := by
  unfold cPay
  rw [up_ne (by omega), cPcF_o (by omega)]
theorem cEnC_o {P : Mem} {i t : Int} {k : Nat} {x : Int} (h : ¬ k = 23 ∧ ¬ (k = 0 ∧ x = 10)) : cEnC P i t k x = P k x := by
  unfold cEnC
  split
  · rfl
  · rw [up_ne (by omega), up_ne (by omega)]
theorem cLoA_o {P : Mem} {c w : Int} {k : Nat} {x : Int} (h : ¬ k = 3 ∧ ¬ k = 9 ∧ ¬ k = 2) : cLoA P c w k x = P k x := by
  simp only [cLoA, cPut]
  rw [up_ne (by omega), up_ne (by omega), up_ne (by omega)]
theorem cLoB_o {P : Mem} {t : Int} {k : Nat} {x : Int} (h : ¬ k = 15) : cLoB P t k x = P k x := by unfold cLoB; rw [up_ne (by omega)]
theorem cLo_o {P : Mem} {c w : Int} {k : Nat} {x : Int} (h : UL k x) : cLo P c w k x = P k x := by
  unfold UL at h
  unfold cLo
  split
  · split
    · rw [cPay_o (by omega), cEnC_o (by omega), cEp, up_ne (by omega), cLoB_o (by omega), cLoA_o (by omega)]
    · rw [cLoB_o (by omega), cLoA_o (by omega)]
  · rw [cLoA_o (by omega)]
theorem cPuF_o {x : Int64} {k : Nat} {j : Int} (h : UL k j) : ∀ (d : Nat) (c : Int) (P : Mem), cPuF x d c P k j = P k j := by
  intro d
  induction d with
  | zero => intro c P; rfl
  | succ d ih =>
    intro c P
    rw [cPuF]
    split
    · rfl
    · rw [ih]
      split
      · exact cLo_o h
      · rfl
theorem cPul_o {P : Mem} {c b : Int} {k : Nat} {j : Int} (h : UL k j) (h1 : ¬ (k = 0 ∧ j = 1)) (h4 : ¬ (k = 4 ∧ j = c)) : cPul P c b k j = P k j := by
  unfold cPul cPulL
  rw [up_ne h1, cPuF_o h, cPul1, up_ne h4]
theorem cStr_o {P : Mem} {c : Int} {k : Nat} {j : Int} (h : ¬ k = 10 ∧ ¬ k = 11 ∧ ¬ k = 12) : cStr P c k j = P k j := by
  have g : ∀ (d : Nat) (i q : Int) (P : Mem), (cStF c d i q P).1 k j = P k j := by
    intro d
    induction d with
    | zero => intro i q P; rfl
    | succ d ih =>
      intro i q P
      rw [cStF]
      split
      · exact ih _ _ _
      · rw [ih, up_ne (by omega)]
  unfold cStr
  split
  · rw [up_ne (by omega), up_ne (by omega), g]
  · rfl
theorem cEnt_o {P : Mem} {c t : Int} {k : Nat} {j : Int} (h : ¬ k = 10 ∧ ¬ k = 11 ∧ ¬ k = 12) : cEnt P c t k j = P k j := by
  have g : ∀ (d : Nat) (P : Mem), cEnF c t d P k j = P k j := by
    intro d
    induction d with
    | zero => intro P; rw [cEnF, up_ne (by omega)]
    | succ d ih =>
      intro P
      rw [cEnF]
      split
      · rw [ih, up_ne (by omega)]
      · rw [up_ne (by omega)]
  unfold cEnt
  split
  · rfl
  · rw [up_ne (by omega), up_ne (by omega), g]
theorem cWb_o {P : Mem} {c : Int} {b : Bool} {k : Nat} {j : Int} (h : UL k j) (h1 : ¬ (k = 0 ∧ j = 1)) (h4 : ¬ k = 4) (h5 : ¬ (10 ≤ k ∧ k ≤ 12)) : cWb P c b k j = P k j := by
  have h' := h
  unfold UL at h'
  have e : cWbA P c b k j = P k j := by rw [cWbA, cPut, up_ne (by omega), cPul_o h h1 (by omega)]
  unfold cWb
  split
  · rw [up_ne (by omega), cStr_o (by omega), e]
  · exact e
theorem cRd_o {P : Mem} {c : Int} {k : Nat} {j : Int} (h : UL k j) (h1 : ¬ (k = 0 ∧ j = 1)) (h4 : ¬ k = 4) (h5 : ¬ (10 ≤ k ∧ k ≤ 12)) : cRd P c k j = P k j := by
  have h' := h
  unfold UL at h'
  have e : cRdA P c k j = P k j := by rw [cRdA, up_ne (by omega), cPul_o h h1 (by omega)]
  unfold cRd
  split
  · rw [cEnt_o (by omega), cRdB, cPut, up_ne (by omega), up_ne (by omega), e]
  · exact e
theorem cFb_o {P : Mem} {k : Nat} {j : Int} (h : UL k j) (h1 : ¬ (k = 0 ∧ j = 1)) (h4 : ¬ k = 4) (h5 : ¬ (10 ≤ k ∧ k ≤ 12)) : cFb P k j = P k j := by
  have h' := h
  unfold UL at h'
  have e : ∀ c, cFbA P c k j = P k j := fun c => by rw [cFbA, cStr_o (by omega), cPul_o h h1 (by omega)]
  unfold cFb
  split
  · split
    · rw [up_ne (by omega), cPut, up_ne (by omega), e]
    · rw [cLo_o h, e]
  · rfl
theorem cLtF_o {k : Nat} {j : Int} (h : UL k j) (h5 : ¬ (10 ≤ k ∧ k ≤ 12)) : ∀ (d : Nat) (P : Mem), cLtF d P k j = P k j := by
  have h' := h
  unfold UL at h'
  intro d
  induction d with
  | zero => intro P; rfl
  | succ d ih =>
    intro P
    rw [cLtF]
    split
    · rw [ih, cLo_o h, cStr_o (by omega)]
    · rfl
theorem cTcA_o {P : Mem} {c : Int} {k : Nat} {j : Int} (h : ¬ k = 7) : cTcA P c k j = P k j := by
  unfold cTcA
  split
  · rw [cEp, up_ne (by omega)]
  · rfl
theorem cElO_o {P : Mem} {c : Int} {k : Nat} {j : Int} (h : ¬ k = 7 ∧ ¬ k = 5 ∧ ¬ k = 2 ∧ ¬ k = 10 ∧ ¬ k = 11 ∧ ¬ k = 12) : cElO P c k j = P k j := by
  have e : cEl P c k j = P k j := by rw [cEl, cEp, up_ne (by omega), up_ne (by omega)]
  unfold cElO
  split
  · rw [up_ne (by omega), cStr_o (by omega), e]
  · exact e
theorem cTcB_o {P : Mem} {c : Int} {k : Nat} {j : Int} (h : ¬ k = 7 ∧ ¬ k = 5 ∧ ¬ k = 2 ∧ ¬ k = 10 ∧ ¬ k = 11 ∧ ¬ k = 12) : cTcB P c k j = P k j := by
  unfold cTcB
  split
  · exact cElO_o h
  · rfl
theorem cTcF_o {k : Nat} {j : Int} (h : ¬ k = 7 ∧ ¬ k = 5 ∧ ¬ k = 2 ∧ ¬ k = 10 ∧ ¬ k = 11 ∧ ¬ k = 12) : ∀ (d : Nat) (c : Int) (P : Mem), cTcF d c P k j = P k j := by
  intro d
  induction d with
  | zero => intro c P; rfl
  | succ d ih => intro c P; rw [cTcF, ih, cTcB_o h, cTcA_o (by omega)]
theorem cTk_0 {P : Mem} : cTk P 0 0 = P 0 0 + 1 := by
  unfold cTk
  rw [cTcF_o (by omega), cLtF_o (by unfold UL; omega) (by omega), cTk0, up_ne (by omega), up_at]
theorem cTkN_0 : ∀ (d : Nat) (P : Mem), cTkN d P 0 0 = P 0 0 + d := by
  intro d
  induction d with
  | zero => intro P; simp [cTkN]
  | succ d ih => intro P; rw [cTkN, ih, cTk_0]; omega
theorem cDo_0 {m P : Mem} {t p : Int} (hT : TL m) (hm : cMay m P t p = true) (hz : 0 ≤ P 0 0 ∧ P 0 0 ≤ 10000) : 0 ≤ cDo m p P 0 0 ∧ cDo m p P 0 0 ≤ 10000 := by
  have hb := tC_b hT (p + 1)
  unfold cDo
  by_cases h0 : tC m p = 98
  · rw [if_pos h0, cFb_o (by unfold UL; omega) (by omega) (by omega) (by omega)]; exact hz
  by_cases h1 : tC m p = 114
  · rw [if_neg h0, if_pos h1, cRd_o (by unfold UL; omega) (by omega) (by omega) (by omega)]; exact hz
  by_cases h2 : tC m p = 119
  · rw [if_neg h0, if_neg h1, if_pos h2, cWb_o (by unfold UL; omega) (by omega) (by omega) (by omega)]; exact hz
  · rw [if_neg h0, if_neg h1, if_neg h2, cTkN_0]
    rw [cMay, if_neg h0, if_neg h1, if_neg h2] at hm
    have := of_decide_eq_true hm
    omega
theorem lp_X7_run {G : GX} {sh : List SH} (E : EV G sh) {m : Mem} (hq : PA 1) {F : FinT} {t : Int} (hT : TL m) (ht : 0 ≤ t ∧ t < 6) : ∀ (d : Nat) (p : Int) (n : Int) (P : Mem), m 195 0 ≤ p + d → 0 ≤ p → p ≤ 70 → CV P → (0 ≤ P 0 0 ∧ P 0 0 ≤ 10000) → n + d = 60 → 0 ≤ n → (∀ (x : Mem × Int), x = cRnF m t d p n P → J G sh iX7_run 0 0 F 80 [some (.inr (.ref 0)), some (.inl t), some (.inl x.2), none] [] (ps m 1 x.1) 0 0) → J G sh iX7_run 0 0 F 30 [some (.inr (.ref 0)), some (.inl t), some (.inl n), some (.inl p)] [] (ps m 1 P) 0 0 := by
  intro d
  induction d with
  | zero =>
    intro p n P g0 g1 g2 g3 g4 g5 g6 kk
    have hl := hT.1
    refine j_iload2 (q := 31) dX7_run_30 rfl ?_
    refine j_bipush (q := 33) dX7_run_31 rfl rfl ?_
    refine j_icmp_ge (tgt := 80) (q := 36) dX7_run_33 (by decide) rfl (by first | exact wr_id' (by omega) (by omega) | with_reducible exact wr_bI _ | exact rfl) (by first | exact wr_id' (by omega) (by omega) | with_reducible exact wr_bI _ | exact rfl) (fun h33 => ?_) (fun h33 => ?_)
    · refine j_cg (L' := [some (.inr (.ref 0)), some (.inl t), some (.inl (cRnF m t 0 p n P).2), some (.inl p)]) (m' := ps m 1 (cRnF m t 0 p n P).1) (by simp only [cRnF]) rfl (by simp only [cRnF]) ?_
      refine j_fgt3 ?_
      exact kk _ rfl
    · omega
  | succ d ih =>
    intro p n P g0 g1 g2 g3 g4 g5 g6 kk
    have hl := hT.1
    refine j_iload2 (q := 31) dX7_run_30 rfl ?_
    refine j_bipush (q := 33) dX7_run_31 rfl rfl ?_
    refine j_icmp_ge (tgt := 80) (q := 36) dX7_run_33 (by decide) rfl (by first | exact wr_id' (by omega) (by omega) | with_reducible exact wr_bI _ | exact rfl) (by first | exact wr_id' (by omega) (by omega) | with_reducible exact wr_bI _ | exact rfl) (fun h33 => ?_) (fun h33 => ?_)
    · omega
    · refine j_iload3 (q := 37) dX7_run_36 rfl ?_
      refine j_aload0 (q := 38) dX7_run_37 rfl ?_
      refine j_getR 3 (q := 41) dX7_run_38 rfl fl_X7_29 (E.2.2 _ _ sh_0) rfl ?_
      refine j_qgetI (by decide) 0 (j' := 0) (q := 44) dX7_run_41 rfl fl_X7_174 (E.2.2 _ _ sh_195) rfl rfl ?_
      refine j_icmp_ge (tgt := 80) (q := 47) dX7_run_44 (by decide) rfl (by first | exact wr_id' (by omega) (by omega) | with_reducible exact wr_bI _ | exact rfl) (by first | exact wr_id' (by omega) (by omega) | with_reducible exact wr_bI _ | exact rfl) (fun h44 => ?_) (fun h44 => ?_)
      · obtain ⟨hx0⟩ : Nonempty (cRnF m t (d + 1) p n P = (P, n)) := ⟨by rw [cRnF, if_neg (by first | (intro z; omega) | (intro z; have := z.2; simp_all))]⟩
        refine j_cg (L' := [some (.inr (.ref 0)), some (.inl t), some (.inl (cRnF m t (d + 1) p n P).2), some (.inl p)]) (m' := ps m 1 (cRnF m t (d + 1) p n P).1) (by rw [hx0]) rfl (by rw [hx0]) ?_
        refine j_fgt3 ?_
        exact kk _ rfl
      · refine j_aload0 (q := 48) dX7_run_47 rfl ?_
        refine j_iload1 (q := 49) dX7_run_48 rfl ?_
        refine j_iload3 (q := 50) dX7_run_49 rfl ?_
        refine j_callV2 (Mc := iX7_canDoStep) (q := 53) (c' := 0) (s' := 0) dX7_run_50 rfl kV_X7_canDoStep jw_854 ⟨by decide, by decide⟩ (E.2.2 _ _ sh_0) rfl rfl rfl (Nat.le_refl _) (Nat.le_refl _) (ct_X7_canDoStep E (by omega) hT (by assumption) (by assumption)) ?_
        refine j_ifeq_b (tgt := 80) (q := 56) dX7_run_53 (by decide) rfl (fun h53 => ?_) (fun h53 => ?_)
        · obtain ⟨hx0⟩ : Nonempty (cRnF m t (d + 1) p n P = (P, n)) := ⟨by rw [cRnF, if_neg (by first | (intro z; omega) | (intro z; have := z.2; simp_all))]⟩
          refine j_cg (L' := [some (.inr (.ref 0)), some (.inl t), some (.inl (cRnF m t (d + 1) p n P).2), some (.inl p)]) (m' := ps m 1 (cRnF m t (d + 1) p n P).1) (by rw [hx0]) rfl (by rw [hx0]) ?_
          refine j_fgt3 ?_
          exact kk _ rfl
        · refine j_aload0 (q := 57) dX7_run_56 rfl ?_
          refine j_iload3 (q := 58) dX7_run_57 rfl ?_
          refine j_callV1v (Mc := iX7_doStep) (q := 61) (c' := 0) (s' := 0) dX7_run_58 rfl kV_X7_doStep jw_873 ⟨by decide, by decide⟩ (E.2.2 _ _ sh_0) rfl rfl rfl (Nat.le_refl _) (Nat.le_refl _) (ct_X7_doStep E (by omega) hT (by assumption) (by assumption)) ?_
          have hb := tC_b hT p
          have hn := tN_b (tC m p)
          refine j_iinc2 (q := 64) dX7_run_61 rfl rfl (by decide) ?_
          refine j_iload3 (q := 65) dX7_run_64 rfl ?_
          refine j_aload0 (q := 66) dX7_run_65 rfl ?_
          refine j_getR 3 (q := 69) dX7_run_66 rfl fl_X7_29 (E.2.2 _ _ sh_0) rfl ?_
          refine j_iload3 (q := 70) dX7_run_69 rfl ?_
          refine j_callV1 (Mc := iX6_stepLength) (q := 73) (c' := 0) (s' := 0) dX7_run_70 rfl kV_X6_stepLength jw_877 ⟨by decide, by decide⟩ (E.2.2 _ _ sh_195) rfl rfl rfl (Nat.le_refl _) (Nat.le_refl _) (cp_stepLength E (by omega) hT) ?_
          refine j_iconst (q := 74) dX7_run_73 rfl ?_
          refine j_iadd (q := 75) dX7_run_74 rfl ?_
          refine j_iadd (q := 76) dX7_run_75 rfl ?_
          refine j_istore3 (q := 77) dX7_run_76 rfl rfl (by decide) ?_
          refine j_goto (tgt := 30) dX7_run_77 (by decide) ?_
          refine j_cg (L' := [some (.inr (.ref 0)), some (.inl t), some (.inl (n + 1)), some (.inl (p + (tN (tC m p) + 1)))]) rfl rfl rfl ?_
          exact ih _ _ _ (by omega) (by omega) (by omega) (CV_do (by assumption) g3) (cDo_0 hT (by assumption) g4) (by omega) (by omega) (fun x hx => kk x (hx.trans (by rw [cRnF, if_pos ⟨by omega, by assumption⟩])))
theorem kM_o {m P : Mem} {c : Nat} {j : Int} (h1 : 0 ≤ m 49 0 ∧ m 49 0 ≤ 6) (hs : SR m) (h : 195 ≤ c) : kM m P c j = m c j := by
  have e49 : ps m 1 P 49 = m 49 := ps_ne (by omega)
  have h1' : 0 ≤ ps m 1 P 49 0 ∧ ps m 1 P 49 0 ≤ 6 := by rw [e49]; exact h1
  have h2 := kp1_s h1'
  have h3 : 0 ≤ kp1 (ps m 1 P) 49 0 ∧ kp1 (ps m 1 P) 49 0 < 6 := by rw [h2, e49]; split <;> omega
  obtain ⟨r, hr1, hr, hr2, hr3⟩ := okr_PA ((kp1_SR (SR_ps (P := P) hs)).1 (kp1 (ps m 1 P) 49 0) h3.1 h3.2)
  unfold kM kpS
  rw [up_ne (by omega), hr1]
  unfold kp2
  rw [ps_ne (by omega), kp1_o (by omega), ps_ne (by omega)]
theorem TL_kM {m P : Mem} (h1 : 0 ≤ m 49 0 ∧ m 49 0 ≤ 6) (hs : SR m) (hT : TL m) : TL (kM m P) := by
  unfold TL
  rw [kM_o h1 hs (by omega)]
  exact ⟨hT.1, fun j a b => by rw [kM_o h1 hs (by omega)]; exact hT.2 j a b⟩
def cRun (m P : Mem) (t : Int) : Mem × Int := cRnF (kM m P) t 60 0 0 P
theorem ct_X7_run {G : GX} {sh : List SH} (E : EV G sh) {m P : Mem} {t : Int} (r_t : -2147483648 ≤ t ∧ t < 2147483648) (bt : 0 ≤ P 13 0 ∧ P 13 0 ≤ 6) (hT : TL m) (p0 : 0 ≤ t ∧ t < P 13 0) (p1 : tOk m = true) (hSR : SR m) (hSZ : 0 ≤ m 49 0 ∧ m 49 0 ≤ 6) (hw : 0 ≤ P 0 10 ∧ P 0 10 ≤ 512) (hV : CV P) (hz : 0 ≤ P 0 0 ∧ P 0 0 ≤ 10000) : CT G sh iX7_run 0 0 [.inr (.ref 0), .inl t] (ps m 1 P) (some (.inl (cRun m P t).2)) (ps (up (kM m P) 195 0 0) 1 (cRun m P t).1) := by
  have hq : PA 1 := PA1
  refine j_met (L0 := [some (.inr (.ref 0)), some (.inl t), none, none]) (by decide) E.1 E.2.1 rfl (Nat.le_of_ble_eq_true rfl) ?_
  refine j_aload0 (q := 1) dX7_run_0 rfl ?_
  refine j_iload1 (q := 2) dX7_run_1 rfl ?_
  refine j_callV1v (Mc := iX7_requireTenant) (q := 5) (c' := 0) (s' := 0) dX7_run_2 rfl kV_X7_requireTenant jw_529 ⟨by decide, by decide⟩ (E.2.2 _ _ sh_0) rfl rfl rfl (Nat.le_refl _) (Nat.le_refl _) (ct_X7_requireTenant E hq (by omega) (by omega)) ?_
  refine j_aload0 (q := 6) dX7_run_5 rfl ?_
  refine j_getR 3 (q := 9) dX7_run_6 rfl fl_X7_29 (E.2.2 _ _ sh_0) rfl ?_
  refine j_callV0 (Mc := iX6_isProgram) (q := 12) (c' := 0) (s' := 0) dX7_run_9 rfl kV_X6_isProgram jw_839 ⟨by decide, by decide⟩ (E.2.2 _ _ sh_195) rfl rfl rfl (Nat.le_refl _) (Nat.le_refl _) (cp_isProgram E hT) ?_
  refine j_callS1v (Mc := iX7_requireArgument) (q := 15) (c' := 0) (s' := 0) dX7_run_12 rfl kS_X7_requireArgument jw_336 ⟨by decide, by decide⟩ rfl (Nat.le_refl _) (Nat.le_refl _) (ct_X7_requireArgument E (by first | assumption | exact decide_eq_true (by omega) | (simp_all; done))) ?_
  refine j_aload0 (q := 16) dX7_run_15 rfl ?_
  refine j_getR 2 (q := 19) dX7_run_16 rfl fl_X7_22 (E.2.2 _ _ sh_0) rfl ?_
  refine j_aload0 (q := 20) dX7_run_19 rfl ?_
  refine j_getR 0 (q := 23) dX7_run_20 rfl fl_X7_10 (E.2.2 _ _ sh_0) rfl ?_
  refine j_callV1v (Mc := iX4_keep) (q := 26) (c' := 0) (s' := 0) dX7_run_23 rfl kV_X4_keep jw_355 ⟨by decide, by decide⟩ (E.2.2 _ _ sh_49) rfl rfl rfl (Nat.le_refl _) (Nat.le_refl _) (show CT G sh iX4_keep 0 0 [.inr (.ref 49), .inr (.ref 1)] (ps m 1 P) none (ps (kM m P) 1 P) from (kM_ps hSZ hSR) ▸ ct_X4_keep E (SR_ps hSR) (by have e : ps m 1 P 49 = m 49 := ps_ne (by omega); rw [e]; exact hSZ) hw) ?_
  refine j_iconst (q := 27) dX7_run_26 rfl ?_
  refine j_istore2 (q := 28) dX7_run_27 rfl rfl (by decide) ?_
  refine j_iconst (q := 29) dX7_run_28 rfl ?_
  refine j_istore3 (q := 30) dX7_run_29 rfl rfl (by decide) ?_
  have hT2 := TL_kM (P := P) hSZ hSR hT
  refine lp_X7_run E hq hT2 (t := t) ⟨by omega, by omega⟩ 60 0 0 P (by have := hT2.1; omega) (by omega) (by omega) hV hz (by omega) (by omega) ?_
  intro x hx
  have hx2 : x = cRun m P t := hx
  subst hx2
  refine j_aload0 (q := 81) dX7_run_80 rfl ?_
  refine j_getR 3 (q := 84) dX7_run_81 rfl fl_X7_29 (E.2.2 _ _ sh_0) rfl ?_
  refine j_iconst (q := 85) dX7_run_84 rfl ?_
  refine j_qputI (by decide) 0 (j' := 0) (q := 88) dX7_run_85 rfl fw_X7_174 (E.2.2 _ _ sh_195) rfl rfl ?_
  refine j_iload2 (q := 89) dX7_run_88 rfl ?_
  exact j_ireturn dX7_run_89 rfl (rfl) (rfl)

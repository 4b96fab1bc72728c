/-! the class: its face, what asks -/
def cCN (P : Mem) (c w : Int) : Int :=
  if w = 0 then bI (cOne P c) else if w = 1 then P 4 c else if w = 2 then P 5 c else if w = 3 then cLL P c else if w = 4 then P 7 c else if w = 5 then cPL P c else if w = 6 then bI (cOw P c) else if w = 7 then P 12 c else P 9 c
def cTN (P : Mem) (t w : Int) : Int :=
  if w = 0 then P 14 t else if w = 1 then bc (cLsF P t) else if w = 2 then bc (cLsF P t &&& cInF P) else if w = 3 then P 15 t else if w = 4 then P 16 t else cWqT P t
def cIN (P : Mem) (i w : Int) : Int :=
  if w = 0 then P 18 i else if w = 1 then P 19 i else if w = 2 then P 20 i else if w = 3 then cInB P i else if w = 4 then P 22 i else if w = 5 then cWqI P i else P 21 i
def cOwd (P : Mem) (p w : Int) : Int := if P 10 0 ≤ p then -1 else if w = 0 then P 11 p else cDu P (P 11 p)
def cWsF (P : Mem) : Nat → Int → Int
  | 0, f => f
  | d + 1, f => cWsF P d (cNw P f)
def cCnt (P : Mem) (s w : Int) : Int :=
  if w = 0 then P 0 0 else if w = 1 then P 0 1 else if w = 2 then P 13 0 else if w = 3 then P 17 0 else if w = 4 then 64 - bc (cLsF P (-1)) else if w = 5 then bc (cInF P) else if w = 6 then P 10 0 else if w = 7 then bc (lo (P 3 0)) else if w = 16 then P 0 2 else if w = 18 then s else P 2 w
def cChF (P : Mem) (c v k : Int) : Nat → Int → Int → Int → Int
  | 0, _, b, _ => b
  | d + 1, i, b, l => if v ≤ wr (P 20 i) ∧ (b = -1 ∨ wr (cPrem P c i k (P 0 1)) < wr l) then cChF P c v k d (i + 1) i (cPrem P c i k (P 0 1)) else cChF P c v k d (i + 1) b l
def cCh (P : Mem) (c v k : Int) : Int := cChF P c v k (P 17 0).toNat 0 (-1) 0
def cWtF (P : Mem) (c i k x : Int) : Nat → Int → Int
  | 0, _ => -1
  | d + 1, n => if wr (cPrem P c i k (cMx 0 (P 0 1 - n * P 1 6))) ≤ x then n else cWtF P c i k x d (n + 1)
def cRN (P : Mem) (c w : Int) : Int :=
  if w = 0 then bI (cOne P c) else if w = 1 then bc (cFr P &&& lin c) else if w = 2 then cHb P (P 1 2) else if w = 3 then cSbp P c else bc (cFr P &&& lin c &&& cInF P)
def cGF (P : Mem) (x : Int64) : Nat → Int → Int → Int → Int → Int
  | 0, _, b, _, _ => b
  | d + 1, c, b, f, g => if (cOne P c && cCR P c) = true ∧ (b = -1 ∨ wr (bc (x &&& lin c)) < wr f ∨ wr (bc (x &&& lin c)) = wr f ∧ wr g < wr (P 4 c)) then cGF P x d (c + 1) c (bc (x &&& lin c)) (P 4 c) else cGF P x d (c + 1) b f g
def cG (P : Mem) : Int := cGF P (cFr P) 64 0 (-1) 64 0
def cSvI : Nat → Mem → Mem
  | 0, Q => Q
  | k + 1, Q => if 0 < wr (Q 10 0) then cSvI k (cFb Q) else Q
def cSvF (p : Nat) : Nat → Mem → Mem
  | 0, Q => Q
  | n + 1, Q => if 0 < wr (Q 10 0) then cSvF p n (cTk (cSvI p Q)) else Q
def cSvE (T P : Mem) (p : Int) : Mem := cSvF p.toNat 64 (bcP T P)
def cRkF (P : Mem) (x : Int64) : Nat → Int → Int → Int
  | 0, _, b => b
  | d + 1, c, b => cRkF P x d (c + 1) (if cCR P c = true then cMx b (bc (x &&& lin c)) else b)
def cRk (P : Mem) (t : Int) : Int := cRkF P (cFr P &&& cLsF P t) 64 0 0
def cBk (P : Mem) : UInt64 := if wr (P 2 9) = 0 then FP.dconst0 else FP.ddiv (FP.i2d (jI (P 2 10))) (FP.i2d (jI (P 2 9)))
theorem CV_bc {P Q : Mem} (h : CV Q) : CV (bcP P Q) := by
  obtain ⟨a, b, c, d, e⟩ := h
  have o23 : ∀ (k : Nat) (j : Int), ¬ k = 23 → bcP P Q k j = bcA P Q k j := fun k j hk => cpP_o hk
  have e13 : bcP P Q 13 0 = Q 13 0 := by
    rw [o23 _ _ (by omega)]; simp only [bcA, bcI, bcT]
    rw [up_ne (by omega), cpP_o (by omega), cpP_o (by omega), cpP_o (by omega), cpP_o (by omega), cpP_o (by omega), up_ne (by omega), cpP_o (by omega), cpP_o (by omega), cpP_o (by omega), up_at]
  have e17 : bcP P Q 17 0 = Q 17 0 := by
    rw [o23 _ _ (by omega)]; simp only [bcA, bcI]
    rw [up_ne (by omega), cpP_o (by omega), cpP_o (by omega), cpP_o (by omega), cpP_o (by omega), cpP_o (by omega), up_at]
  have e010 : bcP P Q 0 10 = Q 0 10 := by rw [o23 _ _ (by omega)]; simp only [bcA]; exact up_at
  have e100 : bcP P Q 10 0 = Q 10 0 := by
    rw [o23 _ _ (by omega)]; simp only [bcA, bcI, bcT, bcD]
    rw [up_ne (by omega), cpP_o (by omega), cpP_o (by omega), cpP_o (by omega), cpP_o (by omega), cpP_o (by omega), up_ne (by omega), cpP_o (by omega), cpP_o (by omega), cpP_o (by omega), up_ne (by omega), cpP_o (by omega), cpP_o (by omega), up_at]
  have e11 : ∀ j, 0 ≤ j → j < 64 → bcP P Q 11 j = Q 11 j := fun j h1 h2 => by
    rw [o23 _ _ (by omega)]; simp only [bcA, bcI, bcT, bcD]
    rw [up_ne (by omega), cpP_o (by omega), cpP_o (by omega), cpP_o (by omega), cpP_o (by omega), cpP_o (by omega), up_ne (by omega), cpP_o (by omega), cpP_o (by omega), cpP_o (by omega), up_ne (by omega), cpP_o (by omega), cpP_i ⟨h1, h2⟩]
  have eC : ∀ (k : Nat) (j : Int), k < 10 → ¬ (k = 0 ∧ j = 10) → bcP P Q k j = bcC (cpP (cpP (up (up (up P 0 0 (Q 0 0)) 0 1 (Q 0 1)) 0 2 (Q 0 2)) 1 (Q 1) 8) 2 (Q 2) 19) Q k j := fun k j hk hj => by
    rw [o23 _ _ (by omega)]; simp only [bcA, bcI, bcT, bcD]
    rw [up_ne (by omega), cpP_o (by omega), cpP_o (by omega), cpP_o (by omega), cpP_o (by omega), cpP_o (by omega), up_ne (by omega), cpP_o (by omega), cpP_o (by omega), cpP_o (by omega), up_ne (by omega), cpP_o (by omega), cpP_o (by omega), up_ne (by omega)]
  have e5 : ∀ j, 0 ≤ j → j < 64 → bcP P Q 5 j = Q 5 j := fun j h1 h2 => by
    rw [eC _ _ (by omega) (by omega)]; simp only [bcC]
    rw [cpP_o (by omega), cpP_o (by omega), cpP_o (by omega), cpP_o (by omega), cpP_i ⟨h1, h2⟩]
  have e7 : ∀ j, 0 ≤ j → j < 64 → bcP P Q 7 j = Q 7 j := fun j h1 h2 => by
    rw [eC _ _ (by omega) (by omega)]; simp only [bcC]
    rw [cpP_o (by omega), cpP_o (by omega), cpP_i ⟨h1, h2⟩]
  refine ⟨by rw [e13]; exact a, by rw [e17]; exact b, ?_, ?_, fun j h1 h2 => by rw [e5 j h1 h2, e7 j h1 h2]; exact e j h1 h2⟩
  · rw [e010]
    exact ⟨c.1, fun j h1 h2 => by rw [bcP, cpP_i ⟨h1, h2⟩]; exact c.2 j h1 h2⟩
  · unfold CD
    rw [e100]
    exact ⟨d.1, fun j h1 h2 => by rw [e11 j h1 (by have := d.1; omega)]; exact d.2 j h1 h2⟩
theorem CV_svI : ∀ (k : Nat) (Q : Mem), CV Q → CV (cSvI k Q) := by
  intro k
  induction k with
  | zero => intro Q h; exact h
  | succ k ih =>
    intro Q h
    rw [cSvI]
    split
    · exact ih _ (CV_fb h)
    · exact h
theorem ct_X7_core {G : GX} {sh : List SH} (E : EV G sh) {m P : Mem} {c : Int} {w : Int} (r_c : -2147483648 ≤ c ∧ c < 2147483648) (r_w : -2147483648 ≤ w ∧ w < 2147483648) (p0 : 0 ≤ c ∧ c < 64) (p1 : 0 ≤ w ∧ w ≤ 8) : CT G sh iX7_core 0 0 [.inr (.ref 0), .inl c, .inl w] (ps m 1 P) (some (.inl (cCN P c w))) (ps m 1 P) := by
  have hq : PA 1 := PA1
  refine j_met (L0 := [some (.inr (.ref 0)), some (.inl c), some (.inl w)]) (by decide) E.1 E.2.1 rfl (Nat.le_of_ble_eq_true rfl) ?_
  refine j_iload1 (q := 1) dX7_core_0 rfl ?_
  refine j_callS1v (Mc := iX7_requireCore) (q := 4) (c' := 0) (s' := 0) dX7_core_1 rfl kS_X7_requireCore jw_445 ⟨by decide, by decide⟩ rfl (Nat.le_refl _) (Nat.le_refl _) (ct_X7_requireCore E (by omega) (by omega)) ?_
  refine j_iload2 (q := 5) dX7_core_4 rfl ?_
  refine j_iconst (q := 6) dX7_core_5 rfl ?_
  refine j_bipush (q := 8) dX7_core_6 rfl rfl ?_
  refine j_callS3 (Mc := iX7_within) (q := 11) (c' := 0) (s' := 0) dX7_core_8 rfl kS_X7_within jw_263 ⟨by decide, by decide⟩ rfl (Nat.le_refl _) (Nat.le_refl _) (ct_X7_within E (by omega) (by omega) (by omega)) ?_
  refine j_callS1v (Mc := iX7_requireArgument) (q := 14) (c' := 0) (s' := 0) dX7_core_11 rfl kS_X7_requireArgument jw_336 ⟨by decide, by decide⟩ rfl (Nat.le_refl _) (Nat.le_refl _) (ct_X7_requireArgument E (by first | assumption | exact decide_eq_true (by omega) | (simp_all; done))) ?_
  refine j_iload2 (q := 15) dX7_core_14 rfl ?_
  by_cases h15_0 : w = 0
  · refine j_tableIn (x' := w) (tgt := 60) 0 dX7_core_15 (by first | exact wr_id' (by omega) (by omega) | with_reducible exact wr_bI _ | exact rfl) (by omega) (by decide) rfl (by decide) ?_
    refine j_aload0 (q := 61) dX7_core_60 rfl ?_
    refine j_getR 0 (q := 64) dX7_core_61 rfl fl_X7_10 (E.2.2 _ _ sh_0) rfl ?_
    refine j_getR 5 (q := 67) dX7_core_64 rfl fl_X7_89 (E.2.2 _ _ sh_1) rfl ?_
    refine j_iload1 (q := 68) dX7_core_67 rfl ?_
    refine j_callV1 (Mc := iX0_bitOf) (q := 71) (c' := 0) (s' := 0) dX7_core_68 rfl kV_X0_bitOf jw_452 ⟨by decide, by decide⟩ (E.2.2 _ _ sh_4) rfl rfl rfl (Nat.le_refl _) (Nat.le_refl _) (ct_X0_bitOf E hq) ?_
    exact j_ireturn dX7_core_71 rfl (by unfold cCN; first | (rw [if_pos (by omega)]; done) | (rw [if_neg (by omega), if_pos (by omega)]; done) | (rw [if_neg (by omega), if_neg (by omega), if_pos (by omega)]; done) | (rw [if_neg (by omega), if_neg (by omega), if_neg (by omega), if_pos (by omega)]; done) | (rw [if_neg (by omega), if_neg (by omega), if_neg (by omega), if_neg (by omega), if_pos (by omega)]; done) | (rw [if_neg (by omega), if_neg (by omega), if_neg (by omega), if_neg (by omega), if_neg (by omega), if_pos (by omega)]; done) | (rw [if_neg (by omega), if_neg (by omega), if_neg (by omega), if_neg (by omega), if_neg (by omega), if_neg (by omega), if_pos (by omega)]; done) | (rw [if_neg (by omega), if_neg (by omega), if_neg (by omega), if_neg (by omega), if_neg (by omega), if_neg (by omega), if_neg (by omega), if_pos (by omega)]; done) | (rw [if_neg (by omega), if_neg (by omega), if_neg (by omega), if_neg (by omega), if_neg (by omega), if_neg (by omega), if_neg (by omega), if_neg (by omega)]; done)) (rfl)
  by_cases h15_1 : w = 1
  · refine j_tableIn (x' := w) (tgt := 72) 1 dX7_core_15 (by first | exact wr_id' (by omega) (by omega) | with_reducible exact wr_bI _ | exact rfl) (by omega) (by decide) rfl (by decide) ?_
    refine j_aload0 (q := 73) dX7_core_72 rfl ?_
    refine j_getR 0 (q := 76) dX7_core_73 rfl fl_X7_10 (E.2.2 _ _ sh_0) rfl ?_
    refine j_getR 5 (q := 79) dX7_core_76 rfl fl_X7_89 (E.2.2 _ _ sh_1) rfl ?_
    refine j_getR 1 (q := 82) dX7_core_79 rfl fl_X7_138 (E.2.2 _ _ sh_4) rfl ?_
    refine j_iload1 (q := 83) dX7_core_82 rfl ?_
    refine j_pload (q := 84) (d := 4) rfl (by decide) dX7_core_83 rfl (E.2.2 _ _ sh_5) (by first | exact wr_id' (by omega) (by omega) | with_reducible exact wr_bI _ | exact rfl) (by omega) (by omega) ?_
    exact j_ireturn dX7_core_84 rfl (by unfold cCN; first | (rw [if_pos (by omega)]; done) | (rw [if_neg (by omega), if_pos (by omega)]; done) | (rw [if_neg (by omega), if_neg (by omega), if_pos (by omega)]; done) | (rw [if_neg (by omega), if_neg (by omega), if_neg (by omega), if_pos (by omega)]; done) | (rw [if_neg (by omega), if_neg (by omega), if_neg (by omega), if_neg (by omega), if_pos (by omega)]; done) | (rw [if_neg (by omega), if_neg (by omega), if_neg (by omega), if_neg (by omega), if_neg (by omega), if_pos (by omega)]; done) | (rw [if_neg (by omega), if_neg (by omega), if_neg (by omega), if_neg (by omega), if_neg (by omega), if_neg (by omega), if_pos (by omega)]; done) | (rw [if_neg (by omega), if_neg (by omega), if_neg (by omega), if_neg (by omega), if_neg (by omega), if_neg (by omega), if_neg (by omega), if_pos (by omega)]; done) | (rw [if_neg (by omega), if_neg (by omega), if_neg (by omega), if_neg (by omega), if_neg (by omega), if_neg (by omega), if_neg (by omega), if_neg (by omega)]; done)) (rfl)
  by_cases h15_2 : w = 2
  · refine j_tableIn (x' := w) (tgt := 85) 2 dX7_core_15 (by first | exact wr_id' (by omega) (by omega) | with_reducible exact wr_bI _ | exact rfl) (by omega) (by decide) rfl (by decide) ?_
    refine j_aload0 (q := 86) dX7_core_85 rfl ?_
    refine j_getR 0 (q := 89) dX7_core_86 rfl fl_X7_10 (E.2.2 _ _ sh_0) rfl ?_
    refine j_getR 5 (q := 92) dX7_core_89 rfl fl_X7_89 (E.2.2 _ _ sh_1) rfl ?_
    refine j_getR 2 (q := 95) dX7_core_92 rfl fl_X7_112 (E.2.2 _ _ sh_4) rfl ?_
    refine j_iload1 (q := 96) dX7_core_95 rfl ?_
    refine j_pload (q := 97) (d := 5) rfl (by decide) dX7_core_96 rfl (E.2.2 _ _ sh_6) (by first | exact wr_id' (by omega) (by omega) | with_reducible exact wr_bI _ | exact rfl) (by omega) (by omega) ?_
    exact j_ireturn dX7_core_97 rfl (by unfold cCN; first | (rw [if_pos (by omega)]; done) | (rw [if_neg (by omega), if_pos (by omega)]; done) | (rw [if_neg (by omega), if_neg (by omega), if_pos (by omega)]; done) | (rw [if_neg (by omega), if_neg (by omega), if_neg (by omega), if_pos (by omega)]; done) | (rw [if_neg (by omega), if_neg (by omega), if_neg (by omega), if_neg (by omega), if_pos (by omega)]; done) | (rw [if_neg (by omega), if_neg (by omega), if_neg (by omega), if_neg (by omega), if_neg (by omega), if_pos (by omega)]; done) | (rw [if_neg (by omega), if_neg (by omega), if_neg (by omega), if_neg (by omega), if_neg (by omega), if_neg (by omega), if_pos (by omega)]; done) | (rw [if_neg (by omega), if_neg (by omega), if_neg (by omega), if_neg (by omega), if_neg (by omega), if_neg (by omega), if_neg (by omega), if_pos (by omega)]; done) | (rw [if_neg (by omega), if_neg (by omega), if_neg (by omega), if_neg (by omega), if_neg (by omega), if_neg (by omega), if_neg (by omega), if_neg (by omega)]; done)) (rfl)
  by_cases h15_3 : w = 3
  · refine j_tableIn (x' := w) (tgt := 98) 3 dX7_core_15 (by first | exact wr_id' (by omega) (by omega) | with_reducible exact wr_bI _ | exact rfl) (by omega) (by decide) rfl (by decide) ?_
    refine j_aload0 (q := 99) dX7_core_98 rfl ?_
    refine j_getR 0 (q := 102) dX7_core_99 rfl fl_X7_10 (E.2.2 _ _ sh_0) rfl ?_
    refine j_iload1 (q := 103) dX7_core_102 rfl ?_
    refine j_callV1 (Mc := iX3_leaseLeft) (q := 106) (c' := 0) (s' := 0) dX7_core_103 rfl kV_X3_leaseLeft jw_460 ⟨by decide, by decide⟩ (E.2.2 _ _ sh_1) rfl rfl rfl (Nat.le_refl _) (Nat.le_refl _) (ct_X3_leaseLeft E hq (by omega)) ?_
    exact j_ireturn dX7_core_106 rfl (by unfold cCN; first | (rw [if_pos (by omega)]; done) | (rw [if_neg (by omega), if_pos (by omega)]; done) | (rw [if_neg (by omega), if_neg (by omega), if_pos (by omega)]; done) | (rw [if_neg (by omega), if_neg (by omega), if_neg (by omega), if_pos (by omega)]; done) | (rw [if_neg (by omega), if_neg (by omega), if_neg (by omega), if_neg (by omega), if_pos (by omega)]; done) | (rw [if_neg (by omega), if_neg (by omega), if_neg (by omega), if_neg (by omega), if_neg (by omega), if_pos (by omega)]; done) | (rw [if_neg (by omega), if_neg (by omega), if_neg (by omega), if_neg (by omega), if_neg (by omega), if_neg (by omega), if_pos (by omega)]; done) | (rw [if_neg (by omega), if_neg (by omega), if_neg (by omega), if_neg (by omega), if_neg (by omega), if_neg (by omega), if_neg (by omega), if_pos (by omega)]; done) | (rw [if_neg (by omega), if_neg (by omega), if_neg (by omega), if_neg (by omega), if_neg (by omega), if_neg (by omega), if_neg (by omega), if_neg (by omega)]; done)) (rfl)
  by_cases h15_4 : w = 4
  · refine j_tableIn (x' := w) (tgt := 107) 4 dX7_core_15 (by first | exact wr_id' (by omega) (by omega) | with_reducible exact wr_bI _ | exact rfl) (by omega) (by decide) rfl (by decide) ?_
    refine j_aload0 (q := 108) dX7_core_107 rfl ?_
    refine j_getR 0 (q := 111) dX7_core_108 rfl fl_X7_10 (E.2.2 _ _ sh_0) rfl ?_
    refine j_getR 5 (q := 114) dX7_core_111 rfl fl_X7_89 (E.2.2 _ _ sh_1) rfl ?_
    refine j_getR 4 (q := 117) dX7_core_114 rfl fl_X7_201 (E.2.2 _ _ sh_4) rfl ?_
    refine j_iload1 (q := 118) dX7_core_117 rfl ?_
    refine j_pload (q := 119) (d := 7) rfl (by decide) dX7_core_118 rfl (E.2.2 _ _ sh_8) (by first | exact wr_id' (by omega) (by omega) | with_reducible exact wr_bI _ | exact rfl) (by omega) (by omega) ?_
    exact j_ireturn dX7_core_119 rfl (by unfold cCN; first | (rw [if_pos (by omega)]; done) | (rw [if_neg (by omega), if_pos (by omega)]; done) | (rw [if_neg (by omega), if_neg (by omega), if_pos (by omega)]; done) | (rw [if_neg (by omega), if_neg (by omega), if_neg (by omega), if_pos (by omega)]; done) | (rw [if_neg (by omega), if_neg (by omega), if_neg (by omega), if_neg (by omega), if_pos (by omega)]; done) | (rw [if_neg (by omega), if_neg (by omega), if_neg (by omega), if_neg (by omega), if_neg (by omega), if_pos (by omega)]; done) | (rw [if_neg (by omega), if_neg (by omega), if_neg (by omega), if_neg (by omega), if_neg (by omega), if_neg (by omega), if_pos (by omega)]; done) | (rw [if_neg (by omega), if_neg (by omega), if_neg (by omega), if_neg (by omega), if_neg (by omega), if_neg (by omega), if_neg (by omega), if_pos (by omega)]; done) | (rw [if_neg (by omega), if_neg (by omega), if_neg (by omega), if_neg (by omega), if_neg (by omega), if_neg (by omega), if_neg (by omega), if_neg (by omega)]; done)) (rfl)
  by_cases h15_5 : w = 5
  · refine j_tableIn (x' := w) (tgt := 120) 5 dX7_core_15 (by first | exact wr_id' (by omega) (by omega) | with_reducible exact wr_bI _ | exact rfl) (by omega) (by decide) rfl (by decide) ?_
    refine j_aload0 (q := 121) dX7_core_120 rfl ?_
    refine j_getR 0 (q := 124) dX7_core_121 rfl fl_X7_10 (E.2.2 _ _ sh_0) rfl ?_
    refine j_iload1 (q := 125) dX7_core_124 rfl ?_
    refine j_callV1 (Mc := iX3_policyLeft) (q := 128) (c' := 0) (s' := 0) dX7_core_125 rfl kV_X3_policyLeft jw_468 ⟨by decide, by decide⟩ (E.2.2 _ _ sh_1) rfl rfl rfl (Nat.le_refl _) (Nat.le_refl _) (ct_X3_policyLeft E hq (by omega)) ?_
    exact j_ireturn dX7_core_128 rfl (by unfold cCN; first | (rw [if_pos (by omega)]; done) | (rw [if_neg (by omega), if_pos (by omega)]; done) | (rw [if_neg (by omega), if_neg (by omega), if_pos (by omega)]; done) | (rw [if_neg (by omega), if_neg (by omega), if_neg (by omega), if_pos (by omega)]; done) | (rw [if_neg (by omega), if_neg (by omega), if_neg (by omega), if_neg (by omega), if_pos (by omega)]; done) | (rw [if_neg (by omega), if_neg (by omega), if_neg (by omega), if_neg (by omega), if_neg (by omega), if_pos (by omega)]; done) | (rw [if_neg (by omega), if_neg (by omega), if_neg (by omega), if_neg (by omega), if_neg (by omega), if_neg (by omega), if_pos (by omega)]; done) | (rw [if_neg (by omega), if_neg (by omega), if_neg (by omega), if_neg (by omega), if_neg (by omega), if_neg (by omega), if_neg (by omega), if_pos (by omega)]; done) | (rw [if_neg (by omega), if_neg (by omega), if_neg (by omega), if_neg (by omega), if_neg (by omega), if_neg (by omega), if_neg (by omega), if_neg (by omega)]; done)) (rfl)
  by_cases h15_6 : w = 6
  · refine j_tableIn (x' := w) (tgt := 129) 6 dX7_core_15 (by first | exact wr_id' (by omega) (by omega) | with_reducible exact wr_bI _ | exact rfl) (by omega) (by decide) rfl (by decide) ?_
    refine j_aload0 (q := 130) dX7_core_129 rfl ?_
    refine j_getR 0 (q := 133) dX7_core_130 rfl fl_X7_10 (E.2.2 _ _ sh_0) rfl ?_
    refine j_getR 6 (q := 136) dX7_core_133 rfl fl_X7_157 (E.2.2 _ _ sh_1) rfl ?_
    refine j_iload1 (q := 137) dX7_core_136 rfl ?_
    refine j_callV1 (Mc := iX1_isOwed) (q := 140) (c' := 0) (s' := 0) dX7_core_137 rfl kV_X1_isOwed jw_473 ⟨by decide, by decide⟩ (E.2.2 _ _ sh_11) rfl rfl rfl (Nat.le_refl _) (Nat.le_refl _) (ct_X1_isOwed E hq (by omega)) ?_
    refine j_ifeq_b (tgt := 147) (q := 143) dX7_core_140 (by decide) rfl (fun h140 => ?_) (fun h140 => ?_)
    · refine j_iconst (q := 148) dX7_core_147 rfl ?_
      exact j_ireturn dX7_core_148 rfl (by unfold cCN; rw [if_neg (by omega), if_neg (by omega), if_neg (by omega), if_neg (by omega), if_neg (by omega), if_neg (by omega), if_pos (by omega)]; first | (rw [show cOw P c = true by assumption]; rfl) | (rw [show cOw P c = false by assumption]; rfl)) (rfl)
    · refine j_iconst (q := 144) dX7_core_143 rfl ?_
      refine j_goto (tgt := 148) dX7_core_144 (by decide) ?_
      exact j_ireturn dX7_core_148 rfl (by unfold cCN; rw [if_neg (by omega), if_neg (by omega), if_neg (by omega), if_neg (by omega), if_neg (by omega), if_neg (by omega), if_pos (by omega)]; first | (rw [show cOw P c = true by assumption]; rfl) | (rw [show cOw P c = false by assumption]; rfl)) (rfl)
  by_cases h15_7 : w = 7
  · refine j_tableIn (x' := w) (tgt := 149) 7 dX7_core_15 (by first | exact wr_id' (by omega) (by omega) | with_reducible exact wr_bI _ | exact rfl) (by omega) (by decide) rfl (by decide) ?_
    refine j_aload0 (q := 150) dX7_core_149 rfl ?_
    refine j_getR 0 (q := 153) dX7_core_150 rfl fl_X7_10 (E.2.2 _ _ sh_0) rfl ?_
    refine j_getR 6 (q := 156) dX7_core_153 rfl fl_X7_157 (E.2.2 _ _ sh_1) rfl ?_
    refine j_getR 2 (q := 159) dX7_core_156 rfl fl_X7_210 (E.2.2 _ _ sh_11) rfl ?_
    refine j_iload1 (q := 160) dX7_core_159 rfl ?_
    refine j_pload (q := 161) (d := 12) rfl (by decide) dX7_core_160 rfl (E.2.2 _ _ sh_13) (by first | exact wr_id' (by omega) (by omega) | with_reducible exact wr_bI _ | exact rfl) (by omega) (by omega) ?_
    exact j_ireturn dX7_core_161 rfl (by unfold cCN; first | (rw [if_pos (by omega)]; done) | (rw [if_neg (by omega), if_pos (by omega)]; done) | (rw [if_neg (by omega), if_neg (by omega), if_pos (by omega)]; done) | (rw [if_neg (by omega), if_neg (by omega), if_neg (by omega), if_pos (by omega)]; done) | (rw [if_neg (by omega), if_neg (by omega), if_neg (by omega), if_neg (by omega), if_pos (by omega)]; done) | (rw [if_neg (by omega), if_neg (by omega), if_neg (by omega), if_neg (by omega), if_neg (by omega), if_pos (by omega)]; done) | (rw [if_neg (by omega), if_neg (by omega), if_neg (by omega), if_neg (by omega), if_neg (by omega), if_neg (by omega), if_pos (by omega)]; done) | (rw [if_neg (by omega), if_neg (by omega), if_neg (by omega), if_neg (by omega), if_neg (by omega), if_neg (by omega), if_neg (by omega), if_pos (by omega)]; done) | (rw [if_neg (by omega), if_neg (by omega), if_neg (by omega), if_neg (by omega), if_neg (by omega), if_neg (by omega), if_neg (by omega), if_neg (by omega)]; done)) (rfl)
  refine j_tableOut (x' := w) (tgt := 162) dX7_core_15 (by first | exact wr_id' (by omega) (by omega) | with_reducible exact wr_bI _ | exact rfl) (by omega) (by decide) ?_
  refine j_aload0 (q := 163) dX7_core_162 rfl ?_
  refine j_getR 0 (q := 166) dX7_core_163 rfl fl_X7_10 (E.2.2 _ _ sh_0) rfl ?_
  refine j_getR 5 (q := 169) dX7_core_166 rfl fl_X7_89 (E.2.2 _ _ sh_1) rfl ?_
  refine j_getR 6 (q := 172) dX7_core_169 rfl fl_X7_213 (E.2.2 _ _ sh_4) rfl ?_
  refine j_iload1 (q := 173) dX7_core_172 rfl ?_
  refine j_pload (q := 174) (d := 9) rfl (by decide) dX7_core_173 rfl (E.2.2 _ _ sh_10) (by first | exact wr_id' (by omega) (by omega) | with_reducible exact wr_bI _ | exact rfl) (by omega) (by omega) ?_
  exact j_ireturn dX7_core_174 rfl (by unfold cCN; first | (rw [if_pos (by omega)]; done) | (rw [if_neg (by omega), if_pos (by omega)]; done) | (rw [if_neg (by omega), if_neg (by omega), if_pos (by omega)]; done) | (rw [if_neg (by omega), if_neg (by omega), if_neg (by omega), if_pos (by omega)]; done) | (rw [if_neg (by omega), if_neg (by omega), if_neg (by omega), if_neg (by omega), if_pos (by omega)]; done) | (rw [if_neg (by omega), if_neg (by omega), if_neg (by omega), if_neg (by omega), if_neg (by omega), if_pos (by omega)]; done) | (rw [if_neg (by omega), if_neg (by omega), if_neg (by omega), if_neg (by omega), if_neg (by omega), if_neg (by omega), if_pos (by omega)]; done) | (rw [if_neg (by omega), if_neg (by omega), if_neg (by omega), if_neg (by omega), if_neg (by omega), if_neg (by omega), if_neg (by omega), if_pos (by omega)]; done) | (rw [if_neg (by omega), if_neg (by omega), if_neg (by omega), if_neg (by omega), if_neg (by omega), if_neg (by omega), if_neg (by omega), if_neg (by omega)]; done)) (rfl)
theorem ct_X7_tenant {G : GX} {sh : List SH} (E : EV G sh) {m P : Mem} {t : Int} {w : Int} (r_t : -2147483648 ≤ t ∧ t < 2147483648) (r_w : -2147483648 ≤ w ∧ w < 2147483648) (bt : 0 ≤ P 13 0 ∧ P 13 0 ≤ 6) (p0 : 0 ≤ t ∧ t < P 13 0) (p1 : 0 ≤ w ∧ w ≤ 5) (hV : CV P) : CT G sh iX7_tenant 0 0 [.inr (.ref 0), .inl t, .inl w] (ps m 1 P) (some (.inl (cTN P t w))) (ps m 1 P) := by
  have hq : PA 1 := PA1
  refine j_met (L0 := [some (.inr (.ref 0)), some (.inl t), some (.inl w)]) (by decide) E.1 E.2.1 rfl (Nat.le_of_ble_eq_true rfl) ?_
  refine j_aload0 (q := 1) dX7_tenant_0 rfl ?_
  refine j_iload1 (q := 2) dX7_tenant_1 rfl ?_
  refine j_callV1v (Mc := iX7_requireTenant) (q := 5) (c' := 0) (s' := 0) dX7_tenant_2 rfl kV_X7_requireTenant jw_529 ⟨by decide, by decide⟩ (E.2.2 _ _ sh_0) rfl rfl rfl (Nat.le_refl _) (Nat.le_refl _) (ct_X7_requireTenant E hq (by omega) (by omega)) ?_
  refine j_iload2 (q := 6) dX7_tenant_5 rfl ?_
  refine j_iconst (q := 7) dX7_tenant_6 rfl ?_
  refine j_iconst (q := 8) dX7_tenant_7 rfl ?_
  refine j_callS3 (Mc := iX7_within) (q := 11) (c' := 0) (s' := 0) dX7_tenant_8 rfl kS_X7_within jw_263 ⟨by decide, by decide⟩ rfl (Nat.le_refl _) (Nat.le_refl _) (ct_X7_within E (by omega) (by omega) (by omega)) ?_
  refine j_callS1v (Mc := iX7_requireArgument) (q := 14) (c' := 0) (s' := 0) dX7_tenant_11 rfl kS_X7_requireArgument jw_336 ⟨by decide, by decide⟩ rfl (Nat.le_refl _) (Nat.le_refl _) (ct_X7_requireArgument E (by first | assumption | exact decide_eq_true (by omega) | (simp_all; done))) ?_
  refine j_iload2 (q := 15) dX7_tenant_14 rfl ?_
  by_cases h15_0 : w = 0
  · refine j_tableIn (x' := w) (tgt := 48) 0 dX7_tenant_15 (by first | exact wr_id' (by omega) (by omega) | with_reducible exact wr_bI _ | exact rfl) (by omega) (by decide) rfl (by decide) ?_
    refine j_aload0 (q := 49) dX7_tenant_48 rfl ?_
    refine j_getR 0 (q := 52) dX7_tenant_49 rfl fl_X7_10 (E.2.2 _ _ sh_0) rfl ?_
    refine j_getR 7 (q := 55) dX7_tenant_52 rfl fl_X7_41 (E.2.2 _ _ sh_1) rfl ?_
    refine j_getR 1 (q := 58) dX7_tenant_55 rfl fl_X7_99 (E.2.2 _ _ sh_14) rfl ?_
    refine j_iload1 (q := 59) dX7_tenant_58 rfl ?_
    refine j_pload (q := 60) (d := 14) rfl (by decide) dX7_tenant_59 rfl (E.2.2 _ _ sh_15) (by first | exact wr_id' (by omega) (by omega) | with_reducible exact wr_bI _ | exact rfl) (by omega) (by omega) ?_
    exact j_ireturn dX7_tenant_60 rfl (by unfold cTN; first | (rw [if_pos (by omega)]; done) | (rw [if_neg (by omega), if_pos (by omega)]; done) | (rw [if_neg (by omega), if_neg (by omega), if_pos (by omega)]; done) | (rw [if_neg (by omega), if_neg (by omega), if_neg (by omega), if_pos (by omega)]; done) | (rw [if_neg (by omega), if_neg (by omega), if_neg (by omega), if_neg (by omega), if_pos (by omega)]; done) | (rw [if_neg (by omega), if_neg (by omega), if_neg (by omega), if_neg (by omega), if_neg (by omega)]; done)) (rfl)
  by_cases h15_1 : w = 1
  · refine j_tableIn (x' := w) (tgt := 61) 1 dX7_tenant_15 (by first | exact wr_id' (by omega) (by omega) | with_reducible exact wr_bI _ | exact rfl) (by omega) (by decide) rfl (by decide) ?_
    refine j_aload0 (q := 62) dX7_tenant_61 rfl ?_
    refine j_getR 0 (q := 65) dX7_tenant_62 rfl fl_X7_10 (E.2.2 _ _ sh_0) rfl ?_
    refine j_getR 5 (q := 68) dX7_tenant_65 rfl fl_X7_89 (E.2.2 _ _ sh_1) rfl ?_
    refine j_iload1 (q := 69) dX7_tenant_68 rfl ?_
    refine j_callV1 (Mc := iX0_leasedTo) (q := 72) (c' := 0) (s' := 0) dX7_tenant_69 rfl kV_X0_leasedTo jw_538 ⟨by decide, by decide⟩ (E.2.2 _ _ sh_4) rfl rfl rfl (Nat.le_refl _) (Nat.le_refl _) (ct_X0_leasedTo E hq) ?_
    exact j_ireturn dX7_tenant_72 rfl (by unfold cTN; first | (rw [if_pos (by omega)]; done) | (rw [if_neg (by omega), if_pos (by omega)]; done) | (rw [if_neg (by omega), if_neg (by omega), if_pos (by omega)]; done) | (rw [if_neg (by omega), if_neg (by omega), if_neg (by omega), if_pos (by omega)]; done) | (rw [if_neg (by omega), if_neg (by omega), if_neg (by omega), if_neg (by omega), if_pos (by omega)]; done) | (rw [if_neg (by omega), if_neg (by omega), if_neg (by omega), if_neg (by omega), if_neg (by omega)]; done)) (rfl)
  by_cases h15_2 : w = 2
  · refine j_tableIn (x' := w) (tgt := 73) 2 dX7_tenant_15 (by first | exact wr_id' (by omega) (by omega) | with_reducible exact wr_bI _ | exact rfl) (by omega) (by decide) rfl (by decide) ?_
    refine j_aload0 (q := 74) dX7_tenant_73 rfl ?_
    refine j_getR 0 (q := 77) dX7_tenant_74 rfl fl_X7_10 (E.2.2 _ _ sh_0) rfl ?_
    refine j_getR 5 (q := 80) dX7_tenant_77 rfl fl_X7_89 (E.2.2 _ _ sh_1) rfl ?_
    refine j_iload1 (q := 81) dX7_tenant_80 rfl ?_
    refine j_callV1 (Mc := iX0_insuredOf) (q := 84) (c' := 0) (s' := 0) dX7_tenant_81 rfl kV_X0_insuredOf jw_539 ⟨by decide, by decide⟩ (E.2.2 _ _ sh_4) rfl rfl rfl (Nat.le_refl _) (Nat.le_refl _) (ct_X0_insuredOf E hq) ?_
    exact j_ireturn dX7_tenant_84 rfl (by unfold cTN; first | (rw [if_pos (by omega)]; done) | (rw [if_neg (by omega), if_pos (by omega)]; done) | (rw [if_neg (by omega), if_neg (by omega), if_pos (by omega)]; done) | (rw [if_neg (by omega), if_neg (by omega), if_neg (by omega), if_pos (by omega)]; done) | (rw [if_neg (by omega), if_neg (by omega), if_neg (by omega), if_neg (by omega), if_pos (by omega)]; done) | (rw [if_neg (by omega), if_neg (by omega), if_neg (by omega), if_neg (by omega), if_neg (by omega)]; done)) (rfl)
  by_cases h15_3 : w = 3
  · refine j_tableIn (x' := w) (tgt := 85) 3 dX7_tenant_15 (by first | exact wr_id' (by omega) (by omega) | with_reducible exact wr_bI _ | exact rfl) (by omega) (by decide) rfl (by decide) ?_
    refine j_aload0 (q := 86) dX7_tenant_85 rfl ?_
    refine j_getR 0 (q := 89) dX7_tenant_86 rfl fl_X7_10 (E.2.2 _ _ sh_0) rfl ?_
    refine j_getR 7 (q := 92) dX7_tenant_89 rfl fl_X7_41 (E.2.2 _ _ sh_1) rfl ?_
    refine j_getR 2 (q := 95) dX7_tenant_92 rfl fl_X7_222 (E.2.2 _ _ sh_14) rfl ?_
    refine j_iload1 (q := 96) dX7_tenant_95 rfl ?_
    refine j_pload (q := 97) (d := 15) rfl (by decide) dX7_tenant_96 rfl (E.2.2 _ _ sh_16) (by first | exact wr_id' (by omega) (by omega) | with_reducible exact wr_bI _ | exact rfl) (by omega) (by omega) ?_
    exact j_ireturn dX7_tenant_97 rfl (by unfold cTN; first | (rw [if_pos (by omega)]; done) | (rw [if_neg (by omega), if_pos (by omega)]; done) | (rw [if_neg (by omega), if_neg (by omega), if_pos (by omega)]; done) | (rw [if_neg (by omega), if_neg (by omega), if_neg (by omega), if_pos (by omega)]; done) | (rw [if_neg (by omega), if_neg (by omega), if_neg (by omega), if_neg (by omega), if_pos (by omega)]; done) | (rw [if_neg (by omega), if_neg (by omega), if_neg (by omega), if_neg (by omega), if_neg (by omega)]; done)) (rfl)
  by_cases h15_4 : w = 4
  · refine j_tableIn (x' := w) (tgt := 98) 4 dX7_tenant_15 (by first | exact wr_id' (by omega) (by omega) | with_reducible exact wr_bI _ | exact rfl) (by omega) (by decide) rfl (by decide) ?_
    refine j_aload0 (q := 99) dX7_tenant_98 rfl ?_
    refine j_getR 0 (q := 102) dX7_tenant_99 rfl fl_X7_10 (E.2.2 _ _ sh_0) rfl ?_
    refine j_getR 7 (q := 105) dX7_tenant_102 rfl fl_X7_41 (E.2.2 _ _ sh_1) rfl ?_
    refine j_getR 3 (q := 108) dX7_tenant_105 rfl fl_X7_223 (E.2.2 _ _ sh_14) rfl ?_
    refine j_iload1 (q := 109) dX7_tenant_108 rfl ?_
    refine j_pload (q := 110) (d := 16) rfl (by decide) dX7_tenant_109 rfl (E.2.2 _ _ sh_17) (by first | exact wr_id' (by omega) (by omega) | with_reducible exact wr_bI _ | exact rfl) (by omega) (by omega) ?_
    exact j_ireturn dX7_tenant_110 rfl (by unfold cTN; first | (rw [if_pos (by omega)]; done) | (rw [if_neg (by omega), if_pos (by omega)]; done) | (rw [if_neg (by omega), if_neg (by omega), if_pos (by omega)]; done) | (rw [if_neg (by omega), if_neg (by omega), if_neg (by omega), if_pos (by omega)]; done) | (rw [if_neg (by omega), if_neg (by omega), if_neg (by omega), if_neg (by omega), if_pos (by omega)]; done) | (rw [if_neg (by omega), if_neg (by omega), if_neg (by omega), if_neg (by omega), if_neg (by omega)]; done)) (rfl)
  refine j_tableOut (x' := w) (tgt := 111) dX7_tenant_15 (by first | exact wr_id' (by omega) (by omega) | with_reducible exact wr_bI _ | exact rfl) (by omega) (by decide) ?_
  refine j_aload0 (q := 112) dX7_tenant_111 rfl ?_
  refine j_getR 0 (q := 115) dX7_tenant_112 rfl fl_X7_10 (E.2.2 _ _ sh_0) rfl ?_
  refine j_iload1 (q := 116) dX7_tenant_115 rfl ?_
  refine j_callV1 (Mc := iX3_waitingOf) (q := 119) (c' := 0) (s' := 0) dX7_tenant_116 rfl kV_X3_waitingOf jw_543 ⟨by decide, by decide⟩ (E.2.2 _ _ sh_1) rfl rfl rfl (Nat.le_refl _) (Nat.le_refl _) (ct_X3_waitingOf E hq (by assumption)) ?_
  exact j_ireturn dX7_tenant_119 rfl (by unfold cTN; first | (rw [if_pos (by omega)]; done) | (rw [if_neg (by omega), if_pos (by omega)]; done) | (rw [if_neg (by omega), if_neg (by omega), if_pos (by omega)]; done) | (rw [if_neg (by omega), if_neg (by omega), if_neg (by omega), if_pos (by omega)]; done) | (rw [if_neg (by omega), if_neg (by omega), if_neg (by omega), if_neg (by omega), if_pos (by omega)]; done) | (rw [if_neg (by omega), if_neg (by omega), if_neg (by omega), if_neg (by omega), if_neg (by omega)]; done)) (rfl)
theorem ct_X7_insurer {G : GX} {sh : List SH} (E : EV G sh) {m P : Mem} {i : Int} {w : Int} (r_i : -2147483648 ≤ i ∧ i < 2147483648) (r_w : -2147483648 ≤ w ∧ w < 2147483648) (bi : 0 ≤ P 17 0 ∧ P 17 0 ≤ 3) (p0 : 0 ≤ i ∧ i < P 17 0) (p1 : 0 ≤ w ∧ w ≤ 6) (hV : CV P) : CT G sh iX7_insurer 0 0 [.inr (.ref 0), .inl i, .inl w] (ps m 1 P) (some (.inl (cIN P i w))) (ps m 1 P) := by
  have hq : PA 1 := PA1
  refine j_met (L0 := [some (.inr (.ref 0)), some (.inl i), some (.inl w)]) (by decide) E.1 E.2.1 rfl (Nat.le_of_ble_eq_true rfl) ?_
  refine j_aload0 (q := 1) dX7_insurer_0 rfl ?_
  refine j_iload1 (q := 2) dX7_insurer_1 rfl ?_
  refine j_callV1v (Mc := iX7_requireInsurer) (q := 5) (c' := 0) (s' := 0) dX7_insurer_2 rfl kV_X7_requireInsurer jw_557 ⟨by decide, by decide⟩ (E.2.2 _ _ sh_0) rfl rfl rfl (Nat.le_refl _) (Nat.le_refl _) (ct_X7_requireInsurer E hq (by omega) (by omega)) ?_
  refine j_iload2 (q := 6) dX7_insurer_5 rfl ?_
  refine j_iconst (q := 7) dX7_insurer_6 rfl ?_
  refine j_bipush (q := 9) dX7_insurer_7 rfl rfl ?_
  refine j_callS3 (Mc := iX7_within) (q := 12) (c' := 0) (s' := 0) dX7_insurer_9 rfl kS_X7_within jw_263 ⟨by decide, by decide⟩ rfl (Nat.le_refl _) (Nat.le_refl _) (ct_X7_within E (by omega) (by omega) (by omega)) ?_
  refine j_callS1v (Mc := iX7_requireArgument) (q := 15) (c' := 0) (s' := 0) dX7_insurer_12 rfl kS_X7_requireArgument jw_336 ⟨by decide, by decide⟩ rfl (Nat.le_refl _) (Nat.le_refl _) (ct_X7_requireArgument E (by first | assumption | exact decide_eq_true (by omega) | (simp_all; done))) ?_
  refine j_iload2 (q := 16) dX7_insurer_15 rfl ?_
  by_cases h16_0 : w = 0
  · refine j_tableIn (x' := w) (tgt := 56) 0 dX7_insurer_16 (by first | exact wr_id' (by omega) (by omega) | with_reducible exact wr_bI _ | exact rfl) (by omega) (by decide) rfl (by decide) ?_
    refine j_aload0 (q := 57) dX7_insurer_56 rfl ?_
    refine j_getR 0 (q := 60) dX7_insurer_57 rfl fl_X7_10 (E.2.2 _ _ sh_0) rfl ?_
    refine j_getR 8 (q := 63) dX7_insurer_60 rfl fl_X7_62 (E.2.2 _ _ sh_1) rfl ?_
    refine j_getR 1 (q := 66) dX7_insurer_63 rfl fl_X7_229 (E.2.2 _ _ sh_18) rfl ?_
    refine j_iload1 (q := 67) dX7_insurer_66 rfl ?_
    refine j_pload (q := 68) (d := 18) rfl (by decide) dX7_insurer_67 rfl (E.2.2 _ _ sh_19) (by first | exact wr_id' (by omega) (by omega) | with_reducible exact wr_bI _ | exact rfl) (by omega) (by omega) ?_
    exact j_ireturn dX7_insurer_68 rfl (by unfold cIN; first | (rw [if_pos (by omega)]; done) | (rw [if_neg (by omega), if_pos (by omega)]; done) | (rw [if_neg (by omega), if_neg (by omega), if_pos (by omega)]; done) | (rw [if_neg (by omega), if_neg (by omega), if_neg (by omega), if_pos (by omega)]; done) | (rw [if_neg (by omega), if_neg (by omega), if_neg (by omega), if_neg (by omega), if_pos (by omega)]; done) | (rw [if_neg (by omega), if_neg (by omega), if_neg (by omega), if_neg (by omega), if_neg (by omega), if_pos (by omega)]; done) | (rw [if_neg (by omega), if_neg (by omega), if_neg (by omega), if_neg (by omega), if_neg (by omega), if_neg (by omega)]; done)) (rfl)
  by_cases h16_1 : w = 1
  · refine j_tableIn (x' := w) (tgt := 69) 1 dX7_insurer_16 (by first | exact wr_id' (by omega) (by omega) | with_reducible exact wr_bI _ | exact rfl) (by omega) (by decide) rfl (by decide) ?_
    refine j_aload0 (q := 70) dX7_insurer_69 rfl ?_
    refine j_getR 0 (q := 73) dX7_insurer_70 rfl fl_X7_10 (E.2.2 _ _ sh_0) rfl ?_
    refine j_getR 8 (q := 76) dX7_insurer_73 rfl fl_X7_62 (E.2.2 _ _ sh_1) rfl ?_
    refine j_getR 2 (q := 79) dX7_insurer_76 rfl fl_X7_232 (E.2.2 _ _ sh_18) rfl ?_
    refine j_iload1 (q := 80) dX7_insurer_79 rfl ?_
    refine j_pload (q := 81) (d := 19) rfl (by decide) dX7_insurer_80 rfl (E.2.2 _ _ sh_20) (by first | exact wr_id' (by omega) (by omega) | with_reducible exact wr_bI _ | exact rfl) (by omega) (by omega) ?_
    exact j_ireturn dX7_insurer_81 rfl (by unfold cIN; first | (rw [if_pos (by omega)]; done) | (rw [if_neg (by omega), if_pos (by omega)]; done) | (rw [if_neg (by omega), if_neg (by omega), if_pos (by omega)]; done) | (rw [if_neg (by omega), if_neg (by omega), if_neg (by omega), if_pos (by omega)]; done) | (rw [if_neg (by omega), if_neg (by omega), if_neg (by omega), if_neg (by omega), if_pos (by omega)]; done) | (rw [if_neg (by omega), if_neg (by omega), if_neg (by omega), if_neg (by omega), if_neg (by omega), if_pos (by omega)]; done) | (rw [if_neg (by omega), if_neg (by omega), if_neg (by omega), if_neg (by omega), if_neg (by omega), if_neg (by omega)]; done)) (rfl)
  by_cases h16_2 : w = 2
  · refine j_tableIn (x' := w) (tgt := 82) 2 dX7_insurer_16 (by first | exact wr_id' (by omega) (by omega) | with_reducible exact wr_bI _ | exact rfl) (by omega) (by decide) rfl (by decide) ?_
    refine j_aload0 (q := 83) dX7_insurer_82 rfl ?_
    refine j_getR 0 (q := 86) dX7_insurer_83 rfl fl_X7_10 (E.2.2 _ _ sh_0) rfl ?_
    refine j_getR 8 (q := 89) dX7_insurer_86 rfl fl_X7_62 (E.2.2 _ _ sh_1) rfl ?_
    refine j_getR 3 (q := 92) dX7_insurer_89 rfl fl_X7_235 (E.2.2 _ _ sh_18) rfl ?_
    refine j_iload1 (q := 93) dX7_insurer_92 rfl ?_
    refine j_pload (q := 94) (d := 20) rfl (by decide) dX7_insurer_93 rfl (E.2.2 _ _ sh_21) (by first | exact wr_id' (by omega) (by omega) | with_reducible exact wr_bI _ | exact rfl) (by omega) (by omega) ?_
    exact j_ireturn dX7_insurer_94 rfl (by unfold cIN; first | (rw [if_pos (by omega)]; done) | (rw [if_neg (by omega), if_pos (by omega)]; done) | (rw [if_neg (by omega), if_neg (by omega), if_pos (by omega)]; done) | (rw [if_neg (by omega), if_neg (by omega), if_neg (by omega), if_pos (by omega)]; done) | (rw [if_neg (by omega), if_neg (by omega), if_neg (by omega), if_neg (by omega), if_pos (by omega)]; done) | (rw [if_neg (by omega), if_neg (by omega), if_neg (by omega), if_neg (by omega), if_neg (by omega), if_pos (by omega)]; done) | (rw [if_neg (by omega), if_neg (by omega), if_neg (by omega), if_neg (by omega), if_neg (by omega), if_neg (by omega)]; done)) (rfl)
  by_cases h16_3 : w = 3
  · refine j_tableIn (x' := w) (tgt := 95) 3 dX7_insurer_16 (by first | exact wr_id' (by omega) (by omega) | with_reducible exact wr_bI _ | exact rfl) (by omega) (by decide) rfl (by decide) ?_
    refine j_aload0 (q := 96) dX7_insurer_95 rfl ?_
    refine j_getR 0 (q := 99) dX7_insurer_96 rfl fl_X7_10 (E.2.2 _ _ sh_0) rfl ?_
    refine j_getR 5 (q := 102) dX7_insurer_99 rfl fl_X7_89 (E.2.2 _ _ sh_1) rfl ?_
    refine j_iload1 (q := 103) dX7_insurer_102 rfl ?_
    refine j_callV1 (Mc := iX0_insuredBy) (q := 106) (c' := 0) (s' := 0) dX7_insurer_103 rfl kV_X0_insuredBy jw_566 ⟨by decide, by decide⟩ (E.2.2 _ _ sh_4) rfl rfl rfl (Nat.le_refl _) (Nat.le_refl _) (ct_X0_insuredBy E hq) ?_
    exact j_ireturn dX7_insurer_106 rfl (by unfold cIN; first | (rw [if_pos (by omega)]; done) | (rw [if_neg (by omega), if_pos (by omega)]; done) | (rw [if_neg (by omega), if_neg (by omega), if_pos (by omega)]; done) | (rw [if_neg (by omega), if_neg (by omega), if_neg (by omega), if_pos (by omega)]; done) | (rw [if_neg (by omega), if_neg (by omega), if_neg (by omega), if_neg (by omega), if_pos (by omega)]; done) | (rw [if_neg (by omega), if_neg (by omega), if_neg (by omega), if_neg (by omega), if_neg (by omega), if_pos (by omega)]; done) | (rw [if_neg (by omega), if_neg (by omega), if_neg (by omega), if_neg (by omega), if_neg (by omega), if_neg (by omega)]; done)) (rfl)
  by_cases h16_4 : w = 4
  · refine j_tableIn (x' := w) (tgt := 107) 4 dX7_insurer_16 (by first | exact wr_id' (by omega) (by omega) | with_reducible exact wr_bI _ | exact rfl) (by omega) (by decide) rfl (by decide) ?_
    refine j_aload0 (q := 108) dX7_insurer_107 rfl ?_
    refine j_getR 0 (q := 111) dX7_insurer_108 rfl fl_X7_10 (E.2.2 _ _ sh_0) rfl ?_
    refine j_getR 8 (q := 114) dX7_insurer_111 rfl fl_X7_62 (E.2.2 _ _ sh_1) rfl ?_
    refine j_getR 5 (q := 117) dX7_insurer_114 rfl fl_X7_241 (E.2.2 _ _ sh_18) rfl ?_
    refine j_iload1 (q := 118) dX7_insurer_117 rfl ?_
    refine j_pload (q := 119) (d := 22) rfl (by decide) dX7_insurer_118 rfl (E.2.2 _ _ sh_23) (by first | exact wr_id' (by omega) (by omega) | with_reducible exact wr_bI _ | exact rfl) (by omega) (by omega) ?_
    exact j_ireturn dX7_insurer_119 rfl (by unfold cIN; first | (rw [if_pos (by omega)]; done) | (rw [if_neg (by omega), if_pos (by omega)]; done) | (rw [if_neg (by omega), if_neg (by omega), if_pos (by omega)]; done) | (rw [if_neg (by omega), if_neg (by omega), if_neg (by omega), if_pos (by omega)]; done) | (rw [if_neg (by omega), if_neg (by omega), if_neg (by omega), if_neg (by omega), if_pos (by omega)]; done) | (rw [if_neg (by omega), if_neg (by omega), if_neg (by omega), if_neg (by omega), if_neg (by omega), if_pos (by omega)]; done) | (rw [if_neg (by omega), if_neg (by omega), if_neg (by omega), if_neg (by omega), if_neg (by omega), if_neg (by omega)]; done)) (rfl)
  by_cases h16_5 : w = 5
  · refine j_tableIn (x' := w) (tgt := 120) 5 dX7_insurer_16 (by first | exact wr_id' (by omega) (by omega) | with_reducible exact wr_bI _ | exact rfl) (by omega) (by decide) rfl (by decide) ?_
    refine j_aload0 (q := 121) dX7_insurer_120 rfl ?_
    refine j_getR 0 (q := 124) dX7_insurer_121 rfl fl_X7_10 (E.2.2 _ _ sh_0) rfl ?_
    refine j_iload1 (q := 125) dX7_insurer_124 rfl ?_
    refine j_callV1 (Mc := iX3_waitingOn) (q := 128) (c' := 0) (s' := 0) dX7_insurer_125 rfl kV_X3_waitingOn jw_570 ⟨by decide, by decide⟩ (E.2.2 _ _ sh_1) rfl rfl rfl (Nat.le_refl _) (Nat.le_refl _) (ct_X3_waitingOn E hq (by assumption)) ?_
    exact j_ireturn dX7_insurer_128 rfl (by unfold cIN; first | (rw [if_pos (by omega)]; done) | (rw [if_neg (by omega), if_pos (by omega)]; done) | (rw [if_neg (by omega), if_neg (by omega), if_pos (by omega)]; done) | (rw [if_neg (by omega), if_neg (by omega), if_neg (by omega), if_pos (by omega)]; done) | (rw [if_neg (by omega), if_neg (by omega), if_neg (by omega), if_neg (by omega), if_pos (by omega)]; done) | (rw [if_neg (by omega), if_neg (by omega), if_neg (by omega), if_neg (by omega), if_neg (by omega), if_pos (by omega)]; done) | (rw [if_neg (by omega), if_neg (by omega), if_neg (by omega), if_neg (by omega), if_neg (by omega), if_neg (by omega)]; done)) (rfl)
  refine j_tableOut (x' := w) (tgt := 129) dX7_insurer_16 (by first | exact wr_id' (by omega) (by omega) | with_reducible exact wr_bI _ | exact rfl) (by omega) (by decide) ?_
  refine j_aload0 (q := 130) dX7_insurer_129 rfl ?_
  refine j_getR 0 (q := 133) dX7_insurer_130 rfl fl_X7_10 (E.2.2 _ _ sh_0) rfl ?_
  refine j_getR 8 (q := 136) dX7_insurer_133 rfl fl_X7_62 (E.2.2 _ _ sh_1) rfl ?_
  refine j_getR 4 (q := 139) dX7_insurer_136 rfl fl_X7_247 (E.2.2 _ _ sh_18) rfl ?_
  refine j_iload1 (q := 140) dX7_insurer_139 rfl ?_
  refine j_pload (q := 141) (d := 21) rfl (by decide) dX7_insurer_140 rfl (E.2.2 _ _ sh_22) (by first | exact wr_id' (by omega) (by omega) | with_reducible exact wr_bI _ | exact rfl) (by omega) (by omega) ?_
  exact j_ireturn dX7_insurer_141 rfl (by unfold cIN; first | (rw [if_pos (by omega)]; done) | (rw [if_neg (by omega), if_pos (by omega)]; done) | (rw [if_neg (by omega), if_neg (by omega), if_pos (by omega)]; done) | (rw [if_neg (by omega), if_neg (by omega), if_neg (by omega), if_pos (by omega)]; done) | (rw [if_neg (by omega), if_neg (by omega), if_neg (by omega), if_neg (by omega), if_pos (by omega)]; done) | (rw [if_neg (by omega), if_neg (by omega), if_neg (by omega), if_neg (by omega), if_neg (by omega), if_pos (by omega)]; done) | (rw [if_neg (by omega), if_neg (by omega), if_neg (by omega), if_neg (by omega), if_neg (by omega), if_neg (by omega)]; done)) (rfl)
theorem ct_X7_owed {G : GX} {sh : List SH} (E : EV G sh) {m P : Mem} {p : Int} {w : Int} (r_p : -2147483648 ≤ p ∧ p < 2147483648) (r_w : -2147483648 ≤ w ∧ w < 2147483648) (p0 : 0 ≤ p ∧ p ≤ 63) (p1 : 0 ≤ w ∧ w ≤ 1) (hd : CD P) : CT G sh iX7_owed 0 0 [.inr (.ref 0), .inl p, .inl w] (ps m 1 P) (some (.inl (cOwd P p w))) (ps m 1 P) := by
  have hq : PA 1 := PA1
  refine j_met (L0 := [some (.inr (.ref 0)), some (.inl p), some (.inl w), none]) (by decide) E.1 E.2.1 rfl (Nat.le_of_ble_eq_true rfl) ?_
  refine j_iload1 (q := 1) dX7_owed_0 rfl ?_
  refine j_iconst (q := 2) dX7_owed_1 rfl ?_
  refine j_bipush (q := 4) dX7_owed_2 rfl rfl ?_
  refine j_callS3 (Mc := iX7_within) (q := 7) (c' := 0) (s' := 0) dX7_owed_4 rfl kS_X7_within jw_263 ⟨by decide, by decide⟩ rfl (Nat.le_refl _) (Nat.le_refl _) (ct_X7_within E (by omega) (by omega) (by omega)) ?_
  refine j_callS1v (Mc := iX7_requireArgument) (q := 10) (c' := 0) (s' := 0) dX7_owed_7 rfl kS_X7_requireArgument jw_336 ⟨by decide, by decide⟩ rfl (Nat.le_refl _) (Nat.le_refl _) (ct_X7_requireArgument E (by first | assumption | exact decide_eq_true (by omega) | (simp_all; done))) ?_
  refine j_iload2 (q := 11) dX7_owed_10 rfl ?_
  refine j_iconst (q := 12) dX7_owed_11 rfl ?_
  refine j_iconst (q := 13) dX7_owed_12 rfl ?_
  refine j_callS3 (Mc := iX7_within) (q := 16) (c' := 0) (s' := 0) dX7_owed_13 rfl kS_X7_within jw_263 ⟨by decide, by decide⟩ rfl (Nat.le_refl _) (Nat.le_refl _) (ct_X7_within E (by omega) (by omega) (by omega)) ?_
  refine j_callS1v (Mc := iX7_requireArgument) (q := 19) (c' := 0) (s' := 0) dX7_owed_16 rfl kS_X7_requireArgument jw_336 ⟨by decide, by decide⟩ rfl (Nat.le_refl _) (Nat.le_refl _) (ct_X7_requireArgument E (by first | assumption | exact decide_eq_true (by omega) | (simp_all; done))) ?_
  have hd1 := hd.1
  refine j_iload1 (q := 20) dX7_owed_19 rfl ?_
  refine j_aload0 (q := 21) dX7_owed_20 rfl ?_
  refine j_getR 0 (q := 24) dX7_owed_21 rfl fl_X7_10 (E.2.2 _ _ sh_0) rfl ?_
  refine j_getR 6 (q := 27) dX7_owed_24 rfl fl_X7_157 (E.2.2 _ _ sh_1) rfl ?_
  refine j_pgetI (d := 10) rfl (by decide) 0 (j' := 0) (q := 30) dX7_owed_27 rfl fl_X7_161 (E.2.2 _ _ sh_11) rfl rfl ?_
  refine j_icmp_lt (tgt := 35) (q := 33) dX7_owed_30 (by decide) rfl (by first | exact wr_id' (by omega) (by omega) | with_reducible exact wr_bI _ | exact rfl) (by first | exact wr_id' (by omega) (by omega) | with_reducible exact wr_bI _ | exact rfl) (fun h30 => ?_) (fun h30 => ?_)
  · have hd2 := hd.2 p (by omega) (by omega)
    refine j_aload0 (q := 36) dX7_owed_35 rfl ?_
    refine j_getR 0 (q := 39) dX7_owed_36 rfl fl_X7_10 (E.2.2 _ _ sh_0) rfl ?_
    refine j_getR 6 (q := 42) dX7_owed_39 rfl fl_X7_157 (E.2.2 _ _ sh_1) rfl ?_
    refine j_getR 1 (q := 45) dX7_owed_42 rfl fl_X7_250 (E.2.2 _ _ sh_11) rfl ?_
    refine j_iload1 (q := 46) dX7_owed_45 rfl ?_
    refine j_pload (q := 47) (d := 11) rfl (by decide) dX7_owed_46 rfl (E.2.2 _ _ sh_12) (by first | exact wr_id' (by omega) (by omega) | with_reducible exact wr_bI _ | exact rfl) (by omega) (by omega) ?_
    refine j_istore3 (q := 48) dX7_owed_47 rfl rfl (by decide) ?_
    refine j_iload2 (q := 49) dX7_owed_48 rfl ?_
    refine j_if_ne (tgt := 56) (q := 52) dX7_owed_49 (by decide) rfl (by first | exact wr_id' (by omega) (by omega) | with_reducible exact wr_bI _ | exact rfl) (fun h49 => ?_) (fun h49 => ?_)
    · refine j_aload0 (q := 57) dX7_owed_56 rfl ?_
      refine j_getR 0 (q := 60) dX7_owed_57 rfl fl_X7_10 (E.2.2 _ _ sh_0) rfl ?_
      refine j_getR 6 (q := 63) dX7_owed_60 rfl fl_X7_157 (E.2.2 _ _ sh_1) rfl ?_
      refine j_iload3 (q := 64) dX7_owed_63 rfl ?_
      refine j_callV1 (Mc := iX1_dueOf) (q := 67) (c' := 0) (s' := 0) dX7_owed_64 rfl kV_X1_dueOf jw_582 ⟨by decide, by decide⟩ (E.2.2 _ _ sh_11) rfl rfl rfl (Nat.le_refl _) (Nat.le_refl _) (ct_X1_dueOf E hq (by omega)) ?_
      exact j_ireturn dX7_owed_67 rfl (by unfold cOwd; first | (rw [if_pos (by omega)]; done) | (rw [if_neg (by omega), if_pos (by omega)]; done) | (rw [if_neg (by omega), if_neg (by omega)]; done)) (rfl)
    · refine j_iload3 (q := 53) dX7_owed_52 rfl ?_
      refine j_goto (tgt := 67) dX7_owed_53 (by decide) ?_
      exact j_ireturn dX7_owed_67 rfl (by unfold cOwd; first | (rw [if_pos (by omega)]; done) | (rw [if_neg (by omega), if_pos (by omega)]; done) | (rw [if_neg (by omega), if_neg (by omega)]; done)) (rfl)
  · refine j_iconst (q := 34) dX7_owed_33 rfl ?_
    exact j_ireturn dX7_owed_34 rfl (by unfold cOwd; first | (rw [if_pos (by omega)]; done) | (rw [if_neg (by omega), if_pos (by omega)]; done) | (rw [if_neg (by omega), if_neg (by omega)]; done)) (rfl)
theorem cNw_b (P : Mem) (b : Int) : -1 ≤ cNw P b ∧ cNw P b < 64 := by
  have h : ∀ (d : Nat) (c n : Int), c + d = 64 → 0 ≤ c → -1 ≤ n → n < 64 → -1 ≤ cNwF P b d c n ∧ cNwF P b d c n < 64 := by
    intro d
    induction d with
    | zero => intro c n _ _ h1 h2; exact ⟨h1, h2⟩
    | succ d ih =>
      intro c n h0 h3 h1 h2
      rw [cNwF]
      split
      · exact ih _ _ (by omega) (by omega) (by omega) (by omega)
      · exact ih _ _ (by omega) (by omega) (by omega) (by omega)
  exact h 64 0 (-1) (by omega) (by omega) (by omega) (by omega)
theorem ct_X7_count {G : GX} {sh : List SH} (E : EV G sh) {m P : Mem} {w : Int} {s : Int} (r_w : -2147483648 ≤ w ∧ w < 2147483648) (p0 : 0 ≤ w ∧ w ≤ 18) (h49 : m 49 0 = s) : CT G sh iX7_count 0 0 [.inr (.ref 0), .inl w] (ps m 1 P) (some (.inl (cCnt P s w))) (ps m 1 P) := by
  have hq : PA 1 := PA1
  refine j_met (L0 := [some (.inr (.ref 0)), some (.inl w)]) (by decide) E.1 E.2.1 rfl (Nat.le_of_ble_eq_true rfl) ?_
  refine j_iload1 (q := 1) dX7_count_0 rfl ?_
  refine j_iconst (q := 2) dX7_count_1 rfl ?_
  refine j_bipush (q := 4) dX7_count_2 rfl rfl ?_
  refine j_callS3 (Mc := iX7_within) (q := 7) (c' := 0) (s' := 0) dX7_count_4 rfl kS_X7_within jw_263 ⟨by decide, by decide⟩ rfl (Nat.le_refl _) (Nat.le_refl _) (ct_X7_within E (by omega) (by omega) (by omega)) ?_
  refine j_callS1v (Mc := iX7_requireArgument) (q := 10) (c' := 0) (s' := 0) dX7_count_7 rfl kS_X7_requireArgument jw_336 ⟨by decide, by decide⟩ rfl (Nat.le_refl _) (Nat.le_refl _) (ct_X7_requireArgument E (by first | assumption | exact decide_eq_true (by omega) | (simp_all; done))) ?_
  refine j_iload1 (q := 11) dX7_count_10 rfl ?_
  by_cases h11_0 : w = 0
  · refine j_tableIn (x' := w) (tgt := 100) 0 dX7_count_11 (by first | exact wr_id' (by omega) (by omega) | with_reducible exact wr_bI _ | exact rfl) (by omega) (by decide) rfl (by decide) ?_
    refine j_aload0 (q := 101) dX7_count_100 rfl ?_
    refine j_getR 0 (q := 104) dX7_count_101 rfl fl_X7_10 (E.2.2 _ _ sh_0) rfl ?_
    refine j_pgetI (d := 0) rfl (by decide) 0 (j' := 0) (q := 107) dX7_count_104 rfl fl_X7_168 (E.2.2 _ _ sh_1) rfl rfl ?_
    exact j_ireturn dX7_count_107 rfl (by unfold cCnt; first | (rw [if_pos (by omega)]; done) | (rw [if_neg (by omega), if_pos (by omega)]; done) | (rw [if_neg (by omega), if_neg (by omega), if_pos (by omega)]; done) | (rw [if_neg (by omega), if_neg (by omega), if_neg (by omega), if_pos (by omega)]; done) | (rw [if_neg (by omega), if_neg (by omega), if_neg (by omega), if_neg (by omega), if_pos (by omega)]; done) | (rw [if_neg (by omega), if_neg (by omega), if_neg (by omega), if_neg (by omega), if_neg (by omega), if_pos (by omega)]; done) | (rw [if_neg (by omega), if_neg (by omega), if_neg (by omega), if_neg (by omega), if_neg (by omega), if_neg (by omega), if_pos (by omega)]; done) | (rw [if_neg (by omega), if_neg (by omega), if_neg (by omega), if_neg (by omega), if_neg (by omega), if_neg (by omega), if_neg (by omega), if_pos (by omega)]; done) | (rw [if_neg (by omega), if_neg (by omega), if_neg (by omega), if_neg (by omega), if_neg (by omega), if_neg (by omega), if_neg (by omega), if_neg (by omega), if_pos (by omega)]; done) | (rw [if_neg (by omega), if_neg (by omega), if_neg (by omega), if_neg (by omega), if_neg (by omega), if_neg (by omega), if_neg (by omega), if_neg (by omega), if_neg (by omega), if_pos (by omega)]; done) | (rw [if_neg (by omega), if_neg (by omega), if_neg (by omega), if_neg (by omega), if_neg (by omega), if_neg (by omega), if_neg (by omega), if_neg (by omega), if_neg (by omega), if_neg (by omega)]; done)) (rfl)
  by_cases h11_1 : w = 1
  · refine j_tableIn (x' := w) (tgt := 108) 1 dX7_count_11 (by first | exact wr_id' (by omega) (by omega) | with_reducible exact wr_bI _ | exact rfl) (by omega) (by decide) rfl (by decide) ?_
    refine j_aload0 (q := 109) dX7_count_108 rfl ?_
    refine j_getR 0 (q := 112) dX7_count_109 rfl fl_X7_10 (E.2.2 _ _ sh_0) rfl ?_
    refine j_pgetI (d := 0) rfl (by decide) 1 (j' := 1) (q := 115) dX7_count_112 rfl fl_X7_124 (E.2.2 _ _ sh_1) rfl rfl ?_
    exact j_ireturn dX7_count_115 rfl (by unfold cCnt; first | (rw [if_pos (by omega)]; done) | (rw [if_neg (by omega), if_pos (by omega)]; done) | (rw [if_neg (by omega), if_neg (by omega), if_pos (by omega)]; done) | (rw [if_neg (by omega), if_neg (by omega), if_neg (by omega), if_pos (by omega)]; done) | (rw [if_neg (by omega), if_neg (by omega), if_neg (by omega), if_neg (by omega), if_pos (by omega)]; done) | (rw [if_neg (by omega), if_neg (by omega), if_neg (by omega), if_neg (by omega), if_neg (by omega), if_pos (by omega)]; done) | (rw [if_neg (by omega), if_neg (by omega), if_neg (by omega), if_neg (by omega), if_neg (by omega), if_neg (by omega), if_pos (by omega)]; done) | (rw [if_neg (by omega), if_neg (by omega), if_neg (by omega), if_neg (by omega), if_neg (by omega), if_neg (by omega), if_neg (by omega), if_pos (by omega)]; done) | (rw [if_neg (by omega), if_neg (by omega), if_neg (by omega), if_neg (by omega), if_neg (by omega), if_neg (by omega), if_neg (by omega), if_neg (by omega), if_pos (by omega)]; done) | (rw [if_neg (by omega), if_neg (by omega), if_neg (by omega), if_neg (by omega), if_neg (by omega), if_neg (by omega), if_neg (by omega), if_neg (by omega), if_neg (by omega), if_pos (by omega)]; done) | (rw [if_neg (by omega), if_neg (by omega), if_neg (by omega), if_neg (by omega), if_neg (by omega), if_neg (by omega), if_neg (by omega), if_neg (by omega), if_neg (by omega), if_neg (by omega)]; done)) (rfl)
  by_cases h11_2 : w = 2
  · refine j_tableIn (x' := w) (tgt := 116) 2 dX7_count_11 (by first | exact wr_id' (by omega) (by omega) | with_reducible exact wr_bI _ | exact rfl) (by omega) (by decide) rfl (by decide) ?_
    refine j_aload0 (q := 117) dX7_count_116 rfl ?_
    refine j_getR 0 (q := 120) dX7_count_117 rfl fl_X7_10 (E.2.2 _ _ sh_0) rfl ?_
    refine j_getR 7 (q := 123) dX7_count_120 rfl fl_X7_41 (E.2.2 _ _ sh_1) rfl ?_
    refine j_pgetI (d := 13) rfl (by decide) 0 (j' := 0) (q := 126) dX7_count_123 rfl fl_X7_45 (E.2.2 _ _ sh_14) rfl rfl ?_
    exact j_ireturn dX7_count_126 rfl (by unfold cCnt; first | (rw [if_pos (by omega)]; done) | (rw [if_neg (by omega), if_pos (by omega)]; done) | (rw [if_neg (by omega), if_neg (by omega), if_pos (by omega)]; done) | (rw [if_neg (by omega), if_neg (by omega), if_neg (by omega), if_pos (by omega)]; done) | (rw [if_neg (by omega), if_neg (by omega), if_neg (by omega), if_neg (by omega), if_pos (by omega)]; done) | (rw [if_neg (by omega), if_neg (by omega), if_neg (by omega), if_neg (by omega), if_neg (by omega), if_pos (by omega)]; done) | (rw [if_neg (by omega), if_neg (by omega), if_neg (by omega), if_neg (by omega), if_neg (by omega), if_neg (by omega), if_pos (by omega)]; done) | (rw [if_neg (by omega), if_neg (by omega), if_neg (by omega), if_neg (by omega), if_neg (by omega), if_neg (by omega), if_neg (by omega), if_pos (by omega)]; done) | (rw [if_neg (by omega), if_neg (by omega), if_neg (by omega), if_neg (by omega), if_neg (by omega), if_neg (by omega), if_neg (by omega), if_neg (by omega), if_pos (by omega)]; done) | (rw [if_neg (by omega), if_neg (by omega), if_neg (by omega), if_neg (by omega), if_neg (by omega), if_neg (by omega), if_neg (by omega), if_neg (by omega), if_neg (by omega), if_pos (by omega)]; done) | (rw [if_neg (by omega), if_neg (by omega), if_neg (by omega), if_neg (by omega), if_neg (by omega), if_neg (by omega), if_neg (by omega), if_neg (by omega), if_neg (by omega), if_neg (by omega)]; done)) (rfl)
  by_cases h11_3 : w = 3
  · refine j_tableIn (x' := w) (tgt := 127) 3 dX7_count_11 (by first | exact wr_id' (by omega) (by omega) | with_reducible exact wr_bI _ | exact rfl) (by omega) (by decide) rfl (by decide) ?_
    refine j_aload0 (q := 128) dX7_count_127 rfl ?_
    refine j_getR 0 (q := 131) dX7_count_128 rfl fl_X7_10 (E.2.2 _ _ sh_0) rfl ?_
    refine j_getR 8 (q := 134) dX7_count_131 rfl fl_X7_62 (E.2.2 _ _ sh_1) rfl ?_
    refine j_pgetI (d := 17) rfl (by decide) 0 (j' := 0) (q := 137) dX7_count_134 rfl fl_X7_66 (E.2.2 _ _ sh_18) rfl rfl ?_
    exact j_ireturn dX7_count_137 rfl (by unfold cCnt; first | (rw [if_pos (by omega)]; done) | (rw [if_neg (by omega), if_pos (by omega)]; done) | (rw [if_neg (by omega), if_neg (by omega), if_pos (by omega)]; done) | (rw [if_neg (by omega), if_neg (by omega), if_neg (by omega), if_pos (by omega)]; done) | (rw [if_neg (by omega), if_neg (by omega), if_neg (by omega), if_neg (by omega), if_pos (by omega)]; done) | (rw [if_neg (by omega), if_neg (by omega), if_neg (by omega), if_neg (by omega), if_neg (by omega), if_pos (by omega)]; done) | (rw [if_neg (by omega), if_neg (by omega), if_neg (by omega), if_neg (by omega), if_neg (by omega), if_neg (by omega), if_pos (by omega)]; done) | (rw [if_neg (by omega), if_neg (by omega), if_neg (by omega), if_neg (by omega), if_neg (by omega), if_neg (by omega), if_neg (by omega), if_pos (by omega)]; done) | (rw [if_neg (by omega), if_neg (by omega), if_neg (by omega), if_neg (by omega), if_neg (by omega), if_neg (by omega), if_neg (by omega), if_neg (by omega), if_pos (by omega)]; done) | (rw [if_neg (by omega), if_neg (by omega), if_neg (by omega), if_neg (by omega), if_neg (by omega), if_neg (by omega), if_neg (by omega), if_neg (by omega), if_neg (by omega), if_pos (by omega)]; done) | (rw [if_neg (by omega), if_neg (by omega), if_neg (by omega), if_neg (by omega), if_neg (by omega), if_neg (by omega), if_neg (by omega), if_neg (by omega), if_neg (by omega), if_neg (by omega)]; done)) (rfl)
  by_cases h11_4 : w = 4
  · refine j_tableIn (x' := w) (tgt := 138) 4 dX7_count_11 (by first | exact wr_id' (by omega) (by omega) | with_reducible exact wr_bI _ | exact rfl) (by omega) (by decide) rfl (by decide) ?_
    refine j_aload0 (q := 139) dX7_count_138 rfl ?_
    refine j_getR 0 (q := 142) dX7_count_139 rfl fl_X7_10 (E.2.2 _ _ sh_0) rfl ?_
    refine j_getR 5 (q := 145) dX7_count_142 rfl fl_X7_89 (E.2.2 _ _ sh_1) rfl ?_
    refine j_callV0 (Mc := iX0_leasedInAll) (q := 148) (c' := 0) (s' := 0) dX7_count_145 rfl kV_X0_leasedInAll jw_391 ⟨by decide, by decide⟩ (E.2.2 _ _ sh_4) rfl rfl rfl (Nat.le_refl _) (Nat.le_refl _) (ct_X0_leasedInAll E hq) ?_
    exact j_ireturn dX7_count_148 rfl (by unfold cCnt; first | (rw [if_pos (by omega)]; done) | (rw [if_neg (by omega), if_pos (by omega)]; done) | (rw [if_neg (by omega), if_neg (by omega), if_pos (by omega)]; done) | (rw [if_neg (by omega), if_neg (by omega), if_neg (by omega), if_pos (by omega)]; done) | (rw [if_neg (by omega), if_neg (by omega), if_neg (by omega), if_neg (by omega), if_pos (by omega)]; done) | (rw [if_neg (by omega), if_neg (by omega), if_neg (by omega), if_neg (by omega), if_neg (by omega), if_pos (by omega)]; done) | (rw [if_neg (by omega), if_neg (by omega), if_neg (by omega), if_neg (by omega), if_neg (by omega), if_neg (by omega), if_pos (by omega)]; done) | (rw [if_neg (by omega), if_neg (by omega), if_neg (by omega), if_neg (by omega), if_neg (by omega), if_neg (by omega), if_neg (by omega), if_pos (by omega)]; done) | (rw [if_neg (by omega), if_neg (by omega), if_neg (by omega), if_neg (by omega), if_neg (by omega), if_neg (by omega), if_neg (by omega), if_neg (by omega), if_pos (by omega)]; done) | (rw [if_neg (by omega), if_neg (by omega), if_neg (by omega), if_neg (by omega), if_neg (by omega), if_neg (by omega), if_neg (by omega), if_neg (by omega), if_neg (by omega), if_pos (by omega)]; done) | (rw [if_neg (by omega), if_neg (by omega), if_neg (by omega), if_neg (by omega), if_neg (by omega), if_neg (by omega), if_neg (by omega), if_neg (by omega), if_neg (by omega), if_neg (by omega)]; done)) (rfl)
  by_cases h11_5 : w = 5
  · refine j_tableIn (x' := w) (tgt := 149) 5 dX7_count_11 (by first | exact wr_id' (by omega) (by omega) | with_reducible exact wr_bI _ | exact rfl) (by omega) (by decide) rfl (by decide) ?_
    refine j_aload0 (q := 150) dX7_count_149 rfl ?_
    refine j_getR 0 (q := 153) dX7_count_150 rfl fl_X7_10 (E.2.2 _ _ sh_0) rfl ?_
    refine j_getR 5 (q := 156) dX7_count_153 rfl fl_X7_89 (E.2.2 _ _ sh_1) rfl ?_
    refine j_callV0 (Mc := iX0_insuredInAll) (q := 159) (c' := 0) (s' := 0) dX7_count_156 rfl kV_X0_insuredInAll jw_412 ⟨by decide, by decide⟩ (E.2.2 _ _ sh_4) rfl rfl rfl (Nat.le_refl _) (Nat.le_refl _) (ct_X0_insuredInAll E hq) ?_
    exact j_ireturn dX7_count_159 rfl (by unfold cCnt; first | (rw [if_pos (by omega)]; done) | (rw [if_neg (by omega), if_pos (by omega)]; done) | (rw [if_neg (by omega), if_neg (by omega), if_pos (by omega)]; done) | (rw [if_neg (by omega), if_neg (by omega), if_neg (by omega), if_pos (by omega)]; done) | (rw [if_neg (by omega), if_neg (by omega), if_neg (by omega), if_neg (by omega), if_pos (by omega)]; done) | (rw [if_neg (by omega), if_neg (by omega), if_neg (by omega), if_neg (by omega), if_neg (by omega), if_pos (by omega)]; done) | (rw [if_neg (by omega), if_neg (by omega), if_neg (by omega), if_neg (by omega), if_neg (by omega), if_neg (by omega), if_pos (by omega)]; done) | (rw [if_neg (by omega), if_neg (by omega), if_neg (by omega), if_neg (by omega), if_neg (by omega), if_neg (by omega), if_neg (by omega), if_pos (by omega)]; done) | (rw [if_neg (by omega), if_neg (by omega), if_neg (by omega), if_neg (by omega), if_neg (by omega), if_neg (by omega), if_neg (by omega), if_neg (by omega), if_pos (by omega)]; done) | (rw [if_neg (by omega), if_neg (by omega), if_neg (by omega), if_neg (by omega), if_neg (by omega), if_neg (by omega), if_neg (by omega), if_neg (by omega), if_neg (by omega), if_pos (by omega)]; done) | (rw [if_neg (by omega), if_neg (by omega), if_neg (by omega), if_neg (by omega), if_neg (by omega), if_neg (by omega), if_neg (by omega), if_neg (by omega), if_neg (by omega), if_neg (by omega)]; done)) (rfl)
  by_cases h11_6 : w = 6
  · refine j_tableIn (x' := w) (tgt := 160) 6 dX7_count_11 (by first | exact wr_id' (by omega) (by omega) | with_reducible exact wr_bI _ | exact rfl) (by omega) (by decide) rfl (by decide) ?_
    refine j_aload0 (q := 161) dX7_count_160 rfl ?_
    refine j_getR 0 (q := 164) dX7_count_161 rfl fl_X7_10 (E.2.2 _ _ sh_0) rfl ?_
    refine j_getR 6 (q := 167) dX7_count_164 rfl fl_X7_157 (E.2.2 _ _ sh_1) rfl ?_
    refine j_pgetI (d := 10) rfl (by decide) 0 (j' := 0) (q := 170) dX7_count_167 rfl fl_X7_161 (E.2.2 _ _ sh_11) rfl rfl ?_
    exact j_ireturn dX7_count_170 rfl (by unfold cCnt; first | (rw [if_pos (by omega)]; done) | (rw [if_neg (by omega), if_pos (by omega)]; done) | (rw [if_neg (by omega), if_neg (by omega), if_pos (by omega)]; done) | (rw [if_neg (by omega), if_neg (by omega), if_neg (by omega), if_pos (by omega)]; done) | (rw [if_neg (by omega), if_neg (by omega), if_neg (by omega), if_neg (by omega), if_pos (by omega)]; done) | (rw [if_neg (by omega), if_neg (by omega), if_neg (by omega), if_neg (by omega), if_neg (by omega), if_pos (by omega)]; done) | (rw [if_neg (by omega), if_neg (by omega), if_neg (by omega), if_neg (by omega), if_neg (by omega), if_neg (by omega), if_pos (by omega)]; done) | (rw [if_neg (by omega), if_neg (by omega), if_neg (by omega), if_neg (by omega), if_neg (by omega), if_neg (by omega), if_neg (by omega), if_pos (by omega)]; done) | (rw [if_neg (by omega), if_neg (by omega), if_neg (by omega), if_neg (by omega), if_neg (by omega), if_neg (by omega), if_neg (by omega), if_neg (by omega), if_pos (by omega)]; done) | (rw [if_neg (by omega), if_neg (by omega), if_neg (by omega), if_neg (by omega), if_neg (by omega), if_neg (by omega), if_neg (by omega), if_neg (by omega), if_neg (by omega), if_pos (by omega)]; done) | (rw [if_neg (by omega), if_neg (by omega), if_neg (by omega), if_neg (by omega), if_neg (by omega), if_neg (by omega), if_neg (by omega), if_neg (by omega), if_neg (by omega), if_neg (by omega)]; done)) (rfl)
  by_cases h11_7 : w = 7
  · refine j_tableIn (x' := w) (tgt := 171) 7 dX7_count_11 (by first | exact wr_id' (by omega) (by omega) | with_reducible exact wr_bI _ | exact rfl) (by omega) (by decide) rfl (by decide) ?_
    refine j_aload0 (q := 172) dX7_count_171 rfl ?_
    refine j_getR 0 (q := 175) dX7_count_172 rfl fl_X7_10 (E.2.2 _ _ sh_0) rfl ?_
    refine j_getR 5 (q := 178) dX7_count_175 rfl fl_X7_89 (E.2.2 _ _ sh_1) rfl ?_
    refine j_pgetL (d := 3) rfl (by decide) 0 (j' := 0) (q := 181) dX7_count_178 rfl fl_X7_265 (E.2.2 _ _ sh_4) rfl rfl ?_
    refine j_callS1 (Mc := iJ13_bitCount_95d88) (q := 184) (c' := 0) (s' := 0) dX7_count_181 rfl kS_J13_bitCount_95d88 jw_424 ⟨by decide, by decide⟩ rfl (Nat.le_refl _) (Nat.le_refl _) (ct_J13_bitCount_95d88 E) ?_
    exact j_ireturn dX7_count_184 rfl (by unfold cCnt; first | (rw [if_pos (by omega)]; done) | (rw [if_neg (by omega), if_pos (by omega)]; done) | (rw [if_neg (by omega), if_neg (by omega), if_pos (by omega)]; done) | (rw [if_neg (by omega), if_neg (by omega), if_neg (by omega), if_pos (by omega)]; done) | (rw [if_neg (by omega), if_neg (by omega), if_neg (by omega), if_neg (by omega), if_pos (by omega)]; done) | (rw [if_neg (by omega), if_neg (by omega), if_neg (by omega), if_neg (by omega), if_neg (by omega), if_pos (by omega)]; done) | (rw [if_neg (by omega), if_neg (by omega), if_neg (by omega), if_neg (by omega), if_neg (by omega), if_neg (by omega), if_pos (by omega)]; done) | (rw [if_neg (by omega), if_neg (by omega), if_neg (by omega), if_neg (by omega), if_neg (by omega), if_neg (by omega), if_neg (by omega), if_pos (by omega)]; done) | (rw [if_neg (by omega), if_neg (by omega), if_neg (by omega), if_neg (by omega), if_neg (by omega), if_neg (by omega), if_neg (by omega), if_neg (by omega), if_pos (by omega)]; done) | (rw [if_neg (by omega), if_neg (by omega), if_neg (by omega), if_neg (by omega), if_neg (by omega), if_neg (by omega), if_neg (by omega), if_neg (by omega), if_neg (by omega), if_pos (by omega)]; done) | (rw [if_neg (by omega), if_neg (by omega), if_neg (by omega), if_neg (by omega), if_neg (by omega), if_neg (by omega), if_neg (by omega), if_neg (by omega), if_neg (by omega), if_neg (by omega)]; done)) (rfl)
  by_cases h11_8 : w = 8
  · refine j_tableIn (x' := w) (tgt := 201) 8 dX7_count_11 (by first | exact wr_id' (by omega) (by omega) | with_reducible exact wr_bI _ | exact rfl) (by omega) (by decide) rfl (by decide) ?_
    refine j_aload0 (q := 202) dX7_count_201 rfl ?_
    refine j_getR 0 (q := 205) dX7_count_202 rfl fl_X7_10 (E.2.2 _ _ sh_0) rfl ?_
    refine j_getR 4 (q := 208) dX7_count_205 rfl fl_X7_275 (E.2.2 _ _ sh_1) rfl ?_
    refine j_iload1 (q := 209) dX7_count_208 rfl ?_
    refine j_pload (q := 210) (d := 2) rfl (by decide) dX7_count_209 rfl (E.2.2 _ _ sh_3) (by first | exact wr_id' (by omega) (by omega) | with_reducible exact wr_bI _ | exact rfl) (by omega) (by omega) ?_
    exact j_ireturn dX7_count_210 rfl (by unfold cCnt; first | (rw [if_pos (by omega)]; done) | (rw [if_neg (by omega), if_pos (by omega)]; done) | (rw [if_neg (by omega), if_neg (by omega), if_pos (by omega)]; done) | (rw [if_neg (by omega), if_neg (by omega), if_neg (by omega), if_pos (by omega)]; done) | (rw [if_neg (by omega), if_neg (by omega), if_neg (by omega), if_neg (by omega), if_pos (by omega)]; done) | (rw [if_neg (by omega), if_neg (by omega), if_neg (by omega), if_neg (by omega), if_neg (by omega), if_pos (by omega)]; done) | (rw [if_neg (by omega), if_neg (by omega), if_neg (by omega), if_neg (by omega), if_neg (by omega), if_neg (by omega), if_pos (by omega)]; done) | (rw [if_neg (by omega), if_neg (by omega), if_neg (by omega), if_neg (by omega), if_neg (by omega), if_neg (by omega), if_neg (by omega), if_pos (by omega)]; done) | (rw [if_neg (by omega), if_neg (by omega), if_neg (by omega), if_neg (by omega), if_neg (by omega), if_neg (by omega), if_neg (by omega), if_neg (by omega), if_pos (by omega)]; done) | (rw [if_neg (by omega), if_neg (by omega), if_neg (by omega), if_neg (by omega), if_neg (by omega), if_neg (by omega), if_neg (by omega), if_neg (by omega), if_neg (by omega), if_pos (by omega)]; done) | (rw [if_neg (by omega), if_neg (by omega), if_neg (by omega), if_neg (by omega), if_neg (by omega), if_neg (by omega), if_neg (by omega), if_neg (by omega), if_neg (by omega), if_neg (by omega)]; done)) (rfl)
  by_cases h11_9 : w = 9
  · refine j_tableIn (x' := w) (tgt := 201) 9 dX7_count_11 (by first | exact wr_id' (by omega) (by omega) | with_reducible exact wr_bI _ | exact rfl) (by omega) (by decide) rfl (by decide) ?_
    refine j_aload0 (q := 202) dX7_count_201 rfl ?_
    refine j_getR 0 (q := 205) dX7_count_202 rfl fl_X7_10 (E.2.2 _ _ sh_0) rfl ?_
    refine j_getR 4 (q := 208) dX7_count_205 rfl fl_X7_275 (E.2.2 _ _ sh_1) rfl ?_
    refine j_iload1 (q := 209) dX7_count_208 rfl ?_
    refine j_pload (q := 210) (d := 2) rfl (by decide) dX7_count_209 rfl (E.2.2 _ _ sh_3) (by first | exact wr_id' (by omega) (by omega) | with_reducible exact wr_bI _ | exact rfl) (by omega) (by omega) ?_
    exact j_ireturn dX7_count_210 rfl (by unfold cCnt; first | (rw [if_pos (by omega)]; done) | (rw [if_neg (by omega), if_pos (by omega)]; done) | (rw [if_neg (by omega), if_neg (by omega), if_pos (by omega)]; done) | (rw [if_neg (by omega), if_neg (by omega), if_neg (by omega), if_pos (by omega)]; done) | (rw [if_neg (by omega), if_neg (by omega), if_neg (by omega), if_neg (by omega), if_pos (by omega)]; done) | (rw [if_neg (by omega), if_neg (by omega), if_neg (by omega), if_neg (by omega), if_neg (by omega), if_pos (by omega)]; done) | (rw [if_neg (by omega), if_neg (by omega), if_neg (by omega), if_neg (by omega), if_neg (by omega), if_neg (by omega), if_pos (by omega)]; done) | (rw [if_neg (by omega), if_neg (by omega), if_neg (by omega), if_neg (by omega), if_neg (by omega), if_neg (by omega), if_neg (by omega), if_pos (by omega)]; done) | (rw [if_neg (by omega), if_neg (by omega), if_neg (by omega), if_neg (by omega), if_neg (by omega), if_neg (by omega), if_neg (by omega), if_neg (by omega), if_pos (by omega)]; done) | (rw [if_neg (by omega), if_neg (by omega), if_neg (by omega), if_neg (by omega), if_neg (by omega), if_neg (by omega), if_neg (by omega), if_neg (by omega), if_neg (by omega), if_pos (by omega)]; done) | (rw [if_neg (by omega), if_neg (by omega), if_neg (by omega), if_neg (by omega), if_neg (by omega), if_neg (by omega), if_neg (by omega), if_neg (by omega), if_neg (by omega), if_neg (by omega)]; done)) (rfl)
  by_cases h11_10 : w = 10
  · refine j_tableIn (x' := w) (tgt := 201) 10 dX7_count_11 (by first | exact wr_id' (by omega) (by omega) | with_reducible exact wr_bI _ | exact rfl) (by omega) (by decide) rfl (by decide) ?_
    refine j_aload0 (q := 202) dX7_count_201 rfl ?_
    refine j_getR 0 (q := 205) dX7_count_202 rfl fl_X7_10 (E.2.2 _ _ sh_0) rfl ?_
    refine j_getR 4 (q := 208) dX7_count_205 rfl fl_X7_275 (E.2.2 _ _ sh_1) rfl ?_
    refine j_iload1 (q := 209) dX7_count_208 rfl ?_
    refine j_pload (q := 210) (d := 2) rfl (by decide) dX7_count_209 rfl (E.2.2 _ _ sh_3) (by first | exact wr_id' (by omega) (by omega) | with_reducible exact wr_bI _ | exact rfl) (by omega) (by omega) ?_
    exact j_ireturn dX7_count_210 rfl (by unfold cCnt; first | (rw [if_pos (by omega)]; done) | (rw [if_neg (by omega), if_pos (by omega)]; done) | (rw [if_neg (by omega), if_neg (by omega), if_pos (by omega)]; done) | (rw [if_neg (by omega), if_neg (by omega), if_neg (by omega), if_pos (by omega)]; done) | (rw [if_neg (by omega), if_neg (by omega), if_neg (by omega), if_neg (by omega), if_pos (by omega)]; done) | (rw [if_neg (by omega), if_neg (by omega), if_neg (by omega), if_neg (by omega), if_neg (by omega), if_pos (by omega)]; done) | (rw [if_neg (by omega), if_neg (by omega), if_neg (by omega), if_neg (by omega), if_neg (by omega), if_neg (by omega), if_pos (by omega)]; done) | (rw [if_neg (by omega), if_neg (by omega), if_neg (by omega), if_neg (by omega), if_neg (by omega), if_neg (by omega), if_neg (by omega), if_pos (by omega)]; done) | (rw [if_neg (by omega), if_neg (by omega), if_neg (by omega), if_neg (by omega), if_neg (by omega), if_neg (by omega), if_neg (by omega), if_neg (by omega), if_pos (by omega)]; done) | (rw [if_neg (by omega), if_neg (by omega), if_neg (by omega), if_neg (by omega), if_neg (by omega), if_neg (by omega), if_neg (by omega), if_neg (by omega), if_neg (by omega), if_pos (by omega)]; done) | (rw [if_neg (by omega), if_neg (by omega), if_neg (by omega), if_neg (by omega), if_neg (by omega), if_neg (by omega), if_neg (by omega), if_neg (by omega), if_neg (by omega), if_neg (by omega)]; done)) (rfl)
  by_cases h11_11 : w = 11
  · refine j_tableIn (x' := w) (tgt := 201) 11 dX7_count_11 (by first | exact wr_id' (by omega) (by omega) | with_reducible exact wr_bI _ | exact rfl) (by omega) (by decide) rfl (by decide) ?_
    refine j_aload0 (q := 202) dX7_count_201 rfl ?_
    refine j_getR 0 (q := 205) dX7_count_202 rfl fl_X7_10 (E.2.2 _ _ sh_0) rfl ?_
    refine j_getR 4 (q := 208) dX7_count_205 rfl fl_X7_275 (E.2.2 _ _ sh_1) rfl ?_
    refine j_iload1 (q := 209) dX7_count_208 rfl ?_
    refine j_pload (q := 210) (d := 2) rfl (by decide) dX7_count_209 rfl (E.2.2 _ _ sh_3) (by first | exact wr_id' (by omega) (by omega) | with_reducible exact wr_bI _ | exact rfl) (by omega) (by omega) ?_
    exact j_ireturn dX7_count_210 rfl (by unfold cCnt; first | (rw [if_pos (by omega)]; done) | (rw [if_neg (by omega), if_pos (by omega)]; done) | (rw [if_neg (by omega), if_neg (by omega), if_pos (by omega)]; done) | (rw [if_neg (by omega), if_neg (by omega), if_neg (by omega), if_pos (by omega)]; done) | (rw [if_neg (by omega), if_neg (by omega), if_neg (by omega), if_neg (by omega), if_pos (by omega)]; done) | (rw [if_neg (by omega), if_neg (by omega), if_neg (by omega), if_neg (by omega), if_neg (by omega), if_pos (by omega)]; done) | (rw [if_neg (by omega), if_neg (by omega), if_neg (by omega), if_neg (by omega), if_neg (by omega), if_neg (by omega), if_pos (by omega)]; done) | (rw [if_neg (by omega), if_neg (by omega), if_neg (by omega), if_neg (by omega), if_neg (by omega), if_neg (by omega), if_neg (by omega), if_pos (by omega)]; done) | (rw [if_neg (by omega), if_neg (by omega), if_neg (by omega), if_neg (by omega), if_neg (by omega), if_neg (by omega), if_neg (by omega), if_neg (by omega), if_pos (by omega)]; done) | (rw [if_neg (by omega), if_neg (by omega), if_neg (by omega), if_neg (by omega), if_neg (by omega), if_neg (by omega), if_neg (by omega), if_neg (by omega), if_neg (by omega), if_pos (by omega)]; done) | (rw [if_neg (by omega), if_neg (by omega), if_neg (by omega), if_neg (by omega), if_neg (by omega), if_neg (by omega), if_neg (by omega), if_neg (by omega), if_neg (by omega), if_neg (by omega)]; done)) (rfl)
  by_cases h11_12 : w = 12
  · refine j_tableIn (x' := w) (tgt := 201) 12 dX7_count_11 (by first | exact wr_id' (by omega) (by omega) | with_reducible exact wr_bI _ | exact rfl) (by omega) (by decide) rfl (by decide) ?_
    refine j_aload0 (q := 202) dX7_count_201 rfl ?_
    refine j_getR 0 (q := 205) dX7_count_202 rfl fl_X7_10 (E.2.2 _ _ sh_0) rfl ?_
    refine j_getR 4 (q := 208) dX7_count_205 rfl fl_X7_275 (E.2.2 _ _ sh_1) rfl ?_
    refine j_iload1 (q := 209) dX7_count_208 rfl ?_
    refine j_pload (q := 210) (d := 2) rfl (by decide) dX7_count_209 rfl (E.2.2 _ _ sh_3) (by first | exact wr_id' (by omega) (by omega) | with_reducible exact wr_bI _ | exact rfl) (by omega) (by omega) ?_
    exact j_ireturn dX7_count_210 rfl (by unfold cCnt; first | (rw [if_pos (by omega)]; done) | (rw [if_neg (by omega), if_pos (by omega)]; done) | (rw [if_neg (by omega), if_neg (by omega), if_pos (by omega)]; done) | (rw [if_neg (by omega), if_neg (by omega), if_neg (by omega), if_pos (by omega)]; done) | (rw [if_neg (by omega), if_neg (by omega), if_neg (by omega), if_neg (by omega), if_pos (by omega)]; done) | (rw [if_neg (by omega), if_neg (by omega), if_neg (by omega), if_neg (by omega), if_neg (by omega), if_pos (by omega)]; done) | (rw [if_neg (by omega), if_neg (by omega), if_neg (by omega), if_neg (by omega), if_neg (by omega), if_neg (by omega), if_pos (by omega)]; done) | (rw [if_neg (by omega), if_neg (by omega), if_neg (by omega), if_neg (by omega), if_neg (by omega), if_neg (by omega), if_neg (by omega), if_pos (by omega)]; done) | (rw [if_neg (by omega), if_neg (by omega), if_neg (by omega), if_neg (by omega), if_neg (by omega), if_neg (by omega), if_neg (by omega), if_neg (by omega), if_pos (by omega)]; done) | (rw [if_neg (by omega), if_neg (by omega), if_neg (by omega), if_neg (by omega), if_neg (by omega), if_neg (by omega), if_neg (by omega), if_neg (by omega), if_neg (by omega), if_pos (by omega)]; done) | (rw [if_neg (by omega), if_neg (by omega), if_neg (by omega), if_neg (by omega), if_neg (by omega), if_neg (by omega), if_neg (by omega), if_neg (by omega), if_neg (by omega), if_neg (by omega)]; done)) (rfl)
  by_cases h11_13 : w = 13
  · refine j_tableIn (x' := w) (tgt := 201) 13 dX7_count_11 (by first | exact wr_id' (by omega) (by omega) | with_reducible exact wr_bI _ | exact rfl) (by omega) (by decide) rfl (by decide) ?_
    refine j_aload0 (q := 202) dX7_count_201 rfl ?_
    refine j_getR 0 (q := 205) dX7_count_202 rfl fl_X7_10 (E.2.2 _ _ sh_0) rfl ?_
    refine j_getR 4 (q := 208) dX7_count_205 rfl fl_X7_275 (E.2.2 _ _ sh_1) rfl ?_
    refine j_iload1 (q := 209) dX7_count_208 rfl ?_
    refine j_pload (q := 210) (d := 2) rfl (by decide) dX7_count_209 rfl (E.2.2 _ _ sh_3) (by first | exact wr_id' (by omega) (by omega) | with_reducible exact wr_bI _ | exact rfl) (by omega) (by omega) ?_
    exact j_ireturn dX7_count_210 rfl (by unfold cCnt; first | (rw [if_pos (by omega)]; done) | (rw [if_neg (by omega), if_pos (by omega)]; done) | (rw [if_neg (by omega), if_neg (by omega), if_pos (by omega)]; done) | (rw [if_neg (by omega), if_neg (by omega), if_neg (by omega), if_pos (by omega)]; done) | (rw [if_neg (by omega), if_neg (by omega), if_neg (by omega), if_neg (by omega), if_pos (by omega)]; done) | (rw [if_neg (by omega), if_neg (by omega), if_neg (by omega), if_neg (by omega), if_neg (by omega), if_pos (by omega)]; done) | (rw [if_neg (by omega), if_neg (by omega), if_neg (by omega), if_neg (by omega), if_neg (by omega), if_neg (by omega), if_pos (by omega)]; done) | (rw [if_neg (by omega), if_neg (by omega), if_neg (by omega), if_neg (by omega), if_neg (by omega), if_neg (by omega), if_neg (by omega), if_pos (by omega)]; done) | (rw [if_neg (by omega), if_neg (by omega), if_neg (by omega), if_neg (by omega), if_neg (by omega), if_neg (by omega), if_neg (by omega), if_neg (by omega), if_pos (by omega)]; done) | (rw [if_neg (by omega), if_neg (by omega), if_neg (by omega), if_neg (by omega), if_neg (by omega), if_neg (by omega), if_neg (by omega), if_neg (by omega), if_neg (by omega), if_pos (by omega)]; done) | (rw [if_neg (by omega), if_neg (by omega), if_neg (by omega), if_neg (by omega), if_neg (by omega), if_neg (by omega), if_neg (by omega), if_neg (by omega), if_neg (by omega), if_neg (by omega)]; done)) (rfl)
  by_cases h11_14 : w = 14
  · refine j_tableIn (x' := w) (tgt := 201) 14 dX7_count_11 (by first | exact wr_id' (by omega) (by omega) | with_reducible exact wr_bI _ | exact rfl) (by omega) (by decide) rfl (by decide) ?_
    refine j_aload0 (q := 202) dX7_count_201 rfl ?_
    refine j_getR 0 (q := 205) dX7_count_202 rfl fl_X7_10 (E.2.2 _ _ sh_0) rfl ?_
    refine j_getR 4 (q := 208) dX7_count_205 rfl fl_X7_275 (E.2.2 _ _ sh_1) rfl ?_
    refine j_iload1 (q := 209) dX7_count_208 rfl ?_
    refine j_pload (q := 210) (d := 2) rfl (by decide) dX7_count_209 rfl (E.2.2 _ _ sh_3) (by first | exact wr_id' (by omega) (by omega) | with_reducible exact wr_bI _ | exact rfl) (by omega) (by omega) ?_
    exact j_ireturn dX7_count_210 rfl (by unfold cCnt; first | (rw [if_pos (by omega)]; done) | (rw [if_neg (by omega), if_pos (by omega)]; done) | (rw [if_neg (by omega), if_neg (by omega), if_pos (by omega)]; done) | (rw [if_neg (by omega), if_neg (by omega), if_neg (by omega), if_pos (by omega)]; done) | (rw [if_neg (by omega), if_neg (by omega), if_neg (by omega), if_neg (by omega), if_pos (by omega)]; done) | (rw [if_neg (by omega), if_neg (by omega), if_neg (by omega), if_neg (by omega), if_neg (by omega), if_pos (by omega)]; done) | (rw [if_neg (by omega), if_neg (by omega), if_neg (by omega), if_neg (by omega), if_neg (by omega), if_neg (by omega), if_pos (by omega)]; done) | (rw [if_neg (by omega), if_neg (by omega), if_neg (by omega), if_neg (by omega), if_neg (by omega), if_neg (by omega), if_neg (by omega), if_pos (by omega)]; done) | (rw [if_neg (by omega), if_neg (by omega), if_neg (by omega), if_neg (by omega), if_neg (by omega), if_neg (by omega), if_neg (by omega), if_neg (by omega), if_pos (by omega)]; done) | (rw [if_neg (by omega), if_neg (by omega), if_neg (by omega), if_neg (by omega), if_neg (by omega), if_neg (by omega), if_neg (by omega), if_neg (by omega), if_neg (by omega), if_pos (by omega)]; done) | (rw [if_neg (by omega), if_neg (by omega), if_neg (by omega), if_neg (by omega), if_neg (by omega), if_neg (by omega), if_neg (by omega), if_neg (by omega), if_neg (by omega), if_neg (by omega)]; done)) (rfl)
  by_cases h11_15 : w = 15
  · refine j_tableIn (x' := w) (tgt := 201) 15 dX7_count_11 (by first | exact wr_id' (by omega) (by omega) | with_reducible exact wr_bI _ | exact rfl) (by omega) (by decide) rfl (by decide) ?_
    refine j_aload0 (q := 202) dX7_count_201 rfl ?_
    refine j_getR 0 (q := 205) dX7_count_202 rfl fl_X7_10 (E.2.2 _ _ sh_0) rfl ?_
    refine j_getR 4 (q := 208) dX7_count_205 rfl fl_X7_275 (E.2.2 _ _ sh_1) rfl ?_
    refine j_iload1 (q := 209) dX7_count_208 rfl ?_
    refine j_pload (q := 210) (d := 2) rfl (by decide) dX7_count_209 rfl (E.2.2 _ _ sh_3) (by first | exact wr_id' (by omega) (by omega) | with_reducible exact wr_bI _ | exact rfl) (by omega) (by omega) ?_
    exact j_ireturn dX7_count_210 rfl (by unfold cCnt; first | (rw [if_pos (by omega)]; done) | (rw [if_neg (by omega), if_pos (by omega)]; done) | (rw [if_neg (by omega), if_neg (by omega), if_pos (by omega)]; done) | (rw [if_neg (by omega), if_neg (by omega), if_neg (by omega), if_pos (by omega)]; done) | (rw [if_neg (by omega), if_neg (by omega), if_neg (by omega), if_neg (by omega), if_pos (by omega)]; done) | (rw [if_neg (by omega), if_neg (by omega), if_neg (by omega), if_neg (by omega), if_neg (by omega), if_pos (by omega)]; done) | (rw [if_neg (by omega), if_neg (by omega), if_neg (by omega), if_neg (by omega), if_neg (by omega), if_neg (by omega), if_pos (by omega)]; done) | (rw [if_neg (by omega), if_neg (by omega), if_neg (by omega), if_neg (by omega), if_neg (by omega), if_neg (by omega), if_neg (by omega), if_pos (by omega)]; done) | (rw [if_neg (by omega), if_neg (by omega), if_neg (by omega), if_neg (by omega), if_neg (by omega), if_neg (by omega), if_neg (by omega), if_neg (by omega), if_pos (by omega)]; done) | (rw [if_neg (by omega), if_neg (by omega), if_neg (by omega), if_neg (by omega), if_neg (by omega), if_neg (by omega), if_neg (by omega), if_neg (by omega), if_neg (by omega), if_pos (by omega)]; done) | (rw [if_neg (by omega), if_neg (by omega), if_neg (by omega), if_neg (by omega), if_neg (by omega), if_neg (by omega), if_neg (by omega), if_neg (by omega), if_neg (by omega), if_neg (by omega)]; done)) (rfl)
  by_cases h11_16 : w = 16
  · refine j_tableIn (x' := w) (tgt := 185) 16 dX7_count_11 (by first | exact wr_id' (by omega) (by omega) | with_reducible exact wr_bI _ | exact rfl) (by omega) (by decide) rfl (by decide) ?_
    refine j_aload0 (q := 186) dX7_count_185 rfl ?_
    refine j_getR 0 (q := 189) dX7_count_186 rfl fl_X7_10 (E.2.2 _ _ sh_0) rfl ?_
    refine j_pgetI (d := 0) rfl (by decide) 2 (j' := 2) (q := 192) dX7_count_189 rfl fl_X7_135 (E.2.2 _ _ sh_1) rfl rfl ?_
    exact j_ireturn dX7_count_192 rfl (by unfold cCnt; first | (rw [if_pos (by omega)]; done) | (rw [if_neg (by omega), if_pos (by omega)]; done) | (rw [if_neg (by omega), if_neg (by omega), if_pos (by omega)]; done) | (rw [if_neg (by omega), if_neg (by omega), if_neg (by omega), if_pos (by omega)]; done) | (rw [if_neg (by omega), if_neg (by omega), if_neg (by omega), if_neg (by omega), if_pos (by omega)]; done) | (rw [if_neg (by omega), if_neg (by omega), if_neg (by omega), if_neg (by omega), if_neg (by omega), if_pos (by omega)]; done) | (rw [if_neg (by omega), if_neg (by omega), if_neg (by omega), if_neg (by omega), if_neg (by omega), if_neg (by omega), if_pos (by omega)]; done) | (rw [if_neg (by omega), if_neg (by omega), if_neg (by omega), if_neg (by omega), if_neg (by omega), if_neg (by omega), if_neg (by omega), if_pos (by omega)]; done) | (rw [if_neg (by omega), if_neg (by omega), if_neg (by omega), if_neg (by omega), if_neg (by omega), if_neg (by omega), if_neg (by omega), if_neg (by omega), if_pos (by omega)]; done) | (rw [if_neg (by omega), if_neg (by omega), if_neg (by omega), if_neg (by omega), if_neg (by omega), if_neg (by omega), if_neg (by omega), if_neg (by omega), if_neg (by omega), if_pos (by omega)]; done) | (rw [if_neg (by omega), if_neg (by omega), if_neg (by omega), if_neg (by omega), if_neg (by omega), if_neg (by omega), if_neg (by omega), if_neg (by omega), if_neg (by omega), if_neg (by omega)]; done)) (rfl)
  by_cases h11_17 : w = 17
  · refine j_tableIn (x' := w) (tgt := 201) 17 dX7_count_11 (by first | exact wr_id' (by omega) (by omega) | with_reducible exact wr_bI _ | exact rfl) (by omega) (by decide) rfl (by decide) ?_
    refine j_aload0 (q := 202) dX7_count_201 rfl ?_
    refine j_getR 0 (q := 205) dX7_count_202 rfl fl_X7_10 (E.2.2 _ _ sh_0) rfl ?_
    refine j_getR 4 (q := 208) dX7_count_205 rfl fl_X7_275 (E.2.2 _ _ sh_1) rfl ?_
    refine j_iload1 (q := 209) dX7_count_208 rfl ?_
    refine j_pload (q := 210) (d := 2) rfl (by decide) dX7_count_209 rfl (E.2.2 _ _ sh_3) (by first | exact wr_id' (by omega) (by omega) | with_reducible exact wr_bI _ | exact rfl) (by omega) (by omega) ?_
    exact j_ireturn dX7_count_210 rfl (by unfold cCnt; first | (rw [if_pos (by omega)]; done) | (rw [if_neg (by omega), if_pos (by omega)]; done) | (rw [if_neg (by omega), if_neg (by omega), if_pos (by omega)]; done) | (rw [if_neg (by omega), if_neg (by omega), if_neg (by omega), if_pos (by omega)]; done) | (rw [if_neg (by omega), if_neg (by omega), if_neg (by omega), if_neg (by omega), if_pos (by omega)]; done) | (rw [if_neg (by omega), if_neg (by omega), if_neg (by omega), if_neg (by omega), if_neg (by omega), if_pos (by omega)]; done) | (rw [if_neg (by omega), if_neg (by omega), if_neg (by omega), if_neg (by omega), if_neg (by omega), if_neg (by omega), if_pos (by omega)]; done) | (rw [if_neg (by omega), if_neg (by omega), if_neg (by omega), if_neg (by omega), if_neg (by omega), if_neg (by omega), if_neg (by omega), if_pos (by omega)]; done) | (rw [if_neg (by omega), if_neg (by omega), if_neg (by omega), if_neg (by omega), if_neg (by omega), if_neg (by omega), if_neg (by omega), if_neg (by omega), if_pos (by omega)]; done) | (rw [if_neg (by omega), if_neg (by omega), if_neg (by omega), if_neg (by omega), if_neg (by omega), if_neg (by omega), if_neg (by omega), if_neg (by omega), if_neg (by omega), if_pos (by omega)]; done) | (rw [if_neg (by omega), if_neg (by omega), if_neg (by omega), if_neg (by omega), if_neg (by omega), if_neg (by omega), if_neg (by omega), if_neg (by omega), if_neg (by omega), if_neg (by omega)]; done)) (rfl)
  by_cases h11_18 : w = 18
  · refine j_tableIn (x' := w) (tgt := 193) 18 dX7_count_11 (by first | exact wr_id' (by omega) (by omega) | with_reducible exact wr_bI _ | exact rfl) (by omega) (by decide) rfl (by decide) ?_
    refine j_aload0 (q := 194) dX7_count_193 rfl ?_
    refine j_getR 2 (q := 197) dX7_count_194 rfl fl_X7_22 (E.2.2 _ _ sh_0) rfl ?_
    refine j_qgetI (by decide) 0 (j' := 0) (q := 200) dX7_count_197 rfl fl_X7_197 (E.2.2 _ _ sh_49) rfl rfl ?_
    exact j_ireturn dX7_count_200 rfl (by rw [h49]; unfold cCnt; first | (rw [if_pos (by omega)]; done) | (rw [if_neg (by omega), if_pos (by omega)]; done) | (rw [if_neg (by omega), if_neg (by omega), if_pos (by omega)]; done) | (rw [if_neg (by omega), if_neg (by omega), if_neg (by omega), if_pos (by omega)]; done) | (rw [if_neg (by omega), if_neg (by omega), if_neg (by omega), if_neg (by omega), if_pos (by omega)]; done) | (rw [if_neg (by omega), if_neg (by omega), if_neg (by omega), if_neg (by omega), if_neg (by omega), if_pos (by omega)]; done) | (rw [if_neg (by omega), if_neg (by omega), if_neg (by omega), if_neg (by omega), if_neg (by omega), if_neg (by omega), if_pos (by omega)]; done) | (rw [if_neg (by omega), if_neg (by omega), if_neg (by omega), if_neg (by omega), if_neg (by omega), if_neg (by omega), if_neg (by omega), if_pos (by omega)]; done) | (rw [if_neg (by omega), if_neg (by omega), if_neg (by omega), if_neg (by omega), if_neg (by omega), if_neg (by omega), if_neg (by omega), if_neg (by omega), if_pos (by omega)]; done) | (rw [if_neg (by omega), if_neg (by omega), if_neg (by omega), if_neg (by omega), if_neg (by omega), if_neg (by omega), if_neg (by omega), if_neg (by omega), if_neg (by omega), if_pos (by omega)]; done) | (rw [if_neg (by omega), if_neg (by omega), if_neg (by omega), if_neg (by omega), if_neg (by omega), if_neg (by omega), if_neg (by omega), if_neg (by omega), if_neg (by omega), if_neg (by omega)]; done)) (rfl)
  refine j_tableOut (x' := w) (tgt := 201) dX7_count_11 (by first | exact wr_id' (by omega) (by omega) | with_reducible exact wr_bI _ | exact rfl) (by omega) (by decide) ?_
  refine j_aload0 (q := 202) dX7_count_201 rfl ?_
  refine j_getR 0 (q := 205) dX7_count_202 rfl fl_X7_10 (E.2.2 _ _ sh_0) rfl ?_
  refine j_getR 4 (q := 208) dX7_count_205 rfl fl_X7_275 (E.2.2 _ _ sh_1) rfl ?_
  refine j_iload1 (q := 209) dX7_count_208 rfl ?_
  refine j_pload (q := 210) (d := 2) rfl (by decide) dX7_count_209 rfl (E.2.2 _ _ sh_3) (by first | exact wr_id' (by omega) (by omega) | with_reducible exact wr_bI _ | exact rfl) (by omega) (by omega) ?_
  exact j_ireturn dX7_count_210 rfl (by unfold cCnt; first | (rw [if_pos (by omega)]; done) | (rw [if_neg (by omega), if_pos (by omega)]; done) | (rw [if_neg (by omega), if_neg (by omega), if_pos (by omega)]; done) | (rw [if_neg (by omega), if_neg (by omega), if_neg (by omega), if_pos (by omega)]; done) | (rw [if_neg (by omega), if_neg (by omega), if_neg (by omega), if_neg (by omega), if_pos (by omega)]; done) | (rw [if_neg (by omega), if_neg (by omega), if_neg (by omega), if_neg (by omega), if_neg (by omega), if_pos (by omega)]; done) | (rw [if_neg (by omega), if_neg (by omega), if_neg (by omega), if_neg (by omega), if_neg (by omega), if_neg (by omega), if_pos (by omega)]; done) | (rw [if_neg (by omega), if_neg (by omega), if_neg (by omega), if_neg (by omega), if_neg (by omega), if_neg (by omega), if_neg (by omega), if_pos (by omega)]; done) | (rw [if_neg (by omega), if_neg (by omega), if_neg (by omega), if_neg (by omega), if_neg (by omega), if_neg (by omega), if_neg (by omega), if_neg (by omega), if_pos (by omega)]; done) | (rw [if_neg (by omega), if_neg (by omega), if_neg (by omega), if_neg (by omega), if_neg (by omega), if_neg (by omega), if_neg (by omega), if_neg (by omega), if_neg (by omega), if_pos (by omega)]; done) | (rw [if_neg (by omega), if_neg (by omega), if_neg (by omega), if_neg (by omega), if_neg (by omega), if_neg (by omega), if_neg (by omega), if_neg (by omega), if_neg (by omega), if_neg (by omega)]; done)) (rfl)
theorem ct_X7_setting {G : GX} {sh : List SH} (E : EV G sh) {m P : Mem} {s : Int} (r_s : -2147483648 ≤ s ∧ s < 2147483648) (p0 : 0 ≤ s ∧ s < 8) : CT G sh iX7_setting 0 0 [.inr (.ref 0), .inl s] (ps m 1 P) (some (.inl (P 1 s))) (ps m 1 P) := by
  have hq : PA 1 := PA1
  refine j_met (L0 := [some (.inr (.ref 0)), some (.inl s)]) (by decide) E.1 E.2.1 rfl (Nat.le_of_ble_eq_true rfl) ?_
  refine j_iload1 (q := 1) dX7_setting_0 rfl ?_
  refine j_callS1v (Mc := iX7_requireSetting) (q := 4) (c' := 0) (s' := 0) dX7_setting_1 rfl kS_X7_requireSetting jw_260 ⟨by decide, by decide⟩ rfl (Nat.le_refl _) (Nat.le_refl _) (ct_X7_requireSetting E (by omega) (by omega)) ?_
  refine j_aload0 (q := 5) dX7_setting_4 rfl ?_
  refine j_getR 0 (q := 8) dX7_setting_5 rfl fl_X7_10 (E.2.2 _ _ sh_0) rfl ?_
  refine j_getR 3 (q := 11) dX7_setting_8 rfl fl_X7_80 (E.2.2 _ _ sh_1) rfl ?_
  refine j_iload1 (q := 12) dX7_setting_11 rfl ?_
  refine j_pload (q := 13) (d := 1) rfl (by decide) dX7_setting_12 rfl (E.2.2 _ _ sh_2) (by first | exact wr_id' (by omega) (by omega) | with_reducible exact wr_bI _ | exact rfl) (by omega) (by omega) ?_
  exact j_ireturn dX7_setting_13 rfl (rfl) (rfl)
theorem ct_X7_premium {G : GX} {sh : List SH} (E : EV G sh) {m P : Mem} {c : Int} {i : Int} {k : Int} (r_c : -2147483648 ≤ c ∧ c < 2147483648) (r_i : -2147483648 ≤ i ∧ i < 2147483648) (r_k : -2147483648 ≤ k ∧ k < 2147483648) (bi : 0 ≤ P 17 0 ∧ P 17 0 ≤ 3) (p0 : 0 ≤ c ∧ c < 64) (p1 : 0 ≤ i ∧ i < P 17 0) (p2 : 1 ≤ k ∧ k ≤ 200) : CT G sh iX7_premium 0 0 [.inr (.ref 0), .inl c, .inl i, .inl k] (ps m 1 P) (some (.inl (cPrem P c i k (P 0 1)))) (ps m 1 P) := by
  have hq : PA 1 := PA1
  refine j_met (L0 := [some (.inr (.ref 0)), some (.inl c), some (.inl i), some (.inl k)]) (by decide) E.1 E.2.1 rfl (Nat.le_of_ble_eq_true rfl) ?_
  refine j_iload1 (q := 1) dX7_premium_0 rfl ?_
  refine j_callS1v (Mc := iX7_requireCore) (q := 4) (c' := 0) (s' := 0) dX7_premium_1 rfl kS_X7_requireCore jw_445 ⟨by decide, by decide⟩ rfl (Nat.le_refl _) (Nat.le_refl _) (ct_X7_requireCore E (by omega) (by omega)) ?_
  refine j_aload0 (q := 5) dX7_premium_4 rfl ?_
  refine j_iload2 (q := 6) dX7_premium_5 rfl ?_
  refine j_callV1v (Mc := iX7_requireInsurer) (q := 9) (c' := 0) (s' := 0) dX7_premium_6 rfl kV_X7_requireInsurer jw_557 ⟨by decide, by decide⟩ (E.2.2 _ _ sh_0) rfl rfl rfl (Nat.le_refl _) (Nat.le_refl _) (ct_X7_requireInsurer E hq (by omega) (by omega)) ?_
  refine j_iload3 (q := 10) dX7_premium_9 rfl ?_
  refine j_iconst (q := 11) dX7_premium_10 rfl ?_
  refine j_sipush (q := 14) dX7_premium_11 rfl rfl ?_
  refine j_callS3 (Mc := iX7_within) (q := 17) (c' := 0) (s' := 0) dX7_premium_14 rfl kS_X7_within jw_263 ⟨by decide, by decide⟩ rfl (Nat.le_refl _) (Nat.le_refl _) (ct_X7_within E (by omega) (by omega) (by omega)) ?_
  refine j_callS1v (Mc := iX7_requireArgument) (q := 20) (c' := 0) (s' := 0) dX7_premium_17 rfl kS_X7_requireArgument jw_336 ⟨by decide, by decide⟩ rfl (Nat.le_refl _) (Nat.le_refl _) (ct_X7_requireArgument E (by first | assumption | exact decide_eq_true (by omega) | (simp_all; done))) ?_
  refine j_aload0 (q := 21) dX7_premium_20 rfl ?_
  refine j_getR 0 (q := 24) dX7_premium_21 rfl fl_X7_10 (E.2.2 _ _ sh_0) rfl ?_
  refine j_iload1 (q := 25) dX7_premium_24 rfl ?_
  refine j_iload2 (q := 26) dX7_premium_25 rfl ?_
  refine j_iload3 (q := 27) dX7_premium_26 rfl ?_
  refine j_aload0 (q := 28) dX7_premium_27 rfl ?_
  refine j_getR 0 (q := 31) dX7_premium_28 rfl fl_X7_10 (E.2.2 _ _ sh_0) rfl ?_
  refine j_pgetI (d := 0) rfl (by decide) 1 (j' := 1) (q := 34) dX7_premium_31 rfl fl_X7_124 (E.2.2 _ _ sh_1) rfl rfl ?_
  refine j_callV4 (Mc := iX3_premiumFor) (q := 37) (c' := 0) (s' := 0) dX7_premium_34 rfl kV_X3_premiumFor jw_695 ⟨by decide, by decide⟩ (E.2.2 _ _ sh_1) rfl rfl rfl (Nat.le_refl _) (Nat.le_refl _) (ct_X3_premiumFor E hq (by omega) (by omega)) ?_
  exact j_ireturn dX7_premium_37 rfl (rfl) (rfl)
theorem lp_X7_cheapest {G : GX} {sh : List SH} (E : EV G sh) {m P : Mem} (hq : PA 1) {c v k : Int} (hc : 0 ≤ c ∧ c < 64) (hv : 1 ≤ v ∧ v ≤ 500) (hI : 0 ≤ P 17 0 ∧ P 17 0 ≤ 3) : ∀ (d : Nat) (i : Int) (b : Int) (l : Int), i + d = P 17 0 → 0 ≤ i → -1 ≤ b → b < 3 → J G sh iX7_cheapest 0 0 (FN G sh 0 0 (some (.inl (cChF P c v k d i b l))) (ps m 1 P)) 35 [some (.inr (.ref 0)), some (.inl c), some (.inl v), some (.inl k), some (.inl b), some (.inl l), some (.inl i), none] [] (ps m 1 P) 0 0 := by
  intro d
  induction d with
  | zero =>
    intro i b l g0 g1 g2 g3
    refine j_iload6 (q := 37) dX7_cheapest_35 rfl ?_
    refine j_aload0 (q := 38) dX7_cheapest_37 rfl ?_
    refine j_getR 0 (q := 41) dX7_cheapest_38 rfl fl_X7_10 (E.2.2 _ _ sh_0) rfl ?_
    refine j_getR 8 (q := 44) dX7_cheapest_41 rfl fl_X7_62 (E.2.2 _ _ sh_1) rfl ?_
    refine j_pgetI (d := 17) rfl (by decide) 0 (j' := 0) (q := 47) dX7_cheapest_44 rfl fl_X7_66 (E.2.2 _ _ sh_18) rfl rfl ?_
    refine j_icmp_ge (tgt := 114) (q := 50) dX7_cheapest_47 (by decide) rfl (by first | exact wr_id' (by omega) (by omega) | with_reducible exact wr_bI _ | exact rfl) (by first | exact wr_id' (by omega) (by omega) | with_reducible exact wr_bI _ | exact rfl) (fun h47 => ?_) (fun h47 => ?_)
    · refine j_iload4 (q := 116) dX7_cheapest_114 rfl ?_
      exact j_ireturn dX7_cheapest_116 rfl (rfl) (rfl)
    · omega
  | succ d ih =>
    intro i b l g0 g1 g2 g3
    refine j_iload6 (q := 37) dX7_cheapest_35 rfl ?_
    refine j_aload0 (q := 38) dX7_cheapest_37 rfl ?_
    refine j_getR 0 (q := 41) dX7_cheapest_38 rfl fl_X7_10 (E.2.2 _ _ sh_0) rfl ?_
    refine j_getR 8 (q := 44) dX7_cheapest_41 rfl fl_X7_62 (E.2.2 _ _ sh_1) rfl ?_
    refine j_pgetI (d := 17) rfl (by decide) 0 (j' := 0) (q := 47) dX7_cheapest_44 rfl fl_X7_66 (E.2.2 _ _ sh_18) rfl rfl ?_
    refine j_icmp_ge (tgt := 114) (q := 50) dX7_cheapest_47 (by decide) rfl (by first | exact wr_id' (by omega) (by omega) | with_reducible exact wr_bI _ | exact rfl) (by first | exact wr_id' (by omega) (by omega) | with_reducible exact wr_bI _ | exact rfl) (fun h47 => ?_) (fun h47 => ?_)
    · omega
    · refine j_aload0 (q := 51) dX7_cheapest_50 rfl ?_
      refine j_getR 0 (q := 54) dX7_cheapest_51 rfl fl_X7_10 (E.2.2 _ _ sh_0) rfl ?_
      refine j_iload1 (q := 55) dX7_cheapest_54 rfl ?_
      refine j_iload6 (q := 57) dX7_cheapest_55 rfl ?_
      refine j_iload3 (q := 58) dX7_cheapest_57 rfl ?_
      refine j_aload0 (q := 59) dX7_cheapest_58 rfl ?_
      refine j_getR 0 (q := 62) dX7_cheapest_59 rfl fl_X7_10 (E.2.2 _ _ sh_0) rfl ?_
      refine j_pgetI (d := 0) rfl (by decide) 1 (j' := 1) (q := 65) dX7_cheapest_62 rfl fl_X7_124 (E.2.2 _ _ sh_1) rfl rfl ?_
      refine j_callV4 (Mc := iX3_premiumFor) (q := 68) (c' := 0) (s' := 0) dX7_cheapest_65 rfl kV_X3_premiumFor jw_695 ⟨by decide, by decide⟩ (E.2.2 _ _ sh_1) rfl rfl rfl (Nat.le_refl _) (Nat.le_refl _) (ct_X3_premiumFor E hq (by omega) (by omega)) ?_
      refine j_istore7 (q := 70) dX7_cheapest_68 rfl rfl (by decide) ?_
      refine j_aload0 (q := 71) dX7_cheapest_70 rfl ?_
      refine j_getR 0 (q := 74) dX7_cheapest_71 rfl fl_X7_10 (E.2.2 _ _ sh_0) rfl ?_
      refine j_getR 8 (q := 77) dX7_cheapest_74 rfl fl_X7_62 (E.2.2 _ _ sh_1) rfl ?_
      refine j_getR 3 (q := 80) dX7_cheapest_77 rfl fl_X7_235 (E.2.2 _ _ sh_18) rfl ?_
      refine j_iload6 (q := 82) dX7_cheapest_80 rfl ?_
      refine j_pload (q := 83) (d := 20) rfl (by decide) dX7_cheapest_82 rfl (E.2.2 _ _ sh_21) (by first | exact wr_id' (by omega) (by omega) | with_reducible exact wr_bI _ | exact rfl) (by omega) (by omega) ?_
      refine j_iload2 (q := 84) dX7_cheapest_83 rfl ?_
      refine j_icmp_lt (tgt := 108) (q := 87) dX7_cheapest_84 (by decide) rfl rfl (by first | exact wr_id' (by omega) (by omega) | with_reducible exact wr_bI _ | exact rfl) (fun h84 => ?_) (fun h84 => ?_)
      · refine j_iinc6 (q := 111) dX7_cheapest_108 rfl rfl (by decide) ?_
        refine j_goto (tgt := 35) dX7_cheapest_111 (by decide) ?_
        refine j_fgt7 ?_
        exact j_fin (by first | (rw [cChF, if_pos (by omega)]; done) | (rw [cChF, if_neg (by omega)]; done)) (rfl) (ih _ _ _ (by omega) (by omega) (by omega) (by omega))
      · refine j_iload4 (q := 89) dX7_cheapest_87 rfl ?_
        refine j_iconst (q := 90) dX7_cheapest_89 rfl ?_
        refine j_icmp_eq (tgt := 100) (q := 93) dX7_cheapest_90 (by decide) rfl (by first | exact wr_id' (by omega) (by omega) | with_reducible exact wr_bI _ | exact rfl) (by first | exact wr_id' (by omega) (by omega) | with_reducible exact wr_bI _ | exact rfl) (fun h90 => ?_) (fun h90 => ?_)
        · refine j_iload6 (q := 102) dX7_cheapest_100 rfl ?_
          refine j_istore4 (q := 104) dX7_cheapest_102 rfl rfl (by decide) ?_
          refine j_iload7 (q := 106) dX7_cheapest_104 rfl ?_
          refine j_istore5 (q := 108) dX7_cheapest_106 rfl rfl (by decide) ?_
          refine j_iinc6 (q := 111) dX7_cheapest_108 rfl rfl (by decide) ?_
          refine j_goto (tgt := 35) dX7_cheapest_111 (by decide) ?_
          refine j_fgt7 ?_
          exact j_fin (by first | (rw [cChF, if_pos (by omega)]; done) | (rw [cChF, if_neg (by omega)]; done)) (rfl) (ih _ _ _ (by omega) (by omega) (by omega) (by omega))
        · refine j_iload7 (q := 95) dX7_cheapest_93 rfl ?_
          refine j_iload5 (q := 97) dX7_cheapest_95 rfl ?_
          refine j_icmp_ge (tgt := 108) (q := 100) dX7_cheapest_97 (by decide) rfl rfl rfl (fun h97 => ?_) (fun h97 => ?_)
          · refine j_iinc6 (q := 111) dX7_cheapest_108 rfl rfl (by decide) ?_
            refine j_goto (tgt := 35) dX7_cheapest_111 (by decide) ?_
            refine j_fgt7 ?_
            exact j_fin (by first | (rw [cChF, if_pos (by omega)]; done) | (rw [cChF, if_neg (by omega)]; done)) (rfl) (ih _ _ _ (by omega) (by omega) (by omega) (by omega))
          · refine j_iload6 (q := 102) dX7_cheapest_100 rfl ?_
            refine j_istore4 (q := 104) dX7_cheapest_102 rfl rfl (by decide) ?_
            refine j_iload7 (q := 106) dX7_cheapest_104 rfl ?_
            refine j_istore5 (q := 108) dX7_cheapest_106 rfl rfl (by decide) ?_
            refine j_iinc6 (q := 111) dX7_cheapest_108 rfl rfl (by decide) ?_
            refine j_goto (tgt := 35) dX7_cheapest_111 (by decide) ?_
            refine j_fgt7 ?_
            exact j_fin (by first | (rw [cChF, if_pos (by omega)]; done) | (rw [cChF, if_neg (by omega)]; done)) (rfl) (ih _ _ _ (by omega) (by omega) (by omega) (by omega))
theorem ct_X7_cheapest {G : GX} {sh : List SH} (E : EV G sh) {m P : Mem} {c : Int} {v : Int} {k : Int} (r_c : -2147483648 ≤ c ∧ c < 2147483648) (r_v : -2147483648 ≤ v ∧ v < 2147483648) (r_k : -2147483648 ≤ k ∧ k < 2147483648) (p0 : 0 ≤ c ∧ c < 64) (p1 : 1 ≤ v ∧ v ≤ 500) (p2 : 1 ≤ k ∧ k ≤ 200) (bi : 0 ≤ P 17 0 ∧ P 17 0 ≤ 3) : CT G sh iX7_cheapest 0 0 [.inr (.ref 0), .inl c, .inl v, .inl k] (ps m 1 P) (some (.inl (cCh P c v k))) (ps m 1 P) := by
  have hq : PA 1 := PA1
  refine j_met (L0 := [some (.inr (.ref 0)), some (.inl c), some (.inl v), some (.inl k), none, none, none, none]) (by decide) E.1 E.2.1 rfl (Nat.le_of_ble_eq_true rfl) ?_
  refine j_iload1 (q := 1) dX7_cheapest_0 rfl ?_
  refine j_callS1v (Mc := iX7_requireCore) (q := 4) (c' := 0) (s' := 0) dX7_cheapest_1 rfl kS_X7_requireCore jw_445 ⟨by decide, by decide⟩ rfl (Nat.le_refl _) (Nat.le_refl _) (ct_X7_requireCore E (by omega) (by omega)) ?_
  refine j_iload2 (q := 5) dX7_cheapest_4 rfl ?_
  refine j_iconst (q := 6) dX7_cheapest_5 rfl ?_
  refine j_sipush (q := 9) dX7_cheapest_6 rfl rfl ?_
  refine j_callS3 (Mc := iX7_within) (q := 12) (c' := 0) (s' := 0) dX7_cheapest_9 rfl kS_X7_within jw_263 ⟨by decide, by decide⟩ rfl (Nat.le_refl _) (Nat.le_refl _) (ct_X7_within E (by omega) (by omega) (by omega)) ?_
  refine j_callS1v (Mc := iX7_requireArgument) (q := 15) (c' := 0) (s' := 0) dX7_cheapest_12 rfl kS_X7_requireArgument jw_336 ⟨by decide, by decide⟩ rfl (Nat.le_refl _) (Nat.le_refl _) (ct_X7_requireArgument E (by first | assumption | exact decide_eq_true (by omega) | (simp_all; done))) ?_
  refine j_iload3 (q := 16) dX7_cheapest_15 rfl ?_
  refine j_iconst (q := 17) dX7_cheapest_16 rfl ?_
  refine j_sipush (q := 20) dX7_cheapest_17 rfl rfl ?_
  refine j_callS3 (Mc := iX7_within) (q := 23) (c' := 0) (s' := 0) dX7_cheapest_20 rfl kS_X7_within jw_263 ⟨by decide, by decide⟩ rfl (Nat.le_refl _) (Nat.le_refl _) (ct_X7_within E (by omega) (by omega) (by omega)) ?_
  refine j_callS1v (Mc := iX7_requireArgument) (q := 26) (c' := 0) (s' := 0) dX7_cheapest_23 rfl kS_X7_requireArgument jw_336 ⟨by decide, by decide⟩ rfl (Nat.le_refl _) (Nat.le_refl _) (ct_X7_requireArgument E (by first | assumption | exact decide_eq_true (by omega) | (simp_all; done))) ?_
  refine j_iconst (q := 27) dX7_cheapest_26 rfl ?_
  refine j_istore4 (q := 29) dX7_cheapest_27 rfl rfl (by decide) ?_
  refine j_iconst (q := 30) dX7_cheapest_29 rfl ?_
  refine j_istore5 (q := 32) dX7_cheapest_30 rfl rfl (by decide) ?_
  refine j_iconst (q := 33) dX7_cheapest_32 rfl ?_
  refine j_istore6 (q := 35) dX7_cheapest_33 rfl rfl (by decide) ?_
  exact lp_X7_cheapest E hq p0 p1 bi (P 17 0).toNat 0 (-1) 0 (by omega) (by omega) (by omega) (by omega)
theorem lp_X7_waitFor {G : GX} {sh : List SH} (E : EV G sh) {m P : Mem} (hq : PA 1) {c i k x : Int} (hc : 0 ≤ c ∧ c < 64) (hi : 0 ≤ i ∧ i < 3) (hx : 1 ≤ x ∧ x ≤ 10000) : ∀ (d : Nat) (n : Int), n + d = 201 → 0 ≤ n → J G sh iX7_waitFor 0 0 (FN G sh 0 0 (some (.inl (cWtF P c i k x d n))) (ps m 1 P)) 35 [some (.inr (.ref 0)), some (.inl c), some (.inl i), some (.inl k), some (.inl x), some (.inl n), none] [] (ps m 1 P) 0 0 := by
  intro d
  induction d with
  | zero =>
    intro n g0 g1
    refine j_iload5 (q := 37) dX7_waitFor_35 rfl ?_
    refine j_sipush (q := 40) dX7_waitFor_37 rfl rfl ?_
    refine j_icmp_gt (tgt := 96) (q := 43) dX7_waitFor_40 (by decide) rfl (by first | exact wr_id' (by omega) (by omega) | with_reducible exact wr_bI _ | exact rfl) (by first | exact wr_id' (by omega) (by omega) | with_reducible exact wr_bI _ | exact rfl) (fun h40 => ?_) (fun h40 => ?_)
    · refine j_iconst (q := 97) dX7_waitFor_96 rfl ?_
      exact j_ireturn dX7_waitFor_97 rfl (rfl) (rfl)
    · omega
  | succ d ih =>
    intro n g0 g1
    refine j_iload5 (q := 37) dX7_waitFor_35 rfl ?_
    refine j_sipush (q := 40) dX7_waitFor_37 rfl rfl ?_
    refine j_icmp_gt (tgt := 96) (q := 43) dX7_waitFor_40 (by decide) rfl (by first | exact wr_id' (by omega) (by omega) | with_reducible exact wr_bI _ | exact rfl) (by first | exact wr_id' (by omega) (by omega) | with_reducible exact wr_bI _ | exact rfl) (fun h40 => ?_) (fun h40 => ?_)
    · omega
    · refine j_iconst (q := 44) dX7_waitFor_43 rfl ?_
      refine j_aload0 (q := 45) dX7_waitFor_44 rfl ?_
      refine j_getR 0 (q := 48) dX7_waitFor_45 rfl fl_X7_10 (E.2.2 _ _ sh_0) rfl ?_
      refine j_pgetI (d := 0) rfl (by decide) 1 (j' := 1) (q := 51) dX7_waitFor_48 rfl fl_X7_124 (E.2.2 _ _ sh_1) rfl rfl ?_
      refine j_iload5 (q := 53) dX7_waitFor_51 rfl ?_
      refine j_aload0 (q := 54) dX7_waitFor_53 rfl ?_
      refine j_getR 0 (q := 57) dX7_waitFor_54 rfl fl_X7_10 (E.2.2 _ _ sh_0) rfl ?_
      refine j_getR 3 (q := 60) dX7_waitFor_57 rfl fl_X7_80 (E.2.2 _ _ sh_1) rfl ?_
      refine j_bipush (q := 62) dX7_waitFor_60 rfl rfl ?_
      refine j_pload (q := 63) (d := 1) rfl (by decide) dX7_waitFor_62 rfl (E.2.2 _ _ sh_2) (by first | exact wr_id' (by omega) (by omega) | with_reducible exact wr_bI _ | exact rfl) (by omega) (by omega) ?_
      refine j_imul (q := 64) dX7_waitFor_63 rfl ?_
      refine j_isub (q := 65) dX7_waitFor_64 rfl ?_
      refine j_max (q := 68) dX7_waitFor_65 rfl jw_552 ⟨by decide, Nat.le_of_ble_eq_true rfl⟩ (Nat.le_refl _) (Nat.le_refl _) ?_
      refine j_cg (S' := [.inl (cMx 0 (P 0 1 - n * P 1 6))]) rfl rfl rfl ?_
      refine j_istore6 (q := 70) dX7_waitFor_68 rfl rfl (by decide) ?_
      refine j_aload0 (q := 71) dX7_waitFor_70 rfl ?_
      refine j_getR 0 (q := 74) dX7_waitFor_71 rfl fl_X7_10 (E.2.2 _ _ sh_0) rfl ?_
      refine j_iload1 (q := 75) dX7_waitFor_74 rfl ?_
      refine j_iload2 (q := 76) dX7_waitFor_75 rfl ?_
      refine j_iload3 (q := 77) dX7_waitFor_76 rfl ?_
      refine j_iload6 (q := 79) dX7_waitFor_77 rfl ?_
      refine j_callV4 (Mc := iX3_premiumFor) (q := 82) (c' := 0) (s' := 0) dX7_waitFor_79 rfl kV_X3_premiumFor jw_695 ⟨by decide, by decide⟩ (E.2.2 _ _ sh_1) rfl rfl rfl (Nat.le_refl _) (Nat.le_refl _) (ct_X3_premiumFor E hq (by omega) (by omega)) ?_
      refine j_iload4 (q := 84) dX7_waitFor_82 rfl ?_
      refine j_icmp_gt (tgt := 90) (q := 87) dX7_waitFor_84 (by decide) rfl rfl (by first | exact wr_id' (by omega) (by omega) | with_reducible exact wr_bI _ | exact rfl) (fun h84 => ?_) (fun h84 => ?_)
      · refine j_iinc5 (q := 93) dX7_waitFor_90 rfl rfl (by decide) ?_
        refine j_goto (tgt := 35) dX7_waitFor_93 (by decide) ?_
        refine j_fgt6 ?_
        exact j_fin (by rw [cWtF, if_neg (by omega)]) (rfl) (ih _ (by omega) (by omega))
      · refine j_iload5 (q := 89) dX7_waitFor_87 rfl ?_
        exact j_ireturn dX7_waitFor_89 rfl (by rw [cWtF, if_pos (by omega)]) (rfl)
theorem ct_X7_waitFor {G : GX} {sh : List SH} (E : EV G sh) {m P : Mem} {c : Int} {i : Int} {k : Int} {x : Int} (r_c : -2147483648 ≤ c ∧ c < 2147483648) (r_i : -2147483648 ≤ i ∧ i < 2147483648) (r_k : -2147483648 ≤ k ∧ k < 2147483648) (r_x : -2147483648 ≤ x ∧ x < 2147483648) (bi : 0 ≤ P 17 0 ∧ P 17 0 ≤ 3) (p0 : 0 ≤ c ∧ c < 64) (p1 : 0 ≤ i ∧ i < P 17 0) (p2 : 1 ≤ k ∧ k ≤ 200) (p3 : 1 ≤ x ∧ x ≤ 10000) : CT G sh iX7_waitFor 0 0 [.inr (.ref 0), .inl c, .inl i, .inl k, .inl x] (ps m 1 P) (some (.inl (cWtF P c i k x 201 0))) (ps m 1 P) := by
  have hq : PA 1 := PA1
  refine j_met (L0 := [some (.inr (.ref 0)), some (.inl c), some (.inl i), some (.inl k), some (.inl x), none, none]) (by decide) E.1 E.2.1 rfl (Nat.le_of_ble_eq_true rfl) ?_
  refine j_iload1 (q := 1) dX7_waitFor_0 rfl ?_
  refine j_callS1v (Mc := iX7_requireCore) (q := 4) (c' := 0) (s' := 0) dX7_waitFor_1 rfl kS_X7_requireCore jw_445 ⟨by decide, by decide⟩ rfl (Nat.le_refl _) (Nat.le_refl _) (ct_X7_requireCore E (by omega) (by omega)) ?_
  refine j_aload0 (q := 5) dX7_waitFor_4 rfl ?_
  refine j_iload2 (q := 6) dX7_waitFor_5 rfl ?_
  refine j_callV1v (Mc := iX7_requireInsurer) (q := 9) (c' := 0) (s' := 0) dX7_waitFor_6 rfl kV_X7_requireInsurer jw_557 ⟨by decide, by decide⟩ (E.2.2 _ _ sh_0) rfl rfl rfl (Nat.le_refl _) (Nat.le_refl _) (ct_X7_requireInsurer E hq (by omega) (by omega)) ?_
  refine j_iload3 (q := 10) dX7_waitFor_9 rfl ?_
  refine j_iconst (q := 11) dX7_waitFor_10 rfl ?_
  refine j_sipush (q := 14) dX7_waitFor_11 rfl rfl ?_
  refine j_callS3 (Mc := iX7_within) (q := 17) (c' := 0) (s' := 0) dX7_waitFor_14 rfl kS_X7_within jw_263 ⟨by decide, by decide⟩ rfl (Nat.le_refl _) (Nat.le_refl _) (ct_X7_within E (by omega) (by omega) (by omega)) ?_
  refine j_callS1v (Mc := iX7_requireArgument) (q := 20) (c' := 0) (s' := 0) dX7_waitFor_17 rfl kS_X7_requireArgument jw_336 ⟨by decide, by decide⟩ rfl (Nat.le_refl _) (Nat.le_refl _) (ct_X7_requireArgument E (by first | assumption | exact decide_eq_true (by omega) | (simp_all; done))) ?_
  refine j_iload4 (q := 22) dX7_waitFor_20 rfl ?_
  refine j_iconst (q := 23) dX7_waitFor_22 rfl ?_
  refine j_sipush (q := 26) dX7_waitFor_23 rfl rfl ?_
  refine j_callS3 (Mc := iX7_within) (q := 29) (c' := 0) (s' := 0) dX7_waitFor_26 rfl kS_X7_within jw_263 ⟨by decide, by decide⟩ rfl (Nat.le_refl _) (Nat.le_refl _) (ct_X7_within E (by omega) (by omega) (by omega)) ?_
  refine j_callS1v (Mc := iX7_requireArgument) (q := 32) (c' := 0) (s' := 0) dX7_waitFor_29 rfl kS_X7_requireArgument jw_336 ⟨by decide, by decide⟩ rfl (Nat.le_refl _) (Nat.le_refl _) (ct_X7_requireArgument E (by first | assumption | exact decide_eq_true (by omega) | (simp_all; done))) ?_
  refine j_iconst (q := 33) dX7_waitFor_32 rfl ?_
  refine j_istore5 (q := 35) dX7_waitFor_33 rfl rfl (by decide) ?_
  exact lp_X7_waitFor E hq p0 (i := i) ⟨by omega, by omega⟩ p3 201 0 (by omega) (by omega)
theorem ct_X7_ifRead {G : GX} {sh : List SH} (E : EV G sh) {m P : Mem} {c : Int} {w : Int} (r_c : -2147483648 ≤ c ∧ c < 2147483648) (r_w : -2147483648 ≤ w ∧ w < 2147483648) (p0 : 0 ≤ c ∧ c < 64) (p1 : 0 ≤ w ∧ w ≤ 4) : CT G sh iX7_ifRead 0 0 [.inr (.ref 0), .inl c, .inl w] (ps m 1 P) (some (.inl (cRN P c w))) (ps m 1 P) := by
  have hq : PA 1 := PA1
  refine j_met (L0 := [some (.inr (.ref 0)), some (.inl c), some (.inl w)]) (by decide) E.1 E.2.1 rfl (Nat.le_of_ble_eq_true rfl) ?_
  refine j_iload1 (q := 1) dX7_ifRead_0 rfl ?_
  refine j_callS1v (Mc := iX7_requireCore) (q := 4) (c' := 0) (s' := 0) dX7_ifRead_1 rfl kS_X7_requireCore jw_445 ⟨by decide, by decide⟩ rfl (Nat.le_refl _) (Nat.le_refl _) (ct_X7_requireCore E (by omega) (by omega)) ?_
  refine j_iload2 (q := 5) dX7_ifRead_4 rfl ?_
  refine j_iconst (q := 6) dX7_ifRead_5 rfl ?_
  refine j_iconst (q := 7) dX7_ifRead_6 rfl ?_
  refine j_callS3 (Mc := iX7_within) (q := 10) (c' := 0) (s' := 0) dX7_ifRead_7 rfl kS_X7_within jw_263 ⟨by decide, by decide⟩ rfl (Nat.le_refl _) (Nat.le_refl _) (ct_X7_within E (by omega) (by omega) (by omega)) ?_
  refine j_callS1v (Mc := iX7_requireArgument) (q := 13) (c' := 0) (s' := 0) dX7_ifRead_10 rfl kS_X7_requireArgument jw_336 ⟨by decide, by decide⟩ rfl (Nat.le_refl _) (Nat.le_refl _) (ct_X7_requireArgument E (by first | assumption | exact decide_eq_true (by omega) | (simp_all; done))) ?_
  refine j_iload2 (q := 14) dX7_ifRead_13 rfl ?_
  by_cases h14_0 : w = 0
  · refine j_tableIn (x' := w) (tgt := 44) 0 dX7_ifRead_14 (by first | exact wr_id' (by omega) (by omega) | with_reducible exact wr_bI _ | exact rfl) (by omega) (by decide) rfl (by decide) ?_
    refine j_aload0 (q := 45) dX7_ifRead_44 rfl ?_
    refine j_getR 0 (q := 48) dX7_ifRead_45 rfl fl_X7_10 (E.2.2 _ _ sh_0) rfl ?_
    refine j_getR 5 (q := 51) dX7_ifRead_48 rfl fl_X7_89 (E.2.2 _ _ sh_1) rfl ?_
    refine j_iload1 (q := 52) dX7_ifRead_51 rfl ?_
    refine j_callV1 (Mc := iX0_bitOf) (q := 55) (c' := 0) (s' := 0) dX7_ifRead_52 rfl kV_X0_bitOf jw_452 ⟨by decide, by decide⟩ (E.2.2 _ _ sh_4) rfl rfl rfl (Nat.le_refl _) (Nat.le_refl _) (ct_X0_bitOf E hq) ?_
    exact j_ireturn dX7_ifRead_55 rfl (by unfold cRN; first | (rw [if_pos (by omega)]; done) | (rw [if_neg (by omega), if_pos (by omega)]; done) | (rw [if_neg (by omega), if_neg (by omega), if_pos (by omega)]; done) | (rw [if_neg (by omega), if_neg (by omega), if_neg (by omega), if_pos (by omega)]; done) | (rw [if_neg (by omega), if_neg (by omega), if_neg (by omega), if_neg (by omega)]; done)) (rfl)
  by_cases h14_1 : w = 1
  · refine j_tableIn (x' := w) (tgt := 56) 1 dX7_ifRead_14 (by first | exact wr_id' (by omega) (by omega) | with_reducible exact wr_bI _ | exact rfl) (by omega) (by decide) rfl (by decide) ?_
    refine j_aload0 (q := 57) dX7_ifRead_56 rfl ?_
    refine j_getR 0 (q := 60) dX7_ifRead_57 rfl fl_X7_10 (E.2.2 _ _ sh_0) rfl ?_
    refine j_callV0 (Mc := iX3_fragile) (q := 63) (c' := 0) (s' := 0) dX7_ifRead_60 rfl kV_X3_fragile jw_481 ⟨by decide, by decide⟩ (E.2.2 _ _ sh_1) rfl rfl rfl (Nat.le_refl _) (Nat.le_refl _) (ct_X3_fragile E hq) ?_
    refine j_iload1 (q := 64) dX7_ifRead_63 rfl ?_
    refine j_callS1 (Mc := iX7_linesOf) (q := 67) (c' := 0) (s' := 0) dX7_ifRead_64 rfl kS_X7_linesOf jw_489 ⟨by decide, by decide⟩ rfl (Nat.le_refl _) (Nat.le_refl _) (ct_X7_linesOf E (by omega)) ?_
    refine j_land (q := 68) dX7_ifRead_67 rfl ?_
    refine j_callS1 (Mc := iJ13_bitCount_95d88) (q := 71) (c' := 0) (s' := 0) dX7_ifRead_68 rfl kS_J13_bitCount_95d88 jw_424 ⟨by decide, by decide⟩ rfl (Nat.le_refl _) (Nat.le_refl _) (ct_J13_bitCount_95d88 E) ?_
    exact j_ireturn dX7_ifRead_71 rfl (by unfold cRN; first | (rw [if_pos (by omega)]; done) | (rw [if_neg (by omega), if_pos (by omega)]; done) | (rw [if_neg (by omega), if_neg (by omega), if_pos (by omega)]; done) | (rw [if_neg (by omega), if_neg (by omega), if_neg (by omega), if_pos (by omega)]; done) | (rw [if_neg (by omega), if_neg (by omega), if_neg (by omega), if_neg (by omega)]; done)) (rfl)
  by_cases h14_2 : w = 2
  · refine j_tableIn (x' := w) (tgt := 72) 2 dX7_ifRead_14 (by first | exact wr_id' (by omega) (by omega) | with_reducible exact wr_bI _ | exact rfl) (by omega) (by decide) rfl (by decide) ?_
    refine j_aload0 (q := 73) dX7_ifRead_72 rfl ?_
    refine j_getR 0 (q := 76) dX7_ifRead_73 rfl fl_X7_10 (E.2.2 _ _ sh_0) rfl ?_
    refine j_aload0 (q := 77) dX7_ifRead_76 rfl ?_
    refine j_getR 0 (q := 80) dX7_ifRead_77 rfl fl_X7_10 (E.2.2 _ _ sh_0) rfl ?_
    refine j_getR 3 (q := 83) dX7_ifRead_80 rfl fl_X7_80 (E.2.2 _ _ sh_1) rfl ?_
    refine j_iconst (q := 84) dX7_ifRead_83 rfl ?_
    refine j_pload (q := 85) (d := 1) rfl (by decide) dX7_ifRead_84 rfl (E.2.2 _ _ sh_2) (by first | exact wr_id' (by omega) (by omega) | with_reducible exact wr_bI _ | exact rfl) (by omega) (by omega) ?_
    refine j_callV1 (Mc := iX3_heatBehind) (q := 88) (c' := 0) (s' := 0) dX7_ifRead_85 rfl kV_X3_heatBehind jw_496 ⟨by decide, by decide⟩ (E.2.2 _ _ sh_1) rfl rfl rfl (Nat.le_refl _) (Nat.le_refl _) (ct_X3_heatBehind E hq) ?_
    exact j_ireturn dX7_ifRead_88 rfl (by unfold cRN; first | (rw [if_pos (by omega)]; done) | (rw [if_neg (by omega), if_pos (by omega)]; done) | (rw [if_neg (by omega), if_neg (by omega), if_pos (by omega)]; done) | (rw [if_neg (by omega), if_neg (by omega), if_neg (by omega), if_pos (by omega)]; done) | (rw [if_neg (by omega), if_neg (by omega), if_neg (by omega), if_neg (by omega)]; done)) (rfl)
  by_cases h14_3 : w = 3
  · refine j_tableIn (x' := w) (tgt := 89) 3 dX7_ifRead_14 (by first | exact wr_id' (by omega) (by omega) | with_reducible exact wr_bI _ | exact rfl) (by omega) (by decide) rfl (by decide) ?_
    refine j_aload0 (q := 90) dX7_ifRead_89 rfl ?_
    refine j_getR 0 (q := 93) dX7_ifRead_90 rfl fl_X7_10 (E.2.2 _ _ sh_0) rfl ?_
    refine j_iload1 (q := 94) dX7_ifRead_93 rfl ?_
    refine j_callV1 (Mc := iX3_strengthBehindPulse) (q := 97) (c' := 0) (s' := 0) dX7_ifRead_94 rfl kV_X3_strengthBehindPulse jw_501 ⟨by decide, by decide⟩ (E.2.2 _ _ sh_1) rfl rfl rfl (Nat.le_refl _) (Nat.le_refl _) (ct_X3_strengthBehindPulse E hq (by omega)) ?_
    exact j_ireturn dX7_ifRead_97 rfl (by unfold cRN; first | (rw [if_pos (by omega)]; done) | (rw [if_neg (by omega), if_pos (by omega)]; done) | (rw [if_neg (by omega), if_neg (by omega), if_pos (by omega)]; done) | (rw [if_neg (by omega), if_neg (by omega), if_neg (by omega), if_pos (by omega)]; done) | (rw [if_neg (by omega), if_neg (by omega), if_neg (by omega), if_neg (by omega)]; done)) (rfl)
  refine j_tableOut (x' := w) (tgt := 98) dX7_ifRead_14 (by first | exact wr_id' (by omega) (by omega) | with_reducible exact wr_bI _ | exact rfl) (by omega) (by decide) ?_
  refine j_aload0 (q := 99) dX7_ifRead_98 rfl ?_
  refine j_getR 0 (q := 102) dX7_ifRead_99 rfl fl_X7_10 (E.2.2 _ _ sh_0) rfl ?_
  refine j_callV0 (Mc := iX3_fragile) (q := 105) (c' := 0) (s' := 0) dX7_ifRead_102 rfl kV_X3_fragile jw_481 ⟨by decide, by decide⟩ (E.2.2 _ _ sh_1) rfl rfl rfl (Nat.le_refl _) (Nat.le_refl _) (ct_X3_fragile E hq) ?_
  refine j_iload1 (q := 106) dX7_ifRead_105 rfl ?_
  refine j_callS1 (Mc := iX7_linesOf) (q := 109) (c' := 0) (s' := 0) dX7_ifRead_106 rfl kS_X7_linesOf jw_489 ⟨by decide, by decide⟩ rfl (Nat.le_refl _) (Nat.le_refl _) (ct_X7_linesOf E (by omega)) ?_
  refine j_land (q := 110) dX7_ifRead_109 rfl ?_
  refine j_aload0 (q := 111) dX7_ifRead_110 rfl ?_
  refine j_getR 0 (q := 114) dX7_ifRead_111 rfl fl_X7_10 (E.2.2 _ _ sh_0) rfl ?_
  refine j_getR 5 (q := 117) dX7_ifRead_114 rfl fl_X7_89 (E.2.2 _ _ sh_1) rfl ?_
  refine j_callV0 (Mc := iX0_insured) (q := 120) (c' := 0) (s' := 0) dX7_ifRead_117 rfl kV_X0_insured jw_508 ⟨by decide, by decide⟩ (E.2.2 _ _ sh_4) rfl rfl rfl (Nat.le_refl _) (Nat.le_refl _) (ct_X0_insured E hq) ?_
  refine j_land (q := 121) dX7_ifRead_120 rfl ?_
  refine j_callS1 (Mc := iJ13_bitCount_95d88) (q := 124) (c' := 0) (s' := 0) dX7_ifRead_121 rfl kS_J13_bitCount_95d88 jw_424 ⟨by decide, by decide⟩ rfl (Nat.le_refl _) (Nat.le_refl _) (ct_J13_bitCount_95d88 E) ?_
  exact j_ireturn dX7_ifRead_124 rfl (by unfold cRN; first | (rw [if_pos (by omega)]; done) | (rw [if_neg (by omega), if_pos (by omega)]; done) | (rw [if_neg (by omega), if_neg (by omega), if_pos (by omega)]; done) | (rw [if_neg (by omega), if_neg (by omega), if_neg (by omega), if_pos (by omega)]; done) | (rw [if_neg (by omega), if_neg (by omega), if_neg (by omega), if_neg (by omega)]; done)) (rfl)
theorem lp_X7_gentlest {G : GX} {sh : List SH} (E : EV G sh) {m P : Mem} (hq : PA 1) {x : Int64} : ∀ (d : Nat) (c : Int) (b : Int) (f : Int) (g : Int), c + d = 64 → 0 ≤ c → -1 ≤ b → b < 64 → J G sh iX7_gentlest 0 0 (FN G sh 0 0 (some (.inl (cGF P x d c b f g))) (ps m 1 P)) 20 [some (.inr (.ref 0)), some (.inr (.long x)), none, some (.inl b), some (.inl f), some (.inl g), some (.inl c), none, none] [] (ps m 1 P) 0 0 := by
  intro d
  induction d with
  | zero =>
    intro c b f g g0 g1 g2 g3
    refine j_iload6 (q := 22) dX7_gentlest_20 rfl ?_
    refine j_bipush (q := 24) dX7_gentlest_22 rfl rfl ?_
    refine j_icmp_ge (tgt := 124) (q := 27) dX7_gentlest_24 (by decide) rfl (by first | exact wr_id' (by omega) (by omega) | with_reducible exact wr_bI _ | exact rfl) (by first | exact wr_id' (by omega) (by omega) | with_reducible exact wr_bI _ | exact rfl) (fun h24 => ?_) (fun h24 => ?_)
    · refine j_iload3 (q := 125) dX7_gentlest_124 rfl ?_
      exact j_ireturn dX7_gentlest_125 rfl (rfl) (rfl)
    · omega
  | succ d ih =>
    intro c b f g g0 g1 g2 g3
    refine j_iload6 (q := 22) dX7_gentlest_20 rfl ?_
    refine j_bipush (q := 24) dX7_gentlest_22 rfl rfl ?_
    refine j_icmp_ge (tgt := 124) (q := 27) dX7_gentlest_24 (by decide) rfl (by first | exact wr_id' (by omega) (by omega) | with_reducible exact wr_bI _ | exact rfl) (by first | exact wr_id' (by omega) (by omega) | with_reducible exact wr_bI _ | exact rfl) (fun h24 => ?_) (fun h24 => ?_)
    · omega
    · refine j_aload0 (q := 28) dX7_gentlest_27 rfl ?_
      refine j_getR 0 (q := 31) dX7_gentlest_28 rfl fl_X7_10 (E.2.2 _ _ sh_0) rfl ?_
      refine j_getR 5 (q := 34) dX7_gentlest_31 rfl fl_X7_89 (E.2.2 _ _ sh_1) rfl ?_
      refine j_iload6 (q := 36) dX7_gentlest_34 rfl ?_
      refine j_callV1 (Mc := iX0_isOne) (q := 39) (c' := 0) (s' := 0) dX7_gentlest_36 rfl kV_X0_isOne jw_519 ⟨by decide, by decide⟩ (E.2.2 _ _ sh_4) rfl rfl rfl (Nat.le_refl _) (Nat.le_refl _) (ct_X0_isOne E hq) ?_
      refine j_ifeq_b (tgt := 118) (q := 42) dX7_gentlest_39 (by decide) rfl (fun h39 => ?_) (fun h39 => ?_)
      · refine j_iinc6 (q := 121) dX7_gentlest_118 rfl rfl (by decide) ?_
        refine j_goto (tgt := 20) dX7_gentlest_121 (by decide) ?_
        exact j_fin (by first | (rw [cGF, if_pos ⟨by simp [*], by omega⟩]; done) | (rw [cGF, if_neg (fun z => absurd z.2 (by omega))]; done) | (rw [cGF, if_neg (fun z => by have := z.1; simp_all)]; done)) (rfl) (ih _ _ _ _ (by omega) (by omega) (by omega) (by omega))
      · refine j_aload0 (q := 43) dX7_gentlest_42 rfl ?_
        refine j_getR 0 (q := 46) dX7_gentlest_43 rfl fl_X7_10 (E.2.2 _ _ sh_0) rfl ?_
        refine j_iload6 (q := 48) dX7_gentlest_46 rfl ?_
        refine j_callV1 (Mc := iX3_canBeRead) (q := 51) (c' := 0) (s' := 0) dX7_gentlest_48 rfl kV_X3_canBeRead jw_520 ⟨by decide, by decide⟩ (E.2.2 _ _ sh_1) rfl rfl rfl (Nat.le_refl _) (Nat.le_refl _) (ct_X3_canBeRead E hq (by omega)) ?_
        refine j_ifeq_b (tgt := 118) (q := 54) dX7_gentlest_51 (by decide) rfl (fun h51 => ?_) (fun h51 => ?_)
        · refine j_iinc6 (q := 121) dX7_gentlest_118 rfl rfl (by decide) ?_
          refine j_goto (tgt := 20) dX7_gentlest_121 (by decide) ?_
          exact j_fin (by first | (rw [cGF, if_pos ⟨by simp [*], by omega⟩]; done) | (rw [cGF, if_neg (fun z => absurd z.2 (by omega))]; done) | (rw [cGF, if_neg (fun z => by have := z.1; simp_all)]; done)) (rfl) (ih _ _ _ _ (by omega) (by omega) (by omega) (by omega))
        · refine j_lload1 (q := 55) dX7_gentlest_54 rfl ?_
          refine j_iload6 (q := 57) dX7_gentlest_55 rfl ?_
          refine j_callS1 (Mc := iX7_linesOf) (q := 60) (c' := 0) (s' := 0) dX7_gentlest_57 rfl kS_X7_linesOf jw_489 ⟨by decide, by decide⟩ rfl (Nat.le_refl _) (Nat.le_refl _) (ct_X7_linesOf E (by omega)) ?_
          refine j_land (q := 61) dX7_gentlest_60 rfl ?_
          refine j_callS1 (Mc := iJ13_bitCount_95d88) (q := 64) (c' := 0) (s' := 0) dX7_gentlest_61 rfl kS_J13_bitCount_95d88 jw_424 ⟨by decide, by decide⟩ rfl (Nat.le_refl _) (Nat.le_refl _) (ct_J13_bitCount_95d88 E) ?_
          refine j_istore7 (q := 66) dX7_gentlest_64 rfl rfl (by decide) ?_
          refine j_aload0 (q := 67) dX7_gentlest_66 rfl ?_
          refine j_getR 0 (q := 70) dX7_gentlest_67 rfl fl_X7_10 (E.2.2 _ _ sh_0) rfl ?_
          refine j_getR 5 (q := 73) dX7_gentlest_70 rfl fl_X7_89 (E.2.2 _ _ sh_1) rfl ?_
          refine j_getR 1 (q := 76) dX7_gentlest_73 rfl fl_X7_138 (E.2.2 _ _ sh_4) rfl ?_
          refine j_iload6 (q := 78) dX7_gentlest_76 rfl ?_
          refine j_pload (q := 79) (d := 4) rfl (by decide) dX7_gentlest_78 rfl (E.2.2 _ _ sh_5) (by first | exact wr_id' (by omega) (by omega) | with_reducible exact wr_bI _ | exact rfl) (by omega) (by omega) ?_
          refine j_istore8 (q := 81) dX7_gentlest_79 rfl rfl (by decide) ?_
          refine j_iload3 (q := 82) dX7_gentlest_81 rfl ?_
          refine j_iconst (q := 83) dX7_gentlest_82 rfl ?_
          refine j_icmp_eq (tgt := 107) (q := 86) dX7_gentlest_83 (by decide) rfl (by first | exact wr_id' (by omega) (by omega) | with_reducible exact wr_bI _ | exact rfl) (by first | exact wr_id' (by omega) (by omega) | with_reducible exact wr_bI _ | exact rfl) (fun h83 => ?_) (fun h83 => ?_)
          · refine j_iload6 (q := 109) dX7_gentlest_107 rfl ?_
            refine j_istore3 (q := 110) dX7_gentlest_109 rfl rfl (by decide) ?_
            refine j_iload7 (q := 112) dX7_gentlest_110 rfl ?_
            refine j_istore4 (q := 114) dX7_gentlest_112 rfl rfl (by decide) ?_
            refine j_iload8 (q := 116) dX7_gentlest_114 rfl ?_
            refine j_istore5 (q := 118) dX7_gentlest_116 rfl rfl (by decide) ?_
            refine j_iinc6 (q := 121) dX7_gentlest_118 rfl rfl (by decide) ?_
            refine j_goto (tgt := 20) dX7_gentlest_121 (by decide) ?_
            refine j_fgt7 ?_
            refine j_fgt8 ?_
            exact j_fin (by first | (rw [cGF, if_pos ⟨by simp [*], by omega⟩]; done) | (rw [cGF, if_neg (fun z => absurd z.2 (by omega))]; done) | (rw [cGF, if_neg (fun z => by have := z.1; simp_all)]; done)) (rfl) (ih _ _ _ _ (by omega) (by omega) (by omega) (by omega))
          · refine j_iload7 (q := 88) dX7_gentlest_86 rfl ?_
            refine j_iload4 (q := 90) dX7_gentlest_88 rfl ?_
            refine j_icmp_lt (tgt := 107) (q := 93) dX7_gentlest_90 (by decide) rfl rfl rfl (fun h90 => ?_) (fun h90 => ?_)
            · refine j_iload6 (q := 109) dX7_gentlest_107 rfl ?_
              refine j_istore3 (q := 110) dX7_gentlest_109 rfl rfl (by decide) ?_
              refine j_iload7 (q := 112) dX7_gentlest_110 rfl ?_
              refine j_istore4 (q := 114) dX7_gentlest_112 rfl rfl (by decide) ?_
              refine j_iload8 (q := 116) dX7_gentlest_114 rfl ?_
              refine j_istore5 (q := 118) dX7_gentlest_116 rfl rfl (by decide) ?_
              refine j_iinc6 (q := 121) dX7_gentlest_118 rfl rfl (by decide) ?_
              refine j_goto (tgt := 20) dX7_gentlest_121 (by decide) ?_
              refine j_fgt7 ?_
              refine j_fgt8 ?_
              exact j_fin (by first | (rw [cGF, if_pos ⟨by simp [*], by omega⟩]; done) | (rw [cGF, if_neg (fun z => absurd z.2 (by omega))]; done) | (rw [cGF, if_neg (fun z => by have := z.1; simp_all)]; done)) (rfl) (ih _ _ _ _ (by omega) (by omega) (by omega) (by omega))
            · refine j_iload7 (q := 95) dX7_gentlest_93 rfl ?_
              refine j_iload4 (q := 97) dX7_gentlest_95 rfl ?_
              refine j_icmp_ne (tgt := 118) (q := 100) dX7_gentlest_97 (by decide) rfl rfl rfl (fun h97 => ?_) (fun h97 => ?_)
              · refine j_iinc6 (q := 121) dX7_gentlest_118 rfl rfl (by decide) ?_
                refine j_goto (tgt := 20) dX7_gentlest_121 (by decide) ?_
                refine j_fgt7 ?_
                refine j_fgt8 ?_
                exact j_fin (by first | (rw [cGF, if_pos ⟨by simp [*], by omega⟩]; done) | (rw [cGF, if_neg (fun z => absurd z.2 (by omega))]; done) | (rw [cGF, if_neg (fun z => by have := z.1; simp_all)]; done)) (rfl) (ih _ _ _ _ (by omega) (by omega) (by omega) (by omega))
              · refine j_iload8 (q := 102) dX7_gentlest_100 rfl ?_
                refine j_iload5 (q := 104) dX7_gentlest_102 rfl ?_
                refine j_icmp_le (tgt := 118) (q := 107) dX7_gentlest_104 (by decide) rfl rfl rfl (fun h104 => ?_) (fun h104 => ?_)
                · refine j_iinc6 (q := 121) dX7_gentlest_118 rfl rfl (by decide) ?_
                  refine j_goto (tgt := 20) dX7_gentlest_121 (by decide) ?_
                  refine j_fgt7 ?_
                  refine j_fgt8 ?_
                  exact j_fin (by first | (rw [cGF, if_pos ⟨by simp [*], by omega⟩]; done) | (rw [cGF, if_neg (fun z => absurd z.2 (by omega))]; done) | (rw [cGF, if_neg (fun z => by have := z.1; simp_all)]; done)) (rfl) (ih _ _ _ _ (by omega) (by omega) (by omega) (by omega))
                · refine j_iload6 (q := 109) dX7_gentlest_107 rfl ?_
                  refine j_istore3 (q := 110) dX7_gentlest_109 rfl rfl (by decide) ?_
                  refine j_iload7 (q := 112) dX7_gentlest_110 rfl ?_
                  refine j_istore4 (q := 114) dX7_gentlest_112 rfl rfl (by decide) ?_
                  refine j_iload8 (q := 116) dX7_gentlest_114 rfl ?_
                  refine j_istore5 (q := 118) dX7_gentlest_116 rfl rfl (by decide) ?_
                  refine j_iinc6 (q := 121) dX7_gentlest_118 rfl rfl (by decide) ?_
                  refine j_goto (tgt := 20) dX7_gentlest_121 (by decide) ?_
                  refine j_fgt7 ?_
                  refine j_fgt8 ?_
                  exact j_fin (by first | (rw [cGF, if_pos ⟨by simp [*], by omega⟩]; done) | (rw [cGF, if_neg (fun z => absurd z.2 (by omega))]; done) | (rw [cGF, if_neg (fun z => by have := z.1; simp_all)]; done)) (rfl) (ih _ _ _ _ (by omega) (by omega) (by omega) (by omega))
theorem ct_X7_gentlest {G : GX} {sh : List SH} (E : EV G sh) {m P : Mem} : CT G sh iX7_gentlest 0 0 [.inr (.ref 0)] (ps m 1 P) (some (.inl (cG P))) (ps m 1 P) := by
  have hq : PA 1 := PA1
  refine j_met (L0 := [some (.inr (.ref 0)), none, none, none, none, none, none, none, none]) (by decide) E.1 E.2.1 rfl (Nat.le_of_ble_eq_true rfl) ?_
  refine j_aload0 (q := 1) dX7_gentlest_0 rfl ?_
  refine j_getR 0 (q := 4) dX7_gentlest_1 rfl fl_X7_10 (E.2.2 _ _ sh_0) rfl ?_
  refine j_callV0 (Mc := iX3_fragile) (q := 7) (c' := 0) (s' := 0) dX7_gentlest_4 rfl kV_X3_fragile jw_481 ⟨by decide, by decide⟩ (E.2.2 _ _ sh_1) rfl rfl rfl (Nat.le_refl _) (Nat.le_refl _) (ct_X3_fragile E hq) ?_
  refine j_lstore1 (q := 8) dX7_gentlest_7 rfl rfl (by decide) ?_
  refine j_iconst (q := 9) dX7_gentlest_8 rfl ?_
  refine j_istore3 (q := 10) dX7_gentlest_9 rfl rfl (by decide) ?_
  refine j_bipush (q := 12) dX7_gentlest_10 rfl rfl ?_
  refine j_istore4 (q := 14) dX7_gentlest_12 rfl rfl (by decide) ?_
  refine j_iconst (q := 15) dX7_gentlest_14 rfl ?_
  refine j_istore5 (q := 17) dX7_gentlest_15 rfl rfl (by decide) ?_
  refine j_iconst (q := 18) dX7_gentlest_17 rfl ?_
  refine j_istore6 (q := 20) dX7_gentlest_18 rfl rfl (by decide) ?_
  exact lp_X7_gentlest E hq (x := cFr P) 64 0 (-1) 64 0 (by omega) (by omega) (by omega) (by omega)
theorem lp_X7_atRisk {G : GX} {sh : List SH} (E : EV G sh) {m P : Mem} (hq : PA 1) {t : Int} {x : Int64} : ∀ (d : Nat) (c : Int) (b : Int), c + d = 64 → 0 ≤ c → J G sh iX7_atRisk 0 0 (FN G sh 0 0 (some (.inl (cRkF P x d c b))) (ps m 1 P)) 31 [some (.inr (.ref 0)), some (.inl t), some (.inr (.long x)), none, some (.inl b), some (.inl c)] [] (ps m 1 P) 0 0 := by
  intro d
  induction d with
  | zero =>
    intro c b g0 g1
    refine j_iload5 (q := 33) dX7_atRisk_31 rfl ?_
    refine j_bipush (q := 35) dX7_atRisk_33 rfl rfl ?_
    refine j_icmp_ge (tgt := 73) (q := 38) dX7_atRisk_35 (by decide) rfl (by first | exact wr_id' (by omega) (by omega) | with_reducible exact wr_bI _ | exact rfl) (by first | exact wr_id' (by omega) (by omega) | with_reducible exact wr_bI _ | exact rfl) (fun h35 => ?_) (fun h35 => ?_)
    · refine j_iload4 (q := 75) dX7_atRisk_73 rfl ?_
      exact j_ireturn dX7_atRisk_75 rfl (rfl) (rfl)
    · omega
  | succ d ih =>
    intro c b g0 g1
    refine j_iload5 (q := 33) dX7_atRisk_31 rfl ?_
    refine j_bipush (q := 35) dX7_atRisk_33 rfl rfl ?_
    refine j_icmp_ge (tgt := 73) (q := 38) dX7_atRisk_35 (by decide) rfl (by first | exact wr_id' (by omega) (by omega) | with_reducible exact wr_bI _ | exact rfl) (by first | exact wr_id' (by omega) (by omega) | with_reducible exact wr_bI _ | exact rfl) (fun h35 => ?_) (fun h35 => ?_)
    · omega
    · refine j_aload0 (q := 39) dX7_atRisk_38 rfl ?_
      refine j_getR 0 (q := 42) dX7_atRisk_39 rfl fl_X7_10 (E.2.2 _ _ sh_0) rfl ?_
      refine j_iload5 (q := 44) dX7_atRisk_42 rfl ?_
      refine j_callV1 (Mc := iX3_canBeRead) (q := 47) (c' := 0) (s' := 0) dX7_atRisk_44 rfl kV_X3_canBeRead jw_520 ⟨by decide, by decide⟩ (E.2.2 _ _ sh_1) rfl rfl rfl (Nat.le_refl _) (Nat.le_refl _) (ct_X3_canBeRead E hq (by omega)) ?_
      refine j_ifeq_b (tgt := 67) (q := 50) dX7_atRisk_47 (by decide) rfl (fun h47 => ?_) (fun h47 => ?_)
      · refine j_iinc5 (q := 70) dX7_atRisk_67 rfl rfl (by decide) ?_
        refine j_goto (tgt := 31) dX7_atRisk_70 (by decide) ?_
        exact j_fin (by first | (rw [cRkF, if_pos (by assumption)]; done) | (rw [cRkF, if_pos (by assumption)]; rfl) | (rw [cRkF, if_neg (nb (by assumption))]; done)) (rfl) (ih _ _ (by omega) (by omega))
      · refine j_iload4 (q := 52) dX7_atRisk_50 rfl ?_
        refine j_lload2 (q := 53) dX7_atRisk_52 rfl ?_
        refine j_iload5 (q := 55) dX7_atRisk_53 rfl ?_
        refine j_callS1 (Mc := iX7_linesOf) (q := 58) (c' := 0) (s' := 0) dX7_atRisk_55 rfl kS_X7_linesOf jw_489 ⟨by decide, by decide⟩ rfl (Nat.le_refl _) (Nat.le_refl _) (ct_X7_linesOf E (by omega)) ?_
        refine j_land (q := 59) dX7_atRisk_58 rfl ?_
        refine j_callS1 (Mc := iJ13_bitCount_95d88) (q := 62) (c' := 0) (s' := 0) dX7_atRisk_59 rfl kS_J13_bitCount_95d88 jw_424 ⟨by decide, by decide⟩ rfl (Nat.le_refl _) (Nat.le_refl _) (ct_J13_bitCount_95d88 E) ?_
        refine j_max (q := 65) dX7_atRisk_62 rfl jw_552 ⟨by decide, Nat.le_of_ble_eq_true rfl⟩ (Nat.le_refl _) (Nat.le_refl _) ?_
        refine j_cg (S' := [.inl (cMx b (bc (x &&& lin c)))]) rfl rfl rfl ?_
        refine j_istore4 (q := 67) dX7_atRisk_65 rfl rfl (by decide) ?_
        refine j_iinc5 (q := 70) dX7_atRisk_67 rfl rfl (by decide) ?_
        refine j_goto (tgt := 31) dX7_atRisk_70 (by decide) ?_
        exact j_fin (by first | (rw [cRkF, if_pos (by assumption)]; done) | (rw [cRkF, if_pos (by assumption)]; rfl) | (rw [cRkF, if_neg (nb (by assumption))]; done)) (rfl) (ih _ _ (by omega) (by omega))
theorem ct_X7_atRisk {G : GX} {sh : List SH} (E : EV G sh) {m P : Mem} {t : Int} (r_t : -2147483648 ≤ t ∧ t < 2147483648) (bt : 0 ≤ P 13 0 ∧ P 13 0 ≤ 6) (p0 : 0 ≤ t ∧ t < P 13 0) : CT G sh iX7_atRisk 0 0 [.inr (.ref 0), .inl t] (ps m 1 P) (some (.inl (cRk P t))) (ps m 1 P) := by
  have hq : PA 1 := PA1
  refine j_met (L0 := [some (.inr (.ref 0)), some (.inl t), none, none, none, none]) (by decide) E.1 E.2.1 rfl (Nat.le_of_ble_eq_true rfl) ?_
  refine j_aload0 (q := 1) dX7_atRisk_0 rfl ?_
  refine j_iload1 (q := 2) dX7_atRisk_1 rfl ?_
  refine j_callV1v (Mc := iX7_requireTenant) (q := 5) (c' := 0) (s' := 0) dX7_atRisk_2 rfl kV_X7_requireTenant jw_529 ⟨by decide, by decide⟩ (E.2.2 _ _ sh_0) rfl rfl rfl (Nat.le_refl _) (Nat.le_refl _) (ct_X7_requireTenant E hq (by omega) (by omega)) ?_
  refine j_aload0 (q := 6) dX7_atRisk_5 rfl ?_
  refine j_getR 0 (q := 9) dX7_atRisk_6 rfl fl_X7_10 (E.2.2 _ _ sh_0) rfl ?_
  refine j_callV0 (Mc := iX3_fragile) (q := 12) (c' := 0) (s' := 0) dX7_atRisk_9 rfl kV_X3_fragile jw_481 ⟨by decide, by decide⟩ (E.2.2 _ _ sh_1) rfl rfl rfl (Nat.le_refl _) (Nat.le_refl _) (ct_X3_fragile E hq) ?_
  refine j_aload0 (q := 13) dX7_atRisk_12 rfl ?_
  refine j_getR 0 (q := 16) dX7_atRisk_13 rfl fl_X7_10 (E.2.2 _ _ sh_0) rfl ?_
  refine j_getR 5 (q := 19) dX7_atRisk_16 rfl fl_X7_89 (E.2.2 _ _ sh_1) rfl ?_
  refine j_iload1 (q := 20) dX7_atRisk_19 rfl ?_
  refine j_callV1 (Mc := iX0_leasesOf) (q := 23) (c' := 0) (s' := 0) dX7_atRisk_20 rfl kV_X0_leasesOf jw_551 ⟨by decide, by decide⟩ (E.2.2 _ _ sh_4) rfl rfl rfl (Nat.le_refl _) (Nat.le_refl _) (ct_X0_leasesOf E hq) ?_
  refine j_land (q := 24) dX7_atRisk_23 rfl ?_
  refine j_lstore2 (q := 25) dX7_atRisk_24 rfl rfl (by decide) ?_
  refine j_iconst (q := 26) dX7_atRisk_25 rfl ?_
  refine j_istore4 (q := 28) dX7_atRisk_26 rfl rfl (by decide) ?_
  refine j_iconst (q := 29) dX7_atRisk_28 rfl ?_
  refine j_istore5 (q := 31) dX7_atRisk_29 rfl rfl (by decide) ?_
  exact lp_X7_atRisk E hq (x := cFr P &&& cLsF P t) 64 0 0 (by omega) (by omega)
theorem ct_X7_backShare {G : GX} {sh : List SH} (E : EV G sh) {m P : Mem} : CT G sh iX7_backShare 0 0 [.inr (.ref 0)] (ps m 1 P) (some (.inr (.double (cBk P)))) (ps m 1 P) := by
  have hq : PA 1 := PA1
  refine j_met (L0 := [some (.inr (.ref 0)), none]) (by decide) E.1 E.2.1 rfl (Nat.le_of_ble_eq_true rfl) ?_
  refine j_aload0 (q := 1) dX7_backShare_0 rfl ?_
  refine j_getR 0 (q := 4) dX7_backShare_1 rfl fl_X7_10 (E.2.2 _ _ sh_0) rfl ?_
  refine j_getR 4 (q := 7) dX7_backShare_4 rfl fl_X7_275 (E.2.2 _ _ sh_1) rfl ?_
  refine j_bipush (q := 9) dX7_backShare_7 rfl rfl ?_
  refine j_pload (q := 10) (d := 2) rfl (by decide) dX7_backShare_9 rfl (E.2.2 _ _ sh_3) (by first | exact wr_id' (by omega) (by omega) | with_reducible exact wr_bI _ | exact rfl) (by omega) (by omega) ?_
  refine j_istore1 (q := 11) dX7_backShare_10 rfl rfl (by decide) ?_
  refine j_iload1 (q := 12) dX7_backShare_11 rfl ?_
  refine j_if_ne (tgt := 17) (q := 15) dX7_backShare_12 (by decide) rfl rfl (fun h12 => ?_) (fun h12 => ?_)
  · refine j_aload0 (q := 18) dX7_backShare_17 rfl ?_
    refine j_getR 0 (q := 21) dX7_backShare_18 rfl fl_X7_10 (E.2.2 _ _ sh_0) rfl ?_
    refine j_getR 4 (q := 24) dX7_backShare_21 rfl fl_X7_275 (E.2.2 _ _ sh_1) rfl ?_
    refine j_bipush (q := 26) dX7_backShare_24 rfl rfl ?_
    refine j_pload (q := 27) (d := 2) rfl (by decide) dX7_backShare_26 rfl (E.2.2 _ _ sh_3) (by first | exact wr_id' (by omega) (by omega) | with_reducible exact wr_bI _ | exact rfl) (by omega) (by omega) ?_
    refine j_i2d (q := 28) dX7_backShare_27 rfl ?_
    refine j_iload1 (q := 29) dX7_backShare_28 rfl ?_
    refine j_i2d (q := 30) dX7_backShare_29 rfl ?_
    refine j_ddiv (q := 31) dX7_backShare_30 rfl (div_n64 (jI_nz (by assumption))) ?_
    exact j_dreturn dX7_backShare_31 rfl (by first | (rw [cBk, if_pos (by assumption)]; done) | (rw [cBk, if_neg (by assumption)]; done)) (rfl)
  · refine j_dconst0 (q := 16) dX7_backShare_15 rfl ?_
    exact j_dreturn dX7_backShare_16 rfl (by first | (rw [cBk, if_pos (by assumption)]; done) | (rw [cBk, if_neg (by assumption)]; done)) (rfl)

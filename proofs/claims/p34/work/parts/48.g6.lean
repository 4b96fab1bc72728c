/-! plain mathematics: questions -/
theorem zLs_e {z : Z} {K c : Int} (hc : 0 ≤ c ∧ c < 64) (hW : WI z K) : zLs z c = decide (0 < z (59 + 9 * c + 2)) := by
  have h := hW.2.2.2.1 c hc.1 hc.2
  unfold zLs; rw [wr_id' (by omega) (by omega)]
theorem zBy_e {z : Z} {K c : Int} (hc : 0 ≤ c ∧ c < 64) (hW : WI z K) : wr (z (59 + 9 * c + 4)) = z (59 + 9 * c + 4) := by
  have h := hW.2.2.2.1 c hc.1 hc.2
  exact wr_id' (by omega) (by omega)
theorem cLs_z {P : Mem} {z : Z} {dl : Int → Int} {K c : Int} (hc : 0 ≤ c ∧ c < 64) (h : RC P z dl) (hW : WI z K) : cLs P c = zLs z c := by
  rw [zLs_e hc hW]
  cases q : cLs P c with
  | true => exact (decide_eq_true ((cLs_e hc h hW).mp q)).symm
  | false => exact (decide_eq_false (fun w => by rw [(cLs_e hc h hW).mpr w] at q; cases q)).symm
theorem cHp_z {P : Mem} {z : Z} {dl : Int → Int} {K c : Int} (hc : 0 ≤ c ∧ c < 64) (h : RC P z dl) (hW : WI z K) : cHp P c = decide (0 < wr (z (59 + 9 * c + 4))) := by
  rw [zBy_e hc hW]
  cases q : cHp P c with
  | true => exact (decide_eq_true ((cHp_e hc h hW).mp q)).symm
  | false => exact (decide_eq_false (fun w => by rw [(cHp_e hc h hW).mpr w] at q; cases q)).symm
theorem cOw_z {P : Mem} {z : Z} {T B c : Int} (hc : 0 ≤ c ∧ c < 64) (h : RD P z) (hI : IZ z T B) : cOw P c = zOw z c := by
  cases q : zOw z c with
  | true => exact (cOw_e hc h hI).mpr ((zOw_e hc hI).mp q)
  | false =>
    cases r : cOw P c with
    | false => rfl
    | true => rw [(zOw_e hc hI).mpr ((cOw_e hc h hI).mp r)] at q; cases q
theorem cCR_z {P : Mem} {z : Z} {T B K c : Int} (hc : 0 ≤ c ∧ c < 64) (h : RR P z T B K) : cCR P c = zCR z c := by
  obtain ⟨hR, hQ, hD, hV, hW, hI⟩ := h
  unfold cCR zCR
  rw [cLs_z hc hR hW, cOw_z hc hD hI]
theorem q_core {P : Mem} {z : Z} {T B K c w : Int} (hc : 0 ≤ c ∧ c < 64) (hw : 0 ≤ w ∧ w ≤ 8) (h : RR P z T B K) : cCN P c w = zCN z c w := by
  have h' := h
  obtain ⟨hR, hQ, hD, hV, hW, hI⟩ := h
  have b := hR.bit c hc.1 hc.2
  have s := hR.sg c hc.1 hc.2
  have wh := hR.wh c hc.1 hc.2
  have by_ := hR.by_ c hc.1 hc.2
  have ls := hR.ls c hc.1 hc.2
  have du := hD.2 c hc.1 hc.2
  have le := hR.le c hc.1 hc.2
  have po := hR.po c hc.1 hc.2
  have e0 := hW.2.2.2.1 c hc.1 hc.2
  unfold cCN zCN
  have hh : w = 0 ∨ w = 1 ∨ w = 2 ∨ w = 3 ∨ w = 4 ∨ w = 5 ∨ w = 6 ∨ w = 7 ∨ w = 8 := by omega
  rcases hh with rfl | rfl | rfl | rfl | rfl | rfl | rfl | rfl | rfl
  · rw [if_pos rfl, if_pos (by omega), Int.add_zero]; exact b
  · rw [if_neg (by omega), if_pos rfl, if_pos (by omega)]; exact s
  · rw [if_neg (by omega), if_neg (by omega), if_pos rfl, if_neg (by omega), if_pos rfl]; omega
  · rw [if_neg (by omega), if_neg (by omega), if_neg (by omega), if_pos rfl, if_neg (by omega), if_neg (by omega), if_pos rfl]
    unfold cLL
    rw [cLs_z hc hR hW, zLs_e hc hW]
    by_cases q : 0 < z (59 + 9 * c + 2)
    · rw [decide_eq_true q, if_pos rfl, if_pos rfl]; have := le q; simp only [D0] at this; omega
    · rw [decide_eq_false q]; rfl
  · rw [if_neg (by omega), if_neg (by omega), if_neg (by omega), if_neg (by omega), if_pos rfl, if_neg (by omega), if_neg (by omega), if_neg (by omega), if_pos rfl]; omega
  · rw [if_neg (by omega), if_neg (by omega), if_neg (by omega), if_neg (by omega), if_neg (by omega), if_pos rfl, if_neg (by omega), if_neg (by omega), if_neg (by omega), if_neg (by omega), if_pos rfl]
    unfold cPL
    rw [cHp_z hc hR hW, zBy_e hc hW]
    by_cases q : 0 < z (59 + 9 * c + 4)
    · rw [decide_eq_true q, if_pos rfl, if_pos q]; have := po q; simp only [D0] at this; omega
    · rw [decide_eq_false q, if_neg q]; rfl
  · rw [if_neg (by omega), if_neg (by omega), if_neg (by omega), if_neg (by omega), if_neg (by omega), if_neg (by omega), if_pos rfl, if_neg (by omega), if_neg (by omega), if_neg (by omega), if_neg (by omega), if_neg (by omega), if_pos rfl, cOw_z hc hD hI]
  · rw [if_neg (by omega), if_neg (by omega), if_neg (by omega), if_neg (by omega), if_neg (by omega), if_neg (by omega), if_neg (by omega), if_pos rfl, if_neg (by omega), if_neg (by omega), if_neg (by omega), if_neg (by omega), if_neg (by omega), if_neg (by omega)]; omega
  · rw [if_neg (by omega), if_neg (by omega), if_neg (by omega), if_neg (by omega), if_neg (by omega), if_neg (by omega), if_neg (by omega), if_neg (by omega), if_pos (by omega)]; exact ls
theorem ls_tb {P : Mem} {z : Z} {dl : Int → Int} {K c t : Int} (hc : 0 ≤ c ∧ c < 64) (ht : -1 ≤ t ∧ t ≤ 6) (h : RC P z dl) (hW : WI z K) : tb (cLsF P t) c = decide (wr (z (59 + 9 * c + 2)) = t + 1) := by
  have h1 := h.wh c hc.1 hc.2
  have h2 := hW.2.2.2.1 c hc.1 hc.2
  unfold cLsF
  rw [tb_k hc, wr_id' (x := P 5 c) (by omega) (by omega), wr_id' (x := t) (by omega) (by omega), wr_id' (x := z (59 + 9 * c + 2)) (by omega) (by omega), decide_eq_decide]
  omega
theorem in_tb {P : Mem} {z : Z} {dl : Int → Int} {K c : Int} (hc : 0 ≤ c ∧ c < 64) (h : RC P z dl) (hW : WI z K) : tb (cInF P) c = decide (0 < wr (z (59 + 9 * c + 4))) := by
  unfold cInF
  rw [tb_k hc, cHp_z hc h hW]
theorem q_cof {P : Mem} {z : Z} {dl : Int → Int} {K t : Int} (ht : 0 ≤ t ∧ t < 6) (h : RC P z dl) (hW : WI z K) : bc (cLsF P t) = zCof z t false ∧ bc (cLsF P t &&& cInF P) = zCof z t true := by
  refine ⟨bc_eq (fun c a b => ?_), bc_eq (fun c a b => ?_)⟩
  · rw [ls_tb ⟨a, b⟩ (by omega) h hW]; simp
  · rw [tb_and ⟨a, b⟩, ls_tb ⟨a, b⟩ (by omega) h hW, in_tb ⟨a, b⟩ h hW]; simp
theorem q_pol {P : Mem} {z : Z} {dl : Int → Int} {K i : Int} (hi : 0 ≤ i ∧ i < 3) (h : RC P z dl) (hW : WI z K) : cInB P i = zPol z i := by
  unfold cInB zPol
  refine (cnt_cg 64 0 0 (fun c a b => ?_)).symm
  have h1 := h.by_ c a (by omega)
  have h2 := hW.2.2.2.1 c a (by omega)
  rw [wr_id' (x := P 7 c) (by omega) (by omega), wr_id' (x := i) (by omega) (by omega), wr_id' (by omega) (by omega), decide_eq_decide]
  omega
theorem cnt_seg {p : Int → Bool} {f : Int → Int} : ∀ (d : Nat) (a n : Int), cntF (fun j => p (f j)) d a n = n + ((seg f a d).countP p : Int) := by
  intro d
  induction d with
  | zero => intro a n; simp [cntF, seg]
  | succ d ih =>
    intro a n
    rw [cntF, ih, seg, List.countP_cons]
    cases p (f a) <;> simp [bI] <;> omega
theorem q_wqi {P : Mem} {z : Z} {i : Int} (hi : 0 ≤ i ∧ i < 3) (hQ : RQ P z) (hH : HW z) : cWqI P i = z (41 + 6 * i + 5) := by
  have h := hQ i hi.1 hi.2
  have hw := hH i hi.1 hi.2
  have e := congrArg List.length h
  rw [qu_len] at e
  unfold clm at e
  rw [List.length_map, ← List.countP_eq_length_filter] at e
  unfold cWqI
  rw [cnt_seg (p := fun x => decide (x / 6 = wr i)), wr_id' (by omega) (by omega), e]
  omega
theorem q_insurer {P : Mem} {z : Z} {T B K i w : Int} (hi : 0 ≤ i ∧ i < 3) (hw : 0 ≤ w ∧ w ≤ 6) (h : RR P z T B K) : cIN P i w = zIN z i w := by
  obtain ⟨hR, hQ, hD, hV, hW, hI⟩ := h
  have hh : w = 0 ∨ w = 1 ∨ w = 2 ∨ w = 3 ∨ w = 4 ∨ w = 5 ∨ w = 6 := by omega
  unfold cIN zIN
  rcases hh with rfl | rfl | rfl | rfl | rfl | rfl | rfl
  · rw [if_pos rfl, if_pos (by omega), Int.add_zero]; exact hR.fu i hi.1 hi.2
  · rw [if_neg (by omega), if_pos rfl, if_pos (by omega)]; exact hR.ra i hi.1 hi.2
  · rw [if_neg (by omega), if_neg (by omega), if_pos rfl, if_pos (by omega)]; exact hR.co i hi.1 hi.2
  · rw [if_neg (by omega), if_neg (by omega), if_neg (by omega), if_pos rfl, if_neg (by omega), if_pos rfl]; exact q_pol hi hR hW
  · rw [if_neg (by omega), if_neg (by omega), if_neg (by omega), if_neg (by omega), if_pos rfl, if_neg (by omega), if_neg (by omega), if_pos rfl]; exact hR.cp i hi.1 hi.2
  · rw [if_neg (by omega), if_neg (by omega), if_neg (by omega), if_neg (by omega), if_neg (by omega), if_pos rfl, if_neg (by omega), if_neg (by omega), if_neg (by omega), if_pos rfl]; exact q_wqi hi hQ (WI_HW hW)
  · rw [if_neg (by omega), if_neg (by omega), if_neg (by omega), if_neg (by omega), if_neg (by omega), if_neg (by omega), if_neg (by omega), if_neg (by omega), if_neg (by omega), if_neg (by omega)]; exact hR.pr i hi.1 hi.2
theorem q_count {P : Mem} {z : Z} {T B K s w : Int} (hw : 0 ≤ w ∧ w ≤ 18) (h : RR P z T B K) : cCnt P s w = zCnt z s w := by
  obtain ⟨hR, hQ, hD, hV, hW, hI⟩ := h
  have ta := hR.ta w
  unfold cCnt zCnt
  by_cases h4 : w = 4
  · subst h4
    rw [if_neg (by omega), if_neg (by omega), if_neg (by omega), if_neg (by omega), if_pos rfl, if_pos rfl]
    have e : bc (cLsF P (-1)) = cntF (fun c => !decide (0 < wr (z (59 + 9 * c + 2)))) 64 0 0 := bc_eq (fun c a b => by
      rw [ls_tb ⟨a, b⟩ (by omega) hR hW]
      have h2 := hW.2.2.2.1 c a b
      rw [wr_id' (by omega) (by omega)]
      by_cases q : 0 < z (59 + 9 * c + 2)
      · rw [decide_eq_true q, decide_eq_false (by omega)]; rfl
      · rw [decide_eq_false q, decide_eq_true (by omega)]; rfl)
    have := cnt_not (p := fun c => decide (0 < wr (z (59 + 9 * c + 2)))) 64 0 0 0
    unfold zCW
    omega
  by_cases h5 : w = 5
  · subst h5
    rw [if_neg (by omega), if_neg (by omega), if_neg (by omega), if_neg (by omega), if_neg (by omega), if_pos rfl, if_neg (by omega), if_pos rfl]
    exact bc_eq (fun c a b => in_tb ⟨a, b⟩ hR hW)
  by_cases h6 : w = 6
  · subst h6
    rw [if_neg (by omega), if_neg (by omega), if_neg (by omega), if_neg (by omega), if_neg (by omega), if_neg (by omega), if_pos rfl, if_neg (by omega), if_neg (by omega), if_pos rfl]
    exact (RD_ord hD hI hV (fun _ => 0)).2
  by_cases h7 : w = 7
  · subst h7
    rw [if_neg (by omega), if_neg (by omega), if_neg (by omega), if_neg (by omega), if_neg (by omega), if_neg (by omega), if_neg (by omega), if_pos rfl, if_neg (by omega), if_neg (by omega), if_neg (by omega), if_pos rfl]
    refine bc_eq (fun c a b => ?_)
    have hb := hR.bit c a b
    rw [Int.add_zero, ← hb, wr_bI]
    unfold cOne
    cases tb (lo (P 3 0)) c <;> rfl
  rw [if_neg h4, if_neg h5, if_neg h6, if_neg h7, if_neg h4, if_neg h5, if_neg h6, if_neg h7]
  by_cases h18 : w = 18
  · rw [if_neg (by omega), if_neg (by omega), if_neg (by omega), if_neg (by omega), if_neg (by omega), if_pos h18, if_pos h18]
  rw [if_neg h18, if_neg h18]
  by_cases h16 : w = 16
  · subst h16; rw [if_neg (by omega), if_neg (by omega), if_neg (by omega), if_neg (by omega), if_pos rfl, if_neg (by omega)]; exact hR.hs
  rw [if_neg h16]
  by_cases h17 : w = 17
  · subst h17; rw [if_neg (by omega), if_neg (by omega), if_neg (by omega), if_neg (by omega), if_neg (by omega)]; exact hR.t17
  by_cases hlt : w < 4
  · rw [if_pos hlt]
    have hh : w = 0 ∨ w = 1 ∨ w = 2 ∨ w = 3 := by omega
    rcases hh with rfl | rfl | rfl | rfl
    · rw [if_pos rfl]; exact hR.t0
    · rw [if_neg (by omega), if_pos rfl]; exact hR.ht
    · rw [if_neg (by omega), if_neg (by omega), if_pos rfl]; exact hR.tn
    · rw [if_neg (by omega), if_neg (by omega), if_neg (by omega), if_pos rfl]; exact hR.im
  · rw [if_neg (by omega), if_neg (by omega), if_neg (by omega), if_neg (by omega), if_neg hlt]
    exact ta (by omega) (by omega)
theorem q_owed {P : Mem} {z : Z} {T B K p w : Int} (o : Int → Int) (hp : 0 ≤ p ∧ p < 64) (h : RR P z T B K) : cOwd P p w = zOwd z o p w := by
  obtain ⟨hR, hQ, hD, hV, hW, hI⟩ := h
  have hn := (RD_ord hD hI hV o).2
  unfold cOwd zOwd
  rw [zOrN_n, ← hn]
  by_cases q : P 10 0 ≤ p
  · rw [if_pos q, if_pos q]
  · rw [if_neg q, if_neg q, RD_get hD hI hV o hp.1 (by omega)]
    have hm := hV.2.2.2.1.2 p hp.1 (by omega)
    have hd := hD.2 (P 11 p) hm.1 hm.2
    have e : cDu P (P 11 p) = z (59 + 9 * P 11 p + 6) - 1 := by
      unfold cDu; rw [if_pos (wi_t ⟨by omega, by omega⟩)]; omega
    rw [e]
theorem q_dis0 {P : Mem} {z : Z} {dl : Int → Int} {c : Int} (hc : 0 ≤ c ∧ c < 64) (h : RC P z dl) : bc (cFr P &&& lin c) = zDis z c 0 := bc_eq (fun e a b => by
  rw [tb_and ⟨a, b⟩, fr_tb ⟨a, b⟩ h, tb_lin hc ⟨a, b⟩, Bool.and_comm]
  simp [zIs])
theorem q_dis1 {P : Mem} {z : Z} {dl : Int → Int} {K c : Int} (hc : 0 ≤ c ∧ c < 64) (h : RC P z dl) (hW : WI z K) : bc (cFr P &&& lin c &&& cInF P) = zDis z c 1 := bc_eq (fun e a b => by
  rw [tb_and ⟨a, b⟩, tb_and ⟨a, b⟩, fr_tb ⟨a, b⟩ h, tb_lin hc ⟨a, b⟩, in_tb ⟨a, b⟩ h hW]
  unfold zIs
  cases zWk z e <;> cases zLin c e <;> simp)
theorem q_dist {P : Mem} {z : Z} {dl : Int → Int} {K c t : Int} (hc : 0 ≤ c ∧ c < 64) (ht : 0 ≤ t ∧ t < 6) (h : RC P z dl) (hW : WI z K) : bc (cFr P &&& cLsF P t &&& lin c) = zDis z c (t + 2) := bc_eq (fun e a b => by
  rw [tb_and ⟨a, b⟩, tb_and ⟨a, b⟩, fr_tb ⟨a, b⟩ h, tb_lin hc ⟨a, b⟩, ls_tb ⟨a, b⟩ (by omega) h hW]
  have e1 : zIs z (t + 2) e = decide (wr (z (59 + 9 * e + 2)) = t + 1) := by
    unfold zIs
    rw [decide_eq_decide]
    omega
  rw [e1]
  cases zWk z e <;> cases zLin c e <;> simp)
theorem q_ifRead {P : Mem} {z : Z} {T B K c w : Int} (hc : 0 ≤ c ∧ c < 64) (hw : 0 ≤ w ∧ w ≤ 4) (h : RR P z T B K) : cRN P c w = zRN z c w := by
  obtain ⟨hR, hQ, hD, hV, hW, hI⟩ := h
  have hh : w = 0 ∨ w = 1 ∨ w = 2 ∨ w = 3 ∨ w = 4 := by omega
  unfold cRN zRN
  rcases hh with rfl | rfl | rfl | rfl | rfl
  · rw [if_pos rfl, if_pos rfl, Int.add_zero]; exact hR.bit c hc.1 hc.2
  · rw [if_neg (by omega), if_pos rfl, if_neg (by omega), if_pos rfl]; exact q_dis0 hc hR
  · rw [if_neg (by omega), if_neg (by omega), if_pos rfl, if_neg (by omega), if_neg (by omega), if_pos rfl]
    have i2 := hI.st 2 (by decide) (by decide)
    rw [hR.st 2 (by decide) (by decide)]
    exact hb_e (by omega) hR hI
  · rw [if_neg (by omega), if_neg (by omega), if_neg (by omega), if_pos rfl, if_neg (by omega), if_neg (by omega), if_neg (by omega), if_pos rfl]; exact sbp_e hc hR hI
  · rw [if_neg (by omega), if_neg (by omega), if_neg (by omega), if_neg (by omega), if_neg (by omega), if_neg (by omega), if_neg (by omega), if_neg (by omega)]; exact q_dis1 hc hR hW
theorem q_wt {P : Mem} {z : Z} {T B K c i k x : Int} (hc : 0 ≤ c ∧ c < 64) (hi : 0 ≤ i ∧ i < 3) (h : RR P z T B K) : ∀ (d : Nat) (n : Int), 0 ≤ n → n + d = 201 → cWtF P c i k x d n = zWtF z c i k x d n := by
  obtain ⟨hR, hQ, hD, hV, hW, hI⟩ := h
  intro d
  induction d with
  | zero => intro n _ _; rfl
  | succ d ih =>
    intro n h1 h2
    have i6 := hI.st 6 (by decide) (by decide)
    have i1 := hI.ht
    have m1 : 0 ≤ n * z (15 + 6) := Int.mul_nonneg h1 i6.1
    have m2 : n * z (15 + 6) ≤ 201 * 100 := Int.mul_le_mul (by omega) i6.2 i6.1 (by omega)
    have e : cMx 0 (P 0 1 - n * P 1 6) = zNB (z 1 - n * z (15 + 6)) := by
      rw [hR.ht, hR.st 6 (by decide) (by decide)]
      exact cMx_nb (by omega)
    rw [cWtF, zWtF, prem_e (k := k) hc hi hR e, ih (n + 1) (by omega) (by omega)]
theorem q_ch {P : Mem} {z : Z} {T B K c v k : Int} (hc : 0 ≤ c ∧ c < 64) (h : RR P z T B K) : ∀ (d : Nat) (i b l : Int), 0 ≤ i → i + d ≤ 3 → (b = -1 ∨ (0 ≤ b ∧ b < 3) ∧ l = cPrem P c b k (P 0 1)) → cChF P c v k d i b l = zChF z c v k d i b := by
  obtain ⟨hR, hQ, hD, hV, hW, hI⟩ := h
  intro d
  induction d with
  | zero => intro i b l _ _ _; rfl
  | succ d ih =>
    intro i b l h1 h2 h3
    have ep := prem_e (k := k) hc (show 0 ≤ i ∧ i < 3 by omega) hR hR.ht
    rw [cChF, zChF, hR.co i h1 (by omega)]
    have ec : (v ≤ wr (z (41 + 6 * i + 2)) ∧ (b = -1 ∨ wr (cPrem P c i k (P 0 1)) < wr l)) ↔ (v ≤ wr (z (41 + 6 * i + 2)) ∧ (b = -1 ∨ wr (zPrem z c i k (z 1)) < wr (zPrem z c b k (z 1)))) := by
      rw [ep]
      rcases h3 with h3 | ⟨h3, h4⟩
      · simp [h3]
      · rw [h4, prem_e (k := k) hc h3 hR hR.ht]
    by_cases q : v ≤ wr (z (41 + 6 * i + 2)) ∧ (b = -1 ∨ wr (zPrem z c i k (z 1)) < wr (zPrem z c b k (z 1)))
    · rw [if_pos (ec.mpr q), if_pos q]
      exact ih (i + 1) i _ (by omega) (by omega) (.inr ⟨by omega, rfl⟩)
    · rw [if_neg (fun w => q (ec.mp w)), if_neg q]
      exact ih (i + 1) b l (by omega) (by omega) h3
theorem q_g {P : Mem} {z : Z} {T B K : Int} (h : RR P z T B K) : ∀ (d : Nat) (c b f g : Int), 0 ≤ c → c + d = 64 → (b = -1 ∨ f = zDis z b 0 ∧ g = z (59 + 9 * b + 1)) → cGF P (cFr P) d c b f g = zGF z d c b := by
  intro d
  induction d with
  | zero => intro c b f g _ _ _; rfl
  | succ d ih =>
    intro c b f g h1 h2 h3
    have hc : 0 ≤ c ∧ c < 64 := by omega
    have hR := h.1
    have eb := hR.bit c hc.1 hc.2
    rw [cGF, zGF, q_dis0 hc hR, hR.sg c hc.1 hc.2, cCR_z hc h]
    have e1 : decide (wr (z (59 + 9 * c + 0)) = 1) = cOne P c := by
      rw [Int.add_zero, ← eb, wr_bI]
      cases cOne P c <;> simp [bI]
    rw [e1, Bool.and_comm]
    have ec : ((zCR z c && cOne P c) = true ∧ (b = -1 ∨ wr (zDis z c 0) < wr f ∨ wr (zDis z c 0) = wr f ∧ wr g < wr (z (59 + 9 * c + 1)))) ↔ ((zCR z c && cOne P c) = true ∧ (b = -1 ∨ zGen z c b = true)) := by
      rcases h3 with h3 | ⟨h3, h4⟩
      · simp [h3]
      · rw [h3, h4]; unfold zGen; rw [decide_eq_true_eq]
    by_cases q : (zCR z c && cOne P c) = true ∧ (b = -1 ∨ zGen z c b = true)
    · rw [if_pos (ec.mpr q), if_pos q]
      exact ih (c + 1) c _ _ (by omega) (by omega) (.inr ⟨rfl, rfl⟩)
    · rw [if_neg (fun w => q (ec.mp w)), if_neg q]
      exact ih (c + 1) b f g (by omega) (by omega) h3
theorem zDis_b (z : Z) (c w : Int) : 0 ≤ zDis z c w ∧ zDis z c w ≤ 64 := by
  have := cnt_b (fun e => zIs z w e && zLin c e && zWk z e) 64 0 0
  unfold zDis; omega
theorem q_rk {P : Mem} {z : Z} {T B K t : Int} (ht : 0 ≤ t ∧ t < 6) (h : RR P z T B K) : ∀ (d : Nat) (c b : Int), 0 ≤ c → c + d = 64 → 0 ≤ b → b ≤ 64 → cRkF P (cFr P &&& cLsF P t) d c b = zRkF z t d c b := by
  intro d
  induction d with
  | zero => intro c b _ _ _ _; rfl
  | succ d ih =>
    intro c b h1 h2 h3 h4
    have hc : 0 ≤ c ∧ c < 64 := by omega
    have hd := zDis_b z c (t + 2)
    rw [cRkF, zRkF, cCR_z hc h, q_dist hc ht h.1 h.2.2.2.2.1]
    unfold cMx
    cases q : zCR z c with
    | true =>
      rw [if_pos rfl, if_pos rfl]
      refine ih (c + 1) _ (by omega) (by omega) ?_ ?_
      · split <;> omega
      · split <;> omega
    | false =>
      have e0 : ¬ wr b < wr 0 := by rw [wr_id' (x := b) (by omega) (by omega), wr_id' (x := 0) (by omega) (by omega)]; omega
      simp only [Bool.false_eq_true, if_false]
      rw [if_neg e0]
      exact ih (c + 1) b (by omega) (by omega) h3 h4
theorem q_bk {P : Mem} {z : Z} {T B K : Int} (h : RR P z T B K) : cBk P = zBk z ∧ shOk (cBk P) := by
  obtain ⟨hR, hQ, hD, hV, hW, hI⟩ := h
  have e9 := hR.ta 9 (by decide) (by decide)
  have e10 := hR.ta 10 (by decide) (by decide)
  rw [show (9 - 4 : Int) = 5 by decide] at e9
  rw [show (10 - 4 : Int) = 6 by decide] at e10
  have bk := hI.bk
  have sB := hI.sB
  have ow := zOw_b z
  have e : cBk P = zBk z := by unfold cBk zBk; rw [e9, e10]
  refine ⟨e, ?_⟩
  rw [e]
  unfold zBk
  have w5 : wr (z 5) = z 5 := wr_id' (by omega) (by omega)
  have w6 : wr (z 6) = z 6 := wr_id' (by omega) (by omega)
  by_cases q : wr (z 5) = 0
  · rw [if_pos q]; exact .inl rfl
  · rw [if_neg q]
    have j5 : (jI (z 5)).toInt = z 5 := w5
    have j6 : (jI (z 6)).toInt = z 6 := w6
    exact sh_div (by rw [j6]; omega) (by rw [j5, j6]; omega) (by rw [j5]; omega)

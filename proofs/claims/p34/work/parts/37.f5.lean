/-! plain mathematics: a lost bit -/
theorem zLo_fr2 {z : Z} {K c : Int} (hc : 0 ≤ c ∧ c < 64) (h : WI z K) {j : Int} (hj : j < 23 ∨ 59 ≤ j ∧ j < 635 ∧ ¬ j = 59 + 9 * c + 4 ∧ ¬ j = 59 + 9 * c + 5 ∧ ¬ j = 59 + 9 * c + 8) : zLo z c j = z j := by
  have w1 := WI_1 hc h
  have r1 := w1.2.2.2.1 c hc.1 hc.2
  have e1 : zL1 z c j = z j := u1_ne (by omega)
  unfold zLo
  split
  · rename_i hl
    have hl := (zLs_p r1.1).mp hl
    have w2 := WI_2 hc hl w1
    have r2 := w2.2.2.2.1 c hc.1 hc.2
    have e2 : zL2 (zL1 z c) c j = z j := by rw [zL2, u1_ne (by omega)]; exact e1
    split
    · exact e2
    · have hi : 0 ≤ zL2 (zL1 z c) c (59 + 9 * c + 4) - 1 ∧ zL2 (zL1 z c) c (59 + 9 * c + 4) - 1 < 3 := ⟨by omega, by omega⟩
      have w3 := WI_3 (t := zL1 z c (59 + 9 * c + 2) - 1) hc rfl hi ⟨by omega, by omega⟩ w2
      have wt2 := WI_wt w2 hi
      have wt3 := WI_wt w3 hi
      rw [(zPay_fr hi wt3 w3.2.2.1).1 j (by omega) (by omega) (by omega)]
      have e4 : u1 (u1 (zL2 (zL1 z c) c) (59 + 9 * c + 4) 0) (59 + 9 * c + 5) 0 (41 + 6 * (zL2 (zL1 z c) c (59 + 9 * c + 4) - 1) + 5) = zL2 (zL1 z c) c (41 + 6 * (zL2 (zL1 z c) c (59 + 9 * c + 4) - 1) + 5) := by rw [u1_ne (by omega), u1_ne (by omega)]
      simp only [zL3]
      rw [e4, u1_ne (by omega), u1_ne (by omega), u1_ne (by omega), u1_ne (by omega)]
      exact e2
  · exact e1
theorem zLo_4 {z : Z} {K c : Int} (hc : 0 ≤ c ∧ c < 64) (h : WI z K) : zLo z c (59 + 9 * c + 4) = 0 ∨ zLo z c (59 + 9 * c + 4) = z (59 + 9 * c + 4) ∧ zLo z c (59 + 9 * c + 5) = z (59 + 9 * c + 5) := by
  have w1 := WI_1 hc h
  have r1 := w1.2.2.2.1 c hc.1 hc.2
  have e1 : zL1 z c (59 + 9 * c + 4) = z (59 + 9 * c + 4) := u1_ne (by omega)
  have e1' : zL1 z c (59 + 9 * c + 5) = z (59 + 9 * c + 5) := u1_ne (by omega)
  unfold zLo
  split
  · rename_i hl
    have hl := (zLs_p r1.1).mp hl
    have w2 := WI_2 hc hl w1
    have r2 := w2.2.2.2.1 c hc.1 hc.2
    have e2 : zL2 (zL1 z c) c (59 + 9 * c + 4) = z (59 + 9 * c + 4) := by rw [zL2, u1_ne (by omega)]; exact e1
    have e2' : zL2 (zL1 z c) c (59 + 9 * c + 5) = z (59 + 9 * c + 5) := by rw [zL2, u1_ne (by omega)]; exact e1'
    split
    · exact .inr ⟨e2, e2'⟩
    · left
      have hi : 0 ≤ zL2 (zL1 z c) c (59 + 9 * c + 4) - 1 ∧ zL2 (zL1 z c) c (59 + 9 * c + 4) - 1 < 3 := ⟨by omega, by omega⟩
      have w3 := WI_3 (t := zL1 z c (59 + 9 * c + 2) - 1) hc rfl hi ⟨by omega, by omega⟩ w2
      have wt2 := WI_wt w2 hi
      have wt3 := WI_wt w3 hi
      rw [(zPay_fr hi wt3 w3.2.2.1).1 _ (by omega) (by omega) (by omega)]
      have e4 : u1 (u1 (zL2 (zL1 z c) c) (59 + 9 * c + 4) 0) (59 + 9 * c + 5) 0 (41 + 6 * (zL2 (zL1 z c) c (59 + 9 * c + 4) - 1) + 5) = zL2 (zL1 z c) c (41 + 6 * (zL2 (zL1 z c) c (59 + 9 * c + 4) - 1) + 5) := by rw [u1_ne (by omega), u1_ne (by omega)]
      simp only [zL3]
      rw [e4, u1_ne (by omega), u1_ne (by omega), u1_ne (by omega), u1_at]
  · exact .inr ⟨e1, e1'⟩
theorem clm_total : ∀ (l : List Int), (∀ x, x ∈ l → 0 ≤ x ∧ x < 18) → l.length = (clm 0 l).length + (clm 1 l).length + (clm 2 l).length := by
  intro l
  induction l with
  | nil => intro _; rfl
  | cons x l ih =>
    intro h
    have h1 := ih (fun y hy => h y (List.mem_cons_of_mem _ hy))
    have h2 := h x List.mem_cons_self
    have h3 : x / 6 = 0 ∨ x / 6 = 1 ∨ x / 6 = 2 := by omega
    rcases h3 with h3 | h3 | h3
    · rw [clm_t h3, clm_f (i := 1) (by omega), clm_f (i := 2) (by omega)]; simp only [List.length_cons]; omega
    · rw [clm_t h3, clm_f (i := 0) (by omega), clm_f (i := 2) (by omega)]; simp only [List.length_cons]; omega
    · rw [clm_t h3, clm_f (i := 0) (by omega), clm_f (i := 1) (by omega)]; simp only [List.length_cons]; omega
theorem RQ_total {P : Mem} {z : Z} (hV : CV P) (h : RQ P z) (hW : HW z) : P 0 10 = z 46 + z 52 + z 58 := by
  obtain ⟨⟨w0, w1⟩, w2⟩ := hV.2.2.1
  have t := clm_total (seg (P 23) 0 (P 0 10).toNat) (fun x hx => by
    obtain ⟨j, j1, j2, j3⟩ := (seg_mem _ _).mp hx
    have := w2 j j1 (by omega)
    omega)
  rw [seg_len, h 0 (by decide) (by decide), h 1 (by decide) (by decide), h 2 (by decide) (by decide), qu_len, qu_len, qu_len] at t
  have a := hW 0 (by decide) (by decide)
  have b := hW 1 (by decide) (by decide)
  have c := hW 2 (by decide) (by decide)
  simp only [show (41 + 6 * 0 + 5 : Int) = 46 by decide, show (41 + 6 * 1 + 5 : Int) = 52 by decide, show (41 + 6 * 2 + 5 : Int) = 58 by decide] at t a b c
  omega
theorem cnt_pos {p : Int → Bool} {k : Int} (hp : p k = true) : ∀ (d : Nat) (c n : Int), c ≤ k → k < c + d → n + 1 ≤ cntF p d c n := by
  intro d
  induction d with
  | zero => intro c n h1 h2; omega
  | succ d ih =>
    intro c n h1 h2
    rw [cntF]
    by_cases q : c = k
    · subst q
      have := (cnt_b p d (c + 1) (n + bI (p c))).1
      rw [hp] at this ⊢
      simp only [bI] at this ⊢
      simpa using this
    · have := ih (c + 1) (n + bI (p c)) (by omega) (by omega)
      have := bI_01 (p c)
      omega
theorem RQ_enC {P : Mem} {z : Z} {i t : Int} (hi : 0 ≤ i ∧ i < 3) (ht : 0 ≤ t ∧ t < 6) (h : RQ P z) (hW : HW z) (hw : 0 ≤ P 0 10 ∧ P 0 10 < 512) (hwi : z (41 + 6 * i + 5) < 512) : RQ (cEnC P i t) (u1 (u1 z (635 + 520 * i + z (41 + 6 * i + 5)) t) (41 + 6 * i + 5) (z (41 + 6 * i + 5) + 1)) := by
  intro e a b
  have h5 := hW i hi.1 hi.2
  have h6 := hW e a b
  unfold cEnC
  rw [if_neg (by omega)]
  rw [up_at, show (P 0 10 + 1).toNat = (P 0 10).toNat + 1 by omega, seg_app, show (0 : Int) + ((P 0 10).toNat : Int) = P 0 10 by omega, up_ne (by omega), up_at]
  have e1 : seg (up (up P 23 (P 0 10) (i * 6 + t)) 0 10 (P 0 10 + 1) 23) 0 (P 0 10).toNat = seg (P 23) 0 (P 0 10).toNat := seg_cg _ _ (fun j j1 j2 => by rw [up_ne (by omega), up_ne (by omega)])
  rw [e1, clm_app, h e a b]
  unfold qu
  by_cases q : e = i
  · subst q
    rw [u1_at, show (z (41 + 6 * e + 5) + 1).toNat = (z (41 + 6 * e + 5)).toNat + 1 by omega, seg_app, show (635 + 520 * e : Int) + ((z (41 + 6 * e + 5)).toNat : Int) = 635 + 520 * e + z (41 + 6 * e + 5) by omega, u1_ne (by omega), u1_at, clm_t (by omega), show (e * 6 + t) % 6 = t by omega]
    congr 1
    exact seg_cg _ _ (fun j j1 j2 => by rw [u1_ne (by omega), u1_ne (by omega)])
  · rw [clm_f (by omega), u1_ne (by omega), u1_ne (by omega)]
    show _ ++ [] = _
    rw [List.append_nil]
    exact seg_cg _ _ (fun j j1 j2 => by rw [u1_ne (by omega), u1_ne (by omega)])
def zLz (z : Z) (c w : Int) : Z := u1 (u1 z (59 + 9 * c) 0) (w - 4) (z (w - 4) + 1)
theorem RC_loA {P : Mem} {z : Z} {dl : Int → Int} {c w : Int} (hc : 0 ≤ c ∧ c < 64) (hw : 8 ≤ w ∧ w < 16) (h : RC P z dl) : RC (cLoA P c w) (zL1 (zLz z c w) c) dl := by
  have e1 := h.ls c hc.1 hc.2
  have e2 := h.ta w hw.1 hw.2
  refine RC_cg (RC_tally (w := w) (v := P 2 w + 1) (RC_lost (c := c) (v := P 9 c + 1) (RC_bit (b := false) (c := c) h hc) hc) hw) rfl ?_
  rw [e1, e2]
  unfold zL1 zLz
  funext j
  simp only [u1_e, bI]
  grind
/-- what of the row's ranges a lost bit needs -/
def IL (z : Z) : Prop := ∀ c, 0 ≤ c → c < 64 → z (59 + 9 * c + 2) ≤ z 2 ∧ z (59 + 9 * c + 4) ≤ z 3
theorem R_lo {P : Mem} {z : Z} {dl : Int → Int} {K c w : Int} (hc : 0 ≤ c ∧ c < 64) (hw : w = 11 ∨ w = 12 ∨ w = 13) (h : RC P z dl) (hq : RQ P z) (hV : CV P) (hW : WI z K) (hL : IL z) : RC (cLo P c w) (zLo (zLz z c w) c) dl ∧ RQ (cLo P c w) (zLo (zLz z c w) c) := by
  have hA := RC_loA hc (show 8 ≤ w ∧ w < 16 by omega) h
  have wz : WI (zLz z c w) K := WI_u1 (by unfold NW; omega) (WI_u1 (by unfold NW; omega) hW)
  have w1 := WI_1 hc wz
  have r1 := w1.2.2.2.1 c hc.1 hc.2
  have vA := CV_loA (c := c) (w := w) hV
  have qA : RQ (cLoA P c w) (zL1 (zLz z c w) c) := RQ_cg hq (by funext x; exact cLoA_o (by omega)) (cLoA_o (by omega)) (fun j hj => by unfold zL1 zLz; rw [u1_ne (by omega), u1_ne (by omega), u1_ne (by omega)])
  have l1 : zL1 (zLz z c w) c (59 + 9 * c + 2) = z (59 + 9 * c + 2) := by unfold zL1 zLz; rw [u1_ne (by omega), u1_ne (by omega), u1_ne (by omega)]
  have l2 : zL1 (zLz z c w) c (59 + 9 * c + 4) = z (59 + 9 * c + 4) := by unfold zL1 zLz; rw [u1_ne (by omega), u1_ne (by omega), u1_ne (by omega)]
  have l3 : zL1 (zLz z c w) c 2 = z 2 := by unfold zL1 zLz; rw [u1_ne (by omega), u1_ne (by omega), u1_ne (by omega)]
  have l4 : zL1 (zLz z c w) c 3 = z 3 := by unfold zL1 zLz; rw [u1_ne (by omega), u1_ne (by omega), u1_ne (by omega)]
  have hl := hL c hc.1 hc.2
  have a5 := hA.wh c hc.1 hc.2
  have a7 := hA.by_ c hc.1 hc.2
  have a13 := hA.tn
  have a17 := hA.im
  unfold cLo zLo
  generalize cLoA P c w = P1 at *
  generalize zL1 (zLz z c w) c = y at *
  have r2 := r1.1
  have r3 := r1.2
  by_cases hl2 : 0 < y (59 + 9 * c + 2)
  · rw [if_pos (wi_t ⟨by omega, by omega⟩), if_pos ((zLs_p r2).mpr hl2)]
    have ht : 0 ≤ P1 5 c ∧ P1 5 c < 6 := by omega
    have et : y (59 + 9 * c + 2) - 1 = P1 5 c := by omega
    have eB : RC (cLoB P1 (P1 5 c)) (zL2 y c) dl := by
      have e := hA.tl (P1 5 c) ht.1 ht.2
      refine RC_cg (RC_tl (t := P1 5 c) (v := P1 15 (P1 5 c) + 1) hA ht) rfl ?_
      unfold zL2
      rw [et, e]
    have w2 := WI_2 hc hl2 w1
    have qB : RQ (cLoB P1 (P1 5 c)) (zL2 y c) := RQ_cg qA (by funext x; exact cLoB_o (by omega)) (cLoB_o (by omega)) (fun j hj => by unfold zL2; rw [u1_ne (by omega)])
    have vB : CV (cLoB P1 (P1 5 c)) := CV_up (by unfold NV; omega) vA
    have b7 : cLoB P1 (P1 5 c) 7 c = P1 7 c := cLoB_o (by omega)
    have b17 : cLoB P1 (P1 5 c) 17 0 = P1 17 0 := cLoB_o (by omega)
    have y4 : zL2 y c (59 + 9 * c + 4) = y (59 + 9 * c + 4) := by unfold zL2; rw [u1_ne (by omega)]
    rw [b7, b17, y4]
    by_cases hb : y (59 + 9 * c + 4) = 0
    · rw [if_neg (by rw [wi_f (by omega)]; decide), if_pos (by omega)]
      exact ⟨eB, qB⟩
    · have hi : 0 ≤ P1 7 c ∧ P1 7 c < 3 := by omega
      rw [if_pos (wi_t ⟨by omega, by omega⟩), if_neg (by omega)]
      rw [show y (59 + 9 * c + 4) - 1 = P1 7 c by omega, et]
      have hi2 : P1 7 c = zL2 y c (59 + 9 * c + 4) - 1 := by omega
      have w3 : WI (zL3 (zL2 y c) c (P1 7 c) (P1 5 c)) K := WI_3 hc hi2 hi ht w2
      generalize P1 7 c = i at *
      generalize P1 5 c = t at *
      generalize cLoB P1 t = P2 at *
      generalize hx : zL2 y c = x at *
      have hX := WI_HW w2
      have tot := RQ_total vB qB hX
      have cw : 1 ≤ zCW x 4 := by
        have := cnt_pos (p := fun c => decide (0 < wr (x (59 + 9 * c + 4)))) (k := c) (decide_eq_true (by rw [wr_id' (by omega) (by omega)]; omega)) 64 0 0 (by omega) (by omega)
        unfold zCW; omega
      have wk := w2.2.2.2.2.2
      have wp := w2.2.2.2.2.1
      have h23 := vB.2.2.1.1
      have hP : 0 ≤ P2 0 10 ∧ P2 0 10 < 512 := by omega
      have hwi : x (41 + 6 * i + 5) < 512 := by
        have e : i = 0 ∨ i = 1 ∨ i = 2 := by omega
        rcases e with rfl | rfl | rfl <;> simp <;> omega
      have eE : RC (cEp P2 c) (u1 x (59 + 9 * c + 4) 0) dl := RC_endp eB hc
      have eF : RC (cEp P2 c) (u1 (u1 x (59 + 9 * c + 4) 0) (59 + 9 * c + 5) 0) dl := RC_zo eE (by unfold ZO; rw [show (59 + 9 * c + 5 - 1 : Int) = 59 + 9 * c + 4 by omega, u1_at]; omega)
      have qF : RQ (cEp P2 c) (u1 (u1 x (59 + 9 * c + 4) 0) (59 + 9 * c + 5) 0) := RQ_cg qB (by funext k; exact up_ne (by omega)) (up_ne (by omega)) (fun j hj => by rw [u1_ne (by omega), u1_ne (by omega)])
      have f5 : ∀ e, 0 ≤ e → e < 3 → u1 (u1 x (59 + 9 * c + 4) 0) (59 + 9 * c + 5) 0 (41 + 6 * e + 5) = x (41 + 6 * e + 5) := fun e a b => by rw [u1_ne (by omega), u1_ne (by omega)]
      have c10 : cEp P2 c 0 10 = P2 0 10 := up_ne (by omega)
      have qG := RQ_enC hi ht qF (fun e a b => by rw [f5 e a b]; exact hX e a b) (by rw [c10]; exact hP) (by rw [f5 i hi.1 hi.2]; exact hwi)
      have eG : RC (cEnC (cEp P2 c) i t) (zL3 x c i t) dl := by
        have e5 := f5 i hi.1 hi.2
        unfold cEnC
        rw [if_neg (by rw [c10]; omega)]
        refine RC_po1 (RC_po1 ?_ (by omega)) (by omega)
        unfold zL3
        simp only []
        rw [e5]
        have x5 := hX i hi.1 hi.2
        exact RC_zo (RC_zo eF (by unfold ZO; omega)) (by unfold ZO; omega)
      have z3 : zL3 x c i t = u1 (u1 (u1 (u1 x (59 + 9 * c + 4) 0) (59 + 9 * c + 5) 0) (635 + 520 * i + (u1 (u1 x (59 + 9 * c + 4) 0) (59 + 9 * c + 5) 0) (41 + 6 * i + 5)) t) (41 + 6 * i + 5) ((u1 (u1 x (59 + 9 * c + 4) 0) (59 + 9 * c + 5) 0) (41 + 6 * i + 5) + 1) := by
        unfold zL3
        simp only []
        have x5 := hX i hi.1 hi.2
        have e5 := f5 i hi.1 hi.2
        rw [e5, u1_ne (by omega), e5]
      rw [← z3] at qG
      exact R_pay hi eG qG (CV_enC hi ht (CV_7 (by omega) vB)) w3.2.2.1 (WI_HW w3)
  · rw [if_neg (by rw [wi_f (by omega)]; decide), if_neg (fun q => hl2 ((zLs_p r2).mp q))]
    exact ⟨hA, qA⟩

/-! plain mathematics: writing, reading, bringing back -/
theorem cnt_upd {p q : Int → Bool} {k : Int} (h : ∀ e, ¬ e = k → q e = p e) : ∀ (d : Nat) (c n m : Int), cntF q d c n + (if c ≤ k ∧ k < c + d then bI (p k) else 0) + m = cntF p d c m + (if c ≤ k ∧ k < c + d then bI (q k) else 0) + n := by
  intro d
  induction d with
  | zero => intro c n m; simp only [cntF]; rw [if_neg (by omega), if_neg (by omega)]; omega
  | succ d ih =>
    intro c n m
    rw [cntF, cntF]
    have i := ih (c + 1) (n + bI (q c)) (m + bI (p c))
    by_cases e : c = k
    · subst e
      rw [if_neg (by omega), if_neg (by omega)] at i
      rw [if_pos (by omega), if_pos (by omega)]
      omega
    · rw [h c e] at i
      rw [h c e]
      by_cases r : c ≤ k ∧ k < c + ((d + 1 : Nat) : Int)
      · rw [if_pos (by omega), if_pos (by omega)] at i
        rw [if_pos r, if_pos r]; omega
      · rw [if_neg (by omega), if_neg (by omega)] at i
        rw [if_neg r, if_neg r]; omega
theorem bI_tt : bI true = 1 := rfl
theorem bI_ff : bI false = 0 := rfl
theorem zOwN_upd {z y : Z} {c : Int} (hc : 0 ≤ c ∧ c < 64) (h : ∀ e, ¬ e = c → zOw y e = zOw z e) : zOwN y + bI (zOw z c) = zOwN z + bI (zOw y c) := by
  have := cnt_upd (p := zOw z) (q := zOw y) (k := c) h 64 0 0 0
  rw [if_pos (by omega), if_pos (by omega)] at this
  unfold zOwN; omega
theorem IZ_gen {z y : Z} {T B : Int} (h : IZ z T B) (h1 : ∀ j, j = 0 ∨ j = 2 ∨ j = 3 ∨ j = 14 ∨ (15 ≤ j ∧ j < 23) → y j = z j) (h0 : 0 ≤ y 1 ∧ y 1 ≤ 100) (hb : 0 ≤ y 6 ∧ y 6 + zOwN y ≤ y 5 ∧ y 5 ≤ B)
    (hc : ∀ c, 0 ≤ c → c < 64 → (0 ≤ y (59 + 9 * c + 1) ∧ y (59 + 9 * c + 1) ≤ 100) ∧ y (59 + 9 * c + 2) = z (59 + 9 * c + 2) ∧ y (59 + 9 * c + 3) = z (59 + 9 * c + 3) ∧ (y (59 + 9 * c + 4) = 0 ∨ y (59 + 9 * c + 4) = z (59 + 9 * c + 4) ∧ y (59 + 9 * c + 5) = z (59 + 9 * c + 5)) ∧ (y (59 + 9 * c + 6) = z (59 + 9 * c + 6) ∨ y (59 + 9 * c + 6) = 0) ∧ y (59 + 9 * c + 7) = z (59 + 9 * c + 7) ∧ (0 < y (59 + 9 * c + 6) → z (59 + 9 * c) = 0 → y (59 + 9 * c) = 0)) : IZ y T B := by
  have f2 := h1 2 (by omega)
  have f3 := h1 3 (by omega)
  have f14 := h1 14 (by omega)
  refine ⟨by rw [h1 0 (by omega)]; exact h.t0, h.tT, h0, fun s a b => by rw [h1 _ (by omega)]; exact h.st s a b, fun c a b => (hc c a b).1, fun c a b => ?_, fun c a b k => ?_, fun c a b => ?_, fun c a b k => ?_, fun c a b => ?_, fun c a b k => ?_, fun a b p q r s k l m => ?_, by rw [f14]; exact h.sb, h.sB, hb⟩
  · have := h.wh c a b; have := (hc c a b); omega
  · have q := (hc c a b); rw [q.2.1] at k; have := h.le c a b k; omega
  · have := h.by_ c a b; have := hc c a b; omega
  · have q := hc c a b; have := h.po c a b; have := h.by_ c a b; omega
  · have := h.du c a b; have := hc c a b; omega
  · have q := hc c a b; have := h.ow c a b (by omega); have := q.2.2.2.2.2.2 k this.2.1; omega
  · have q1 := hc a p q; have q2 := hc b r s; exact h.ds a b p q r s (by omega) (by omega) (by omega)
/-- a plane and a row that stand for the same -/
def D0 : Int → Int := fun _ => 0
def RR (P : Mem) (z : Z) (T B K : Int) : Prop := RC P z D0 ∧ RQ P z ∧ RD P z ∧ CV P ∧ WI z K ∧ IZ z T B
theorem RD_pul {P : Mem} {z y : Z} {k h b K : Int} (hk : 0 ≤ k ∧ k < 64) (hW : WI y K) (hD : RD P z) (hy : ∀ c, 0 ≤ c → c < 64 → y (59 + 9 * c + 6) = z (59 + 9 * c + 6) ∧ y (59 + 9 * c + 7) = z (59 + 9 * c + 7)) : RD (cPul P k h) (zPul y k b) := by
  have e : ∀ a b, a = 10 ∨ a = 11 ∨ a = 12 → cPul P k h a b = P a b := fun a b q => cPul_o (by unfold UL; omega) (by omega) (by omega)
  refine RD_cg hD (e _ _ (by omega)) (funext fun x => e _ _ (by omega)) (fun c a b => e _ _ (by omega)) (fun c a b => ?_)
  rw [zPul_fr hk hW (by omega), zPul_fr hk hW (by omega)]
  exact hy c a b
theorem ho_e {P : Mem} {z : Z} {dl : Int → Int} {c : Int} (hc : 0 ≤ c ∧ c < 64) (h : RC P z dl) : cHo P c = decide (wr (z (15 + 4)) ≤ wr (z (59 + 9 * c + 1))) := by
  unfold cHo
  rw [h.st 4 (by decide) (by decide), h.sg c hc.1 hc.2]
theorem R_wb {P : Mem} {z : Z} {T B K c : Int} {b : Bool} (hc : 0 ≤ c ∧ c < 64) (h : RR P z T B K) : RR (cWb P c b) (zWr z c (bI b)) T B K := by
  obtain ⟨hR, hQ, hD, hV, hW, hI⟩ := h
  have hs := hI.st 1 (by decide) (by decide)
  obtain ⟨r1, r2, r3⟩ := R_pul (K := K) (b := z (15 + 1)) hc (hR.st 1 (by decide) (by decide)) (by omega) hR hQ hV hW hI
  have w1 : WI (zPul z c (z (15 + 1))) K := WI_pul hc hW
  have v1 : CV (cPul P c (P 1 1)) := CV_pul hV
  have d1 : RD (cPul P c (P 1 1)) (zPul z c (z (15 + 1))) := RD_pul hc hW hD (fun _ _ _ => ⟨rfl, rfl⟩)
  suffices hS : RC (cWb P c b) (zWr z c (bI b)) D0 ∧ RQ (cWb P c b) (zWr z c (bI b)) ∧ RD (cWb P c b) (zWr z c (bI b)) ∧ IZ (zWr z c (bI b)) T B from ⟨hS.1, hS.2.1, hS.2.2.1, CV_wb hV, WI_wr hc hW, hS.2.2.2⟩
  unfold cWb zWr cWbA at *
  generalize cPul P c (P 1 1) = Q at *
  generalize zPul z c (z (15 + 1)) = x at *
  have eb : (if wr (x (59 + 9 * c + 1)) < wr (x (15 + 4)) then 0 else bI b) = bI (b && cHo Q c) := by
    rw [ho_e hc r1]
    by_cases q : wr (x (59 + 9 * c + 1)) < wr (x (15 + 4))
    · rw [if_pos q, decide_eq_false (by omega)]; simp [bI]
    · rw [if_neg q, decide_eq_true (by omega)]; simp
  have eW : zWr2 x c (bI b) = u1 x (59 + 9 * c) (bI (b && cHo Q c)) := by unfold zWr2; rw [eb, Int.add_zero]
  rw [eW] at *
  generalize (b && cHo Q c) = b' at *
  have R2 : RC (cPut Q c b') (u1 x (59 + 9 * c) (bI b')) D0 := RC_bit r1 hc
  have Q2 : RQ (cPut Q c b') (u1 x (59 + 9 * c) (bI b')) := RQ_cg r2 (by funext x; exact up_ne (by omega)) (up_ne (by omega)) (fun j hj => u1_ne (by omega))
  have D2 : RD (cPut Q c b') (u1 x (59 + 9 * c) (bI b')) := RD_cg d1 (up_ne (by omega)) (funext fun x => up_ne (by omega)) (fun _ _ _ => up_ne (by omega)) (fun e a b => ⟨u1_ne (by omega), u1_ne (by omega)⟩)
  have o1 : cOw (cPut Q c b') c = cOw Q c := rfl
  have o2 : zOw (u1 x (59 + 9 * c) (bI b')) c = zOw x c := by unfold zOw; rw [u1_ne (by omega)]
  have v2 : CV (cPut Q c b') := CV_put v1
  unfold zWr3 at *
  rw [o1] at *
  rw [o2] at *
  by_cases q : zOw x c = true
  · have q1 := (zOw_e hc r3).mp q
    have q2 : cOw Q c = true := (cOw_e hc d1 r3).mpr q1
    rw [if_pos q, if_pos q2] at *
    have R3 : RC (cStr (cPut Q c b') c) (u1 (u1 x (59 + 9 * c) (bI b')) (59 + 9 * c + 6) 0) D0 := RC_zo (RC_str' R2) (by unfold ZO; omega)
    have I2 : IZ (u1 (u1 (u1 x (59 + 9 * c) (bI b')) (59 + 9 * c + 6) 0) 10 (u1 (u1 x (59 + 9 * c) (bI b')) (59 + 9 * c + 6) 0 10 + 1)) T B := by
      have hz : zOwN (u1 (u1 (u1 x (59 + 9 * c) (bI b')) (59 + 9 * c + 6) 0) 10 (u1 (u1 x (59 + 9 * c) (bI b')) (59 + 9 * c + 6) 0 10 + 1)) ≤ zOwN x := by
        have := zOwN_upd (z := x) (y := u1 (u1 (u1 x (59 + 9 * c) (bI b')) (59 + 9 * c + 6) 0) 10 (u1 (u1 x (59 + 9 * c) (bI b')) (59 + 9 * c + 6) 0 10 + 1)) hc (fun e he => by unfold zOw; rw [u1_ne (by omega), u1_ne (by omega), u1_ne (by omega)])
        rw [q, show zOw (u1 (u1 (u1 x (59 + 9 * c) (bI b')) (59 + 9 * c + 6) 0) 10 (u1 (u1 x (59 + 9 * c) (bI b')) (59 + 9 * c + 6) 0 10 + 1)) c = false from by unfold zOw; rw [u1_ne (by omega), u1_at]; rfl] at this
        rw [bI_tt, bI_ff] at this
        omega
      refine IZ_gen r3 (fun j hj => by rw [u1_ne (by omega), u1_ne (by omega), u1_ne (by omega)]) (by rw [u1_ne (by omega), u1_ne (by omega), u1_ne (by omega)]; exact r3.ht) ?_ (fun e a b => ⟨?_, ?_, ?_, .inr ⟨?_, ?_⟩, ?_, ?_, ?_⟩)
      · have hk := r3.bk
        refine ⟨?_, ?_, ?_⟩
        · rw [u1_ne (by omega), u1_ne (by omega), u1_ne (by omega)]; exact hk.1
        · rw [show u1 (u1 (u1 x (59 + 9 * c) (bI b')) (59 + 9 * c + 6) 0) 10 (u1 (u1 x (59 + 9 * c) (bI b')) (59 + 9 * c + 6) 0 10 + 1) 6 = x 6 by rw [u1_ne (by omega), u1_ne (by omega), u1_ne (by omega)], show u1 (u1 (u1 x (59 + 9 * c) (bI b')) (59 + 9 * c + 6) 0) 10 (u1 (u1 x (59 + 9 * c) (bI b')) (59 + 9 * c + 6) 0 10 + 1) 5 = x 5 by rw [u1_ne (by omega), u1_ne (by omega), u1_ne (by omega)]]
          omega
        · rw [u1_ne (by omega), u1_ne (by omega), u1_ne (by omega)]; exact hk.2.2
      · rw [u1_ne (by omega), u1_ne (by omega), u1_ne (by omega)]; exact r3.sg e a b
      · rw [u1_ne (by omega), u1_ne (by omega), u1_ne (by omega)]
      · rw [u1_ne (by omega), u1_ne (by omega), u1_ne (by omega)]
      · rw [u1_ne (by omega), u1_ne (by omega), u1_ne (by omega)]
      · rw [u1_ne (by omega), u1_ne (by omega), u1_ne (by omega)]
      · by_cases f : e = c
        · subst f; right; rw [u1_ne (by omega), u1_at]
        · left; rw [u1_ne (by omega), u1_ne (by omega), u1_ne (by omega)]
      · rw [u1_ne (by omega), u1_ne (by omega), u1_ne (by omega)]
      · intro k1 k2
        by_cases f : e = c
        · subst f; rw [u1_ne (by omega), u1_at] at k1; omega
        · rw [u1_ne (by omega), u1_ne (by omega), u1_ne (by omega)]; exact k2
    refine ⟨?_, ?_, ?_, I2⟩
    · have e1 := R3.ta 14 (by decide) (by decide)
      rw [show (14 - 4 : Int) = 10 by decide] at e1
      rw [e1]
      exact RC_tally (w := 14) R3 (by omega)
    · exact RQ_cg Q2 (by funext j; rw [up_ne (by omega), cStr_o (by omega)]) (by rw [up_ne (by omega), cStr_o (by omega)]) (fun j hj => by rw [u1_ne (by omega), u1_ne (by omega)])
    · have := RD_str (P := cPut Q c b') (z := x) (y := u1 (u1 (u1 x (59 + 9 * c) (bI b')) (59 + 9 * c + 6) 0) 10 (u1 (u1 x (59 + 9 * c) (bI b')) (59 + 9 * c + 6) 0 10 + 1)) hc (RD_cg d1 (up_ne (by omega)) (funext fun x => up_ne (by omega)) (fun _ _ _ => up_ne (by omega)) (fun e a b => ⟨rfl, rfl⟩)) r3 v2 (fun e a b => by
        refine ⟨?_, by rw [u1_ne (by omega), u1_ne (by omega), u1_ne (by omega)]⟩
        by_cases f : e = c
        · subst f; rw [u1_ne (by omega), u1_at, if_pos rfl]
        · rw [u1_ne (by omega), u1_ne (by omega), u1_ne (by omega), if_neg f])
      exact RD_cg this (up_ne (by omega)) (funext fun x => up_ne (by omega)) (fun _ _ _ => up_ne (by omega)) (fun _ _ _ => ⟨rfl, rfl⟩)
  · have q1 : ¬ 0 < x (59 + 9 * c + 6) := fun w => q ((zOw_e hc r3).mpr w)
    have q2 : ¬ cOw Q c = true := fun w => q1 ((cOw_e hc d1 r3).mp w)
    rw [if_neg q, if_neg q2] at *
    have hn : zOwN (u1 x (59 + 9 * c) (bI b')) = zOwN x := cnt_cg 64 0 0 (fun e a b => by unfold zOw; rw [u1_ne (by omega)])
    refine ⟨R2, Q2, D2, IZ_gen r3 (fun j hj => u1_ne (by omega)) (by rw [u1_ne (by omega)]; exact r3.ht) (by rw [hn, u1_ne (by omega), u1_ne (by omega)]; exact r3.bk) (fun e a b => ⟨by rw [u1_ne (by omega)]; exact r3.sg e a b, u1_ne (by omega), u1_ne (by omega), .inr ⟨u1_ne (by omega), u1_ne (by omega)⟩, .inl (u1_ne (by omega)), u1_ne (by omega), fun k1 k2 => ?_⟩)⟩
    rw [u1_ne (by omega)] at k1
    by_cases f : e = c
    · subst f; exact (q1 k1).elim
    · rw [u1_ne (by omega)]; exact k2

/-! plain mathematics: a whole tick -/
theorem cHp_e {P : Mem} {z : Z} {dl : Int → Int} {K c : Int} (hc : 0 ≤ c ∧ c < 64) (h : RC P z dl) (hW : WI z K) : cHp P c = true ↔ 0 < z (59 + 9 * c + 4) := by
  have h1 := h.by_ c hc.1 hc.2
  have h2 := hW.2.2.2.1 c hc.1 hc.2
  unfold cHp
  rw [wr_id' (by omega) (by omega), decide_eq_true_eq]
  omega
theorem cLs_e {P : Mem} {z : Z} {dl : Int → Int} {K c : Int} (hc : 0 ≤ c ∧ c < 64) (h : RC P z dl) (hW : WI z K) : cLs P c = true ↔ 0 < z (59 + 9 * c + 2) := by
  have h1 := h.wh c hc.1 hc.2
  have h2 := hW.2.2.2.1 c hc.1 hc.2
  unfold cLs
  rw [wr_id' (by omega) (by omega), decide_eq_true_eq]
  omega
theorem R_tc {P : Mem} {z : Z} {dl : Int → Int} {T B K c : Int} (hc : 0 ≤ c ∧ c < 64) (hdl : dl c = 1) (hR : RC P z dl) (hQ : RQ P z) (hD : RD P z) (hV : CV P) (hW : WI z K) (hI : IZ z T B) :
    RC (cTcB (cTcA P c) c) (zEl (zEp z c) c) (fun e => if e = c then 0 else dl e) ∧ RQ (cTcB (cTcA P c) c) (zEl (zEp z c) c) ∧ RD (cTcB (cTcA P c) c) (zEl (zEp z c) c) ∧ IZ (zEl (zEp z c) c) T B := by
  have hwc := hW.2.2.2.1 c hc.1 hc.2
  obtain ⟨p4, p5⟩ := zEp_v hc hI hW
  have pne : ∀ j, ¬ j = 59 + 9 * c + 4 ∧ ¬ j = 59 + 9 * c + 5 → zEp z c j = z j := fun j h => zEp_ne h
  obtain ⟨l2, l3, l6, l11⟩ := zEl_v (T := T) (B := B) (K := K) (z := zEp z c) hc (by rw [pne _ (by omega), pne _ (by omega)]; exact hI.le c hc.1 hc.2) (by rw [pne _ (by omega)]; exact hwc.1)
  have l4 : zEl (zEp z c) c (59 + 9 * c + 4) = zEp z c (59 + 9 * c + 4) := zEl_ne (by omega)
  have l5 : zEl (zEp z c) c (59 + 9 * c + 5) = zEp z c (59 + 9 * c + 5) := zEl_ne (by omega)
  rw [pne (59 + 9 * c + 2) (by omega), pne (59 + 9 * c + 3) (by omega)] at l2 l3 l6 l11
  rw [pne (59 + 9 * c + 6) (by omega)] at l6
  rw [pne 11 (by omega), show zOw (zEp z c) c = zOw z c from by unfold zOw; rw [pne _ (by omega)]] at l11
  rw [p4] at l4
  rw [p5] at l5
  have hy : ∀ j, ¬ (59 + 9 * c + 2 ≤ j ∧ j ≤ 59 + 9 * c + 6) → ¬ j = 11 → zEl (zEp z c) c j = z j := fun j a b => zFuc_ne a b
  generalize zEl (zEp z c) c = y at *
  have II := IZ_tc hc hI hy l2 l3 l4 l5 l6
  have a5 := hR.wh c hc.1 hc.2
  have a7 := hR.by_ c hc.1 hc.2
  have a6 := hR.le c hc.1 hc.2
  have a8 := hR.po c hc.1 hc.2
  have i3 := hI.le c hc.1 hc.2
  have i5 := hI.po c hc.1 hc.2
  have it := hI.t0
  have iT := hI.tT
  have t0 := hR.t0
  have a15 := hR.ta 15 (by decide) (by decide)
  rw [show (15 - 4 : Int) = 11 by decide] at a15
  rw [hdl] at a6 a8
  have eH := cHp_e hc hR hW
  have eL := cLs_e hc hR hW
  -- the policy
  have e7 : cTcA P c 7 c + 1 = (if 0 < z (59 + 9 * c + 4) ∧ z (59 + 9 * c + 5) = 1 then 0 else z (59 + 9 * c + 4)) ∧ (∀ (a : Nat) (b : Int), ¬ (a = 7 ∧ b = c) → cTcA P c a b = P a b) := by
    unfold cTcA
    by_cases q : 0 < z (59 + 9 * c + 4)
    · have p := i5 q
      have l := i3 p.1
      have w := a8 q
      rw [wr_id' (x := P 8 c) (by omega) (by omega), wr_id' (x := P 0 0) (by omega) (by omega)]
      by_cases r : z (59 + 9 * c + 5) = 1
      · rw [if_pos ⟨eH.mpr q, by omega⟩, if_pos ⟨q, r⟩]
        exact ⟨by unfold cEp; rw [up_at]; rfl, fun a b h => by unfold cEp; exact up_ne h⟩
      · rw [if_neg (fun w => by omega), if_neg (fun w => r w.2)]
        exact ⟨a7, fun _ _ _ => rfl⟩
    · rw [if_neg (fun w => q (eH.mp w.1)), if_neg (fun w => q w.1)]
      exact ⟨a7, fun _ _ _ => rfl⟩
  obtain ⟨e7, eo⟩ := e7
  have vA : CV (cTcA P c) := CV_tcA hV
  generalize cTcA P c = P1 at *
  have b5 : cLs P1 c = cLs P c := by unfold cLs; rw [eo 5 c (by omega)]
  have b6 := eo 6 c (by omega)
  have b0 := eo 0 0 (by omega)
  have ow : cOw P1 c = cOw P c := by unfold cOw; rw [eo 12 c (by omega)]
  have D1 : RD P1 z := RD_cg hD (eo _ _ (by omega)) (funext fun x => eo _ _ (by omega)) (fun e a b => eo _ _ (by omega)) (fun _ _ _ => ⟨rfl, rfl⟩)
  have dc := hD.2 c hc.1 hc.2
  have dd := hI.du c hc.1 hc.2
  unfold cTcB
  by_cases q : 0 < z (59 + 9 * c + 2) ∧ z (59 + 9 * c + 3) = 1
  · have w := a6 q.1
    rw [b5, b6, b0, if_pos ⟨eL.mpr q.1, by rw [wr_id' (by omega) (by omega), wr_id' (by omega) (by omega)]; omega⟩]
    rw [if_pos q] at l2 l6 l11
    have n4 : y (59 + 9 * c + 4) = 0 := by
      rw [l4]
      by_cases r : 0 < z (59 + 9 * c + 4)
      · have := i5 r; rw [if_pos ⟨r, by omega⟩]
      · rw [if_neg (fun w => r w.1)]; omega
    have x5 : cEl P1 c 5 c = -1 := by unfold cEl cEp; rw [up_ne (by omega), up_at]
    have x7 : cEl P1 c 7 c = -1 := by unfold cEl cEp; rw [up_at]
    have xo : ∀ (a : Nat) (b : Int), ¬ (a = 7 ∧ b = c) → ¬ (a = 5 ∧ b = c) → cEl P1 c a b = P1 a b := fun a b h1 h2 => by unfold cEl cEp; rw [up_ne h1, up_ne h2]
    have xw : cOw (cEl P1 c) c = cOw P c := by unfold cOw; rw [xo _ _ (by omega) (by omega), eo _ _ (by omega)]
    have vE : CV (cEl P1 c) := CV_7 (by omega) (CV_5 (by omega) vA)
    have DE : RD (cEl P1 c) z := RD_cg D1 (xo _ _ (by omega) (by omega)) (funext fun x => xo _ _ (by omega) (by omega)) (fun e a b => xo _ _ (by omega) (by omega)) (fun _ _ _ => ⟨rfl, rfl⟩)
    have h6 : ∀ e, 0 ≤ e → e < 64 → y (59 + 9 * e + 6) = (if e = c then 0 else z (59 + 9 * e + 6)) ∧ y (59 + 9 * e + 7) = z (59 + 9 * e + 7) := fun e a b => by
      refine ⟨?_, hy _ (by omega) (by omega)⟩
      by_cases f : e = c
      · subst f; rw [if_pos rfl]; exact l6
      · rw [if_neg f]; exact hy _ (by omega) (by omega)
    have Ds := RD_str hc DE hI vE h6
    unfold cElO
    rw [xw]
    by_cases o : cOw P c = true
    · have zo : zOw z c = true := (zOw_e hc hI).mpr ((cOw_e hc hD hI).mp o)
      rw [if_pos o]
      rw [zo, bI_tt] at l11
      have yo : ∀ (a : Nat) (b : Int), ¬ (a = 7 ∧ b = c) → ¬ (a = 5 ∧ b = c) → ¬ (a = 2 ∧ b = 15) → ¬ (a = 10 ∨ a = 11 ∨ a = 12) → up (cStr (cEl P1 c) c) 2 15 (cStr (cEl P1 c) c 2 15 + 1) a b = P a b := fun a b h1 h2 h3 h4 => by rw [up_ne h3, cStr_o (by omega), xo _ _ h1 h2, eo _ _ h1]
      refine ⟨RC_tc hc hR yo hy ?_ ?_ ?_ (fun k => by omega) (fun k => by omega), ?_, ?_, II⟩
      · rw [up_ne (by omega), cStr_o (by omega), x5, l2]; rfl
      · rw [up_ne (by omega), cStr_o (by omega), x7, n4]; rfl
      · rw [up_at, cStr_o (by omega), xo _ _ (by omega) (by omega), eo _ _ (by omega), a15, l11]
      · exact RQ_cg hQ (by funext x; exact yo _ _ (by omega) (by omega) (by omega) (by omega)) (yo _ _ (by omega) (by omega) (by omega) (by omega)) (fun j hj => hy _ (by omega) (by omega))
      · exact RD_cg Ds (up_ne (by omega)) (funext fun x => up_ne (by omega)) (fun _ _ _ => up_ne (by omega)) (fun _ _ _ => ⟨rfl, rfl⟩)
    · have zo : zOw z c = false := by
        cases k : zOw z c with
        | false => rfl
        | true => exact (o ((cOw_e hc hD hI).mpr ((zOw_e hc hI).mp k))).elim
      rw [if_neg o]
      rw [zo, bI_ff] at l11
      have es : cStr (cEl P1 c) c = cEl P1 c := by unfold cStr; rw [if_neg (by rw [xw]; exact o)]
      rw [es] at Ds
      refine ⟨RC_tc hc hR (fun a b h1 h2 h3 h4 => by rw [xo _ _ h1 h2, eo _ _ h1]) hy ?_ ?_ ?_ (fun k => by omega) (fun k => by omega), ?_, Ds, II⟩
      · rw [x5, l2]; rfl
      · rw [x7, n4]; rfl
      · rw [xo _ _ (by omega) (by omega), eo _ _ (by omega), a15, l11]; omega
      · exact RQ_cg hQ (by funext x; rw [xo _ _ (by omega) (by omega), eo _ _ (by omega)]) (by rw [xo _ _ (by omega) (by omega), eo _ _ (by omega)]) (fun j hj => hy _ (by omega) (by omega))
  · have nq : ¬ (cLs P c = true ∧ wr (P 6 c) ≤ wr (P 0 0)) := by
      rintro ⟨r1, r2⟩
      have r1 := eL.mp r1
      have w := a6 r1
      have l := i3 r1
      rw [wr_id' (by omega) (by omega), wr_id' (by omega) (by omega)] at r2
      exact q ⟨r1, by omega⟩
    rw [b5, b6, b0, if_neg nq]
    rw [if_neg q] at l2 l6 l11
    refine ⟨RC_tc hc hR (fun a b h1 h2 h3 h4 => eo _ _ h1) hy ?_ ?_ ?_ (fun k => ?_) (fun k => ?_), ?_, ?_, II⟩
    · rw [eo _ _ (by omega), l2]; exact a5
    · rw [e7, l4]
    · rw [eo _ _ (by omega), a15, l11]; omega
    · rw [l2] at k; rw [l3, if_pos k]; have := a6 k; omega
    · rw [l4] at k
      by_cases r : 0 < z (59 + 9 * c + 4) ∧ z (59 + 9 * c + 5) = 1
      · rw [if_pos r] at k; omega
      · rw [if_neg r] at k; rw [l5, if_pos k]; have := a8 k; omega
    · exact RQ_cg hQ (by funext x; exact eo _ _ (by omega)) (eo _ _ (by omega)) (fun j hj => hy _ (by omega) (by omega))
    · exact RD_cg D1 rfl rfl (fun _ _ _ => rfl) (fun e a b => by
        refine ⟨?_, hy _ (by omega) (by omega)⟩
        by_cases f : e = c
        · subst f; exact l6
        · exact hy _ (by omega) (by omega))
theorem R_tcF {T B K : Int} : ∀ (d : Nat) (c : Int) (P : Mem) (z : Z), c + d = 64 → 0 ≤ c → RC P z (fun e => if e < c then 0 else 1) → RQ P z → RD P z → CV P → WI z K → IZ z T B →
    RC (cTcF d c P) (zFu d c z) (fun e => if e < 64 then 0 else 1) ∧ RQ (cTcF d c P) (zFu d c z) ∧ RD (cTcF d c P) (zFu d c z) ∧ WI (zFu d c z) K ∧ IZ (zFu d c z) T B := by
  intro d
  induction d with
  | zero =>
    intro c P z h1 h2 hR hQ hD hV hW hI
    have e : c = 64 := by omega
    subst e
    exact ⟨hR, hQ, hD, hW, hI⟩
  | succ d ih =>
    intro c P z h1 h2 hR hQ hD hV hW hI
    have hc : 0 ≤ c ∧ c < 64 := by omega
    obtain ⟨r1, r2, r3, r4⟩ := R_tc hc (by rw [if_neg (by omega)]) hR hQ hD hV hW hI
    rw [cTcF, zFu]
    refine ih (c + 1) _ _ (by omega) (by omega) ?_ r2 r3 (CV_tcB (CV_tcA hV)) (WI_el hc (WI_ep hc hW)) r4
    have e : (fun e => if e = c then 0 else (fun e => if e < c then (0 : Int) else 1) e) = (fun e => if e < c + 1 then 0 else 1) := by
      funext e
      dsimp only
      by_cases q : e = c
      · rw [if_pos q, if_pos (by omega)]
      · rw [if_neg q]
        by_cases r : e < c
        · rw [if_pos r, if_pos (by omega)]
        · rw [if_neg r, if_neg (by omega)]
    rw [e] at r1
    exact r1
theorem RC_dl {P : Mem} {z : Z} {d1 d2 : Int → Int} (h : RC P z d1) (e : ∀ c, 0 ≤ c → c < 64 → d2 c = d1 c) : RC P z d2 := by
  obtain ⟨a1, a2, a3, a4, a5, a6, a7, a8, a9, a10, a11, a12, a13⟩ := h
  exact ⟨a1, a2, a3, a4, a5, a6, a7, a8, a9, fun c a b k => by rw [e c a b]; exact a10 c a b k, a11, fun c a b k => by rw [e c a b]; exact a12 c a b k, a13⟩
theorem R_tk0 {P : Mem} {z : Z} {T B : Int} (hT : T + 1 ≤ 20000) (hR : RC P z D0) (hI : IZ z T B) : RC (cTk0 P) (zTk0 z) (fun _ => 1) ∧ IZ (zTk0 z) (T + 1) B := by
  have h0 := hR.t0
  have h1 := hR.ht
  have h6 := hR.st 6 (by decide) (by decide)
  have i0 := hI.t0
  have i1 := hI.ht
  have i6 := hI.st 6 (by decide) (by decide)
  have e1 : zTk0 z 1 = zNB (z 1 - z (15 + 6)) := by unfold zTk0; rw [u1_at, u1_ne (by omega), u1_ne (by omega)]
  have e0 : zTk0 z 0 = z 0 + 1 := by unfold zTk0; rw [u1_ne (by omega), u1_at]
  have en : ∀ j, ¬ j = 0 → ¬ j = 1 → zTk0 z j = z j := fun j a b => by unfold zTk0; rw [u1_ne b, u1_ne a]
  have c1 : cTk0 P 0 1 = zNB (z 1 - z (15 + 6)) := by
    unfold cTk0
    rw [up_at, up_ne (by omega), up_ne (by omega), h1, h6]
    exact cMx_nb (by omega)
  have c0 : cTk0 P 0 0 = P 0 0 + 1 := by unfold cTk0; rw [up_ne (by omega), up_at]
  have cn : ∀ (a : Nat) (b : Int), ¬ (a = 0 ∧ (b = 0 ∨ b = 1)) → cTk0 P a b = P a b := fun a b h => by unfold cTk0; rw [up_ne (by omega), up_ne (by omega)]
  have nb : 0 ≤ zNB (z 1 - z (15 + 6)) ∧ zNB (z 1 - z (15 + 6)) ≤ 100 := by rw [zNB_e (by omega)]; split <;> omega
  refine ⟨⟨?_, ?_, ?_, ?_, ?_, ?_, ?_, ?_, ?_, ?_, ?_, ?_, ?_, ?_, ?_, ?_, ?_, ?_, ?_, ?_, ?_, ?_, ?_⟩, ?_⟩
  · rw [c0, e0, h0]
  · rw [c1, e1]
  · rw [cn _ _ (by omega), en _ (by omega) (by omega)]; exact hR.hs
  · intro x a b; rw [cn _ _ (by omega), en _ (by omega) (by omega)]; exact hR.st x a b
  · intro x a b; rw [cn _ _ (by omega), en _ (by omega) (by omega)]; exact hR.ta x a b
  · rw [cn _ _ (by omega), en _ (by omega) (by omega)]; exact hR.t17
  · intro x a b; rw [cOne_cg (cn 3 0 (by omega)), en _ (by omega) (by omega)]; exact hR.bit x a b
  · intro x a b; rw [cn _ _ (by omega), en _ (by omega) (by omega)]; exact hR.sg x a b
  · intro x a b; rw [cn _ _ (by omega), en _ (by omega) (by omega)]; exact hR.wh x a b
  · intro x a b k
    rw [en _ (by omega) (by omega)] at k
    have := hR.le x a b k
    rw [cn 6 x (by omega), c0, en _ (by omega) (by omega)]
    simp only [D0] at this
    show P 6 x + 1 = P 0 0 + 1 + z (59 + 9 * x + 3)
    omega
  · intro x a b; rw [cn _ _ (by omega), en _ (by omega) (by omega)]; exact hR.by_ x a b
  · intro x a b k
    rw [en _ (by omega) (by omega)] at k
    have := hR.po x a b k
    rw [cn 8 x (by omega), c0, en _ (by omega) (by omega)]
    simp only [D0] at this
    show P 8 x + 1 = P 0 0 + 1 + z (59 + 9 * x + 5)
    omega
  · intro x a b; rw [cn _ _ (by omega), en _ (by omega) (by omega)]; exact hR.ls x a b
  · rw [cn _ _ (by omega), en _ (by omega) (by omega)]; exact hR.tn
  · intro x a b; rw [cn _ _ (by omega), en _ (by omega) (by omega)]; exact hR.mo x a b
  · intro x a b; rw [cn _ _ (by omega), en _ (by omega) (by omega)]; exact hR.tl x a b
  · intro x a b; rw [cn _ _ (by omega), en _ (by omega) (by omega)]; exact hR.tp x a b
  · rw [cn _ _ (by omega), en _ (by omega) (by omega)]; exact hR.im
  · intro x a b; rw [cn _ _ (by omega), en _ (by omega) (by omega)]; exact hR.fu x a b
  · intro x a b; rw [cn _ _ (by omega), en _ (by omega) (by omega)]; exact hR.ra x a b
  · intro x a b; rw [cn _ _ (by omega), en _ (by omega) (by omega)]; exact hR.co x a b
  · intro x a b; rw [cn _ _ (by omega), en _ (by omega) (by omega)]; exact hR.pr x a b
  · intro x a b; rw [cn _ _ (by omega), en _ (by omega) (by omega)]; exact hR.cp x a b
  · have e : zTk0 z = u1 (u1 z 0 (z 0 + 1)) 1 (zNB (z 1 - z (15 + 6))) := by
      unfold zTk0
      rw [u1_ne (j := 1) (by omega), u1_ne (j := 15 + 6) (by omega)]
    have hx : ∀ T', T ≤ T' → T' ≤ 20000 → IZ z T' B := fun T' a b => by
      obtain ⟨a1, a2, a3, a4, a5, a6, a7, a8, a9, a10, a11⟩ := hI
      exact ⟨by omega, b, a3, a4, a5, a6, a7, a8, a9, fun c p q => by have := a10 c p q; omega, a11⟩
    have hI2 := hx (T + 1) (by omega) hT
    obtain ⟨a1, a2, a3, a4, a5, a6, a7, a8, a9, a10, a11, a12, a13, a14, a15⟩ := hI2
    have hn : zOwN (zTk0 z) = zOwN z := cnt_cg 64 0 0 (fun e a b => by unfold zOw; rw [en _ (by omega) (by omega)])
    refine ⟨by rw [e0]; omega, a2, by rw [e1]; exact nb, fun s a b => by rw [en _ (by omega) (by omega)]; exact a4 s a b, fun c a b => by rw [en _ (by omega) (by omega)]; exact a5 c a b, fun c a b => by rw [en _ (by omega) (by omega), en _ (by omega) (by omega)]; exact a6 c a b, fun c a b k => by rw [en _ (by omega) (by omega)] at k ⊢; exact a7 c a b k, fun c a b => by rw [en _ (by omega) (by omega), en _ (by omega) (by omega)]; exact a8 c a b, fun c a b k => ?_, fun c a b => by rw [en _ (by omega) (by omega)]; exact a10 c a b, fun c a b k => ?_, fun u v p q r s k l m => ?_, by rw [en _ (by omega) (by omega)]; exact a13, a14, by rw [hn, en _ (by omega) (by omega), en _ (by omega) (by omega)]; exact a15⟩
    · rw [en _ (by omega) (by omega)] at k
      rw [en _ (by omega) (by omega), en _ (by omega) (by omega), en _ (by omega) (by omega)]; exact a9 c a b k
    · rw [en _ (by omega) (by omega)] at k
      rw [en _ (by omega) (by omega), en _ (by omega) (by omega), en _ (by omega) (by omega), en _ (by omega) (by omega)]; exact a11 c a b k
    · rw [en _ (by omega) (by omega)] at k l
      rw [en _ (by omega) (by omega), en _ (by omega) (by omega)] at m
      exact a12 u v p q r s k l m
theorem R_tk {P : Mem} {z : Z} {T B K : Int} (o : Int → Int) (hT : T + 1 ≤ 20000) (h : RR P z T B K) : RR (cTk P) (zTk z o) (T + 1) B K := by
  obtain ⟨hR, hQ, hD, hV, hW, hI⟩ := h
  obtain ⟨R0, I0⟩ := R_tk0 hT hR hI
  have V0 : CV (cTk0 P) := CV_tk0 hV
  have W0 : WI (zTk0 z) K := WI_tk0 hW
  have cn : ∀ (a : Nat) (b : Int), ¬ (a = 0 ∧ (b = 0 ∨ b = 1)) → cTk0 P a b = P a b := fun a b h => by unfold cTk0; rw [up_ne (by omega), up_ne (by omega)]
  have en : ∀ j, ¬ j = 0 → ¬ j = 1 → zTk0 z j = z j := fun j a b => by unfold zTk0; rw [u1_ne b, u1_ne a]
  have Q0 : RQ (cTk0 P) (zTk0 z) := RQ_cg hQ (by funext x; exact cn _ _ (by omega)) (cn _ _ (by omega)) (fun j hj => en _ (by omega) (by omega))
  have D0' : RD (cTk0 P) (zTk0 z) := RD_cg hD (cn _ _ (by omega)) (by funext x; exact cn _ _ (by omega)) (fun _ _ _ => cn _ _ (by omega)) (fun e a b => ⟨en _ (by omega) (by omega), en _ (by omega) (by omega)⟩)
  have hn := RD_ord D0' I0 V0 o
  have hcd := V0.2.2.2.1.1
  have hz := zOrN_n (zTk0 z) o
  obtain ⟨r1, r2, r3, r4, r5⟩ := R_ltF (K := K) (o := zOrd (zTk0 z) o) (zOrN (zTk0 z) o).toNat 64 0 (cTk0 P) (zTk0 z) (by omega) R0 Q0 D0' V0 W0 I0 hn.1.symm
  have v2 := CV_ltF 64 (cTk0 P) V0
  obtain ⟨s1, s2, s3, s4, s5⟩ := R_tcF 64 0 _ _ (by omega) (by omega) (RC_dl r1 (fun c a b => by rw [if_neg (by omega)])) r2 r3 v2 r4 r5
  unfold cTk zTk zTk1
  rw [zFu_e 64 0 _ (by omega) (by omega)]
  exact ⟨RC_dl s1 (fun c a b => by rw [if_pos b]; rfl), s2, s3, CV_tcF 64 0 _ v2, s4, s5⟩
theorem R_tkN : ∀ (d : Nat) (P : Mem) (s : Z × (Int → Int)) {T B K : Int}, T + d ≤ 20000 → RR P s.1 T B K → RR (cTkN d P) (zTkN d s).1 (T + d) B K := by
  intro d
  induction d with
  | zero => intro P s T B K _ h; simpa [cTkN, zTkN] using h
  | succ d ih =>
    intro P s T B K hT h
    rw [cTkN, zTkN]
    have h1 := R_tk s.2 (by omega) h
    have h2 : RR (cTk P) ((zTk s.1 s.2, zOrd (zTk0 s.1) s.2).1) (T + 1) B K := by dsimp only; exact h1
    have := ih (cTk P) (zTk s.1 s.2, zOrd (zTk0 s.1) s.2) (T := T + 1) (by omega) h2
    rw [show T + 1 + (d : Int) = T + ((d + 1 : Nat) : Int) by omega] at this
    exact this

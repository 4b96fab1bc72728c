/-! plain mathematics: leases, policies, new cores -/
theorem R_le {P : Mem} {z : Z} {T B K c t k : Int} (hc : 0 ≤ c ∧ c < 64) (ht : 0 ≤ t ∧ t < z 2) (hk : 1 ≤ k ∧ k ≤ 200) (hl : ¬ 0 < z (59 + 9 * c + 2)) (h : RR P z T B K) : RR (cLeO P c t k) (zLe z c t k) T B K := by
  obtain ⟨hR, hQ, hD, hV, hW, hI⟩ := h
  have w2 := hW.1
  have wc := hW.2.2.2.1 c hc.1 hc.2
  have em := hR.mo t (by omega) (by omega)
  have es := hR.st 0 (by decide) (by decide)
  have eh := hR.hs
  have ic := hI.by_ c hc.1 hc.2
  have ip := hI.po c hc.1 hc.2
  have io := hI.ow c hc.1 hc.2
  have yo : ∀ j, ¬ j = 23 + 3 * t → ¬ j = 12 → ¬ j = 59 + 9 * c + 2 → ¬ j = 59 + 9 * c + 3 → zLe z c t k j = z j := fun j a b d e => by
    unfold zLe; rw [u1_ne e, u1_ne d, u1_ne b, u1_ne a]
  have y2 : zLe z c t k (59 + 9 * c + 2) = t + 1 := by unfold zLe; rw [u1_ne (by omega), u1_at]
  have y3 : zLe z c t k (59 + 9 * c + 3) = k := by unfold zLe; rw [u1_at]
  have co : ∀ (a : Nat) (b : Int), ¬ a = 14 → ¬ (a = 0 ∧ b = 2) → ¬ a = 5 → ¬ a = 6 → cLeO P c t k a b = P a b := fun a b h1 h2 h3 h4 => by unfold cLeO; rw [up_ne (by omega), up_ne (by omega), up_ne (by omega), up_ne (by omega)]
  refine ⟨?_, ?_, ?_, ?_, ?_, ?_⟩
  · have r1 := RC_lease (c := c) (t := t) (k := k) (RC_house (v := z 12 + k * z (15 + 0)) (RC_mo (t := t) (v := z (23 + 3 * t) - k * z (15 + 0)) hR (by omega))) hc
    have ek : k * z (15 + 0) = cRent P k := by unfold cRent; rw [es, Int.mul_comm]
    refine RC_cg r1 ?_ ?_
    · unfold cLeO
      dsimp only
      rw [ek, ← em, ← eh]
      have q1 : up P 14 t (P 14 t - cRent P k) 0 2 = P 0 2 := up_ne (by omega)
      have q2 : ∀ x y, up (up (up P 14 t x) 0 2 y) 5 c t 0 0 = P 0 0 := fun x y => by rw [up_ne (by omega), up_ne (by omega), up_ne (by omega)]
      have q3 : ∀ x y, up (up P 14 t x) 0 2 y 0 0 = P 0 0 := fun x y => by rw [up_ne (by omega), up_ne (by omega)]
      rw [q1, q2, q3]
      simp only [D0, Int.sub_zero]
    · unfold zLe
      dsimp only
      rw [u1_ne (z := z) (j := 12) (by omega)]
  · exact RQ_cg hQ (by funext x; exact co _ _ (by omega) (by omega) (by omega) (by omega)) (co _ _ (by omega) (by omega) (by omega) (by omega)) (fun j hj => yo _ (by omega) (by omega) (by omega) (by omega))
  · exact RD_cg hD (co _ _ (by omega) (by omega) (by omega) (by omega)) (by funext x; exact co _ _ (by omega) (by omega) (by omega) (by omega)) (fun _ _ _ => co _ _ (by omega) (by omega) (by omega) (by omega)) (fun e a b => ⟨yo _ (by omega) (by omega) (by omega) (by omega), yo _ (by omega) (by omega) (by omega) (by omega)⟩)
  · unfold cLeO
    exact CV_up (by unfold NV; omega) (CV_5 (by omega) (CV_up (by unfold NV; omega) (CV_up (by unfold NV; omega) hV)))
  · refine WI_mn hW (yo _ (by omega) (by omega) (by omega) (by omega)) (yo _ (by omega) (by omega) (by omega) (by omega)) (fun j a b => by rw [yo _ (by omega) (by omega) (by omega) (by omega)]; exact hW.2.2.1 j a b) (fun e a b => ⟨?_, .inl (yo _ (by omega) (by omega) (by omega) (by omega))⟩) (by rw [yo 46 (by omega) (by omega) (by omega) (by omega), yo 52 (by omega) (by omega) (by omega) (by omega), yo 58 (by omega) (by omega) (by omega) (by omega)]; have := hW.2.2.2.2.1; omega)
    by_cases q : e = c
    · subst q; rw [y2]; omega
    · rw [yo _ (by omega) (by omega) (by omega) (by omega)]; exact (hW.2.2.2.1 e a b).1
  · refine IZ_core hc hI (fun j hj => yo _ (by omega) (by omega) (by omega) (by omega)) ?_ (by rw [y2]; omega) (fun _ => by rw [y3]; omega) ?_ (fun q => ?_) (fun q => ?_)
    · rw [yo _ (by omega) (by omega) (by omega) (by omega)]; exact hI.sg c hc.1 hc.2
    · rw [yo _ (by omega) (by omega) (by omega) (by omega)]; exact ic
    · rw [yo _ (by omega) (by omega) (by omega) (by omega)] at q
      exact (hl (ip q).1).elim
    · exact (hl (io q).1).elim
theorem R_ren {P : Mem} {z : Z} {T B K c : Int} (hc : 0 ≤ c ∧ c < 64) (hl : ¬ 0 < z (59 + 9 * c + 2)) (h : RR P z T B K) : RR (cRpl P c) (zRen z c) T B K := by
  obtain ⟨hR, hQ, hD, hV, hW, hI⟩ := h
  have es := hR.st 7 (by decide) (by decide)
  have eh := hR.hs
  have e17 := hR.t17
  have ic := hI.by_ c hc.1 hc.2
  have ip := hI.po c hc.1 hc.2
  have io := hI.ow c hc.1 hc.2
  have yj : ∀ j, zRen z c j = if j = 13 then z 13 + z 22 else if j = 12 then z 12 - z 22 else if j = 59 + 9 * c then 0 else if j = 59 + 9 * c + 1 then 100 else z j := fun j => by
    unfold zRen
    simp only [u1_e, Int.add_zero]
    grind
  have yo : ∀ j, ¬ j = 13 → ¬ j = 12 → ¬ j = 59 + 9 * c → ¬ j = 59 + 9 * c + 1 → zRen z c j = z j := fun j a b d e => by rw [yj, if_neg a, if_neg b, if_neg d, if_neg e]
  have co : ∀ (a : Nat) (b : Int), ¬ a = 4 → ¬ (a = 0 ∧ b = 2) → ¬ a = 2 → ¬ a = 3 → cRpl P c a b = P a b := fun a b h1 h2 h3 h4 => by unfold cRpl cPut; rw [up_ne (by omega), up_ne (by omega), up_ne (by omega), up_ne (by omega)]
  refine ⟨?_, ?_, ?_, ?_, ?_, ?_⟩
  · have r1 := RC_bit (b := false) (RC_str (c := c) (v := 100) (RC_spent (v := z 13 + z 22) (RC_house (v := z 12 - z 22) hR)) hc) hc
    rw [show (15 + 7 : Int) = 22 by decide] at es
    refine RC_cg r1 ?_ ?_
    · unfold cRpl
      dsimp only
      have q1 : up P 0 2 (P 0 2 - P 1 7) 2 17 = P 2 17 := up_ne (by omega)
      have q2 : up P 0 2 (P 0 2 - P 1 7) 1 7 = P 1 7 := up_ne (by omega)
      rw [q1, q2, es, eh, e17]
    · funext j
      rw [yj]
      simp only [u1_e, bI_ff]
      grind
  · exact RQ_cg hQ (by funext x; exact co _ _ (by omega) (by omega) (by omega) (by omega)) (co _ _ (by omega) (by omega) (by omega) (by omega)) (fun j hj => yo _ (by omega) (by omega) (by omega) (by omega))
  · exact RD_cg hD (co _ _ (by omega) (by omega) (by omega) (by omega)) (by funext x; exact co _ _ (by omega) (by omega) (by omega) (by omega)) (fun _ _ _ => co _ _ (by omega) (by omega) (by omega) (by omega)) (fun e a b => ⟨yo _ (by omega) (by omega) (by omega) (by omega), yo _ (by omega) (by omega) (by omega) (by omega)⟩)
  · unfold cRpl
    exact CV_put (CV_up (by unfold NV; omega) (CV_up (by unfold NV; omega) (CV_up (by unfold NV; omega) hV)))
  · unfold zRen
    exact WI_u1 (by unfold NW; omega) (WI_u1 (by unfold NW; omega) (WI_u1 (by unfold NW; omega) (WI_u1 (by unfold NW; omega) hW)))
  · refine IZ_core hc hI (fun j hj => yo _ (by omega) (by omega) (by omega) (by omega)) ?_ ?_ ?_ ?_ (fun q => ?_) (fun q => ?_)
    · rw [yj, if_neg (by omega), if_neg (by omega), if_neg (by omega), if_pos rfl]; omega
    · rw [yo _ (by omega) (by omega) (by omega) (by omega)]; exact hI.wh c hc.1 hc.2
    · rw [yo _ (by omega) (by omega) (by omega) (by omega), yo _ (by omega) (by omega) (by omega) (by omega)]; exact hI.le c hc.1 hc.2
    · rw [yo _ (by omega) (by omega) (by omega) (by omega)]; exact ic
    · rw [yo _ (by omega) (by omega) (by omega) (by omega)] at q
      exact (hl (ip q).1).elim
    · exact (hl (io q).1).elim
theorem prem_e {P : Mem} {z : Z} {dl : Int → Int} {c i k a b : Int} (hc : 0 ≤ c ∧ c < 64) (hi : 0 ≤ i ∧ i < 3) (h : RC P z dl) (e : a = b) : cPrem P c i k a = zPrem z c i k b := by
  unfold cPrem zPrem
  rw [h.sg c hc.1 hc.2, h.ra i hi.1 hi.2, e]
theorem cnt_upd2 {p q : Int → Bool} {k : Int} (hk : 0 ≤ k ∧ k < 64) (h : ∀ e, 0 ≤ e → e < 64 → ¬ e = k → q e = p e) : cntF q 64 0 0 + bI (p k) = cntF p 64 0 0 + bI (q k) := by
  have e1 : cntF (fun e => if 0 ≤ e ∧ e < 64 then q e else p e) 64 0 0 = cntF q 64 0 0 := cnt_cg 64 0 0 (fun e a b => by rw [if_pos (by omega)])
  have u := cnt_upd (p := p) (q := fun e => if 0 ≤ e ∧ e < 64 then q e else p e) (k := k) (fun e he => by
    by_cases r : 0 ≤ e ∧ e < 64
    · rw [if_pos r]; exact h e r.1 r.2 he
    · rw [if_neg r]) 64 0 0 0
  rw [if_pos (by omega), if_pos (by omega)] at u
  rw [if_pos hk, e1] at u
  omega
theorem R_in {P : Mem} {z : Z} {T B K c i k : Int} (hc : 0 ≤ c ∧ c < 64) (hi : 0 ≤ i ∧ i < z 3) (hk : 1 ≤ k ∧ k ≤ z (59 + 9 * c + 3)) (hl : 0 < z (59 + 9 * c + 2)) (hb : z (59 + 9 * c + 4) = 0) (hK : K + 1 ≤ 512) (h : RR P z T B K) :
    RR (cPay (cMkP P c i k (P 5 c) (cPrem P c i k (P 0 1))) i) (zIn z c i k) T B (K + 1) := by
  obtain ⟨hR, hQ, hD, hV, hW, hI⟩ := h
  have w2 := hW.1
  have w3 := hW.2.1
  have wc := hW.2.2.2.1 c hc.1 hc.2
  have a5 := hR.wh c hc.1 hc.2
  have i3 : 0 ≤ i ∧ i < 3 := by omega
  have ep := prem_e (k := k) hc i3 hR hR.ht
  have et : z (59 + 9 * c + 2) - 1 = P 5 c := by omega
  have ht : 0 ≤ P 5 c ∧ P 5 c < 6 := by omega
  have em := hR.mo (P 5 c) ht.1 ht.2
  have ef := hR.fu i i3.1 i3.2
  have epr := hR.pr i i3.1 i3.2
  have lec := hI.le c hc.1 hc.2 hl
  rw [ep]
  have yj : ∀ j, zIn0 z c i k j = if j = 59 + 9 * c + 5 then k else if j = 59 + 9 * c + 4 then i + 1 else if j = 41 + 6 * i + 4 then z (41 + 6 * i + 4) + zPrem z c i k (z 1) else if j = 41 + 6 * i then z (41 + 6 * i) + zPrem z c i k (z 1) else if j = 23 + 3 * P 5 c then z (23 + 3 * P 5 c) - zPrem z c i k (z 1) else z j := fun j => by
    unfold zIn0
    rw [et]
    generalize zPrem z c i k (z 1) = p
    simp only [u1_e, Int.add_zero]
    grind
  have yo : ∀ j, ¬ j = 59 + 9 * c + 5 → ¬ j = 59 + 9 * c + 4 → ¬ (41 ≤ j ∧ j < 59 ∧ ¬ j = 46 ∧ ¬ j = 52 ∧ ¬ j = 58) → ¬ (23 ≤ j ∧ j < 41) → zIn0 z c i k j = z j := fun j a b d e => by rw [yj, if_neg a, if_neg b, if_neg (by omega), if_neg (by omega), if_neg (by omega)]
  have y4 : zIn0 z c i k (59 + 9 * c + 4) = i + 1 := by rw [yj, if_neg (by omega), if_pos rfl]
  have y5 : zIn0 z c i k (59 + 9 * c + 5) = k := by rw [yj, if_pos rfl]
  generalize hp : zPrem z c i k (z 1) = p at *
  have co : ∀ (a : Nat) (b : Int), ¬ a = 14 → ¬ a = 18 → ¬ a = 21 → ¬ a = 7 → ¬ a = 8 → cMkP P c i k (P 5 c) p a b = P a b := fun a b h1 h2 h3 h4 h5 => by unfold cMkP; rw [up_ne (by omega), up_ne (by omega), up_ne (by omega), up_ne (by omega), up_ne (by omega)]
  have R1 : RC (cMkP P c i k (P 5 c) p) (zIn0 z c i k) D0 := by
    have r1 := RC_pol (c := c) (i := i) (k := k) (RC_pr (i := i) (v := z (41 + 6 * i + 4) + p) (RC_fu (i := i) (v := z (41 + 6 * i) + p) (RC_mo (t := P 5 c) (v := z (23 + 3 * P 5 c) - p) hR ht) i3) i3) hc
    refine RC_cg r1 ?_ ?_
    · unfold cMkP
      dsimp only
      have q0 : ∀ x, up P 14 (P 5 c) x 18 i = P 18 i := fun x => up_ne (by omega)
      have q1 : ∀ x y, up (up P 14 (P 5 c) x) 18 i y 21 i = P 21 i := fun x y => by rw [up_ne (by omega), up_ne (by omega)]
      have q2 : ∀ x y w, up (up (up P 14 (P 5 c) x) 18 i y) 21 i w 0 0 = P 0 0 := fun x y w => by rw [up_ne (by omega), up_ne (by omega), up_ne (by omega)]
      have q3 : ∀ x y w, up (up (up (up P 14 (P 5 c) x) 18 i y) 21 i w) 7 c i 0 0 = P 0 0 := fun x y w => by rw [up_ne (by omega), up_ne (by omega), up_ne (by omega), up_ne (by omega)]
      rw [q0, q1, q2, q3, em, ef, epr]
      simp only [D0, Int.sub_zero]
    · funext j
      rw [yj]
      simp only [u1_e]
  have Q1 : RQ (cMkP P c i k (P 5 c) p) (zIn0 z c i k) := RQ_cg hQ (by funext x; exact co _ _ (by omega) (by omega) (by omega) (by omega) (by omega)) (co _ _ (by omega) (by omega) (by omega) (by omega) (by omega)) (fun j hj => yo _ (by omega) (by omega) (by omega) (by omega))
  have D1 : RD (cMkP P c i k (P 5 c) p) (zIn0 z c i k) := RD_cg hD (co _ _ (by omega) (by omega) (by omega) (by omega) (by omega)) (by funext x; exact co _ _ (by omega) (by omega) (by omega) (by omega) (by omega)) (fun _ _ _ => co _ _ (by omega) (by omega) (by omega) (by omega) (by omega)) (fun e a b => ⟨yo _ (by omega) (by omega) (by omega) (by omega), yo _ (by omega) (by omega) (by omega) (by omega)⟩)
  have V1 : CV (cMkP P c i k (P 5 c) p) := by
    unfold cMkP
    exact CV_up (by unfold NV; omega) (CV_7 (by omega) (CV_up (by unfold NV; omega) (CV_up (by unfold NV; omega) (CV_up (by unfold NV; omega) hV))))
  have W1 : WI (zIn0 z c i k) (K + 1) := by
    obtain ⟨a1, a2, a3, a4, a5', a6, a7⟩ := hW
    refine ⟨by rw [yo 2 (by omega) (by omega) (by omega) (by omega)]; exact a1, by rw [yo 3 (by omega) (by omega) (by omega) (by omega)]; exact a2, fun j k1 k2 => by rw [yo _ (by omega) (by omega) (by omega) (by omega)]; exact a3 j k1 k2, fun e k1 k2 => ?_, by rw [yo 46 (by omega) (by omega) (by omega) (by omega), yo 52 (by omega) (by omega) (by omega) (by omega), yo 58 (by omega) (by omega) (by omega) (by omega)]; exact a5', ?_, hK⟩
    · rw [yo (59 + 9 * e + 2) (by omega) (by omega) (by omega) (by omega)]
      by_cases q : e = c
      · subst q; rw [y4]; exact ⟨(a4 e k1 k2).1, by omega⟩
      · rw [yo _ (by omega) (by omega) (by omega) (by omega)]; exact a4 e k1 k2
    · rw [yo 46 (by omega) (by omega) (by omega) (by omega), yo 52 (by omega) (by omega) (by omega) (by omega), yo 58 (by omega) (by omega) (by omega) (by omega)]
      have u := cnt_upd2 (p := fun e => decide (0 < wr (z (59 + 9 * e + 4)))) (q := fun e => decide (0 < wr (zIn0 z c i k (59 + 9 * e + 4)))) hc (fun e k1 k2 he => by rw [yo _ (by omega) (by omega) (by omega) (by omega)])
      have b1 := bI_01 (decide (0 < wr (zIn0 z c i k (59 + 9 * c + 4))))
      have b2 := bI_01 (decide (0 < wr (z (59 + 9 * c + 4))))
      unfold zCW at a6 ⊢
      omega
  have I1 : IZ (zIn0 z c i k) T B := by
    refine IZ_core hc hI (fun j hj => yo _ (by omega) (by omega) (by omega) (by omega)) ?_ ?_ ?_ (by rw [y4]; omega) (fun q => ?_) (fun q => ?_)
    · rw [yo _ (by omega) (by omega) (by omega) (by omega)]; exact hI.sg c hc.1 hc.2
    · rw [yo _ (by omega) (by omega) (by omega) (by omega)]; exact hI.wh c hc.1 hc.2
    · rw [yo _ (by omega) (by omega) (by omega) (by omega), yo _ (by omega) (by omega) (by omega) (by omega)]; exact hI.le c hc.1 hc.2
    · rw [yo _ (by omega) (by omega) (by omega) (by omega), yo (59 + 9 * c + 3) (by omega) (by omega) (by omega) (by omega), y5]; exact ⟨hl, hk⟩
    · rw [yo _ (by omega) (by omega) (by omega) (by omega), yo _ (by omega) (by omega) (by omega) (by omega)]
      have := hI.ow c hc.1 hc.2 q
      exact ⟨this.1, this.2.1⟩
  obtain ⟨r1, r2⟩ := R_pay i3 R1 Q1 V1 W1.2.2.1 (WI_HW W1)
  have fr := (zPay_fr i3 (WI_wt W1 i3) W1.2.2.1).1
  have cf : ∀ (a : Nat) (b : Int), a = 10 ∨ a = 11 ∨ a = 12 → cPay (cMkP P c i k (P 5 c) p) i a b = cMkP P c i k (P 5 c) p a b := fun a b q => cPay_o (by omega)
  unfold zIn
  refine ⟨r1, r2, ?_, CV_pay V1, WI_pay i3 W1, ?_⟩
  · exact RD_cg D1 (cf _ _ (by omega)) (funext fun x => cf _ _ (by omega)) (fun _ _ _ => cf _ _ (by omega)) (fun e a b => ⟨fr _ (by omega) (by omega) (by omega), fr _ (by omega) (by omega) (by omega)⟩)
  · exact IZ_n I1 (fun j hj => fr _ (by omega) (by omega) (by omega)) (by rw [fr 2 (by omega) (by omega) (by omega)]; exact Int.le_refl _) (by rw [fr 3 (by omega) (by omega) (by omega)]; exact Int.le_refl _) (fun s a b => by rw [fr _ (by omega) (by omega) (by omega)]; exact I1.st s a b)

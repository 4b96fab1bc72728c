/-! plain mathematics: what the face changes -/
theorem CV_13 {P : Mem} {v : Int} (hv : 0 ≤ v ∧ v ≤ 6) (h : CV P) : CV (up P 13 0 v) := by
  obtain ⟨a, b, c, d, e⟩ := h
  refine ⟨by rw [up_at]; exact hv, by rw [up_ne (by omega)]; exact b, ?_, CD_o (by omega) d, fun x k1 k2 => by rw [up_ne (by omega), up_ne (by omega)]; exact e x k1 k2⟩
  rw [up_ne (by omega)]
  exact ⟨c.1, fun j k1 k2 => by rw [up_ne (by omega)]; exact c.2 j k1 k2⟩
theorem CV_17 {P : Mem} {v : Int} (hv : 0 ≤ v ∧ v ≤ 3) (h : CV P) : CV (up P 17 0 v) := by
  obtain ⟨a, b, c, d, e⟩ := h
  refine ⟨by rw [up_ne (by omega)]; exact a, by rw [up_at]; exact hv, ?_, CD_o (by omega) d, fun x k1 k2 => by rw [up_ne (by omega), up_ne (by omega)]; exact e x k1 k2⟩
  rw [up_ne (by omega)]
  exact ⟨c.1, fun j k1 k2 => by rw [up_ne (by omega)]; exact c.2 j k1 k2⟩
theorem WI_n {z y : Z} {K : Int} (h : WI z K) (h2 : 0 ≤ y 2 ∧ y 2 ≤ 6) (h3 : 0 ≤ y 3 ∧ y 3 ≤ 3) (hy : ∀ j, j = 46 ∨ j = 52 ∨ j = 58 ∨ 59 ≤ j → y j = z j) : WI y K := by
  obtain ⟨a, b, c, d, e, f, g⟩ := h
  refine ⟨h2, h3, fun j k1 k2 => by rw [hy _ (by omega)]; exact c j k1 k2, fun x k1 k2 => by rw [hy _ (by omega), hy _ (by omega)]; exact d x k1 k2, by rw [hy 46 (by omega), hy 52 (by omega), hy 58 (by omega)]; exact e, ?_, g⟩
  have q : zCW y 4 = zCW z 4 := cnt_cg 64 0 0 (fun e a b => by rw [hy _ (by omega)])
  rw [q, hy 46 (by omega), hy 52 (by omega), hy 58 (by omega)]; exact f
/-- ranges kept where counts grow, settings and heat stay in range -/
theorem IZ_n {z y : Z} {T B : Int} (h : IZ z T B) (h1 : ∀ j, j = 0 ∨ j = 1 ∨ j = 5 ∨ j = 6 ∨ j = 14 ∨ 59 ≤ j ∧ j < 635 → y j = z j) (h2 : z 2 ≤ y 2) (h3 : z 3 ≤ y 3) (hs : ∀ s : Int, 0 ≤ s → s < 8 → 0 ≤ y (15 + s) ∧ y (15 + s) ≤ 100) : IZ y T B := by
  obtain ⟨a1, a2, a3, a4, a5, a6, a7, a8, a9, a10, a11, a12, a13, a14, a15⟩ := h
  have hn : zOwN y = zOwN z := cnt_cg 64 0 0 (fun e a b => by unfold zOw; rw [h1 _ (by omega)])
  refine ⟨by rw [h1 0 (by omega)]; exact a1, a2, by rw [h1 1 (by omega)]; exact a3, hs, fun c a b => by rw [h1 _ (by omega)]; exact a5 c a b, fun c a b => by rw [h1 _ (by omega)]; have := a6 c a b; omega, fun c a b k => by rw [h1 _ (by omega)] at k ⊢; exact a7 c a b k, fun c a b => by rw [h1 _ (by omega)]; have := a8 c a b; omega, fun c a b k => ?_, fun c a b => by rw [h1 _ (by omega)]; exact a10 c a b, fun c a b k => ?_, fun u v p q r s k l m => ?_, by rw [h1 14 (by omega)]; exact a13, a14, by rw [hn, h1 5 (by omega), h1 6 (by omega)]; exact a15⟩
  · rw [h1 (59 + 9 * c + 4) (by omega)] at k
    rw [h1 (59 + 9 * c + 2) (by omega), h1 (59 + 9 * c + 5) (by omega), h1 (59 + 9 * c + 3) (by omega)]; exact a9 c a b k
  · rw [h1 (59 + 9 * c + 6) (by omega)] at k
    rw [h1 (59 + 9 * c + 2) (by omega), h1 (59 + 9 * c) (by omega), h1 (59 + 9 * c + 7) (by omega), h1 14 (by omega)]; exact a11 c a b k
  · rw [h1 (59 + 9 * u + 6) (by omega)] at k
    rw [h1 (59 + 9 * v + 6) (by omega)] at l
    rw [h1 (59 + 9 * u + 7) (by omega), h1 (59 + 9 * v + 7) (by omega)] at m
    exact a12 u v p q r s k l m
theorem IZ_core {z y : Z} {T B c : Int} (hc : 0 ≤ c ∧ c < 64) (h : IZ z T B) (h1 : ∀ j, j = 0 ∨ j = 1 ∨ j = 2 ∨ j = 3 ∨ j = 5 ∨ j = 6 ∨ j = 14 ∨ (15 ≤ j ∧ j < 23) ∨ (59 ≤ j ∧ j < 635 ∧ ¬ (59 + 9 * c ≤ j ∧ j < 59 + 9 * c + 6)) → y j = z j)
    (c1 : 0 ≤ y (59 + 9 * c + 1) ∧ y (59 + 9 * c + 1) ≤ 100) (c2 : 0 ≤ y (59 + 9 * c + 2) ∧ y (59 + 9 * c + 2) ≤ z 2) (c3 : 0 < y (59 + 9 * c + 2) → 1 ≤ y (59 + 9 * c + 3) ∧ y (59 + 9 * c + 3) ≤ 200) (c4 : 0 ≤ y (59 + 9 * c + 4) ∧ y (59 + 9 * c + 4) ≤ z 3)
    (c5 : 0 < y (59 + 9 * c + 4) → 0 < y (59 + 9 * c + 2) ∧ 1 ≤ y (59 + 9 * c + 5) ∧ y (59 + 9 * c + 5) ≤ y (59 + 9 * c + 3)) (c6 : 0 < z (59 + 9 * c + 6) → 0 < y (59 + 9 * c + 2) ∧ y (59 + 9 * c) = 0) : IZ y T B := by
  have f2 := h1 2 (by omega)
  have f3 := h1 3 (by omega)
  have f14 := h1 14 (by omega)
  have hn : zOwN y = zOwN z := cnt_cg 64 0 0 (fun e a b => by unfold zOw; rw [h1 _ (by omega)])
  refine ⟨by rw [h1 0 (by omega)]; exact h.t0, h.tT, by rw [h1 1 (by omega)]; exact h.ht, fun s a b => by rw [h1 _ (by omega)]; exact h.st s a b, fun x a b => ?_, fun x a b => ?_, fun x a b k => ?_, fun x a b => ?_, fun x a b k => ?_, fun x a b => by rw [h1 _ (by omega)]; exact h.du x a b, fun x a b k => ?_, fun u v p q r s k l m => ?_, by rw [f14]; exact h.sb, h.sB, by rw [hn, h1 5 (by omega), h1 6 (by omega)]; exact h.bk⟩
  · by_cases q : x = c
    · subst q; exact c1
    · rw [h1 _ (by omega)]; exact h.sg x a b
  · rw [f2]
    by_cases q : x = c
    · subst q; exact c2
    · rw [h1 _ (by omega)]; exact h.wh x a b
  · by_cases q : x = c
    · subst q; exact c3 k
    · rw [h1 _ (by omega)] at k ⊢; exact h.le x a b k
  · rw [f3]
    by_cases q : x = c
    · subst q; exact c4
    · rw [h1 _ (by omega)]; exact h.by_ x a b
  · by_cases q : x = c
    · subst q; exact c5 k
    · rw [h1 (59 + 9 * x + 4) (by omega)] at k
      rw [h1 (59 + 9 * x + 2) (by omega), h1 (59 + 9 * x + 5) (by omega), h1 (59 + 9 * x + 3) (by omega)]; exact h.po x a b k
  · rw [h1 (59 + 9 * x + 6) (by omega)] at k
    have w := h.ow x a b k
    rw [f14, h1 (59 + 9 * x + 7) (by omega)]
    by_cases q : x = c
    · subst q; have := c6 k; exact ⟨this.1, this.2, w.2.2⟩
    · rw [h1 (59 + 9 * x + 2) (by omega), h1 (59 + 9 * x) (by omega)]; exact w
  · rw [h1 (59 + 9 * u + 6) (by omega)] at k
    rw [h1 (59 + 9 * v + 6) (by omega)] at l
    rw [h1 (59 + 9 * u + 7) (by omega), h1 (59 + 9 * v + 7) (by omega)] at m
    exact h.ds u v p q r s k l m
theorem R_at {P : Mem} {z : Z} {T B K v : Int} (hn : z 2 < 6) (h : RR P z T B K) : RR (cAT P v) (zAT z v) T B K := by
  obtain ⟨hR, hQ, hD, hV, hW, hI⟩ := h
  have e := hR.tn
  have w2 := hW.1
  have e2 : u1 z (23 + 3 * z 2) v 2 = z 2 := u1_ne (by omega)
  have yo : ∀ j, ¬ j = 23 + 3 * z 2 → ¬ j = 2 → zAT z v j = z j := fun j a b => by unfold zAT; rw [u1_ne b, u1_ne a]
  have y2 : zAT z v 2 = z 2 + 1 := by unfold zAT; rw [u1_at, e2]
  refine ⟨?_, ?_, ?_, ?_, ?_, ?_⟩
  · unfold cAT zAT
    rw [e2, e]
    exact RC_tn (RC_mo (t := z 2) hR (by omega))
  · exact RQ_cg hQ (by funext x; unfold cAT; rw [up_ne (by omega), up_ne (by omega)]) (by unfold cAT; rw [up_ne (by omega), up_ne (by omega)]) (fun j hj => yo _ (by omega) (by omega))
  · exact RD_cg hD (by unfold cAT; rw [up_ne (by omega), up_ne (by omega)]) (by funext x; unfold cAT; rw [up_ne (by omega), up_ne (by omega)]) (fun _ _ _ => by unfold cAT; rw [up_ne (by omega), up_ne (by omega)]) (fun e a b => ⟨yo _ (by omega) (by omega), yo _ (by omega) (by omega)⟩)
  · unfold cAT
    exact CV_13 (by omega) (CV_up (by unfold NV; omega) hV)
  · exact WI_n hW (by rw [y2]; omega) (by rw [yo _ (by omega) (by omega)]; exact hW.2.1) (fun j hj => yo _ (by omega) (by omega))
  · exact IZ_n hI (fun j hj => yo _ (by omega) (by omega)) (by omega) (by rw [yo _ (by omega) (by omega)]; omega) (fun s a b => by rw [yo _ (by omega) (by omega)]; exact hI.st s a b)
theorem R_ai {P : Mem} {z : Z} {T B K f r c : Int} (hn : z 3 < 3) (h : RR P z T B K) : RR (cAI P f r c) (zAI z f r c) T B K := by
  obtain ⟨hR, hQ, hD, hV, hW, hI⟩ := h
  have e := hR.im
  have w3 := hW.2.1
  have w2 := hW.1
  have yo : ∀ j, ¬ (41 + 6 * z 3 ≤ j ∧ j ≤ 41 + 6 * z 3 + 2) → ¬ j = 3 → zAI z f r c j = z j := fun j a b => by unfold zAI; rw [u1_ne b, u1_ne (by omega), u1_ne (by omega), u1_ne (by omega)]
  have e3 : u1 (u1 (u1 z (41 + 6 * z 3 + 0) f) (41 + 6 * z 3 + 1) r) (41 + 6 * z 3 + 2) c 3 = z 3 := by rw [u1_ne (by omega), u1_ne (by omega), u1_ne (by omega)]
  have y3 : zAI z f r c 3 = z 3 + 1 := by unfold zAI; rw [u1_at, e3]
  have co : ∀ (a : Nat) (b : Int), ¬ a = 18 → ¬ a = 19 → ¬ a = 20 → ¬ a = 17 → cAI P f r c a b = P a b := fun a b h1 h2 h3 h4 => by unfold cAI; rw [up_ne (by omega), up_ne (by omega), up_ne (by omega), up_ne (by omega)]
  refine ⟨?_, ?_, ?_, ?_, ?_, ?_⟩
  · unfold cAI zAI
    dsimp only
    rw [e3, e, Int.add_zero]
    exact RC_im (RC_co (i := z 3) (RC_ra (i := z 3) (RC_fu (i := z 3) hR (by omega)) (by omega)) (by omega))
  · exact RQ_cg hQ (by funext x; exact co _ _ (by omega) (by omega) (by omega) (by omega)) (co _ _ (by omega) (by omega) (by omega) (by omega)) (fun j hj => yo _ (by omega) (by omega))
  · exact RD_cg hD (co _ _ (by omega) (by omega) (by omega) (by omega)) (by funext x; exact co _ _ (by omega) (by omega) (by omega) (by omega)) (fun _ _ _ => co _ _ (by omega) (by omega) (by omega) (by omega)) (fun e a b => ⟨yo _ (by omega) (by omega), yo _ (by omega) (by omega)⟩)
  · unfold cAI
    exact CV_17 (by omega) (CV_up (by unfold NV; omega) (CV_up (by unfold NV; omega) (CV_up (by unfold NV; omega) hV)))
  · exact WI_n hW (by rw [yo _ (by omega) (by omega)]; exact hW.1) (by rw [y3]; omega) (fun j hj => yo _ (by omega) (by omega))
  · exact IZ_n hI (fun j hj => yo _ (by omega) (by omega)) (by rw [yo _ (by omega) (by omega)]; omega) (by omega) (fun s a b => by rw [yo _ (by omega) (by omega)]; exact hI.st s a b)
theorem R_set {P : Mem} {z : Z} {T B K s v : Int} (hs : 0 ≤ s ∧ s < 8) (hv : 0 ≤ v ∧ v ≤ 100) (h : RR P z T B K) : RR (up P 1 s v) (u1 z (15 + s) v) T B K := by
  obtain ⟨hR, hQ, hD, hV, hW, hI⟩ := h
  refine ⟨RC_set hR hs, RQ_cg hQ (by funext x; exact up_ne (by omega)) (up_ne (by omega)) (fun j hj => u1_ne (by omega)), RD_cg hD (up_ne (by omega)) (by funext x; exact up_ne (by omega)) (fun _ _ _ => up_ne (by omega)) (fun e a b => ⟨u1_ne (by omega), u1_ne (by omega)⟩), CV_up (by unfold NV; omega) hV, WI_u1 (by unfold NW; omega) hW, ?_⟩
  refine IZ_n hI (fun j hj => u1_ne (by omega)) (by rw [u1_ne (by omega)]; exact Int.le_refl _) (by rw [u1_ne (by omega)]; exact Int.le_refl _) (fun x a b => ?_)
  by_cases q : x = s
  · subst q; rw [u1_at]; exact hv
  · rw [u1_ne (by omega)]; exact hI.st x a b

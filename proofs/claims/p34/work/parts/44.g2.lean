/-! plain mathematics: policies and leases, a tick on -/
theorem RC_tc {P Q : Mem} {z y : Z} {dl : Int → Int} {c : Int} (hc : 0 ≤ c ∧ c < 64) (h : RC P z dl)
    (hQ : ∀ (a : Nat) (b : Int), ¬ (a = 7 ∧ b = c) → ¬ (a = 5 ∧ b = c) → ¬ (a = 2 ∧ b = 15) → ¬ (a = 10 ∨ a = 11 ∨ a = 12) → Q a b = P a b)
    (hy : ∀ j, ¬ (59 + 9 * c + 2 ≤ j ∧ j ≤ 59 + 9 * c + 6) → ¬ j = 11 → y j = z j)
    (q5 : Q 5 c + 1 = y (59 + 9 * c + 2)) (q7 : Q 7 c + 1 = y (59 + 9 * c + 4)) (q15 : Q 2 15 = y 11)
    (ql : 0 < y (59 + 9 * c + 2) → P 6 c = P 0 0 + y (59 + 9 * c + 3)) (qp : 0 < y (59 + 9 * c + 4) → P 8 c = P 0 0 + y (59 + 9 * c + 5)) :
    RC Q y (fun e => if e = c then 0 else dl e) := by
  refine ⟨?_, ?_, ?_, ?_, ?_, ?_, ?_, ?_, ?_, ?_, ?_, ?_, ?_, ?_, ?_, ?_, ?_, ?_, ?_, ?_, ?_, ?_, ?_⟩
  · rw [hQ _ _ (by omega) (by omega) (by omega) (by omega), hy _ (by omega) (by omega)]; exact h.t0
  · rw [hQ _ _ (by omega) (by omega) (by omega) (by omega), hy _ (by omega) (by omega)]; exact h.ht
  · rw [hQ _ _ (by omega) (by omega) (by omega) (by omega), hy _ (by omega) (by omega)]; exact h.hs
  · intro x a b; rw [hQ _ _ (by omega) (by omega) (by omega) (by omega), hy _ (by omega) (by omega)]; exact h.st x a b
  · intro x a b
    by_cases q : x = 15
    · subst q; exact q15
    · rw [hQ _ _ (by omega) (by omega) (by omega) (by omega), hy _ (by omega) (by omega)]; exact h.ta x a b
  · rw [hQ _ _ (by omega) (by omega) (by omega) (by omega), hy _ (by omega) (by omega)]; exact h.t17
  · intro x a b; rw [cOne_cg (hQ 3 0 (by omega) (by omega) (by omega) (by omega)), hy _ (by omega) (by omega)]; exact h.bit x a b
  · intro x a b; rw [hQ _ _ (by omega) (by omega) (by omega) (by omega), hy _ (by omega) (by omega)]; exact h.sg x a b
  · intro x a b
    by_cases q : x = c
    · subst q; exact q5
    · rw [hQ _ _ (by omega) (by omega) (by omega) (by omega), hy _ (by omega) (by omega)]; exact h.wh x a b
  · intro x a b k
    rw [hQ 6 x (by omega) (by omega) (by omega) (by omega), hQ 0 0 (by omega) (by omega) (by omega) (by omega)]
    dsimp only
    by_cases q : x = c
    · subst q; rw [if_pos rfl]; have := ql k; omega
    · rw [if_neg q]; rw [hy _ (by omega) (by omega)] at k ⊢; exact h.le x a b k
  · intro x a b
    by_cases q : x = c
    · subst q; exact q7
    · rw [hQ _ _ (by omega) (by omega) (by omega) (by omega), hy _ (by omega) (by omega)]; exact h.by_ x a b
  · intro x a b k
    rw [hQ 8 x (by omega) (by omega) (by omega) (by omega), hQ 0 0 (by omega) (by omega) (by omega) (by omega)]
    dsimp only
    by_cases q : x = c
    · subst q; rw [if_pos rfl]; have := qp k; omega
    · rw [if_neg q]; rw [hy _ (by omega) (by omega)] at k ⊢; exact h.po x a b k
  · intro x a b; rw [hQ _ _ (by omega) (by omega) (by omega) (by omega), hy _ (by omega) (by omega)]; exact h.ls x a b
  · rw [hQ _ _ (by omega) (by omega) (by omega) (by omega), hy _ (by omega) (by omega)]; exact h.tn
  · intro x a b; rw [hQ _ _ (by omega) (by omega) (by omega) (by omega), hy _ (by omega) (by omega)]; exact h.mo x a b
  · intro x a b; rw [hQ _ _ (by omega) (by omega) (by omega) (by omega), hy _ (by omega) (by omega)]; exact h.tl x a b
  · intro x a b; rw [hQ _ _ (by omega) (by omega) (by omega) (by omega), hy _ (by omega) (by omega)]; exact h.tp x a b
  · rw [hQ _ _ (by omega) (by omega) (by omega) (by omega), hy _ (by omega) (by omega)]; exact h.im
  · intro x a b; rw [hQ _ _ (by omega) (by omega) (by omega) (by omega), hy _ (by omega) (by omega)]; exact h.fu x a b
  · intro x a b; rw [hQ _ _ (by omega) (by omega) (by omega) (by omega), hy _ (by omega) (by omega)]; exact h.ra x a b
  · intro x a b; rw [hQ _ _ (by omega) (by omega) (by omega) (by omega), hy _ (by omega) (by omega)]; exact h.co x a b
  · intro x a b; rw [hQ _ _ (by omega) (by omega) (by omega) (by omega), hy _ (by omega) (by omega)]; exact h.pr x a b
  · intro x a b; rw [hQ _ _ (by omega) (by omega) (by omega) (by omega), hy _ (by omega) (by omega)]; exact h.cp x a b
theorem zFuc_ne {z : Z} {c j : Int} (h : ¬ (59 + 9 * c + 2 ≤ j ∧ j ≤ 59 + 9 * c + 6)) (h2 : ¬ j = 11) : zEl (zEp z c) c j = z j := by
  rw [zEl_ne (by omega), zEp_ne (by omega)]
theorem zEp_v {z : Z} {T B K c : Int} (hc : 0 ≤ c ∧ c < 64) (hI : IZ z T B) (hW : WI z K) : zEp z c (59 + 9 * c + 4) = (if 0 < z (59 + 9 * c + 4) ∧ z (59 + 9 * c + 5) = 1 then 0 else z (59 + 9 * c + 4)) ∧ zEp z c (59 + 9 * c + 5) = (if 0 < z (59 + 9 * c + 4) then z (59 + 9 * c + 5) - 1 else z (59 + 9 * c + 5)) := by
  have h4 := hW.2.2.2.1 c hc.1 hc.2
  unfold zEp
  rw [wr_id' (x := z (59 + 9 * c + 4)) (by omega) (by omega)]
  by_cases q : 0 < z (59 + 9 * c + 4)
  · rw [if_pos q, if_pos q]
    have p := hI.po c hc.1 hc.2 q
    have l := hI.le c hc.1 hc.2 p.1
    have a0 : u1 z (59 + 9 * c + 5) (z (59 + 9 * c + 5) - 1) (59 + 9 * c + 4) = z (59 + 9 * c + 4) := u1_ne (by omega)
    unfold zEp1
    rw [u1_at, a0, u1_at, u1_ne (by omega), u1_at, wr_id' (by omega) (by omega)]
    refine ⟨?_, rfl⟩
    by_cases r : z (59 + 9 * c + 5) = 1
    · rw [if_pos (by omega), if_pos ⟨q, r⟩]
    · rw [if_neg (by omega), if_neg (fun w => r w.2)]
  · rw [if_neg q, if_neg q, if_neg (fun w => q w.1)]; exact ⟨rfl, rfl⟩
theorem zEl_v {z : Z} {T B K c : Int} (hc : 0 ≤ c ∧ c < 64) (hI : 0 < z (59 + 9 * c + 2) → 1 ≤ z (59 + 9 * c + 3) ∧ z (59 + 9 * c + 3) ≤ 200) (hW : 0 ≤ z (59 + 9 * c + 2) ∧ z (59 + 9 * c + 2) ≤ 6) :
    zEl z c (59 + 9 * c + 2) = (if 0 < z (59 + 9 * c + 2) ∧ z (59 + 9 * c + 3) = 1 then 0 else z (59 + 9 * c + 2)) ∧ zEl z c (59 + 9 * c + 3) = (if 0 < z (59 + 9 * c + 2) then z (59 + 9 * c + 3) - 1 else z (59 + 9 * c + 3)) ∧
    zEl z c (59 + 9 * c + 6) = (if 0 < z (59 + 9 * c + 2) ∧ z (59 + 9 * c + 3) = 1 then 0 else z (59 + 9 * c + 6)) ∧ zEl z c 11 = z 11 + (if 0 < z (59 + 9 * c + 2) ∧ z (59 + 9 * c + 3) = 1 then bI (zOw z c) else 0) := by
  unfold zEl
  by_cases q : 0 < z (59 + 9 * c + 2)
  · have l := hI q
    rw [if_pos ((zLs_p hW).mpr q)]
    have e3 : zEl1 z c (59 + 9 * c + 3) = z (59 + 9 * c + 3) - 1 := u1_at
    have eo : ∀ j, ¬ j = 59 + 9 * c + 3 → zEl1 z c j = z j := fun j h => u1_ne (by omega)
    rw [e3, wr_id' (by omega) (by omega)]
    by_cases r : z (59 + 9 * c + 3) = 1
    · rw [if_pos (by omega), if_pos ⟨q, r⟩, if_pos q, if_pos ⟨q, r⟩, if_pos ⟨q, r⟩]
      have e6 : zOw (u1 (zEl1 z c) (59 + 9 * c + 2) 0) c = zOw z c := by unfold zOw; rw [u1_ne (by omega), eo _ (by omega)]
      unfold zEl2
      rw [e6]
      refine ⟨?_, ?_, ?_, ?_⟩
      · rw [u1_ne (by omega), u1_ne (by omega), u1_at]
      · rw [u1_ne (by omega), u1_ne (by omega), u1_ne (by omega)]; exact e3
      · rw [u1_at]
      · rw [u1_ne (by omega), u1_at, u1_ne (by omega), eo _ (by omega)]
    · rw [if_neg (by omega), if_neg (fun w => r w.2), if_pos q, if_neg (fun w => r w.2), if_neg (fun w => r w.2)]
      exact ⟨eo _ (by omega), e3, eo _ (by omega), by rw [eo _ (by omega)]; omega⟩
  · rw [if_neg (fun w => q ((zLs_p hW).mp w)), if_neg (fun w => q w.1), if_neg q, if_neg (fun w => q w.1), if_neg (fun w => q w.1)]
    exact ⟨rfl, rfl, rfl, by omega⟩
theorem cnt_le' {p q : Int → Bool} (h : ∀ e, 0 ≤ e → e < 64 → q e = true → p e = true) : cntF q 64 0 0 ≤ cntF p 64 0 0 := by
  have e : cntF q 64 0 0 = cntF (fun e => q e && decide (0 ≤ e ∧ e < 64)) 64 0 0 := (cnt_cg 64 0 0 (fun e a b => by rw [decide_eq_true (show 0 ≤ e ∧ e < 64 by omega)]; simp))
  rw [e]
  refine cnt_le (fun e k => ?_) 64 0 0 0 (Int.le_refl _)
  have k2 := Bool.and_eq_true_iff.mp k
  have k3 := of_decide_eq_true k2.2
  exact h e k3.1 k3.2 k2.1
theorem IZ_tc {z y : Z} {T B c : Int} (hc : 0 ≤ c ∧ c < 64) (h : IZ z T B) (hy : ∀ j, ¬ (59 + 9 * c + 2 ≤ j ∧ j ≤ 59 + 9 * c + 6) → ¬ j = 11 → y j = z j)
    (y2 : y (59 + 9 * c + 2) = (if 0 < z (59 + 9 * c + 2) ∧ z (59 + 9 * c + 3) = 1 then 0 else z (59 + 9 * c + 2))) (y3 : y (59 + 9 * c + 3) = (if 0 < z (59 + 9 * c + 2) then z (59 + 9 * c + 3) - 1 else z (59 + 9 * c + 3)))
    (y4 : y (59 + 9 * c + 4) = (if 0 < z (59 + 9 * c + 4) ∧ z (59 + 9 * c + 5) = 1 then 0 else z (59 + 9 * c + 4))) (y5 : y (59 + 9 * c + 5) = (if 0 < z (59 + 9 * c + 4) then z (59 + 9 * c + 5) - 1 else z (59 + 9 * c + 5)))
    (y6 : y (59 + 9 * c + 6) = (if 0 < z (59 + 9 * c + 2) ∧ z (59 + 9 * c + 3) = 1 then 0 else z (59 + 9 * c + 6))) : IZ y T B := by
  have f2 := hy 2 (by omega) (by omega)
  have f3 := hy 3 (by omega) (by omega)
  have f14 := hy 14 (by omega) (by omega)
  have wc := h.wh c hc.1 hc.2
  have bc := h.by_ c hc.1 hc.2
  have lc := h.le c hc.1 hc.2
  have pc := h.po c hc.1 hc.2
  have dc := h.du c hc.1 hc.2
  have hn : zOwN y ≤ zOwN z := cnt_le' (fun e a b q => by
    by_cases f : e = c
    · subst f
      unfold zOw at q ⊢
      rw [y6] at q
      by_cases g : 0 < z (59 + 9 * e + 2) ∧ z (59 + 9 * e + 3) = 1
      · rw [if_pos g] at q; cases q
      · rw [if_neg g] at q; exact q
    · unfold zOw at q ⊢; rw [hy _ (by omega) (by omega)] at q; exact q)
  refine ⟨by rw [hy 0 (by omega) (by omega)]; exact h.t0, h.tT, by rw [hy 1 (by omega) (by omega)]; exact h.ht, fun s a b => by rw [hy _ (by omega) (by omega)]; exact h.st s a b, fun x a b => by rw [hy _ (by omega) (by omega)]; exact h.sg x a b, fun x a b => ?_, fun x a b k => ?_, fun x a b => ?_, fun x a b k => ?_, fun x a b => ?_, fun x a b k => ?_, fun u v p q r s k l m => ?_, by rw [f14]; exact h.sb, h.sB, ?_⟩
  · by_cases f : x = c
    · subst f; rw [y2, f2]; split <;> omega
    · rw [hy _ (by omega) (by omega), f2]; exact h.wh x a b
  · by_cases f : x = c
    · subst f; rw [y2] at k; rw [y3]
      by_cases g : 0 < z (59 + 9 * x + 2) ∧ z (59 + 9 * x + 3) = 1
      · rw [if_pos g] at k; omega
      · rw [if_neg g] at k; rw [if_pos k]; have := lc k; omega
    · rw [hy _ (by omega) (by omega)] at k ⊢; exact h.le x a b k
  · by_cases f : x = c
    · subst f; rw [y4, f3]; split <;> omega
    · rw [hy _ (by omega) (by omega), f3]; exact h.by_ x a b
  · by_cases f : x = c
    · subst f; rw [y4] at k; rw [y2, y3, y5]
      by_cases g : 0 < z (59 + 9 * x + 4) ∧ z (59 + 9 * x + 5) = 1
      · rw [if_pos g] at k; omega
      · rw [if_neg g] at k
        have p := pc k
        rw [if_pos k, if_pos p.1, if_neg (by omega)]; omega
    · rw [hy (59 + 9 * x + 4) (by omega) (by omega)] at k
      rw [hy (59 + 9 * x + 2) (by omega) (by omega), hy (59 + 9 * x + 5) (by omega) (by omega), hy (59 + 9 * x + 3) (by omega) (by omega)]; exact h.po x a b k
  · by_cases f : x = c
    · subst f; rw [y6]; split <;> omega
    · rw [hy _ (by omega) (by omega)]; exact h.du x a b
  · rw [f14, hy (59 + 9 * x) (by omega) (by omega), hy (59 + 9 * x + 7) (by omega) (by omega)]
    by_cases f : x = c
    · subst f; rw [y6] at k; rw [y2]
      by_cases g : 0 < z (59 + 9 * x + 2) ∧ z (59 + 9 * x + 3) = 1
      · rw [if_pos g] at k; omega
      · rw [if_neg g] at k ⊢; exact h.ow x a b k
    · rw [hy _ (by omega) (by omega)] at k ⊢; exact h.ow x a b k
  · rw [hy (59 + 9 * u + 7) (by omega) (by omega), hy (59 + 9 * v + 7) (by omega) (by omega)] at m
    have d6 : ∀ x, 0 ≤ x → x < 64 → 0 < y (59 + 9 * x + 6) → 0 < z (59 + 9 * x + 6) := fun x a b k => by
      by_cases f : x = c
      · subst f; rw [y6] at k
        by_cases g : 0 < z (59 + 9 * x + 2) ∧ z (59 + 9 * x + 3) = 1
        · rw [if_pos g] at k; omega
        · rw [if_neg g] at k; exact k
      · rw [hy _ (by omega) (by omega)] at k; exact k
    exact h.ds u v p q r s (d6 u p q k) (d6 v r s l) m
  · have bk := h.bk
    rw [hy 6 (by omega) (by omega), hy 5 (by omega) (by omega)]; omega

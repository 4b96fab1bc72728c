/-! plain mathematics: reading -/
theorem cEnF_fr {c t : Int} : ∀ (k : Nat) (P : Mem) (a : Nat) (j : Int), (¬ a = 11 ∨ (k : Int) < j) → cEnF c t k P a j = P a j := by
  intro k
  induction k with
  | zero => intro P a j h; rw [cEnF, up_ne (by omega)]
  | succ k ih =>
    intro P a j h
    rw [cEnF]
    split
    · rw [ih _ _ _ (by omega), up_ne (by omega)]
    · rw [up_ne (by omega)]
theorem cDu_up {P : Mem} {j v x : Int} : cDu (up P 11 j v) x = cDu P x := by unfold cDu; rw [up_ne (by omega)]
theorem cEnF_l {c t : Int} : ∀ (k : Nat) (P : Mem), ∃ l1 l2, seg (P 11) 0 k = l1 ++ l2 ∧ seg (cEnF c t k P 11) 0 (k + 1) = l1 ++ c :: l2 ∧ (∀ x, x ∈ l2 → wr t < wr (cDu P x)) ∧ (l1 = [] ∨ ∃ y l, l1 = l ++ [y] ∧ ¬ wr t < wr (cDu P y)) := by
  intro k
  induction k with
  | zero =>
    intro P
    refine ⟨[], [], rfl, ?_, fun x hx => absurd hx List.not_mem_nil, .inl rfl⟩
    rw [cEnF, seg, seg, show ((0 : Nat) : Int) = 0 from rfl, up_at]; rfl
  | succ k ih =>
    intro P
    rw [cEnF]
    by_cases h : wr t < wr (cDu P (P 11 (k : Int)))
    · rw [if_pos h]
      obtain ⟨l1, l2, a, b, d, e⟩ := ih (up P 11 ((k + 1 : Nat) : Int) (P 11 (k : Int)))
      have s1 : seg (up P 11 ((k + 1 : Nat) : Int) (P 11 (k : Int)) 11) 0 k = seg (P 11) 0 k := seg_cg _ _ (fun j h1 h2 => up_ne (by omega))
      refine ⟨l1, l2 ++ [P 11 (k : Int)], ?_, ?_, fun x hx => ?_, ?_⟩
      · rw [seg_app, ← s1, a, List.append_assoc, show (0 : Int) + (k : Int) = k by omega]
      · rw [seg_app, b, cEnF_fr _ _ _ _ (by omega), show (0 : Int) + ((k + 1 : Nat) : Int) = ((k + 1 : Nat) : Int) by omega, up_at]; simp
      · rcases List.mem_append.mp hx with q | q
        · have := d x q; rw [cDu_up] at this; exact this
        · rw [List.mem_singleton.mp q]; exact h
      · rcases e with e | ⟨y, l, e, f⟩
        · exact .inl e
        · exact .inr ⟨y, l, e, by rw [cDu_up] at f; exact f⟩
    · rw [if_neg h]
      refine ⟨seg (P 11) 0 (k + 1), [], by simp, ?_, fun x hx => absurd hx List.not_mem_nil, .inr ⟨P 11 (k : Int), seg (P 11) 0 k, by rw [seg_app, show (0 : Int) + (k : Int) = k by omega], h⟩⟩
      rw [seg_app (k + 1), show (0 : Int) + ((k + 1 : Nat) : Int) = ((k + 1 : Nat) : Int) by omega, up_at]
      congr 1
      exact seg_cg _ _ (fun j h1 h2 => up_ne (by omega))
theorem zOwN_lt {z : Z} {c : Int} (hc : 0 ≤ c ∧ c < 64) (h : zOw z c = false) : zOwN z ≤ 63 := by
  have h1 := cnt_not (p := zOw z) 64 0 0 0
  have h2 := cnt_pos (p := fun e => !zOw z e) (k := c) (by simp [h]) 64 0 0 (by omega) (by omega)
  unfold zOwN; omega
theorem RD_ent {P : Mem} {z y : Z} {T B c t : Int} (hc : 0 ≤ c ∧ c < 64) (h : RD P z) (hI : IZ z T B) (hV : CV P) (ho : ¬ 0 < z (59 + 9 * c + 6)) (ht : 0 ≤ t ∧ t ≤ T + 100) (hy : ∀ e, 0 ≤ e → e < 64 → y (59 + 9 * e + 6) = (if e = c then t + 1 else z (59 + 9 * e + 6)) ∧ y (59 + 9 * e + 7) = if e = c then z 14 else z (59 + 9 * e + 7)) : RD (cEnt P c t) y := by
  have hq : cOw P c = false := by
    cases q : cOw P c with
    | false => rfl
    | true => exact (ho ((cOw_e hc h hI).mp q)).elim
  have hz : zOw z c = false := by
    cases q : zOw z c with
    | false => rfl
    | true => exact (ho ((zOw_e hc hI).mp q)).elim
  have hn := (RD_ord h hI hV (fun _ => 0)).2
  have hl := zOwN_lt hc hz
  have hd := hV.2.2.2.1.1
  have hT := hI.tT
  have ent : cEnt P c t = (let P2 := up (cEnF c t (P 10 0).toNat P) 12 c t; up P2 10 0 (P2 10 0 + 1)) := by unfold cEnt; rw [if_neg (by rw [hq]; simp; omega)]
  have e10 : cEnt P c t 10 0 = P 10 0 + 1 := by rw [ent]; simp only []; rw [up_at, up_ne (by omega), cEnF_fr _ _ _ _ (by omega)]
  have e11 : cEnt P c t 11 = cEnF c t (P 10 0).toNat P 11 := by rw [ent]; simp only []; rw [up_ne' (by decide), up_ne' (by decide)]
  have e12 : ∀ e, cEnt P c t 12 e = if e = c then t else P 12 e := fun e => by
    rw [ent]; simp only []; rw [up_ne (by omega)]
    by_cases q : e = c
    · rw [if_pos q, q, up_at]
    · rw [if_neg q, up_ne (by omega), cEnF_fr _ _ _ _ (by omega)]
  obtain ⟨l1, l2, a, b, d, f⟩ := cEnF_l (c := c) (t := t) (P 10 0).toNat P
  have eL : dL (cEnt P c t) = l1 ++ c :: l2 := by unfold dL; rw [e10, e11, show (P 10 0 + 1).toNat = (P 10 0).toNat + 1 by omega, b]
  obtain ⟨⟨p1, p2⟩, p3⟩ := h
  have a' : dL P = l1 ++ l2 := a
  have mem : ∀ x, x ∈ l1 ++ l2 → (0 ≤ x ∧ x < 64) ∧ 0 < z (59 + 9 * x + 6) := fun x hx => (p2 x).mp (by rw [a']; exact hx)
  have ne : ∀ x, x ∈ l1 ++ l2 → ¬ x = c := fun x hx q => by have := mem x hx; rw [q] at this; exact ho this.2
  have du : ∀ x, x ∈ l1 ++ l2 → wr (cDu P x) = z (59 + 9 * x + 6) - 1 := fun x hx => by
    have m := mem x hx
    have h1 := p3 x m.1.1 m.1.2
    have h2 := hI.du x m.1.1 m.1.2
    unfold cDu
    rw [if_pos (wi_t ⟨by omega, by omega⟩), wr_id' (by omega) (by omega)]; omega
  have wt : wr t = t := wr_id' (by omega) (by omega)
  refine ⟨⟨?_, fun x => ?_⟩, fun x k1 k2 => ?_⟩
  · rw [eL]
    refine ins_pw (R := zB y) (fun _ _ _ => zB_tr) ?_ (fun x hx => ?_) ?_
    · rw [← a']
      refine List.Pairwise.imp_of_mem (fun {u v} hu hv r => ?_) p1
      rw [a'] at hu hv
      have m1 := (mem u hu).1
      have m2 := (mem v hv).1
      have y1 := hy u m1.1 m1.2
      have y2 := hy v m2.1 m2.2
      rw [if_neg (ne u hu), if_neg (ne u hu)] at y1
      rw [if_neg (ne v hv), if_neg (ne v hv)] at y2
      unfold zB at *
      rw [y1.1, y1.2, y2.1, y2.2]; exact r
    · have hx' := List.mem_append.mpr (Or.inr (a := x ∈ l1) hx)
      have m := (mem x hx').1
      have w := d x hx
      rw [du x hx', wt] at w
      have y1 := hy c hc.1 hc.2
      have y2 := hy x m.1 m.2
      rw [if_pos rfl, if_pos rfl] at y1
      rw [if_neg (ne x hx'), if_neg (ne x hx')] at y2
      unfold zB
      rw [y1.1, y2.1]; omega
    · rcases f with f | ⟨v, l, f, g⟩
      · exact .inl f
      · right
        refine ⟨v, l, f, ?_⟩
        have hx' : v ∈ l1 ++ l2 := List.mem_append.mpr (.inl (by rw [f]; simp))
        have m := mem v hx'
        rw [du v hx', wt] at g
        have y1 := hy c hc.1 hc.2
        have y2 := hy v m.1.1 m.1.2
        rw [if_pos rfl, if_pos rfl] at y1
        rw [if_neg (ne v hx'), if_neg (ne v hx')] at y2
        have o := hI.ow v m.1.1 m.1.2 m.2
        unfold zB
        rw [y1.1, y1.2, y2.1, y2.2]; omega
  · have e1 : x ∈ l1 ++ c :: l2 ↔ x = c ∨ x ∈ dL P := by rw [a']; simp only [List.mem_append, List.mem_cons]; grind
    rw [eL, e1, p2 x]
    constructor
    · rintro (r | ⟨r1, r2⟩)
      · subst r; refine ⟨hc, ?_⟩; rw [(hy x hc.1 hc.2).1, if_pos rfl]; omega
      · refine ⟨r1, ?_⟩
        rw [(hy x r1.1 r1.2).1]
        split <;> omega
    · rintro ⟨r1, r2⟩
      rw [(hy x r1.1 r1.2).1] at r2
      by_cases q : x = c
      · exact .inl q
      · rw [if_neg q] at r2; exact .inr ⟨r1, r2⟩
  · have := p3 x k1 k2
    rw [e12, (hy x k1 k2).1]
    split <;> omega
theorem zRd2_j {z : Z} {c j : Int} (hc : 0 ≤ c ∧ c < 64) : zRd2 z c j = if j = 5 then z 5 + 1 else if j = 14 then z 14 + 1 else if j = 59 + 9 * c + 7 then z 14 else if j = 59 + 9 * c + 6 then z 0 + z 18 + 1 else if j = 59 + 9 * c then 0 else z j := by
  unfold zRd2
  simp only [u1_e, Int.add_zero]
  grind
theorem R_rd {P : Mem} {z : Z} {T B K c : Int} (hc : 0 ≤ c ∧ c < 64) (hcr : zCR z c = true) (hB : B + 1 ≤ 1000000) (h : RR P z T B K) : RR (cRd P c) (zRd z c) T (B + 1) K := by
  obtain ⟨hR, hQ, hD, hV, hW, hI⟩ := h
  have hs := hI.st 2 (by decide) (by decide)
  obtain ⟨r1, r2, r3⟩ := R_pul (K := K) (b := z (15 + 2)) hc (hR.st 2 (by decide) (by decide)) (by omega) hR hQ hV hW hI
  have w1 : WI (zPul z c (z (15 + 2))) K := WI_pul hc hW
  have v1 : CV (cPul P c (P 1 2)) := CV_pul hV
  have d1 : RD (cPul P c (P 1 2)) (zPul z c (z (15 + 2))) := RD_pul hc hW hD (fun _ _ _ => ⟨rfl, rfl⟩)
  have hwh := hW.2.2.2.1 c hc.1 hc.2
  have l1 : 0 < zPul z c (z (15 + 2)) (59 + 9 * c + 2) := by
    rw [zPul_fr hc hW (by omega)]
    unfold zCR at hcr
    exact (zLs_p hwh.1).mp (Bool.and_eq_true_iff.mp hcr).1
  have l2 : ¬ 0 < zPul z c (z (15 + 2)) (59 + 9 * c + 6) := by
    rw [zPul_fr hc hW (by omega)]
    intro q
    unfold zCR at hcr
    have := (Bool.and_eq_true_iff.mp hcr).2
    rw [(zOw_e hc hI).mpr q] at this
    cases this
  suffices hS : RC (cRd P c) (zRd z c) D0 ∧ RQ (cRd P c) (zRd z c) ∧ RD (cRd P c) (zRd z c) ∧ IZ (zRd z c) T (B + 1) from ⟨hS.1, hS.2.1, hS.2.2.1, CV_rd hc hV, WI_rd hc hW, hS.2.2.2⟩
  unfold cRd zRd cRdA zRd1
  generalize cPul P c (P 1 2) = Q at *
  generalize zPul z c (z (15 + 2)) = x at *
  have e8 := r1.ta 8 (by decide) (by decide)
  rw [show (8 - 4 : Int) = 4 by decide] at e8
  have R2 : RC (up Q 2 8 (Q 2 8 + 1)) (u1 x 4 (x 4 + 1)) D0 := by rw [e8]; exact RC_tally (w := 8) r1 (by omega)
  have Q2 : RQ (up Q 2 8 (Q 2 8 + 1)) (u1 x 4 (x 4 + 1)) := RQ_cg r2 (by funext j; exact up_ne (by omega)) (up_ne (by omega)) (fun j hj => u1_ne (by omega))
  have D2 : RD (up Q 2 8 (Q 2 8 + 1)) (u1 x 4 (x 4 + 1)) := RD_cg d1 (up_ne (by omega)) (funext fun x => up_ne (by omega)) (fun _ _ _ => up_ne (by omega)) (fun e a b => ⟨u1_ne (by omega), u1_ne (by omega)⟩)
  have V2 : CV (up Q 2 8 (Q 2 8 + 1)) := CV_up (by unfold NV; omega) v1
  have I2 : IZ (u1 x 4 (x 4 + 1)) T B := IZ_cg r3 (fun j hj => u1_ne (by omega)) (by rw [u1_ne (by omega)]; exact r3.ht) (fun e a b => ⟨by rw [u1_ne (by omega)]; exact r3.sg e a b, u1_ne (by omega), u1_ne (by omega), .inr ⟨u1_ne (by omega), u1_ne (by omega)⟩, u1_ne (by omega), u1_ne (by omega), fun k => by rw [u1_ne (by omega)]; exact k⟩)
  have l1' : 0 < u1 x 4 (x 4 + 1) (59 + 9 * c + 2) := by rw [u1_ne (by omega)]; exact l1
  have l2' : ¬ 0 < u1 x 4 (x 4 + 1) (59 + 9 * c + 6) := by rw [u1_ne (by omega)]; exact l2
  generalize up Q 2 8 (Q 2 8 + 1) = S at *
  generalize u1 x 4 (x 4 + 1) = y at *
  have hb := R2.bit c hc.1 hc.2
  have hb' : y (59 + 9 * c + 0) = bI (cOne S c) := by rw [Int.add_zero]; exact hb.symm
  rw [hb']
  have Iw : IZ y T (B + 1) := by
    obtain ⟨a1, a2, a3, a4, a5, a6, a7, a8, a9, a10, a11, a12, a13, a14, a15⟩ := I2
    exact ⟨a1, a2, a3, a4, a5, a6, a7, a8, a9, a10, a11, a12, by omega, hB, by omega⟩
  cases ho : cOne S c with
  | false => rw [if_neg (by decide), if_neg (by decide)]; exact ⟨R2, Q2, D2, Iw⟩
  | true =>
    rw [if_pos rfl, if_pos (by decide)]
    have e9 := R2.ta 9 (by decide) (by decide)
    rw [show (9 - 4 : Int) = 5 by decide] at e9
    have t0 := R2.t0
    have t3 := R2.st 3 (by decide) (by decide)
    have i0 := I2.t0
    have i3 := I2.st 3 (by decide) (by decide)
    rw [show (15 + 3 : Int) = 18 by decide] at t3 i3
    have x0 : cRdB S c 0 0 = S 0 0 := by unfold cRdB cPut; rw [up_ne (by omega), up_ne (by omega)]
    have x3 : cRdB S c 1 3 = S 1 3 := by unfold cRdB cPut; rw [up_ne (by omega), up_ne (by omega)]
    have R3 : RC (cRdB S c) (u1 (u1 y 5 (y 5 + 1)) (59 + 9 * c) (bI false)) D0 := by
      unfold cRdB
      rw [e9]
      exact RC_bit (RC_tally (w := 9) R2 (by omega)) hc
    have V3 : CV (cRdB S c) := CV_put (CV_up (by unfold NV; omega) V2)
    have D3 : RD (cRdB S c) y := RD_cg D2 (by unfold cRdB cPut; rw [up_ne (by omega), up_ne (by omega)]) (funext fun x => by unfold cRdB cPut; rw [up_ne (by omega), up_ne (by omega)]) (fun _ _ _ => by unfold cRdB cPut; rw [up_ne (by omega), up_ne (by omega)]) (fun _ _ _ => ⟨rfl, rfl⟩)
    rw [x0, x3, t0, t3]
    refine ⟨?_, ?_, ?_, ?_⟩
    · refine RC_cg (RC_zo (j := 14) (v := y 14 + 1) (RC_zo (j := 59 + 9 * c + 7) (v := y 14) (RC_zo (j := 59 + 9 * c + 6) (v := y 0 + y 18 + 1) (RC_dd R3 (fun a b q => cEnt_o (c := c) (t := y 0 + y 18) (by omega))) (by unfold ZO; omega)) (by unfold ZO; omega)) (by unfold ZO; omega)) rfl ?_
      funext j
      rw [zRd2_j hc]
      simp only [u1_e, bI_ff]
      grind
    · exact RQ_cg Q2 (by funext j; rw [cEnt_o (by omega)]; unfold cRdB cPut; rw [up_ne (by omega), up_ne (by omega)]) (by rw [cEnt_o (by omega)]; unfold cRdB cPut; rw [up_ne (by omega), up_ne (by omega)]) (fun j hj => by rw [zRd2_j hc]; grind)
    · refine RD_ent hc D3 I2 V3 l2' (by omega) (fun e a b => ?_)
      rw [zRd2_j hc, zRd2_j hc]
      grind
    · have f : ∀ j, ¬ j = 5 → ¬ j = 14 → ¬ j = 59 + 9 * c + 7 → ¬ j = 59 + 9 * c + 6 → ¬ j = 59 + 9 * c → zRd2 y c j = y j := fun j h1 h2 h3 h4 h5 => by rw [zRd2_j hc, if_neg h1, if_neg h2, if_neg h3, if_neg h4, if_neg h5]
      have f5 : zRd2 y c 5 = y 5 + 1 := by rw [zRd2_j hc, if_pos rfl]
      have f14 : zRd2 y c 14 = y 14 + 1 := by rw [zRd2_j hc, if_neg (by omega), if_pos rfl]
      have f7 : zRd2 y c (59 + 9 * c + 7) = y 14 := by rw [zRd2_j hc, if_neg (by omega), if_neg (by omega), if_pos rfl]
      have f6 : zRd2 y c (59 + 9 * c + 6) = y 0 + y 18 + 1 := by rw [zRd2_j hc, if_neg (by omega), if_neg (by omega), if_neg (by omega), if_pos rfl]
      have f0 : zRd2 y c (59 + 9 * c) = 0 := by rw [zRd2_j hc, if_neg (by omega), if_neg (by omega), if_neg (by omega), if_neg (by omega), if_pos rfl]
      have hn : zOwN (zRd2 y c) ≤ zOwN y + 1 := by
        have := zOwN_upd (z := y) (y := zRd2 y c) hc (fun e he => by unfold zOw; rw [f _ (by omega) (by omega) (by omega) (by omega) (by omega)]) 
        have := bI_01 (zOw y c)
        have := bI_01 (zOw (zRd2 y c) c)
        omega
      have sb := I2.sb
      refine ⟨by rw [f 0 (by omega) (by omega) (by omega) (by omega) (by omega)]; exact i0, I2.tT, by rw [f 1 (by omega) (by omega) (by omega) (by omega) (by omega)]; exact I2.ht, fun s a b => by rw [f _ (by omega) (by omega) (by omega) (by omega) (by omega)]; exact I2.st s a b, fun e a b => by rw [f _ (by omega) (by omega) (by omega) (by omega) (by omega)]; exact I2.sg e a b, fun e a b => by rw [f _ (by omega) (by omega) (by omega) (by omega) (by omega), f 2 (by omega) (by omega) (by omega) (by omega) (by omega)]; exact I2.wh e a b, fun e a b k => ?_, fun e a b => by rw [f _ (by omega) (by omega) (by omega) (by omega) (by omega), f 3 (by omega) (by omega) (by omega) (by omega) (by omega)]; exact I2.by_ e a b, fun e a b k => ?_, fun e a b => ?_, fun e a b k => ?_, fun u v p q r s k l m => ?_, by rw [f14]; omega, hB, ?_⟩
      · rw [f _ (by omega) (by omega) (by omega) (by omega) (by omega)] at k ⊢; exact I2.le e a b k
      · rw [f _ (by omega) (by omega) (by omega) (by omega) (by omega)] at k
        rw [f _ (by omega) (by omega) (by omega) (by omega) (by omega), f _ (by omega) (by omega) (by omega) (by omega) (by omega), f _ (by omega) (by omega) (by omega) (by omega) (by omega)]
        exact I2.po e a b k
      · by_cases q : e = c
        · subst q; rw [f6]; omega
        · rw [f _ (by omega) (by omega) (by omega) (by omega) (by omega)]; exact I2.du e a b
      · rw [f14, f _ (by omega) (by omega) (by omega) (by omega) (by omega)]
        by_cases q : e = c
        · subst q; rw [f7, f0]; exact ⟨l1', rfl, by omega, by omega⟩
        · rw [f _ (by omega) (by omega) (by omega) (by omega) (by omega)] at k
          rw [f _ (by omega) (by omega) (by omega) (by omega) (by omega), f _ (by omega) (by omega) (by omega) (by omega) (by omega)]
          have := I2.ow e a b k; omega
      · by_cases qu : u = c
        · by_cases qv : v = c
          · omega
          · subst qu
            rw [f _ (by omega) (by omega) (by omega) (by omega) (by omega)] at l
            rw [f7, f _ (by omega) (by omega) (by omega) (by omega) (by omega)] at m
            have := I2.ow v r s l; omega
        · by_cases qv : v = c
          · subst qv
            rw [f _ (by omega) (by omega) (by omega) (by omega) (by omega)] at k
            rw [f7, f _ (by omega) (by omega) (by omega) (by omega) (by omega)] at m
            have := I2.ow u p q k; omega
          · rw [f _ (by omega) (by omega) (by omega) (by omega) (by omega)] at k l
            rw [f _ (by omega) (by omega) (by omega) (by omega) (by omega), f _ (by omega) (by omega) (by omega) (by omega) (by omega)] at m
            exact I2.ds u v p q r s k l m
      · have bk := I2.bk
        rw [f5, f 6 (by omega) (by omega) (by omega) (by omega) (by omega)]; omega

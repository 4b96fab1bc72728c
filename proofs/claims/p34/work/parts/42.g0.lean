/-! plain mathematics: bringing back -/
theorem zPuF_b0 {K k e : Int} (he : 0 ≤ e ∧ e < 64) : ∀ (d : Nat) (c : Int) (z : Z), c + d = 64 → 0 ≤ c → WI z K → z (59 + 9 * e) = 0 → zPuF k d c z (59 + 9 * e) = 0 := by
  intro d
  induction d with
  | zero => intro c z _ _ _ h; exact h
  | succ d ih =>
    intro c z h1 h2 hW h
    have hc : 0 ≤ c ∧ c < 64 := by omega
    rw [zPuF]
    split
    · have wz := WI_lz (w := 13) hc (by omega) hW
      rw [zPd_z hc]
      refine ih _ _ (by omega) (by omega) (WI_lo hc wz) ?_
      rw [zLo_fr2 hc wz (by omega)]
      by_cases q : e = c
      · subst q; exact zLz_b hc (by omega)
      · rw [zLz_o (by omega)]; exact h
    · exact ih _ _ (by omega) (by omega) hW h
theorem zPul_b0 {z : Z} {K k b e : Int} (hk : 0 ≤ k ∧ k < 64) (he : 0 ≤ e ∧ e < 64) (hW : WI z K) (h : z (59 + 9 * e) = 0) : zPul z k b (59 + 9 * e) = 0 := by
  unfold zPul
  rw [u1_ne (by omega)]
  exact zPuF_b0 he 64 0 _ (by omega) (by omega) (WI_u1 (by unfold NW; omega) hW) (by rw [u1_ne (by omega)]; exact h)
theorem u1_same {z : Z} {i v : Int} (h : z i = v) : u1 z i v = z := by funext x; unfold u1; grind
theorem zOwN_out {z : Z} {T B c : Int} (hc : 0 ≤ c ∧ c < 64) (h : IZ z T B) (ho : 0 < z (59 + 9 * c + 6)) : zOwN (u1 z (59 + 9 * c + 6) 0) = zOwN z - 1 := by
  have := zOwN_upd (z := z) (y := u1 z (59 + 9 * c + 6) 0) hc (fun e he => by unfold zOw; rw [u1_ne (by omega)])
  rw [(zOw_e hc h).mpr ho, show zOw (u1 z (59 + 9 * c + 6) 0) c = false from by unfold zOw; rw [u1_at]; rfl, bI_tt, bI_ff] at this
  omega
theorem IZ_out {z : Z} {T B c : Int} (hc : 0 ≤ c ∧ c < 64) (h : IZ z T B) (ho : 0 < z (59 + 9 * c + 6)) : IZ (u1 z (59 + 9 * c + 6) 0) T B := by
  have e := zOwN_out hc h ho
  have bk := h.bk
  refine IZ_gen h (fun j hj => u1_ne (by omega)) (by rw [u1_ne (by omega)]; exact h.ht) (by rw [e, u1_ne (by omega), u1_ne (by omega)]; omega) (fun x a b => ⟨by rw [u1_ne (by omega)]; exact h.sg x a b, u1_ne (by omega), u1_ne (by omega), .inr ⟨u1_ne (by omega), u1_ne (by omega)⟩, ?_, u1_ne (by omega), fun _ k => by rw [u1_ne (by omega)]; exact k⟩)
  by_cases q : x = c
  · subst q; right; exact u1_at
  · left; exact u1_ne (by omega)
theorem dL_head {P : Mem} (hn : 0 < P 10 0) : dL P = P 11 0 :: seg (P 11) 1 ((P 10 0).toNat - 1) := by
  unfold dL
  obtain ⟨n, hn2⟩ : ∃ n, (P 10 0).toNat = n + 1 := ⟨(P 10 0).toNat - 1, by omega⟩
  rw [hn2, seg]; rfl
theorem cFi_e {P : Mem} {z : Z} {T B : Int} (hD : RD P z) (hI : IZ z T B) (hV : CV P) (hn : 0 < P 10 0) : cFi P = P 11 0 ∧ (0 ≤ P 11 0 ∧ P 11 0 < 64) ∧ 0 < z (59 + 9 * P 11 0 + 6) := by
  have hd := hV.2.2.2.1.1
  have m := (hD.1.2 (P 11 0)).mp (by rw [dL_head hn]; exact List.mem_cons_self)
  unfold cFi
  rw [wr_id' (by omega) (by omega), if_pos hn]
  exact ⟨rfl, m⟩
theorem R_fb {P : Mem} {z : Z} {T B K : Int} (o : Int → Int) (hn : 0 < zOwN z) (h : RR P z T B K) : RR (cFb P) (zWb z (zOrd z o 0)) T B K ∧ cFi P = zOrd z o 0 := by
  obtain ⟨hR, hQ, hD, hV, hW, hI⟩ := h
  have hon := (RD_ord hD hI hV o).2
  have hn' : 0 < P 10 0 := by omega
  have hget := RD_get hD hI hV o (j := 0) (by omega) hn'
  obtain ⟨f1, hc, ho⟩ := cFi_e hD hI hV hn'
  refine ⟨?_, by rw [f1, hget]⟩
  rw [hget]
  have gV := CV_fb hV
  have gW := WI_wb hc hW
  unfold cFb at *
  rw [f1, if_pos (wi_t ⟨by omega, by omega⟩)] at *
  generalize P 11 0 = c at *
  suffices hS : RC (if cHo (cFbA P c) c = true then up (cPut (cFbA P c) c true) 2 10 (cPut (cFbA P c) c true 2 10 + 1) else cLo (cFbA P c) c 11) (zWb z c) D0 ∧ RQ (if cHo (cFbA P c) c = true then up (cPut (cFbA P c) c true) 2 10 (cPut (cFbA P c) c true 2 10 + 1) else cLo (cFbA P c) c 11) (zWb z c) ∧ RD (if cHo (cFbA P c) c = true then up (cPut (cFbA P c) c true) 2 10 (cPut (cFbA P c) c true 2 10 + 1) else cLo (cFbA P c) c 11) (zWb z c) ∧ IZ (zWb z c) T B from ⟨hS.1, hS.2.1, hS.2.2.1, gV, gW, hS.2.2.2⟩
  clear gV gW
  have I0 := IZ_out hc hI ho
  have W0 : WI (u1 z (59 + 9 * c + 6) 0) K := WI_u1 (by unfold NW; omega) hW
  have R0 : RC P (u1 z (59 + 9 * c + 6) 0) D0 := RC_zo hR (by unfold ZO; omega)
  have Q0 : RQ P (u1 z (59 + 9 * c + 6) 0) := RQ_cg hQ rfl rfl (fun j hj => u1_ne (by omega))
  have hs := I0.st 1 (by decide) (by decide)
  obtain ⟨r1, r2, r3⟩ := R_pul (K := K) (b := u1 z (59 + 9 * c + 6) 0 (15 + 1)) hc (R0.st 1 (by decide) (by decide)) (by omega) R0 Q0 hV W0 I0
  have w1 : WI (zWbA z c) K := WI_wbA hc hW
  have v1 : CV (cPul P c (P 1 1)) := CV_pul hV
  have eP : ∀ a b, a = 10 ∨ a = 11 ∨ a = 12 → cPul P c (P 1 1) a b = P a b := fun a b q => cPul_o (by unfold UL; omega) (by omega) (by omega)
  have d1 : RD (cPul P c (P 1 1)) z := RD_cg hD (eP _ _ (by omega)) (funext fun x => eP _ _ (by omega)) (fun c a b => eP _ _ (by omega)) (fun _ _ _ => ⟨rfl, rfl⟩)
  have b0 : zWbA z c (59 + 9 * c) = 0 := zPul_b0 hc hc W0 (by rw [u1_ne (by omega)]; exact (hI.ow c hc.1 hc.2 ho).2.1)
  have e6 : ∀ e, 0 ≤ e → e < 64 → zWbA z c (59 + 9 * e + 6) = (if e = c then 0 else z (59 + 9 * e + 6)) ∧ zWbA z c (59 + 9 * e + 7) = z (59 + 9 * e + 7) := fun e a b => by
    unfold zWbA
    rw [zPul_fr hc W0 (by omega), zPul_fr hc W0 (by omega)]
    refine ⟨?_, u1_ne (by omega)⟩
    by_cases q : e = c
    · rw [q, u1_at, if_pos rfl]
    · rw [u1_ne (by omega), if_neg q]
  have eN : zOwN (zWbA z c) = zOwN z - 1 := by
    rw [← zOwN_out hc hI ho]
    refine cnt_cg 64 0 0 (fun e a b => ?_)
    unfold zOw zWbA
    rw [zPul_fr hc W0 (by omega)]
  have e56 : zWbA z c 5 = z 5 ∧ zWbA z c 6 = z 6 := by
    unfold zWbA
    rw [zPul_fr hc W0 (by omega), zPul_fr hc W0 (by omega), u1_ne (by omega), u1_ne (by omega)]
    exact ⟨rfl, rfl⟩
  have d2 : RD (cFbA P c) (zWbA z c) := RD_str hc d1 hI v1 e6
  have v2 : CV (cFbA P c) := CV_str v1
  have r1' : RC (cFbA P c) (zWbA z c) D0 := RC_str' r1
  have r2' : RQ (cFbA P c) (zWbA z c) := RQ_cg r2 (by funext x; exact cStr_o (by omega)) (cStr_o (by omega)) (fun _ _ => rfl)
  have r3' : IZ (zWbA z c) T B := r3
  have eo := e6 c hc.1 hc.2
  rw [if_pos rfl] at eo
  unfold zWb
  generalize zWbA z c = y at *
  generalize cFbA P c = Q at *
  have hh := ho_e hc r1'
  have bk := hI.bk
  by_cases q : wr (y (15 + 4)) ≤ wr (y (59 + 9 * c + 1))
  · rw [if_pos (by rw [hh]; exact decide_eq_true q), if_pos q]
    have e10 := r1'.ta 10 (by decide) (by decide)
    rw [show (10 - 4 : Int) = 6 by decide] at e10
    have x6 : u1 y (59 + 9 * c + 0) 1 6 = y 6 := u1_ne (by omega)
    have p10 : cPut Q c true 2 10 = Q 2 10 := up_ne (by omega)
    rw [x6, p10, e10, Int.add_zero]
    refine ⟨?_, ?_, ?_, ?_⟩
    · have := RC_tally (w := 10) (v := y 6 + 1) (RC_bit (b := true) r1' hc) (by omega)
      rw [bI_tt] at this
      exact this
    · exact RQ_cg r2' (by funext x; rw [up_ne (by omega)]; exact up_ne (by omega)) (by rw [up_ne (by omega)]; exact up_ne (by omega)) (fun j hj => by rw [u1_ne (by omega), u1_ne (by omega)])
    · exact RD_cg d2 (by rw [up_ne (by omega)]; exact up_ne (by omega)) (by funext x; rw [up_ne (by omega)]; exact up_ne (by omega)) (fun e a b => by rw [up_ne (by omega)]; exact up_ne (by omega)) (fun e a b => ⟨by rw [u1_ne (by omega), u1_ne (by omega)], by rw [u1_ne (by omega), u1_ne (by omega)]⟩)
    · have hz : zOwN (u1 (u1 y (59 + 9 * c) 1) 6 (y 6 + 1)) = zOwN y := cnt_cg 64 0 0 (fun e a b => by unfold zOw; rw [u1_ne (by omega), u1_ne (by omega)])
      refine IZ_gen r3' (fun j hj => by rw [u1_ne (by omega), u1_ne (by omega)]) (by rw [u1_ne (by omega), u1_ne (by omega)]; exact r3'.ht) (by rw [hz, u1_at, u1_ne (by omega), u1_ne (by omega)]; omega) (fun e a b => ⟨by rw [u1_ne (by omega), u1_ne (by omega)]; exact r3'.sg e a b, by rw [u1_ne (by omega), u1_ne (by omega)], by rw [u1_ne (by omega), u1_ne (by omega)], .inr ⟨by rw [u1_ne (by omega), u1_ne (by omega)], by rw [u1_ne (by omega), u1_ne (by omega)]⟩, .inl (by rw [u1_ne (by omega), u1_ne (by omega)]), by rw [u1_ne (by omega), u1_ne (by omega)], fun k1 k2 => ?_⟩)
      rw [u1_ne (by omega), u1_ne (by omega)] at k1
      by_cases f : e = c
      · subst f; omega
      · rw [u1_ne (by omega), u1_ne (by omega)]; exact k2
  · rw [if_neg (by rw [hh]; intro w; exact q (of_decide_eq_true w)), if_neg q]
    have ez : u1 y 7 (y 7 + 1) = zLz y c 11 := by unfold zLz; rw [u1_same b0]; rfl
    rw [ez]
    obtain ⟨s1, s2⟩ := R_lo (w := 11) hc (by omega) r1' r2' v2 w1 (IZ_L r3')
    have wz := WI_lz (w := 11) hc (by omega) w1
    refine ⟨s1, s2, ?_, IZ_lo hc (by omega) w1 r3'⟩
    have u : ∀ a b, a = 10 ∨ a = 11 ∨ a = 12 → cLo Q c 11 a b = Q a b := fun a b q => cLo_o (by unfold UL; omega)
    exact RD_cg d2 (u _ _ (by omega)) (funext fun x => u _ _ (by omega)) (fun e a b => u _ _ (by omega)) (fun e a b => ⟨by rw [zLo_fr2 hc wz (by omega), zLz_o (by omega)], by rw [zLo_fr2 hc wz (by omega), zLz_o (by omega)]⟩)

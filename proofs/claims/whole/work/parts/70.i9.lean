/-! a call of the law on both sides: texts, programs, undo, what could be saved, and the calls without arguments -/
theorem mApp_cg {A C : Mem} {c : Int} (h1 : A 197 11 = C 197 11) (h2 : A 201 = C 201) (h3 : A 197 10 = C 197 10) : mApp (th0 A) c 197 10 = mApp (th0 C) c 197 10 ∧ mApp (th0 A) c 197 11 = mApp (th0 C) c 197 11 ∧ mApp (th0 A) c 201 = mApp (th0 C) c 201 := by
  have t1 : th0 A 197 11 = th0 C 197 11 := by rw [th0_j (by omega), th0_j (by omega), h1]
  unfold mApp
  rw [t1]
  refine ⟨?_, ?_, ?_⟩
  · rw [up_ne (by omega), up_ne (by omega), up_ne (by omega), up_ne (by omega), th0_j (by omega), th0_j (by omega), h3]
  · rw [up_at, up_at]
  · have e : ∀ (M : Mem) (v : Int), up M 197 11 v 201 = M 201 := fun M v => up_ne' (by omega)
    rw [e, e]
    funext j
    by_cases q : j = th0 C 197 11
    · rw [q, up_at, up_at]
    · rw [up_ne (by omega), up_ne (by omega), th0_x (by omega), th0_x (by omega), h2]
theorem mApp_x {A : Mem} {c : Int} {a : Nat} (h : ¬ a = 197 ∧ ¬ a = 201) : mApp (th0 A) c a = A a := by
  unfold mApp
  rw [up_ne' (by omega), up_ne' (by omega), th0_x (by omega)]
theorem tw_append {G : GX} (E : EV G) {X : Mem} {B K : Int} (h0 : LW X B K) (hB : B + 32 ≤ 1000000) (hK : K + 1 ≤ 512) {c : Int} (r_c : rg c) : TW G iL_append hL_append iX8_append [.inl c] X B K := by
  obtain ⟨P, z, hp, e3, h⟩ := h0
  have e1 : ps X 1 P = X := ps_self hp
  obtain ⟨bt, bi, hV, hSR, hSZ, hw, hs, t2, t3, hW⟩ := LI_fx h
  have hRR := h.1
  have hR := hRR.1
  have hI := hRR.2.2.2.2.2
  have hCX := h.2.1
  have b2 : 0 ≤ z 2 ∧ z 2 ≤ 6 := by omega
  have b3 : 0 ≤ z 3 ∧ z 3 ≤ 3 := by omega
  have hs' : ∀ (Q : Mem) (w : Int), 0 ≤ YS X P Q w 197 10 ∧ YS X P Q w 197 10 ≤ 6 := fun Q w => by rw [YS_x hSZ hSR (by omega) (by omega)]; exact hs
  have hl := h.2.2.2.2.1
  have e11 : X 195 0 = X 197 11 := h.2.2.2.1.1
  have hl2 : 0 ≤ X 197 11 ∧ X 197 11 ≤ 60 := by omega
  by_cases p0 : 33 ≤ c ∧ c ≤ 126
  · by_cases p1 : X 195 0 < 60
    · have w := lo_L_append E (ct_X7_append E r_c hl p0 p1)
      generalize hy : (i2 (X 195 0 + 1)).toInt = y at w
      have y1 : ∀ a : Nat, ¬ a = 195 → ¬ a = 196 → ¬ a = 206 → up (tPut X c) 206 0 y a = X a := fun a h1 h2 h3 => by
        unfold tPut; rw [up_ne' h3, up_ne' h1, up_ne' h2]
      have y2 : ∀ a : Nat, ¬ a = 206 → up (tPut X c) 206 0 y a = tPut X c a := fun a h3 => up_ne' h3
      have d := ct_X8_append_ok E (K := 0) (m := up (tPut X c) 206 0 y) (z := z) r_c (by rw [y1 197 (by omega) (by omega) (by omega)]; exact hl2) p0 (by rw [y1 197 (by omega) (by omega) (by omega)]; omega)
      rw [sz_self' (by rw [y1 198 (by omega) (by omega) (by omega)]; exact e3)] at d
      have g := mApp_cg (A := up (tPut X c) 206 0 y) (C := tPut X c) (c := c) (by rw [y2 _ (by omega)]) (by rw [y2 _ (by omega)]) (by rw [y2 _ (by omega)])
      refine ⟨0, _, _, _, w, d, ?_, by omega, fun q => ?_, ?_⟩
      · rw [sz_ne (by omega)]; unfold mApp; rw [up_ne (by omega), up_ne (by omega)]; unfold th0; rw [up_at]
      · rw [sz_ne (by omega), mApp_x (by omega), up_at, y1 197 (by omega) (by omega) (by omega), ← e11, ← hy]
        exact Int64.ofInt_toInt _
      · refine LW_mk (A := mApp (th0 (tPut X c)) c) (LI_app p0 p1 (LI_mono (by omega) hB (by omega) hK h)) (fun d hd => ?_) rfl (fun a q1 q2 => ?_) ?_ ?_ ?_ ?_
        · rw [sz_ne (by omega), mApp_x (by omega), y1 _ (by omega) (by omega) (by omega)]; exact hp d hd
        · rw [sz_ne (by omega), mApp_x (by omega), mApp_x (by omega), y2 _ (by omega)]
        · rw [sz_ne (by omega)]; exact g.1
        · rw [sz_ne (by omega)]; exact g.2.1
        · rw [sz_ne (by omega), mApp_x (by omega), mApp_x (by omega), y2 _ (by omega)]
        · rw [sz_ne (by omega)]; exact g.2.2
    · exact TW_F hp e3 h hB hK (by omega) (lx_L_append_2 E (cx_X7_append_1 E r_c hl p0 (by omega))) (ct_X8_append_e2 E (K := 0) r_c hl2 p0 (by omega))
  · exact TW_F hp e3 h hB hK (by omega) (lx_L_append_1 E (cx_X7_append_0 E r_c hl p0)) (ct_X8_append_e1 E (K := 0) r_c hl2 p0)
theorem tw_run {G : GX} (E : EV G) {X : Mem} {B K : Int} (h0 : LW X B K) (hB : B + 32 ≤ 1000000) (hK : K + 1 ≤ 512) {t : Int} (r_t : rg t) : TW G iL_run hL_run iX8_run [.inl t] X B K := by
  obtain ⟨P, z, hp, e3, h⟩ := h0
  have e1 : ps X 1 P = X := ps_self hp
  obtain ⟨bt, bi, hV, hSR, hSZ, hw, hs, t2, t3, hW⟩ := LI_fx h
  have hRR := h.1
  have hR := hRR.1
  have hI := hRR.2.2.2.2.2
  have hCX := h.2.1
  have b2 : 0 ≤ z 2 ∧ z 2 ≤ 6 := by omega
  have b3 : 0 ≤ z 3 ∧ z 3 ≤ 3 := by omega
  have hs' : ∀ (Q : Mem) (w : Int), 0 ≤ YS X P Q w 197 10 ∧ YS X P Q w 197 10 ≤ 6 := fun Q w => by rw [YS_x hSZ hSR (by omega) (by omega)]; exact hs
  have hT : TL X := h.2.2.2.2
  have htt : TT X X := h.2.2.2.1
  have hTX : TX X := LI_TX h
  have z0 := hI.t0
  have e0 : P 0 0 = z 0 := hR.t0
  by_cases p0 : 0 ≤ t ∧ t < P 13 0
  · have hok := q_ok hT (TT_th htt)
    by_cases p1 : tOk X = true
    · have w := lo_L_run E (ct_e e1 (ct_X7_run E r_t bt hT p0 p1 hSR hSZ hw hV (by omega)))
      generalize hy : (i2 (cRun X P t).2).toInt = y at w
      have y1 : ∀ a : Nat, 196 ≤ a → ¬ a = 206 → up (ps (up (kM X P) 195 0 0) 1 (cRun X P t).1) 206 0 y a = X a := fun a q1 q2 => by
        rw [up_ne' q2, ps_ne (by omega), up_ne' (by omega), kM_x hSZ hSR (by omega)]
      have y2 : ∀ a : Nat, 25 ≤ a → ¬ a = 206 → up (ps (up (kM X P) 195 0 0) 1 (cRun X P t).1) 206 0 y a = up (kM X P) 195 0 0 a := fun a q1 q2 => by
        rw [up_ne' q2, ps_ne (by omega)]
      have y3 : ∀ d : Nat, d < 24 → up (ps (up (kM X P) 195 0 0) 1 (cRun X P t).1) 206 0 y (1 + d) = (cRun X P t).1 d := fun d hd => by
        rw [up_ne' (by omega), ps_at hd]
      generalize hY : up (ps (up (kM X P) 195 0 0) 1 (cRun X P t).1) 206 0 y = Y at w y1 y2 y3
      have h206 : Y 206 0 = y := by rw [← hY, up_at]
      have tY : TT X Y := ⟨by rw [y1 _ (by omega) (by omega)]; exact htt.1, fun j a b => by rw [y1 _ (by omega) (by omega)]; exact htt.2 j a b⟩
      have vY : VS X Y 10000 B K := VS_cg h.2.2.1 (fun _ _ _ => rfl) (by rw [y1 _ (by omega) (by omega)]) (fun j => by rw [y1 _ (by omega) (by omega)])
      have xY : TX Y := ⟨by rw [y1 _ (by omega) (by omega)]; exact hTX.1, fun j a b => by rw [y1 _ (by omega) (by omega)] at b ⊢; exact hTX.2 j a b⟩
      have hokY := (q_ok hT (TT_th tY)).mp p1
      obtain ⟨q1, q2, q3, q4, q5⟩ := q_run ⟨p0.1, by omega⟩ hT tY vY hRR hCX hB p1
      have d := ct_X8_run_ok E (m := Y) (z := z) (K := K) r_t xY b2 ⟨p0.1, by omega⟩ (by rw [y1 _ (by omega) (by omega)]; exact hs) (by rw [y1 _ (by omega) (by omega), hokY.1]; have := htt.1; omega) hokY.2 q4 q5 hW
      rw [sz_self' (by rw [y1 _ (by omega) (by omega)]; exact e3)] at d
      have f12 : pScn (th0 Y) 197 12 = 0 := by rw [pScn_o (by omega)]; unfold th0; rw [up_at]
      have g := zSv_cg (z := z) (A := pScn (th0 Y)) (C := pScn (th0 (up (kM X P) 195 0 0))) (by rw [pScn_o (by omega), pScn_o (by omega), th0_j (by omega), th0_j (by omega), y2 _ (by omega) (by omega)]) (by rw [pScn_x (by omega), pScn_x (by omega), th0_x (by omega), th0_x (by omega), y2 _ (by omega) (by omega)])
      refine ⟨0, _, _, _, w, d, ?_, by omega, fun q => ?_, ?_⟩
      · rw [sz_ne (by omega), up_ne (by omega), so_lo (by omega)]; unfold zRnM; rw [zSv_o (by omega) (by omega)]; exact f12
      · rw [sz_ne (by omega), up_ne (by omega), so_lo (by omega)]; unfold zRnM; rw [zSv_x (by omega) (by omega), pScn_x (by omega), th0_x (by omega), h206, ← hy, q1]
        exact Int64.ofInt_toInt _
      · refine LW_mk (A := up (so (zRnM z (up (kM X P) 195 0 0)) (zRun z Y t).1.2) 197 11 0) (LI_run _ (LI_mono (by omega) (by omega) (by omega) hK h) (RR_mono (by omega) hB (by omega) hK q2) q3 hB) (fun d hd => ?_) rfl (fun a g1 g2 => ?_) ?_ ?_ ?_ ?_
        · rw [sz_ne (by omega), up_ne' (by omega), so_lo (by omega)]; unfold zRnM; rw [zSv_x (by omega) (by omega), pScn_x (by omega), th0_x (by omega), y3 d hd]
        · rw [sz_ne (by omega), up_ne' (by omega), so_lo (by omega), up_ne' (by omega), so_lo (by omega)]; unfold zRnM; rw [zSv_x (by omega) (by omega), pScn_x (by omega), th0_x (by omega), zSv_x (by omega) (by omega), pScn_x (by omega), th0_x (by omega), y2 _ (by omega) (by omega)]
        · rw [sz_ne (by omega), up_ne (by omega), so_lo (by omega), up_ne (by omega), so_lo (by omega)]; exact g.1
        · rw [sz_ne (by omega), up_at, up_at]
        · rw [sz_ne (by omega), up_ne' (by omega), so_lo (by omega), up_ne' (by omega), so_lo (by omega)]; exact g.2
        · rw [sz_ne (by omega), up_ne' (by omega), so_lo (by omega), up_ne' (by omega), so_lo (by omega)]; unfold zRnM; rw [zSv_x (by omega) (by omega), pScn_x (by omega), th0_x (by omega), zSv_x (by omega) (by omega), pScn_x (by omega), th0_x (by omega), y2 _ (by omega) (by omega)]
    · have d := ct_X8_run_e2 E (m := X) (z := z) (K := 0) r_t hTX b2 ⟨p0.1, by omega⟩ (by
        by_cases q : pScn (th0 X) 197 9 = 20
        · left
          have n1 : ¬ pScK (th0 X) = X 195 0 := fun r => p1 (hok.mpr ⟨r, q⟩)
          have n3 : th0 X 197 11 = X 197 11 := th0_j (by omega)
          have n4 := hTX.1
          have n5 : pScK (th0 X) ≤ X 197 11 := by
            have n2 := pSk_b (th0 X 197 11).toNat 0 (pS0 (th0 X))
            unfold pScK
            rw [n3] at n2 ⊢
            omega
          have := htt.1
          omega
        · exact Or.inr q)
      rw [sz_self' e3] at d
      refine ⟨2, 0, X, _, lx_L_run_2 E (ctx_e e1 (cx_X7_run_1 E r_t bt hT p0 (by simpa using p1))), d, by rw [sz_ne (by omega), up_at], by omega, fun q => by omega, ?_⟩
      refine LW_mk (A := X) (LI_mono (by omega) hB (by omega) hK h) (fun d hd => ?_) rfl (fun a g1 g2 => ?_) ?_ ?_ ?_ ?_
      · rw [sz_ne (by omega), up_ne' (by omega), pScn_x (by omega), th0_x (by omega)]; exact hp d hd
      · rw [sz_ne (by omega), up_ne' (by omega), pScn_x (by omega), th0_x (by omega)]
      · rw [sz_ne (by omega), up_ne (by omega), pScn_o (by omega), th0_j (by omega)]
      · rw [sz_ne (by omega), up_ne (by omega), pScn_o (by omega), th0_j (by omega)]
      · rw [sz_ne (by omega), up_ne' (by omega), pScn_x (by omega), th0_x (by omega)]
      · rw [sz_ne (by omega), up_ne' (by omega), pScn_x (by omega), th0_x (by omega)]
  · exact TW_F hp e3 h hB hK (by omega) (lx_L_run_1 E (ctx_e e1 (cx_X7_run_0 E r_t bt hT p0))) (ct_X8_run_e1 E (K := 0) r_t hTX b2 (by omega))
theorem tw_undo {G : GX} (E : EV G) {X : Mem} {B K : Int} (h0 : LW X B K) (hB : B + 32 ≤ 1000000) (hK : K + 1 ≤ 512)  : TW G iL_undo hL_undo iX8_undo [] X B K := by
  obtain ⟨P, z, hp, e3, h⟩ := h0
  have e1 : ps X 1 P = X := ps_self hp
  obtain ⟨bt, bi, hV, hSR, hSZ, hw, hs, t2, t3, hW⟩ := LI_fx h
  have hRR := h.1
  have hR := hRR.1
  have hI := hRR.2.2.2.2.2
  have hCX := h.2.1
  have b2 : 0 ≤ z 2 ∧ z 2 ≤ 6 := by omega
  have b3 : 0 ≤ z 3 ∧ z 3 ≤ 3 := by omega
  have hs' : ∀ (Q : Mem) (w : Int), 0 ≤ YS X P Q w 197 10 ∧ YS X P Q w 197 10 ≤ 6 := fun Q w => by rw [YS_x hSZ hSR (by omega) (by omega)]; exact hs
  have v10 : X 49 0 = X 197 10 := h.2.2.1.2.1
  have v4 := h.2.2.1.2.2.2
  by_cases p0 : 0 < X 49 0
  · have hwr : ∀ r : Nat, 51 ≤ r → r ≤ 171 → (r : Int) = X 50 (X 49 0 - 1) → 0 ≤ X r 10 ∧ X r 10 ≤ 512 := fun r r1 r2 r3 => by
      have q := (v4 (X 49 0 - 1) (by omega) (by omega)).1.2.2.2.1.2.2.1.1
      rw [← r3] at q
      exact q
    have w := lo_L_undo E (ct_e e1 (ct_X7_undo E hSZ p0 hSR hwr))
    generalize hy : (i2 (X 49 0 - 1)).toInt = y at w
    have y2 : ∀ a : Nat, 25 ≤ a → ¬ a = 206 → up (ps (up X 49 0 (X 49 0 - 1)) 1 (bcP P (pg X (uR X)))) 206 0 y a = up X 49 0 (X 49 0 - 1) a := fun a q1 q2 => by
      rw [up_ne' q2, ps_ne (by omega)]
    have y3 : ∀ d : Nat, d < 24 → up (ps (up X 49 0 (X 49 0 - 1)) 1 (bcP P (pg X (uR X)))) 206 0 y (1 + d) = bcP P (pg X (uR X)) d := fun d hd => by
      rw [up_ne' (by omega), ps_at hd]
    generalize hY : up (ps (up X 49 0 (X 49 0 - 1)) 1 (bcP P (pg X (uR X)))) 206 0 y = Y at w y2 y3
    have h206 : Y 206 0 = y := by rw [← hY, up_at]
    have y1 : ∀ a : Nat, 50 ≤ a → ¬ a = 206 → Y a = X a := fun a q1 q2 => by rw [y2 a (by omega) q2, up_ne' (by omega)]
    have d := ct_X8_undo_ok E (m := Y) (z := z) (K := 0) (by rw [y1 _ (by omega) (by omega)]; exact hs) (by rw [y1 _ (by omega) (by omega)]; omega)
    rw [sz_self' (by rw [y1 _ (by omega) (by omega)]; exact e3)] at d
    have eu : zUn Y z = zUn X z := by unfold zUn; rw [y1 200 (by omega) (by omega), y1 197 (by omega) (by omega)]
    have e10 : Y 197 10 = X 49 0 := by rw [y1 _ (by omega) (by omega)]; exact v10.symm
    rw [eu, e10] at d
    refine ⟨0, _, _, _, w, d, ?_, by omega, fun q => ?_, ?_⟩
    · rw [sz_ne (by omega), up_ne (by omega)]; unfold th0; rw [up_at]
    · rw [sz_ne (by omega), up_ne (by omega), th0_j (by omega), h206, ← hy]
      exact Int64.ofInt_toInt _
    · refine LW_mk (A := up (th0 (up X 49 0 (X 49 0 - 1))) 197 10 (X 49 0 - 1)) (LI_undo p0 (LI_mono (by omega) hB (by omega) hK h)) (fun d hd => ?_) rfl (fun a g1 g2 => ?_) ?_ ?_ ?_ ?_
      · rw [sz_ne (by omega), up_ne' (by omega), th0_x (by omega), y3 d hd]
      · rw [sz_ne (by omega), up_ne' (by omega), th0_x (by omega), up_ne' (by omega), th0_x (by omega), y2 _ (by omega) (by omega)]
      · rw [sz_ne (by omega), up_at, up_at]
      · rw [sz_ne (by omega), up_ne (by omega), th0_j (by omega), up_ne (by omega), th0_j (by omega), y2 _ (by omega) (by omega)]
      · rw [sz_ne (by omega), up_ne' (by omega), th0_x (by omega), up_ne' (by omega), th0_x (by omega), y2 _ (by omega) (by omega)]
      · rw [sz_ne (by omega), up_ne' (by omega), th0_x (by omega), up_ne' (by omega), th0_x (by omega), y2 _ (by omega) (by omega)]
  · exact TW_F hp e3 h hB hK (by omega) (lx_L_undo_1 E (ctx_e e1 (cx_X7_undo_0 E hSZ (by omega)))) (ct_X8_undo_e1 E (K := 0) hs (by omega))
theorem RR_br {P : Mem} {z y : Z} {m : Mem} {T B K : Int} (h : RR P z T B K) : RR P (brZ (kpM z m 2195 199) y 2195) T B K := by
  refine RR_cgz (fun j a b => ?_) h
  unfold brZ kpM
  rw [if_pos ⟨a, b⟩, if_pos ⟨rfl, a, b⟩]
theorem tw_savable {G : GX} (E : EV G) {X : Mem} {B K : Int} (h0 : LW X B K) (hB : B + 32 ≤ 1000000) (hK : K + 1 ≤ 512) {p : Int} (r_p : rg p) : TW G iL_savable hL_savable iX8_savable [.inl p] X B K := by
  have h := LW_nf h0
  generalize hz0 : X 198 = z at h
  have e3 : X 198 = z := hz0
  have hp : ∀ d, d < 24 → X (1 + d) = pg X 1 d := fun d _ => rfl
  have e1 : ps X 1 (pg X 1) = X := ps_pg
  obtain ⟨bt, bi, hV, hSR, hSZ, hw, hs, t2, t3, hW⟩ := LI_fx h
  have hRR := h.1
  have hR := hRR.1
  have hI := hRR.2.2.2.2.2
  have hCX := h.2.1
  have b2 : 0 ≤ z 2 ∧ z 2 ≤ 6 := by omega
  have b3 : 0 ≤ z 3 ∧ z 3 ≤ 3 := by omega
  have hs' : ∀ (Q : Mem) (w : Int), 0 ≤ YS X (pg X 1) Q w 197 10 ∧ YS X (pg X 1) Q w 197 10 ≤ 6 := fun Q w => by rw [YS_x hSZ hSR (by omega) (by omega)]; exact hs
  have e25 : ps X 25 (pg X 25) = X := ps_pg
  by_cases p0 : 1 ≤ p ∧ p ≤ 9
  · have c1 := ct_X7_savable E (Q := pg X 25) (m := X) r_p p0 hV
    rw [e25] at c1
    have w := lo_L_savable E c1
    generalize hy : (i2 (cSvE (pg X 25) (pg X 1) p 2 10 - X 3 10)).toInt = y at w
    have y2 : ∀ a : Nat, ¬ (25 ≤ a ∧ a < 49) → ¬ a = 206 → up (ps X 25 (cSvE (pg X 25) (pg X 1) p)) 206 0 y a = X a := fun a q1 q2 => by
      rw [up_ne' q2, ps_ne (by omega)]
    generalize hY : up (ps X 25 (cSvE (pg X 25) (pg X 1) p)) 206 0 y = Y at w y2
    have h206 : Y 206 0 = y := by rw [← hY, up_at]
    have d := ct_X8_savable_ok E (m := Y) (z := z) (K := K) r_p p0 hW
    rw [sz_self' (by rw [y2 _ (by omega) (by omega)]; exact e3)] at d
    refine ⟨0, _, _, _, w, d, ?_, by omega, fun q => ?_, ?_⟩
    · rw [sz_ne (by omega), so_lo (by omega), kpM_x (by omega)]; unfold th0; rw [up_at]
    · rw [sz_ne (by omega), so_lo (by omega), kpM_x (by omega), th0_j (by omega), h206, ← hy, show X 3 10 = pg X 1 2 10 from rfl, q_sv (Y 205) (by omega) hRR]
      exact Int64.ofInt_toInt _
    · have hb := LI_mono (B' := B + 32) (K' := K + 1) (by omega) hB (by omega) hK h
      refine LW_mk (Q := pg X 1) (y := brZ (kpM z (th0 Y) 2195 199) (zSbE z p (Y 205)).1 2195) (A := X) ⟨RR_br hb.1, hb.2⟩ (fun d hd => ?_) rfl (fun a g1 g2 => ?_) ?_ ?_ ?_ ?_
      · rw [sz_ne (by omega), so_lo (by omega), kpM_x (by omega), th0_x (by omega), y2 _ (by omega) (by omega)]; rfl
      · rw [sz_ne (by omega), so_lo (by omega), kpM_x (by omega), th0_x (by omega), y2 _ (by omega) (by omega)]
      · rw [sz_ne (by omega), so_lo (by omega), kpM_x (by omega), th0_j (by omega), y2 _ (by omega) (by omega)]
      · rw [sz_ne (by omega), so_lo (by omega), kpM_x (by omega), th0_j (by omega), y2 _ (by omega) (by omega)]
      · rw [sz_ne (by omega), so_lo (by omega), kpM_x (by omega), th0_x (by omega), y2 _ (by omega) (by omega)]
      · rw [sz_ne (by omega), so_lo (by omega), kpM_x (by omega), th0_x (by omega), y2 _ (by omega) (by omega)]
  · exact TW_F hp e3 h hB hK (by omega) (lx_L_savable_1 E (by have c := cx_X7_savable_0 E (m := X) (Q := pg X 25) r_p p0; rw [e25] at c; exact c)) (ct_X8_savable_e1 E (K := 0) r_p p0)
/-! calls without a table -/
def TN (G : GX) (Mx Mm : MI) (X : Mem) (B K : Int) (v : PV) : Prop := ∃ X1 X2 : Mem, CT G SHP Mx 0 0 [.inr (.ref 0)] X (some v) X1 ∧ CT G SHP Mm 0 0 [.inr (.ref 197)] X1 (some v) X2 ∧ LW X2 (B + 32) (K + 1)
theorem LW_t {X P : Mem} {z : Z} {B K : Int} (hp : ∀ d, d < 24 → X (1 + d) = P d) (h : LI X P z B K) : LW (sz (th0 X) z) B K := by
  refine LW_mk (Q := P) (y := z) (A := X) h (fun d hd => ?_) rfl (fun a h1 h2 => ?_) ?_ ?_ ?_ ?_
  · rw [sz_ne (by omega), th0_x (by omega)]; exact hp d hd
  · rw [sz_ne (by omega), th0_x (by omega)]
  · rw [sz_ne (by omega), th0_j (by omega)]
  · rw [sz_ne (by omega), th0_j (by omega)]
  · rw [sz_ne (by omega), th0_x (by omega)]
  · rw [sz_ne (by omega), th0_x (by omega)]
theorem LW_sc {X P : Mem} {z : Z} {B K : Int} (hp : ∀ d, d < 24 → X (1 + d) = P d) (h : LI X P z B K) : LW (sz (pScn (th0 X)) z) B K := by
  refine LW_mk (Q := P) (y := z) (A := X) h (fun d hd => ?_) rfl (fun a h1 h2 => ?_) ?_ ?_ ?_ ?_
  · rw [sz_ne (by omega), pScn_x (by omega), th0_x (by omega)]; exact hp d hd
  · rw [sz_ne (by omega), pScn_x (by omega), th0_x (by omega)]
  · rw [sz_ne (by omega), pScn_o (by omega), th0_j (by omega)]
  · rw [sz_ne (by omega), pScn_o (by omega), th0_j (by omega)]
  · rw [sz_ne (by omega), pScn_x (by omega), th0_x (by omega)]
  · rw [sz_ne (by omega), pScn_x (by omega), th0_x (by omega)]
theorem tn_gentlest {G : GX} (E : EV G) {X : Mem} {B K : Int} (h0 : LW X B K) (hB : B + 32 ≤ 1000000) (hK : K + 1 ≤ 512) : ∃ v : Int, TN G iX7_gentlest iX8_gentlest X B K (.inl v) := by
  obtain ⟨P, z, hp, e3, h⟩ := h0
  have e1 : ps X 1 P = X := ps_self hp
  obtain ⟨bt, bi, hV, hSR, hSZ, hw, hs, t2, t3, hW⟩ := LI_fx h
  have hRR := h.1
  have hR := hRR.1
  have hI := hRR.2.2.2.2.2
  have hCX := h.2.1
  have b2 : 0 ≤ z 2 ∧ z 2 ≤ 6 := by omega
  have b3 : 0 ≤ z 3 ∧ z 3 ≤ 3 := by omega
  have hs' : ∀ (Q : Mem) (w : Int), 0 ≤ YS X P Q w 197 10 ∧ YS X P Q w 197 10 ≤ 6 := fun Q w => by rw [YS_x hSZ hSR (by omega) (by omega)]; exact hs
  have eq : cG P = zG z := q_g hRR 64 0 (-1) 64 0 (by omega) (by omega) (Or.inl rfl)
  have d := ct_X8_gentlest_ok E (m := X) (z := z) (K := 0)
  rw [sz_self' e3, ← eq] at d
  exact ⟨_, X, _, ct_q e1 (ct_X7_gentlest E), d, LW_t hp (LI_mono (by omega) hB (by omega) hK h)⟩
theorem tn_firstError {G : GX} (E : EV G) {X : Mem} {B K : Int} (h0 : LW X B K) (hB : B + 32 ≤ 1000000) (hK : K + 1 ≤ 512) : ∃ v : Int, TN G iX7_firstError iX8_firstError X B K (.inl v) := by
  obtain ⟨P, z, hp, e3, h⟩ := h0
  have e1 : ps X 1 P = X := ps_self hp
  obtain ⟨bt, bi, hV, hSR, hSZ, hw, hs, t2, t3, hW⟩ := LI_fx h
  have hRR := h.1
  have hR := hRR.1
  have hI := hRR.2.2.2.2.2
  have hCX := h.2.1
  have b2 : 0 ≤ z 2 ∧ z 2 ≤ 6 := by omega
  have b3 : 0 ≤ z 3 ∧ z 3 ≤ 3 := by omega
  have hs' : ∀ (Q : Mem) (w : Int), 0 ≤ YS X P Q w 197 10 ∧ YS X P Q w 197 10 ≤ 6 := fun Q w => by rw [YS_x hSZ hSR (by omega) (by omega)]; exact hs
  have eq := q_fe h.2.2.2.2 (TT_th h.2.2.2.1)
  have d := ct_X8_firstError_ok E (m := X) (z := z) (K := 0) (LI_TX h)
  rw [sz_self' e3, ← eq] at d
  exact ⟨_, X, _, ct_X7_firstError E h.2.2.2.2, d, LW_sc hp (LI_mono (by omega) hB (by omega) hK h)⟩
theorem tn_clearBuffer {G : GX} (E : EV G) {X : Mem} {B K : Int} (h0 : LW X B K) (hB : B + 32 ≤ 1000000) (hK : K + 1 ≤ 512) : ∃ v : Int, TN G iX7_clearBuffer iX8_clearBuffer X B K (.inl v) := by
  obtain ⟨P, z, hp, e3, h⟩ := h0
  have e1 : ps X 1 P = X := ps_self hp
  obtain ⟨bt, bi, hV, hSR, hSZ, hw, hs, t2, t3, hW⟩ := LI_fx h
  have hRR := h.1
  have hR := hRR.1
  have hI := hRR.2.2.2.2.2
  have hCX := h.2.1
  have b2 : 0 ≤ z 2 ∧ z 2 ≤ 6 := by omega
  have b3 : 0 ≤ z 3 ∧ z 3 ≤ 3 := by omega
  have hs' : ∀ (Q : Mem) (w : Int), 0 ≤ YS X P Q w 197 10 ∧ YS X P Q w 197 10 ≤ 6 := fun Q w => by rw [YS_x hSZ hSR (by omega) (by omega)]; exact hs
  have e11 : X 195 0 = X 197 11 := h.2.2.2.1.1
  have d := ct_X8_clearBuffer_ok E (m := up X 195 0 0) (z := z) (K := 0)
  rw [sz_self' (by rw [up_ne' (by omega)]; exact e3), show up X 195 0 0 197 11 = X 195 0 by rw [up_ne (by omega), e11]] at d
  refine ⟨_, _, _, ct_X7_clearBuffer E, d, ?_⟩
  refine LW_mk (A := up (th0 (up X 195 0 0)) 197 11 0) (LI_clr (LI_mono (by omega) hB (by omega) hK h)) (fun d hd => ?_) rfl (fun a g1 g2 => ?_) ?_ ?_ ?_ ?_
  · rw [sz_ne (by omega), up_ne' (by omega), th0_x (by omega), up_ne' (by omega)]; exact hp d hd
  · rw [sz_ne (by omega)]
  · rw [sz_ne (by omega)]
  · rw [sz_ne (by omega)]
  · rw [sz_ne (by omega)]
  · rw [sz_ne (by omega)]
theorem tn_backShare {G : GX} (E : EV G) {X : Mem} {B K : Int} (h0 : LW X B K) (hB : B + 32 ≤ 1000000) (hK : K + 1 ≤ 512) : ∃ v : UInt64, shOk v ∧ TN G iX7_backShare iX8_backShare X B K (.inr (.double v)) := by
  obtain ⟨P, z, hp, e3, h⟩ := h0
  have e1 : ps X 1 P = X := ps_self hp
  obtain ⟨bt, bi, hV, hSR, hSZ, hw, hs, t2, t3, hW⟩ := LI_fx h
  have hRR := h.1
  have hR := hRR.1
  have hI := hRR.2.2.2.2.2
  have hCX := h.2.1
  have b2 : 0 ≤ z 2 ∧ z 2 ≤ 6 := by omega
  have b3 : 0 ≤ z 3 ∧ z 3 ≤ 3 := by omega
  have hs' : ∀ (Q : Mem) (w : Int), 0 ≤ YS X P Q w 197 10 ∧ YS X P Q w 197 10 ≤ 6 := fun Q w => by rw [YS_x hSZ hSR (by omega) (by omega)]; exact hs
  have eq := q_bk hRR
  have d := ct_X8_backShare_ok E (m := X) (z := z) (K := 0)
  rw [sz_self' e3, ← eq.1] at d
  exact ⟨_, eq.2, X, _, ct_q e1 (ct_X7_backShare E), d, LW_t hp (LI_mono (by omega) hB (by omega) hK h)⟩
theorem dgM_o {z : Z} {m : Mem} {k : Nat} {j : Int} (h : ¬ (k = 197 ∧ (j = 13 ∨ j = 12))) (h1 : ¬ k = 205) (h2 : ¬ k = 199) : dgM z m k j = m k j := by
  rw [dgM, dFM_o (by omega), mxM_o (by omega), dgM2_o h h1 h2]
theorem dgM_x {z : Z} {m : Mem} {k : Nat} (h : ¬ k = 197) (h1 : ¬ k = 205) (h2 : ¬ k = 199) : dgM z m k = m k := funext fun _ => dgM_o (by omega) h1 h2
theorem dgZ_j {z : Z} {m : Mem} {j : Int} (h : 0 ≤ j ∧ j < 2195) : dgZ z m j = z j := by
  unfold dgZ dAZ3
  rw [sbZ_j h]
  unfold dAZ2
  rw [sbZ_j h]
theorem dgQ2_x {m P : Mem} {a : Nat} (h : ¬ (25 ≤ a ∧ a < 49)) : dgQ2 m P a = m a := by
  unfold dgQ2 dgQ1
  rw [ps_ne (by omega), ps_ne (by omega)]
theorem tn_digest {G : GX} (E : EV G) {X : Mem} {B K : Int} (h0 : LW X B K) (hB : B + 32 ≤ 1000000) (hK : K + 1 ≤ 512) : ∃ v : Int64, TN G iX7_digest iX8_digest X B K (.inr (.long v)) := by
  obtain ⟨P, z, hp, e3, h⟩ := h0
  have e1 : ps X 1 P = X := ps_self hp
  obtain ⟨bt, bi, hV, hSR, hSZ, hw, hs, t2, t3, hW⟩ := LI_fx h
  have hRR := h.1
  have hR := hRR.1
  have hI := hRR.2.2.2.2.2
  have hCX := h.2.1
  have b2 : 0 ≤ z 2 ∧ z 2 ≤ 6 := by omega
  have b3 : 0 ≤ z 3 ∧ z 3 ≤ 3 := by omega
  have hs' : ∀ (Q : Mem) (w : Int), 0 ≤ YS X P Q w 197 10 ∧ YS X P Q w 197 10 ≤ 6 := fun Q w => by rw [YS_x hSZ hSR (by omega) (by omega)]; exact hs
  have hT : TL X := h.2.2.2.2
  have htt : TT X X := h.2.2.2.1
  have y1 : ∀ a : Nat, 49 ≤ a → ps (dgQ2 X P) 1 P a = X a := fun a q => by rw [ps_ne (by omega), dgQ2_x (by omega)]
  have y3 : ∀ d : Nat, d < 24 → ps (dgQ2 X P) 1 P (1 + d) = P d := fun d hd => ps_at hd
  have c := ct_e e1 (ct_X7_digest E hV hT (q_bk hRR).2)
  generalize hY : ps (dgQ2 X P) 1 P = Y at c y1 y3
  have d := ct_X8_digest E (m := Y) (z := z) (K := K) hW (by rw [y1 _ (by omega)]; have := htt.1; have := hT.1; omega)
  have eq : cDg X P = lo (dgM z Y 197 13) := q_digest (by omega) hRR hCX ⟨by rw [y1 _ (by omega)]; exact htt.1, fun j a b => by rw [y1 _ (by omega)]; exact htt.2 j a b⟩ (by rw [y1 _ (by omega)]; exact h.2.2.1.2.1)
  rw [sz_self' (by rw [y1 _ (by omega)]; exact e3), ← eq] at d
  have hb := LI_mono (B' := B + 32) (K' := K + 1) (by omega) hB (by omega) hK h
  refine ⟨_, _, _, c, d, ?_⟩
  refine LW_mk (Q := P) (y := dgZ z Y) (A := X) ⟨RR_cgz (fun j a b => dgZ_j ⟨a, b⟩) hb.1, hb.2⟩ (fun d hd => ?_) rfl (fun a g1 g2 => ?_) ?_ ?_ ?_ ?_
  · rw [sz_ne (by omega), dgM_x (by omega) (by omega) (by omega)]; exact y3 d hd
  · rw [sz_ne (by omega), dgM_x (by omega) (by omega) (by omega), y1 _ (by omega)]
  · rw [sz_ne (by omega), dgM_o (by omega) (by omega) (by omega), y1 _ (by omega)]
  · rw [sz_ne (by omega), dgM_o (by omega) (by omega) (by omega), y1 _ (by omega)]
  · rw [sz_ne (by omega), dgM_x (by omega) (by omega) (by omega), y1 _ (by omega)]
  · rw [sz_ne (by omega), dgM_x (by omega) (by omega) (by omega), y1 _ (by omega)]

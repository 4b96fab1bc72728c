/-! the law: what a call of the class does -/
theorem LX_who2 {z : Z} {c w : Int} (hc : 0 ≤ c ∧ c < 64) (hp : pl c) (hw : 0 ≤ w ∧ w ≤ 3) (h : LX z) : LX (u1 z (59 + 9 * c + 2) w) := by
  obtain ⟨a, b, d⟩ := h
  have f : ∀ j, ¬ j = 59 + 9 * c + 2 → u1 z (59 + 9 * c + 2) w j = z j := fun j hj => u1_ne hj
  have pe : ∀ i, zPol (u1 z (59 + 9 * c + 2) w) i = zPol z i := fun i => cnt_cg 64 0 0 (fun e h1 h2 => by rw [f _ (by omega)])
  refine ⟨fun k h1 h2 => by rw [f _ (by omega)]; exact a k h1 h2, ?_, fun e h1 h2 => ?_⟩
  · unfold SB at b ⊢
    rw [pe, pe, f _ (by omega), f _ (by omega)]
    exact b
  · have de := d e h1 h2
    rw [f (59 + 9 * e) (by omega), f (59 + 9 * e + 4) (by omega), f (59 + 9 * e + 6) (by omega)]
    by_cases q : e = c
    · subst q
      rw [u1_at]
      exact ⟨de.1, fun n => absurd hp n, hw, de.2.2.2⟩
    · rw [f (59 + 9 * e + 2) (by omega)]
      exact de
theorem zPol_16 {z : Z} {i : Int} (hi : 0 ≤ i) (h : XT z) : zPol z i ≤ 16 := by
  have e := cnt16 (p := fun c => decide (wr (z (59 + 9 * c + 4)) = i + 1)) (fun c h1 h2 hp => by
    rw [((h c h1 h2).2.1 hp).2.2.1]
    exact decide_eq_false (by show ¬ (0 : Int) = i + 1; omega))
  have b := cnt_b (fun k => decide (wr (z (59 + 9 * cr k + 4)) = i + 1)) 16 0 0
  unfold zPol
  rw [e]
  omega
theorem LX_by2 {z : Z} {c i : Int} (hc : 0 ≤ c ∧ c < 64) (hp : pl c) (hi : 0 ≤ i ∧ i < 2) (hb : z (59 + 9 * c + 4) = 0) (hw : z (41 + 6 * i + 5) ≤ 7) (h : LX z) : LX (u1 z (59 + 9 * c + 4) (i + 1)) := by
  obtain ⟨a, b, d⟩ := h
  have f : ∀ j, ¬ j = 59 + 9 * c + 4 → u1 z (59 + 9 * c + 4) (i + 1) j = z j := fun j hj => u1_ne hj
  have hX : XT (u1 z (59 + 9 * c + 4) (i + 1)) := fun e h1 h2 => by
    have de := d e h1 h2
    rw [f (59 + 9 * e) (by omega), f (59 + 9 * e + 2) (by omega), f (59 + 9 * e + 6) (by omega)]
    by_cases q : e = c
    · subst q
      rw [u1_at]
      exact ⟨de.1, fun n => absurd hp n, de.2.2.1, by omega, de.2.2.2.2⟩
    · rw [f (59 + 9 * e + 4) (by omega)]
      exact de
  have pe : ∀ j, ¬ j = i → 0 ≤ j → zPol (u1 z (59 + 9 * c + 4) (i + 1)) j = zPol z j := fun j hj h0 => cnt_cg 64 0 0 (fun e h1 h2 => by
    by_cases q : e = c
    · subst q
      rw [u1_at, hb, wr_id' (by omega) (by omega)]
      rw [decide_eq_false (show ¬ i + 1 = j + 1 by omega), decide_eq_false (show ¬ wr 0 = j + 1 by show ¬ (0 : Int) = j + 1; omega)]
    · rw [f _ (by omega)])
  refine ⟨fun k h1 h2 => by rw [f _ (by omega)]; exact a k h1 h2, ?_, hX⟩
  have p0 := zPol_16 (i := 0) (by decide) hX
  have p1 := zPol_16 (i := 1) (by decide) hX
  unfold SB at b ⊢
  rw [f 46 (by omega), f 52 (by omega)]
  have e : i = 0 ∨ i = 1 := by omega
  rcases e with rfl | rfl
  · have hw' : z 46 ≤ 7 := hw
    have q := pe 1 (by decide) (by decide)
    omega
  · have hw' : z 52 ≤ 7 := hw
    have q := pe 0 (by decide) (by decide)
    omega
theorem LX_le {z : Z} {c t k : Int} (hc : 0 ≤ c ∧ c < 64) (hp : pl c) (ht : 0 ≤ t ∧ t < 3) (h : LX z) : LX (zLe z c t k) := by
  simp only [zLe]
  exact LX_u1 (by unfold LN; omega) (LX_who2 hc hp (by omega) (LX_u1 (by unfold LN; omega) (LX_u1 (by unfold LN; omega) h)))
theorem zLe_o {z : Z} {c t k j : Int} (h : ¬ j = 23 + 3 * t ∧ ¬ j = 12 ∧ ¬ j = 59 + 9 * c + 2 ∧ ¬ j = 59 + 9 * c + 3) : zLe z c t k j = z j := by
  simp only [zLe]
  rw [u1_ne h.2.2.2, u1_ne h.2.2.1, u1_ne h.2.1, u1_ne h.1]
theorem LZ_le {z : Z} {c t k : Int} (hc : 0 ≤ c ∧ c < 64) (ht : 0 ≤ t ∧ t < 3) (h : LZ z) : LZ (zLe z c t k) := fun e a b => by
  have de := h e a b
  by_cases q : e = c
  · subst q
    have y2 : zLe z e t k (59 + 9 * e + 2) = t + 1 := by simp only [zLe]; rw [u1_ne (by omega), u1_at]
    rw [y2, zLe_o (j := 59 + 9 * e + 4) (by omega), zLe_o (j := 59 + 9 * e + 5) (by omega)]
    exact ⟨fun w => by omega, de.2⟩
  · rw [zLe_o (by omega), zLe_o (by omega), zLe_o (by omega), zLe_o (by omega)]
    exact de
theorem zIn0_o {z : Z} {c i k j : Int} (h : ¬ j = 23 + 3 * (z (59 + 9 * c + 2) - 1) ∧ ¬ j = 41 + 6 * i + 0 ∧ ¬ j = 41 + 6 * i + 4 ∧ ¬ j = 59 + 9 * c + 4 ∧ ¬ j = 59 + 9 * c + 5) : zIn0 z c i k j = z j := by
  simp only [zIn0]
  rw [u1_ne h.2.2.2.2, u1_ne h.2.2.2.1, u1_ne h.2.2.1, u1_ne h.2.1, u1_ne h.1]
theorem LX_in {z : Z} {c i k : Int} (hc : 0 ≤ c ∧ c < 64) (hp : pl c) (hi : 0 ≤ i ∧ i < 2) (hl : 0 < z (59 + 9 * c + 2)) (hb : z (59 + 9 * c + 4) = 0) (hw : z (41 + 6 * i + 5) ≤ 7) (h : LX z) : LX (zIn0 z c i k) := by
  have ht := (h.2.2 c hc.1 hc.2).2.2.1
  simp only [zIn0]
  refine LX_u1 (by unfold LN; omega) (LX_by2 hc hp hi ?_ ?_ (LX_u1 (by unfold LN; omega) (LX_u1 (by unfold LN; omega) (LX_u1 (by unfold LN; omega) h))))
  · rw [u1_ne (by omega), u1_ne (by omega), u1_ne (by omega)]; exact hb
  · rw [u1_ne (by omega), u1_ne (by omega), u1_ne (by omega)]; exact hw
theorem LZ_in {z : Z} {c i k : Int} (hc : 0 ≤ c ∧ c < 64) (hi : 0 ≤ i ∧ i < 2) (hl : 0 < z (59 + 9 * c + 2) ∧ z (59 + 9 * c + 2) ≤ 3) (h : LZ z) : LZ (zIn0 z c i k) := fun e a b => by
  have de := h e a b
  by_cases q : e = c
  · subst q
    have y4 : zIn0 z e i k (59 + 9 * e + 4) = i + 1 := by simp only [zIn0]; rw [u1_ne (by omega), u1_at]
    rw [y4, zIn0_o (by omega), zIn0_o (by omega)]
    exact ⟨de.1, fun w => by omega⟩
  · rw [zIn0_o (by omega), zIn0_o (by omega), zIn0_o (by omega), zIn0_o (by omega)]
    exact de
/-- closing: the class's contract over the law's memory -/
theorem us_fin {G : GX} {sh : List SH} {M : MI} {a : List PV} {X P P1 : Mem} {z z0 y : Z} {r : Option PV} {B K H B' K' H' : Int} (h : LJ X P z B K H) (hct : CT G sh M 0 0 a (ps (lz X false z0) 1 P) r (ps (kM (lz X false z0) P) 1 P1)) (hR : RR P1 y 10000 B' K') (hC : CX P1) (hX : LX y) (hZ : LZ y) (hN : NI y) (hr : RT y) (hH : 0 ≤ y 0 ∧ y 0 ≤ H') : ∃ W P1, CT G sh M 0 0 a (lz X false z0) r (lz W false z0) ∧ LJ W P1 y B' K' H' := by
  refine ⟨ps (kM (lz X false z0) P) 1 P1, P1, ?_, LJ_new h.2.2.2.1 hR hC hX hZ hN hr hH⟩
  rw [(kM_LB h.2.2.2.1).2]
  rw [QP_z h.1 z0] at hct
  exact hct
theorem us_fx {X P : Mem} {z z0 : Z} {B K H : Int} (h : LJ X P z B K H) : SR (lz X false z0) ∧ (0 ≤ lz X false z0 49 0 ∧ lz X false z0 49 0 ≤ 6) ∧ (0 ≤ P 0 10 ∧ P 0 10 ≤ 512) ∧ (0 ≤ P 13 0 ∧ P 13 0 ≤ 6) ∧ (0 ≤ P 17 0 ∧ P 17 0 ≤ 3) := by
  obtain ⟨a1, a2, a3⟩ := LB_lz (z := z0) h.2.2.2.1
  have hV := h.1.2.1.2.2.2.1
  exact ⟨a1, a2, hV.2.2.1.1, hV.1, hV.2.1⟩
theorem LJ.q {X P : Mem} {z : Z} {B K H : Int} (h : LJ X P z B K H) : LQ z 10000 B K := ⟨h.1.2.2.2.1, h.1.2.2.2.2, h.2.1, h.2.2.1, P, h.1.2.1, h.1.2.2.1⟩
section
variable {G : GX} {sh : List SH} {X P : Mem} {z : Z} {B K H : Int}
theorem us_at (V : EV G sh) (h : LJ X P z B K H) (hn : z 2 < 3) {v : Int} (hv : 0 ≤ v ∧ v ≤ 10000) : ∃ W P1, CT G sh iX7_addTenant 0 0 [.inr (.ref 0), .inl v] (lz X false (zAT z v)) (some (.inl (z 2))) (lz W false (zAT z v)) ∧ LJ W P1 (zAT z v) B K H := by
  obtain ⟨f1, f2, f3, f4, f5⟩ := us_fx (z0 := zAT z v) h
  have hh := h
  obtain ⟨⟨q1, hR, hC, hX, hZ⟩, hN, hr, hb, h0⟩ := hh
  have e := hR.1.tn
  have hct := ct_X7_addTenant V (m := lz X false (zAT z v)) (P := P) (v := v) ⟨by omega, by omega⟩ f4 hv (by omega) f1 f2 f3
  rw [e] at hct
  have hN' := hN
  unfold NI at hN'
  have yo : ∀ j, ¬ j = 2 → ¬ j = 23 + 3 * z 2 → zAT z v j = z j := fun j a b => by unfold zAT; rw [u1_ne a, u1_ne b]
  refine us_fin h hct (R_at (by omega) hR) (CX_at hC) ?_ ?_ ?_ ?_ ?_
  · exact LX_u1 (by unfold LN; omega) (LX_u1 (by unfold LN; omega) hX)
  · exact LZ_u1 (by unfold ZN; omega) (LZ_u1 (by unfold ZN; omega) hZ)
  · unfold NI
    have e2 : zAT z v 2 = z 2 + 1 := by unfold zAT; rw [u1_at, u1_ne (by omega)]
    rw [e2, yo 3 (by omega) (by omega)]
    omega
  · exact RT_cg hr (yo _ (by omega) (by omega)) (yo _ (by omega) (by omega))
  · rw [yo 0 (by omega) (by omega)]; exact h0
theorem us_ai (V : EV G sh) (h : LJ X P z B K H) (hn : z 3 < 2) {f r c : Int} (hf : 0 ≤ f ∧ f ≤ 10000) (hr1 : 1 ≤ r ∧ r ≤ 60) (hc : 1 ≤ c ∧ c ≤ 500) : ∃ W P1, CT G sh iX7_addInsurer 0 0 [.inr (.ref 0), .inl f, .inl r, .inl c] (lz X false (zAI z f r c)) (some (.inl (z 3))) (lz W false (zAI z f r c)) ∧ LJ W P1 (zAI z f r c) B K H := by
  obtain ⟨f1, f2, f3, f4, f5⟩ := us_fx (z0 := zAI z f r c) h
  have hh := h
  obtain ⟨⟨q1, hR, hC, hX, hZ⟩, hN, hr, hb, h0⟩ := hh
  have e := hR.1.im
  have hct := ct_X7_addInsurer V (m := lz X false (zAI z f r c)) (P := P) (f := f) (r := r) (c := c) ⟨by omega, by omega⟩ ⟨by omega, by omega⟩ ⟨by omega, by omega⟩ f5 hf ⟨by omega, by omega⟩ hc (by omega) f1 f2 f3
  rw [e] at hct
  have hN' := hN
  unfold NI at hN'
  have yo : ∀ j, ¬ j = 3 → ¬ j = 41 + 6 * z 3 + 0 → ¬ j = 41 + 6 * z 3 + 1 → ¬ j = 41 + 6 * z 3 + 2 → zAI z f r c j = z j := fun j a b d e => by simp only [zAI]; rw [u1_ne a, u1_ne e, u1_ne d, u1_ne b]
  refine us_fin h hct (R_ai (by omega) hR) (CX_ai hC) ?_ ?_ ?_ ?_ ?_
  · simp only [zAI]
    exact LX_u1 (by unfold LN; omega) (LX_u1 (by unfold LN; omega) (LX_u1 (by unfold LN; omega) (LX_u1 (by unfold LN; omega) hX)))
  · simp only [zAI]
    exact LZ_u1 (by unfold ZN; omega) (LZ_u1 (by unfold ZN; omega) (LZ_u1 (by unfold ZN; omega) (LZ_u1 (by unfold ZN; omega) hZ)))
  · unfold NI
    have e3 : zAI z f r c 3 = z 3 + 1 := by simp only [zAI]; rw [u1_at, u1_ne (by omega), u1_ne (by omega), u1_ne (by omega)]
    rw [e3, yo 2 (by omega) (by omega) (by omega) (by omega)]
    omega
  · intro i a b
    by_cases q : i = z 3
    · have er : zAI z f r c (41 + 6 * i + 1) = r := by subst q; simp only [zAI]; rw [u1_ne (by omega), u1_ne (by omega), u1_at]
      rw [er]; omega
    · rw [yo _ (by omega) (by omega) (by omega) (by omega)]
      exact hr i a b
  · rw [yo 0 (by omega) (by omega) (by omega) (by omega)]; exact h0
theorem us_set (V : EV G sh) (h : LJ X P z B K H) (g8 : (gE G 1).2.1 = 8) (gm : ∀ s, 0 ≤ s → s < 8 → (gE G 1).2.2 s = zMost s) {s v : Int} (hs : 0 ≤ s ∧ s < 8) (hv : 0 ≤ v ∧ v ≤ zMost s) : ∃ W P1, CT G sh iX7_set 0 0 [.inr (.ref 0), .inl s, .inl v] (lz X false (u1 z (15 + s) v)) (some (.inl (z (15 + s)))) (lz W false (u1 z (15 + s) v)) ∧ LJ W P1 (u1 z (15 + s) v) B K H := by
  obtain ⟨f1, f2, f3, f4, f5⟩ := us_fx (z0 := u1 z (15 + s) v) h
  have hh := h
  obtain ⟨⟨q1, hR, hC, hX, hZ⟩, hN, hr, hb, h0⟩ := hh
  have bs := zMost_b s
  have hgl : (gE G 1).2.1 = 8 ∧ ∀ s, 0 ≤ s → s < 8 → 0 ≤ (gE G 1).2.2 s ∧ (gE G 1).2.2 s ≤ 100 := ⟨g8, fun s a b => by rw [gm s a b]; exact zMost_b s⟩
  have hct := ct_X7_set V (m := lz X false (u1 z (15 + s) v)) (P := P) (s := s) (v := v) ⟨by omega, by omega⟩ ⟨by omega, by omega⟩ hgl hs (by rw [gm s hs.1 hs.2]; exact hv) f1 f2 f3
  rw [hR.1.st s hs.1 hs.2] at hct
  refine us_fin h hct (R_set hs ⟨hv.1, by omega⟩ hR) (CX_set hC) (LX_u1 (by unfold LN; omega) hX) (LZ_u1 (by unfold ZN; omega) hZ) ?_ (RT_cg hr (u1_ne (by omega)) (u1_ne (by omega))) (by rw [u1_ne (by omega)]; exact h0)
  unfold NI
  rw [u1_ne (by omega), u1_ne (by omega)]
  exact hN
theorem us_le (V : EV G sh) (h : LJ X P z B K H) {c t k : Int} (hc : 0 ≤ c ∧ c < 64) (hp : pl c) (ht : 0 ≤ t ∧ t < z 2) (hk : 1 ≤ k ∧ k ≤ 200) (hl : z (59 + 9 * c + 2) = 0) (hm : ¬ wr (z (23 + 3 * t)) < wr (k * z (15 + 0))) : ∃ W P1, CT G sh iX7_lease 0 0 [.inr (.ref 0), .inl c, .inl t, .inl k] (lz X false (zLe z c t k)) (some (.inl (zLe z c t k (23 + 3 * t)))) (lz W false (zLe z c t k)) ∧ LJ W P1 (zLe z c t k) B K H := by
  obtain ⟨f1, f2, f3, f4, f5⟩ := us_fx (z0 := zLe z c t k) h
  have hh := h
  obtain ⟨⟨q1, hR, hC, hX, hZ⟩, hN, hr, hb, h0⟩ := hh
  have e := hR.1.tn
  have hN' := hN
  unfold NI at hN'
  have hl0 : ¬ 0 < z (59 + 9 * c + 2) := by omega
  have p3 : cLs P c = false := by
    cases q : cLs P c
    · rfl
    · exact absurd ((cLs_e hc hR.1 hR.2.2.2.2.1).mp q) hl0
  have p4 : ¬ wr (P 14 t) < wr (cRent P k) := by
    unfold cRent
    rw [hR.1.mo t ht.1 (by omega), hR.1.st 0 (by decide) (by decide), Int.mul_comm (z (15 + 0)) k]
    exact hm
  have hQ := R_le (k := k) hc ht hk hl0 hR
  have hct := ct_X7_lease V (m := lz X false (zLe z c t k)) (P := P) (c := c) (t := t) (k := k) ⟨by omega, by omega⟩ ⟨by omega, by omega⟩ ⟨by omega, by omega⟩ f4 hc (by omega) hk p3 p4 f1 f2 f3
  rw [hQ.1.mo t ht.1 (by omega)] at hct
  refine us_fin h hct hQ (CX_le hC) (LX_le hc hp (by omega) hX) (LZ_le hc (by omega) hZ) ?_ (RT_cg hr (zLe_o (by omega)) (zLe_o (by omega))) (by rw [zLe_o (by omega)]; exact h0)
  unfold NI
  rw [zLe_o (by omega), zLe_o (by omega)]
  exact hN
theorem us_in (V : EV G sh) (h : LJ X P z B K H) (hK : K + 1 ≤ 512) {c i k : Int} (hc : 0 ≤ c ∧ c < 64) (hp : pl c) (hi : 0 ≤ i ∧ i < z 3) (hk : 1 ≤ k ∧ k ≤ z (59 + 9 * c + 3)) (hk2 : k ≤ 200) (hl : 0 < z (59 + 9 * c + 2)) (hb0 : z (59 + 9 * c + 4) = 0) (hw : z (41 + 6 * i + 5) ≤ 7) (hm : ¬ wr (z (23 + 3 * (z (59 + 9 * c + 2) - 1))) < wr (zPrem z c i k (z 1))) : ∃ W P1, CT G sh iX7_insure 0 0 [.inr (.ref 0), .inl c, .inl i, .inl k] (lz X false (zIn z c i k)) (some (.inl (zPrem z c i k (z 1)))) (lz W false (zIn z c i k)) ∧ LJ W P1 (zIn z c i k) B (K + 1) H := by
  obtain ⟨f1, f2, f3, f4, f5⟩ := us_fx (z0 := zIn z c i k) h
  have hh := h
  obtain ⟨⟨q1, hR, hC, hX, hZ⟩, hN, hr, hb, h0⟩ := hh
  have et := hR.1.tn
  have ei := hR.1.im
  have hI := hR.2.2.2.2.2
  have hW := hR.2.2.2.2.1
  have hN' := hN
  unfold NI at hN'
  have xw := (hX.2.2 c hc.1 hc.2).2.2.1
  have a5 := hR.1.wh c hc.1 hc.2
  have iw := hI.wh c hc.1 hc.2
  have p4 : cHp P c = false := by
    cases q : cHp P c
    · rfl
    · exact absurd ((cHp_e hc hR.1 hW).mp q) (by omega)
  have ep : cPrem P c i k (P 0 1) = zPrem z c i k (z 1) := prem_e hc ⟨hi.1, by omega⟩ hR.1 hR.1.ht
  have il := hI.le c hc.1 hc.2 hl
  have ell : wr (cLL P c) = z (59 + 9 * c + 3) := by
    have e := hR.1.le c hc.1 hc.2 hl
    unfold D0 at e
    unfold cLL
    rw [if_pos ((cLs_e hc hR.1 hW).mpr hl), wr_id' (by omega) (by omega)]
    omega
  have p6 : ¬ wr (P 14 (P 5 c)) < wr (cPrem P c i k (P 0 1)) := by
    rw [ep, hR.1.mo (P 5 c) (by omega) (by omega), show P 5 c = z (59 + 9 * c + 2) - 1 by omega]
    exact hm
  have hct := ct_X7_insure V (m := lz X false (zIn z c i k)) (P := P) (c := c) (i := i) (k := k) ⟨by omega, by omega⟩ ⟨by omega, by omega⟩ ⟨by omega, by omega⟩ f4 f5 hR.2.2.2.1 hc (by omega) ⟨by omega, by omega⟩ ⟨by omega, by omega⟩ p4 (by omega) p6 f1 f2 f3
  rw [ep] at hct
  have hQ := R_in hc hi hk hl hb0 hK hR
  rw [ep] at hQ
  have X0 := LX_in (k := k) hc hp ⟨hi.1, by omega⟩ hl hb0 hw hX
  have fq : ∀ q j, (q = 13 ∨ q = 17 ∨ q = 19) → cPay (cMkP P c i k (P 5 c) (zPrem z c i k (z 1))) i q j = P q j := fun q j e => by
    rw [cPay_o (by omega)]
    simp only [cMkP]
    rw [up_ne (by omega), up_ne (by omega), up_ne (by omega), up_ne (by omega), up_ne (by omega)]
  refine us_fin h hct hQ (CX_pay (by rw [mk_10]; exact f3.1) (CX_mk hC)) (LX_pay ⟨hi.1, by omega⟩ X0) (LZ_pay ⟨hi.1, by omega⟩ X0 (LZ_in hc ⟨hi.1, by omega⟩ ⟨hl, xw.2⟩ hZ)) (NI_P hN hR.1 hQ.1 (fq _ _ (by omega)) (fq _ _ (by omega))) (RT_P hr hR.1 hQ.1 (fun i => fq _ _ (by omega))) ?_
  have e0 : zIn z c i k 0 = z 0 := by
    have wt := LX_wt X0 (i := i) ⟨hi.1, by omega⟩
    unfold zIn
    rw [(zPay_fr ⟨hi.1, by omega⟩ ⟨wt.1, by omega⟩ (QT_QE X0.1)).1 0 (by omega) (by omega) (by omega), zIn0_o (by omega)]
  rw [e0]
  exact h0
theorem us_ren (V : EV G sh) (h : LJ X P z B K H) {c : Int} (hc : 0 ≤ c ∧ c < 64) (hl : z (59 + 9 * c + 2) = 0) (hm : ¬ wr (z 12) < wr (z (15 + 7))) : ∃ W P1, CT G sh iX7_renew 0 0 [.inr (.ref 0), .inl c] (lz X false (zRen z c)) (some (.inl (z (59 + 9 * c + 1)))) (lz W false (zRen z c)) ∧ LJ W P1 (zRen z c) B K H := by
  obtain ⟨f1, f2, f3, f4, f5⟩ := us_fx (z0 := zRen z c) h
  have hh := h
  obtain ⟨⟨q1, hR, hC, hX, hZ⟩, hN, hr, hb, h0⟩ := hh
  have hl0 : ¬ 0 < z (59 + 9 * c + 2) := by omega
  have p1 : cLs P c = false := by
    cases q : cLs P c
    · rfl
    · exact absurd ((cLs_e hc hR.1 hR.2.2.2.2.1).mp q) hl0
  have hct := ct_X7_renew V (m := lz X false (zRen z c)) (P := P) (c := c) ⟨by omega, by omega⟩ hc p1 (by rw [hR.1.hs, hR.1.st 7 (by decide) (by decide)]; exact hm) f1 f2 f3
  rw [hR.1.sg c hc.1 hc.2] at hct
  have yo : ∀ j, ¬ j = 59 + 9 * c + 1 → ¬ j = 59 + 9 * c + 0 → ¬ j = 12 → ¬ j = 13 → zRen z c j = z j := fun j a b d e => by simp only [zRen]; rw [u1_ne e, u1_ne d, u1_ne b, u1_ne a]
  refine us_fin h hct (R_ren hc hl0 hR) (CX_ren hC) ?_ ?_ ?_ (RT_cg hr (yo _ (by omega) (by omega) (by omega) (by omega)) (yo _ (by omega) (by omega) (by omega) (by omega))) (by rw [yo _ (by omega) (by omega) (by omega) (by omega)]; exact h0)
  · simp only [zRen]
    refine LX_u1 (by unfold LN; omega) (LX_u1 (by unfold LN; omega) ?_)
    rw [Int.add_zero]
    exact LX_bit hc (Or.inl rfl) (LX_u1 (by unfold LN; omega) hX)
  · simp only [zRen]
    exact LZ_u1 (by unfold ZN; omega) (LZ_u1 (by unfold ZN; omega) (LZ_u1 (by unfold ZN; omega) (LZ_u1 (by unfold ZN; omega) hZ)))
  · unfold NI
    rw [yo _ (by omega) (by omega) (by omega) (by omega), yo _ (by omega) (by omega) (by omega) (by omega)]
    exact hN
theorem us_wr (V : EV G sh) (h : LJ X P z B K H) {k : Int} {b : Bool} (hk : 0 ≤ k ∧ k < 16) (hl : 0 < z (59 + 9 * cr k + 2)) : ∃ W P1, CT G sh iX7_write 0 0 [.inr (.ref 0), .inl (cr k), .inl (bI b)] (lz X false z) (some (.inl (zWr z (cr k) (bI b) (59 + 9 * cr k + 0)))) (lz W false z) ∧ LJ W P1 (zWr z (cr k) (bI b)) B K H := by
  have hc := cr_b hk
  obtain ⟨f1, f2, f3, f4, f5⟩ := us_fx (z0 := z) h
  obtain ⟨l1, e0⟩ := LQ_wr (b := bI b) hk (by cases b; exact Or.inl rfl; exact Or.inr rfl) h.q
  have hh := h
  obtain ⟨⟨q1, hR, hC, hX, hZ⟩, hN, hr, hb, h0⟩ := hh
  have hQ := R_wb (b := b) hc hR
  have hct := ct_X7_write V (m := lz X false z) (P := P) (c := cr k) (b := b) ⟨by omega, by omega⟩ hR.2.2.2.1 hc ((cLs_e hc hR.1 hR.2.2.2.2.1).mpr hl) f1 f2 f3
  rw [hQ.1.bit _ hc.1 hc.2, show 59 + 9 * cr k = 59 + 9 * cr k + 0 by omega] at hct
  exact us_fin h hct hQ (CX_wb hR.2.2.2.1 hC) l1.1 l1.2.1 l1.2.2.1 l1.2.2.2.1 (by rw [e0]; exact h0)
theorem us_rd (V : EV G sh) (h : LJ X P z B K H) {k : Int} (hk : 0 ≤ k ∧ k < 16) (hB : B + 1 ≤ 1000000) (hl : 0 < z (59 + 9 * cr k + 2)) (ho : z (59 + 9 * cr k + 6) = 0) : ∃ W P1, CT G sh iX7_read 0 0 [.inr (.ref 0), .inl (cr k)] (lz X false z) (some (.inl (zRd1 z (cr k) (59 + 9 * cr k + 0)))) (lz W false z) ∧ LJ W P1 (zRd z (cr k)) (B + 1) K H := by
  have hc := cr_b hk
  obtain ⟨f1, f2, f3, f4, f5⟩ := us_fx (z0 := z) h
  have ec : zCR z (cr k) = true := by
    have x := (h.1.2.2.2.1.2.2 _ hc.1 hc.2).2.2.1
    unfold zCR zLs zOw
    rw [ho, wr_id' (by omega) (by omega), decide_eq_true hl]
    rfl
  obtain ⟨l1, e0⟩ := LQ_rd hk ec hB h.q
  have hh := h
  obtain ⟨⟨q1, hR, hC, hX, hZ⟩, hN, hr, hb, h0⟩ := hh
  have hst := hR.2.2.2.2.2.st 2 (by decide) (by decide)
  obtain ⟨r1, -, -⟩ := R_pul (K := K) (b := z (15 + 2)) hc (hR.1.st 2 (by decide) (by decide)) (by omega) hR.1 hR.2.1 hR.2.2.2.1 hR.2.2.2.2.1 hR.2.2.2.2.2
  have hct := ct_X7_read V (m := lz X false z) (P := P) (c := cr k) ⟨by omega, by omega⟩ hR.2.2.2.1 hc (by rw [cCR_z hc hR]; exact ec) f1 f2 f3
  have e5 : cOne (cRdA P (cr k)) (cr k) = cOne (cPul P (cr k) (P 1 2)) (cr k) := cOne_cg (by unfold cRdA; rw [up_ne (by omega)])
  have e6 : bI (cOne (cRdA P (cr k)) (cr k)) = zRd1 z (cr k) (59 + 9 * cr k + 0) := by
    rw [e5, r1.bit _ hc.1 hc.2]
    unfold zRd1
    rw [u1_ne (by omega), show 59 + 9 * cr k + 0 = 59 + 9 * cr k by omega]
  rw [e6] at hct
  exact us_fin h hct (R_rd hc ec hB hR) (CX_rd hR.2.2.2.1 hC) l1.1 l1.2.1 l1.2.2.1 l1.2.2.2.1 (by rw [e0]; exact h0)
theorem us_wb (V : EV G sh) (h : LJ X P z B K H) (o : Int → Int) (hn : 0 < zOwN z) : ∃ W P1, CT G sh iX7_writeBack 0 0 [.inr (.ref 0)] (lz X false z) (some (.inl (zOrd z o 0))) (lz W false z) ∧ LJ W P1 (zWb z (zOrd z o 0)) B K H := by
  obtain ⟨f1, f2, f3, f4, f5⟩ := us_fx (z0 := z) h
  obtain ⟨l1, e0⟩ := LQ_wb o hn h.q
  have hh := h
  obtain ⟨⟨q1, hR, hC, hX, hZ⟩, hN, hr, hb, h0⟩ := hh
  have hd : 0 ≤ P 10 0 ∧ P 10 0 ≤ 64 := hR.2.2.2.1.2.2.2.1.1
  have en := RR_n hR
  have bn : 0 ≤ zOwN z ∧ zOwN z ≤ 64 := by have := cnt_b (zOw z) 64 0 0; unfold zOwN; omega
  rw [wr_id' (by omega) (by omega), wr_id' (by omega) (by omega)] at en
  have hQ := R_fb o hn hR
  have hct := ct_X7_writeBack V (m := lz X false z) (P := P) hR.2.2.2.1 hd (by omega) f1 f2 f3
  rw [hQ.2] at hct
  exact us_fin h hct hQ.1 (CX_fb hR.2.2.2.1 hC) l1.1 l1.2.1 l1.2.2.1 l1.2.2.2.1 (by rw [e0]; exact h0)
theorem us_pass (V : EV G sh) (h : LJ X P z B K H) (hH : H ≤ 9000) {t : Int} (ht : 1 ≤ t ∧ t ≤ 9) (s : Z × (Int → Int)) (hs : s = zTkN t.toNat (z, fun _ => 0)) : ∃ W P1, CT G sh iX7_pass 0 0 [.inr (.ref 0), .inl t] (lz X false s.1) (some (.inl (s.1 1))) (lz W false s.1) ∧ LJ W P1 s.1 B K (H + 14) := by
  obtain ⟨f1, f2, f3, f4, f5⟩ := us_fx (z0 := s.1) h
  have h00 := h.2.2.2.2
  obtain ⟨l1, e0⟩ := LQ_tkN t.toNat (z, fun _ => 0) (by omega) (by dsimp only; omega) h.q
  have hh := h
  obtain ⟨⟨q1, hR, hC, hX, hZ⟩, hN, hr, hb, h0⟩ := hh
  have hz := hR.2.2.2.2.2.t0
  have ez := hR.1.t0
  have hQ := R_pass (s := (z, fun _ => 0)) (d := t.toNat) (by omega) (by dsimp only; omega) hR
  rw [← hs] at l1 e0 hQ
  dsimp only at e0
  have hct := ct_X7_pass V (m := lz X false s.1) (P := P) (t := t) ⟨by omega, by omega⟩ hR.2.2.2.1 (by omega) ⟨by omega, by omega⟩ (by omega) f1 f2 f3
  rw [hQ.1.ht] at hct
  exact us_fin h hct hQ (CX_tkN _ _ hR.2.2.2.1 hC) l1.1 l1.2.1 l1.2.2.1 l1.2.2.2.1 (by rw [e0]; omega)
end

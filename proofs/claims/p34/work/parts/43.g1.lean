/-! plain mathematics: a tick -/
theorem zLtF_no {o : Int → Int} : ∀ (d : Nat) (k : Int) (z : Z), (∀ x, x ∈ seg o k d → ¬ wr (z (59 + 9 * x + 6) - 1) < wr (z 0)) → zLtF o d k z = z := by
  intro d
  induction d with
  | zero => intro k z h; rfl
  | succ d ih =>
    intro k z h
    rw [zLtF, if_neg (h (o k) (by rw [seg]; exact List.mem_cons_self))]
    exact ih _ _ (fun x hx => h x (by rw [seg]; exact List.mem_cons_of_mem _ hx))
theorem dL_nil {P : Mem} (hV : CV P) (h : dL P = []) : P 10 0 = 0 := by
  have := congrArg List.length h
  unfold dL at this
  rw [seg_len] at this
  have := hV.2.2.2.1.1
  simp at *
  omega
theorem R_ltF {T B K : Int} {dl o : Int → Int} : ∀ (d F : Nat) (k : Int) (P : Mem) (z : Z), d ≤ F → RC P z dl → RQ P z → RD P z → CV P → WI z K → IZ z T B → dL P = seg o k d →
    RC (cLtF F P) (zLtF o d k z) dl ∧ RQ (cLtF F P) (zLtF o d k z) ∧ RD (cLtF F P) (zLtF o d k z) ∧ WI (zLtF o d k z) K ∧ IZ (zLtF o d k z) T B := by
  intro d
  induction d with
  | zero =>
    intro F k P z h0 hR hQ hD hV hW hI hL
    have e : P 10 0 = 0 := dL_nil hV hL
    have ec : cLtF F P = P := by
      cases F with
      | zero => rfl
      | succ F =>
        have ef : cFi P = -1 := by unfold cFi; rw [e, if_neg (by decide)]
        rw [cLtF, ef, if_neg (by intro q; exact absurd q.1 (by decide))]
    rw [ec]
    exact ⟨hR, hQ, hD, hW, hI⟩
  | succ d ih =>
    intro F k P z h0 hR hQ hD hV hW hI hL
    obtain ⟨F, rfl⟩ : ∃ n, F = n + 1 := ⟨F - 1, by omega⟩
    have hl := congrArg List.length hL
    have hcd := hV.2.2.2.1.1
    rw [seg_len] at hl
    unfold dL at hl
    rw [seg_len] at hl
    have hn : 0 < P 10 0 := by omega
    obtain ⟨f1, hc, ho⟩ := cFi_e hD hI hV hn
    have hh := dL_head hn
    rw [hL, seg] at hh
    obtain ⟨g1, g2⟩ := List.cons.inj hh
    have pw := hD.1.1
    rw [hL, seg] at pw
    have hmem : ∀ x, x ∈ seg o (k + 1) d → (0 ≤ x ∧ x < 64) ∧ 0 < z (59 + 9 * x + 6) := fun x hx => (hD.1.2 x).mp (by rw [hL, seg]; exact List.mem_cons_of_mem _ hx)
    rw [← g1] at f1 hc ho
    rw [cLtF, zLtF, f1]
    clear g1 g2 hh
    generalize hck : o k = c at *
    have ed := hD.2 c hc.1 hc.2
    have er := hI.du c hc.1 hc.2
    have eT := hI.tT
    have e0 := hI.t0
    have et := hR.t0
    have eu : cDu P c = P 12 c := by unfold cDu; rw [if_pos (wi_t ⟨by omega, by omega⟩)]
    have w1 : wr (cDu P c) = z (59 + 9 * c + 6) - 1 := by rw [eu, wr_id' (by omega) (by omega)]; omega
    have w2 : wr (P 0 0) = z 0 := by rw [et, wr_id' (by omega) (by omega)]
    have w3 : wr (z (59 + 9 * c + 6) - 1) = z (59 + 9 * c + 6) - 1 := wr_id' (by omega) (by omega)
    have w4 : wr (z 0) = z 0 := wr_id' (by omega) (by omega)
    rw [w1, w2, w3, w4]
    by_cases q : z (59 + 9 * c + 6) - 1 < z 0
    · rw [if_pos ⟨wi_t ⟨by omega, by omega⟩, q⟩, if_pos q]
      have I0 := IZ_out hc hI ho
      have W0 : WI (u1 z (59 + 9 * c + 6) 0) K := WI_u1 (by unfold NW; omega) hW
      have R0 : RC (cStr P c) (u1 z (59 + 9 * c + 6) 0) dl := RC_zo (RC_str' hR) (by unfold ZO; omega)
      have Q0 : RQ (cStr P c) (u1 z (59 + 9 * c + 6) 0) := RQ_cg hQ (by funext x; exact cStr_o (by omega)) (cStr_o (by omega)) (fun j hj => u1_ne (by omega))
      have V0 : CV (cStr P c) := CV_str hV
      have D0 : RD (cStr P c) (u1 z (59 + 9 * c + 6) 0) := RD_str hc hD hI hV (fun e a b => ⟨by
        by_cases f : e = c
        · subst f; rw [u1_at, if_pos rfl]
        · rw [u1_ne (by omega), if_neg f], u1_ne (by omega)⟩)
      have eL : dL (cStr P c) = seg o (k + 1) d := by
        refine OL_uniq (R := zB z) (fun _ _ => zB_as) _ _ ?_ (List.pairwise_cons.mp pw).2 (fun x => ?_)
        · refine List.Pairwise.imp_of_mem (fun {u v} hu hv r => ?_) D0.1.1
          have m1 := (D0.1.2 u).mp hu
          have m2 := (D0.1.2 v).mp hv
          have n1 : ¬ u = c := fun f => by subst f; rw [u1_at] at m1; omega
          have n2 : ¬ v = c := fun f => by subst f; rw [u1_at] at m2; omega
          unfold zB at r ⊢
          rw [u1_ne (by omega), u1_ne (by omega), u1_ne (by omega), u1_ne (by omega)] at r
          exact r
        · rw [D0.1.2 x]
          have hx := hD.1.2 x
          rw [hL, seg, hck, List.mem_cons] at hx
          have hcn : ¬ c ∈ seg o (k + 1) d := fun f => zB_as ((List.pairwise_cons.mp pw).1 c f) ((List.pairwise_cons.mp pw).1 c f)
          constructor
          · rintro ⟨a, b⟩
            by_cases f : x = c
            · subst f; rw [u1_at] at b; omega
            · rw [u1_ne (by omega)] at b
              rcases hx.mpr ⟨a, b⟩ with g | g
              · exact (f g).elim
              · exact g
          · intro a
            have m := hmem x a
            refine ⟨m.1, ?_⟩
            have f : ¬ x = c := fun f => hcn (by rw [← f]; exact a)
            rw [u1_ne (by omega)]; exact m.2
      have ez : u1 (u1 z (59 + 9 * c + 6) 0) 8 (u1 z (59 + 9 * c + 6) 0 8 + 1) = zLz (u1 z (59 + 9 * c + 6) 0) c 12 := by
        unfold zLz
        rw [u1_same (z := u1 z (59 + 9 * c + 6) 0) (i := 59 + 9 * c) (by rw [u1_ne (by omega)]; exact (hI.ow c hc.1 hc.2 ho).2.1)]; rfl
      rw [ez]
      obtain ⟨s1, s2⟩ := R_lo (w := 12) hc (by omega) R0 Q0 V0 W0 (IZ_L I0)
      have wz := WI_lz (w := 12) hc (by omega) W0
      have u : ∀ a b, a = 10 ∨ a = 11 ∨ a = 12 → cLo (cStr P c) c 12 a b = cStr P c a b := fun a b q => cLo_o (by unfold UL; omega)
      have D1 : RD (cLo (cStr P c) c 12) (zLo (zLz (u1 z (59 + 9 * c + 6) 0) c 12) c) := RD_cg D0 (u _ _ (by omega)) (funext fun x => u _ _ (by omega)) (fun e a b => u _ _ (by omega)) (fun e a b => ⟨by rw [zLo_fr2 hc wz (by omega), zLz_o (by omega)], by rw [zLo_fr2 hc wz (by omega), zLz_o (by omega)]⟩)
      refine ih F (k + 1) _ _ (by omega) s1 s2 D1 (CV_lo hc V0) (WI_lo hc wz) (IZ_lo hc (by omega) W0 I0) ?_
      unfold dL at eL ⊢
      rw [u 10 0 (by omega), show cLo (cStr P c) c 12 11 = cStr P c 11 from funext fun x => u _ _ (by omega)]
      exact eL
    · rw [if_neg (fun w => q w.2), if_neg q]
      rw [zLtF_no d (k + 1) z (fun x hx => by
        have m := hmem x hx
        have r := (List.pairwise_cons.mp pw).1 x hx
        have dx := hI.du x m.1.1 m.1.2
        rw [wr_id' (by omega) (by omega), wr_id' (by omega) (by omega)]
        unfold zB at r
        omega)]
      exact ⟨hR, hQ, hD, hW, hI⟩
/-- one core's policy and lease, a tick on -/
def zFu : Nat → Int → Z → Z
  | 0, _, z => z
  | d + 1, c, z => zFu d (c + 1) (zEl (zEp z c) c)
theorem zEp_ne {z : Z} {c j : Int} (h : ¬ j = 59 + 9 * c + 4 ∧ ¬ j = 59 + 9 * c + 5) : zEp z c j = z j := by
  unfold zEp
  split
  · unfold zEp1; rw [u1_ne (by omega), u1_ne (by omega)]
  · rfl
theorem zEl_ne {z : Z} {c j : Int} (h : ¬ j = 59 + 9 * c + 2 ∧ ¬ j = 59 + 9 * c + 3 ∧ ¬ j = 59 + 9 * c + 6 ∧ ¬ j = 11) : zEl z c j = z j := by
  unfold zEl
  split
  · split
    · unfold zEl2 zEl1; rw [u1_ne (by omega), u1_ne (by omega), u1_ne (by omega), u1_ne (by omega)]
    · unfold zEl1; rw [u1_ne (by omega)]
  · rfl
theorem zEp_w {z : Z} {e i v : Int} (hi : ¬ i = 59 + 9 * e + 4 ∧ ¬ i = 59 + 9 * e + 5) : zEp (u1 z i v) e = u1 (zEp z e) i v := by
  have a0 : u1 z i v (59 + 9 * e + 4) = z (59 + 9 * e + 4) := u1_ne (by omega)
  have a1 : u1 (u1 z i v) (59 + 9 * e + 5) (u1 z i v (59 + 9 * e + 5) - 1) = u1 (u1 z (59 + 9 * e + 5) (z (59 + 9 * e + 5) - 1)) i v := by rw [u1_ne (z := z) (by omega), u1_cm (by omega)]
  unfold zEp
  rw [a0]
  by_cases q : 0 < wr (z (59 + 9 * e + 4))
  · rw [if_pos q, if_pos q]
    unfold zEp1
    rw [a1]
    generalize u1 z (59 + 9 * e + 5) (z (59 + 9 * e + 5) - 1) = x
    have a2 : u1 x i v (59 + 9 * e + 5) = x (59 + 9 * e + 5) := u1_ne (by omega)
    have a3 : u1 x i v (59 + 9 * e + 4) = x (59 + 9 * e + 4) := u1_ne (by omega)
    dsimp only
    rw [a2, a3, u1_cm (by omega)]
  · rw [if_neg q, if_neg q]
theorem zEl_ep {z : Z} {c e : Int} (h : ¬ e = c) (hc : 0 ≤ c ∧ c < 64) (he : 0 ≤ e ∧ e < 64) : zEl (zEp z e) c = zEp (zEl z c) e := by
  have r2 : zEp z e (59 + 9 * c + 2) = z (59 + 9 * c + 2) := zEp_ne (by omega)
  have r3 : zEp z e (59 + 9 * c + 3) = z (59 + 9 * c + 3) := zEp_ne (by omega)
  have r6 : zEp z e (59 + 9 * c + 6) = z (59 + 9 * c + 6) := zEp_ne (by omega)
  have r11 : zEp z e 11 = z 11 := zEp_ne (by omega)
  unfold zEl zLs
  rw [r2]
  by_cases q : decide (0 < wr (z (59 + 9 * c + 2))) = true
  · rw [if_pos q, if_pos q]
    have a1 : zEl1 (zEp z e) c = zEp (zEl1 z c) e := by unfold zEl1; rw [r3, zEp_w (by omega)]
    rw [a1]
    have a2 : zEp (zEl1 z c) e (59 + 9 * c + 3) = zEl1 z c (59 + 9 * c + 3) := zEp_ne (by omega)
    rw [a2]
    by_cases q2 : wr (zEl1 z c (59 + 9 * c + 3)) = 0
    · rw [if_pos q2, if_pos q2]
      unfold zEl2
      generalize zEl1 z c = x at *
      have b1 : u1 (zEp x e) (59 + 9 * c + 2) 0 = zEp (u1 x (59 + 9 * c + 2) 0) e := (zEp_w (by omega)).symm
      rw [b1]
      have b2 : zEp (u1 x (59 + 9 * c + 2) 0) e 11 = u1 x (59 + 9 * c + 2) 0 11 := zEp_ne (by omega)
      have b3 : zOw (zEp (u1 x (59 + 9 * c + 2) 0) e) c = zOw (u1 x (59 + 9 * c + 2) 0) c := by unfold zOw; rw [zEp_ne (by omega)]
      have w1 : ∀ (y : Z) (v : Int), zEp (u1 y (59 + 9 * c + 6) v) e = u1 (zEp y e) (59 + 9 * c + 6) v := fun y v => zEp_w (by omega)
      have w2 : ∀ (y : Z) (v : Int), zEp (u1 y 11 v) e = u1 (zEp y e) 11 v := fun y v => zEp_w (by omega)
      dsimp only
      rw [b2, b3, w1, w2]
    · rw [if_neg q2, if_neg q2]
  · rw [if_neg q, if_neg q]
theorem zEl_epF {c : Int} (hc : 0 ≤ c ∧ c < 64) : ∀ (d : Nat) (e : Int) (z : Z), e + d = 64 → c < e → zEl (zEpF d e z) c = zEpF d e (zEl z c) := by
  intro d
  induction d with
  | zero => intro e z _ _; rfl
  | succ d ih => intro e z h1 h2; rw [zEpF, zEpF, ih _ _ (by omega) (by omega), zEl_ep (by omega) hc ⟨by omega, by omega⟩]
theorem zFu_e : ∀ (d : Nat) (c : Int) (z : Z), c + d = 64 → 0 ≤ c → zElF d c (zEpF d c z) = zFu d c z := by
  intro d
  induction d with
  | zero => intro c z _ _; rfl
  | succ d ih => intro c z h1 h2; rw [zEpF, zElF, zFu, zEl_epF ⟨h2, by omega⟩ d (c + 1) _ (by omega) (by omega), ih _ _ (by omega) (by omega)]

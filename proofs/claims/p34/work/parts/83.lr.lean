/-! the law: runs -/
theorem lz_u {m : Mem} {p : Bool} {z : Z} {c : Nat} {i v : Int} (h : c < 197) : up (lz m p z) c i v = lz (up m c i v) p z := by
  funext a b
  by_cases q : ∃ d, d < 8 ∧ a = ix p d
  · obtain ⟨d, h1, rfl⟩ := q
    have hb := (ix_b p h1).1
    rw [lz_at h1, up_ne (by omega), lz_at h1]
  · have q' : ∀ d, d < 8 → ¬ a = ix p d := fun d h1 h2 => q ⟨d, h1, h2⟩
    rw [lz_ne q']
    unfold up
    rw [lz_ne q']
theorem tPut_ps {m P : Mem} {c : Int} : tPut (ps m 1 P) c = ps (tPut m c) 1 P := by
  unfold tPut
  rw [show ps m 1 P 195 = m 195 from ps_ne (by decide), up_psn (by decide), up_psn (by decide)]
theorem tPs_ps {P : Mem} : ∀ (l : List Int) {m : Mem}, tPs (ps m 1 P) l = ps (tPs m l) 1 P := by
  intro l
  induction l with
  | nil => intro m; rfl
  | cons c l ih =>
    intro m
    show tPs (tPut (ps m 1 P) c) l = ps (tPs (tPut m c) l) 1 P
    rw [tPut_ps]
    exact ih
theorem tPs_o {c : Nat} (h : ¬ c = 195) (h2 : ¬ c = 196) : ∀ (l : List Int) {m : Mem}, tPs m l c = m c := by
  intro l
  induction l with
  | nil => intro m; rfl
  | cons a l ih =>
    intro m
    show tPs (tPut m a) l c = m c
    rw [ih]
    unfold tPut
    rw [up_ne' h, up_ne' h2]
theorem LB_txt {X : Mem} {l : List Int} (h : LB X) (hT : TL (tPs (up X 195 0 0) l)) : LB (tPs (up X 195 0 0) l) :=
  LB_cg h (by rw [tPs_o (by decide) (by decide), up_ne' (by decide)]) (by rw [tPs_o (by decide) (by decide), up_ne' (by decide)]) hT (fun c hc => by rw [tPs_o (by omega) (by omega), up_ne' (by omega)])
theorem LB_195 {X : Mem} (h : LB X) : LB (up X 195 0 0) :=
  LB_cg h (up_ne' (by decide)) (up_ne' (by decide)) ⟨by rw [up_at]; decide, fun j a b => by rw [up_at] at b; omega⟩ (fun c hc => up_ne' (by omega))
/-- the class's own run over a text that the law typed -/
theorem run_end {G : GX} {sh : List SH} (V : EV G sh) {X P : Mem} {z : Z} {f : SP} {t B K H : Int} {s : Z × (Int → Int)} {dn : Int} {gs : Bool} (hv : HV f) (h : LJ X P z B K H) (ht : 0 ≤ t ∧ t < z 2) (hB : B + 32 ≤ 1000000) (hK2 : K ≤ 512) (hRI : RI f z t B K H 7 s dn gs) : ∃ M' : Mem, LΦ (B + 32) K (H + 14) M' ∧ CT G sh iX7_run 0 0 [.inr (.ref 0), .inl t] (lz (tPs (up X 195 0 0) (pre f 7)) false s.1) (some (.inl dn)) M' := by
  have Q := h.1
  obtain ⟨⟨q1, hR, hC, hX, hZ⟩, hN, hr, hb, hH⟩ := h
  have hT : TXT (tPs (up X 195 0 0) (pre f 7)) (pre f 7) := TXT_0 (X := up X 195 0 0) up_at
  have hbY := LB_txt hb (TL_f hv (by decide) hT)
  have e1 : lz (tPs (up X 195 0 0) (pre f 7)) false s.1 = tPs (up (lz X false s.1) 195 0 0) (pre f 7) := by rw [lz_u (by decide), lz_puts]
  have qY : ps (lz (tPs (up X 195 0 0) (pre f 7)) false s.1) 1 P = lz (tPs (up X 195 0 0) (pre f 7)) false s.1 := by
    rw [e1, ← tPs_ps, ← up_psn (by decide), QP_z Q s.1]
  generalize tPs (up X 195 0 0) (pre f 7) = Y at *
  obtain ⟨y, sv⟩ := s
  dsimp only at *
  obtain ⟨a1, a2, a3⟩ := LB_lz (z := y) hbY
  have tM : TXT (lz Y false y) (pre f 7) := TXT_cg hT (by rw [lz_lo (by decide)]) (fun j => by rw [lz_lo (by decide)])
  have tk : TXT (kM (lz Y false y) P) (pre f 7) := TXT_cg tM (kM_o a2 a1 (by decide)) (fun j => kM_o a2 a1 (by decide))
  have i0 := hR.2.2.2.2.2.t0
  have e0 := hR.1.t0
  have hV := hR.2.2.2.1
  have e13 := hR.1.tn
  obtain ⟨n1, n2⟩ := hN
  have hrun := ct_X7_run V (m := lz Y false y) (P := P) (t := t) (by omega) (by omega) a3 (by omega) (tOk_f hv (by decide) tM) a1 a2 hV.2.2.1.1 hV (by omega)
  have r := R_run (m := kM (lz Y false y) P) (N := rN f 7) (K := K) (t := t) (e := 7) ⟨ht.1, by omega⟩ rN_8 (fun n hn => EN_f hv tk hn) (pq_end hv tk) 7 0 60 7 P (z, fun _ => 0) (B := B) (by decide) (by decide) (by decide) (by omega) hR hC
  have re := RI_end hRI
  rw [show (((0 : Nat) : Int)) = 0 from rfl, re] at r
  have r2 : (cRun (lz Y false y) P t).2 = dn ∧ RR (cRun (lz Y false y) P t).1 y 10000 (B + 7) K ∧ CX (cRun (lz Y false y) P t).1 := r
  rw [qY, r2.1] at hrun
  obtain ⟨r3, r4⟩ := r2.2
  generalize (cRun (lz Y false y) P t).1 = P1 at *
  obtain ⟨l1, l2⟩ := kM_LB (P := P) (P1 := P1) (z := y) hbY
  have em : ps (up (kM (lz Y false y) P) 195 0 0) 1 P1 = lz (up (ps (kM (lz Y false y) P) 1 P1) 195 0 0) false y := by
    rw [← lz_u (by decide), l2, up_psn (by decide)]
  rw [em] at hrun
  obtain ⟨b1, b2, b3, b4, b5⟩ := hRI
  refine ⟨_, ⟨_, P1, y, rfl, ⟨?_, RR_mono (by omega) hB (Int.le_refl _) hK2 r3, r4, b3.1, b3.2.1⟩, b3.2.2.1, b3.2.2.2.1, LB_195 l1, b4, ?_⟩, hrun⟩
  · rw [← em, ps_ps]
  · have b5' : y 0 ≤ H + 2 * ((7 : Nat) : Int) := b5
    omega
theorem RI_0 {X P : Mem} {f : SP} {z : Z} {t B K H : Int} (h : LJ X P z B K H) : RI f z t B K H 0 (z, fun _ => 0) 0 true := by
  obtain ⟨⟨q1, hR, hC, hX, hZ⟩, hN, hr, hb, h0, hH⟩ := h
  refine ⟨fun _ => ⟨rfl, rfl⟩, fun q => (by cases q), ?_, h0, ?_⟩
  · rw [show B + ((0 : Nat) : Int) = B by omega]
    exact ⟨hX, hZ, hN, hr, P, hR, hC⟩
  · show z 0 ≤ H + 2 * ((0 : Nat) : Int)
    omega
theorem ct_L_runs {G : GX} {sh : List SH} (V : EV G sh) (E : EW G sh) (hs : LA sh false) {X P : Mem} {z : Z} {t x y B K H : Int} (h : LJ X P z B K H) (ht : 0 ≤ t ∧ t < z 2) (hB : B + 32 ≤ 1000000) (hK2 : K ≤ 512) (hH : H ≤ 9000) : CE G sh iL_runs 0 0 [.inr (.ref 0), .inl t, .inl x, .inl y, .inr (.ref (ix false 0)), .inr (.ref (ix false 1)), .inr (.ref (ix false 2)), .inr (.ref (ix false 3)), .inr (.ref (ix false 4)), .inr (.ref (ix false 5)), .inr (.ref (ix false 7)), .inr (.ref (ix false 6))] (lz X false z) (some (.inl (bI true))) (LΦ (B + 32) K (H + 14)) := by
  have hN := h.2.1.1
  refine j_metE (L0 := [some (.inr (.ref 0)), some (.inl t), some (.inl x), some (.inl y), some (.inr (.ref (ix false 0))), some (.inr (.ref (ix false 1))), some (.inr (.ref (ix false 2))), some (.inr (.ref (ix false 3))), some (.inr (.ref (ix false 4))), some (.inr (.ref (ix false 5))), some (.inr (.ref (ix false 7))), some (.inr (.ref (ix false 6))), none, none, none, none, none, none, none]) (by decide) E.1 E.2 rfl (Nat.le_of_ble_eq_true rfl) ?_
  refine j_iconst (q := 1) dL_runs_0 rfl ?_
  refine j_istore12 (q := 3) dL_runs_1 rfl rfl (by decide) ?_
  refine j_iconst (q := 4) dL_runs_3 rfl ?_
  refine j_istore13 (q := 6) dL_runs_4 rfl rfl (by decide) ?_
  refine j_aload0 (q := 7) dL_runs_6 rfl ?_
  refine j_callV0 (Mc := iX7_clearBuffer) (q := 10) (c' := 0) (s' := 0) dL_runs_7 rfl kV_X7_clearBuffer jw_820 ⟨by decide, by decide⟩ (V.2.2 _ _ sh_0) rfl rfl rfl (Nat.le_refl _) (Nat.le_refl _) (ct_X7_clearBuffer V) ?_
  refine j_pop (q := 11) dL_runs_10 rfl rfl ?_
  refine j_iconst (q := 12) dL_runs_11 rfl ?_
  refine j_istore14 (q := 14) dL_runs_12 rfl rfl (by decide) ?_
  refine j_mem (m' := lz (tPs (up X 195 0 0) (pre (fR x y) ((0 : Nat) : Int).toNat)) false ((z, fun _ => 0) : Z × (Int → Int)).1) (lz_u (by decide)) ?_
  refine lp_runs V E hs (X0 := up X 195 0 0) (z := z) (t := t) (x := x) (y := y) (B := B) (K := K) (H := H) up_at (by omega) hB hK2 hH 7 0 (z, fun _ => 0) 0 true (by decide) (RI_0 h) ?_
  intro s2 dn2 gs2 hRI
  obtain ⟨M2, hP, hrun⟩ := run_end V (HV_R x y) h ht hB hK2 hRI
  refine j_aload0 (q := 344) dL_runs_343 rfl ?_
  refine j_iload1 (q := 345) dL_runs_344 rfl ?_
  refine j_callV1 (Mc := iX7_run) (q := 348) (c' := 0) (s' := 0) dL_runs_345 rfl kV_X7_run jw_835 ⟨by decide, by decide⟩ (V.2.2 _ _ sh_0) rfl rfl rfl (Nat.le_refl _) (Nat.le_refl _) hrun ?_
  refine j_iload12 (q := 350) dL_runs_348 rfl ?_
  refine j_icmp_ne (tgt := 357) (q := 353) dL_runs_350 (by decide) rfl (by first | exact wr_id' (by omega) (by omega) | with_reducible exact wr_bI _ | exact rfl) (by first | exact wr_id' (by omega) (by omega) | with_reducible exact wr_bI _ | exact rfl) (fun h350 => ?_) (fun h350 => ?_)
  · omega
  · refine j_iconst (q := 354) dL_runs_353 rfl ?_
    refine j_goto (tgt := 358) dL_runs_354 (by decide) ?_
    refine j_fe hP ?_
    exact j_zreturn dL_runs_358 rfl (by decide) (by first | exact bI_t (by omega) | exact bI_f (by omega) | simp [bI, *]) (rfl)

/-! the class: its hash -/
def mx (h v : Int64) : Int64 := 31 * h + v
def fd (g : Int → Int64 → Int64) : Nat → Int → Int64 → Int64
  | 0, _, h => h
  | d + 1, k, h => fd g d (k + 1) (g k h)
def dgC1 (P : Mem) (c w : Int) (h : Int64) : Int64 := mx h (i2 (cCN P c w))
def dgC2 (P : Mem) (x : Int64) (c : Int) (h : Int64) : Int64 := mx (fd (dgC1 P c) 9 0 h) (i2 (bc (x &&& lin c)))
def dgT1 (P : Mem) (t w : Int) (h : Int64) : Int64 := mx h (i2 (cTN P t w))
def dgT2 (P : Mem) (t : Int) (h : Int64) : Int64 := mx (fd (dgT1 P t) 6 0 h) (i2 (cRk P t))
def dgI1 (P : Mem) (t w : Int) (h : Int64) : Int64 := mx h (i2 (cIN P t w))
def dgI2 (P : Mem) (t : Int) (h : Int64) : Int64 := fd (dgI1 P t) 7 0 h
def dgD1 (P : Mem) (p : Int) (h : Int64) : Int64 := mx (mx h (i2 (cOwd P p 0))) (i2 (cOwd P p 1))
def dgX1 (m : Mem) (k : Int) (h : Int64) : Int64 := mx h (i2 (tC m k))
def dgCnt (P : Mem) (s k : Int) (h : Int64) : Int64 := mx h (i2 (cCnt P s k))
def dgSet (P : Mem) (k : Int) (h : Int64) : Int64 := mx h (i2 (P 1 k))
def dgW (P : Mem) : Nat → Int → Int64 → Int64
  | 0, _, h => h
  | d + 1, b, h => dgW P d (cNw P b) (mx h (i2 (cNw P b)))
def dgX (m : Mem) (h : Int64) : Int64 := fd (dgX1 m) (m 195 0).toNat 0 (mx h (i2 (m 195 0)))
def dgP (P : Mem) (s : Int) : Int64 := fd (dgD1 P) (P 10 0).toNat 0 (fd (dgI2 P) (P 17 0).toNat 0 (fd (dgT2 P) (P 13 0).toNat 0 (fd (dgC2 P (cFr P)) 64 0 (fd (dgSet P) 8 0 (fd (dgCnt P s) 19 0 2351)))))
def dgQ1 (m P : Mem) : Mem := ps m 25 (cSvE (pg m 25) P 1)
def dgQ2 (m P : Mem) : Mem := ps (dgQ1 m P) 25 (cSvE (pg (dgQ1 m P) 25) P 3)
def cDg (m P : Mem) : Int64 := dgX (dgQ2 m P) (mx (mx (mx (mx (dgW P 8 (-1) (dgP P (m 49 0))) (i2 (cG P))) (i2 (cSvE (pg m 25) P 1 2 10 - P 2 10))) (i2 (cSvE (pg (dgQ1 m P) 25) P 3 2 10 - P 2 10))) (cBk P).toInt64)
theorem bcP_cg {T P Q : Mem} (h : ∀ d, d < 24 → P d = Q d) : bcP T P = bcP T Q := by
  have h0 := h 0 (by decide)
  have h1 := h 1 (by decide)
  have h2 := h 2 (by decide)
  have h3 := h 3 (by decide)
  have h4 := h 4 (by decide)
  have h5 := h 5 (by decide)
  have h6 := h 6 (by decide)
  have h7 := h 7 (by decide)
  have h8 := h 8 (by decide)
  have h9 := h 9 (by decide)
  have h10 := h 10 (by decide)
  have h11 := h 11 (by decide)
  have h12 := h 12 (by decide)
  have h13 := h 13 (by decide)
  have h14 := h 14 (by decide)
  have h15 := h 15 (by decide)
  have h16 := h 16 (by decide)
  have h17 := h 17 (by decide)
  have h18 := h 18 (by decide)
  have h19 := h 19 (by decide)
  have h20 := h 20 (by decide)
  have h21 := h 21 (by decide)
  have h22 := h 22 (by decide)
  have h23 := h 23 (by decide)
  unfold bcP bcA bcI bcT bcD bcC
  simp only [h0, h1, h2, h3, h4, h5, h6, h7, h8, h9, h10, h11, h12, h13, h14, h15, h16, h17, h18, h19, h20, h21, h22, h23]
theorem CV_cg {P Q : Mem} (h : ∀ d, d < 24 → P d = Q d) (hV : CV P) : CV Q := by
  have h0 := h 0 (by decide)
  have h5 := h 5 (by decide)
  have h7 := h 7 (by decide)
  have h10 := h 10 (by decide)
  have h11 := h 11 (by decide)
  have h13 := h 13 (by decide)
  have h17 := h 17 (by decide)
  have h23 := h 23 (by decide)
  unfold CV CD at *
  simp only [h0, h5, h7, h10, h11, h13, h17, h23] at hV
  exact hV
theorem cSvE_cg {T P Q : Mem} {p : Int} (h : ∀ d, d < 24 → P d = Q d) : cSvE T P p = cSvE T Q p := by unfold cSvE; rw [bcP_cg h]
theorem pg_ps {m P : Mem} {b : Nat} : ∀ d, d < 24 → pg (ps m b P) b d = P d := fun d hd => ps_at hd
theorem pg1_25 {m P : Mem} : pg (ps m 1 P) 25 = pg m 25 := by
  funext d
  exact ps_ne (by omega)
theorem ps_25_1 {m P Q : Mem} : ps (ps m 1 P) 25 Q = ps (ps m 25 Q) 1 P := by
  funext k
  unfold ps
  by_cases h1 : 1 ≤ k ∧ k < 1 + 24
  · rw [if_pos h1, if_pos h1, if_neg (by omega)]
  · rw [if_neg h1, if_neg h1]
theorem cp_savable {G : GX} (E : EV G) {m P : Mem} {p : Int} (r_p : -2147483648 ≤ p ∧ p < 2147483648) (p0 : 1 ≤ p ∧ p ≤ 9) (hV : CV P) : CT G SHP iX7_savable 0 0 [.inr (.ref 0), .inl p] (ps m 1 P) (some (.inl (cSvE (pg m 25) P p 2 10 - P 2 10))) (ps (ps m 25 (cSvE (pg m 25) P p)) 1 P) := by
  have h := ct_X7_savable (m := ps m 1 P) (Q := pg m 25) E r_p p0 (CV_cg (fun d hd => (pg_ps d hd).symm) hV)
  have e1 : ps (ps m 1 P) 25 (pg m 25) = ps m 1 P := by rw [ps_25_1, ps_pg]
  have e2 : cSvE (pg m 25) (pg (ps m 1 P) 1) p = cSvE (pg m 25) P p := cSvE_cg pg_ps
  have e3 : ps m 1 P 3 = P 2 := ps_at (b := 1) (d := 2) (by decide)
  rw [e1, e2, e3, ps_25_1] at h
  exact h
theorem ct_X7_mixed {G : GX} (E : EV G) {m : Mem} {a : Int64} {b : Int64} : CT G SHP iX7_mixed 0 0 [.inr (.long a), .inr (.long b)] (m) (some (.inr (.long (mx a b)))) (m) := by
  refine j_met (L0 := [some (.inr (.long a)), none, some (.inr (.long b)), none]) (by decide) E.1 E.2 rfl (Nat.le_of_ble_eq_true rfl) ?_
  refine j_ldc2 (q := 3) dX7_mixed_0 rfl jw_442 ?_
  refine j_lload0 (q := 4) dX7_mixed_3 rfl ?_
  refine j_lmul (q := 5) dX7_mixed_4 rfl ?_
  refine j_lload2 (q := 6) dX7_mixed_5 rfl ?_
  refine j_ladd (q := 7) dX7_mixed_6 rfl ?_
  exact j_lreturn dX7_mixed_7 rfl (by rfl) (rfl)
theorem d_e (e : Int64) (d : Nat) : e - 1 - Int64.ofNat d = e - Int64.ofNat (d + 1) := by
  rw [Int64.ofNat_add]
  apply Int64.toBitVec_inj.mp
  simp only [Int64.toBitVec_sub, Int64.toBitVec_add]
  show e.toBitVec - 1#64 - (Int64.ofNat d).toBitVec = e.toBitVec - ((Int64.ofNat d).toBitVec + 1#64)
  generalize (Int64.ofNat d).toBitVec = u
  generalize e.toBitVec = v
  bv_omega
theorem lp_X7_bitsOfShare {G : GX} (E : EV G) {m : Mem} {x : UInt64} {c : Nat} {F : FinT} : ∀ (d : Nat) (q : Int) (f : UInt64) (e : Int64) (i : Int), fv f c q → q + d = -52 → 1 ≤ i → i + d < 1000 → (∀ (y : UInt64) (j : Int), fv y c (-52) → J G SHP iX7_bitsOfShare 0 0 F 50 [some (.inr (.double x)), none, some (.inr (.double y)), none, some (.inr (.long (e - Int64.ofNat d))), none, some (.inl j), none] [] m 0 0) → J G SHP iX7_bitsOfShare 0 0 F 18 [some (.inr (.double x)), none, some (.inr (.double f)), none, some (.inr (.long e)), none, some (.inl i), none] [] m 0 0 := by
  intro d
  induction d with
  | zero =>
    intro q f e i h1 h2 h3 h4 kk
    obtain rfl : q = -52 := by omega
    obtain ⟨v, v1, v2, v3⟩ := fv_ge h1
    refine j_iload6 (q := 20) dX7_bitsOfShare_18 rfl ?_
    refine j_sipush (q := 23) dX7_bitsOfShare_20 rfl rfl ?_
    refine j_icmp_ge (tgt := 50) (q := 26) dX7_bitsOfShare_23 (by decide) rfl (by first | exact wr_id' (by omega) (by omega) | with_reducible exact wr_bI _ | exact rfl) (by first | exact wr_id' (by omega) (by omega) | with_reducible exact wr_bI _ | exact rfl) (fun h23 => ?_) (fun h23 => ?_)
    · omega
    · refine j_dload2 (q := 27) dX7_bitsOfShare_26 rfl ?_
      refine j_dconst1 (q := 28) dX7_bitsOfShare_27 rfl ?_
      refine j_dcmp (q := 29) dX7_bitsOfShare_28 rfl ?_
      refine j_if_ge (tgt := 50) (q := 32) dX7_bitsOfShare_29 (by decide) rfl (x' := v) (by rw [v1]; exact v3) (fun h29 => ?_) (fun h29 => ?_)
      · have e0 : e - Int64.ofNat 0 = e := by simp
        have h := kk f i h1
        rw [e0] at h
        exact h
      · omega
  | succ d ih =>
    intro q f e i h1 h2 h3 h4 kk
    have v1 := fv_lt h1 (by omega)
    have v2 := fv_mul2 h1 (by omega)
    refine j_iload6 (q := 20) dX7_bitsOfShare_18 rfl ?_
    refine j_sipush (q := 23) dX7_bitsOfShare_20 rfl rfl ?_
    refine j_icmp_ge (tgt := 50) (q := 26) dX7_bitsOfShare_23 (by decide) rfl (by first | exact wr_id' (by omega) (by omega) | with_reducible exact wr_bI _ | exact rfl) (by first | exact wr_id' (by omega) (by omega) | with_reducible exact wr_bI _ | exact rfl) (fun h23 => ?_) (fun h23 => ?_)
    · omega
    · refine j_dload2 (q := 27) dX7_bitsOfShare_26 rfl ?_
      refine j_dconst1 (q := 28) dX7_bitsOfShare_27 rfl ?_
      refine j_dcmp (q := 29) dX7_bitsOfShare_28 rfl ?_
      refine j_if_ge (tgt := 50) (q := 32) dX7_bitsOfShare_29 (by decide) rfl (x' := -1) (by rw [v1]; rfl) (fun h29 => ?_) (fun h29 => ?_)
      · omega
      · refine j_dload2 (q := 33) dX7_bitsOfShare_32 rfl ?_
        refine j_ldc2d (q := 36) dX7_bitsOfShare_33 rfl jw_686 ?_
        refine j_dmul (q := 37) dX7_bitsOfShare_36 rfl (n64_of (fv_nan v2)) ?_
        refine j_dstore2 (q := 38) dX7_bitsOfShare_37 rfl rfl (by decide) ?_
        refine j_lload4 (q := 40) dX7_bitsOfShare_38 rfl ?_
        refine j_lconst (q := 41) (x := 1) dX7_bitsOfShare_40 rfl rfl ?_
        refine j_lsub (q := 42) dX7_bitsOfShare_41 rfl ?_
        refine j_lstore4 (q := 44) dX7_bitsOfShare_42 rfl rfl (by decide) ?_
        refine j_iinc6 (q := 47) dX7_bitsOfShare_44 rfl rfl (by decide) ?_
        refine j_goto (tgt := 18) dX7_bitsOfShare_47 (by decide) ?_
        exact ih _ _ _ _ v2 (by omega) (by omega) (by omega) (fun y j h => d_e e d ▸ kk y j h)
theorem cz_X7_bitsOfShare {G : GX} (E : EV G) {m : Mem} {x : UInt64} (hx : x = 0) : CT G SHP iX7_bitsOfShare 0 0 [.inr (.double x)] (m) (some (.inr (.long x.toInt64))) (m) := by
  refine j_met (L0 := [some (.inr (.double x)), none, none, none, none, none, none, none]) (by decide) E.1 E.2 rfl (Nat.le_of_ble_eq_true rfl) ?_
  refine j_dload0 (q := 1) dX7_bitsOfShare_0 rfl ?_
  refine j_dconst0 (q := 2) dX7_bitsOfShare_1 rfl ?_
  refine j_dcmp (q := 3) dX7_bitsOfShare_2 rfl ?_
  refine j_if_gt (tgt := 8) (q := 6) dX7_bitsOfShare_3 (by decide) rfl (x' := 0) (by subst hx; decide +kernel) (fun h3 => ?_) (fun h3 => ?_)
  · omega
  · refine j_lconst (q := 7) (x := 0) dX7_bitsOfShare_6 rfl rfl ?_
    exact j_lreturn dX7_bitsOfShare_7 rfl (by subst hx; rfl) (rfl)
theorem cf_X7_bitsOfShare {G : GX} (E : EV G) {m : Mem} {c : Nat} {q : Int} {x : UInt64} (hx : fv x c q) : CT G SHP iX7_bitsOfShare 0 0 [.inr (.double x)] (m) (some (.inr (.long x.toInt64))) (m) := by
  have hg := fv_gt0 hx
  have hq := hx.2.2.2
  refine j_met (L0 := [some (.inr (.double x)), none, none, none, none, none, none, none]) (by decide) E.1 E.2 rfl (Nat.le_of_ble_eq_true rfl) ?_
  refine j_dload0 (q := 1) dX7_bitsOfShare_0 rfl ?_
  refine j_dconst0 (q := 2) dX7_bitsOfShare_1 rfl ?_
  refine j_dcmp (q := 3) dX7_bitsOfShare_2 rfl ?_
  refine j_if_gt (tgt := 8) (q := 6) dX7_bitsOfShare_3 (by decide) rfl (x' := 1) (by rw [hg]; rfl) (fun h3 => ?_) (fun h3 => ?_)
  · refine j_dload0 (q := 9) dX7_bitsOfShare_8 rfl ?_
    refine j_dstore2 (q := 10) dX7_bitsOfShare_9 rfl rfl (by decide) ?_
    refine j_ldc2 (q := 13) dX7_bitsOfShare_10 rfl jw_685 ?_
    refine j_lstore4 (q := 15) dX7_bitsOfShare_13 rfl rfl (by decide) ?_
    refine j_iconst (q := 16) dX7_bitsOfShare_15 rfl ?_
    refine j_istore6 (q := 18) dX7_bitsOfShare_16 rfl rfl (by decide) ?_
    refine lp_X7_bitsOfShare E (-52 - q).toNat q x 1023 1 hx (by omega) (by omega) (by omega) ?_
    intro y j hy
    refine j_dload2 (q := 51) dX7_bitsOfShare_50 rfl ?_
    refine j_dconst1 (q := 52) dX7_bitsOfShare_51 rfl ?_
    refine j_dsub (q := 53) dX7_bitsOfShare_52 rfl (fv_man hy).1 ?_
    refine j_ldc2d (q := 56) dX7_bitsOfShare_53 rfl jw_687 ?_
    refine j_dmul (q := 57) dX7_bitsOfShare_56 rfl (fv_man hy).2.1 ?_
    refine j_d2l (q := 58) dX7_bitsOfShare_57 rfl ?_
    refine j_lstore6 (q := 60) dX7_bitsOfShare_58 rfl rfl (by decide) ?_
    refine j_lload4 (q := 62) dX7_bitsOfShare_60 rfl ?_
    refine j_bipush (q := 64) dX7_bitsOfShare_62 rfl rfl ?_
    refine j_lshl (q := 65) dX7_bitsOfShare_64 rfl ?_
    refine j_lload6 (q := 67) dX7_bitsOfShare_65 rfl ?_
    refine j_ladd (q := 68) dX7_bitsOfShare_67 rfl ?_
    exact j_lreturn dX7_bitsOfShare_68 rfl (by have e := (fv_man hy).2.2; unfold d52 at e; rw [e]; exact sh_bits hx (by omega)) (rfl)
  · omega
theorem ca_X7_bitsOfShare {G : GX} (E : EV G) {m : Mem} {x : UInt64} (hx : shOk x) : CT G SHP iX7_bitsOfShare 0 0 [.inr (.double x)] m (some (.inr (.long x.toInt64))) m := by
  rcases hx with h | ⟨c, q, h⟩
  · exact cz_X7_bitsOfShare E h
  · exact cf_X7_bitsOfShare E h
theorem lp_X7_withCores_in {G : GX} (E : EV G) {m P : Mem} (hq : PA 1) {F : FinT} {h0 y : Int64} {c : Int} (hc : 0 ≤ c ∧ c < 64) : ∀ (d : Nat) (w : Int) (h : Int64), w + d = 9 → 0 ≤ w → (∀ (x : Int64), x = fd (dgC1 P c) d w h → J G SHP iX7_withCores 0 0 F 53 [some (.inr (.ref 0)), some (.inr (.long h0)), none, some (.inr (.long y)), none, some (.inr (.long x)), none, some (.inl c), none] [] (ps m 1 P) 0 0) → J G SHP iX7_withCores 0 0 F 24 [some (.inr (.ref 0)), some (.inr (.long h0)), none, some (.inr (.long y)), none, some (.inr (.long h)), none, some (.inl c), some (.inl w)] [] (ps m 1 P) 0 0 := by
  intro d
  induction d with
  | zero =>
    intro w h g0 g1 kk
    refine j_iload8 (q := 26) dX7_withCores_24 rfl ?_
    refine j_bipush (q := 28) dX7_withCores_26 rfl rfl ?_
    refine j_icmp_ge (tgt := 53) (q := 31) dX7_withCores_28 (by decide) rfl (by first | exact wr_id' (by omega) (by omega) | with_reducible exact wr_bI _ | exact rfl) (by first | exact wr_id' (by omega) (by omega) | with_reducible exact wr_bI _ | exact rfl) (fun h28 => ?_) (fun h28 => ?_)
    · refine j_fgt8 ?_
      exact kk _ rfl
    · omega
  | succ d ih =>
    intro w h g0 g1 kk
    refine j_iload8 (q := 26) dX7_withCores_24 rfl ?_
    refine j_bipush (q := 28) dX7_withCores_26 rfl rfl ?_
    refine j_icmp_ge (tgt := 53) (q := 31) dX7_withCores_28 (by decide) rfl (by first | exact wr_id' (by omega) (by omega) | with_reducible exact wr_bI _ | exact rfl) (by first | exact wr_id' (by omega) (by omega) | with_reducible exact wr_bI _ | exact rfl) (fun h28 => ?_) (fun h28 => ?_)
    · omega
    · refine j_lload5 (q := 33) dX7_withCores_31 rfl ?_
      refine j_aload0 (q := 34) dX7_withCores_33 rfl ?_
      refine j_iload7 (q := 36) dX7_withCores_34 rfl ?_
      refine j_iload8 (q := 38) dX7_withCores_36 rfl ?_
      refine j_callV2 (Mc := iX7_core) (q := 41) (c' := 0) (s' := 0) dX7_withCores_38 rfl kV_X7_core jw_470 ⟨by decide, by decide⟩ sh_0 rfl rfl rfl (Nat.le_refl _) (Nat.le_refl _) (ct_X7_core E (by omega) (by omega) (by omega) (by omega)) ?_
      refine j_i2l (q := 42) dX7_withCores_41 rfl ?_
      refine j_callS2 (Mc := iX7_mixed) (q := 45) (c' := 0) (s' := 0) dX7_withCores_42 rfl kS_X7_mixed jw_439 ⟨by decide, by decide⟩ rfl (Nat.le_refl _) (Nat.le_refl _) (ct_X7_mixed E) ?_
      refine j_lstore5 (q := 47) dX7_withCores_45 rfl rfl (by decide) ?_
      refine j_iinc8 (q := 50) dX7_withCores_47 rfl rfl (by decide) ?_
      refine j_goto (tgt := 24) dX7_withCores_50 (by decide) ?_
      exact ih _ _ (by omega) (by omega) (fun x hx => kk x (hx.trans (rfl)))
theorem lp_X7_withCores {G : GX} (E : EV G) {m P : Mem} (hq : PA 1) {F : FinT} {h0 y : Int64} : ∀ (d : Nat) (c : Int) (h : Int64), c + d = 64 → 0 ≤ c → (∀ (x : Int64), x = fd (dgC2 P y) d c h → J G SHP iX7_withCores 0 0 F 77 [some (.inr (.ref 0)), some (.inr (.long h0)), none, some (.inr (.long y)), none, some (.inr (.long x)), none, none, none] [] (ps m 1 P) 0 0) → J G SHP iX7_withCores 0 0 F 14 [some (.inr (.ref 0)), some (.inr (.long h0)), none, some (.inr (.long y)), none, some (.inr (.long h)), none, some (.inl c), none] [] (ps m 1 P) 0 0 := by
  intro d
  induction d with
  | zero =>
    intro c h g0 g1 kk
    refine j_iload7 (q := 16) dX7_withCores_14 rfl ?_
    refine j_bipush (q := 18) dX7_withCores_16 rfl rfl ?_
    refine j_icmp_ge (tgt := 77) (q := 21) dX7_withCores_18 (by decide) rfl (by first | exact wr_id' (by omega) (by omega) | with_reducible exact wr_bI _ | exact rfl) (by first | exact wr_id' (by omega) (by omega) | with_reducible exact wr_bI _ | exact rfl) (fun h18 => ?_) (fun h18 => ?_)
    · refine j_fgt7 ?_
      exact kk _ rfl
    · omega
  | succ d ih =>
    intro c h g0 g1 kk
    refine j_iload7 (q := 16) dX7_withCores_14 rfl ?_
    refine j_bipush (q := 18) dX7_withCores_16 rfl rfl ?_
    refine j_icmp_ge (tgt := 77) (q := 21) dX7_withCores_18 (by decide) rfl (by first | exact wr_id' (by omega) (by omega) | with_reducible exact wr_bI _ | exact rfl) (by first | exact wr_id' (by omega) (by omega) | with_reducible exact wr_bI _ | exact rfl) (fun h18 => ?_) (fun h18 => ?_)
    · omega
    · refine j_iconst (q := 22) dX7_withCores_21 rfl ?_
      refine j_istore8 (q := 24) dX7_withCores_22 rfl rfl (by decide) ?_
      refine lp_X7_withCores_in E hq (by omega) 9 0 h (by omega) (by omega) ?_
      intro x hx
      subst hx
      refine j_lload5 (q := 55) dX7_withCores_53 rfl ?_
      refine j_lload3 (q := 56) dX7_withCores_55 rfl ?_
      refine j_iload7 (q := 58) dX7_withCores_56 rfl ?_
      refine j_callS1 (Mc := iX7_linesOf) (q := 61) (c' := 0) (s' := 0) dX7_withCores_58 rfl kS_X7_linesOf jw_316 ⟨by decide, by decide⟩ rfl (Nat.le_refl _) (Nat.le_refl _) (ct_X7_linesOf E (by omega)) ?_
      refine j_land (q := 62) dX7_withCores_61 rfl ?_
      refine j_callS1 (Mc := iJ13_bitCount_95d88) (q := 65) (c' := 0) (s' := 0) dX7_withCores_62 rfl kS_J13_bitCount_95d88 jw_323 ⟨by decide, by decide⟩ rfl (Nat.le_refl _) (Nat.le_refl _) (ct_J13_bitCount_95d88 E) ?_
      refine j_i2l (q := 66) dX7_withCores_65 rfl ?_
      refine j_callS2 (Mc := iX7_mixed) (q := 69) (c' := 0) (s' := 0) dX7_withCores_66 rfl kS_X7_mixed jw_439 ⟨by decide, by decide⟩ rfl (Nat.le_refl _) (Nat.le_refl _) (ct_X7_mixed E) ?_
      refine j_lstore5 (q := 71) dX7_withCores_69 rfl rfl (by decide) ?_
      refine j_iinc7 (q := 74) dX7_withCores_71 rfl rfl (by decide) ?_
      refine j_goto (tgt := 14) dX7_withCores_74 (by decide) ?_
      exact ih _ _ (by omega) (by omega) (fun x hx => kk x (hx.trans (rfl)))
theorem ct_X7_withCores {G : GX} (E : EV G) {m P : Mem} {h : Int64} : CT G SHP iX7_withCores 0 0 [.inr (.ref 0), .inr (.long h)] (ps m 1 P) (some (.inr (.long (fd (dgC2 P (cFr P)) 64 0 h)))) (ps m 1 P) := by
  have hq : PA 1 := PA1
  refine j_met (L0 := [some (.inr (.ref 0)), some (.inr (.long h)), none, none, none, none, none, none, none]) (by decide) E.1 E.2 rfl (Nat.le_of_ble_eq_true rfl) ?_
  refine j_aload0 (q := 1) dX7_withCores_0 rfl ?_
  refine j_getR 0 (q := 4) dX7_withCores_1 rfl fl_X7_10 sh_0 rfl ?_
  refine j_callV0 (Mc := iX3_fragile) (q := 7) (c' := 0) (s' := 0) dX7_withCores_4 rfl kV_X3_fragile jw_288 ⟨by decide, by decide⟩ sh_1 rfl rfl rfl (Nat.le_refl _) (Nat.le_refl _) (ct_X3_fragile E hq) ?_
  refine j_lstore3 (q := 8) dX7_withCores_7 rfl rfl (by decide) ?_
  refine j_lload1 (q := 9) dX7_withCores_8 rfl ?_
  refine j_lstore5 (q := 11) dX7_withCores_9 rfl rfl (by decide) ?_
  refine j_iconst (q := 12) dX7_withCores_11 rfl ?_
  refine j_istore7 (q := 14) dX7_withCores_12 rfl rfl (by decide) ?_
  refine lp_X7_withCores E hq 64 0 h (by omega) (by omega) ?_
  intro x hx
  refine j_lload5 (q := 79) dX7_withCores_77 rfl ?_
  exact j_lreturn dX7_withCores_79 rfl (by rw [hx]) (rfl)
theorem lp_X7_withTenants_in {G : GX} (E : EV G) {m P : Mem} (hq : PA 1) {F : FinT} {h0 : Int64} {t : Int} (hV : CV P) (hc : 0 ≤ t ∧ t < P 13 0) : ∀ (d : Nat) (w : Int) (h : Int64), w + d = 6 → 0 ≤ w → (∀ (x : Int64), x = fd (dgT1 P t) d w h → J G SHP iX7_withTenants 0 0 F 50 [some (.inr (.ref 0)), some (.inr (.long h0)), none, some (.inr (.long x)), none, some (.inl t), none] [] (ps m 1 P) 0 0) → J G SHP iX7_withTenants 0 0 F 23 [some (.inr (.ref 0)), some (.inr (.long h0)), none, some (.inr (.long h)), none, some (.inl t), some (.inl w)] [] (ps m 1 P) 0 0 := by
  intro d
  induction d with
  | zero =>
    intro w h g0 g1 kk
    have hb := hV.1
    have hb2 := hV.2.1
    have hd := hV.2.2.2.1.1
    refine j_iload6 (q := 25) dX7_withTenants_23 rfl ?_
    refine j_bipush (q := 27) dX7_withTenants_25 rfl rfl ?_
    refine j_icmp_ge (tgt := 50) (q := 30) dX7_withTenants_27 (by decide) rfl (by first | exact wr_id' (by omega) (by omega) | with_reducible exact wr_bI _ | exact rfl) (by first | exact wr_id' (by omega) (by omega) | with_reducible exact wr_bI _ | exact rfl) (fun h27 => ?_) (fun h27 => ?_)
    · refine j_fgt6 ?_
      exact kk _ rfl
    · omega
  | succ d ih =>
    intro w h g0 g1 kk
    have hb := hV.1
    have hb2 := hV.2.1
    have hd := hV.2.2.2.1.1
    refine j_iload6 (q := 25) dX7_withTenants_23 rfl ?_
    refine j_bipush (q := 27) dX7_withTenants_25 rfl rfl ?_
    refine j_icmp_ge (tgt := 50) (q := 30) dX7_withTenants_27 (by decide) rfl (by first | exact wr_id' (by omega) (by omega) | with_reducible exact wr_bI _ | exact rfl) (by first | exact wr_id' (by omega) (by omega) | with_reducible exact wr_bI _ | exact rfl) (fun h27 => ?_) (fun h27 => ?_)
    · omega
    · refine j_lload3 (q := 31) dX7_withTenants_30 rfl ?_
      refine j_aload0 (q := 32) dX7_withTenants_31 rfl ?_
      refine j_iload5 (q := 34) dX7_withTenants_32 rfl ?_
      refine j_iload6 (q := 36) dX7_withTenants_34 rfl ?_
      refine j_callV2 (Mc := iX7_tenant) (q := 39) (c' := 0) (s' := 0) dX7_withTenants_36 rfl kV_X7_tenant jw_499 ⟨by decide, by decide⟩ sh_0 rfl rfl rfl (Nat.le_refl _) (Nat.le_refl _) (ct_X7_tenant E (by omega) (by omega) (by omega) (by omega) (by omega) hV) ?_
      refine j_i2l (q := 40) dX7_withTenants_39 rfl ?_
      refine j_callS2 (Mc := iX7_mixed) (q := 43) (c' := 0) (s' := 0) dX7_withTenants_40 rfl kS_X7_mixed jw_439 ⟨by decide, by decide⟩ rfl (Nat.le_refl _) (Nat.le_refl _) (ct_X7_mixed E) ?_
      refine j_lstore3 (q := 44) dX7_withTenants_43 rfl rfl (by decide) ?_
      refine j_iinc6 (q := 47) dX7_withTenants_44 rfl rfl (by decide) ?_
      refine j_goto (tgt := 23) dX7_withTenants_47 (by decide) ?_
      exact ih _ _ (by omega) (by omega) (fun x hx => kk x (hx.trans (rfl)))
theorem lp_X7_withTenants {G : GX} (E : EV G) {m P : Mem} (hq : PA 1) {F : FinT} {h0 : Int64} (hV : CV P) : ∀ (d : Nat) (t : Int) (h : Int64), t + d = P 13 0 → 0 ≤ t → (∀ (x : Int64), x = fd (dgT2 P) d t h → J G SHP iX7_withTenants 0 0 F 68 [some (.inr (.ref 0)), some (.inr (.long h0)), none, some (.inr (.long x)), none, none, none] [] (ps m 1 P) 0 0) → J G SHP iX7_withTenants 0 0 F 5 [some (.inr (.ref 0)), some (.inr (.long h0)), none, some (.inr (.long h)), none, some (.inl t), none] [] (ps m 1 P) 0 0 := by
  intro d
  induction d with
  | zero =>
    intro t h g0 g1 kk
    have hb := hV.1
    have hb2 := hV.2.1
    have hd := hV.2.2.2.1.1
    refine j_iload5 (q := 7) dX7_withTenants_5 rfl ?_
    refine j_aload0 (q := 8) dX7_withTenants_7 rfl ?_
    refine j_getR 0 (q := 11) dX7_withTenants_8 rfl fl_X7_10 sh_0 rfl ?_
    refine j_getR 7 (q := 14) dX7_withTenants_11 rfl fl_X7_41 sh_1 rfl ?_
    refine j_pgetI (d := 13) rfl (by decide) 0 (j' := 0) (q := 17) dX7_withTenants_14 rfl fl_X7_45 sh_14 rfl rfl ?_
    refine j_icmp_ge (tgt := 68) (q := 20) dX7_withTenants_17 (by decide) rfl (by first | exact wr_id' (by omega) (by omega) | with_reducible exact wr_bI _ | exact rfl) (by first | exact wr_id' (by omega) (by omega) | with_reducible exact wr_bI _ | exact rfl) (fun h17 => ?_) (fun h17 => ?_)
    · refine j_fgt5 ?_
      exact kk _ rfl
    · omega
  | succ d ih =>
    intro t h g0 g1 kk
    have hb := hV.1
    have hb2 := hV.2.1
    have hd := hV.2.2.2.1.1
    refine j_iload5 (q := 7) dX7_withTenants_5 rfl ?_
    refine j_aload0 (q := 8) dX7_withTenants_7 rfl ?_
    refine j_getR 0 (q := 11) dX7_withTenants_8 rfl fl_X7_10 sh_0 rfl ?_
    refine j_getR 7 (q := 14) dX7_withTenants_11 rfl fl_X7_41 sh_1 rfl ?_
    refine j_pgetI (d := 13) rfl (by decide) 0 (j' := 0) (q := 17) dX7_withTenants_14 rfl fl_X7_45 sh_14 rfl rfl ?_
    refine j_icmp_ge (tgt := 68) (q := 20) dX7_withTenants_17 (by decide) rfl (by first | exact wr_id' (by omega) (by omega) | with_reducible exact wr_bI _ | exact rfl) (by first | exact wr_id' (by omega) (by omega) | with_reducible exact wr_bI _ | exact rfl) (fun h17 => ?_) (fun h17 => ?_)
    · omega
    · refine j_iconst (q := 21) dX7_withTenants_20 rfl ?_
      refine j_istore6 (q := 23) dX7_withTenants_21 rfl rfl (by decide) ?_
      refine lp_X7_withTenants_in E hq hV (by omega) 6 0 h (by omega) (by omega) ?_
      intro x hx
      subst hx
      refine j_lload3 (q := 51) dX7_withTenants_50 rfl ?_
      refine j_aload0 (q := 52) dX7_withTenants_51 rfl ?_
      refine j_iload5 (q := 54) dX7_withTenants_52 rfl ?_
      refine j_callV1 (Mc := iX7_atRisk) (q := 57) (c' := 0) (s' := 0) dX7_withTenants_54 rfl kV_X7_atRisk jw_521 ⟨by decide, by decide⟩ sh_0 rfl rfl rfl (Nat.le_refl _) (Nat.le_refl _) (ct_X7_atRisk E (by omega) (by omega) (by omega)) ?_
      refine j_i2l (q := 58) dX7_withTenants_57 rfl ?_
      refine j_callS2 (Mc := iX7_mixed) (q := 61) (c' := 0) (s' := 0) dX7_withTenants_58 rfl kS_X7_mixed jw_439 ⟨by decide, by decide⟩ rfl (Nat.le_refl _) (Nat.le_refl _) (ct_X7_mixed E) ?_
      refine j_lstore3 (q := 62) dX7_withTenants_61 rfl rfl (by decide) ?_
      refine j_iinc5 (q := 65) dX7_withTenants_62 rfl rfl (by decide) ?_
      refine j_goto (tgt := 5) dX7_withTenants_65 (by decide) ?_
      exact ih _ _ (by omega) (by omega) (fun x hx => kk x (hx.trans (rfl)))
theorem ct_X7_withTenants {G : GX} (E : EV G) {m P : Mem} {h : Int64} (hV : CV P) : CT G SHP iX7_withTenants 0 0 [.inr (.ref 0), .inr (.long h)] (ps m 1 P) (some (.inr (.long (fd (dgT2 P) (P 13 0).toNat 0 h)))) (ps m 1 P) := by
  have hq : PA 1 := PA1
  have hb := hV.1
  have hb2 := hV.2.1
  have hd := hV.2.2.2.1.1
  refine j_met (L0 := [some (.inr (.ref 0)), some (.inr (.long h)), none, none, none, none, none]) (by decide) E.1 E.2 rfl (Nat.le_of_ble_eq_true rfl) ?_
  refine j_lload1 (q := 1) dX7_withTenants_0 rfl ?_
  refine j_lstore3 (q := 2) dX7_withTenants_1 rfl rfl (by decide) ?_
  refine j_iconst (q := 3) dX7_withTenants_2 rfl ?_
  refine j_istore5 (q := 5) dX7_withTenants_3 rfl rfl (by decide) ?_
  refine lp_X7_withTenants E hq hV (P 13 0).toNat 0 h (by omega) (by omega) ?_
  intro x hx
  refine j_lload3 (q := 69) dX7_withTenants_68 rfl ?_
  exact j_lreturn dX7_withTenants_69 rfl (by rw [hx]) (rfl)
theorem lp_X7_withInsurers_in {G : GX} (E : EV G) {m P : Mem} (hq : PA 1) {F : FinT} {h0 : Int64} {t : Int} (hV : CV P) (hc : 0 ≤ t ∧ t < P 17 0) : ∀ (d : Nat) (w : Int) (h : Int64), w + d = 7 → 0 ≤ w → (∀ (x : Int64), x = fd (dgI1 P t) d w h → J G SHP iX7_withInsurers 0 0 F 50 [some (.inr (.ref 0)), some (.inr (.long h0)), none, some (.inr (.long x)), none, some (.inl t), none] [] (ps m 1 P) 0 0) → J G SHP iX7_withInsurers 0 0 F 23 [some (.inr (.ref 0)), some (.inr (.long h0)), none, some (.inr (.long h)), none, some (.inl t), some (.inl w)] [] (ps m 1 P) 0 0 := by
  intro d
  induction d with
  | zero =>
    intro w h g0 g1 kk
    have hb := hV.1
    have hb2 := hV.2.1
    have hd := hV.2.2.2.1.1
    refine j_iload6 (q := 25) dX7_withInsurers_23 rfl ?_
    refine j_bipush (q := 27) dX7_withInsurers_25 rfl rfl ?_
    refine j_icmp_ge (tgt := 50) (q := 30) dX7_withInsurers_27 (by decide) rfl (by first | exact wr_id' (by omega) (by omega) | with_reducible exact wr_bI _ | exact rfl) (by first | exact wr_id' (by omega) (by omega) | with_reducible exact wr_bI _ | exact rfl) (fun h27 => ?_) (fun h27 => ?_)
    · refine j_fgt6 ?_
      exact kk _ rfl
    · omega
  | succ d ih =>
    intro w h g0 g1 kk
    have hb := hV.1
    have hb2 := hV.2.1
    have hd := hV.2.2.2.1.1
    refine j_iload6 (q := 25) dX7_withInsurers_23 rfl ?_
    refine j_bipush (q := 27) dX7_withInsurers_25 rfl rfl ?_
    refine j_icmp_ge (tgt := 50) (q := 30) dX7_withInsurers_27 (by decide) rfl (by first | exact wr_id' (by omega) (by omega) | with_reducible exact wr_bI _ | exact rfl) (by first | exact wr_id' (by omega) (by omega) | with_reducible exact wr_bI _ | exact rfl) (fun h27 => ?_) (fun h27 => ?_)
    · omega
    · refine j_lload3 (q := 31) dX7_withInsurers_30 rfl ?_
      refine j_aload0 (q := 32) dX7_withInsurers_31 rfl ?_
      refine j_iload5 (q := 34) dX7_withInsurers_32 rfl ?_
      refine j_iload6 (q := 36) dX7_withInsurers_34 rfl ?_
      refine j_callV2 (Mc := iX7_insurer) (q := 39) (c' := 0) (s' := 0) dX7_withInsurers_36 rfl kV_X7_insurer jw_533 ⟨by decide, by decide⟩ sh_0 rfl rfl rfl (Nat.le_refl _) (Nat.le_refl _) (ct_X7_insurer E (by omega) (by omega) (by omega) (by omega) (by omega) hV) ?_
      refine j_i2l (q := 40) dX7_withInsurers_39 rfl ?_
      refine j_callS2 (Mc := iX7_mixed) (q := 43) (c' := 0) (s' := 0) dX7_withInsurers_40 rfl kS_X7_mixed jw_439 ⟨by decide, by decide⟩ rfl (Nat.le_refl _) (Nat.le_refl _) (ct_X7_mixed E) ?_
      refine j_lstore3 (q := 44) dX7_withInsurers_43 rfl rfl (by decide) ?_
      refine j_iinc6 (q := 47) dX7_withInsurers_44 rfl rfl (by decide) ?_
      refine j_goto (tgt := 23) dX7_withInsurers_47 (by decide) ?_
      exact ih _ _ (by omega) (by omega) (fun x hx => kk x (hx.trans (rfl)))
theorem lp_X7_withInsurers {G : GX} (E : EV G) {m P : Mem} (hq : PA 1) {F : FinT} {h0 : Int64} (hV : CV P) : ∀ (d : Nat) (t : Int) (h : Int64), t + d = P 17 0 → 0 ≤ t → (∀ (x : Int64), x = fd (dgI2 P) d t h → J G SHP iX7_withInsurers 0 0 F 56 [some (.inr (.ref 0)), some (.inr (.long h0)), none, some (.inr (.long x)), none, none, none] [] (ps m 1 P) 0 0) → J G SHP iX7_withInsurers 0 0 F 5 [some (.inr (.ref 0)), some (.inr (.long h0)), none, some (.inr (.long h)), none, some (.inl t), none] [] (ps m 1 P) 0 0 := by
  intro d
  induction d with
  | zero =>
    intro t h g0 g1 kk
    have hb := hV.1
    have hb2 := hV.2.1
    have hd := hV.2.2.2.1.1
    refine j_iload5 (q := 7) dX7_withInsurers_5 rfl ?_
    refine j_aload0 (q := 8) dX7_withInsurers_7 rfl ?_
    refine j_getR 0 (q := 11) dX7_withInsurers_8 rfl fl_X7_10 sh_0 rfl ?_
    refine j_getR 8 (q := 14) dX7_withInsurers_11 rfl fl_X7_62 sh_1 rfl ?_
    refine j_pgetI (d := 17) rfl (by decide) 0 (j' := 0) (q := 17) dX7_withInsurers_14 rfl fl_X7_66 sh_18 rfl rfl ?_
    refine j_icmp_ge (tgt := 56) (q := 20) dX7_withInsurers_17 (by decide) rfl (by first | exact wr_id' (by omega) (by omega) | with_reducible exact wr_bI _ | exact rfl) (by first | exact wr_id' (by omega) (by omega) | with_reducible exact wr_bI _ | exact rfl) (fun h17 => ?_) (fun h17 => ?_)
    · refine j_fgt5 ?_
      exact kk _ rfl
    · omega
  | succ d ih =>
    intro t h g0 g1 kk
    have hb := hV.1
    have hb2 := hV.2.1
    have hd := hV.2.2.2.1.1
    refine j_iload5 (q := 7) dX7_withInsurers_5 rfl ?_
    refine j_aload0 (q := 8) dX7_withInsurers_7 rfl ?_
    refine j_getR 0 (q := 11) dX7_withInsurers_8 rfl fl_X7_10 sh_0 rfl ?_
    refine j_getR 8 (q := 14) dX7_withInsurers_11 rfl fl_X7_62 sh_1 rfl ?_
    refine j_pgetI (d := 17) rfl (by decide) 0 (j' := 0) (q := 17) dX7_withInsurers_14 rfl fl_X7_66 sh_18 rfl rfl ?_
    refine j_icmp_ge (tgt := 56) (q := 20) dX7_withInsurers_17 (by decide) rfl (by first | exact wr_id' (by omega) (by omega) | with_reducible exact wr_bI _ | exact rfl) (by first | exact wr_id' (by omega) (by omega) | with_reducible exact wr_bI _ | exact rfl) (fun h17 => ?_) (fun h17 => ?_)
    · omega
    · refine j_iconst (q := 21) dX7_withInsurers_20 rfl ?_
      refine j_istore6 (q := 23) dX7_withInsurers_21 rfl rfl (by decide) ?_
      refine lp_X7_withInsurers_in E hq hV (by omega) 7 0 h (by omega) (by omega) ?_
      intro x hx
      subst hx
      refine j_iinc5 (q := 53) dX7_withInsurers_50 rfl rfl (by decide) ?_
      refine j_goto (tgt := 5) dX7_withInsurers_53 (by decide) ?_
      exact ih _ _ (by omega) (by omega) (fun x hx => kk x (hx.trans (rfl)))
theorem ct_X7_withInsurers {G : GX} (E : EV G) {m P : Mem} {h : Int64} (hV : CV P) : CT G SHP iX7_withInsurers 0 0 [.inr (.ref 0), .inr (.long h)] (ps m 1 P) (some (.inr (.long (fd (dgI2 P) (P 17 0).toNat 0 h)))) (ps m 1 P) := by
  have hq : PA 1 := PA1
  have hb := hV.1
  have hb2 := hV.2.1
  have hd := hV.2.2.2.1.1
  refine j_met (L0 := [some (.inr (.ref 0)), some (.inr (.long h)), none, none, none, none, none]) (by decide) E.1 E.2 rfl (Nat.le_of_ble_eq_true rfl) ?_
  refine j_lload1 (q := 1) dX7_withInsurers_0 rfl ?_
  refine j_lstore3 (q := 2) dX7_withInsurers_1 rfl rfl (by decide) ?_
  refine j_iconst (q := 3) dX7_withInsurers_2 rfl ?_
  refine j_istore5 (q := 5) dX7_withInsurers_3 rfl rfl (by decide) ?_
  refine lp_X7_withInsurers E hq hV (P 17 0).toNat 0 h (by omega) (by omega) ?_
  intro x hx
  refine j_lload3 (q := 57) dX7_withInsurers_56 rfl ?_
  exact j_lreturn dX7_withInsurers_57 rfl (by rw [hx]) (rfl)
theorem lp_X7_withDebts {G : GX} (E : EV G) {m P : Mem} (hq : PA 1) {F : FinT} {h0 : Int64} (hV : CV P) : ∀ (d : Nat) (t : Int) (h : Int64), t + d = P 10 0 → 0 ≤ t → (∀ (x : Int64), x = fd (dgD1 P) d t h → J G SHP iX7_withDebts 0 0 F 52 [some (.inr (.ref 0)), some (.inr (.long h0)), none, some (.inr (.long x)), none, none] [] (ps m 1 P) 0 0) → J G SHP iX7_withDebts 0 0 F 5 [some (.inr (.ref 0)), some (.inr (.long h0)), none, some (.inr (.long h)), none, some (.inl t)] [] (ps m 1 P) 0 0 := by
  intro d
  induction d with
  | zero =>
    intro t h g0 g1 kk
    have hb := hV.1
    have hb2 := hV.2.1
    have hd := hV.2.2.2.1.1
    refine j_iload5 (q := 7) dX7_withDebts_5 rfl ?_
    refine j_aload0 (q := 8) dX7_withDebts_7 rfl ?_
    refine j_getR 0 (q := 11) dX7_withDebts_8 rfl fl_X7_10 sh_0 rfl ?_
    refine j_getR 6 (q := 14) dX7_withDebts_11 rfl fl_X7_157 sh_1 rfl ?_
    refine j_pgetI (d := 10) rfl (by decide) 0 (j' := 0) (q := 17) dX7_withDebts_14 rfl fl_X7_161 sh_11 rfl rfl ?_
    refine j_icmp_ge (tgt := 52) (q := 20) dX7_withDebts_17 (by decide) rfl (by first | exact wr_id' (by omega) (by omega) | with_reducible exact wr_bI _ | exact rfl) (by first | exact wr_id' (by omega) (by omega) | with_reducible exact wr_bI _ | exact rfl) (fun h17 => ?_) (fun h17 => ?_)
    · refine j_fgt5 ?_
      exact kk _ rfl
    · omega
  | succ d ih =>
    intro t h g0 g1 kk
    have hb := hV.1
    have hb2 := hV.2.1
    have hd := hV.2.2.2.1.1
    refine j_iload5 (q := 7) dX7_withDebts_5 rfl ?_
    refine j_aload0 (q := 8) dX7_withDebts_7 rfl ?_
    refine j_getR 0 (q := 11) dX7_withDebts_8 rfl fl_X7_10 sh_0 rfl ?_
    refine j_getR 6 (q := 14) dX7_withDebts_11 rfl fl_X7_157 sh_1 rfl ?_
    refine j_pgetI (d := 10) rfl (by decide) 0 (j' := 0) (q := 17) dX7_withDebts_14 rfl fl_X7_161 sh_11 rfl rfl ?_
    refine j_icmp_ge (tgt := 52) (q := 20) dX7_withDebts_17 (by decide) rfl (by first | exact wr_id' (by omega) (by omega) | with_reducible exact wr_bI _ | exact rfl) (by first | exact wr_id' (by omega) (by omega) | with_reducible exact wr_bI _ | exact rfl) (fun h17 => ?_) (fun h17 => ?_)
    · omega
    · refine j_lload3 (q := 21) dX7_withDebts_20 rfl ?_
      refine j_aload0 (q := 22) dX7_withDebts_21 rfl ?_
      refine j_iload5 (q := 24) dX7_withDebts_22 rfl ?_
      refine j_iconst (q := 25) dX7_withDebts_24 rfl ?_
      refine j_callV2 (Mc := iX7_owed) (q := 28) (c' := 0) (s' := 0) dX7_withDebts_25 rfl kV_X7_owed jw_558 ⟨by decide, by decide⟩ sh_0 rfl rfl rfl (Nat.le_refl _) (Nat.le_refl _) (ct_X7_owed E (by omega) (by omega) (by omega) (by omega) hV.2.2.2.1) ?_
      refine j_i2l (q := 29) dX7_withDebts_28 rfl ?_
      refine j_callS2 (Mc := iX7_mixed) (q := 32) (c' := 0) (s' := 0) dX7_withDebts_29 rfl kS_X7_mixed jw_439 ⟨by decide, by decide⟩ rfl (Nat.le_refl _) (Nat.le_refl _) (ct_X7_mixed E) ?_
      refine j_lstore3 (q := 33) dX7_withDebts_32 rfl rfl (by decide) ?_
      refine j_lload3 (q := 34) dX7_withDebts_33 rfl ?_
      refine j_aload0 (q := 35) dX7_withDebts_34 rfl ?_
      refine j_iload5 (q := 37) dX7_withDebts_35 rfl ?_
      refine j_iconst (q := 38) dX7_withDebts_37 rfl ?_
      refine j_callV2 (Mc := iX7_owed) (q := 41) (c' := 0) (s' := 0) dX7_withDebts_38 rfl kV_X7_owed jw_558 ⟨by decide, by decide⟩ sh_0 rfl rfl rfl (Nat.le_refl _) (Nat.le_refl _) (ct_X7_owed E (by omega) (by omega) (by omega) (by omega) hV.2.2.2.1) ?_
      refine j_i2l (q := 42) dX7_withDebts_41 rfl ?_
      refine j_callS2 (Mc := iX7_mixed) (q := 45) (c' := 0) (s' := 0) dX7_withDebts_42 rfl kS_X7_mixed jw_439 ⟨by decide, by decide⟩ rfl (Nat.le_refl _) (Nat.le_refl _) (ct_X7_mixed E) ?_
      refine j_lstore3 (q := 46) dX7_withDebts_45 rfl rfl (by decide) ?_
      refine j_iinc5 (q := 49) dX7_withDebts_46 rfl rfl (by decide) ?_
      refine j_goto (tgt := 5) dX7_withDebts_49 (by decide) ?_
      exact ih _ _ (by omega) (by omega) (fun x hx => kk x (hx.trans (rfl)))
theorem ct_X7_withDebts {G : GX} (E : EV G) {m P : Mem} {h : Int64} (hV : CV P) : CT G SHP iX7_withDebts 0 0 [.inr (.ref 0), .inr (.long h)] (ps m 1 P) (some (.inr (.long (fd (dgD1 P) (P 10 0).toNat 0 h)))) (ps m 1 P) := by
  have hq : PA 1 := PA1
  have hb := hV.1
  have hb2 := hV.2.1
  have hd := hV.2.2.2.1.1
  refine j_met (L0 := [some (.inr (.ref 0)), some (.inr (.long h)), none, none, none, none]) (by decide) E.1 E.2 rfl (Nat.le_of_ble_eq_true rfl) ?_
  refine j_lload1 (q := 1) dX7_withDebts_0 rfl ?_
  refine j_lstore3 (q := 2) dX7_withDebts_1 rfl rfl (by decide) ?_
  refine j_iconst (q := 3) dX7_withDebts_2 rfl ?_
  refine j_istore5 (q := 5) dX7_withDebts_3 rfl rfl (by decide) ?_
  refine lp_X7_withDebts E hq hV (P 10 0).toNat 0 h (by omega) (by omega) ?_
  intro x hx
  refine j_lload3 (q := 53) dX7_withDebts_52 rfl ?_
  exact j_lreturn dX7_withDebts_53 rfl (by rw [hx]) (rfl)
theorem lp_X7_withText {G : GX} (E : EV G) {m P : Mem} (hq : PA 1) {F : FinT} {h0 : Int64} (hT : TL m) : ∀ (d : Nat) (t : Int) (h : Int64), t + d = m 195 0 → 0 ≤ t → (∀ (x : Int64), x = fd (dgX1 m) d t h → J G SHP iX7_withText 0 0 F 49 [some (.inr (.ref 0)), some (.inr (.long h0)), none, some (.inr (.long x)), none, none] [] (ps m 1 P) 0 0) → J G SHP iX7_withText 0 0 F 16 [some (.inr (.ref 0)), some (.inr (.long h0)), none, some (.inr (.long h)), none, some (.inl t)] [] (ps m 1 P) 0 0 := by
  intro d
  induction d with
  | zero =>
    intro t h g0 g1 kk
    have hl := hT.1
    refine j_iload5 (q := 18) dX7_withText_16 rfl ?_
    refine j_aload0 (q := 19) dX7_withText_18 rfl ?_
    refine j_getR 3 (q := 22) dX7_withText_19 rfl fl_X7_29 sh_0 rfl ?_
    refine j_qgetI (by decide) 0 (j' := 0) (q := 25) dX7_withText_22 rfl fl_X7_174 sh_195 rfl rfl ?_
    refine j_icmp_ge (tgt := 49) (q := 28) dX7_withText_25 (by decide) rfl (by first | exact wr_id' (by omega) (by omega) | with_reducible exact wr_bI _ | exact rfl) (by first | exact wr_id' (by omega) (by omega) | with_reducible exact wr_bI _ | exact rfl) (fun h25 => ?_) (fun h25 => ?_)
    · refine j_fgt5 ?_
      exact kk _ rfl
    · omega
  | succ d ih =>
    intro t h g0 g1 kk
    have hl := hT.1
    refine j_iload5 (q := 18) dX7_withText_16 rfl ?_
    refine j_aload0 (q := 19) dX7_withText_18 rfl ?_
    refine j_getR 3 (q := 22) dX7_withText_19 rfl fl_X7_29 sh_0 rfl ?_
    refine j_qgetI (by decide) 0 (j' := 0) (q := 25) dX7_withText_22 rfl fl_X7_174 sh_195 rfl rfl ?_
    refine j_icmp_ge (tgt := 49) (q := 28) dX7_withText_25 (by decide) rfl (by first | exact wr_id' (by omega) (by omega) | with_reducible exact wr_bI _ | exact rfl) (by first | exact wr_id' (by omega) (by omega) | with_reducible exact wr_bI _ | exact rfl) (fun h25 => ?_) (fun h25 => ?_)
    · omega
    · refine j_lload3 (q := 29) dX7_withText_28 rfl ?_
      refine j_aload0 (q := 30) dX7_withText_29 rfl ?_
      refine j_getR 3 (q := 33) dX7_withText_30 rfl fl_X7_29 sh_0 rfl ?_
      refine j_iload5 (q := 35) dX7_withText_33 rfl ?_
      refine j_callV1 (Mc := iX6_codeAt) (q := 38) (c' := 0) (s' := 0) dX7_withText_35 rfl kV_X6_codeAt jw_692 ⟨by decide, by decide⟩ sh_195 rfl rfl rfl (Nat.le_refl _) (Nat.le_refl _) (cp_codeAt E (by omega) hT) ?_
      refine j_i2l (q := 39) dX7_withText_38 rfl ?_
      refine j_callS2 (Mc := iX7_mixed) (q := 42) (c' := 0) (s' := 0) dX7_withText_39 rfl kS_X7_mixed jw_439 ⟨by decide, by decide⟩ rfl (Nat.le_refl _) (Nat.le_refl _) (ct_X7_mixed E) ?_
      refine j_lstore3 (q := 43) dX7_withText_42 rfl rfl (by decide) ?_
      refine j_iinc5 (q := 46) dX7_withText_43 rfl rfl (by decide) ?_
      refine j_goto (tgt := 16) dX7_withText_46 (by decide) ?_
      exact ih _ _ (by omega) (by omega) (fun x hx => kk x (hx.trans (rfl)))
theorem ct_X7_withText {G : GX} (E : EV G) {m P : Mem} {h : Int64} (hT : TL m) : CT G SHP iX7_withText 0 0 [.inr (.ref 0), .inr (.long h)] (ps m 1 P) (some (.inr (.long (dgX m h)))) (ps m 1 P) := by
  have hq : PA 1 := PA1
  have hl := hT.1
  refine j_met (L0 := [some (.inr (.ref 0)), some (.inr (.long h)), none, none, none, none]) (by decide) E.1 E.2 rfl (Nat.le_of_ble_eq_true rfl) ?_
  refine j_lload1 (q := 1) dX7_withText_0 rfl ?_
  refine j_aload0 (q := 2) dX7_withText_1 rfl ?_
  refine j_getR 3 (q := 5) dX7_withText_2 rfl fl_X7_29 sh_0 rfl ?_
  refine j_qgetI (by decide) 0 (j' := 0) (q := 8) dX7_withText_5 rfl fl_X7_174 sh_195 rfl rfl ?_
  refine j_i2l (q := 9) dX7_withText_8 rfl ?_
  refine j_callS2 (Mc := iX7_mixed) (q := 12) (c' := 0) (s' := 0) dX7_withText_9 rfl kS_X7_mixed jw_439 ⟨by decide, by decide⟩ rfl (Nat.le_refl _) (Nat.le_refl _) (ct_X7_mixed E) ?_
  refine j_lstore3 (q := 13) dX7_withText_12 rfl rfl (by decide) ?_
  refine j_iconst (q := 14) dX7_withText_13 rfl ?_
  refine j_istore5 (q := 16) dX7_withText_14 rfl rfl (by decide) ?_
  refine lp_X7_withText E hq hT (m 195 0).toNat 0 (mx h (i2 (m 195 0))) (by omega) (by omega) ?_
  intro x hx
  refine j_lload3 (q := 50) dX7_withText_49 rfl ?_
  exact j_lreturn dX7_withText_50 rfl (by rw [hx]; rfl) (rfl)
theorem lp_X7_digest_1 {G : GX} (E : EV G) {m P : Mem} (hq : PA 1) {F : FinT} : ∀ (d : Nat) (k : Int) (h : Int64), k + d = 19 → 0 ≤ k → (∀ (x : Int64), x = fd (dgCnt P (m 49 0)) d k h → J G SHP iX7_digest 0 0 F 29 [some (.inr (.ref 0)), some (.inr (.long x)), none, none, none] [] (ps m 1 P) 0 0) → J G SHP iX7_digest 0 0 F 6 [some (.inr (.ref 0)), some (.inr (.long h)), none, some (.inl k), none] [] (ps m 1 P) 0 0 := by
  intro d
  induction d with
  | zero =>
    intro k h g0 g1 kk
    refine j_iload3 (q := 7) dX7_digest_6 rfl ?_
    refine j_bipush (q := 9) dX7_digest_7 rfl rfl ?_
    refine j_icmp_ge (tgt := 29) (q := 12) dX7_digest_9 (by decide) rfl (by first | exact wr_id' (by omega) (by omega) | with_reducible exact wr_bI _ | exact rfl) (by first | exact wr_id' (by omega) (by omega) | with_reducible exact wr_bI _ | exact rfl) (fun h9 => ?_) (fun h9 => ?_)
    · refine j_fgt3 ?_
      exact kk _ rfl
    · omega
  | succ d ih =>
    intro k h g0 g1 kk
    refine j_iload3 (q := 7) dX7_digest_6 rfl ?_
    refine j_bipush (q := 9) dX7_digest_7 rfl rfl ?_
    refine j_icmp_ge (tgt := 29) (q := 12) dX7_digest_9 (by decide) rfl (by first | exact wr_id' (by omega) (by omega) | with_reducible exact wr_bI _ | exact rfl) (by first | exact wr_id' (by omega) (by omega) | with_reducible exact wr_bI _ | exact rfl) (fun h9 => ?_) (fun h9 => ?_)
    · omega
    · refine j_lload1 (q := 13) dX7_digest_12 rfl ?_
      refine j_aload0 (q := 14) dX7_digest_13 rfl ?_
      refine j_iload3 (q := 15) dX7_digest_14 rfl ?_
      refine j_callV1 (Mc := iX7_count) (q := 18) (c' := 0) (s' := 0) dX7_digest_15 rfl kV_X7_count jw_338 ⟨by decide, by decide⟩ sh_0 rfl rfl rfl (Nat.le_refl _) (Nat.le_refl _) (ct_X7_count E (by omega) (by omega) rfl) ?_
      refine j_i2l (q := 19) dX7_digest_18 rfl ?_
      refine j_callS2 (Mc := iX7_mixed) (q := 22) (c' := 0) (s' := 0) dX7_digest_19 rfl kS_X7_mixed jw_439 ⟨by decide, by decide⟩ rfl (Nat.le_refl _) (Nat.le_refl _) (ct_X7_mixed E) ?_
      refine j_lstore1 (q := 23) dX7_digest_22 rfl rfl (by decide) ?_
      refine j_iinc3 (q := 26) dX7_digest_23 rfl rfl (by decide) ?_
      refine j_goto (tgt := 6) dX7_digest_26 (by decide) ?_
      exact ih _ _ (by omega) (by omega) (fun x hx => kk x (hx.trans (rfl)))
theorem lp_X7_digest_2 {G : GX} (E : EV G) {m P : Mem} (hq : PA 1) {F : FinT} : ∀ (d : Nat) (k : Int) (h : Int64), k + d = 8 → 0 ≤ k → (∀ (x : Int64), x = fd (dgSet P) d k h → J G SHP iX7_digest 0 0 F 54 [some (.inr (.ref 0)), some (.inr (.long x)), none, none, none] [] (ps m 1 P) 0 0) → J G SHP iX7_digest 0 0 F 31 [some (.inr (.ref 0)), some (.inr (.long h)), none, some (.inl k), none] [] (ps m 1 P) 0 0 := by
  intro d
  induction d with
  | zero =>
    intro k h g0 g1 kk
    refine j_iload3 (q := 32) dX7_digest_31 rfl ?_
    refine j_bipush (q := 34) dX7_digest_32 rfl rfl ?_
    refine j_icmp_ge (tgt := 54) (q := 37) dX7_digest_34 (by decide) rfl (by first | exact wr_id' (by omega) (by omega) | with_reducible exact wr_bI _ | exact rfl) (by first | exact wr_id' (by omega) (by omega) | with_reducible exact wr_bI _ | exact rfl) (fun h34 => ?_) (fun h34 => ?_)
    · refine j_fgt3 ?_
      exact kk _ rfl
    · omega
  | succ d ih =>
    intro k h g0 g1 kk
    refine j_iload3 (q := 32) dX7_digest_31 rfl ?_
    refine j_bipush (q := 34) dX7_digest_32 rfl rfl ?_
    refine j_icmp_ge (tgt := 54) (q := 37) dX7_digest_34 (by decide) rfl (by first | exact wr_id' (by omega) (by omega) | with_reducible exact wr_bI _ | exact rfl) (by first | exact wr_id' (by omega) (by omega) | with_reducible exact wr_bI _ | exact rfl) (fun h34 => ?_) (fun h34 => ?_)
    · omega
    · refine j_lload1 (q := 38) dX7_digest_37 rfl ?_
      refine j_aload0 (q := 39) dX7_digest_38 rfl ?_
      refine j_iload3 (q := 40) dX7_digest_39 rfl ?_
      refine j_callV1 (Mc := iX7_setting) (q := 43) (c' := 0) (s' := 0) dX7_digest_40 rfl kV_X7_setting jw_443 ⟨by decide, by decide⟩ sh_0 rfl rfl rfl (Nat.le_refl _) (Nat.le_refl _) (ct_X7_setting E (by omega) (by omega)) ?_
      refine j_i2l (q := 44) dX7_digest_43 rfl ?_
      refine j_callS2 (Mc := iX7_mixed) (q := 47) (c' := 0) (s' := 0) dX7_digest_44 rfl kS_X7_mixed jw_439 ⟨by decide, by decide⟩ rfl (Nat.le_refl _) (Nat.le_refl _) (ct_X7_mixed E) ?_
      refine j_lstore1 (q := 48) dX7_digest_47 rfl rfl (by decide) ?_
      refine j_iinc3 (q := 51) dX7_digest_48 rfl rfl (by decide) ?_
      refine j_goto (tgt := 31) dX7_digest_51 (by decide) ?_
      exact ih _ _ (by omega) (by omega) (fun x hx => kk x (hx.trans (rfl)))
theorem lp_X7_digest_3 {G : GX} (E : EV G) {m P : Mem} (hq : PA 1) {F : FinT} : ∀ (d : Nat) (b : Int) (k : Int) (h : Int64), k + d = 8 → 0 ≤ k → -1 ≤ b ∧ b < 64 → (∀ (x : Int64), x = dgW P d b h → J G SHP iX7_digest 0 0 F 115 [some (.inr (.ref 0)), some (.inr (.long x)), none, none, none] [] (ps m 1 P) 0 0) → J G SHP iX7_digest 0 0 F 83 [some (.inr (.ref 0)), some (.inr (.long h)), none, some (.inl b), some (.inl k)] [] (ps m 1 P) 0 0 := by
  intro d
  induction d with
  | zero =>
    intro b k h g0 g1 g2 kk
    refine j_iload4 (q := 85) dX7_digest_83 rfl ?_
    refine j_bipush (q := 87) dX7_digest_85 rfl rfl ?_
    refine j_icmp_ge (tgt := 115) (q := 90) dX7_digest_87 (by decide) rfl (by first | exact wr_id' (by omega) (by omega) | with_reducible exact wr_bI _ | exact rfl) (by first | exact wr_id' (by omega) (by omega) | with_reducible exact wr_bI _ | exact rfl) (fun h87 => ?_) (fun h87 => ?_)
    · refine j_fgt3 ?_
      refine j_fgt4 ?_
      exact kk _ rfl
    · omega
  | succ d ih =>
    intro b k h g0 g1 g2 kk
    refine j_iload4 (q := 85) dX7_digest_83 rfl ?_
    refine j_bipush (q := 87) dX7_digest_85 rfl rfl ?_
    refine j_icmp_ge (tgt := 115) (q := 90) dX7_digest_87 (by decide) rfl (by first | exact wr_id' (by omega) (by omega) | with_reducible exact wr_bI _ | exact rfl) (by first | exact wr_id' (by omega) (by omega) | with_reducible exact wr_bI _ | exact rfl) (fun h87 => ?_) (fun h87 => ?_)
    · omega
    · refine j_aload0 (q := 91) dX7_digest_90 rfl ?_
      refine j_getR 0 (q := 94) dX7_digest_91 rfl fl_X7_10 sh_0 rfl ?_
      refine j_getR 5 (q := 97) dX7_digest_94 rfl fl_X7_89 sh_1 rfl ?_
      refine j_iload3 (q := 98) dX7_digest_97 rfl ?_
      refine j_callV1 (Mc := iX0_nextWeakest) (q := 101) (c' := 0) (s' := 0) dX7_digest_98 rfl kV_X0_nextWeakest jw_567 ⟨by decide, by decide⟩ sh_4 rfl rfl rfl (Nat.le_refl _) (Nat.le_refl _) (ct_X0_nextWeakest E hq g2) ?_
      refine j_istore3 (q := 102) dX7_digest_101 rfl rfl (by decide) ?_
      refine j_lload1 (q := 103) dX7_digest_102 rfl ?_
      refine j_iload3 (q := 104) dX7_digest_103 rfl ?_
      refine j_i2l (q := 105) dX7_digest_104 rfl ?_
      refine j_callS2 (Mc := iX7_mixed) (q := 108) (c' := 0) (s' := 0) dX7_digest_105 rfl kS_X7_mixed jw_439 ⟨by decide, by decide⟩ rfl (Nat.le_refl _) (Nat.le_refl _) (ct_X7_mixed E) ?_
      refine j_lstore1 (q := 109) dX7_digest_108 rfl rfl (by decide) ?_
      refine j_iinc4 (q := 112) dX7_digest_109 rfl rfl (by decide) ?_
      refine j_goto (tgt := 83) dX7_digest_112 (by decide) ?_
      exact ih _ _ _ (by omega) (by omega) (cNw_b P b) (fun x hx => kk x (hx.trans (rfl)))
theorem ct_X7_digest {G : GX} (E : EV G) {m P : Mem} (hV : CV P) (hT : TL m) (hS : shOk (cBk P)) : CT G SHP iX7_digest 0 0 [.inr (.ref 0)] (ps m 1 P) (some (.inr (.long (cDg m P)))) (ps (dgQ2 m P) 1 P) := by
  have hq : PA 1 := PA1
  refine j_met (L0 := [some (.inr (.ref 0)), none, none, none, none]) (by decide) E.1 E.2 rfl (Nat.le_of_ble_eq_true rfl) ?_
  refine j_ldc2 (q := 3) dX7_digest_0 rfl jw_337 ?_
  refine j_lstore1 (q := 4) dX7_digest_3 rfl rfl (by decide) ?_
  refine j_iconst (q := 5) dX7_digest_4 rfl ?_
  refine j_istore3 (q := 6) dX7_digest_5 rfl rfl (by decide) ?_
  refine lp_X7_digest_1 E hq 19 0 2351 (by omega) (by omega) ?_
  intro x1 hx1
  refine j_iconst (q := 30) dX7_digest_29 rfl ?_
  refine j_istore3 (q := 31) dX7_digest_30 rfl rfl (by decide) ?_
  refine lp_X7_digest_2 E hq 8 0 x1 (by omega) (by omega) ?_
  intro x2 hx2
  refine j_aload0 (q := 55) dX7_digest_54 rfl ?_
  refine j_lload1 (q := 56) dX7_digest_55 rfl ?_
  refine j_callV1 (Mc := iX7_withCores) (q := 59) (c' := 0) (s' := 0) dX7_digest_56 rfl kV_X7_withCores jw_466 ⟨by decide, by decide⟩ sh_0 rfl rfl rfl (Nat.le_refl _) (Nat.le_refl _) (ct_X7_withCores E) ?_
  refine j_lstore1 (q := 60) dX7_digest_59 rfl rfl (by decide) ?_
  refine j_aload0 (q := 61) dX7_digest_60 rfl ?_
  refine j_lload1 (q := 62) dX7_digest_61 rfl ?_
  refine j_callV1 (Mc := iX7_withTenants) (q := 65) (c' := 0) (s' := 0) dX7_digest_62 rfl kV_X7_withTenants jw_495 ⟨by decide, by decide⟩ sh_0 rfl rfl rfl (Nat.le_refl _) (Nat.le_refl _) (ct_X7_withTenants E hV) ?_
  refine j_lstore1 (q := 66) dX7_digest_65 rfl rfl (by decide) ?_
  refine j_aload0 (q := 67) dX7_digest_66 rfl ?_
  refine j_lload1 (q := 68) dX7_digest_67 rfl ?_
  refine j_callV1 (Mc := iX7_withInsurers) (q := 71) (c' := 0) (s' := 0) dX7_digest_68 rfl kV_X7_withInsurers jw_529 ⟨by decide, by decide⟩ sh_0 rfl rfl rfl (Nat.le_refl _) (Nat.le_refl _) (ct_X7_withInsurers E hV) ?_
  refine j_lstore1 (q := 72) dX7_digest_71 rfl rfl (by decide) ?_
  refine j_aload0 (q := 73) dX7_digest_72 rfl ?_
  refine j_lload1 (q := 74) dX7_digest_73 rfl ?_
  refine j_callV1 (Mc := iX7_withDebts) (q := 77) (c' := 0) (s' := 0) dX7_digest_74 rfl kV_X7_withDebts jw_554 ⟨by decide, by decide⟩ sh_0 rfl rfl rfl (Nat.le_refl _) (Nat.le_refl _) (ct_X7_withDebts E hV) ?_
  refine j_lstore1 (q := 78) dX7_digest_77 rfl rfl (by decide) ?_
  refine j_iconst (q := 79) dX7_digest_78 rfl ?_
  refine j_istore3 (q := 80) dX7_digest_79 rfl rfl (by decide) ?_
  refine j_iconst (q := 81) dX7_digest_80 rfl ?_
  refine j_istore4 (q := 83) dX7_digest_81 rfl rfl (by decide) ?_
  refine lp_X7_digest_3 E hq 8 (-1) 0 _ (by omega) (by omega) (by omega) ?_
  intro x3 hx3
  refine j_lload1 (q := 116) dX7_digest_115 rfl ?_
  refine j_aload0 (q := 117) dX7_digest_116 rfl ?_
  refine j_callV0 (Mc := iX7_gentlest) (q := 120) (c' := 0) (s' := 0) dX7_digest_117 rfl kV_X7_gentlest jw_576 ⟨by decide, by decide⟩ sh_0 rfl rfl rfl (Nat.le_refl _) (Nat.le_refl _) (ct_X7_gentlest E) ?_
  refine j_i2l (q := 121) dX7_digest_120 rfl ?_
  refine j_callS2 (Mc := iX7_mixed) (q := 124) (c' := 0) (s' := 0) dX7_digest_121 rfl kS_X7_mixed jw_439 ⟨by decide, by decide⟩ rfl (Nat.le_refl _) (Nat.le_refl _) (ct_X7_mixed E) ?_
  refine j_lstore1 (q := 125) dX7_digest_124 rfl rfl (by decide) ?_
  refine j_lload1 (q := 126) dX7_digest_125 rfl ?_
  refine j_aload0 (q := 127) dX7_digest_126 rfl ?_
  refine j_iconst (q := 128) dX7_digest_127 rfl ?_
  refine j_callV1 (Mc := iX7_savable) (q := 131) (c' := 0) (s' := 0) dX7_digest_128 rfl kV_X7_savable jw_577 ⟨by decide, by decide⟩ sh_0 rfl rfl rfl (Nat.le_refl _) (Nat.le_refl _) (cp_savable E (by omega) (by omega) hV) ?_
  refine j_i2l (q := 132) dX7_digest_131 rfl ?_
  refine j_callS2 (Mc := iX7_mixed) (q := 135) (c' := 0) (s' := 0) dX7_digest_132 rfl kS_X7_mixed jw_439 ⟨by decide, by decide⟩ rfl (Nat.le_refl _) (Nat.le_refl _) (ct_X7_mixed E) ?_
  refine j_lstore1 (q := 136) dX7_digest_135 rfl rfl (by decide) ?_
  refine j_lload1 (q := 137) dX7_digest_136 rfl ?_
  refine j_aload0 (q := 138) dX7_digest_137 rfl ?_
  refine j_iconst (q := 139) dX7_digest_138 rfl ?_
  refine j_callV1 (Mc := iX7_savable) (q := 142) (c' := 0) (s' := 0) dX7_digest_139 rfl kV_X7_savable jw_577 ⟨by decide, by decide⟩ sh_0 rfl rfl rfl (Nat.le_refl _) (Nat.le_refl _) (cp_savable E (by omega) (by omega) hV) ?_
  refine j_i2l (q := 143) dX7_digest_142 rfl ?_
  refine j_callS2 (Mc := iX7_mixed) (q := 146) (c' := 0) (s' := 0) dX7_digest_143 rfl kS_X7_mixed jw_439 ⟨by decide, by decide⟩ rfl (Nat.le_refl _) (Nat.le_refl _) (ct_X7_mixed E) ?_
  refine j_lstore1 (q := 147) dX7_digest_146 rfl rfl (by decide) ?_
  refine j_lload1 (q := 148) dX7_digest_147 rfl ?_
  refine j_aload0 (q := 149) dX7_digest_148 rfl ?_
  refine j_callV0 (Mc := iX7_backShare) (q := 152) (c' := 0) (s' := 0) dX7_digest_149 rfl kV_X7_backShare jw_681 ⟨by decide, by decide⟩ sh_0 rfl rfl rfl (Nat.le_refl _) (Nat.le_refl _) (ct_X7_backShare E) ?_
  refine j_callS1 (Mc := iX7_bitsOfShare) (q := 155) (c' := 0) (s' := 0) dX7_digest_152 rfl kS_X7_bitsOfShare jw_682 ⟨by decide, by decide⟩ rfl (Nat.le_refl _) (Nat.le_refl _) (ca_X7_bitsOfShare E (by assumption)) ?_
  refine j_callS2 (Mc := iX7_mixed) (q := 158) (c' := 0) (s' := 0) dX7_digest_155 rfl kS_X7_mixed jw_439 ⟨by decide, by decide⟩ rfl (Nat.le_refl _) (Nat.le_refl _) (ct_X7_mixed E) ?_
  refine j_lstore1 (q := 159) dX7_digest_158 rfl rfl (by decide) ?_
  have hT2 : TL (dgQ2 m P) := by unfold TL dgQ2 dgQ1; rw [ps_ne (by omega), ps_ne (by omega), ps_ne (by omega), ps_ne (by omega)]; exact hT
  refine j_aload0 (q := 160) dX7_digest_159 rfl ?_
  refine j_lload1 (q := 161) dX7_digest_160 rfl ?_
  refine j_callV1 (Mc := iX7_withText) (q := 164) (c' := 0) (s' := 0) dX7_digest_161 rfl kV_X7_withText jw_688 ⟨by decide, by decide⟩ sh_0 rfl rfl rfl (Nat.le_refl _) (Nat.le_refl _) (ct_X7_withText E hT2) ?_
  exact j_lreturn dX7_digest_164 rfl (by rw [hx3, hx2, hx1]; rfl) (rfl)

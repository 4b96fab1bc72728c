/-! the law: letters; what its typing keeps -/
theorem lz_put {m : Mem} {p : Bool} {z : Z} {c : Int} : tPut (lz m p z) c = lz (tPut m c) p z := by
  have e195 : lz m p z 195 = m 195 := lz_lo (by decide)
  funext a b
  unfold tPut
  rw [e195]
  by_cases q : ∃ d, d < 8 ∧ a = ix p d
  · obtain ⟨d, h1, rfl⟩ := q
    have hb := (ix_b p h1).1
    rw [lz_at h1, up_ne (by omega), up_ne (by omega), lz_at h1]
  · have q' : ∀ d, d < 8 → ¬ a = ix p d := fun d h1 h2 => q ⟨d, h1, h2⟩
    rw [lz_ne q']
    unfold up
    rw [lz_ne q']
theorem lz_puts {p : Bool} {z : Z} : ∀ (l : List Int) {m : Mem}, tPs (lz m p z) l = lz (tPs m l) p z := by
  intro l
  induction l with
  | nil => intro m; rfl
  | cons c l ih =>
    intro m
    show tPs (tPut (lz m p z) c) l = lz (tPs (tPut m c) l) p z
    rw [lz_put]
    exact ih
/-- an own plane, with all that holds of it -/
def LQ (z : Z) (T B K : Int) : Prop := LX z ∧ LZ z ∧ NI z ∧ RT z ∧ ∃ P, RR P z T B K ∧ CX P
theorem LQ.k {z : Z} {T B K : Int} (h : LQ z T B K) : LK z T B K := ⟨h.1, h.2.2.2.2⟩
theorem LQ.x {z : Z} {T B K : Int} (h : LQ z T B K) : LX z := h.1
theorem LQ.z {z : Z} {T B K : Int} (h : LQ z T B K) : LZ z := h.2.1
theorem LQ.i {z : Z} {T B K : Int} (h : LQ z T B K) : IZ z T B := h.k.i
theorem LQ_of {P P1 : Mem} {z y : Z} {T B K T1 B1 K1 : Int} (hR : RR P z T B K) (hN : NI z) (hr : RT z) (hR1 : RR P1 y T1 B1 K1) (hC : CX P1) (hX : LX y) (hZ : LZ y) (f13 : P1 13 0 = P 13 0) (f17 : P1 17 0 = P 17 0) (f19 : ∀ i, P1 19 i = P 19 i) : LQ y T1 B1 K1 :=
  ⟨hX, hZ, NI_P hN hR.1 hR1.1 f13 f17, RT_P hr hR.1 hR1.1 f19, P1, hR1, hC⟩
theorem LQ_wr {z : Z} {T B K k b : Int} (hk : 0 ≤ k ∧ k < 16) (hb : b = 0 ∨ b = 1) (h : LQ z T B K) : LQ (zWr z (cr k) b) T B K ∧ zWr z (cr k) b 0 = z 0 := by
  obtain ⟨hX, hZ, hN, hr, P, hR, hC⟩ := h
  have r : RR (cWb P (cr k) (decide (b = 1))) (zWr z (cr k) b) T B K := by
    have r := R_wb (b := decide (b = 1)) (cr_b hk) hR
    rcases hb with rfl | rfl <;> exact r
  have f : ∀ q j, (q = 13 ∨ q = 17 ∨ q = 19 ∨ (q = 0 ∧ j = 0)) → cWb P (cr k) (decide (b = 1)) q j = P q j := fun q j e => cWb_o (by unfold UL; omega) (by omega) (by omega) (by omega)
  refine ⟨LQ_of hR hN hr r (CX_wb hR.2.2.2.1 hC) (LX_wr (cr_b hk) (cr_pl hk) hb hX) (LZ_wr (cr_b hk) hX hZ) (f _ _ (by omega)) (f _ _ (by omega)) (fun i => f _ _ (by omega)), ?_⟩
  rw [← r.1.t0, f 0 0 (by omega), hR.1.t0]
theorem LQ_rd {z : Z} {T B K k : Int} (hk : 0 ≤ k ∧ k < 16) (hcr : zCR z (cr k) = true) (hB : B + 1 ≤ 1000000) (h : LQ z T B K) : LQ (zRd z (cr k)) T (B + 1) K ∧ zRd z (cr k) 0 = z 0 := by
  have hK := LK_rd hk hcr hB h.k
  obtain ⟨hX, hZ, hN, hr, P, hR, hC⟩ := h
  have r := R_rd (cr_b hk) hcr hB hR
  have f : ∀ q j, (q = 13 ∨ q = 17 ∨ q = 19 ∨ (q = 0 ∧ j = 0)) → cRd P (cr k) q j = P q j := fun q j e => cRd_o (by unfold UL; omega) (by omega) (by omega) (by omega)
  refine ⟨LQ_of hR hN hr r (CX_rd hR.2.2.2.1 hC) hK.x (LZ_rd (cr_b hk) hX hZ) (f _ _ (by omega)) (f _ _ (by omega)) (fun i => f _ _ (by omega)), ?_⟩
  rw [← r.1.t0, f 0 0 (by omega), hR.1.t0]
theorem LQ_wb {z : Z} {T B K : Int} (o : Int → Int) (hn : 0 < zOwN z) (h : LQ z T B K) : LQ (zWb z (zOrd z o 0)) T B K ∧ zWb z (zOrd z o 0) 0 = z 0 := by
  have hK := LK_wb o hn h.k
  obtain ⟨hl, er⟩ := lOw_s o h.x h.i (q := 0) ⟨by omega, hn⟩
  obtain ⟨hX, hZ, hN, hr, P, hR, hC⟩ := h
  have r := (R_fb o hn hR).1
  have f : ∀ q j, (q = 13 ∨ q = 17 ∨ q = 19 ∨ (q = 0 ∧ j = 0)) → cFb P q j = P q j := fun q j e => cFb_o (by unfold UL; omega) (by omega) (by omega) (by omega)
  refine ⟨LQ_of hR hN hr r (CX_fb hR.2.2.2.1 hC) hK.x (by rw [← er]; exact LZ_wb (cr_b hl) hX hZ) (f _ _ (by omega)) (f _ _ (by omega)) (fun i => f _ _ (by omega)), ?_⟩
  rw [← r.1.t0, f 0 0 (by omega), hR.1.t0]
theorem cTk_o {P : Mem} {q : Nat} {j : Int} (h : q = 13 ∨ q = 17 ∨ q = 19) : cTk P q j = P q j := by
  unfold cTk
  rw [cTcF_o (by omega), cLtF_o (by unfold UL; omega) (by omega)]
  unfold cTk0
  rw [up_ne (by omega), up_ne (by omega)]
theorem LQ_tk {z : Z} {T B K : Int} (o : Int → Int) (hT : T + 1 ≤ 20000) (hz : z 0 + 1 ≤ T) (h : LQ z T B K) : LQ (zTk z o) T B K ∧ zTk z o 0 = z 0 + 1 := by
  obtain ⟨hX, hZ, hN, hr, P, hR, hC⟩ := h
  have r := R_pass (s := (z, o)) (d := 1) (by omega) (by dsimp only; omega) hR
  rw [zTkN, zTkN, cTkN, cTkN] at r
  dsimp only at r
  refine ⟨LQ_of hR hN hr r (CX_tk hR.2.2.2.1 hC) (LX_tk hX) (LZ_tk hX hZ) (cTk_o (by omega)) (cTk_o (by omega)) (fun i => cTk_o (by omega)), ?_⟩
  rw [← r.1.t0, cTk_0, hR.1.t0]
theorem LQ_tkN {T B K : Int} : ∀ (d : Nat) (s : Z × (Int → Int)), T + 1 ≤ 20000 → s.1 0 + d ≤ T → LQ s.1 T B K → LQ (zTkN d s).1 T B K ∧ (zTkN d s).1 0 = s.1 0 + d := by
  intro d
  induction d with
  | zero => intro s _ _ h; exact ⟨h, by show s.1 0 = s.1 0 + ((0 : Nat) : Int); omega⟩
  | succ d ih =>
    intro s h1 h2 h
    obtain ⟨a, b⟩ := LQ_tk s.2 h1 (by omega) h
    rw [zTkN]
    generalize zTk s.1 s.2 = y at *
    generalize zOrd (zTk0 s.1) s.2 = o2 at *
    obtain ⟨c, e⟩ := ih (y, o2) h1 (by dsimp only; omega) a
    refine ⟨c, e.trans ?_⟩
    dsimp only
    omega
/-! the steps -/
def sgn (kd : Int) : Int := if kd < 2 then 114 else if kd < 4 then 119 else if kd = 4 then 98 else 116
def mayL (kd k t : Int) (z : Z) : Prop := kd = 5 ∨ (kd = 4 ∧ 0 ≤ lOw z 0) ∨ (kd < 4 ∧ z (59 + 9 * cr k + 2) - 1 = t ∧ (1 < kd ∨ ¬ 0 ≤ z (59 + 9 * cr k + 6) - 1))
def doL (kd k b : Int) (s : Z × (Int → Int)) : Z × (Int → Int) := if kd < 2 then (zRd s.1 (cr k), s.2) else if kd < 4 then (zWr s.1 (cr k) b, s.2) else if kd = 4 then (zWb s.1 (zOrd s.1 s.2 0), zOrd s.1 s.2) else zTkN (b + 1).toNat s
theorem doL_r {kd k b : Int} {s : Z × (Int → Int)} (h : kd < 2) : doL kd k b s = (zRd s.1 (cr k), s.2) := by unfold doL; rw [if_pos h]
theorem doL_w {kd k b : Int} {s : Z × (Int → Int)} (h : 2 ≤ kd ∧ kd < 4) : doL kd k b s = (zWr s.1 (cr k) b, s.2) := by unfold doL; rw [if_neg (by omega), if_pos h.2]
theorem doL_b {kd k b : Int} {s : Z × (Int → Int)} (h : kd = 4) : doL kd k b s = (zWb s.1 (zOrd s.1 s.2 0), zOrd s.1 s.2) := by unfold doL; rw [if_neg (by omega), if_neg (by omega), if_pos h]
theorem doL_t {kd k b : Int} {s : Z × (Int → Int)} (h : kd = 5) : doL kd k b s = zTkN (b + 1).toNat s := by unfold doL; rw [if_neg (by omega), if_neg (by omega), if_neg (by omega)]
theorem rN_v {f : SP} {e n : Nat} {kd k b : Int} (hf : f n = (sgn kd, k, b)) (hkd : 0 ≤ kd ∧ kd < 6) : rN f e 203 n = cr k ∧ ((kd < 2 ∧ rN f e 202 n = 0) ∨ (2 ≤ kd ∧ kd < 4 ∧ rN f e 202 n = 1 ∧ rN f e 204 n = b) ∨ (kd = 4 ∧ rN f e 202 n = 2) ∨ (kd = 5 ∧ rN f e 202 n = 3 ∧ rN f e 204 n = b + 1)) := by
  rw [rN_2, rN_3, rN_4, hf]
  refine ⟨rfl, ?_⟩
  by_cases c1 : kd < 2
  · have es : sgn kd = 114 := by unfold sgn; rw [if_pos c1]
    rw [es]; exact Or.inl ⟨c1, rfl⟩
  · by_cases c2 : kd < 4
    · have es : sgn kd = 119 := by unfold sgn; rw [if_neg c1, if_pos c2]
      rw [es]; exact Or.inr (Or.inl ⟨by omega, c2, rfl, rfl⟩)
    · by_cases c3 : kd = 4
      · have es : sgn kd = 98 := by unfold sgn; rw [if_neg c1, if_neg c2, if_pos c3]
        rw [es]; exact Or.inr (Or.inr (Or.inl ⟨c3, rfl⟩))
      · have es : sgn kd = 116 := by unfold sgn; rw [if_neg c1, if_neg c2, if_neg c3]
        rw [es]; exact Or.inr (Or.inr (Or.inr ⟨by omega, rfl, rfl⟩))
theorem may_e {f : SP} {e n : Nat} {z : Z} {T B K kd k b t : Int} (hf : f n = (sgn kd, k, b)) (hkd : 0 ≤ kd ∧ kd < 6) (hk : 0 ≤ k ∧ k < 16) (hb : b = 0 ∨ b = 1) (ht : 0 ≤ t ∧ t < 6) (hz : 0 ≤ z 0 ∧ z 0 + 2 ≤ 10000) (h : LK z T B K) : zMay (rN f e) z n t = true ↔ mayL kd k t z := by
  have hc := cr_b hk
  have hX := h.x
  have hI := h.i
  have g := (hX.2.2 (cr k) hc.1 hc.2).2.2.1
  have w2 : wr (z (59 + 9 * cr k + 2)) = z (59 + 9 * cr k + 2) := wr_id' (by omega) (by omega)
  have ec := zCR_e hc hX hI
  have el := lOw_g hX hI (q := 0) (by decide)
  have bo := zOw_b z
  unfold zMay mayL
  obtain ⟨r3, ⟨c1, r2⟩ | ⟨c1, c2, r2, r4⟩ | ⟨c1, r2⟩ | ⟨c1, r2, r4⟩⟩ := rN_v (e := e) hf hkd
  · rw [r2, r3, if_pos (by decide), w2, Bool.and_eq_true, decide_eq_true_eq, ec]
    omega
  · rw [r2, r3, if_neg (by decide), if_pos (by decide), w2, decide_eq_true_eq]
    omega
  · rw [r2, if_neg (by decide), if_neg (by decide), if_pos (by decide), decide_eq_true_eq, wr_id' (by omega) (by omega)]
    omega
  · rw [r2, r4, if_neg (by decide), if_neg (by decide), if_neg (by decide), decide_eq_true_eq, wr_id' (by omega) (by omega)]
    omega
theorem do_e {f : SP} {e n : Nat} {s : Z × (Int → Int)} {kd k b : Int} (hkd : 0 ≤ kd ∧ kd < 6) (hf : f n = (sgn kd, k, b)) : zDo (rN f e) n s = doL kd k b s := by
  unfold zDo
  obtain ⟨r3, ⟨c1, r2⟩ | ⟨c1, c2, r2, r4⟩ | ⟨c1, r2⟩ | ⟨c1, r2, r4⟩⟩ := rN_v (e := e) hf hkd
  · rw [r2, r3, if_pos (by decide), doL_r c1]
  · rw [r2, r3, r4, if_neg (by decide), if_pos (by decide), doL_w ⟨c1, c2⟩]
  · rw [r2, if_neg (by decide), if_neg (by decide), if_pos (by decide), doL_b c1]
  · rw [r2, r4, if_neg (by decide), if_neg (by decide), if_neg (by decide), doL_t c1]
theorem LQ_do {s : Z × (Int → Int)} {B K kd k b t : Int} (hkd : 0 ≤ kd ∧ kd < 6) (hk : 0 ≤ k ∧ k < 16) (hb : b = 0 ∨ b = 1) (ht : 0 ≤ t) (hB : B + 1 ≤ 1000000) (hK2 : K ≤ 512) (hz : 0 ≤ s.1 0 ∧ s.1 0 + 2 ≤ 10000) (hm : mayL kd k t s.1) (h : LQ s.1 10000 B K) : LQ (doL kd k b s).1 10000 (B + 1) K ∧ 0 ≤ (doL kd k b s).1 0 ∧ (doL kd k b s).1 0 ≤ s.1 0 + 2 := by
  have mono : ∀ {y : Z}, LQ y 10000 B K → LQ y 10000 (B + 1) K := fun {y} w => by
    obtain ⟨a1, a2, a3, a4, P, r, c⟩ := w
    exact ⟨a1, a2, a3, a4, P, RR_mono (by omega) hB (Int.le_refl _) hK2 r, c⟩
  unfold mayL at hm
  have hc := cr_b hk
  by_cases c1 : kd < 2
  · rw [doL_r c1]
    have ec := (zCR_e hc h.x h.i).mpr (by omega)
    obtain ⟨a, e⟩ := LQ_rd hk ec hB h
    dsimp only
    exact ⟨a, by omega, by omega⟩
  · by_cases c2 : kd < 4
    · rw [doL_w ⟨by omega, c2⟩]
      obtain ⟨a, e⟩ := LQ_wr hk hb h
      dsimp only
      exact ⟨mono a, by omega, by omega⟩
    · by_cases c3 : kd = 4
      · rw [doL_b c3]
        have hn := (lOw_g h.x h.i (q := 0) (by decide)).mp (by omega)
        obtain ⟨a, e⟩ := LQ_wb s.2 hn h
        dsimp only
        exact ⟨mono a, by omega, by omega⟩
      · rw [doL_t (by omega)]
        obtain ⟨a, e⟩ := LQ_tkN (b + 1).toNat s (by omega) (by omega) h
        exact ⟨mono a, by omega, by omega⟩
/-- while the law types: its flag, how many steps are done, its plane -/
def RI (f : SP) (z : Z) (t B K H : Int) (n : Nat) (s : Z × (Int → Int)) (dn : Int) (gs : Bool) : Prop :=
  (gs = true → dn = n ∧ zRnF (rN f 7) t (7 - n) n s = zRnF (rN f 7) t 7 0 (z, fun _ => 0)) ∧ (gs = false → zRnF (rN f 7) t 7 0 (z, fun _ => 0) = (s, dn)) ∧ LQ s.1 10000 (B + n) K ∧ 0 ≤ s.1 0 ∧ s.1 0 ≤ H + 2 * n
theorem RI_step {f : SP} {z : Z} {t B K H : Int} {n : Nat} {s s2 : Z × (Int → Int)} {dn dn2 kd k b : Int} {gs gs2 : Bool} (h : RI f z t B K H n s dn gs) (hn : n < 7) (hf : f n = (sgn kd, k, b)) (hkd : 0 ≤ kd ∧ kd < 6) (hk : 0 ≤ k ∧ k < 16) (hb : b = 0 ∨ b = 1) (ht : 0 ≤ t ∧ t < 6) (hB : B + 32 ≤ 1000000) (hK2 : K ≤ 512) (hH : H ≤ 9000)
    (hs : ((gs = true ∧ mayL kd k t s.1) ∧ gs2 = true ∧ dn2 = dn + 1 ∧ s2 = doL kd k b s) ∨ (¬ (gs = true ∧ mayL kd k t s.1) ∧ gs2 = false ∧ dn2 = dn ∧ s2 = s)) : RI f z t B K H (n + 1) s2 dn2 gs2 := by
  obtain ⟨h1, h2, h3, h4, h5⟩ := h
  have me := may_e (e := 7) hf hkd hk hb ht ⟨h4, by omega⟩ h3.k
  have mono : LQ s.1 10000 (B + n) K → LQ s.1 10000 (B + ((n + 1 : Nat) : Int)) K := fun w => by
    obtain ⟨a1, a2, a3, a4, P, r, c⟩ := w
    exact ⟨a1, a2, a3, a4, P, RR_mono (by omega) (by omega) (Int.le_refl _) hK2 r, c⟩
  have step : gs = true → zRnF (rN f 7) t (7 - n) n s = if zMay (rN f 7) s.1 n t = true then zRnF (rN f 7) t (7 - (n + 1)) ((n + 1 : Nat) : Int) (zDo (rN f 7) n s) else (s, (n : Int)) := fun _ => by
    rw [show 7 - n = (7 - (n + 1)) + 1 by omega, zRnF, rN_8]
    by_cases q : zMay (rN f 7) s.1 n t = true
    · rw [if_pos ⟨by omega, q⟩, if_pos q, show ((n + 1 : Nat) : Int) = (n : Int) + 1 by omega]
    · rw [if_neg (fun w => q w.2), if_neg q]
  rcases hs with ⟨⟨g, m⟩, rfl, rfl, rfl⟩ | ⟨g, rfl, rfl, rfl⟩
  · obtain ⟨a, b1⟩ := h1 g
    obtain ⟨l1, l2, l3⟩ := LQ_do (B := B + n) hkd hk hb ht.1 (by omega) hK2 ⟨h4, by omega⟩ m h3
    refine ⟨fun _ => ⟨by omega, ?_⟩, fun q => (by cases q), by rw [show B + ((n + 1 : Nat) : Int) = B + (n : Int) + 1 by omega]; exact l1, l2, by omega⟩
    rw [← b1, step g, if_pos (me.mpr m), do_e hkd hf]
  · refine ⟨fun q => (by cases q), fun _ => ?_, mono h3, h4, by omega⟩
    cases hg : gs
    · exact h2 hg
    · obtain ⟨a, b1⟩ := h1 hg
      rw [← b1, step hg, if_neg (fun w => g ⟨hg, me.mp w⟩), a]
theorem RI_end {f : SP} {z : Z} {t B K H : Int} {s : Z × (Int → Int)} {dn : Int} {gs : Bool} (h : RI f z t B K H 7 s dn gs) : zRnF (rN f 7) t 7 0 (z, fun _ => 0) = (s, dn) := by
  cases hg : gs
  · exact h.2.1 hg
  · obtain ⟨a, b⟩ := h.1 hg
    rw [← b, a]
    rfl
theorem ct_L_letters {G : GX} {sh : List SH} {p : Bool} (V : EV G sh) (E : EW G sh) (hs : LA sh p) {m : Mem} {k : Int} {s : Int} {b : Int} (h1 : 0 ≤ k ∧ k < 16) (h2 : s = 98 ∨ s = 116 ∨ s = 114 ∨ s = 119) (h3 : b = 0 ∨ b = 1) (h4 : 0 ≤ m 195 0 ∧ m 195 0 ≤ 55) : CT G sh iL_letters 0 0 [.inr (.ref 0), .inl k, .inl s, .inl b] (m) (some (.inl (bI true))) (tPs m (lts s k b)) := by
  have hc := cr_b h1
  refine j_met (L0 := [some (.inr (.ref 0)), some (.inl k), some (.inl s), some (.inl b), none]) (by decide) E.1 E.2 rfl (Nat.le_of_ble_eq_true rfl) ?_
  refine j_iload1 (q := 1) dL_letters_0 rfl ?_
  refine j_callS1 (Mc := iL_core) (q := 4) (c' := 0) (s' := 0) dL_letters_1 rfl kS_L_core jw_438 ⟨by decide, by decide⟩ rfl (Nat.le_refl _) (Nat.le_refl _) (ct_L_core E hs h1) ?_
  refine j_istore4 (q := 6) dL_letters_4 rfl rfl (by decide) ?_
  refine j_iload2 (q := 7) dL_letters_6 rfl ?_
  refine j_bipush (q := 9) dL_letters_7 rfl rfl ?_
  refine j_icmp_ne (tgt := 27) (q := 12) dL_letters_9 (by decide) rfl (by first | exact wr_id' (by omega) (by omega) | with_reducible exact wr_bI _ | exact rfl) (by first | exact wr_id' (by omega) (by omega) | with_reducible exact wr_bI _ | exact rfl) (fun h9 => ?_) (fun h9 => ?_)
  · refine j_iload2 (q := 28) dL_letters_27 rfl ?_
    refine j_bipush (q := 30) dL_letters_28 rfl rfl ?_
    refine j_icmp_ne (tgt := 59) (q := 33) dL_letters_30 (by decide) rfl (by first | exact wr_id' (by omega) (by omega) | with_reducible exact wr_bI _ | exact rfl) (by first | exact wr_id' (by omega) (by omega) | with_reducible exact wr_bI _ | exact rfl) (fun h30 => ?_) (fun h30 => ?_)
    · refine j_aload0 (q := 60) dL_letters_59 rfl ?_
      refine j_iload2 (q := 61) dL_letters_60 rfl ?_
      refine j_callV1 (Mc := iX7_append) (q := 64) (c' := 0) (s' := 0) dL_letters_61 rfl kV_X7_append jw_824 ⟨by decide, by decide⟩ (V.2.2 _ _ sh_0) rfl rfl rfl (Nat.le_refl _) (Nat.le_refl _) (ct_X7_append V (by omega) (by omega) (by omega) (by omega)) ?_
      refine j_if_le (tgt := 127) (q := 67) dL_letters_64 (by decide) rfl (by first | exact wr_id' (by omega) (by omega) | with_reducible exact wr_bI _ | exact rfl) (fun h64 => ?_) (fun h64 => ?_)
      · omega
      · have l1 : tPut m s 195 0 = m 195 0 + 1 := tp_len
        refine j_aload0 (q := 68) dL_letters_67 rfl ?_
        refine j_bipush (q := 70) dL_letters_68 rfl rfl ?_
        refine j_iload4 (q := 72) dL_letters_70 rfl ?_
        refine j_bipush (q := 74) dL_letters_72 rfl rfl ?_
        refine j_idivP (q := 75) dL_letters_74 rfl (by first | exact wr_id' (by omega) (by omega) | with_reducible exact wr_bI _ | exact rfl) (by first | exact wr_id' (by omega) (by omega) | with_reducible exact wr_bI _ | exact rfl) (by omega) (by omega) ?_
        refine j_iadd (q := 76) dL_letters_75 rfl ?_
        refine j_callV1 (Mc := iX7_append) (q := 79) (c' := 0) (s' := 0) dL_letters_76 rfl kV_X7_append jw_824 ⟨by decide, by decide⟩ (V.2.2 _ _ sh_0) rfl rfl rfl (Nat.le_refl _) (Nat.le_refl _) (ct_X7_append V (by omega) (by omega) (by omega) (by omega)) ?_
        refine j_if_le (tgt := 127) (q := 82) dL_letters_79 (by decide) rfl (by first | exact wr_id' (by omega) (by omega) | with_reducible exact wr_bI _ | exact rfl) (fun h79 => ?_) (fun h79 => ?_)
        · omega
        · have l2 : tPut (tPut m s) (48 + cr k / 8) 195 0 = tPut m s 195 0 + 1 := tp_len
          refine j_aload0 (q := 83) dL_letters_82 rfl ?_
          refine j_bipush (q := 85) dL_letters_83 rfl rfl ?_
          refine j_iload4 (q := 87) dL_letters_85 rfl ?_
          refine j_bipush (q := 89) dL_letters_87 rfl rfl ?_
          refine j_iremP (q := 90) dL_letters_89 rfl (by first | exact wr_id' (by omega) (by omega) | with_reducible exact wr_bI _ | exact rfl) (by first | exact wr_id' (by omega) (by omega) | with_reducible exact wr_bI _ | exact rfl) (by omega) (by omega) ?_
          refine j_iadd (q := 91) dL_letters_90 rfl ?_
          refine j_callV1 (Mc := iX7_append) (q := 94) (c' := 0) (s' := 0) dL_letters_91 rfl kV_X7_append jw_824 ⟨by decide, by decide⟩ (V.2.2 _ _ sh_0) rfl rfl rfl (Nat.le_refl _) (Nat.le_refl _) (ct_X7_append V (by omega) (by omega) (by omega) (by omega)) ?_
          refine j_if_le (tgt := 127) (q := 97) dL_letters_94 (by decide) rfl (by first | exact wr_id' (by omega) (by omega) | with_reducible exact wr_bI _ | exact rfl) (fun h94 => ?_) (fun h94 => ?_)
          · omega
          · have l3 : tPut (tPut (tPut m s) (48 + cr k / 8)) (48 + cr k % 8) 195 0 = tPut (tPut m s) (48 + cr k / 8) 195 0 + 1 := tp_len
            refine j_iload2 (q := 98) dL_letters_97 rfl ?_
            refine j_bipush (q := 100) dL_letters_98 rfl rfl ?_
            refine j_icmp_eq (tgt := 123) (q := 103) dL_letters_100 (by decide) rfl (by first | exact wr_id' (by omega) (by omega) | with_reducible exact wr_bI _ | exact rfl) (by first | exact wr_id' (by omega) (by omega) | with_reducible exact wr_bI _ | exact rfl) (fun h100 => ?_) (fun h100 => ?_)
            · refine j_iconst (q := 124) dL_letters_123 rfl ?_
              refine j_goto (tgt := 128) dL_letters_124 (by decide) ?_
              exact j_zreturn dL_letters_128 rfl (by decide) (rfl) (by first | (rw [lts_r (by omega)]; rfl) | (rw [lts_w (by omega)]; rfl))
            · refine j_aload0 (q := 104) dL_letters_103 rfl ?_
              refine j_bipush (q := 106) dL_letters_104 rfl rfl ?_
              refine j_callV1 (Mc := iX7_append) (q := 109) (c' := 0) (s' := 0) dL_letters_106 rfl kV_X7_append jw_824 ⟨by decide, by decide⟩ (V.2.2 _ _ sh_0) rfl rfl rfl (Nat.le_refl _) (Nat.le_refl _) (ct_X7_append V (by omega) (by omega) (by omega) (by omega)) ?_
              refine j_if_le (tgt := 127) (q := 112) dL_letters_109 (by decide) rfl (by first | exact wr_id' (by omega) (by omega) | with_reducible exact wr_bI _ | exact rfl) (fun h109 => ?_) (fun h109 => ?_)
              · omega
              · have l4 : tPut (tPut (tPut (tPut m s) (48 + cr k / 8)) (48 + cr k % 8)) 61 195 0 = tPut (tPut (tPut m s) (48 + cr k / 8)) (48 + cr k % 8) 195 0 + 1 := tp_len
                refine j_aload0 (q := 113) dL_letters_112 rfl ?_
                refine j_bipush (q := 115) dL_letters_113 rfl rfl ?_
                refine j_iload3 (q := 116) dL_letters_115 rfl ?_
                refine j_iadd (q := 117) dL_letters_116 rfl ?_
                refine j_callV1 (Mc := iX7_append) (q := 120) (c' := 0) (s' := 0) dL_letters_117 rfl kV_X7_append jw_824 ⟨by decide, by decide⟩ (V.2.2 _ _ sh_0) rfl rfl rfl (Nat.le_refl _) (Nat.le_refl _) (ct_X7_append V (by omega) (by omega) (by omega) (by omega)) ?_
                refine j_if_le (tgt := 127) (q := 123) dL_letters_120 (by decide) rfl (by first | exact wr_id' (by omega) (by omega) | with_reducible exact wr_bI _ | exact rfl) (fun h120 => ?_) (fun h120 => ?_)
                · omega
                · refine j_iconst (q := 124) dL_letters_123 rfl ?_
                  refine j_goto (tgt := 128) dL_letters_124 (by decide) ?_
                  exact j_zreturn dL_letters_128 rfl (by decide) (rfl) (by first | (rw [lts_r (by omega)]; rfl) | (rw [lts_w (by omega)]; rfl))
    · refine j_aload0 (q := 34) dL_letters_33 rfl ?_
      refine j_bipush (q := 36) dL_letters_34 rfl rfl ?_
      refine j_callV1 (Mc := iX7_append) (q := 39) (c' := 0) (s' := 0) dL_letters_36 rfl kV_X7_append jw_824 ⟨by decide, by decide⟩ (V.2.2 _ _ sh_0) rfl rfl rfl (Nat.le_refl _) (Nat.le_refl _) (ct_X7_append V (by omega) (by omega) (by omega) (by omega)) ?_
      refine j_if_le (tgt := 57) (q := 42) dL_letters_39 (by decide) rfl (by first | exact wr_id' (by omega) (by omega) | with_reducible exact wr_bI _ | exact rfl) (fun h39 => ?_) (fun h39 => ?_)
      · omega
      · have l1 : tPut m 116 195 0 = m 195 0 + 1 := tp_len
        refine j_aload0 (q := 43) dL_letters_42 rfl ?_
        refine j_bipush (q := 45) dL_letters_43 rfl rfl ?_
        refine j_iload3 (q := 46) dL_letters_45 rfl ?_
        refine j_iadd (q := 47) dL_letters_46 rfl ?_
        refine j_callV1 (Mc := iX7_append) (q := 50) (c' := 0) (s' := 0) dL_letters_47 rfl kV_X7_append jw_824 ⟨by decide, by decide⟩ (V.2.2 _ _ sh_0) rfl rfl rfl (Nat.le_refl _) (Nat.le_refl _) (ct_X7_append V (by omega) (by omega) (by omega) (by omega)) ?_
        refine j_if_le (tgt := 57) (q := 53) dL_letters_50 (by decide) rfl (by first | exact wr_id' (by omega) (by omega) | with_reducible exact wr_bI _ | exact rfl) (fun h50 => ?_) (fun h50 => ?_)
        · omega
        · refine j_iconst (q := 54) dL_letters_53 rfl ?_
          refine j_goto (tgt := 58) dL_letters_54 (by decide) ?_
          exact j_zreturn dL_letters_58 rfl (by decide) (rfl) (by rw [lts_t (by omega), show s = 116 by omega]; rfl)
  · refine j_aload0 (q := 13) dL_letters_12 rfl ?_
    refine j_bipush (q := 15) dL_letters_13 rfl rfl ?_
    refine j_callV1 (Mc := iX7_append) (q := 18) (c' := 0) (s' := 0) dL_letters_15 rfl kV_X7_append jw_824 ⟨by decide, by decide⟩ (V.2.2 _ _ sh_0) rfl rfl rfl (Nat.le_refl _) (Nat.le_refl _) (ct_X7_append V (by omega) (by omega) (by omega) (by omega)) ?_
    refine j_if_le (tgt := 25) (q := 21) dL_letters_18 (by decide) rfl (by first | exact wr_id' (by omega) (by omega) | with_reducible exact wr_bI _ | exact rfl) (fun h18 => ?_) (fun h18 => ?_)
    · omega
    · refine j_iconst (q := 22) dL_letters_21 rfl ?_
      refine j_goto (tgt := 26) dL_letters_22 (by decide) ?_
      exact j_zreturn dL_letters_26 rfl (by decide) (rfl) (by rw [lts_b (by omega), show s = 98 by omega]; rfl)

/-! plain mathematics: the row's ranges; pulses -/
def IZ (z : Z) (T B : Int) : Prop :=
  (0 ≤ z 0 ∧ z 0 ≤ T) ∧
  (T ≤ 20000) ∧
  (0 ≤ z 1 ∧ z 1 ≤ 100) ∧
  (∀ s : Int, 0 ≤ s → s < 8 → 0 ≤ z (15 + s) ∧ z (15 + s) ≤ 100) ∧
  (∀ c : Int, 0 ≤ c → c < 64 → 0 ≤ z (59 + 9 * c + 1) ∧ z (59 + 9 * c + 1) ≤ 100) ∧
  (∀ c : Int, 0 ≤ c → c < 64 → 0 ≤ z (59 + 9 * c + 2) ∧ z (59 + 9 * c + 2) ≤ z 2) ∧
  (∀ c : Int, 0 ≤ c → c < 64 → 0 < z (59 + 9 * c + 2) → 1 ≤ z (59 + 9 * c + 3) ∧ z (59 + 9 * c + 3) ≤ 200) ∧
  (∀ c : Int, 0 ≤ c → c < 64 → 0 ≤ z (59 + 9 * c + 4) ∧ z (59 + 9 * c + 4) ≤ z 3) ∧
  (∀ c : Int, 0 ≤ c → c < 64 → 0 < z (59 + 9 * c + 4) → 0 < z (59 + 9 * c + 2) ∧ 1 ≤ z (59 + 9 * c + 5) ∧ z (59 + 9 * c + 5) ≤ z (59 + 9 * c + 3)) ∧
  (∀ c : Int, 0 ≤ c → c < 64 → 0 ≤ z (59 + 9 * c + 6) ∧ z (59 + 9 * c + 6) ≤ T + 101) ∧
  (∀ c : Int, 0 ≤ c → c < 64 → 0 < z (59 + 9 * c + 6) → 0 < z (59 + 9 * c + 2) ∧ z (59 + 9 * c) = 0 ∧ 0 ≤ z (59 + 9 * c + 7) ∧ z (59 + 9 * c + 7) < z 14) ∧
  (∀ a b : Int, 0 ≤ a → a < 64 → 0 ≤ b → b < 64 → 0 < z (59 + 9 * a + 6) → 0 < z (59 + 9 * b + 6) → z (59 + 9 * a + 7) = z (59 + 9 * b + 7) → a = b) ∧
  (0 ≤ z 14 ∧ z 14 ≤ B) ∧
  (B ≤ 1000000) ∧
  (0 ≤ z 6 ∧ z 6 + zOwN z ≤ z 5 ∧ z 5 ≤ B)
theorem IZ.t0 {z : Z} {T B : Int} (h : IZ z T B) : 0 ≤ z 0 ∧ z 0 ≤ T := h.1
theorem IZ.tT {z : Z} {T B : Int} (h : IZ z T B) : T ≤ 20000 := h.2.1
theorem IZ.ht {z : Z} {T B : Int} (h : IZ z T B) : 0 ≤ z 1 ∧ z 1 ≤ 100 := h.2.2.1
theorem IZ.st {z : Z} {T B : Int} (h : IZ z T B) : ∀ s : Int, 0 ≤ s → s < 8 → 0 ≤ z (15 + s) ∧ z (15 + s) ≤ 100 := h.2.2.2.1
theorem IZ.sg {z : Z} {T B : Int} (h : IZ z T B) : ∀ c : Int, 0 ≤ c → c < 64 → 0 ≤ z (59 + 9 * c + 1) ∧ z (59 + 9 * c + 1) ≤ 100 := h.2.2.2.2.1
theorem IZ.wh {z : Z} {T B : Int} (h : IZ z T B) : ∀ c : Int, 0 ≤ c → c < 64 → 0 ≤ z (59 + 9 * c + 2) ∧ z (59 + 9 * c + 2) ≤ z 2 := h.2.2.2.2.2.1
theorem IZ.le {z : Z} {T B : Int} (h : IZ z T B) : ∀ c : Int, 0 ≤ c → c < 64 → 0 < z (59 + 9 * c + 2) → 1 ≤ z (59 + 9 * c + 3) ∧ z (59 + 9 * c + 3) ≤ 200 := h.2.2.2.2.2.2.1
theorem IZ.by_ {z : Z} {T B : Int} (h : IZ z T B) : ∀ c : Int, 0 ≤ c → c < 64 → 0 ≤ z (59 + 9 * c + 4) ∧ z (59 + 9 * c + 4) ≤ z 3 := h.2.2.2.2.2.2.2.1
theorem IZ.po {z : Z} {T B : Int} (h : IZ z T B) : ∀ c : Int, 0 ≤ c → c < 64 → 0 < z (59 + 9 * c + 4) → 0 < z (59 + 9 * c + 2) ∧ 1 ≤ z (59 + 9 * c + 5) ∧ z (59 + 9 * c + 5) ≤ z (59 + 9 * c + 3) := h.2.2.2.2.2.2.2.2.1
theorem IZ.du {z : Z} {T B : Int} (h : IZ z T B) : ∀ c : Int, 0 ≤ c → c < 64 → 0 ≤ z (59 + 9 * c + 6) ∧ z (59 + 9 * c + 6) ≤ T + 101 := h.2.2.2.2.2.2.2.2.2.1
theorem IZ.ow {z : Z} {T B : Int} (h : IZ z T B) : ∀ c : Int, 0 ≤ c → c < 64 → 0 < z (59 + 9 * c + 6) → 0 < z (59 + 9 * c + 2) ∧ z (59 + 9 * c) = 0 ∧ 0 ≤ z (59 + 9 * c + 7) ∧ z (59 + 9 * c + 7) < z 14 := h.2.2.2.2.2.2.2.2.2.2.1
theorem IZ.ds {z : Z} {T B : Int} (h : IZ z T B) : ∀ a b : Int, 0 ≤ a → a < 64 → 0 ≤ b → b < 64 → 0 < z (59 + 9 * a + 6) → 0 < z (59 + 9 * b + 6) → z (59 + 9 * a + 7) = z (59 + 9 * b + 7) → a = b := h.2.2.2.2.2.2.2.2.2.2.2.1
theorem IZ.sb {z : Z} {T B : Int} (h : IZ z T B) : 0 ≤ z 14 ∧ z 14 ≤ B := h.2.2.2.2.2.2.2.2.2.2.2.2.1
theorem IZ.sB {z : Z} {T B : Int} (h : IZ z T B) : B ≤ 1000000 := h.2.2.2.2.2.2.2.2.2.2.2.2.2.1
theorem IZ.bk {z : Z} {T B : Int} (h : IZ z T B) : 0 ≤ z 6 ∧ z 6 + zOwN z ≤ z 5 ∧ z 5 ≤ B := h.2.2.2.2.2.2.2.2.2.2.2.2.2.2
theorem IZ_L {z : Z} {T B : Int} (h : IZ z T B) : IL z := fun c a b => ⟨(h.wh c a b).2, (h.by_ c a b).2⟩
/-- a row whose cells change only in ways that keep the ranges -/
theorem IZ_cg {z y : Z} {T B : Int} (h : IZ z T B) (h1 : ∀ j, j = 0 ∨ j = 2 ∨ j = 3 ∨ j = 5 ∨ j = 6 ∨ j = 14 ∨ (15 ≤ j ∧ j < 23) → y j = z j) (h0 : 0 ≤ y 1 ∧ y 1 ≤ 100)
    (hc : ∀ c, 0 ≤ c → c < 64 → (0 ≤ y (59 + 9 * c + 1) ∧ y (59 + 9 * c + 1) ≤ 100) ∧ y (59 + 9 * c + 2) = z (59 + 9 * c + 2) ∧ y (59 + 9 * c + 3) = z (59 + 9 * c + 3) ∧ (y (59 + 9 * c + 4) = 0 ∨ y (59 + 9 * c + 4) = z (59 + 9 * c + 4) ∧ y (59 + 9 * c + 5) = z (59 + 9 * c + 5)) ∧ y (59 + 9 * c + 6) = z (59 + 9 * c + 6) ∧ y (59 + 9 * c + 7) = z (59 + 9 * c + 7) ∧ (z (59 + 9 * c) = 0 → y (59 + 9 * c) = 0)) : IZ y T B := by
  have e : zOwN y = zOwN z := cnt_cg 64 0 0 (fun c a b => by unfold zOw; rw [(hc c a (by omega)).2.2.2.2.1])
  have f2 := h1 2 (by omega)
  have f3 := h1 3 (by omega)
  have f14 := h1 14 (by omega)
  refine ⟨by rw [h1 0 (by omega)]; exact h.t0, h.tT, h0, fun s a b => by rw [h1 _ (by omega)]; exact h.st s a b, fun c a b => (hc c a b).1, fun c a b => ?_, fun c a b k => ?_, fun c a b => ?_, fun c a b k => ?_, fun c a b => ?_, fun c a b k => ?_, fun a b p q r s k l m => ?_, by rw [f14]; exact h.sb, h.sB, by rw [e, h1 6 (by omega), h1 5 (by omega)]; exact h.bk⟩
  · have := h.wh c a b; have := (hc c a b); omega
  · have q := (hc c a b); rw [q.2.1] at k; have := h.le c a b k; omega
  · have := h.by_ c a b; have := hc c a b; omega
  · have q := hc c a b; have := h.po c a b; have := h.by_ c a b; omega
  · have := h.du c a b; have := hc c a b; omega
  · have q := hc c a b; have := h.ow c a b (by omega); have := q.2.2.2.2.2.2 this.2.1; omega
  · have q1 := hc a p q; have q2 := hc b r s; exact h.ds a b p q r s (by omega) (by omega) (by omega)
theorem zLz_o {z : Z} {c w j : Int} (h : ¬ j = 59 + 9 * c ∧ ¬ j = w - 4) : zLz z c w j = z j := by unfold zLz; rw [u1_ne (by omega), u1_ne (by omega)]
theorem WI_lz {z : Z} {K c w : Int} (hc : 0 ≤ c ∧ c < 64) (hw : w = 11 ∨ w = 12 ∨ w = 13) (h : WI z K) : WI (zLz z c w) K := WI_u1 (by unfold NW; omega) (WI_u1 (by unfold NW; omega) h)
theorem zLz_b {z : Z} {c w : Int} (hc : 0 ≤ c ∧ c < 64) (hw : w = 11 ∨ w = 12 ∨ w = 13) : zLz z c w (59 + 9 * c) = 0 := by unfold zLz; rw [u1_ne (by omega), u1_at]
theorem IZ_lo {z : Z} {T B K c w : Int} (hc : 0 ≤ c ∧ c < 64) (hw : w = 11 ∨ w = 12 ∨ w = 13) (hW : WI z K) (h : IZ z T B) : IZ (zLo (zLz z c w) c) T B := by
  have wz := WI_lz hc hw hW
  have fr : ∀ j, (j < 23 ∨ 59 ≤ j ∧ j < 635 ∧ ¬ j = 59 + 9 * c + 4 ∧ ¬ j = 59 + 9 * c + 5 ∧ ¬ j = 59 + 9 * c + 8) → ¬ j = 59 + 9 * c → ¬ j = w - 4 → zLo (zLz z c w) c j = z j := fun j h1 h2 h3 => by
    rw [zLo_fr2 hc wz h1, zLz_o ⟨h2, h3⟩]
  refine IZ_cg h (fun j hj => fr j (by omega) (by omega) (by omega)) (by rw [fr 1 (by omega) (by omega) (by omega)]; exact h.ht) (fun e a b => ⟨?_, fr _ (by omega) (by omega) (by omega), fr _ (by omega) (by omega) (by omega), ?_, fr _ (by omega) (by omega) (by omega), fr _ (by omega) (by omega) (by omega), ?_⟩)
  · rw [fr _ (by omega) (by omega) (by omega)]; exact h.sg e a b
  · by_cases q : e = c
    · subst q
      rcases zLo_4 hc wz with r | ⟨r1, r2⟩
      · exact .inl r
      · right; rw [r1, r2, zLz_o (by omega), zLz_o (by omega)]; exact ⟨rfl, rfl⟩
    · right; exact ⟨fr _ (by omega) (by omega) (by omega), fr _ (by omega) (by omega) (by omega)⟩
  · intro k
    by_cases q : e = c
    · subst q; rw [zLo_fr2 hc wz (by omega)]; exact zLz_b hc hw
    · rw [fr _ (by omega) (by omega) (by omega)]; exact k
theorem cMx_nb {x : Int} (h : -2147483648 ≤ x ∧ x < 2147483648) : cMx 0 x = zNB x := by
  unfold cMx zNB
  rw [wr_id' (x := x) h.1 h.2, wr_id' (x := 0) (by omega) (by omega)]
  by_cases q : 0 < x
  · rw [if_pos q, if_neg (by omega)]
  · by_cases q2 : x < 0
    · rw [if_neg q, if_pos q2]
    · rw [if_neg q, if_neg q2]; omega
theorem zNB_e {x : Int} (h : -2147483648 ≤ x ∧ x < 2147483648) : zNB x = if x < 0 then 0 else x := by
  unfold zNB; rw [wr_id' h.1 h.2]
theorem cMn_le {x : Int} (h : -2147483648 ≤ x ∧ x < 2147483648) : cMn 100 x = zLess 100 x := by
  unfold cMn zLess
  rw [wr_id' (x := x) h.1 h.2, wr_id' (x := 100) (by omega) (by omega)]
  by_cases q : x < 100
  · rw [if_pos q, if_neg (by omega)]
  · by_cases q2 : 100 < x
    · rw [if_neg q, if_pos q2]
    · rw [if_neg q, if_neg q2]; omega
theorem zLess_e {x : Int} (h : -2147483648 ≤ x ∧ x < 2147483648) : zLess 100 x = if 100 < x then 100 else x := by
  unfold zLess; rw [wr_id' h.1 h.2, wr_id' (x := 100) (by omega) (by omega)]
theorem td25 {x : Int} (h : 0 ≤ x ∧ x ≤ 100) : x.tdiv 25 = x / 25 := Int.tdiv_eq_ediv_of_nonneg h.1
theorem worn_e {z : Z} {T B c : Int} (hc : 0 ≤ c ∧ c < 64) (h : IZ z T B) : (-2147483648 ≤ z (59 + 9 * c + 1) - 1 - (wr (z 1)).tdiv 25 ∧ z (59 + 9 * c + 1) - 1 - (wr (z 1)).tdiv 25 < 2147483648) ∧ 0 ≤ zWorn z c ∧ zWorn z c ≤ 100 := by
  have h1 := h.ht
  have h2 := h.sg c hc.1 hc.2
  have e : (wr (z 1)).tdiv 25 = z 1 / 25 := by rw [wr_id' (by omega) (by omega)]; exact td25 h1
  unfold zWorn
  rw [e]
  have r : -2147483648 ≤ z (59 + 9 * c + 1) - 1 - z 1 / 25 ∧ z (59 + 9 * c + 1) - 1 - z 1 / 25 < 2147483648 := by omega
  refine ⟨r, ?_⟩
  rw [zNB_e r]
  split <;> omega
theorem sbp_e {P : Mem} {z : Z} {dl : Int → Int} {T B c : Int} (hc : 0 ≤ c ∧ c < 64) (hR : RC P z dl) (h : IZ z T B) : cSbp P c = zWorn z c := by
  have r := (worn_e hc h).1
  unfold cSbp zWorn
  rw [hR.sg c hc.1 hc.2, hR.ht]
  exact cMx_nb r
theorem heat_e {z : Z} {T B b : Int} (hb : 0 ≤ b ∧ b ≤ 1000) (h : IZ z T B) : 0 ≤ zHeat z b ∧ zHeat z b ≤ 100 := by
  have := h.ht
  unfold zHeat
  rw [zLess_e (by omega)]
  split <;> omega
theorem hb_e {P : Mem} {z : Z} {dl : Int → Int} {T B b : Int} (hb : 0 ≤ b ∧ b ≤ 1000) (hR : RC P z dl) (h : IZ z T B) : cHb P b = zHeat z b := by
  have := h.ht
  unfold cHb zHeat
  rw [hR.ht]
  exact cMn_le (by omega)
theorem zPd_z {z : Z} {c : Int} (hc : 0 ≤ c ∧ c < 64) : zPd z c = zLz z c 13 := by
  unfold zPd zLz
  rw [Int.add_zero, u1_ne (by omega)]; rfl
theorem R_puF {x : Int64} {k T B K : Int} {dl : Int → Int} : ∀ (d : Nat) (c : Int) (P : Mem) (z : Z), c + d = 64 → 0 ≤ c → RC P z dl → RQ P z → CV P → WI z K → IZ z T B → (∀ e, c ≤ e → e < 64 → tb x e = (zLin k e && zWk z e)) →
    RC (cPuF x d c P) (zPuF k d c z) dl ∧ RQ (cPuF x d c P) (zPuF k d c z) ∧ IZ (zPuF k d c z) T B := by
  intro d
  induction d with
  | zero => intro c P z h1 h2 h3 h4 h5 h6 h7 h8; exact ⟨h3, h4, h7⟩
  | succ d ih =>
    intro c P z h1 h2 h3 h4 h5 h6 h7 h8
    have hc : 0 ≤ c ∧ c < 64 := by omega
    have hb := h8 c (by omega) (by omega)
    rw [zPuF, cPuF]
    by_cases q : (zLin k c && zWk z c) = true
    · have q' : tb x c = true := by rw [hb]; exact q
      have hx : ¬ x = 0 := fun e => by rw [e, tb_0] at q'; cases q'
      rw [if_neg hx, if_pos q', if_pos q, zPd_z hc]
      obtain ⟨r1, r2⟩ := R_lo (w := 13) hc (by omega) h3 h4 h5 h6 (IZ_L h7)
      have wz := WI_lz (w := 13) hc (by omega) h6
      refine ih (c + 1) _ _ (by omega) (by omega) r1 r2 (CV_lo hc h5) (WI_lo hc wz) (IZ_lo hc (by omega) h6 h7) (fun e a b => ?_)
      rw [h8 e (by omega) b]
      unfold zWk
      rw [zLo_fr2 hc wz (by omega), zLo_fr2 hc wz (by omega), zLo_fr2 hc wz (by omega), zLz_o (by omega), zLz_o (by omega), zLz_o (by omega)]
    · have q' : ¬ tb x c = true := by rw [hb]; exact q
      rw [if_neg q', if_neg q]
      by_cases hx : x = 0
      · rw [if_pos hx]
        have := ih (c + 1) P z (by omega) (by omega) h3 h4 h5 h6 h7 (fun e a b => h8 e (by omega) b)
        have e0 : cPuF x d (c + 1) P = P := by
          cases d with
          | zero => rfl
          | succ d => rw [cPuF, if_pos hx]
        rw [e0] at this
        exact this
      · rw [if_neg hx]
        exact ih (c + 1) P z (by omega) (by omega) h3 h4 h5 h6 h7 (fun e a b => h8 e (by omega) b)
theorem fr_tb {P : Mem} {z : Z} {dl : Int → Int} {e : Int} (he : 0 ≤ e ∧ e < 64) (h : RC P z dl) : tb (cFr P) e = zWk z e := by
  have h1 := h.bit e he.1 he.2
  have h2 := h.sg e he.1 he.2
  have h3 := h.st 5 (by decide) (by decide)
  unfold cFr cBel zWk
  rw [tb_k he, h2, h3, Int.add_zero, ← h1, wr_bI]
  cases cOne P e <;> simp [bI]
theorem R_pul {P : Mem} {z : Z} {dl : Int → Int} {k h b T B K : Int} (hk : 0 ≤ k ∧ k < 64) (hh : h = b) (hb : 0 ≤ b ∧ b ≤ 1000) (hR : RC P z dl) (hq : RQ P z) (hV : CV P) (hW : WI z K) (hI : IZ z T B) :
    RC (cPul P k h) (zPul z k b) dl ∧ RQ (cPul P k h) (zPul z k b) ∧ IZ (zPul z k b) T B := by
  subst hh
  have w := worn_e hk hI
  have R1 : RC (cPul1 P k) (u1 z (59 + 9 * k + 1) (zWorn z k)) dl := by
    unfold cPul1
    rw [sbp_e hk hR hI]
    exact RC_str hR hk
  have W1 : WI (u1 z (59 + 9 * k + 1) (zWorn z k)) K := WI_u1 (by unfold NW; omega) hW
  have V1 : CV (cPul1 P k) := CV_up (by unfold NV; omega) hV
  have Q1 : RQ (cPul1 P k) (u1 z (59 + 9 * k + 1) (zWorn z k)) := RQ_cg hq (by funext x; exact up_ne (by omega)) (up_ne (by omega)) (fun j hj => u1_ne (by omega))
  have I1 : IZ (u1 z (59 + 9 * k + 1) (zWorn z k)) T B := by
    refine IZ_cg hI (fun j hj => u1_ne (by omega)) (by rw [u1_ne (by omega)]; exact hI.ht) (fun c a b => ⟨?_, u1_ne (by omega), u1_ne (by omega), .inr ⟨u1_ne (by omega), u1_ne (by omega)⟩, u1_ne (by omega), u1_ne (by omega), fun q => by rw [u1_ne (by omega)]; exact q⟩)
    by_cases q : c = k
    · subst q; rw [u1_at]; exact w.2
    · rw [u1_ne (by omega)]; exact hI.sg c a b
  obtain ⟨r1, r2, r3⟩ := R_puF (x := cFr (cPul1 P k) &&& lin k) (k := k) 64 0 _ _ (by omega) (by omega) R1 Q1 V1 W1 I1 (fun e a b => by
    rw [tb_and ⟨a, b⟩, tb_lin hk ⟨a, b⟩, fr_tb ⟨a, b⟩ R1, Bool.and_comm])
  have hh := heat_e hb r3
  refine ⟨?_, ?_, ?_⟩
  · unfold cPul zPul cPulL
    rw [hb_e hb r1 r3]
    exact RC_heat r1
  · unfold cPul zPul cPulL
    exact RQ_cg r2 (by funext x; exact up_ne (by omega)) (up_ne (by omega)) (fun j hj => u1_ne (by omega))
  · unfold zPul
    refine IZ_cg r3 (fun j hj => u1_ne (by omega)) (by rw [u1_at]; exact hh) (fun c a b => ⟨by rw [u1_ne (by omega)]; exact r3.sg c a b, u1_ne (by omega), u1_ne (by omega), .inr ⟨u1_ne (by omega), u1_ne (by omega)⟩, u1_ne (by omega), u1_ne (by omega), fun q => by rw [u1_ne (by omega)]; exact q⟩)

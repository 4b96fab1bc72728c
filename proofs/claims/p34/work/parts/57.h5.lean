/-! plain mathematics: passing, programs -/
theorem zTkN_due {K e : Int} (he : 0 ≤ e ∧ e < 64) : ∀ (d : Nat) (s : Z × (Int → Int)), WI s.1 K → (zTkN d s).1 (59 + 9 * e + 6) = s.1 (59 + 9 * e + 6) ∨ (zTkN d s).1 (59 + 9 * e + 6) = 0 := by
  intro d
  induction d with
  | zero => intro s h; exact .inl rfl
  | succ d ih =>
    intro s h
    rw [zTkN]
    have h1 := zTk_due (o := s.2) h he
    have w : WI (zTk s.1 s.2, zOrd (zTk0 s.1) s.2).1 K := by dsimp only; exact WI_tk h
    have h2 := ih (zTk s.1 s.2, zOrd (zTk0 s.1) s.2) w
    dsimp only at h2
    omega
theorem R_pass {P : Mem} {s : Z × (Int → Int)} {T B K : Int} {d : Nat} (hT : T + d ≤ 20000) (hz : s.1 0 + d ≤ T) (h : RR P s.1 T B K) : RR (cTkN d P) (zTkN d s).1 T B K := by
  have h1 := R_tkN d P s hT h
  obtain ⟨hR, hQ, hD, hV, hW, hI⟩ := h1
  have e0 := hR.t0
  rw [cTkN_0, h.1.t0] at e0
  refine ⟨hR, hQ, hD, hV, hW, ?_⟩
  obtain ⟨b1, b2, b3, b4, b5, b6, b7, b8, b9, b10, b11⟩ := hI
  refine ⟨by omega, by omega, b3, b4, b5, b6, b7, b8, b9, fun c a b => ?_, b11⟩
  have x := b10 c a b
  have y := h.2.2.2.2.2.du c a b
  have w := zTkN_due (K := K) ⟨a, b⟩ d s h.2.2.2.2.1
  have t := h.2.2.2.2.2.t0
  omega
theorem on_e {m P : Mem} {z : Z} {dl : Int → Int} {K t p : Int} (hc : 0 ≤ tK m (p + 1) ∧ tK m (p + 1) < 64) (ht : 0 ≤ t ∧ t < 6) (h : RC P z dl) (hW : WI z K) : cOn m P t p = decide (wr (z (59 + 9 * tK m (p + 1) + 2)) = t + 1) := by
  have h1 := h.wh _ hc.1 hc.2
  have h2 := hW.2.2.2.1 _ hc.1 hc.2
  unfold cOn
  rw [wi_t ⟨hc.1, by omega⟩, wr_id' (x := P 5 _) (by omega) (by omega), wr_id' (x := t) (by omega) (by omega), wr_id' (x := z _) (by omega) (by omega), Bool.true_and, decide_eq_decide]
  omega
theorem q_may {m N P : Mem} {z : Z} {T B K t n p : Int} (ht : 0 ≤ t ∧ t < 6) (hE : EN m N n p) (h : RR P z T B K) : cMay m P t p = zMay N z n t := by
  have h' := h
  obtain ⟨hR, hQ, hD, hV, hW, hI⟩ := h
  obtain ⟨⟨c1, c2⟩, hE⟩ := hE
  have it := hI.t0
  have iT := hI.tT
  unfold cMay zMay
  rcases hE with ⟨e1, e2, e3⟩ | ⟨e1, e2, e3, _, _⟩ | ⟨e1, e2⟩ | ⟨e1, e2, e3⟩
  · rw [e1, e2, if_neg (by decide), if_pos rfl, if_pos (by decide), on_e (by omega) ht hR hW, ← e3, cCR_z c1 h']
  · rw [e1, e2, if_neg (by decide), if_neg (by decide), if_pos rfl, if_neg (by decide), if_pos (by decide), on_e (by omega) ht hR hW, ← e3]
  · rw [e1, e2, if_pos rfl, if_neg (by decide), if_neg (by decide), if_pos (by decide)]
    have b := zOw_b z
    rw [(RD_ord hD hI hV (fun _ => 0)).2, wr_id' (by omega) (by omega)]
  · rw [e1, e2, if_neg (by decide), if_neg (by decide), if_neg (by decide), if_neg (by decide), if_neg (by decide), if_neg (by decide), ← e3, hR.t0, wr_id' (by omega) (by omega)]
theorem R_do {m N P : Mem} {s : Z × (Int → Int)} {B K t n p : Int} (hB : B + 1 ≤ 1000000) (hE : EN m N n p) (hm : zMay N s.1 n t = true) (h : RR P s.1 10000 B K) (hX : CX P) : RR (cDo m p P) (zDo N n s).1 10000 (B + 1) K ∧ CX (cDo m p P) := by
  have hV := h.2.2.2.1
  have hI := h.2.2.2.2.2
  have hK := h.2.2.2.2.1.2.2.2.2.2.2
  obtain ⟨⟨c1, c2⟩, hE⟩ := hE
  have it := hI.t0
  unfold cDo zDo
  unfold zMay at hm
  rcases hE with ⟨e1, e2, e3⟩ | ⟨e1, e2, e3, e4, e5⟩ | ⟨e1, e2⟩ | ⟨e1, e2, e3⟩
  · rw [e2, if_pos (by decide)] at hm
    rw [e1, e2, if_neg (by decide), if_pos rfl, if_pos (by decide), ← e3]
    exact ⟨R_rd c1 (Bool.and_eq_true_iff.mp hm).2 hB h, CX_rd hV hX⟩
  · rw [e1, e2, if_neg (by decide), if_neg (by decide), if_pos rfl, if_neg (by decide), if_pos (by decide), ← e3]
    have eb : N 204 n = bI (decide (tC m (p + 4) = 49)) := by
      by_cases q : tC m (p + 4) = 49
      · rw [decide_eq_true q, bI_tt]; omega
      · rw [decide_eq_false q, bI_ff]; omega
    dsimp only
    rw [eb]
    exact ⟨RR_mono (by omega) hB (Int.le_refl _) hK (R_wb c1 h), CX_wb hV hX⟩
  · rw [e2, if_neg (by decide), if_neg (by decide), if_pos (by decide)] at hm
    rw [e1, e2, if_pos rfl, if_neg (by decide), if_neg (by decide), if_pos (by decide)]
    have hm := of_decide_eq_true hm
    have b := zOw_b s.1
    rw [wr_id' (by omega) (by omega)] at hm
    exact ⟨RR_mono (by omega) hB (Int.le_refl _) hK (R_fb s.2 hm h).1, CX_fb hV hX⟩
  · rw [e2, if_neg (by decide), if_neg (by decide), if_neg (by decide)] at hm
    rw [e1, e2, if_neg (by decide), if_neg (by decide), if_neg (by decide), if_neg (by decide), if_neg (by decide), if_neg (by decide), ← e3]
    have hm := of_decide_eq_true hm
    rw [wr_id' (by omega) (by omega)] at hm
    exact ⟨RR_mono (by omega) hB (Int.le_refl _) hK (R_pass (by omega) (by omega) h), CX_tkN _ _ hV hX⟩
theorem R_run {m N : Mem} {K t : Int} {e : Nat} (ht : 0 ≤ t ∧ t < 6) (he : N 197 8 = e) (hN : ∀ n : Nat, n < e → EN m N n (pq m n)) (hp : pq m e = m 195 0 + 1) : ∀ (f n d d' : Nat) (P : Mem) (s : Z × (Int → Int)) {B : Int}, n + f = e → f ≤ d → f ≤ d' → B + f ≤ 1000000 → RR P s.1 10000 B K → CX P →
    (cRnF m t d (pq m n) n P).2 = (zRnF N t d' n s).2 ∧ RR (cRnF m t d (pq m n) n P).1 (zRnF N t d' n s).1.1 10000 (B + f) K ∧ CX (cRnF m t d (pq m n) n P).1 := by
  intro f
  induction f with
  | zero =>
    intro n d d' P s B h1 h2 h3 h4 h hX
    have hn : n = e := by omega
    have ec : cRnF m t d (pq m n) n P = (P, (n : Int)) := by
      cases d with
      | zero => rfl
      | succ d => rw [cRnF, if_neg (by intro q; rw [hn, hp] at q; omega)]
    have ez : zRnF N t d' n s = (s, (n : Int)) := by
      cases d' with
      | zero => rfl
      | succ d' => rw [zRnF, if_neg (by intro q; omega)]
    rw [ec, ez]
    refine ⟨rfl, ?_, hX⟩
    rw [show B + ((0 : Nat) : Int) = B by omega]
    exact h
  | succ f ih =>
    intro n d d' P s B h1 h2 h3 h4 h hX
    obtain ⟨d, rfl⟩ : ∃ x, d = x + 1 := ⟨d - 1, by omega⟩
    obtain ⟨d', rfl⟩ : ∃ x, d' = x + 1 := ⟨d' - 1, by omega⟩
    have hE := hN n (by omega)
    have hl := pq_lt (m := m) e n (by omega)
    have q := q_may ht hE h
    rw [cRnF, zRnF, q]
    by_cases r : zMay N s.1 n t = true
    · rw [if_pos ⟨by omega, r⟩, if_pos ⟨by omega, r⟩]
      obtain ⟨r1, r2⟩ := R_do (by omega) hE r h hX
      have i := ih (n + 1) d d' (cDo m (pq m n) P) (zDo N n s) (B := B + 1) (by omega) (by omega) (by omega) (by omega) r1 r2
      rw [show ((n + 1 : Nat) : Int) = (n : Int) + 1 by omega, pq, show B + 1 + (f : Int) = B + ((f + 1 : Nat) : Int) by omega] at i
      exact i
    · rw [if_neg (fun w => r w.2), if_neg (fun w => r w.2)]
      exact ⟨rfl, RR_mono (by omega) (by omega) (Int.le_refl _) h.2.2.2.2.1.2.2.2.2.2.2 h, hX⟩

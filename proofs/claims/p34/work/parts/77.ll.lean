/-! the law: ahead -/
theorem lz_ps {m Q : Mem} {p : Bool} {z : Z} {b : Nat} (h : b + 24 ≤ 197) : ps (lz m p z) b Q = lz (ps m b Q) p z := by
  funext c
  by_cases q : b ≤ c ∧ c < b + 24
  · obtain ⟨d, rfl⟩ : ∃ d, c = b + d := ⟨c - b, by omega⟩
    rw [ps_at (by omega), lz_lo (by omega), ps_at (by omega)]
  · rw [ps_ne q]
    by_cases w : ∃ d, d < 8 ∧ c = ix p d
    · obtain ⟨d, h1, rfl⟩ := w
      rw [lz_at h1, lz_at h1]
    · have w' : ∀ d, d < 8 → ¬ c = ix p d := fun d h1 h2 => w ⟨d, h1, h2⟩
      rw [lz_ne w', lz_ne w', ps_ne q]
theorem ixft {d e : Nat} (hd : d < 7) (he : e < 8) : ¬ ix false d = ix true e := by
  have key : ∀ a : Fin 7, ∀ b : Fin 8, ¬ ix false a = ix true b := by decide
  exact key ⟨d, hd⟩ ⟨e, he⟩
theorem l2_at {m : Mem} {z y : Z} {d : Nat} (hd : d < 7) : lz (lz m false z) true y (ix false d) = lr z d := by
  rw [lz_ne (fun e he => ixft hd he), lz_at (by omega)]
theorem lr_in {z : Z} {d : Nat} {j : Int} (h : 0 ≤ j ∧ j < ln d) : lr z d j = z (zi d j) - zo d j := by unfold lr; rw [if_pos h]
theorem lr_out {z : Z} {d : Nat} {j : Int} (h : ¬ (0 ≤ j ∧ j < ln d)) : lr z d j = 0 := by unfold lr; rw [if_neg h]
section
variable {G : GX} {sh : List SH} {M : MI} {mc ms : Nat} {F : FinT} {pc : Nat} {L : List (Option PV)} {S : List PV} {m : Mem} {k n : Nat} {z y : Z}
theorem j_f6_0 {x : Int} {q : Nat} (hdc : decode (mB M) pc = .ok (.iaload, 1)) (hq : pc + 1 = q) (hs : LA sh false) (hx : 0 ≤ x ∧ x < 15) (kk : J G sh M mc ms F q L (.inl (z x) :: S) (lz (lz m false z) true y) k n) : J G sh M mc ms F pc L (.inl x :: .inr (.ref (ix false 6)) :: S) (lz (lz m false z) true y) k n := by
  refine j_iaload hdc hq (hs 6 (by decide)) (wr_id' (by omega) (by omega)) hx.1 hx.2 ?_
  rw [l2_at (by decide), lr_in hx]
  show J G sh M mc ms F q L (.inl (z x - 0) :: S) _ k n
  rw [Int.sub_zero]
  exact kk
theorem j_f4_2 {x : Int} {q : Nat} (hdc : decode (mB M) pc = .ok (.iaload, 1)) (hq : pc + 1 = q) (hs : LA sh false) (hx : 0 ≤ x ∧ x < 2) (kk : J G sh M mc ms F q L (.inl (z (41 + 6 * x + 2)) :: S) (lz (lz m false z) true y) k n) : J G sh M mc ms F pc L (.inl (6 * x + 2) :: .inr (.ref (ix false 4)) :: S) (lz (lz m false z) true y) k n := by
  have hr : 0 ≤ 6 * x + 2 ∧ 6 * x + 2 < ln 4 := by simp only [ln]; omega
  refine j_iaload hdc hq (hs 4 (by decide)) (wr_id' (by omega) (by omega)) hr.1 hr.2 ?_
  rw [l2_at (by decide), lr_in hr]
  show J G sh M mc ms F q L (.inl (z (41 + (6 * x + 2)) - 0) :: S) _ k n
  rw [Int.sub_zero, show 41 + (6 * x + 2) = 41 + 6 * x + 2 by omega]
  exact kk
end
theorem cpM_o {m : Mem} {a b c : Nat} {N : Int} (h : ¬ c = b) : cpM m a b N c = m c := by
  funext j; unfold cpM; rw [if_neg (fun q => h q.1)]
theorem cpM_b {m : Mem} {a b : Nat} {N : Int} : cpM m a b N b = fun j => if 0 ≤ j ∧ j < N then m a j else m b j := by
  funext j; unfold cpM
  by_cases q : 0 ≤ j ∧ j < N
  · rw [if_pos ⟨rfl, q⟩, if_pos q]
  · rw [if_neg (fun w => q w.2), if_neg q]
theorem cp_v {f g : Int → Int} {z : Z} {d : Nat} (h1 : f = lr z d) (h2 : g = fun _ => 0) : (fun j => if 0 ≤ j ∧ j < (ln d : Int) then f j else g j) = lr z d := by
  funext j
  by_cases q : 0 ≤ j ∧ j < (ln d : Int)
  · show (if _ then _ else _) = _
    rw [if_pos q, h1]
  · show (if _ then _ else _) = _
    rw [if_neg q, h2, lr_out q]
/-- seven copies -/
theorem cp7 {X : Mem} {z : Z} (hX : ∀ c, 205 ≤ c → X c = fun _ => 0) : cpM (cpM (cpM (cpM (cpM (cpM (cpM (lz X false z) 197 205 64) 198 206 64) 199 207 16) 200 208 9) 201 209 12) 202 210 48) 204 211 15 = lz (lz X false z) true z := by
  have hf : ∀ d, d < 8 → lz X false z (ix false d) = lr z d := fun d hd => lz_at hd
  have h0 : lz X false z 197 = lr z 0 := hf 0 (by decide)
  have h1 : lz X false z 198 = lr z 1 := hf 1 (by decide)
  have h2 : lz X false z 199 = lr z 2 := hf 2 (by decide)
  have h3 : lz X false z 200 = lr z 3 := hf 3 (by decide)
  have h4 : lz X false z 201 = lr z 4 := hf 4 (by decide)
  have h5 : lz X false z 202 = lr z 5 := hf 5 (by decide)
  have h6 : lz X false z 204 = lr z 6 := hf 6 (by decide)
  have h7 : lz X false z 203 = lr z 7 := hf 7 (by decide)
  have hz : ∀ c, 205 ≤ c → lz X false z c = fun _ => 0 := fun c hc => by
    rw [lz_ne (fun d hd e => by
      have key : ∀ a : Fin 8, ix false a < 205 := by decide
      have k' : ix false d < 205 := key ⟨d, hd⟩
      omega)]
    exact hX c hc
  have ht : ∀ d, d < 8 → lz (lz X false z) true z (ix true d) = lr z d := fun d hd => lz_at hd
  funext c
  by_cases c5 : c = 205
  · subst c5
    rw [cpM_o (by decide), cpM_o (by decide), cpM_o (by decide), cpM_o (by decide), cpM_o (by decide), cpM_o (by decide), cpM_b]
    exact (cp_v (d := 0) h0 (hz _ (by decide))).trans (ht 0 (by decide)).symm
  by_cases c6 : c = 206
  · subst c6
    rw [cpM_o (by decide), cpM_o (by decide), cpM_o (by decide), cpM_o (by decide), cpM_o (by decide), cpM_b, cpM_o (by decide), cpM_o (by decide)]
    exact (cp_v (d := 1) h1 (hz _ (by decide))).trans (ht 1 (by decide)).symm
  by_cases c7 : c = 207
  · subst c7
    rw [cpM_o (by decide), cpM_o (by decide), cpM_o (by decide), cpM_o (by decide), cpM_b, cpM_o (by decide), cpM_o (by decide), cpM_o (by decide), cpM_o (by decide)]
    exact (cp_v (d := 2) h2 (hz _ (by decide))).trans (ht 2 (by decide)).symm
  by_cases c8 : c = 208
  · subst c8
    rw [cpM_o (by decide), cpM_o (by decide), cpM_o (by decide), cpM_b, cpM_o (by decide), cpM_o (by decide), cpM_o (by decide), cpM_o (by decide), cpM_o (by decide), cpM_o (by decide)]
    exact (cp_v (d := 3) h3 (hz _ (by decide))).trans (ht 3 (by decide)).symm
  by_cases c9 : c = 209
  · subst c9
    rw [cpM_o (by decide), cpM_o (by decide), cpM_b, cpM_o (by decide), cpM_o (by decide), cpM_o (by decide), cpM_o (by decide), cpM_o (by decide), cpM_o (by decide), cpM_o (by decide), cpM_o (by decide)]
    exact (cp_v (d := 4) h4 (hz _ (by decide))).trans (ht 4 (by decide)).symm
  by_cases ca : c = 210
  · subst ca
    rw [cpM_o (by decide), cpM_b, cpM_o (by decide), cpM_o (by decide), cpM_o (by decide), cpM_o (by decide), cpM_o (by decide), cpM_o (by decide), cpM_o (by decide), cpM_o (by decide), cpM_o (by decide), cpM_o (by decide)]
    exact (cp_v (d := 5) h5 (hz _ (by decide))).trans (ht 5 (by decide)).symm
  by_cases cb : c = 211
  · subst cb
    rw [cpM_b, cpM_o (by decide), cpM_o (by decide), cpM_o (by decide), cpM_o (by decide), cpM_o (by decide), cpM_o (by decide), cpM_o (by decide), cpM_o (by decide), cpM_o (by decide), cpM_o (by decide), cpM_o (by decide), cpM_o (by decide)]
    exact (cp_v (d := 6) h6 (hz _ (by decide))).trans (ht 6 (by decide)).symm
  rw [cpM_o cb, cpM_o ca, cpM_o c9, cpM_o c8, cpM_o c7, cpM_o c6, cpM_o c5]
  by_cases c3 : c = 203
  · subst c3
    exact h7.trans (ht 7 (by decide)).symm
  · refine (lz_ne (fun d hd e => ?_)).symm
    have key : ∀ a : Fin 8, ix true a = 203 ∨ 205 ≤ ix true a ∧ ix true a ≤ 211 := by decide
    have := key ⟨d, hd⟩
    have e' : c = ix true d := e
    have k' : ix true d = 203 ∨ 205 ≤ ix true d ∧ ix true d ≤ 211 := this
    omega
theorem brZ_hi {z y : Z} {j : Int} (h : 15 ≤ j) : brZ z y 15 j = y j := by unfold brZ; rw [if_neg (by omega)]
theorem brZ_lo {z y : Z} {j : Int} (h : 0 ≤ j ∧ j < 15) : brZ z y 15 j = z j := by unfold brZ; rw [if_pos h]
theorem lr_br {z y : Z} {e : Nat} (he : e < 8) (h6 : ¬ e = 6) : lr (brZ z y 15) e = lr y e := by
  funext j
  unfold lr
  by_cases q : 0 ≤ j ∧ j < ln e
  · rw [if_pos q, if_pos q]
    have b := zi_b he q
    have c : 15 ≤ zi e j := by
      rcases b with b | b | b | b | b | b | b | b
      · omega
      · omega
      · omega
      · omega
      · have := cr_b (k := j / 4) ⟨by omega, by omega⟩; omega
      · have := cr_b (k := j / 4) ⟨by omega, by omega⟩; omega
      · have := cr_b (k := j) ⟨by omega, by omega⟩; omega
      · omega
    rw [brZ_hi c]
  · rw [if_neg q, if_neg q]
theorem cp_c {X : Mem} {z y : Z} : cpM (lz (lz X false z) true y) (ix false 6) (ix true 6) 15 = lz (lz X false z) true (brZ z y 15) := by
  funext c
  by_cases c6 : c = ix true 6
  · subst c6
    rw [cpM_b, lz_at (by decide), lz_at (by decide), l2_at (by decide)]
    funext j
    by_cases q : 0 ≤ j ∧ j < 15
    · show (if _ then _ else _) = _
      rw [if_pos q, lr_in q, lr_in q]
      show z j - 0 = brZ z y 15 j - 0
      rw [brZ_lo q]
    · show (if _ then _ else _) = _
      rw [if_neg q, lr_out q, lr_out q]
  · rw [cpM_o c6]
    by_cases w : ∃ d, d < 8 ∧ c = ix true d
    · obtain ⟨d, h1, rfl⟩ := w
      rw [lz_at h1, lz_at h1, lr_br h1 (fun e => c6 (by rw [e]))]
    · have w' : ∀ d, d < 8 → ¬ c = ix true d := fun d h1 h2 => w ⟨d, h1, h2⟩
      rw [lz_ne w', lz_ne w']
section
variable {G : GX} {sh : List SH} {X : Mem} {z y : Z} {k i t : Int}
theorem ct_prM (E : EW G sh) {M : Mem} {c : Nat} {h : Int} (hs0 : LA sh false) (hc : sh[c]? = some (.inr (0, 15))) (h1 : 0 ≤ k ∧ k < 16) (h2 : 0 ≤ i ∧ i < 2) (e1 : M c 1 = h) (e2 : M (ix false 0) = lr z 0) (e3 : M (ix false 4) = lr z 4) : CT G sh iL_premium 0 0 [.inl k, .inl i, .inl t, .inr (.ref (ix false 0)), .inr (.ref (ix false 4)), .inr (.ref c)] M (some (.inl (zPrem z (cr k) i t h))) M := by
  have a1 : lr z 0 (4 * k + 1) = z (59 + 9 * cr k + 1) := by
    rw [lr_in (by simp only [ln]; omega)]
    have q1 : zi 0 (4 * k + 1) = 59 + 9 * cr k + 1 := by simp only [zi, cr] <;> omega
    have q2 : zo 0 (4 * k + 1) = 0 := by simp only [zo]; rw [if_neg (by omega)]
    rw [q1, q2, Int.sub_zero]
  have a2 : lr z 4 (6 * i + 1) = z (41 + 6 * i + 1) := by
    rw [lr_in (by simp only [ln]; omega)]
    show z (41 + (6 * i + 1)) - 0 = _
    rw [Int.sub_zero, show 41 + (6 * i + 1) = 41 + 6 * i + 1 by omega]
  refine ct_r (ct_L_premium (t := t) (m := M) E (hs0 0 (by decide)) (hs0 4 (by decide)) hc h1 h2) ?_
  rw [e1, e2, e3, a1, a2]
  unfold zPrem
  rw [show 110 + h - z (59 + 9 * cr k + 1) = 10 + h + 100 - z (59 + 9 * cr k + 1) by omega, Int.add_comm]
theorem ct_pr0 (E : EW G sh) (hs0 : LA sh false) (h1 : 0 ≤ k ∧ k < 16) (h2 : 0 ≤ i ∧ i < 2) : CT G sh iL_premium 0 0 [.inl k, .inl i, .inl t, .inr (.ref (ix false 0)), .inr (.ref (ix false 4)), .inr (.ref (ix false 6))] (lz (lz X false z) true y) (some (.inl (zPrem z (cr k) i t (z 1)))) (lz (lz X false z) true y) :=
  ct_prM E hs0 (hs0 6 (by decide)) h1 h2 (by rw [l2_at (by decide), lr_in (by decide)]; show z 1 - 0 = _; rw [Int.sub_zero]) (l2_at (by decide)) (l2_at (by decide))
theorem ct_pr1 (E : EW G sh) (hs0 : LA sh false) (hs1 : LA sh true) (h1 : 0 ≤ k ∧ k < 16) (h2 : 0 ≤ i ∧ i < 2) : CT G sh iL_premium 0 0 [.inl k, .inl i, .inl t, .inr (.ref (ix false 0)), .inr (.ref (ix false 4)), .inr (.ref (ix true 6))] (lz (lz X false z) true y) (some (.inl (zPrem z (cr k) i t (y 1)))) (lz (lz X false z) true y) :=
  ct_prM E hs0 (hs1 6 (by decide)) h1 h2 (by rw [lz_at (by decide), lr_in (by decide)]; show y 1 - 0 = _; rw [Int.sub_zero]) (l2_at (by decide)) (l2_at (by decide))
/-- in act: no copies there -/
theorem ct_pra (E : EW G sh) (hs0 : LA sh false) (h1 : 0 ≤ k ∧ k < 16) (h2 : 0 ≤ i ∧ i < 2) : CT G sh iL_premium 0 0 [.inl k, .inl i, .inl t, .inr (.ref (ix false 0)), .inr (.ref (ix false 4)), .inr (.ref (ix false 6))] (lz X false z) (some (.inl (zPrem z (cr k) i t (z 1)))) (lz X false z) :=
  ct_prM E hs0 (hs0 6 (by decide)) h1 h2 (by rw [lz_at (by decide), lr_in (by decide)]; show z 1 - 0 = _; rw [Int.sub_zero]) (lz_at (by decide)) (lz_at (by decide))
end
/-- rates are small -/
def RT (z : Z) : Prop := ∀ i, 0 ≤ i → i < 2 → 0 ≤ z (41 + 6 * i + 1) ∧ z (41 + 6 * i + 1) ≤ 60
theorem prem_b {z : Z} {T B c i t : Int} (hI : IZ z T B) (hc : 0 ≤ c ∧ c < 64) (hr : RT z) (hi : 0 ≤ i ∧ i < 2) (ht : 1 ≤ t ∧ t ≤ 200) : 1 ≤ zPrem z c i t (z 1) ∧ zPrem z c i t (z 1) ≤ 2521 := by
  have h1 := hI.ht
  have h2 := hI.sg c hc.1 hc.2
  have h3 := hr i hi.1 hi.2
  unfold zPrem
  generalize hA : 10 + z 1 + 100 - z (59 + 9 * c + 1) = A
  have bA : 0 ≤ A ∧ A ≤ 210 := by omega
  have p1 : A * t ≤ 210 * 200 := Int.mul_le_mul bA.2 ht.2 (by omega) (by decide)
  have p2 : 0 ≤ A * t := Int.mul_nonneg bA.1 (by omega)
  have p3 : A * t * z (41 + 6 * i + 1) ≤ 210 * 200 * 60 := Int.mul_le_mul p1 h3.2 h3.1 (by decide)
  have p4 : 0 ≤ A * t * z (41 + 6 * i + 1) := Int.mul_nonneg p2 h3.1
  generalize A * t * z (41 + 6 * i + 1) = q at *
  rw [wr_id' (by omega) (by omega), Int.tdiv_eq_ediv_of_nonneg p4]
  omega
theorem LK_sbI {T B K : Int} : ∀ (k : Nat) (s : Z × (Int → Int)), LK s.1 T B K → LK (zSbI k s).1 T B K := by
  intro k
  induction k with
  | zero => intro s h; exact h
  | succ k ih =>
    intro s h
    have b := zOw_b s.1
    rw [zSbI]
    split
    · rename_i q
      rw [wr_id' (by omega) (by omega)] at q
      exact ih _ (LK_wb s.2 q h)
    · exact h
theorem sb1_1 {p : Nat} {s : Z × (Int → Int)} : (zSb1 p s).1 = zTk (zSbI p s).1 (zSbI p s).2 := by unfold zSb1; dsimp only
theorem LK_sb1 {T B K : Int} {p : Nat} {s : Z × (Int → Int)} (hT : T + 1 ≤ 20000) (h : LK (zSbI p s).1 T B K) : LK (zSb1 p s).1 (T + 1) B K := by
  rw [sb1_1]
  exact LK_tk _ hT h
def SY (z y : Z) : Prop := ∀ s, 0 ≤ s → s < 8 → y (15 + s) = z (15 + s)
theorem SY_c {z y : Z} {v : Int} (h : SY z y) : SY z (u1 (brZ z y 15) 1 v) := fun s a b => by rw [u1_ne (by omega), brZ_hi (by omega)]; exact h s a b
theorem mul_b {n s : Int} (hn : 0 ≤ n ∧ n ≤ 200) (hs : 0 ≤ s ∧ s ≤ 100) : 0 ≤ n * s ∧ n * s ≤ 20000 := ⟨Int.mul_nonneg hn.1 hs.1, Int.le_trans (Int.mul_le_mul hn.2 hs.2 hs.1 (by decide)) (by decide)⟩
theorem zNB_p {v : Int} (h : v < 0) (hb : -2147483648 ≤ v) : zNB v = 0 := by unfold zNB; rw [wr_id' hb (by omega), if_pos h]
theorem zNB_n {v : Int} (h : ¬ v < 0) (hb : v < 2147483648) : zNB v = v := by unfold zNB; rw [wr_id' (by omega) hb, if_neg h]
theorem qc_savable {G : GX} {sh : List SH} (V : EV G sh) {X P : Mem} {z y : Z} {T B K p : Int} (Q : QP (lz (lz X false z) true y) P z T B K) (hT : T + 64 ≤ 20000) (hp : 1 ≤ p ∧ p ≤ 9) : CT G sh iX7_savable 0 0 [.inr (.ref 0), .inl p] (lz (lz X false z) true y) (some (.inl (zSvb z p (fun _ => 0)))) (lz (lz (ps (ps X 25 (cSvE (pg (lz (lz X false z) true y) 25) P p)) 1 P) false z) true y) := by
  have h := cp_savable (m := lz (lz X false z) true y) (P := P) V ⟨by omega, by omega⟩ hp Q.2.1.2.2.2.1
  have e := q_sv (A := pg (lz (lz X false z) true y) 25) (p := p) (fun _ => 0) hT Q.2.1
  generalize cSvE (pg (lz (lz X false z) true y) 25) P p = Q2 at *
  rw [Q.1, lz_ps (by decide), lz_ps (by decide), lz_ps (by decide), lz_ps (by decide), e] at h
  exact h
theorem lp_ah_b {G : GX} {sh : List SH} (V : EV G sh) (E : EW G sh) (hs0 : LA sh false) (hs1 : LA sh true) {F : FinT} {Y : Mem} {x0 pa T B K : Int} (hp : 1 ≤ pa ∧ pa ≤ 9) : ∀ (d : Nat) (k : Int) (s : Z × (Int → Int)), k + d = pa → 0 ≤ k → LK s.1 T B K → (∀ (x : Z × (Int → Int)), x = zSbI d s → J G sh iL_ahead 7 228 F 153 [some (.inr (.ref 0)), some (.inl x0), some (.inr (.ref (ix false 0))), some (.inr (.ref (ix false 1))), some (.inr (.ref (ix false 2))), some (.inr (.ref (ix false 3))), some (.inr (.ref (ix false 4))), some (.inr (.ref (ix false 5))), some (.inr (.ref (ix true 7))), some (.inr (.ref (ix false 6))), some (.inr (.ref (ix true 0))), some (.inr (.ref (ix true 1))), some (.inr (.ref (ix true 2))), some (.inr (.ref (ix true 3))), some (.inr (.ref (ix true 4))), some (.inr (.ref (ix true 5))), some (.inr (.ref (ix true 6))), some (.inl pa), none, none, none, none, none, none, none, none, none] [] (lz Y true x.1) 7 228) → J G sh iL_ahead 7 228 F 111 [some (.inr (.ref 0)), some (.inl x0), some (.inr (.ref (ix false 0))), some (.inr (.ref (ix false 1))), some (.inr (.ref (ix false 2))), some (.inr (.ref (ix false 3))), some (.inr (.ref (ix false 4))), some (.inr (.ref (ix false 5))), some (.inr (.ref (ix true 7))), some (.inr (.ref (ix false 6))), some (.inr (.ref (ix true 0))), some (.inr (.ref (ix true 1))), some (.inr (.ref (ix true 2))), some (.inr (.ref (ix true 3))), some (.inr (.ref (ix true 4))), some (.inr (.ref (ix true 5))), some (.inr (.ref (ix true 6))), some (.inl pa), some (.inl k), none, none, none, none, none, none, none, none] [] (lz Y true s.1) 7 228 := by
  intro d
  induction d with
  | zero =>
    intro k s g0 g1 g2 kk
    have hX := g2.x
    have hI := g2.i
    have hD := IZ_DB hI
    have hl := lOw_b s.1 0
    have hg := lOw_g hX hI (q := 0) (by decide)
    have hw := zOw_b s.1
    have hw2 : wr (zOwN s.1) = zOwN s.1 := wr_id' (by omega) (by omega)
    refine j_iload18 (q := 113) dL_ahead_111 rfl ?_
    refine j_iload17 (q := 115) dL_ahead_113 rfl ?_
    refine j_icmp_ge (tgt := 153) (q := 118) dL_ahead_115 (by decide) rfl (by first | exact wr_id' (by omega) (by omega) | with_reducible exact wr_bI _ | exact rfl) (by first | exact wr_id' (by omega) (by omega) | with_reducible exact wr_bI _ | exact rfl) (fun h115 => ?_) (fun h115 => ?_)
    · refine j_fgt18 ?_
      exact kk _ rfl
    · omega
  | succ d ih =>
    intro k s g0 g1 g2 kk
    have hX := g2.x
    have hI := g2.i
    have hD := IZ_DB hI
    have hl := lOw_b s.1 0
    have hg := lOw_g hX hI (q := 0) (by decide)
    have hw := zOw_b s.1
    have hw2 : wr (zOwN s.1) = zOwN s.1 := wr_id' (by omega) (by omega)
    refine j_iload18 (q := 113) dL_ahead_111 rfl ?_
    refine j_iload17 (q := 115) dL_ahead_113 rfl ?_
    refine j_icmp_ge (tgt := 153) (q := 118) dL_ahead_115 (by decide) rfl (by first | exact wr_id' (by omega) (by omega) | with_reducible exact wr_bI _ | exact rfl) (by first | exact wr_id' (by omega) (by omega) | with_reducible exact wr_bI _ | exact rfl) (fun h115 => ?_) (fun h115 => ?_)
    · omega
    · refine j_iconst (q := 119) dL_ahead_118 rfl ?_
      refine j_aload11 (q := 121) dL_ahead_119 rfl ?_
      refine j_callS2 (Mc := iL_owed) (q := 124) (c' := 0) (s' := 0) dL_ahead_121 rfl kS_L_owed jw_587 ⟨by decide, by decide⟩ rfl (Nat.le_refl _) (Nat.le_refl _) (ct_L_owed E hs1 hD (by omega)) ?_
      refine j_if_lt (tgt := 153) (q := 127) dL_ahead_124 (by decide) rfl (by first | exact wr_id' (by omega) (by omega) | with_reducible exact wr_bI _ | exact rfl) (fun h124 => ?_) (fun h124 => ?_)
      · refine j_mem (m' := lz Y true (zSbI (d + 1) s).1) (by rw [zSbI, if_neg (by rw [hw2]; intro q; have := hg.mpr q; omega)]) ?_
        refine j_fgt18 ?_
        exact kk _ rfl
      · refine j_aload10 (q := 129) dL_ahead_127 rfl ?_
        refine j_aload11 (q := 131) dL_ahead_129 rfl ?_
        refine j_aload12 (q := 133) dL_ahead_131 rfl ?_
        refine j_aload13 (q := 135) dL_ahead_133 rfl ?_
        refine j_aload14 (q := 137) dL_ahead_135 rfl ?_
        refine j_aload15 (q := 139) dL_ahead_137 rfl ?_
        refine j_aload8 (q := 141) dL_ahead_139 rfl ?_
        refine j_aload16 (q := 143) dL_ahead_141 rfl ?_
        refine j_callS8 (Mc := iL_back) (q := 146) (c' := 0) (s' := 0) dL_ahead_143 rfl kS_L_back jw_600 ⟨by decide, by decide⟩ rfl (Nat.le_refl _) (Nat.le_refl _) (ct_L_back (o := s.2) E hs1 g2 (hg.mp (by omega))) ?_
        refine j_pop (q := 147) dL_ahead_146 rfl rfl ?_
        refine j_iinc18 (q := 150) dL_ahead_147 rfl rfl (by decide) ?_
        refine j_goto (tgt := 111) dL_ahead_150 (by decide) ?_
        exact ih (k + 1) (zWb s.1 (zOrd s.1 s.2 0), zOrd s.1 s.2) (by omega) (by omega) (LK_wb s.2 (hg.mp (by omega)) g2) (fun x hx => kk x (hx.trans (by rw [zSbI, if_pos (by rw [hw2]; exact hg.mp (by omega))])))
theorem lp_ah_a {G : GX} {sh : List SH} (V : EV G sh) (E : EW G sh) (hs0 : LA sh false) (hs1 : LA sh true) {F : FinT} {Y : Mem} {x0 pa B K : Int} (hp : 1 ≤ pa ∧ pa ≤ 9) : ∀ (d : Nat) (s : Z × (Int → Int)) (T : Int), T + d ≤ 20000 → LK s.1 T B K → zOwN s.1 ≤ d → (∀ (x : Z × (Int → Int)), x = zSbF pa.toNat d s → J G sh iL_ahead 7 228 F 175 [some (.inr (.ref 0)), some (.inl x0), some (.inr (.ref (ix false 0))), some (.inr (.ref (ix false 1))), some (.inr (.ref (ix false 2))), some (.inr (.ref (ix false 3))), some (.inr (.ref (ix false 4))), some (.inr (.ref (ix false 5))), some (.inr (.ref (ix true 7))), some (.inr (.ref (ix false 6))), some (.inr (.ref (ix true 0))), some (.inr (.ref (ix true 1))), some (.inr (.ref (ix true 2))), some (.inr (.ref (ix true 3))), some (.inr (.ref (ix true 4))), some (.inr (.ref (ix true 5))), some (.inr (.ref (ix true 6))), some (.inl pa), none, none, none, none, none, none, none, none, none] [] (lz Y true x.1) 7 228) → J G sh iL_ahead 7 228 F 99 [some (.inr (.ref 0)), some (.inl x0), some (.inr (.ref (ix false 0))), some (.inr (.ref (ix false 1))), some (.inr (.ref (ix false 2))), some (.inr (.ref (ix false 3))), some (.inr (.ref (ix false 4))), some (.inr (.ref (ix false 5))), some (.inr (.ref (ix true 7))), some (.inr (.ref (ix false 6))), some (.inr (.ref (ix true 0))), some (.inr (.ref (ix true 1))), some (.inr (.ref (ix true 2))), some (.inr (.ref (ix true 3))), some (.inr (.ref (ix true 4))), some (.inr (.ref (ix true 5))), some (.inr (.ref (ix true 6))), some (.inl pa), none, none, none, none, none, none, none, none, none] [] (lz Y true s.1) 7 228 := by
  intro d
  induction d with
  | zero =>
    intro s T g0 g1 g2 kk
    have hX := g1.x
    have hI := g1.i
    have hD := IZ_DB hI
    have hl := lOw_b s.1 0
    have hg := lOw_g hX hI (q := 0) (by decide)
    have hw := zOw_b s.1
    have hw2 : wr (zOwN s.1) = zOwN s.1 := wr_id' (by omega) (by omega)
    refine j_iconst (q := 100) dL_ahead_99 rfl ?_
    refine j_aload11 (q := 102) dL_ahead_100 rfl ?_
    refine j_callS2 (Mc := iL_owed) (q := 105) (c' := 0) (s' := 0) dL_ahead_102 rfl kS_L_owed jw_587 ⟨by decide, by decide⟩ rfl (Nat.le_refl _) (Nat.le_refl _) (ct_L_owed E hs1 hD (by omega)) ?_
    refine j_if_lt (tgt := 175) (q := 108) dL_ahead_105 (by decide) rfl (by first | exact wr_id' (by omega) (by omega) | with_reducible exact wr_bI _ | exact rfl) (fun h105 => ?_) (fun h105 => ?_)
    · exact kk _ rfl
    · omega
  | succ d ih =>
    intro s T g0 g1 g2 kk
    have hX := g1.x
    have hI := g1.i
    have hD := IZ_DB hI
    have hl := lOw_b s.1 0
    have hg := lOw_g hX hI (q := 0) (by decide)
    have hw := zOw_b s.1
    have hw2 : wr (zOwN s.1) = zOwN s.1 := wr_id' (by omega) (by omega)
    refine j_iconst (q := 100) dL_ahead_99 rfl ?_
    refine j_aload11 (q := 102) dL_ahead_100 rfl ?_
    refine j_callS2 (Mc := iL_owed) (q := 105) (c' := 0) (s' := 0) dL_ahead_102 rfl kS_L_owed jw_587 ⟨by decide, by decide⟩ rfl (Nat.le_refl _) (Nat.le_refl _) (ct_L_owed E hs1 hD (by omega)) ?_
    refine j_if_lt (tgt := 175) (q := 108) dL_ahead_105 (by decide) rfl (by first | exact wr_id' (by omega) (by omega) | with_reducible exact wr_bI _ | exact rfl) (fun h105 => ?_) (fun h105 => ?_)
    · refine j_mem (m' := lz Y true (zSbF pa.toNat (d + 1) s).1) (by rw [zSbF, if_neg (by rw [hw2]; intro q; have := hg.mpr q; omega)]) ?_
      exact kk _ rfl
    · refine j_iconst (q := 109) dL_ahead_108 rfl ?_
      refine j_istore18 (q := 111) dL_ahead_109 rfl rfl (by decide) ?_
      refine lp_ah_b V E hs0 hs1 (T := T) (B := B) (K := K) hp pa.toNat 0 s (by omega) (by omega) g1 ?_
      intro s1 hs1x
      have hK1 : LK s1.1 T B K := by rw [hs1x]; exact LK_sbI _ _ g1
      refine j_aload10 (q := 155) dL_ahead_153 rfl ?_
      refine j_aload11 (q := 157) dL_ahead_155 rfl ?_
      refine j_aload12 (q := 159) dL_ahead_157 rfl ?_
      refine j_aload13 (q := 161) dL_ahead_159 rfl ?_
      refine j_aload14 (q := 163) dL_ahead_161 rfl ?_
      refine j_aload15 (q := 165) dL_ahead_163 rfl ?_
      refine j_aload8 (q := 167) dL_ahead_165 rfl ?_
      refine j_aload16 (q := 169) dL_ahead_167 rfl ?_
      refine j_callS8v (Mc := iL_tick) (q := 172) (c' := 0) (s' := 0) dL_ahead_169 rfl kS_L_tick jw_612 ⟨by decide, by decide⟩ rfl (Nat.le_refl _) (Nat.le_refl _) (ct_L_tick (o := s1.2) E hs1 hK1 (by omega)) ?_
      refine j_goto (tgt := 99) dL_ahead_172 (by decide) ?_
      subst hs1x
      rw [← sb1_1]
      exact ih (zSb1 pa.toNat s) (T + 1) (by omega) (LK_sb1 (by omega) hK1) (zSb_dec hp (hg.mp (by omega)) g1.w g2) (fun x hx => kk x (hx.trans (by rw [zSbF, if_pos (by rw [hw2]; exact hg.mp (by omega))])))
theorem lp_ah_w {G : GX} {sh : List SH} (V : EV G sh) (E : EW G sh) (hs0 : LA sh false) (hs1 : LA sh true) {F : FinT} {X P : Mem} {z : Z} {T B K : Int} {x0 pa k t co g i p mo : Int} (hI : IZ z T B) (h1 : 0 ≤ k ∧ k < 16) (h2 : 0 ≤ i ∧ i < 2) (hm : 1 ≤ mo ∧ mo ≤ 10000) : ∀ (d : Nat) (n : Int) (w : Int) (y : Z), n + 1 = d → n ≤ 200 → w = zWtF z (cr k) i t mo (201 - d) (n + 1) → SY z y → (∀ (y2 : Z), SY z y2 → J G sh iL_ahead 7 228 F 368 [some (.inr (.ref 0)), some (.inl x0), some (.inr (.ref (ix false 0))), some (.inr (.ref (ix false 1))), some (.inr (.ref (ix false 2))), some (.inr (.ref (ix false 3))), some (.inr (.ref (ix false 4))), some (.inr (.ref (ix false 5))), some (.inr (.ref (ix true 7))), some (.inr (.ref (ix false 6))), some (.inr (.ref (ix true 0))), some (.inr (.ref (ix true 1))), some (.inr (.ref (ix true 2))), some (.inr (.ref (ix true 3))), some (.inr (.ref (ix true 4))), some (.inr (.ref (ix true 5))), some (.inr (.ref (ix true 6))), some (.inl pa), some (.inl k), some (.inl t), some (.inl co), some (.inl g), some (.inl i), some (.inl p), some (.inl mo), some (.inl (zWtF z (cr k) i t mo 201 0)), none] [] (lz (lz X false z) true y2) 7 228) → J G sh iL_ahead 7 228 F 285 [some (.inr (.ref 0)), some (.inl x0), some (.inr (.ref (ix false 0))), some (.inr (.ref (ix false 1))), some (.inr (.ref (ix false 2))), some (.inr (.ref (ix false 3))), some (.inr (.ref (ix false 4))), some (.inr (.ref (ix false 5))), some (.inr (.ref (ix true 7))), some (.inr (.ref (ix false 6))), some (.inr (.ref (ix true 0))), some (.inr (.ref (ix true 1))), some (.inr (.ref (ix true 2))), some (.inr (.ref (ix true 3))), some (.inr (.ref (ix true 4))), some (.inr (.ref (ix true 5))), some (.inr (.ref (ix true 6))), some (.inl pa), some (.inl k), some (.inl t), some (.inl co), some (.inl g), some (.inl i), some (.inl p), some (.inl mo), some (.inl w), some (.inl n)] [] (lz (lz X false z) true y) 7 228 := by
  intro d
  induction d with
  | zero =>
    intro n w y g0 g1 g2 g3 kk
    have a1 := hI.ht
    have a6 := hI.st 6 (by decide) (by decide)
    refine j_iload26 (q := 287) dL_ahead_285 rfl ?_
    refine j_if_lt (tgt := 368) (q := 290) dL_ahead_287 (by decide) rfl (by first | exact wr_id' (by omega) (by omega) | with_reducible exact wr_bI _ | exact rfl) (fun h287 => ?_) (fun h287 => ?_)
    · have ew : w = zWtF z (cr k) i t mo 201 0 := by rw [g2]; exact congrArg (zWtF z (cr k) i t mo 201) (show n + 1 = 0 by omega)
      rw [ew]
      refine j_fgt26 ?_
      exact kk _ g3
    · omega
  | succ d ih =>
    intro n w y g0 g1 g2 g3 kk
    have a1 := hI.ht
    have a6 := hI.st 6 (by decide) (by decide)
    refine j_iload26 (q := 287) dL_ahead_285 rfl ?_
    refine j_if_lt (tgt := 368) (q := 290) dL_ahead_287 (by decide) rfl (by first | exact wr_id' (by omega) (by omega) | with_reducible exact wr_bI _ | exact rfl) (fun h287 => ?_) (fun h287 => ?_)
    · omega
    · refine j_aload16 (q := 292) dL_ahead_290 rfl ?_
      refine j_aload9 (q := 294) dL_ahead_292 rfl ?_
      refine j_callS2v (Mc := iL_same) (q := 297) (c' := 0) (s' := 0) dL_ahead_294 rfl kS_L_same jw_597 ⟨by decide, by decide⟩ rfl (Nat.le_refl _) (Nat.le_refl _) (ct_L_same (N := 15) E (hs0 6 (by decide)) (hs1 6 (by decide)) (by decide) (by decide)) ?_
      refine j_mem cp_c ?_
      have e6 : brZ z y 15 (15 + 6) = z (15 + 6) := by rw [brZ_hi (by omega)]; exact g3 6 (by decide) (by decide)
      have hp := mul_b (n := n) (s := z (15 + 6)) ⟨by omega, by omega⟩ a6
      refine j_aload16 (q := 299) dL_ahead_297 rfl ?_
      refine j_iconst (q := 300) dL_ahead_299 rfl ?_
      refine j_aload9 (q := 302) dL_ahead_300 rfl ?_
      refine j_iconst (q := 303) dL_ahead_302 rfl ?_
      refine j_f6_0 (q := 304) dL_ahead_303 rfl hs0 (by omega) ?_
      refine j_iload26 (q := 306) dL_ahead_304 rfl ?_
      refine j_aload8 (q := 308) dL_ahead_306 rfl ?_
      refine j_bipush (q := 310) dL_ahead_308 rfl rfl ?_
      refine j_l7_0 (q := 311) dL_ahead_310 rfl hs1 (by omega) ?_
      rw [e6]
      refine j_imul (q := 312) dL_ahead_311 rfl ?_
      refine j_isub (q := 313) dL_ahead_312 rfl ?_
      refine j_if_ge (tgt := 320) (q := 316) dL_ahead_313 (by decide) rfl (by first | exact wr_id' (by omega) (by omega) | with_reducible exact wr_bI _ | exact rfl) (fun h313 => ?_) (fun h313 => ?_)
      · refine j_aload9 (q := 322) dL_ahead_320 rfl ?_
        refine j_iconst (q := 323) dL_ahead_322 rfl ?_
        refine j_f6_0 (q := 324) dL_ahead_323 rfl hs0 (by omega) ?_
        refine j_iload26 (q := 326) dL_ahead_324 rfl ?_
        refine j_aload8 (q := 328) dL_ahead_326 rfl ?_
        refine j_bipush (q := 330) dL_ahead_328 rfl rfl ?_
        refine j_l7_0 (q := 331) dL_ahead_330 rfl hs1 (by omega) ?_
        rw [e6]
        refine j_imul (q := 332) dL_ahead_331 rfl ?_
        refine j_isub (q := 333) dL_ahead_332 rfl ?_
        refine j_s6_0 (q := 334) dL_ahead_333 rfl hs1 (by omega) ?_
        refine j_mem (m' := lz (lz X false z) true (u1 (brZ z y 15) 1 (zNB (z 1 - n * z (15 + 6))))) (by first | rw [zNB_p (by omega) (by omega)] | rw [zNB_n (by omega) (by omega)]) ?_
        refine j_iload18 (q := 336) dL_ahead_334 rfl ?_
        refine j_iload22 (q := 338) dL_ahead_336 rfl ?_
        refine j_iload19 (q := 340) dL_ahead_338 rfl ?_
        refine j_aload2 (q := 341) dL_ahead_340 rfl ?_
        refine j_aload6 (q := 343) dL_ahead_341 rfl ?_
        refine j_aload16 (q := 345) dL_ahead_343 rfl ?_
        refine j_callS6 (Mc := iL_premium) (q := 348) (c' := 0) (s' := 0) dL_ahead_345 rfl kS_L_premium jw_688 ⟨by decide, by decide⟩ rfl (Nat.le_refl _) (Nat.le_refl _) (ct_pr1 E hs0 hs1 h1 h2) ?_
        rw [u1_at]
        refine j_iload24 (q := 350) dL_ahead_348 rfl ?_
        refine j_icmp_gt (tgt := 358) (q := 353) dL_ahead_350 (by decide) rfl rfl (by first | exact wr_id' (by omega) (by omega) | with_reducible exact wr_bI _ | exact rfl) (fun h350 => ?_) (fun h350 => ?_)
        · have hw3 : w = zWtF z (cr k) i t mo (201 - d) (n + -1 + 1) := by rw [show n + -1 + 1 = n by omega, show 201 - d = (201 - (d + 1)) + 1 by omega, zWtF, if_neg (by omega)]; exact g2
          refine j_iload25 (q := 360) dL_ahead_358 rfl ?_
          refine j_istore25 (q := 362) dL_ahead_360 rfl rfl (by decide) ?_
          refine j_iinc26 (q := 365) dL_ahead_362 rfl rfl (by decide) ?_
          refine j_goto (tgt := 285) dL_ahead_365 (by decide) ?_
          exact ih _ _ _ (by omega) (by omega) hw3 (SY_c g3) kk
        · have hw3 : n = zWtF z (cr k) i t mo (201 - d) (n + -1 + 1) := by rw [show n + -1 + 1 = n by omega, show 201 - d = (201 - (d + 1)) + 1 by omega, zWtF, if_pos (by omega)]
          refine j_iload26 (q := 355) dL_ahead_353 rfl ?_
          refine j_goto (tgt := 360) dL_ahead_355 (by decide) ?_
          refine j_istore25 (q := 362) dL_ahead_360 rfl rfl (by decide) ?_
          refine j_iinc26 (q := 365) dL_ahead_362 rfl rfl (by decide) ?_
          refine j_goto (tgt := 285) dL_ahead_365 (by decide) ?_
          exact ih _ _ _ (by omega) (by omega) hw3 (SY_c g3) kk
      · refine j_iconst (q := 317) dL_ahead_316 rfl ?_
        refine j_goto (tgt := 333) dL_ahead_317 (by decide) ?_
        refine j_s6_0 (q := 334) dL_ahead_333 rfl hs1 (by omega) ?_
        refine j_mem (m' := lz (lz X false z) true (u1 (brZ z y 15) 1 (zNB (z 1 - n * z (15 + 6))))) (by first | rw [zNB_p (by omega) (by omega)] | rw [zNB_n (by omega) (by omega)]) ?_
        refine j_iload18 (q := 336) dL_ahead_334 rfl ?_
        refine j_iload22 (q := 338) dL_ahead_336 rfl ?_
        refine j_iload19 (q := 340) dL_ahead_338 rfl ?_
        refine j_aload2 (q := 341) dL_ahead_340 rfl ?_
        refine j_aload6 (q := 343) dL_ahead_341 rfl ?_
        refine j_aload16 (q := 345) dL_ahead_343 rfl ?_
        refine j_callS6 (Mc := iL_premium) (q := 348) (c' := 0) (s' := 0) dL_ahead_345 rfl kS_L_premium jw_688 ⟨by decide, by decide⟩ rfl (Nat.le_refl _) (Nat.le_refl _) (ct_pr1 E hs0 hs1 h1 h2) ?_
        rw [u1_at]
        refine j_iload24 (q := 350) dL_ahead_348 rfl ?_
        refine j_icmp_gt (tgt := 358) (q := 353) dL_ahead_350 (by decide) rfl rfl (by first | exact wr_id' (by omega) (by omega) | with_reducible exact wr_bI _ | exact rfl) (fun h350 => ?_) (fun h350 => ?_)
        · have hw3 : w = zWtF z (cr k) i t mo (201 - d) (n + -1 + 1) := by rw [show n + -1 + 1 = n by omega, show 201 - d = (201 - (d + 1)) + 1 by omega, zWtF, if_neg (by omega)]; exact g2
          refine j_iload25 (q := 360) dL_ahead_358 rfl ?_
          refine j_istore25 (q := 362) dL_ahead_360 rfl rfl (by decide) ?_
          refine j_iinc26 (q := 365) dL_ahead_362 rfl rfl (by decide) ?_
          refine j_goto (tgt := 285) dL_ahead_365 (by decide) ?_
          exact ih _ _ _ (by omega) (by omega) hw3 (SY_c g3) kk
        · have hw3 : n = zWtF z (cr k) i t mo (201 - d) (n + -1 + 1) := by rw [show n + -1 + 1 = n by omega, show 201 - d = (201 - (d + 1)) + 1 by omega, zWtF, if_pos (by omega)]
          refine j_iload26 (q := 355) dL_ahead_353 rfl ?_
          refine j_goto (tgt := 360) dL_ahead_355 (by decide) ?_
          refine j_istore25 (q := 362) dL_ahead_360 rfl rfl (by decide) ?_
          refine j_iinc26 (q := 365) dL_ahead_362 rfl rfl (by decide) ?_
          refine j_goto (tgt := 285) dL_ahead_365 (by decide) ?_
          exact ih _ _ _ (by omega) (by omega) hw3 (SY_c g3) kk

/-! plain mathematics: a plane copied; what could be saved -/
theorem bc_4 {A Q : Mem} {j : Int} (h : 0 ≤ j ∧ j < 64) : bcP A Q 4 j = Q 4 j := by
  simp only [bcP, bcA, bcI, bcT, bcD, bcC, cpP, up]
  simp [h.1, h.2]
theorem bc_5 {A Q : Mem} {j : Int} (h : 0 ≤ j ∧ j < 64) : bcP A Q 5 j = Q 5 j := by
  simp only [bcP, bcA, bcI, bcT, bcD, bcC, cpP, up]
  simp [h.1, h.2]
theorem bc_6 {A Q : Mem} {j : Int} (h : 0 ≤ j ∧ j < 64) : bcP A Q 6 j = Q 6 j := by
  simp only [bcP, bcA, bcI, bcT, bcD, bcC, cpP, up]
  simp [h.1, h.2]
theorem bc_7 {A Q : Mem} {j : Int} (h : 0 ≤ j ∧ j < 64) : bcP A Q 7 j = Q 7 j := by
  simp only [bcP, bcA, bcI, bcT, bcD, bcC, cpP, up]
  simp [h.1, h.2]
theorem bc_8 {A Q : Mem} {j : Int} (h : 0 ≤ j ∧ j < 64) : bcP A Q 8 j = Q 8 j := by
  simp only [bcP, bcA, bcI, bcT, bcD, bcC, cpP, up]
  simp [h.1, h.2]
theorem bc_9 {A Q : Mem} {j : Int} (h : 0 ≤ j ∧ j < 64) : bcP A Q 9 j = Q 9 j := by
  simp only [bcP, bcA, bcI, bcT, bcD, bcC, cpP, up]
  simp [h.1, h.2]
theorem bc_11 {A Q : Mem} {j : Int} (h : 0 ≤ j ∧ j < 64) : bcP A Q 11 j = Q 11 j := by
  simp only [bcP, bcA, bcI, bcT, bcD, bcC, cpP, up]
  simp [h.1, h.2]
theorem bc_12 {A Q : Mem} {j : Int} (h : 0 ≤ j ∧ j < 64) : bcP A Q 12 j = Q 12 j := by
  simp only [bcP, bcA, bcI, bcT, bcD, bcC, cpP, up]
  simp [h.1, h.2]
theorem bc_14 {A Q : Mem} {j : Int} (h : 0 ≤ j ∧ j < 6) : bcP A Q 14 j = Q 14 j := by
  simp only [bcP, bcA, bcI, bcT, bcD, bcC, cpP, up]
  simp [h.1, h.2]
theorem bc_15 {A Q : Mem} {j : Int} (h : 0 ≤ j ∧ j < 6) : bcP A Q 15 j = Q 15 j := by
  simp only [bcP, bcA, bcI, bcT, bcD, bcC, cpP, up]
  simp [h.1, h.2]
theorem bc_16 {A Q : Mem} {j : Int} (h : 0 ≤ j ∧ j < 6) : bcP A Q 16 j = Q 16 j := by
  simp only [bcP, bcA, bcI, bcT, bcD, bcC, cpP, up]
  simp [h.1, h.2]
theorem bc_18 {A Q : Mem} {j : Int} (h : 0 ≤ j ∧ j < 3) : bcP A Q 18 j = Q 18 j := by
  simp only [bcP, bcA, bcI, bcT, bcD, bcC, cpP, up]
  simp [h.1, h.2]
theorem bc_19 {A Q : Mem} {j : Int} (h : 0 ≤ j ∧ j < 3) : bcP A Q 19 j = Q 19 j := by
  simp only [bcP, bcA, bcI, bcT, bcD, bcC, cpP, up]
  simp [h.1, h.2]
theorem bc_20 {A Q : Mem} {j : Int} (h : 0 ≤ j ∧ j < 3) : bcP A Q 20 j = Q 20 j := by
  simp only [bcP, bcA, bcI, bcT, bcD, bcC, cpP, up]
  simp [h.1, h.2]
theorem bc_21 {A Q : Mem} {j : Int} (h : 0 ≤ j ∧ j < 3) : bcP A Q 21 j = Q 21 j := by
  simp only [bcP, bcA, bcI, bcT, bcD, bcC, cpP, up]
  simp [h.1, h.2]
theorem bc_22 {A Q : Mem} {j : Int} (h : 0 ≤ j ∧ j < 3) : bcP A Q 22 j = Q 22 j := by
  simp only [bcP, bcA, bcI, bcT, bcD, bcC, cpP, up]
  simp [h.1, h.2]
theorem bc_1 {A Q : Mem} {j : Int} (h : 0 ≤ j ∧ j < 8) : bcP A Q 1 j = Q 1 j := by
  simp only [bcP, bcA, bcI, bcT, bcD, bcC, cpP, up]
  simp [h.1, h.2]
theorem bc_2 {A Q : Mem} {j : Int} (h : 0 ≤ j ∧ j < 19) : bcP A Q 2 j = Q 2 j := by
  simp only [bcP, bcA, bcI, bcT, bcD, bcC, cpP, up]
  simp [h.1, h.2]
theorem bc_0_0 {A Q : Mem} : bcP A Q 0 0 = Q 0 0 := by
  simp only [bcP, bcA, bcI, bcT, bcD, bcC, cpP, up]
  simp
theorem bc_0_1 {A Q : Mem} : bcP A Q 0 1 = Q 0 1 := by
  simp only [bcP, bcA, bcI, bcT, bcD, bcC, cpP, up]
  simp
theorem bc_0_2 {A Q : Mem} : bcP A Q 0 2 = Q 0 2 := by
  simp only [bcP, bcA, bcI, bcT, bcD, bcC, cpP, up]
  simp
theorem bc_0_10 {A Q : Mem} : bcP A Q 0 10 = Q 0 10 := by
  simp only [bcP, bcA, bcI, bcT, bcD, bcC, cpP, up]
  simp
theorem bc_10_0 {A Q : Mem} : bcP A Q 10 0 = Q 10 0 := by
  simp only [bcP, bcA, bcI, bcT, bcD, bcC, cpP, up]
  simp
theorem bc_13_0 {A Q : Mem} : bcP A Q 13 0 = Q 13 0 := by
  simp only [bcP, bcA, bcI, bcT, bcD, bcC, cpP, up]
  simp
theorem bc_17_0 {A Q : Mem} : bcP A Q 17 0 = Q 17 0 := by
  simp only [bcP, bcA, bcI, bcT, bcD, bcC, cpP, up]
  simp
theorem bc_3_0 {A Q : Mem} : bcP A Q 3 0 = (lo (Q 3 0)).toInt := by
  simp only [bcP, bcA, bcI, bcT, bcD, bcC, cpP, up]
  simp
theorem bc_23 {A Q : Mem} {j : Int} (h : 0 ≤ j ∧ j < Q 0 10) : bcP A Q 23 j = Q 23 j := by
  simp only [bcP, bcA, bcI, bcT, bcD, bcC, cpP, up]
  simp [h.1, h.2]
theorem cOne_bc {A Q : Mem} {c : Int} : cOne (bcP A Q) c = cOne Q c := by unfold cOne; rw [bc_3_0, lo_toInt]
theorem RC_bc {A P : Mem} {z : Z} {dl : Int → Int} (h : RC P z dl) : RC (bcP A P) z dl := by
  refine ⟨?_, ?_, ?_, ?_, ?_, ?_, ?_, ?_, ?_, ?_, ?_, ?_, ?_, ?_, ?_, ?_, ?_, ?_, ?_, ?_, ?_, ?_, ?_⟩
  · rw [bc_0_0]; exact h.t0
  · rw [bc_0_1]; exact h.ht
  · rw [bc_0_2]; exact h.hs
  · intro x a b; rw [bc_1 ⟨a, b⟩]; exact h.st x a b
  · intro x a b; rw [bc_2 ⟨by omega, by omega⟩]; exact h.ta x a b
  · rw [bc_2 (by omega)]; exact h.t17
  · intro x a b; rw [cOne_bc]; exact h.bit x a b
  · intro x a b; rw [bc_4 ⟨a, b⟩]; exact h.sg x a b
  · intro x a b; rw [bc_5 ⟨a, b⟩]; exact h.wh x a b
  · intro x a b c; rw [bc_6 ⟨a, b⟩, bc_0_0]; exact h.le x a b c
  · intro x a b; rw [bc_7 ⟨a, b⟩]; exact h.by_ x a b
  · intro x a b c; rw [bc_8 ⟨a, b⟩, bc_0_0]; exact h.po x a b c
  · intro x a b; rw [bc_9 ⟨a, b⟩]; exact h.ls x a b
  · rw [bc_13_0]; exact h.tn
  · intro x a b; rw [bc_14 ⟨a, b⟩]; exact h.mo x a b
  · intro x a b; rw [bc_15 ⟨a, b⟩]; exact h.tl x a b
  · intro x a b; rw [bc_16 ⟨a, b⟩]; exact h.tp x a b
  · rw [bc_17_0]; exact h.im
  · intro x a b; rw [bc_18 ⟨a, b⟩]; exact h.fu x a b
  · intro x a b; rw [bc_19 ⟨a, b⟩]; exact h.ra x a b
  · intro x a b; rw [bc_20 ⟨a, b⟩]; exact h.co x a b
  · intro x a b; rw [bc_21 ⟨a, b⟩]; exact h.pr x a b
  · intro x a b; rw [bc_22 ⟨a, b⟩]; exact h.cp x a b
theorem RR_bc {A P : Mem} {z : Z} {T B K : Int} (h : RR P z T B K) : RR (bcP A P) z T B K := by
  obtain ⟨hR, hQ, hD, hV, hW, hI⟩ := h
  refine ⟨RC_bc hR, ?_, ?_, CV_bc hV, hW, hI⟩
  · intro i a b
    have := hQ i a b
    rw [bc_0_10, seg_cg (g := P 23) (P 0 10).toNat 0 (fun j k1 k2 => bc_23 (by omega)), this]
  · obtain ⟨⟨d1, d2⟩, d3⟩ := hD
    have hcd := hV.2.2.2.1.1
    have e : dL (bcP A P) = dL P := by
      unfold dL
      rw [bc_10_0]
      exact seg_cg (g := P 11) (P 10 0).toNat 0 (fun j k1 k2 => bc_11 (by omega))
    exact ⟨⟨by rw [e]; exact d1, fun c => by rw [e]; exact d2 c⟩, fun c a b => by rw [bc_12 ⟨a, b⟩]; exact d3 c a b⟩
theorem CX_bc {A P : Mem} (h : CX P) : CX (bcP A P) := fun j a b => by
  rw [bc_0_10] at b
  rw [bc_17_0, bc_23 ⟨a, b⟩]; exact h j a b
theorem RR_n {P : Mem} {z : Z} {T B K : Int} (h : RR P z T B K) : wr (P 10 0) = wr (zOwN z) := by
  obtain ⟨hR, hQ, hD, hV, hW, hI⟩ := h
  rw [(RD_ord hD hI hV (fun _ => 0)).2]
theorem R_svI {T B K : Int} : ∀ (k : Nat) (Q : Mem) (s : Z × (Int → Int)), RR Q s.1 T B K → RR (cSvI k Q) (zSbI k s).1 T B K := by
  intro k
  induction k with
  | zero => intro Q s h; exact h
  | succ k ih =>
    intro Q s h
    rw [cSvI, zSbI, RR_n h]
    by_cases q : 0 < wr (zOwN s.1)
    · rw [if_pos q, if_pos q]
      have b := zOw_b s.1
      rw [wr_id' (by omega) (by omega)] at q
      exact ih (cFb Q) (zWb s.1 (zOrd s.1 s.2 0), zOrd s.1 s.2) (R_fb s.2 q h).1
    · rw [if_neg q, if_neg q]; exact h
theorem R_svF {B K : Int} {p : Nat} : ∀ (n : Nat) (Q : Mem) (s : Z × (Int → Int)) {T : Int}, T + n ≤ 20000 → RR Q s.1 T B K → ∃ T', RR (cSvF p n Q) (zSbF p n s).1 T' B K := by
  intro n
  induction n with
  | zero => intro Q s T _ h; exact ⟨T, h⟩
  | succ n ih =>
    intro Q s T hT h
    rw [cSvF, zSbF, RR_n h]
    by_cases q : 0 < wr (zOwN s.1)
    · rw [if_pos q, if_pos q]
      have h1 := R_svI p Q s h
      have h2 := R_tk (zSbI p s).2 (by omega) h1
      have h3 : RR (cTk (cSvI p Q)) (zSb1 p s).1 (T + 1) B K := by simp only [zSb1]; exact h2
      exact ih _ _ (by omega) h3
    · rw [if_neg q, if_neg q]; exact ⟨T, h⟩
theorem q_sv {A P : Mem} {z : Z} {T B K p : Int} (o : Int → Int) (hT : T + 64 ≤ 20000) (h : RR P z T B K) : cSvE A P p 2 10 - P 2 10 = zSvb z p o := by
  obtain ⟨T', h'⟩ := R_svF (p := p.toNat) 64 (bcP A P) (z, o) (T := T) (by omega) (RR_bc h)
  have e1 := h'.1.ta 10 (by decide) (by decide)
  have e2 := h.1.ta 10 (by decide) (by decide)
  rw [show (10 - 4 : Int) = 6 by decide] at e1 e2
  unfold cSvE zSvb zSbE
  rw [e1, e2]

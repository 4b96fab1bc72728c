/-! plain mathematics: a plane and the model's row -/
def RC (P : Mem) (z : Z) (dl : Int → Int) : Prop :=
  (P 0 0 = z 0) ∧
  (P 0 1 = z 1) ∧
  (P 0 2 = z 12) ∧
  (∀ s : Int, 0 ≤ s → s < 8 → P 1 s = z (15 + s)) ∧
  (∀ w : Int, 8 ≤ w → w < 16 → P 2 w = z (w - 4)) ∧
  (P 2 17 = z 13) ∧
  (∀ c : Int, 0 ≤ c → c < 64 → bI (cOne P c) = z (59 + 9 * c)) ∧
  (∀ c : Int, 0 ≤ c → c < 64 → P 4 c = z (59 + 9 * c + 1)) ∧
  (∀ c : Int, 0 ≤ c → c < 64 → P 5 c + 1 = z (59 + 9 * c + 2)) ∧
  (∀ c : Int, 0 ≤ c → c < 64 → 0 < z (59 + 9 * c + 2) → P 6 c + dl c = P 0 0 + z (59 + 9 * c + 3)) ∧
  (∀ c : Int, 0 ≤ c → c < 64 → P 7 c + 1 = z (59 + 9 * c + 4)) ∧
  (∀ c : Int, 0 ≤ c → c < 64 → 0 < z (59 + 9 * c + 4) → P 8 c + dl c = P 0 0 + z (59 + 9 * c + 5)) ∧
  (∀ c : Int, 0 ≤ c → c < 64 → P 9 c = z (59 + 9 * c + 8)) ∧
  (P 13 0 = z 2) ∧
  (∀ t : Int, 0 ≤ t → t < 6 → P 14 t = z (23 + 3 * t)) ∧
  (∀ t : Int, 0 ≤ t → t < 6 → P 15 t = z (23 + 3 * t + 1)) ∧
  (∀ t : Int, 0 ≤ t → t < 6 → P 16 t = z (23 + 3 * t + 2)) ∧
  (P 17 0 = z 3) ∧
  (∀ i : Int, 0 ≤ i → i < 3 → P 18 i = z (41 + 6 * i)) ∧
  (∀ i : Int, 0 ≤ i → i < 3 → P 19 i = z (41 + 6 * i + 1)) ∧
  (∀ i : Int, 0 ≤ i → i < 3 → P 20 i = z (41 + 6 * i + 2)) ∧
  (∀ i : Int, 0 ≤ i → i < 3 → P 21 i = z (41 + 6 * i + 4)) ∧
  (∀ i : Int, 0 ≤ i → i < 3 → P 22 i = z (41 + 6 * i + 3))
theorem RC.t0 {P : Mem} {z : Z} {dl : Int → Int} (h : RC P z dl) : (P 0 0 = z 0) := h.1
theorem RC.ht {P : Mem} {z : Z} {dl : Int → Int} (h : RC P z dl) : (P 0 1 = z 1) := h.2.1
theorem RC.hs {P : Mem} {z : Z} {dl : Int → Int} (h : RC P z dl) : (P 0 2 = z 12) := h.2.2.1
theorem RC.st {P : Mem} {z : Z} {dl : Int → Int} (h : RC P z dl) : (∀ s : Int, 0 ≤ s → s < 8 → P 1 s = z (15 + s)) := h.2.2.2.1
theorem RC.ta {P : Mem} {z : Z} {dl : Int → Int} (h : RC P z dl) : (∀ w : Int, 8 ≤ w → w < 16 → P 2 w = z (w - 4)) := h.2.2.2.2.1
theorem RC.t17 {P : Mem} {z : Z} {dl : Int → Int} (h : RC P z dl) : (P 2 17 = z 13) := h.2.2.2.2.2.1
theorem RC.bit {P : Mem} {z : Z} {dl : Int → Int} (h : RC P z dl) : (∀ c : Int, 0 ≤ c → c < 64 → bI (cOne P c) = z (59 + 9 * c)) := h.2.2.2.2.2.2.1
theorem RC.sg {P : Mem} {z : Z} {dl : Int → Int} (h : RC P z dl) : (∀ c : Int, 0 ≤ c → c < 64 → P 4 c = z (59 + 9 * c + 1)) := h.2.2.2.2.2.2.2.1
theorem RC.wh {P : Mem} {z : Z} {dl : Int → Int} (h : RC P z dl) : (∀ c : Int, 0 ≤ c → c < 64 → P 5 c + 1 = z (59 + 9 * c + 2)) := h.2.2.2.2.2.2.2.2.1
theorem RC.le {P : Mem} {z : Z} {dl : Int → Int} (h : RC P z dl) : (∀ c : Int, 0 ≤ c → c < 64 → 0 < z (59 + 9 * c + 2) → P 6 c + dl c = P 0 0 + z (59 + 9 * c + 3)) := h.2.2.2.2.2.2.2.2.2.1
theorem RC.by_ {P : Mem} {z : Z} {dl : Int → Int} (h : RC P z dl) : (∀ c : Int, 0 ≤ c → c < 64 → P 7 c + 1 = z (59 + 9 * c + 4)) := h.2.2.2.2.2.2.2.2.2.2.1
theorem RC.po {P : Mem} {z : Z} {dl : Int → Int} (h : RC P z dl) : (∀ c : Int, 0 ≤ c → c < 64 → 0 < z (59 + 9 * c + 4) → P 8 c + dl c = P 0 0 + z (59 + 9 * c + 5)) := h.2.2.2.2.2.2.2.2.2.2.2.1
theorem RC.ls {P : Mem} {z : Z} {dl : Int → Int} (h : RC P z dl) : (∀ c : Int, 0 ≤ c → c < 64 → P 9 c = z (59 + 9 * c + 8)) := h.2.2.2.2.2.2.2.2.2.2.2.2.1
theorem RC.tn {P : Mem} {z : Z} {dl : Int → Int} (h : RC P z dl) : (P 13 0 = z 2) := h.2.2.2.2.2.2.2.2.2.2.2.2.2.1
theorem RC.mo {P : Mem} {z : Z} {dl : Int → Int} (h : RC P z dl) : (∀ t : Int, 0 ≤ t → t < 6 → P 14 t = z (23 + 3 * t)) := h.2.2.2.2.2.2.2.2.2.2.2.2.2.2.1
theorem RC.tl {P : Mem} {z : Z} {dl : Int → Int} (h : RC P z dl) : (∀ t : Int, 0 ≤ t → t < 6 → P 15 t = z (23 + 3 * t + 1)) := h.2.2.2.2.2.2.2.2.2.2.2.2.2.2.2.1
theorem RC.tp {P : Mem} {z : Z} {dl : Int → Int} (h : RC P z dl) : (∀ t : Int, 0 ≤ t → t < 6 → P 16 t = z (23 + 3 * t + 2)) := h.2.2.2.2.2.2.2.2.2.2.2.2.2.2.2.2.1
theorem RC.im {P : Mem} {z : Z} {dl : Int → Int} (h : RC P z dl) : (P 17 0 = z 3) := h.2.2.2.2.2.2.2.2.2.2.2.2.2.2.2.2.2.1
theorem RC.fu {P : Mem} {z : Z} {dl : Int → Int} (h : RC P z dl) : (∀ i : Int, 0 ≤ i → i < 3 → P 18 i = z (41 + 6 * i)) := h.2.2.2.2.2.2.2.2.2.2.2.2.2.2.2.2.2.2.1
theorem RC.ra {P : Mem} {z : Z} {dl : Int → Int} (h : RC P z dl) : (∀ i : Int, 0 ≤ i → i < 3 → P 19 i = z (41 + 6 * i + 1)) := h.2.2.2.2.2.2.2.2.2.2.2.2.2.2.2.2.2.2.2.1
theorem RC.co {P : Mem} {z : Z} {dl : Int → Int} (h : RC P z dl) : (∀ i : Int, 0 ≤ i → i < 3 → P 20 i = z (41 + 6 * i + 2)) := h.2.2.2.2.2.2.2.2.2.2.2.2.2.2.2.2.2.2.2.2.1
theorem RC.pr {P : Mem} {z : Z} {dl : Int → Int} (h : RC P z dl) : (∀ i : Int, 0 ≤ i → i < 3 → P 21 i = z (41 + 6 * i + 4)) := h.2.2.2.2.2.2.2.2.2.2.2.2.2.2.2.2.2.2.2.2.2.1
theorem RC.cp {P : Mem} {z : Z} {dl : Int → Int} (h : RC P z dl) : (∀ i : Int, 0 ≤ i → i < 3 → P 22 i = z (41 + 6 * i + 3)) := h.2.2.2.2.2.2.2.2.2.2.2.2.2.2.2.2.2.2.2.2.2.2
theorem cOne_cg {P Q : Mem} {c : Int} (h : Q 3 0 = P 3 0) : cOne Q c = cOne P c := by unfold cOne; rw [h]
theorem RC_heat {P : Mem} {z : Z} {dl : Int → Int} {v : Int} (h : RC P z dl)  : RC (up P 0 1 v) (u1 z 1 v) dl := by
  refine ⟨?_, ?_, ?_, ?_, ?_, ?_, ?_, ?_, ?_, ?_, ?_, ?_, ?_, ?_, ?_, ?_, ?_, ?_, ?_, ?_, ?_, ?_, ?_⟩
  · skip; have k0 := h.t0; simp only [up, u1]; grind
  · skip; have k0 := h.ht; simp only [up, u1]; grind
  · skip; have k0 := h.hs; simp only [up, u1]; grind
  · intro x k1 k2; have k0 := h.st x k1 k2; simp only [up, u1]; grind
  · intro x k1 k2; have k0 := h.ta x k1 k2; simp only [up, u1]; grind
  · skip; have k0 := h.t17; simp only [up, u1]; grind
  · intro x k1 k2; have k0 := h.bit x k1 k2; rw [cOne_cg (P := P) (Q := up P 0 1 v) rfl]; simp only [u1]; grind
  · intro x k1 k2; have k0 := h.sg x k1 k2; simp only [up, u1]; grind
  · intro x k1 k2; have k0 := h.wh x k1 k2; simp only [up, u1]; grind
  · intro x k1 k2 k3; have k0 := h.le x k1 k2; simp only [up, u1] at k3 ⊢; grind
  · intro x k1 k2; have k0 := h.by_ x k1 k2; simp only [up, u1]; grind
  · intro x k1 k2 k3; have k0 := h.po x k1 k2; simp only [up, u1] at k3 ⊢; grind
  · intro x k1 k2; have k0 := h.ls x k1 k2; simp only [up, u1]; grind
  · skip; have k0 := h.tn; simp only [up, u1]; grind
  · intro x k1 k2; have k0 := h.mo x k1 k2; simp only [up, u1]; grind
  · intro x k1 k2; have k0 := h.tl x k1 k2; simp only [up, u1]; grind
  · intro x k1 k2; have k0 := h.tp x k1 k2; simp only [up, u1]; grind
  · skip; have k0 := h.im; simp only [up, u1]; grind
  · intro x k1 k2; have k0 := h.fu x k1 k2; simp only [up, u1]; grind
  · intro x k1 k2; have k0 := h.ra x k1 k2; simp only [up, u1]; grind
  · intro x k1 k2; have k0 := h.co x k1 k2; simp only [up, u1]; grind
  · intro x k1 k2; have k0 := h.pr x k1 k2; simp only [up, u1]; grind
  · intro x k1 k2; have k0 := h.cp x k1 k2; simp only [up, u1]; grind
theorem RC_house {P : Mem} {z : Z} {dl : Int → Int} {v : Int} (h : RC P z dl)  : RC (up P 0 2 v) (u1 z 12 v) dl := by
  refine ⟨?_, ?_, ?_, ?_, ?_, ?_, ?_, ?_, ?_, ?_, ?_, ?_, ?_, ?_, ?_, ?_, ?_, ?_, ?_, ?_, ?_, ?_, ?_⟩
  · skip; have k0 := h.t0; simp only [up, u1]; grind
  · skip; have k0 := h.ht; simp only [up, u1]; grind
  · skip; have k0 := h.hs; simp only [up, u1]; grind
  · intro x k1 k2; have k0 := h.st x k1 k2; simp only [up, u1]; grind
  · intro x k1 k2; have k0 := h.ta x k1 k2; simp only [up, u1]; grind
  · skip; have k0 := h.t17; simp only [up, u1]; grind
  · intro x k1 k2; have k0 := h.bit x k1 k2; rw [cOne_cg (P := P) (Q := up P 0 2 v) rfl]; simp only [u1]; grind
  · intro x k1 k2; have k0 := h.sg x k1 k2; simp only [up, u1]; grind
  · intro x k1 k2; have k0 := h.wh x k1 k2; simp only [up, u1]; grind
  · intro x k1 k2 k3; have k0 := h.le x k1 k2; simp only [up, u1] at k3 ⊢; grind
  · intro x k1 k2; have k0 := h.by_ x k1 k2; simp only [up, u1]; grind
  · intro x k1 k2 k3; have k0 := h.po x k1 k2; simp only [up, u1] at k3 ⊢; grind
  · intro x k1 k2; have k0 := h.ls x k1 k2; simp only [up, u1]; grind
  · skip; have k0 := h.tn; simp only [up, u1]; grind
  · intro x k1 k2; have k0 := h.mo x k1 k2; simp only [up, u1]; grind
  · intro x k1 k2; have k0 := h.tl x k1 k2; simp only [up, u1]; grind
  · intro x k1 k2; have k0 := h.tp x k1 k2; simp only [up, u1]; grind
  · skip; have k0 := h.im; simp only [up, u1]; grind
  · intro x k1 k2; have k0 := h.fu x k1 k2; simp only [up, u1]; grind
  · intro x k1 k2; have k0 := h.ra x k1 k2; simp only [up, u1]; grind
  · intro x k1 k2; have k0 := h.co x k1 k2; simp only [up, u1]; grind
  · intro x k1 k2; have k0 := h.pr x k1 k2; simp only [up, u1]; grind
  · intro x k1 k2; have k0 := h.cp x k1 k2; simp only [up, u1]; grind
theorem RC_set {P : Mem} {z : Z} {dl : Int → Int} {s v : Int} (h : RC P z dl) (hs : 0 ≤ s ∧ s < 8) : RC (up P 1 s v) (u1 z (15 + s) v) dl := by
  refine ⟨?_, ?_, ?_, ?_, ?_, ?_, ?_, ?_, ?_, ?_, ?_, ?_, ?_, ?_, ?_, ?_, ?_, ?_, ?_, ?_, ?_, ?_, ?_⟩
  · skip; have k0 := h.t0; simp only [up, u1]; grind
  · skip; have k0 := h.ht; simp only [up, u1]; grind
  · skip; have k0 := h.hs; simp only [up, u1]; grind
  · intro x k1 k2; have k0 := h.st x k1 k2; simp only [up, u1]; grind
  · intro x k1 k2; have k0 := h.ta x k1 k2; simp only [up, u1]; grind
  · skip; have k0 := h.t17; simp only [up, u1]; grind
  · intro x k1 k2; have k0 := h.bit x k1 k2; rw [cOne_cg (P := P) (Q := up P 1 s v) rfl]; simp only [u1]; grind
  · intro x k1 k2; have k0 := h.sg x k1 k2; simp only [up, u1]; grind
  · intro x k1 k2; have k0 := h.wh x k1 k2; simp only [up, u1]; grind
  · intro x k1 k2 k3; have k0 := h.le x k1 k2; simp only [up, u1] at k3 ⊢; grind
  · intro x k1 k2; have k0 := h.by_ x k1 k2; simp only [up, u1]; grind
  · intro x k1 k2 k3; have k0 := h.po x k1 k2; simp only [up, u1] at k3 ⊢; grind
  · intro x k1 k2; have k0 := h.ls x k1 k2; simp only [up, u1]; grind
  · skip; have k0 := h.tn; simp only [up, u1]; grind
  · intro x k1 k2; have k0 := h.mo x k1 k2; simp only [up, u1]; grind
  · intro x k1 k2; have k0 := h.tl x k1 k2; simp only [up, u1]; grind
  · intro x k1 k2; have k0 := h.tp x k1 k2; simp only [up, u1]; grind
  · skip; have k0 := h.im; simp only [up, u1]; grind
  · intro x k1 k2; have k0 := h.fu x k1 k2; simp only [up, u1]; grind
  · intro x k1 k2; have k0 := h.ra x k1 k2; simp only [up, u1]; grind
  · intro x k1 k2; have k0 := h.co x k1 k2; simp only [up, u1]; grind
  · intro x k1 k2; have k0 := h.pr x k1 k2; simp only [up, u1]; grind
  · intro x k1 k2; have k0 := h.cp x k1 k2; simp only [up, u1]; grind
theorem RC_tally {P : Mem} {z : Z} {dl : Int → Int} {w v : Int} (h : RC P z dl) (hw : 8 ≤ w ∧ w < 16) : RC (up P 2 w v) (u1 z (w - 4) v) dl := by
  refine ⟨?_, ?_, ?_, ?_, ?_, ?_, ?_, ?_, ?_, ?_, ?_, ?_, ?_, ?_, ?_, ?_, ?_, ?_, ?_, ?_, ?_, ?_, ?_⟩
  · skip; have k0 := h.t0; simp only [up, u1]; grind
  · skip; have k0 := h.ht; simp only [up, u1]; grind
  · skip; have k0 := h.hs; simp only [up, u1]; grind
  · intro x k1 k2; have k0 := h.st x k1 k2; simp only [up, u1]; grind
  · intro x k1 k2; have k0 := h.ta x k1 k2; simp only [up, u1]; grind
  · skip; have k0 := h.t17; simp only [up, u1]; grind
  · intro x k1 k2; have k0 := h.bit x k1 k2; rw [cOne_cg (P := P) (Q := up P 2 w v) rfl]; simp only [u1]; grind
  · intro x k1 k2; have k0 := h.sg x k1 k2; simp only [up, u1]; grind
  · intro x k1 k2; have k0 := h.wh x k1 k2; simp only [up, u1]; grind
  · intro x k1 k2 k3; have k0 := h.le x k1 k2; simp only [up, u1] at k3 ⊢; grind
  · intro x k1 k2; have k0 := h.by_ x k1 k2; simp only [up, u1]; grind
  · intro x k1 k2 k3; have k0 := h.po x k1 k2; simp only [up, u1] at k3 ⊢; grind
  · intro x k1 k2; have k0 := h.ls x k1 k2; simp only [up, u1]; grind
  · skip; have k0 := h.tn; simp only [up, u1]; grind
  · intro x k1 k2; have k0 := h.mo x k1 k2; simp only [up, u1]; grind
  · intro x k1 k2; have k0 := h.tl x k1 k2; simp only [up, u1]; grind
  · intro x k1 k2; have k0 := h.tp x k1 k2; simp only [up, u1]; grind
  · skip; have k0 := h.im; simp only [up, u1]; grind
  · intro x k1 k2; have k0 := h.fu x k1 k2; simp only [up, u1]; grind
  · intro x k1 k2; have k0 := h.ra x k1 k2; simp only [up, u1]; grind
  · intro x k1 k2; have k0 := h.co x k1 k2; simp only [up, u1]; grind
  · intro x k1 k2; have k0 := h.pr x k1 k2; simp only [up, u1]; grind
  · intro x k1 k2; have k0 := h.cp x k1 k2; simp only [up, u1]; grind
theorem RC_spent {P : Mem} {z : Z} {dl : Int → Int} {v : Int} (h : RC P z dl)  : RC (up P 2 17 v) (u1 z 13 v) dl := by
  refine ⟨?_, ?_, ?_, ?_, ?_, ?_, ?_, ?_, ?_, ?_, ?_, ?_, ?_, ?_, ?_, ?_, ?_, ?_, ?_, ?_, ?_, ?_, ?_⟩
  · skip; have k0 := h.t0; simp only [up, u1]; grind
  · skip; have k0 := h.ht; simp only [up, u1]; grind
  · skip; have k0 := h.hs; simp only [up, u1]; grind
  · intro x k1 k2; have k0 := h.st x k1 k2; simp only [up, u1]; grind
  · intro x k1 k2; have k0 := h.ta x k1 k2; simp only [up, u1]; grind
  · skip; have k0 := h.t17; simp only [up, u1]; grind
  · intro x k1 k2; have k0 := h.bit x k1 k2; rw [cOne_cg (P := P) (Q := up P 2 17 v) rfl]; simp only [u1]; grind
  · intro x k1 k2; have k0 := h.sg x k1 k2; simp only [up, u1]; grind
  · intro x k1 k2; have k0 := h.wh x k1 k2; simp only [up, u1]; grind
  · intro x k1 k2 k3; have k0 := h.le x k1 k2; simp only [up, u1] at k3 ⊢; grind
  · intro x k1 k2; have k0 := h.by_ x k1 k2; simp only [up, u1]; grind
  · intro x k1 k2 k3; have k0 := h.po x k1 k2; simp only [up, u1] at k3 ⊢; grind
  · intro x k1 k2; have k0 := h.ls x k1 k2; simp only [up, u1]; grind
  · skip; have k0 := h.tn; simp only [up, u1]; grind
  · intro x k1 k2; have k0 := h.mo x k1 k2; simp only [up, u1]; grind
  · intro x k1 k2; have k0 := h.tl x k1 k2; simp only [up, u1]; grind
  · intro x k1 k2; have k0 := h.tp x k1 k2; simp only [up, u1]; grind
  · skip; have k0 := h.im; simp only [up, u1]; grind
  · intro x k1 k2; have k0 := h.fu x k1 k2; simp only [up, u1]; grind
  · intro x k1 k2; have k0 := h.ra x k1 k2; simp only [up, u1]; grind
  · intro x k1 k2; have k0 := h.co x k1 k2; simp only [up, u1]; grind
  · intro x k1 k2; have k0 := h.pr x k1 k2; simp only [up, u1]; grind
  · intro x k1 k2; have k0 := h.cp x k1 k2; simp only [up, u1]; grind
theorem RC_str {P : Mem} {z : Z} {dl : Int → Int} {c v : Int} (h : RC P z dl) (hc : 0 ≤ c ∧ c < 64) : RC (up P 4 c v) (u1 z (59 + 9 * c + 1) v) dl := by
  refine ⟨?_, ?_, ?_, ?_, ?_, ?_, ?_, ?_, ?_, ?_, ?_, ?_, ?_, ?_, ?_, ?_, ?_, ?_, ?_, ?_, ?_, ?_, ?_⟩
  · skip; have k0 := h.t0; simp only [up, u1]; grind
  · skip; have k0 := h.ht; simp only [up, u1]; grind
  · skip; have k0 := h.hs; simp only [up, u1]; grind
  · intro x k1 k2; have k0 := h.st x k1 k2; simp only [up, u1]; grind
  · intro x k1 k2; have k0 := h.ta x k1 k2; simp only [up, u1]; grind
  · skip; have k0 := h.t17; simp only [up, u1]; grind
  · intro x k1 k2; have k0 := h.bit x k1 k2; rw [cOne_cg (P := P) (Q := up P 4 c v) rfl]; simp only [u1]; grind
  · intro x k1 k2; have k0 := h.sg x k1 k2; simp only [up, u1]; grind
  · intro x k1 k2; have k0 := h.wh x k1 k2; simp only [up, u1]; grind
  · intro x k1 k2 k3; have k0 := h.le x k1 k2; simp only [up, u1] at k3 ⊢; grind
  · intro x k1 k2; have k0 := h.by_ x k1 k2; simp only [up, u1]; grind
  · intro x k1 k2 k3; have k0 := h.po x k1 k2; simp only [up, u1] at k3 ⊢; grind
  · intro x k1 k2; have k0 := h.ls x k1 k2; simp only [up, u1]; grind
  · skip; have k0 := h.tn; simp only [up, u1]; grind
  · intro x k1 k2; have k0 := h.mo x k1 k2; simp only [up, u1]; grind
  · intro x k1 k2; have k0 := h.tl x k1 k2; simp only [up, u1]; grind
  · intro x k1 k2; have k0 := h.tp x k1 k2; simp only [up, u1]; grind
  · skip; have k0 := h.im; simp only [up, u1]; grind
  · intro x k1 k2; have k0 := h.fu x k1 k2; simp only [up, u1]; grind
  · intro x k1 k2; have k0 := h.ra x k1 k2; simp only [up, u1]; grind
  · intro x k1 k2; have k0 := h.co x k1 k2; simp only [up, u1]; grind
  · intro x k1 k2; have k0 := h.pr x k1 k2; simp only [up, u1]; grind
  · intro x k1 k2; have k0 := h.cp x k1 k2; simp only [up, u1]; grind
theorem RC_bit {P : Mem} {z : Z} {dl : Int → Int} {c : Int} {b : Bool} (h : RC P z dl) (hc : 0 ≤ c ∧ c < 64) : RC (cPut P c b) (u1 z (59 + 9 * c) (bI b)) dl := by
  refine ⟨?_, ?_, ?_, ?_, ?_, ?_, ?_, ?_, ?_, ?_, ?_, ?_, ?_, ?_, ?_, ?_, ?_, ?_, ?_, ?_, ?_, ?_, ?_⟩
  · (try intro x k1 k2); (try intro k3); have k0 := h.t0; simp only [cPut, up, u1]; grind
  · (try intro x k1 k2); (try intro k3); have k0 := h.ht; simp only [cPut, up, u1]; grind
  · (try intro x k1 k2); (try intro k3); have k0 := h.hs; simp only [cPut, up, u1]; grind
  · (try intro x k1 k2); (try intro k3); have k0 := h.st x k1 k2; simp only [cPut, up, u1]; grind
  · (try intro x k1 k2); (try intro k3); have k0 := h.ta x k1 k2; simp only [cPut, up, u1]; grind
  · (try intro x k1 k2); (try intro k3); have k0 := h.t17; simp only [cPut, up, u1]; grind
  · intro x k1 k2; have k0 := h.bit x k1 k2; rw [cOne_put hc ⟨k1, k2⟩]; simp only [u1]; grind
  · (try intro x k1 k2); (try intro k3); have k0 := h.sg x k1 k2; simp only [cPut, up, u1]; grind
  · (try intro x k1 k2); (try intro k3); have k0 := h.wh x k1 k2; simp only [cPut, up, u1]; grind
  · (try intro x k1 k2); (try intro k3); have k0 := h.le x k1 k2; simp only [cPut, up, u1] at k3 ⊢; grind
  · (try intro x k1 k2); (try intro k3); have k0 := h.by_ x k1 k2; simp only [cPut, up, u1]; grind
  · (try intro x k1 k2); (try intro k3); have k0 := h.po x k1 k2; simp only [cPut, up, u1] at k3 ⊢; grind
  · (try intro x k1 k2); (try intro k3); have k0 := h.ls x k1 k2; simp only [cPut, up, u1]; grind
  · (try intro x k1 k2); (try intro k3); have k0 := h.tn; simp only [cPut, up, u1]; grind
  · (try intro x k1 k2); (try intro k3); have k0 := h.mo x k1 k2; simp only [cPut, up, u1]; grind
  · (try intro x k1 k2); (try intro k3); have k0 := h.tl x k1 k2; simp only [cPut, up, u1]; grind
  · (try intro x k1 k2); (try intro k3); have k0 := h.tp x k1 k2; simp only [cPut, up, u1]; grind
  · (try intro x k1 k2); (try intro k3); have k0 := h.im; simp only [cPut, up, u1]; grind
  · (try intro x k1 k2); (try intro k3); have k0 := h.fu x k1 k2; simp only [cPut, up, u1]; grind
  · (try intro x k1 k2); (try intro k3); have k0 := h.ra x k1 k2; simp only [cPut, up, u1]; grind
  · (try intro x k1 k2); (try intro k3); have k0 := h.co x k1 k2; simp only [cPut, up, u1]; grind
  · (try intro x k1 k2); (try intro k3); have k0 := h.pr x k1 k2; simp only [cPut, up, u1]; grind
  · (try intro x k1 k2); (try intro k3); have k0 := h.cp x k1 k2; simp only [cPut, up, u1]; grind
theorem RC_endl {P : Mem} {z : Z} {dl : Int → Int} {c : Int} (h : RC P z dl) (hc : 0 ≤ c ∧ c < 64) : RC (up P 5 c (-1)) (u1 z (59 + 9 * c + 2) 0) dl := by
  refine ⟨?_, ?_, ?_, ?_, ?_, ?_, ?_, ?_, ?_, ?_, ?_, ?_, ?_, ?_, ?_, ?_, ?_, ?_, ?_, ?_, ?_, ?_, ?_⟩
  · skip; have k0 := h.t0; simp only [up, u1]; grind
  · skip; have k0 := h.ht; simp only [up, u1]; grind
  · skip; have k0 := h.hs; simp only [up, u1]; grind
  · intro x k1 k2; have k0 := h.st x k1 k2; simp only [up, u1]; grind
  · intro x k1 k2; have k0 := h.ta x k1 k2; simp only [up, u1]; grind
  · skip; have k0 := h.t17; simp only [up, u1]; grind
  · intro x k1 k2; have k0 := h.bit x k1 k2; rw [cOne_cg (P := P) (Q := up P 5 c (-1)) rfl]; simp only [u1]; grind
  · intro x k1 k2; have k0 := h.sg x k1 k2; simp only [up, u1]; grind
  · intro x k1 k2; have k0 := h.wh x k1 k2; simp only [up, u1]; grind
  · intro x k1 k2 k3; have k0 := h.le x k1 k2; simp only [up, u1] at k3 ⊢; grind
  · intro x k1 k2; have k0 := h.by_ x k1 k2; simp only [up, u1]; grind
  · intro x k1 k2 k3; have k0 := h.po x k1 k2; simp only [up, u1] at k3 ⊢; grind
  · intro x k1 k2; have k0 := h.ls x k1 k2; simp only [up, u1]; grind
  · skip; have k0 := h.tn; simp only [up, u1]; grind
  · intro x k1 k2; have k0 := h.mo x k1 k2; simp only [up, u1]; grind
  · intro x k1 k2; have k0 := h.tl x k1 k2; simp only [up, u1]; grind
  · intro x k1 k2; have k0 := h.tp x k1 k2; simp only [up, u1]; grind
  · skip; have k0 := h.im; simp only [up, u1]; grind
  · intro x k1 k2; have k0 := h.fu x k1 k2; simp only [up, u1]; grind
  · intro x k1 k2; have k0 := h.ra x k1 k2; simp only [up, u1]; grind
  · intro x k1 k2; have k0 := h.co x k1 k2; simp only [up, u1]; grind
  · intro x k1 k2; have k0 := h.pr x k1 k2; simp only [up, u1]; grind
  · intro x k1 k2; have k0 := h.cp x k1 k2; simp only [up, u1]; grind
theorem RC_lease {P : Mem} {z : Z} {dl : Int → Int} {c t k : Int} (h : RC P z dl) (hc : 0 ≤ c ∧ c < 64) : RC (up (up P 5 c t) 6 c (P 0 0 + k - dl c)) (u1 (u1 z (59 + 9 * c + 2) (t + 1)) (59 + 9 * c + 3) k) dl := by
  refine ⟨?_, ?_, ?_, ?_, ?_, ?_, ?_, ?_, ?_, ?_, ?_, ?_, ?_, ?_, ?_, ?_, ?_, ?_, ?_, ?_, ?_, ?_, ?_⟩
  · skip; have k0 := h.t0; simp only [up, u1]; grind
  · skip; have k0 := h.ht; simp only [up, u1]; grind
  · skip; have k0 := h.hs; simp only [up, u1]; grind
  · intro x k1 k2; have k0 := h.st x k1 k2; simp only [up, u1]; grind
  · intro x k1 k2; have k0 := h.ta x k1 k2; simp only [up, u1]; grind
  · skip; have k0 := h.t17; simp only [up, u1]; grind
  · intro x k1 k2; have k0 := h.bit x k1 k2; rw [cOne_cg (P := P) (Q := up (up P 5 c t) 6 c (P 0 0 + k - dl c)) rfl]; simp only [u1]; grind
  · intro x k1 k2; have k0 := h.sg x k1 k2; simp only [up, u1]; grind
  · intro x k1 k2; have k0 := h.wh x k1 k2; simp only [up, u1]; grind
  · intro x k1 k2 k3; have k0 := h.le x k1 k2; simp only [up, u1] at k3 ⊢; grind
  · intro x k1 k2; have k0 := h.by_ x k1 k2; simp only [up, u1]; grind
  · intro x k1 k2 k3; have k0 := h.po x k1 k2; simp only [up, u1] at k3 ⊢; grind
  · intro x k1 k2; have k0 := h.ls x k1 k2; simp only [up, u1]; grind
  · skip; have k0 := h.tn; simp only [up, u1]; grind
  · intro x k1 k2; have k0 := h.mo x k1 k2; simp only [up, u1]; grind
  · intro x k1 k2; have k0 := h.tl x k1 k2; simp only [up, u1]; grind
  · intro x k1 k2; have k0 := h.tp x k1 k2; simp only [up, u1]; grind
  · skip; have k0 := h.im; simp only [up, u1]; grind
  · intro x k1 k2; have k0 := h.fu x k1 k2; simp only [up, u1]; grind
  · intro x k1 k2; have k0 := h.ra x k1 k2; simp only [up, u1]; grind
  · intro x k1 k2; have k0 := h.co x k1 k2; simp only [up, u1]; grind
  · intro x k1 k2; have k0 := h.pr x k1 k2; simp only [up, u1]; grind
  · intro x k1 k2; have k0 := h.cp x k1 k2; simp only [up, u1]; grind
theorem RC_endp {P : Mem} {z : Z} {dl : Int → Int} {c : Int} (h : RC P z dl) (hc : 0 ≤ c ∧ c < 64) : RC (up P 7 c (-1)) (u1 z (59 + 9 * c + 4) 0) dl := by
  refine ⟨?_, ?_, ?_, ?_, ?_, ?_, ?_, ?_, ?_, ?_, ?_, ?_, ?_, ?_, ?_, ?_, ?_, ?_, ?_, ?_, ?_, ?_, ?_⟩
  · skip; have k0 := h.t0; simp only [up, u1]; grind
  · skip; have k0 := h.ht; simp only [up, u1]; grind
  · skip; have k0 := h.hs; simp only [up, u1]; grind
  · intro x k1 k2; have k0 := h.st x k1 k2; simp only [up, u1]; grind
  · intro x k1 k2; have k0 := h.ta x k1 k2; simp only [up, u1]; grind
  · skip; have k0 := h.t17; simp only [up, u1]; grind
  · intro x k1 k2; have k0 := h.bit x k1 k2; rw [cOne_cg (P := P) (Q := up P 7 c (-1)) rfl]; simp only [u1]; grind
  · intro x k1 k2; have k0 := h.sg x k1 k2; simp only [up, u1]; grind
  · intro x k1 k2; have k0 := h.wh x k1 k2; simp only [up, u1]; grind
  · intro x k1 k2 k3; have k0 := h.le x k1 k2; simp only [up, u1] at k3 ⊢; grind
  · intro x k1 k2; have k0 := h.by_ x k1 k2; simp only [up, u1]; grind
  · intro x k1 k2 k3; have k0 := h.po x k1 k2; simp only [up, u1] at k3 ⊢; grind
  · intro x k1 k2; have k0 := h.ls x k1 k2; simp only [up, u1]; grind
  · skip; have k0 := h.tn; simp only [up, u1]; grind
  · intro x k1 k2; have k0 := h.mo x k1 k2; simp only [up, u1]; grind
  · intro x k1 k2; have k0 := h.tl x k1 k2; simp only [up, u1]; grind
  · intro x k1 k2; have k0 := h.tp x k1 k2; simp only [up, u1]; grind
  · skip; have k0 := h.im; simp only [up, u1]; grind
  · intro x k1 k2; have k0 := h.fu x k1 k2; simp only [up, u1]; grind
  · intro x k1 k2; have k0 := h.ra x k1 k2; simp only [up, u1]; grind
  · intro x k1 k2; have k0 := h.co x k1 k2; simp only [up, u1]; grind
  · intro x k1 k2; have k0 := h.pr x k1 k2; simp only [up, u1]; grind
  · intro x k1 k2; have k0 := h.cp x k1 k2; simp only [up, u1]; grind
theorem RC_pol {P : Mem} {z : Z} {dl : Int → Int} {c i k : Int} (h : RC P z dl) (hc : 0 ≤ c ∧ c < 64) : RC (up (up P 7 c i) 8 c (P 0 0 + k - dl c)) (u1 (u1 z (59 + 9 * c + 4) (i + 1)) (59 + 9 * c + 5) k) dl := by
  refine ⟨?_, ?_, ?_, ?_, ?_, ?_, ?_, ?_, ?_, ?_, ?_, ?_, ?_, ?_, ?_, ?_, ?_, ?_, ?_, ?_, ?_, ?_, ?_⟩
  · skip; have k0 := h.t0; simp only [up, u1]; grind
  · skip; have k0 := h.ht; simp only [up, u1]; grind
  · skip; have k0 := h.hs; simp only [up, u1]; grind
  · intro x k1 k2; have k0 := h.st x k1 k2; simp only [up, u1]; grind
  · intro x k1 k2; have k0 := h.ta x k1 k2; simp only [up, u1]; grind
  · skip; have k0 := h.t17; simp only [up, u1]; grind
  · intro x k1 k2; have k0 := h.bit x k1 k2; rw [cOne_cg (P := P) (Q := up (up P 7 c i) 8 c (P 0 0 + k - dl c)) rfl]; simp only [u1]; grind
  · intro x k1 k2; have k0 := h.sg x k1 k2; simp only [up, u1]; grind
  · intro x k1 k2; have k0 := h.wh x k1 k2; simp only [up, u1]; grind
  · intro x k1 k2 k3; have k0 := h.le x k1 k2; simp only [up, u1] at k3 ⊢; grind
  · intro x k1 k2; have k0 := h.by_ x k1 k2; simp only [up, u1]; grind
  · intro x k1 k2 k3; have k0 := h.po x k1 k2; simp only [up, u1] at k3 ⊢; grind
  · intro x k1 k2; have k0 := h.ls x k1 k2; simp only [up, u1]; grind
  · skip; have k0 := h.tn; simp only [up, u1]; grind
  · intro x k1 k2; have k0 := h.mo x k1 k2; simp only [up, u1]; grind
  · intro x k1 k2; have k0 := h.tl x k1 k2; simp only [up, u1]; grind
  · intro x k1 k2; have k0 := h.tp x k1 k2; simp only [up, u1]; grind
  · skip; have k0 := h.im; simp only [up, u1]; grind
  · intro x k1 k2; have k0 := h.fu x k1 k2; simp only [up, u1]; grind
  · intro x k1 k2; have k0 := h.ra x k1 k2; simp only [up, u1]; grind
  · intro x k1 k2; have k0 := h.co x k1 k2; simp only [up, u1]; grind
  · intro x k1 k2; have k0 := h.pr x k1 k2; simp only [up, u1]; grind
  · intro x k1 k2; have k0 := h.cp x k1 k2; simp only [up, u1]; grind
theorem RC_lost {P : Mem} {z : Z} {dl : Int → Int} {c v : Int} (h : RC P z dl) (hc : 0 ≤ c ∧ c < 64) : RC (up P 9 c v) (u1 z (59 + 9 * c + 8) v) dl := by
  refine ⟨?_, ?_, ?_, ?_, ?_, ?_, ?_, ?_, ?_, ?_, ?_, ?_, ?_, ?_, ?_, ?_, ?_, ?_, ?_, ?_, ?_, ?_, ?_⟩
  · skip; have k0 := h.t0; simp only [up, u1]; grind
  · skip; have k0 := h.ht; simp only [up, u1]; grind
  · skip; have k0 := h.hs; simp only [up, u1]; grind
  · intro x k1 k2; have k0 := h.st x k1 k2; simp only [up, u1]; grind
  · intro x k1 k2; have k0 := h.ta x k1 k2; simp only [up, u1]; grind
  · skip; have k0 := h.t17; simp only [up, u1]; grind
  · intro x k1 k2; have k0 := h.bit x k1 k2; rw [cOne_cg (P := P) (Q := up P 9 c v) rfl]; simp only [u1]; grind
  · intro x k1 k2; have k0 := h.sg x k1 k2; simp only [up, u1]; grind
  · intro x k1 k2; have k0 := h.wh x k1 k2; simp only [up, u1]; grind
  · intro x k1 k2 k3; have k0 := h.le x k1 k2; simp only [up, u1] at k3 ⊢; grind
  · intro x k1 k2; have k0 := h.by_ x k1 k2; simp only [up, u1]; grind
  · intro x k1 k2 k3; have k0 := h.po x k1 k2; simp only [up, u1] at k3 ⊢; grind
  · intro x k1 k2; have k0 := h.ls x k1 k2; simp only [up, u1]; grind
  · skip; have k0 := h.tn; simp only [up, u1]; grind
  · intro x k1 k2; have k0 := h.mo x k1 k2; simp only [up, u1]; grind
  · intro x k1 k2; have k0 := h.tl x k1 k2; simp only [up, u1]; grind
  · intro x k1 k2; have k0 := h.tp x k1 k2; simp only [up, u1]; grind
  · skip; have k0 := h.im; simp only [up, u1]; grind
  · intro x k1 k2; have k0 := h.fu x k1 k2; simp only [up, u1]; grind
  · intro x k1 k2; have k0 := h.ra x k1 k2; simp only [up, u1]; grind
  · intro x k1 k2; have k0 := h.co x k1 k2; simp only [up, u1]; grind
  · intro x k1 k2; have k0 := h.pr x k1 k2; simp only [up, u1]; grind
  · intro x k1 k2; have k0 := h.cp x k1 k2; simp only [up, u1]; grind
theorem RC_tn {P : Mem} {z : Z} {dl : Int → Int} {v : Int} (h : RC P z dl)  : RC (up P 13 0 v) (u1 z 2 v) dl := by
  refine ⟨?_, ?_, ?_, ?_, ?_, ?_, ?_, ?_, ?_, ?_, ?_, ?_, ?_, ?_, ?_, ?_, ?_, ?_, ?_, ?_, ?_, ?_, ?_⟩
  · skip; have k0 := h.t0; simp only [up, u1]; grind
  · skip; have k0 := h.ht; simp only [up, u1]; grind
  · skip; have k0 := h.hs; simp only [up, u1]; grind
  · intro x k1 k2; have k0 := h.st x k1 k2; simp only [up, u1]; grind
  · intro x k1 k2; have k0 := h.ta x k1 k2; simp only [up, u1]; grind
  · skip; have k0 := h.t17; simp only [up, u1]; grind
  · intro x k1 k2; have k0 := h.bit x k1 k2; rw [cOne_cg (P := P) (Q := up P 13 0 v) rfl]; simp only [u1]; grind
  · intro x k1 k2; have k0 := h.sg x k1 k2; simp only [up, u1]; grind
  · intro x k1 k2; have k0 := h.wh x k1 k2; simp only [up, u1]; grind
  · intro x k1 k2 k3; have k0 := h.le x k1 k2; simp only [up, u1] at k3 ⊢; grind
  · intro x k1 k2; have k0 := h.by_ x k1 k2; simp only [up, u1]; grind
  · intro x k1 k2 k3; have k0 := h.po x k1 k2; simp only [up, u1] at k3 ⊢; grind
  · intro x k1 k2; have k0 := h.ls x k1 k2; simp only [up, u1]; grind
  · skip; have k0 := h.tn; simp only [up, u1]; grind
  · intro x k1 k2; have k0 := h.mo x k1 k2; simp only [up, u1]; grind
  · intro x k1 k2; have k0 := h.tl x k1 k2; simp only [up, u1]; grind
  · intro x k1 k2; have k0 := h.tp x k1 k2; simp only [up, u1]; grind
  · skip; have k0 := h.im; simp only [up, u1]; grind
  · intro x k1 k2; have k0 := h.fu x k1 k2; simp only [up, u1]; grind
  · intro x k1 k2; have k0 := h.ra x k1 k2; simp only [up, u1]; grind
  · intro x k1 k2; have k0 := h.co x k1 k2; simp only [up, u1]; grind
  · intro x k1 k2; have k0 := h.pr x k1 k2; simp only [up, u1]; grind
  · intro x k1 k2; have k0 := h.cp x k1 k2; simp only [up, u1]; grind
theorem RC_mo {P : Mem} {z : Z} {dl : Int → Int} {t v : Int} (h : RC P z dl) (ht : 0 ≤ t ∧ t < 6) : RC (up P 14 t v) (u1 z (23 + 3 * t) v) dl := by
  refine ⟨?_, ?_, ?_, ?_, ?_, ?_, ?_, ?_, ?_, ?_, ?_, ?_, ?_, ?_, ?_, ?_, ?_, ?_, ?_, ?_, ?_, ?_, ?_⟩
  · skip; have k0 := h.t0; simp only [up, u1]; grind
  · skip; have k0 := h.ht; simp only [up, u1]; grind
  · skip; have k0 := h.hs; simp only [up, u1]; grind
  · intro x k1 k2; have k0 := h.st x k1 k2; simp only [up, u1]; grind
  · intro x k1 k2; have k0 := h.ta x k1 k2; simp only [up, u1]; grind
  · skip; have k0 := h.t17; simp only [up, u1]; grind
  · intro x k1 k2; have k0 := h.bit x k1 k2; rw [cOne_cg (P := P) (Q := up P 14 t v) rfl]; simp only [u1]; grind
  · intro x k1 k2; have k0 := h.sg x k1 k2; simp only [up, u1]; grind
  · intro x k1 k2; have k0 := h.wh x k1 k2; simp only [up, u1]; grind
  · intro x k1 k2 k3; have k0 := h.le x k1 k2; simp only [up, u1] at k3 ⊢; grind
  · intro x k1 k2; have k0 := h.by_ x k1 k2; simp only [up, u1]; grind
  · intro x k1 k2 k3; have k0 := h.po x k1 k2; simp only [up, u1] at k3 ⊢; grind
  · intro x k1 k2; have k0 := h.ls x k1 k2; simp only [up, u1]; grind
  · skip; have k0 := h.tn; simp only [up, u1]; grind
  · intro x k1 k2; have k0 := h.mo x k1 k2; simp only [up, u1]; grind
  · intro x k1 k2; have k0 := h.tl x k1 k2; simp only [up, u1]; grind
  · intro x k1 k2; have k0 := h.tp x k1 k2; simp only [up, u1]; grind
  · skip; have k0 := h.im; simp only [up, u1]; grind
  · intro x k1 k2; have k0 := h.fu x k1 k2; simp only [up, u1]; grind
  · intro x k1 k2; have k0 := h.ra x k1 k2; simp only [up, u1]; grind
  · intro x k1 k2; have k0 := h.co x k1 k2; simp only [up, u1]; grind
  · intro x k1 k2; have k0 := h.pr x k1 k2; simp only [up, u1]; grind
  · intro x k1 k2; have k0 := h.cp x k1 k2; simp only [up, u1]; grind
theorem RC_tl {P : Mem} {z : Z} {dl : Int → Int} {t v : Int} (h : RC P z dl) (ht : 0 ≤ t ∧ t < 6) : RC (up P 15 t v) (u1 z (23 + 3 * t + 1) v) dl := by
  refine ⟨?_, ?_, ?_, ?_, ?_, ?_, ?_, ?_, ?_, ?_, ?_, ?_, ?_, ?_, ?_, ?_, ?_, ?_, ?_, ?_, ?_, ?_, ?_⟩
  · skip; have k0 := h.t0; simp only [up, u1]; grind
  · skip; have k0 := h.ht; simp only [up, u1]; grind
  · skip; have k0 := h.hs; simp only [up, u1]; grind
  · intro x k1 k2; have k0 := h.st x k1 k2; simp only [up, u1]; grind
  · intro x k1 k2; have k0 := h.ta x k1 k2; simp only [up, u1]; grind
  · skip; have k0 := h.t17; simp only [up, u1]; grind
  · intro x k1 k2; have k0 := h.bit x k1 k2; rw [cOne_cg (P := P) (Q := up P 15 t v) rfl]; simp only [u1]; grind
  · intro x k1 k2; have k0 := h.sg x k1 k2; simp only [up, u1]; grind
  · intro x k1 k2; have k0 := h.wh x k1 k2; simp only [up, u1]; grind
  · intro x k1 k2 k3; have k0 := h.le x k1 k2; simp only [up, u1] at k3 ⊢; grind
  · intro x k1 k2; have k0 := h.by_ x k1 k2; simp only [up, u1]; grind
  · intro x k1 k2 k3; have k0 := h.po x k1 k2; simp only [up, u1] at k3 ⊢; grind
  · intro x k1 k2; have k0 := h.ls x k1 k2; simp only [up, u1]; grind
  · skip; have k0 := h.tn; simp only [up, u1]; grind
  · intro x k1 k2; have k0 := h.mo x k1 k2; simp only [up, u1]; grind
  · intro x k1 k2; have k0 := h.tl x k1 k2; simp only [up, u1]; grind
  · intro x k1 k2; have k0 := h.tp x k1 k2; simp only [up, u1]; grind
  · skip; have k0 := h.im; simp only [up, u1]; grind
  · intro x k1 k2; have k0 := h.fu x k1 k2; simp only [up, u1]; grind
  · intro x k1 k2; have k0 := h.ra x k1 k2; simp only [up, u1]; grind
  · intro x k1 k2; have k0 := h.co x k1 k2; simp only [up, u1]; grind
  · intro x k1 k2; have k0 := h.pr x k1 k2; simp only [up, u1]; grind
  · intro x k1 k2; have k0 := h.cp x k1 k2; simp only [up, u1]; grind
theorem RC_tp {P : Mem} {z : Z} {dl : Int → Int} {t v : Int} (h : RC P z dl) (ht : 0 ≤ t ∧ t < 6) : RC (up P 16 t v) (u1 z (23 + 3 * t + 2) v) dl := by
  refine ⟨?_, ?_, ?_, ?_, ?_, ?_, ?_, ?_, ?_, ?_, ?_, ?_, ?_, ?_, ?_, ?_, ?_, ?_, ?_, ?_, ?_, ?_, ?_⟩
  · skip; have k0 := h.t0; simp only [up, u1]; grind
  · skip; have k0 := h.ht; simp only [up, u1]; grind
  · skip; have k0 := h.hs; simp only [up, u1]; grind
  · intro x k1 k2; have k0 := h.st x k1 k2; simp only [up, u1]; grind
  · intro x k1 k2; have k0 := h.ta x k1 k2; simp only [up, u1]; grind
  · skip; have k0 := h.t17; simp only [up, u1]; grind
  · intro x k1 k2; have k0 := h.bit x k1 k2; rw [cOne_cg (P := P) (Q := up P 16 t v) rfl]; simp only [u1]; grind
  · intro x k1 k2; have k0 := h.sg x k1 k2; simp only [up, u1]; grind
  · intro x k1 k2; have k0 := h.wh x k1 k2; simp only [up, u1]; grind
  · intro x k1 k2 k3; have k0 := h.le x k1 k2; simp only [up, u1] at k3 ⊢; grind
  · intro x k1 k2; have k0 := h.by_ x k1 k2; simp only [up, u1]; grind
  · intro x k1 k2 k3; have k0 := h.po x k1 k2; simp only [up, u1] at k3 ⊢; grind
  · intro x k1 k2; have k0 := h.ls x k1 k2; simp only [up, u1]; grind
  · skip; have k0 := h.tn; simp only [up, u1]; grind
  · intro x k1 k2; have k0 := h.mo x k1 k2; simp only [up, u1]; grind
  · intro x k1 k2; have k0 := h.tl x k1 k2; simp only [up, u1]; grind
  · intro x k1 k2; have k0 := h.tp x k1 k2; simp only [up, u1]; grind
  · skip; have k0 := h.im; simp only [up, u1]; grind
  · intro x k1 k2; have k0 := h.fu x k1 k2; simp only [up, u1]; grind
  · intro x k1 k2; have k0 := h.ra x k1 k2; simp only [up, u1]; grind
  · intro x k1 k2; have k0 := h.co x k1 k2; simp only [up, u1]; grind
  · intro x k1 k2; have k0 := h.pr x k1 k2; simp only [up, u1]; grind
  · intro x k1 k2; have k0 := h.cp x k1 k2; simp only [up, u1]; grind
theorem RC_im {P : Mem} {z : Z} {dl : Int → Int} {v : Int} (h : RC P z dl)  : RC (up P 17 0 v) (u1 z 3 v) dl := by
  refine ⟨?_, ?_, ?_, ?_, ?_, ?_, ?_, ?_, ?_, ?_, ?_, ?_, ?_, ?_, ?_, ?_, ?_, ?_, ?_, ?_, ?_, ?_, ?_⟩
  · skip; have k0 := h.t0; simp only [up, u1]; grind
  · skip; have k0 := h.ht; simp only [up, u1]; grind
  · skip; have k0 := h.hs; simp only [up, u1]; grind
  · intro x k1 k2; have k0 := h.st x k1 k2; simp only [up, u1]; grind
  · intro x k1 k2; have k0 := h.ta x k1 k2; simp only [up, u1]; grind
  · skip; have k0 := h.t17; simp only [up, u1]; grind
  · intro x k1 k2; have k0 := h.bit x k1 k2; rw [cOne_cg (P := P) (Q := up P 17 0 v) rfl]; simp only [u1]; grind
  · intro x k1 k2; have k0 := h.sg x k1 k2; simp only [up, u1]; grind
  · intro x k1 k2; have k0 := h.wh x k1 k2; simp only [up, u1]; grind
  · intro x k1 k2 k3; have k0 := h.le x k1 k2; simp only [up, u1] at k3 ⊢; grind
  · intro x k1 k2; have k0 := h.by_ x k1 k2; simp only [up, u1]; grind
  · intro x k1 k2 k3; have k0 := h.po x k1 k2; simp only [up, u1] at k3 ⊢; grind
  · intro x k1 k2; have k0 := h.ls x k1 k2; simp only [up, u1]; grind
  · skip; have k0 := h.tn; simp only [up, u1]; grind
  · intro x k1 k2; have k0 := h.mo x k1 k2; simp only [up, u1]; grind
  · intro x k1 k2; have k0 := h.tl x k1 k2; simp only [up, u1]; grind
  · intro x k1 k2; have k0 := h.tp x k1 k2; simp only [up, u1]; grind
  · skip; have k0 := h.im; simp only [up, u1]; grind
  · intro x k1 k2; have k0 := h.fu x k1 k2; simp only [up, u1]; grind
  · intro x k1 k2; have k0 := h.ra x k1 k2; simp only [up, u1]; grind
  · intro x k1 k2; have k0 := h.co x k1 k2; simp only [up, u1]; grind
  · intro x k1 k2; have k0 := h.pr x k1 k2; simp only [up, u1]; grind
  · intro x k1 k2; have k0 := h.cp x k1 k2; simp only [up, u1]; grind
theorem RC_fu {P : Mem} {z : Z} {dl : Int → Int} {i v : Int} (h : RC P z dl) (hi : 0 ≤ i ∧ i < 3) : RC (up P 18 i v) (u1 z (41 + 6 * i) v) dl := by
  refine ⟨?_, ?_, ?_, ?_, ?_, ?_, ?_, ?_, ?_, ?_, ?_, ?_, ?_, ?_, ?_, ?_, ?_, ?_, ?_, ?_, ?_, ?_, ?_⟩
  · skip; have k0 := h.t0; simp only [up, u1]; grind
  · skip; have k0 := h.ht; simp only [up, u1]; grind
  · skip; have k0 := h.hs; simp only [up, u1]; grind
  · intro x k1 k2; have k0 := h.st x k1 k2; simp only [up, u1]; grind
  · intro x k1 k2; have k0 := h.ta x k1 k2; simp only [up, u1]; grind
  · skip; have k0 := h.t17; simp only [up, u1]; grind
  · intro x k1 k2; have k0 := h.bit x k1 k2; rw [cOne_cg (P := P) (Q := up P 18 i v) rfl]; simp only [u1]; grind
  · intro x k1 k2; have k0 := h.sg x k1 k2; simp only [up, u1]; grind
  · intro x k1 k2; have k0 := h.wh x k1 k2; simp only [up, u1]; grind
  · intro x k1 k2 k3; have k0 := h.le x k1 k2; simp only [up, u1] at k3 ⊢; grind
  · intro x k1 k2; have k0 := h.by_ x k1 k2; simp only [up, u1]; grind
  · intro x k1 k2 k3; have k0 := h.po x k1 k2; simp only [up, u1] at k3 ⊢; grind
  · intro x k1 k2; have k0 := h.ls x k1 k2; simp only [up, u1]; grind
  · skip; have k0 := h.tn; simp only [up, u1]; grind
  · intro x k1 k2; have k0 := h.mo x k1 k2; simp only [up, u1]; grind
  · intro x k1 k2; have k0 := h.tl x k1 k2; simp only [up, u1]; grind
  · intro x k1 k2; have k0 := h.tp x k1 k2; simp only [up, u1]; grind
  · skip; have k0 := h.im; simp only [up, u1]; grind
  · intro x k1 k2; have k0 := h.fu x k1 k2; simp only [up, u1]; grind
  · intro x k1 k2; have k0 := h.ra x k1 k2; simp only [up, u1]; grind
  · intro x k1 k2; have k0 := h.co x k1 k2; simp only [up, u1]; grind
  · intro x k1 k2; have k0 := h.pr x k1 k2; simp only [up, u1]; grind
  · intro x k1 k2; have k0 := h.cp x k1 k2; simp only [up, u1]; grind
theorem RC_ra {P : Mem} {z : Z} {dl : Int → Int} {i v : Int} (h : RC P z dl) (hi : 0 ≤ i ∧ i < 3) : RC (up P 19 i v) (u1 z (41 + 6 * i + 1) v) dl := by
  refine ⟨?_, ?_, ?_, ?_, ?_, ?_, ?_, ?_, ?_, ?_, ?_, ?_, ?_, ?_, ?_, ?_, ?_, ?_, ?_, ?_, ?_, ?_, ?_⟩
  · skip; have k0 := h.t0; simp only [up, u1]; grind
  · skip; have k0 := h.ht; simp only [up, u1]; grind
  · skip; have k0 := h.hs; simp only [up, u1]; grind
  · intro x k1 k2; have k0 := h.st x k1 k2; simp only [up, u1]; grind
  · intro x k1 k2; have k0 := h.ta x k1 k2; simp only [up, u1]; grind
  · skip; have k0 := h.t17; simp only [up, u1]; grind
  · intro x k1 k2; have k0 := h.bit x k1 k2; rw [cOne_cg (P := P) (Q := up P 19 i v) rfl]; simp only [u1]; grind
  · intro x k1 k2; have k0 := h.sg x k1 k2; simp only [up, u1]; grind
  · intro x k1 k2; have k0 := h.wh x k1 k2; simp only [up, u1]; grind
  · intro x k1 k2 k3; have k0 := h.le x k1 k2; simp only [up, u1] at k3 ⊢; grind
  · intro x k1 k2; have k0 := h.by_ x k1 k2; simp only [up, u1]; grind
  · intro x k1 k2 k3; have k0 := h.po x k1 k2; simp only [up, u1] at k3 ⊢; grind
  · intro x k1 k2; have k0 := h.ls x k1 k2; simp only [up, u1]; grind
  · skip; have k0 := h.tn; simp only [up, u1]; grind
  · intro x k1 k2; have k0 := h.mo x k1 k2; simp only [up, u1]; grind
  · intro x k1 k2; have k0 := h.tl x k1 k2; simp only [up, u1]; grind
  · intro x k1 k2; have k0 := h.tp x k1 k2; simp only [up, u1]; grind
  · skip; have k0 := h.im; simp only [up, u1]; grind
  · intro x k1 k2; have k0 := h.fu x k1 k2; simp only [up, u1]; grind
  · intro x k1 k2; have k0 := h.ra x k1 k2; simp only [up, u1]; grind
  · intro x k1 k2; have k0 := h.co x k1 k2; simp only [up, u1]; grind
  · intro x k1 k2; have k0 := h.pr x k1 k2; simp only [up, u1]; grind
  · intro x k1 k2; have k0 := h.cp x k1 k2; simp only [up, u1]; grind
theorem RC_co {P : Mem} {z : Z} {dl : Int → Int} {i v : Int} (h : RC P z dl) (hi : 0 ≤ i ∧ i < 3) : RC (up P 20 i v) (u1 z (41 + 6 * i + 2) v) dl := by
  refine ⟨?_, ?_, ?_, ?_, ?_, ?_, ?_, ?_, ?_, ?_, ?_, ?_, ?_, ?_, ?_, ?_, ?_, ?_, ?_, ?_, ?_, ?_, ?_⟩
  · skip; have k0 := h.t0; simp only [up, u1]; grind
  · skip; have k0 := h.ht; simp only [up, u1]; grind
  · skip; have k0 := h.hs; simp only [up, u1]; grind
  · intro x k1 k2; have k0 := h.st x k1 k2; simp only [up, u1]; grind
  · intro x k1 k2; have k0 := h.ta x k1 k2; simp only [up, u1]; grind
  · skip; have k0 := h.t17; simp only [up, u1]; grind
  · intro x k1 k2; have k0 := h.bit x k1 k2; rw [cOne_cg (P := P) (Q := up P 20 i v) rfl]; simp only [u1]; grind
  · intro x k1 k2; have k0 := h.sg x k1 k2; simp only [up, u1]; grind
  · intro x k1 k2; have k0 := h.wh x k1 k2; simp only [up, u1]; grind
  · intro x k1 k2 k3; have k0 := h.le x k1 k2; simp only [up, u1] at k3 ⊢; grind
  · intro x k1 k2; have k0 := h.by_ x k1 k2; simp only [up, u1]; grind
  · intro x k1 k2 k3; have k0 := h.po x k1 k2; simp only [up, u1] at k3 ⊢; grind
  · intro x k1 k2; have k0 := h.ls x k1 k2; simp only [up, u1]; grind
  · skip; have k0 := h.tn; simp only [up, u1]; grind
  · intro x k1 k2; have k0 := h.mo x k1 k2; simp only [up, u1]; grind
  · intro x k1 k2; have k0 := h.tl x k1 k2; simp only [up, u1]; grind
  · intro x k1 k2; have k0 := h.tp x k1 k2; simp only [up, u1]; grind
  · skip; have k0 := h.im; simp only [up, u1]; grind
  · intro x k1 k2; have k0 := h.fu x k1 k2; simp only [up, u1]; grind
  · intro x k1 k2; have k0 := h.ra x k1 k2; simp only [up, u1]; grind
  · intro x k1 k2; have k0 := h.co x k1 k2; simp only [up, u1]; grind
  · intro x k1 k2; have k0 := h.pr x k1 k2; simp only [up, u1]; grind
  · intro x k1 k2; have k0 := h.cp x k1 k2; simp only [up, u1]; grind
theorem RC_pr {P : Mem} {z : Z} {dl : Int → Int} {i v : Int} (h : RC P z dl) (hi : 0 ≤ i ∧ i < 3) : RC (up P 21 i v) (u1 z (41 + 6 * i + 4) v) dl := by
  refine ⟨?_, ?_, ?_, ?_, ?_, ?_, ?_, ?_, ?_, ?_, ?_, ?_, ?_, ?_, ?_, ?_, ?_, ?_, ?_, ?_, ?_, ?_, ?_⟩
  · skip; have k0 := h.t0; simp only [up, u1]; grind
  · skip; have k0 := h.ht; simp only [up, u1]; grind
  · skip; have k0 := h.hs; simp only [up, u1]; grind
  · intro x k1 k2; have k0 := h.st x k1 k2; simp only [up, u1]; grind
  · intro x k1 k2; have k0 := h.ta x k1 k2; simp only [up, u1]; grind
  · skip; have k0 := h.t17; simp only [up, u1]; grind
  · intro x k1 k2; have k0 := h.bit x k1 k2; rw [cOne_cg (P := P) (Q := up P 21 i v) rfl]; simp only [u1]; grind
  · intro x k1 k2; have k0 := h.sg x k1 k2; simp only [up, u1]; grind
  · intro x k1 k2; have k0 := h.wh x k1 k2; simp only [up, u1]; grind
  · intro x k1 k2 k3; have k0 := h.le x k1 k2; simp only [up, u1] at k3 ⊢; grind
  · intro x k1 k2; have k0 := h.by_ x k1 k2; simp only [up, u1]; grind
  · intro x k1 k2 k3; have k0 := h.po x k1 k2; simp only [up, u1] at k3 ⊢; grind
  · intro x k1 k2; have k0 := h.ls x k1 k2; simp only [up, u1]; grind
  · skip; have k0 := h.tn; simp only [up, u1]; grind
  · intro x k1 k2; have k0 := h.mo x k1 k2; simp only [up, u1]; grind
  · intro x k1 k2; have k0 := h.tl x k1 k2; simp only [up, u1]; grind
  · intro x k1 k2; have k0 := h.tp x k1 k2; simp only [up, u1]; grind
  · skip; have k0 := h.im; simp only [up, u1]; grind
  · intro x k1 k2; have k0 := h.fu x k1 k2; simp only [up, u1]; grind
  · intro x k1 k2; have k0 := h.ra x k1 k2; simp only [up, u1]; grind
  · intro x k1 k2; have k0 := h.co x k1 k2; simp only [up, u1]; grind
  · intro x k1 k2; have k0 := h.pr x k1 k2; simp only [up, u1]; grind
  · intro x k1 k2; have k0 := h.cp x k1 k2; simp only [up, u1]; grind
theorem RC_cp {P : Mem} {z : Z} {dl : Int → Int} {i v : Int} (h : RC P z dl) (hi : 0 ≤ i ∧ i < 3) : RC (up P 22 i v) (u1 z (41 + 6 * i + 3) v) dl := by
  refine ⟨?_, ?_, ?_, ?_, ?_, ?_, ?_, ?_, ?_, ?_, ?_, ?_, ?_, ?_, ?_, ?_, ?_, ?_, ?_, ?_, ?_, ?_, ?_⟩
  · skip; have k0 := h.t0; simp only [up, u1]; grind
  · skip; have k0 := h.ht; simp only [up, u1]; grind
  · skip; have k0 := h.hs; simp only [up, u1]; grind
  · intro x k1 k2; have k0 := h.st x k1 k2; simp only [up, u1]; grind
  · intro x k1 k2; have k0 := h.ta x k1 k2; simp only [up, u1]; grind
  · skip; have k0 := h.t17; simp only [up, u1]; grind
  · intro x k1 k2; have k0 := h.bit x k1 k2; rw [cOne_cg (P := P) (Q := up P 22 i v) rfl]; simp only [u1]; grind
  · intro x k1 k2; have k0 := h.sg x k1 k2; simp only [up, u1]; grind
  · intro x k1 k2; have k0 := h.wh x k1 k2; simp only [up, u1]; grind
  · intro x k1 k2 k3; have k0 := h.le x k1 k2; simp only [up, u1] at k3 ⊢; grind
  · intro x k1 k2; have k0 := h.by_ x k1 k2; simp only [up, u1]; grind
  · intro x k1 k2 k3; have k0 := h.po x k1 k2; simp only [up, u1] at k3 ⊢; grind
  · intro x k1 k2; have k0 := h.ls x k1 k2; simp only [up, u1]; grind
  · skip; have k0 := h.tn; simp only [up, u1]; grind
  · intro x k1 k2; have k0 := h.mo x k1 k2; simp only [up, u1]; grind
  · intro x k1 k2; have k0 := h.tl x k1 k2; simp only [up, u1]; grind
  · intro x k1 k2; have k0 := h.tp x k1 k2; simp only [up, u1]; grind
  · skip; have k0 := h.im; simp only [up, u1]; grind
  · intro x k1 k2; have k0 := h.fu x k1 k2; simp only [up, u1]; grind
  · intro x k1 k2; have k0 := h.ra x k1 k2; simp only [up, u1]; grind
  · intro x k1 k2; have k0 := h.co x k1 k2; simp only [up, u1]; grind
  · intro x k1 k2; have k0 := h.pr x k1 k2; simp only [up, u1]; grind
  · intro x k1 k2; have k0 := h.cp x k1 k2; simp only [up, u1]; grind
def ZO (z : Z) (j : Int) : Prop := j = 14 ∨ 635 ≤ j ∨ (59 ≤ j ∧ j < 635 ∧ ((j - 59) % 9 = 7 ∨ (j - 59) % 9 = 6 ∨ (j - 59) % 9 = 5 ∧ z (j - 1) ≤ 0)) ∨ j = 46 ∨ j = 52 ∨ j = 58
theorem RC_zo {P : Mem} {z : Z} {dl : Int → Int} {j v : Int} (h : RC P z dl) (hj : ZO z j) : RC (P) (u1 z j v) dl := by
  refine ⟨?_, ?_, ?_, ?_, ?_, ?_, ?_, ?_, ?_, ?_, ?_, ?_, ?_, ?_, ?_, ?_, ?_, ?_, ?_, ?_, ?_, ?_, ?_⟩
  · (try intro x k1 k2); (try intro k3); have k0 := h.t0; simp only [u1]; unfold ZO at hj; (try rw [if_neg (by omega)] at k3); rw [if_neg (by omega)]; first | exact k0 | exact k0 k3
  · (try intro x k1 k2); (try intro k3); have k0 := h.ht; simp only [u1]; unfold ZO at hj; (try rw [if_neg (by omega)] at k3); rw [if_neg (by omega)]; first | exact k0 | exact k0 k3
  · (try intro x k1 k2); (try intro k3); have k0 := h.hs; simp only [u1]; unfold ZO at hj; (try rw [if_neg (by omega)] at k3); rw [if_neg (by omega)]; first | exact k0 | exact k0 k3
  · (try intro x k1 k2); (try intro k3); have k0 := h.st x k1 k2; simp only [u1]; unfold ZO at hj; (try rw [if_neg (by omega)] at k3); rw [if_neg (by omega)]; first | exact k0 | exact k0 k3
  · (try intro x k1 k2); (try intro k3); have k0 := h.ta x k1 k2; simp only [u1]; unfold ZO at hj; (try rw [if_neg (by omega)] at k3); rw [if_neg (by omega)]; first | exact k0 | exact k0 k3
  · (try intro x k1 k2); (try intro k3); have k0 := h.t17; simp only [u1]; unfold ZO at hj; (try rw [if_neg (by omega)] at k3); rw [if_neg (by omega)]; first | exact k0 | exact k0 k3
  · (try intro x k1 k2); (try intro k3); have k0 := h.bit x k1 k2; simp only [u1]; unfold ZO at hj; (try rw [if_neg (by omega)] at k3); rw [if_neg (by omega)]; first | exact k0 | exact k0 k3
  · (try intro x k1 k2); (try intro k3); have k0 := h.sg x k1 k2; simp only [u1]; unfold ZO at hj; (try rw [if_neg (by omega)] at k3); rw [if_neg (by omega)]; first | exact k0 | exact k0 k3
  · (try intro x k1 k2); (try intro k3); have k0 := h.wh x k1 k2; simp only [u1]; unfold ZO at hj; (try rw [if_neg (by omega)] at k3); rw [if_neg (by omega)]; first | exact k0 | exact k0 k3
  · (try intro x k1 k2); (try intro k3); have k0 := h.le x k1 k2; simp only [u1] at k3 ⊢; unfold ZO at hj; (try rw [if_neg (by omega)] at k3); rw [if_neg (by omega)]; first | exact k0 | exact k0 k3
  · (try intro x k1 k2); (try intro k3); have k0 := h.by_ x k1 k2; simp only [u1]; unfold ZO at hj; (try rw [if_neg (by omega)] at k3); rw [if_neg (by omega)]; first | exact k0 | exact k0 k3
  · (try intro x k1 k2); (try intro k3); have k0 := h.po x k1 k2; simp only [u1] at k3 ⊢; unfold ZO at hj; grind
  · (try intro x k1 k2); (try intro k3); have k0 := h.ls x k1 k2; simp only [u1]; unfold ZO at hj; (try rw [if_neg (by omega)] at k3); rw [if_neg (by omega)]; first | exact k0 | exact k0 k3
  · (try intro x k1 k2); (try intro k3); have k0 := h.tn; simp only [u1]; unfold ZO at hj; (try rw [if_neg (by omega)] at k3); rw [if_neg (by omega)]; first | exact k0 | exact k0 k3
  · (try intro x k1 k2); (try intro k3); have k0 := h.mo x k1 k2; simp only [u1]; unfold ZO at hj; (try rw [if_neg (by omega)] at k3); rw [if_neg (by omega)]; first | exact k0 | exact k0 k3
  · (try intro x k1 k2); (try intro k3); have k0 := h.tl x k1 k2; simp only [u1]; unfold ZO at hj; (try rw [if_neg (by omega)] at k3); rw [if_neg (by omega)]; first | exact k0 | exact k0 k3
  · (try intro x k1 k2); (try intro k3); have k0 := h.tp x k1 k2; simp only [u1]; unfold ZO at hj; (try rw [if_neg (by omega)] at k3); rw [if_neg (by omega)]; first | exact k0 | exact k0 k3
  · (try intro x k1 k2); (try intro k3); have k0 := h.im; simp only [u1]; unfold ZO at hj; (try rw [if_neg (by omega)] at k3); rw [if_neg (by omega)]; first | exact k0 | exact k0 k3
  · (try intro x k1 k2); (try intro k3); have k0 := h.fu x k1 k2; simp only [u1]; unfold ZO at hj; (try rw [if_neg (by omega)] at k3); rw [if_neg (by omega)]; first | exact k0 | exact k0 k3
  · (try intro x k1 k2); (try intro k3); have k0 := h.ra x k1 k2; simp only [u1]; unfold ZO at hj; (try rw [if_neg (by omega)] at k3); rw [if_neg (by omega)]; first | exact k0 | exact k0 k3
  · (try intro x k1 k2); (try intro k3); have k0 := h.co x k1 k2; simp only [u1]; unfold ZO at hj; (try rw [if_neg (by omega)] at k3); rw [if_neg (by omega)]; first | exact k0 | exact k0 k3
  · (try intro x k1 k2); (try intro k3); have k0 := h.pr x k1 k2; simp only [u1]; unfold ZO at hj; (try rw [if_neg (by omega)] at k3); rw [if_neg (by omega)]; first | exact k0 | exact k0 k3
  · (try intro x k1 k2); (try intro k3); have k0 := h.cp x k1 k2; simp only [u1]; unfold ZO at hj; (try rw [if_neg (by omega)] at k3); rw [if_neg (by omega)]; first | exact k0 | exact k0 k3
theorem RC_po1 {P : Mem} {z : Z} {dl : Int → Int} {k : Nat} {j v : Int} (h : RC P z dl) (hd : k = 10 ∨ k = 11 ∨ k = 12 ∨ k = 23 ∨ k = 0 ∧ j = 10) : RC (up P k j v) (z) dl := by
  refine ⟨?_, ?_, ?_, ?_, ?_, ?_, ?_, ?_, ?_, ?_, ?_, ?_, ?_, ?_, ?_, ?_, ?_, ?_, ?_, ?_, ?_, ?_, ?_⟩
  · (try intro x k1 k2); (try intro k3); have k0 := h.t0; (repeat rw [up_ne (by omega)]); first | exact k0 | exact k0 k3
  · (try intro x k1 k2); (try intro k3); have k0 := h.ht; (repeat rw [up_ne (by omega)]); first | exact k0 | exact k0 k3
  · (try intro x k1 k2); (try intro k3); have k0 := h.hs; (repeat rw [up_ne (by omega)]); first | exact k0 | exact k0 k3
  · (try intro x k1 k2); (try intro k3); have k0 := h.st x k1 k2; (repeat rw [up_ne (by omega)]); first | exact k0 | exact k0 k3
  · (try intro x k1 k2); (try intro k3); have k0 := h.ta x k1 k2; (repeat rw [up_ne (by omega)]); first | exact k0 | exact k0 k3
  · (try intro x k1 k2); (try intro k3); have k0 := h.t17; (repeat rw [up_ne (by omega)]); first | exact k0 | exact k0 k3
  · intro x k1 k2; have k0 := h.bit x k1 k2; rw [cOne_cg (P := P) (up_ne (by omega))]; exact k0
  · (try intro x k1 k2); (try intro k3); have k0 := h.sg x k1 k2; (repeat rw [up_ne (by omega)]); first | exact k0 | exact k0 k3
  · (try intro x k1 k2); (try intro k3); have k0 := h.wh x k1 k2; (repeat rw [up_ne (by omega)]); first | exact k0 | exact k0 k3
  · (try intro x k1 k2); (try intro k3); have k0 := h.le x k1 k2; (repeat rw [up_ne (by omega)]); first | exact k0 | exact k0 k3
  · (try intro x k1 k2); (try intro k3); have k0 := h.by_ x k1 k2; (repeat rw [up_ne (by omega)]); first | exact k0 | exact k0 k3
  · (try intro x k1 k2); (try intro k3); have k0 := h.po x k1 k2; (repeat rw [up_ne (by omega)]); first | exact k0 | exact k0 k3
  · (try intro x k1 k2); (try intro k3); have k0 := h.ls x k1 k2; (repeat rw [up_ne (by omega)]); first | exact k0 | exact k0 k3
  · (try intro x k1 k2); (try intro k3); have k0 := h.tn; (repeat rw [up_ne (by omega)]); first | exact k0 | exact k0 k3
  · (try intro x k1 k2); (try intro k3); have k0 := h.mo x k1 k2; (repeat rw [up_ne (by omega)]); first | exact k0 | exact k0 k3
  · (try intro x k1 k2); (try intro k3); have k0 := h.tl x k1 k2; (repeat rw [up_ne (by omega)]); first | exact k0 | exact k0 k3
  · (try intro x k1 k2); (try intro k3); have k0 := h.tp x k1 k2; (repeat rw [up_ne (by omega)]); first | exact k0 | exact k0 k3
  · (try intro x k1 k2); (try intro k3); have k0 := h.im; (repeat rw [up_ne (by omega)]); first | exact k0 | exact k0 k3
  · (try intro x k1 k2); (try intro k3); have k0 := h.fu x k1 k2; (repeat rw [up_ne (by omega)]); first | exact k0 | exact k0 k3
  · (try intro x k1 k2); (try intro k3); have k0 := h.ra x k1 k2; (repeat rw [up_ne (by omega)]); first | exact k0 | exact k0 k3
  · (try intro x k1 k2); (try intro k3); have k0 := h.co x k1 k2; (repeat rw [up_ne (by omega)]); first | exact k0 | exact k0 k3
  · (try intro x k1 k2); (try intro k3); have k0 := h.pr x k1 k2; (repeat rw [up_ne (by omega)]); first | exact k0 | exact k0 k3
  · (try intro x k1 k2); (try intro k3); have k0 := h.cp x k1 k2; (repeat rw [up_ne (by omega)]); first | exact k0 | exact k0 k3
theorem RC_cg {P Q : Mem} {z y : Z} {dl : Int → Int} (h : RC P z dl) (h1 : Q = P) (h2 : y = z) : RC Q y dl := by rw [h1, h2]; exact h
theorem u1_cm {z : Z} {i j a b : Int} (h : ¬ i = j) : u1 (u1 z i a) j b = u1 (u1 z j b) i a := by
  funext x; unfold u1; grind
theorem u1_self {z : Z} {i : Int} : u1 z i (z i) = z := by funext x; unfold u1; grind

/-! plain mathematics: whole texts -/
theorem tW_0 (c : Int) : tW 0 c = 0 := by
  unfold tW
  rw [if_neg (by decide), if_neg (by decide), if_neg (by decide), if_neg (by decide), if_neg (by decide), if_neg (by decide), if_neg (by decide), if_neg (by decide), if_neg (by decide)]
theorem tP_0 {m : Mem} : ∀ (d : Nat) (i : Int), tP m d i 0 = 0 := by
  intro d
  induction d with
  | zero => intro i; rfl
  | succ d ih => intro i; rw [tP, tW_0]; exact ih _
theorem scan_s {m : Mem} : ∀ (d : Nat) (k w : Int) (M : Mem) (e : Nat), k + d = m 195 0 → 0 ≤ k → JS m M k w e → (∀ j, 0 ≤ j → j < m 195 0 → tC m j = M 201 j) →
    (pSk d k M = m 195 0 ∧ tE m d k w = m 195 0 ∧ ∃ e', JS m (pSc d k M) (m 195 0) (tP m d k w) e') ∨ (pSk d k M < m 195 0 ∧ tE m d k w = pSk d k M ∧ tP m d k w = 0) := by
  intro d
  induction d with
  | zero =>
    intro k w M e h1 h2 h3 h4
    have e : k = m 195 0 := by omega
    subst e
    exact .inl ⟨rfl, rfl, e, h3⟩
  | succ d ih =>
    intro k w M e h1 h2 h3 h4
    have hc := h4 k h2 (by omega)
    rw [pSk, pSc, tE, tP, ← hc]
    rcases JS_step (c := tC m k) rfl h3 with ⟨a1, a2, e', a3⟩ | ⟨a1, a2⟩
    · rw [if_pos a1, if_pos a1, if_neg a2]
      exact ih (k + 1) _ _ e' (by omega) (by omega) a3 (fun j j1 j2 => by rw [pT_o (by omega)]; exact h4 j j1 j2)
    · right
      have n1 : ¬ pTb M (tC m k) = true := by rw [a1]; decide
      rw [if_neg n1, if_pos a2, a2]
      exact ⟨by omega, rfl, tP_0 _ _⟩
theorem scan_0 {m M : Mem} (hT : TL m) (ht : TT m M) :
    (pScK M = m 195 0 ∧ tE m (m 195 0).toNat 0 1 = m 195 0 ∧ ∃ e', JS m (pScn M) (m 195 0) (tP m (m 195 0).toNat 0 1) e') ∨ (pScK M < m 195 0 ∧ tE m (m 195 0).toNat 0 1 = pScK M ∧ tP m (m 195 0).toNat 0 1 = 0) := by
  have hl := hT.1
  have e8 : pS0 M 197 8 = ((0 : Nat) : Int) := up_at
  have e9 : pS0 M 197 9 = 0 := by unfold pS0; rw [up_ne (by omega), up_at]
  have j0 : JS m (pS0 M) 0 1 0 := ⟨e8, fun n h => absurd h (by omega), .inl ⟨e9, rfl, rfl⟩⟩
  have s := scan_s (m := m) (m 195 0).toNat 0 1 (pS0 M) 0 (by omega) (by omega) j0 (fun j a b => by
    rw [tC_tt ht ⟨a, b⟩]; unfold pS0; rw [up_ne (by omega), up_ne (by omega)])
  unfold pScK pScn
  rw [← ht.1]
  exact s
theorem TT_th {m M : Mem} (h : TT m M) : TT m (th0 M) := ⟨by rw [h.1]; unfold th0; rw [up_ne (by omega)], fun j a b => by rw [h.2 j a b]; unfold th0; rw [up_ne (by omega)]⟩
theorem q_fe {m M : Mem} (hT : TL m) (ht : TT m M) : tE m (m 195 0).toNat 0 1 = pScK M := by
  rcases scan_0 hT ht with ⟨a, b, _⟩ | ⟨a, b, _⟩ <;> omega
theorem JS_20 {m M : Mem} {k w : Int} {e : Nat} (h : JS m M k w e) : w = 2 ↔ M 197 9 = 20 := by
  obtain ⟨_, _, h⟩ := h
  omega
theorem q_ok {m M : Mem} (hT : TL m) (ht : TT m M) : tOk m = true ↔ (pScK M = m 195 0 ∧ pScn M 197 9 = 20) := by
  unfold tOk
  rw [decide_eq_true_eq]
  rcases scan_0 hT ht with ⟨a, b, e, j⟩ | ⟨a, b, c⟩
  · have h2 := JS_20 j
    have hw : wr (tP m (m 195 0).toNat 0 1) = tP m (m 195 0).toNat 0 1 := by
      obtain ⟨_, _, h⟩ := j
      exact wr_id' (by omega) (by omega)
    rw [hw, h2]
    exact ⟨fun q => ⟨a, q⟩, fun q => q.2⟩
  · rw [c]
    constructor
    · intro q; exact absurd q (by decide)
    · intro q; omega
theorem pq_2 (m : Mem) (n : Nat) : pq m n + 2 ≤ pq m (n + 1) := by
  rw [pq]
  have := tN_b (tC m (pq m n))
  omega
theorem pq_lt {m : Mem} : ∀ (e n : Nat), n < e → pq m n + 2 ≤ pq m e := by
  intro e
  induction e with
  | zero => intro n h; omega
  | succ e ih =>
    intro n h
    have := pq_2 m e
    by_cases q : n = e
    · subst q; exact this
    · have := ih n (by omega); omega
/-- a right program: its entries -/
theorem q_entries {m M : Mem} (hT : TL m) (ht : TT m M) (ho : tOk m = true) : ∃ e : Nat, pScn M 197 8 = e ∧ pq m e = m 195 0 + 1 ∧ e ≤ 32 ∧ ∀ n : Nat, n < e → EN m (pScn M) n (pq m n) := by
  have h2 := (q_ok hT ht).mp ho
  have hl := hT.1
  rcases scan_0 hT ht with ⟨a, b, e, j⟩ | ⟨a, b, c⟩
  · have h20 := h2.2
    obtain ⟨j1, j2, j3⟩ := j
    have hp : m 195 0 + 1 = pq m e := by omega
    refine ⟨e, j1, hp.symm, ?_, j2⟩
    have g : ∀ n : Nat, 2 * (n : Int) ≤ pq m n := by
      intro n
      induction n with
      | zero => show (2 : Int) * ((0 : Nat) : Int) ≤ 0; decide
      | succ n ih => have := pq_2 m n; omega
    have := g e
    omega
  · omega

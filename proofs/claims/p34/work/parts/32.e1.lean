/-! the model: run, undo -/
def zRnF (m : Mem) (t : Int) : Nat → Int → Z × (Int → Int) → (Z × (Int → Int)) × Int
  | 0, n, s => (s, n)
  | d + 1, n, s => if n < m 197 8 ∧ zMay m s.1 n t = true then zRnF m t d (n + 1) (zDo m n s) else (s, n)
def zRnM (z : Z) (m : Mem) : Mem := zSv z (pScn (th0 m))
def zRun (z : Z) (m : Mem) (t : Int) : (Z × (Int → Int)) × Int := zRnF (zRnM z m) t 32 0 (z, m 205)
theorem zSv_o {z : Z} {m : Mem} {k : Nat} {j : Int} (h : ¬ k = 200) (h2 : ¬ (k = 197 ∧ j = 10)) : zSv z m k j = m k j := by
  have hA : zSvA m k j = m k j := by
    unfold zSvA
    split
    · rw [up_ne (by omega)]; unfold shA; rw [if_neg (by omega)]
    · rfl
  unfold zSv
  rw [up_ne (by omega)]
  unfold shB
  rw [if_neg (by omega)]
  exact hA
theorem pSc_o {k : Nat} {j : Int} (h : ¬ k = 202 ∧ ¬ k = 203 ∧ ¬ k = 204 ∧ ¬ (k = 197 ∧ (j = 8 ∨ j = 9))) : ∀ (d : Nat) (i : Int) (m : Mem), pSc d i m k j = m k j := by
  intro d
  induction d with
  | zero => intro i m; rfl
  | succ d ih =>
    intro i m
    have e : pT m (m 201 i) k j = m k j := pT_o (by omega)
    rw [pSc]
    split
    · rw [ih, e]
    · exact e
theorem pScn_o {m : Mem} {k : Nat} {j : Int} (h : ¬ k = 202 ∧ ¬ k = 203 ∧ ¬ k = 204 ∧ ¬ (k = 197 ∧ (j = 8 ∨ j = 9))) : pScn m k j = m k j := by
  unfold pScn
  rw [pSc_o h]
  unfold pS0
  rw [up_ne (by omega), up_ne (by omega)]
theorem pSk_b : ∀ (d : Nat) (k : Int) (m : Mem), k ≤ pSk d k m ∧ pSk d k m ≤ k + d := by
  intro d
  induction d with
  | zero => intro k m; simp [pSk]
  | succ d ih =>
    intro k m
    rw [pSk]
    split
    · have := ih (k + 1) (pT m (m 201 k)); omega
    · omega
theorem pScK_b {m : Mem} (h : TX m) : 0 ≤ pScK m ∧ pScK m ≤ 60 := by
  have := pSk_b (m 197 11).toNat 0 (pS0 m)
  have := h.1
  unfold pScK
  omega
/-- the state behind a scan -/
theorem pSc_9 : ∀ (d : Nat) (k : Int) (m : Mem), k + d = m 197 11 → 0 ≤ k → pI m k → 0 ≤ pSc d k m 197 9 ∧ pSc d k m 197 9 ≤ 20 := by
  intro d
  induction d with
  | zero => intro k m h1 h2 h3; exact h3.2.1
  | succ d ih =>
    intro k m h1 h2 h3
    rw [pSc]
    split
    · rename_i hb; exact ih _ _ (by rw [pT_o (by omega)]; omega) (by omega) (pT_I h3 hb)
    · have hg : ∀ (x : Mem) (b : Bool) (n : Int), 0 ≤ n → n ≤ 20 → x 197 9 = m 197 9 → 0 ≤ pG x b n 197 9 ∧ pG x b n 197 9 ≤ 20 := by
        intro x b n a1 a2 a3
        have := h3.2.1
        unfold pG
        rw [up_at]
        split <;> omega
      have he : ∀ (x : Mem) (b : Bool), x 197 9 = m 197 9 → 0 ≤ pE x b 197 9 ∧ pE x b 197 9 ≤ 20 := by
        intro x b a1
        unfold pE
        exact hg _ _ _ (by decide) (by decide) (by rw [up_ne (by omega)]; exact a1)
      unfold pT pB pT2 pBK pB0
      repeat' split
      all_goals first | (refine hg _ _ _ (by decide) (by decide) ?_; simp [up]; done) | (refine he _ _ ?_; simp [up]; done)
theorem pScn_9 {m : Mem} (h : TX m) : 0 ≤ pScn m 197 9 ∧ pScn m 197 9 ≤ 20 := by
  have e11 : pS0 m 197 11 = m 197 11 := by unfold pS0; rw [up_ne (by omega), up_ne (by omega)]
  exact pSc_9 _ _ _ (by have := h.1; omega) (by omega) (pI_0 h)
def zUn (m : Mem) (z : Z) : Z := brZ (fun j => m 200 (2195 * (m 197 10 - 1) + j)) z 2195

/-! the model: its text, programs -/
def pG (m : Mem) (b : Bool) (n : Int) : Mem := up m 197 9 (if b = true then n else m 197 9)
def pE (m : Mem) (b : Bool) : Mem := pG (up m 197 8 (m 197 8 + bI b)) b 20
def pB0 (m : Mem) : Mem := up (up m 203 (m 197 8) 0) 204 (m 197 8) 0
def pBK (m : Mem) (k : Int) : Mem := up (pB0 m) 202 (m 197 8) k
def pB (m : Mem) (c : Int) : Mem := if c = 114 then pG (pBK m 0) true 1 else if c = 116 then pG (pBK m 3) true 5 else if c = 119 then pG (pBK m 1) true 1 else pE (pBK m 2) (decide (c = 98))
def pBb (c : Int) : Bool := decide (c = 114 ∨ c = 116 ∨ c = 119 ∨ c = 98)
def pT2 (m : Mem) (v : Int) : Mem := up m 203 (m 197 8) (m 203 (m 197 8) + (if wi v 0 7 = true then v else 0))
def pT (m : Mem) (c : Int) : Mem :=
  if m 197 9 = 0 then pB m c else
  if m 197 9 = 1 then pG (up m 203 (m 197 8) (8 * (c - 48))) (wi (c - 48) 0 7) 2 else
  if m 197 9 = 2 then (if wr (m 202 (m 197 8)) = 0 then pE (pT2 m (c - 48)) (wi (c - 48) 0 7) else pG (pT2 m (c - 48)) (wi (c - 48) 0 7) 3) else
  if m 197 9 = 3 then pG m (decide (c = 61)) 4 else
  if m 197 9 = 4 then pE (up m 204 (m 197 8) (c - 48)) (wi (c - 48) 0 1) else
  if m 197 9 = 5 then pE (up m 204 (m 197 8) (c - 48)) (wi (c - 48) 1 9) else pG m (decide (c = 59)) 0
def pTb (m : Mem) (c : Int) : Bool :=
  if m 197 9 = 0 then pBb c else
  if m 197 9 = 1 ∨ m 197 9 = 2 then wi (c - 48) 0 7 else
  if m 197 9 = 3 then decide (c = 61) else
  if m 197 9 = 4 then wi (c - 48) 0 1 else
  if m 197 9 = 5 then wi (c - 48) 1 9 else decide (c = 59)
def pSc : Nat → Int → Mem → Mem
  | 0, _, m => m
  | d + 1, k, m => if pTb m (m 201 k) = true then pSc d (k + 1) (pT m (m 201 k)) else pT m (m 201 k)
def pSk : Nat → Int → Mem → Int
  | 0, k, _ => k
  | d + 1, k, m => if pTb m (m 201 k) = true then pSk d (k + 1) (pT m (m 201 k)) else k
/-- what holds while the text is read, at the place k -/
def pI (m : Mem) (k : Int) : Prop := (0 ≤ m 197 8 ∧ 2 * m 197 8 ≤ k + (if m 197 9 = 20 then 1 else 0)) ∧ (0 ≤ m 197 9 ∧ m 197 9 ≤ 20) ∧ (0 ≤ m 197 11 ∧ m 197 11 ≤ 60) ∧ ∀ j, 0 ≤ j → j < m 197 11 → 33 ≤ m 201 j ∧ m 201 j ≤ 126
theorem pG_o {m : Mem} {b : Bool} {n : Int} {k : Nat} {j : Int} (h : ¬ (k = 197 ∧ j = 9)) : pG m b n k j = m k j := up_ne h
theorem pG_9 {m : Mem} {b : Bool} {n : Int} : pG m b n 197 9 = if b = true then n else m 197 9 := up_at
theorem pE_o {m : Mem} {b : Bool} {k : Nat} {j : Int} (h : ¬ (k = 197 ∧ (j = 8 ∨ j = 9))) : pE m b k j = m k j := by rw [pE, pG_o (by omega), up_ne (by omega)]
theorem pE_8 {m : Mem} {b : Bool} : pE m b 197 8 = m 197 8 + bI b := by rw [pE, pG_o (by omega), up_at]
theorem pE_9 {m : Mem} {b : Bool} : pE m b 197 9 = if b = true then 20 else m 197 9 := by rw [pE, pG_9, up_ne (by omega)]
theorem pBK_o {m : Mem} {n : Int} {k : Nat} {j : Int} (h : k < 202 ∨ 204 < k) : pBK m n k j = m k j := by rw [pBK, up_ne (by omega), pB0, up_ne (by omega), up_ne (by omega)]
theorem pT_o {m : Mem} {c : Int} {k : Nat} {j : Int} (h : (k < 202 ∨ 204 < k) ∧ ¬ (k = 197 ∧ (j = 8 ∨ j = 9))) : pT m c k j = m k j := by
  have g : ∀ (a : Mem) (b : Bool) (n : Int), a k j = m k j → pG a b n k j = m k j := fun a b n q => by rw [pG_o (by omega)]; exact q
  have e : ∀ (a : Mem) (b : Bool), a k j = m k j → pE a b k j = m k j := fun a b q => by rw [pE_o (by omega)]; exact q
  have u : ∀ (q : Nat) (i v : Int), 202 ≤ q → q ≤ 204 → up m q i v k j = m k j := fun q i v h1 h2 => up_ne (by omega)
  unfold pT pB
  repeat' split
  all_goals first
    | exact g _ _ _ (pBK_o h.1)
    | exact e _ _ (pBK_o h.1)
    | exact g _ _ _ (u _ _ _ (by omega) (by omega))
    | exact e _ _ (u _ _ _ (by omega) (by omega))
    | exact g _ _ _ rfl
theorem pT_k {m : Mem} {c : Int} (hb : pTb m c = true) : (pT m c 197 8 = m 197 8 ∧ ¬ pT m c 197 9 = 20 ∧ 0 ≤ pT m c 197 9 ∧ pT m c 197 9 ≤ 20) ∨ (¬ m 197 9 = 20 ∧ pT m c 197 8 = m 197 8 + 1 ∧ pT m c 197 9 = 20) := by
  have kG : ∀ (a : Mem) (b : Bool) (n : Int), b = true → a 197 8 = m 197 8 → ¬ n = 20 → 0 ≤ n → n ≤ 20 → pG a b n 197 8 = m 197 8 ∧ ¬ pG a b n 197 9 = 20 ∧ 0 ≤ pG a b n 197 9 ∧ pG a b n 197 9 ≤ 20 := fun a b n h1 h2 h3 h4 h5 => by
    rw [pG_o (by omega), pG_9, if_pos h1]; exact ⟨h2, h3, h4, h5⟩
  have kE : ∀ (a : Mem) (b : Bool), b = true → a 197 8 = m 197 8 → pE a b 197 8 = m 197 8 + 1 ∧ pE a b 197 9 = 20 := fun a b h1 h2 => by
    rw [pE_8, pE_9, if_pos h1, h1, h2]; exact ⟨rfl, rfl⟩
  unfold pTb at hb
  unfold pT
  by_cases h0 : m 197 9 = 0
  · rw [if_pos h0] at hb; rw [if_pos h0]
    unfold pB
    unfold pBb at hb
    have hb := of_decide_eq_true hb
    by_cases q1 : c = 114
    · rw [if_pos q1]; exact Or.inl (kG _ _ _ rfl (pBK_o (by omega)) (by omega) (by omega) (by omega))
    rw [if_neg q1]
    by_cases q2 : c = 116
    · rw [if_pos q2]; exact Or.inl (kG _ _ _ rfl (pBK_o (by omega)) (by omega) (by omega) (by omega))
    rw [if_neg q2]
    by_cases q3 : c = 119
    · rw [if_pos q3]; exact Or.inl (kG _ _ _ rfl (pBK_o (by omega)) (by omega) (by omega) (by omega))
    rw [if_neg q3]
    exact Or.inr ⟨by omega, kE _ _ (by simp; omega) (pBK_o (by omega))⟩
  rw [if_neg h0] at hb; rw [if_neg h0]
  by_cases h1 : m 197 9 = 1
  · rw [if_pos (by omega)] at hb; rw [if_pos h1]; exact Or.inl (kG _ _ _ hb (up_ne (by omega)) (by omega) (by omega) (by omega))
  rw [if_neg h1]
  by_cases h2 : m 197 9 = 2
  · rw [if_pos (by omega)] at hb; rw [if_pos h2]
    split
    · exact Or.inr ⟨by omega, kE _ _ hb (up_ne (by omega))⟩
    · exact Or.inl (kG _ _ _ hb (up_ne (by omega)) (by omega) (by omega) (by omega))
  rw [if_neg (by omega)] at hb; rw [if_neg h2]
  by_cases h3 : m 197 9 = 3
  · rw [if_pos h3] at hb; rw [if_pos h3]; exact Or.inl (kG _ _ _ hb rfl (by omega) (by omega) (by omega))
  rw [if_neg h3] at hb; rw [if_neg h3]
  by_cases h4 : m 197 9 = 4
  · rw [if_pos h4] at hb; rw [if_pos h4]; exact Or.inr ⟨by omega, kE _ _ hb (up_ne (by omega))⟩
  rw [if_neg h4] at hb; rw [if_neg h4]
  by_cases h5 : m 197 9 = 5
  · rw [if_pos h5] at hb; rw [if_pos h5]; exact Or.inr ⟨by omega, kE _ _ hb (up_ne (by omega))⟩
  rw [if_neg h5] at hb; rw [if_neg h5]
  exact Or.inl (kG _ _ _ hb rfl (by omega) (by omega) (by omega))
theorem pT_I {m : Mem} {k : Int} (h : pI m k) (hb : pTb m (m 201 k) = true) : pI (pT m (m 201 k)) (k + 1) := by
  obtain ⟨⟨a1, a2⟩, ⟨b1, b2⟩, c, d⟩ := h
  have e11 : pT m (m 201 k) 197 11 = m 197 11 := pT_o (by omega)
  have e201 : ∀ j, pT m (m 201 k) 201 j = m 201 j := fun j => pT_o (by omega)
  refine ⟨?_, ?_, by rw [e11]; exact c, fun j h1 h2 => by rw [e201]; exact d j h1 (by omega)⟩
  · rcases pT_k hb with q | q
    · rw [q.1, if_neg q.2.1]; split at a2 <;> omega
    · rw [q.2.1, if_pos q.2.2]; rw [if_neg q.1] at a2; omega
  · rcases pT_k hb with q | q <;> omega
theorem pI_e {m : Mem} {k : Int} (h : pI m k) (hk : k < m 197 11) : 0 ≤ m 197 8 ∧ m 197 8 < 32 := by
  obtain ⟨⟨a1, a2⟩, b, c, d⟩ := h
  split at a2 <;> omega
def zMay (m : Mem) (z : Z) (k t : Int) : Bool :=
  if wr (m 202 k) = 0 then decide (wr (z (59 + 9 * m 203 k + 2)) = t + 1) && zCR z (m 203 k) else
  if wr (m 202 k) = 1 then decide (wr (z (59 + 9 * m 203 k + 2)) = t + 1) else
  if wr (m 202 k) = 2 then decide (0 < wr (zOwN z)) else decide (wr (z 0 + m 204 k) ≤ 10000)
def zTkN : Nat → Z × (Int → Int) → Z × (Int → Int)
  | 0, s => s
  | d + 1, s => zTkN d (zTk s.1 s.2, zOrd (zTk0 s.1) s.2)
def zDo (m : Mem) (k : Int) (s : Z × (Int → Int)) : Z × (Int → Int) :=
  if wr (m 202 k) = 0 then (zRd s.1 (m 203 k), s.2) else
  if wr (m 202 k) = 1 then (zWr s.1 (m 203 k) (m 204 k), s.2) else
  if wr (m 202 k) = 2 then (zWb s.1 (zOrd s.1 s.2 0), zOrd s.1 s.2) else zTkN (m 204 k).toNat s
def pS0 (m : Mem) : Mem := up (up m 197 9 0) 197 8 0
def TX (m : Mem) : Prop := (0 ≤ m 197 11 ∧ m 197 11 ≤ 60) ∧ ∀ j, 0 ≤ j → j < m 197 11 → 33 ≤ m 201 j ∧ m 201 j ≤ 126
def pScn (m : Mem) : Mem := pSc (m 197 11).toNat 0 (pS0 m)
def pScK (m : Mem) : Int := pSk (m 197 11).toNat 0 (pS0 m)
theorem pI_0 {m : Mem} (h : TX m) : pI (pS0 m) 0 := by
  have e8 : pS0 m 197 8 = 0 := up_at
  have e9 : pS0 m 197 9 = 0 := by unfold pS0; rw [up_ne (by omega), up_at]
  have e11 : pS0 m 197 11 = m 197 11 := by unfold pS0; rw [up_ne (by omega), up_ne (by omega)]
  have e201 : ∀ j, pS0 m 201 j = m 201 j := fun j => by unfold pS0; rw [up_ne (by omega), up_ne (by omega)]
  refine ⟨by rw [e8, e9]; simp, by omega, by rw [e11]; exact h.1, fun j h1 h2 => by rw [e201]; exact h.2 j h1 (by omega)⟩
theorem WI_tkN {K : Int} : ∀ (d : Nat) (s : Z × (Int → Int)), WI s.1 K → WI (zTkN d s).1 K := by
  intro d
  induction d with
  | zero => intro s h; exact h
  | succ d ih => intro s h; rw [zTkN]; exact ih (zTk s.1 s.2, zOrd (zTk0 s.1) s.2) (by dsimp only; exact WI_tk h)
theorem WI_do {m : Mem} {K n t : Int} {s : Z × (Int → Int)} (hc : 0 ≤ m 203 n ∧ m 203 n < 64) (hm : zMay m s.1 n t = true) (h : WI s.1 K) : WI (zDo m n s).1 K := by
  unfold zDo
  by_cases h0 : wr (m 202 n) = 0
  · rw [if_pos h0]; exact WI_rd hc h
  by_cases h1 : wr (m 202 n) = 1
  · rw [if_neg h0, if_pos h1]; exact WI_wr hc h
  by_cases h2 : wr (m 202 n) = 2
  · rw [if_neg h0, if_neg h1, if_pos h2]
    rw [zMay, if_neg h0, if_neg h1, if_pos h2] at hm
    have hp := of_decide_eq_true hm
    have hb := zOw_b s.1
    rw [wr_id' (by omega) (by omega)] at hp
    have h2 := zOr_b s.1 s.2
    rw [zOrN_n] at h2
    exact WI_wb (h2.1 0 (by omega) (by omega)) h
  · rw [if_neg h0, if_neg h1, if_neg h2]; exact WI_tkN _ _ h

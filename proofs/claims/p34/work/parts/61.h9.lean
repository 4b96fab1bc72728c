theorem ps_self {X P : Mem} (h : ∀ d, d < 24 → X (1 + d) = P d) : ps X 1 P = X := by
  funext k
  unfold ps
  by_cases q : 1 ≤ k ∧ k < 1 + 24
  · rw [if_pos q, ← h (k - 1) (by omega), show 1 + (k - 1) = k by omega]
  · rw [if_neg q]
/-- the law's memory: the class's plane, the model's row, what both keep -/
def LW (X : Mem) (B K : Int) : Prop := ∃ (P : Mem) (z : Z), (∀ d, d < 24 → X (1 + d) = P d) ∧ X 198 = z ∧ LI X P z B K

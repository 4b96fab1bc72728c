/-! plain mathematics: one memory for both -/
theorem sz_self' {X : Mem} {z : Z} (h : X 198 = z) : sz X z = X := by rw [← h]; exact sz_self
theorem ps_self {X P : Mem} (h : ∀ d, d < 24 → X (1 + d) = P d) : ps X 1 P = X := by
  funext k
  unfold ps
  by_cases q : 1 ≤ k ∧ k < 1 + 24
  · rw [if_pos q, ← h (k - 1) (by omega), show 1 + (k - 1) = k by omega]
  · rw [if_neg q]
/-- the law's memory: the class's plane, the model's row, what both keep -/
def LW (X : Mem) (B K : Int) : Prop := ∃ (P : Mem) (z : Z), (∀ d, d < 24 → X (1 + d) = P d) ∧ X 198 = z ∧ LI X P z B K
theorem LW_ps {X : Mem} {B K : Int} (h : LW X B K) : ∃ (P : Mem) (z : Z), ps X 1 P = X ∧ sz X z = X ∧ X 198 = z ∧ LI X P z B K := by
  obtain ⟨P, z, h1, h2, h3⟩ := h
  exact ⟨P, z, ps_self h1, sz_self' h2, h2, h3⟩

/-! CONSTRUCTORS: the model -/
def mdS : List SH := [.inl (8, [.inr 198, .inr 199, .inr 200, .inr 201, .inr 202, .inr 203, .inr 204, .inr 205, .inl 0, .inl 0, .inl 0, .inl 0, .inl 0, .inl 1]), .inr (0, 2195), .inr (0, 2195), .inr (0, 13170), .inr (0, 60), .inr (0, 32), .inr (0, 32), .inr (0, 32), .inr (0, 64)]
def zI (i : Int) : Z := fun j => if j = 15 then 2 else if j = 16 then 4 else if j = 17 then 3 else if j = 18 then 5 else if j = 19 then 20 else if j = 20 then 60 else if j = 21 then 2 else if j = 22 then 10 else if 59 ≤ j ∧ j < 59 + 9 * i ∧ (j - 60) % 9 = 0 then 100 else 0
theorem zI_s {i : Int} (h : 0 ≤ i) : u1 (zI i) (59 + 9 * i + 1) 100 = zI (i + 1) := by
  funext j
  unfold u1
  by_cases q : j = 59 + 9 * i + 1
  · rw [if_pos q]
    unfold zI
    rw [if_neg (by omega), if_neg (by omega), if_neg (by omega), if_neg (by omega), if_neg (by omega), if_neg (by omega), if_neg (by omega), if_neg (by omega), if_pos (by omega)]
  · rw [if_neg q]
    unfold zI
    by_cases g : 59 ≤ j ∧ j < 59 + 9 * i ∧ (j - 60) % 9 = 0
    · rw [if_pos g, if_pos (show 59 ≤ j ∧ j < 59 + 9 * (i + 1) ∧ (j - 60) % 9 = 0 by omega)]
    · rw [if_neg g, if_neg (show ¬ (59 ≤ j ∧ j < 59 + 9 * (i + 1) ∧ (j - 60) % 9 = 0) by omega)]

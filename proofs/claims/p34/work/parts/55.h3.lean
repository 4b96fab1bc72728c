/-! plain mathematics: texts -/
def pq (m : Mem) : Nat → Int
  | 0 => 0
  | n + 1 => pq m n + (tN (tC m (pq m n)) + 1)
def EN (m M : Mem) (n p : Int) : Prop := ((0 ≤ M 203 n ∧ M 203 n < 64) ∧ 0 ≤ M 204 n ∧ M 204 n ≤ 9) ∧
  (tC m p = 114 ∧ M 202 n = 0 ∧ M 203 n = tK m (p + 1) ∨ tC m p = 119 ∧ M 202 n = 1 ∧ M 203 n = tK m (p + 1) ∧ M 204 n = tC m (p + 4) - 48 ∧ M 204 n ≤ 1 ∨ tC m p = 98 ∧ M 202 n = 2 ∨ tC m p = 116 ∧ M 202 n = 3 ∧ M 204 n = tC m (p + 1) - 48)
theorem EN_cg {m M N : Mem} {n p : Int} (h : EN m M n p) (h2 : N 202 n = M 202 n) (h3 : N 203 n = M 203 n) (h4 : N 204 n = M 204 n) : EN m N n p := by
  unfold EN at *; rw [h2, h3, h4]; exact h
def JS (m M : Mem) (k w : Int) (e : Nat) : Prop := M 197 8 = e ∧ (∀ n : Nat, n < e → EN m M n (pq m n)) ∧
  (M 197 9 = 0 ∧ w = 1 ∧ k = pq m e ∨ M 197 9 = 20 ∧ w = 2 ∧ k + 1 = pq m e ∨
   M 197 9 = 1 ∧ k = pq m e + 1 ∧ (M 203 e = 0 ∧ M 204 e = 0) ∧ (tC m (pq m e) = 114 ∧ M 202 e = 0 ∧ w = 3 ∨ tC m (pq m e) = 119 ∧ M 202 e = 1 ∧ w = 5) ∨
   M 197 9 = 2 ∧ k = pq m e + 2 ∧ (M 203 e = 8 * (tC m (pq m e + 1) - 48) ∧ (0 ≤ M 203 e ∧ M 203 e ≤ 56) ∧ M 204 e = 0) ∧ (tC m (pq m e) = 114 ∧ M 202 e = 0 ∧ w = 4 ∨ tC m (pq m e) = 119 ∧ M 202 e = 1 ∧ w = 6) ∨
   M 197 9 = 3 ∧ w = 7 ∧ k = pq m e + 3 ∧ (tC m (pq m e) = 119 ∧ M 202 e = 1) ∧ M 203 e = tK m (pq m e + 1) ∧ (0 ≤ M 203 e ∧ M 203 e < 64) ∧ M 204 e = 0 ∨
   M 197 9 = 4 ∧ w = 8 ∧ k = pq m e + 4 ∧ (tC m (pq m e) = 119 ∧ M 202 e = 1) ∧ M 203 e = tK m (pq m e + 1) ∧ (0 ≤ M 203 e ∧ M 203 e < 64) ∧ M 204 e = 0 ∨
   M 197 9 = 5 ∧ w = 9 ∧ k = pq m e + 1 ∧ (tC m (pq m e) = 116 ∧ M 202 e = 3) ∧ M 203 e = 0 ∧ M 204 e = 0)
/-- a state whose entry goes on -/
theorem pG_v {M : Mem} {n : Int} : pG M true n 197 9 = n ∧ ∀ (a : Nat) (j : Int), ¬ (a = 197 ∧ j = 9) → pG M true n a j = M a j := by
  unfold pG
  exact ⟨by rw [up_at]; rfl, fun a j h => up_ne h⟩
theorem pE_v {M : Mem} : pE M true 197 9 = 20 ∧ pE M true 197 8 = M 197 8 + 1 ∧ ∀ (a : Nat) (j : Int), ¬ (a = 197 ∧ (j = 9 ∨ j = 8)) → pE M true a j = M a j := by
  unfold pE
  obtain ⟨h1, h2⟩ := pG_v (M := up M 197 8 (M 197 8 + bI true)) (n := 20)
  exact ⟨h1, by rw [h2 _ _ (by omega), up_at]; rfl, fun a j h => by rw [h2 _ _ (by omega), up_ne (by omega)]⟩
theorem wi_iff {v a b : Int} : wi v a b = true ↔ a ≤ v ∧ v ≤ b := decide_eq_true_iff
/-- an entry done: what holds behind it -/
theorem JS_end {m M N : Mem} {k : Int} {e : Nat} (hE : M 197 8 = e) (hp : ∀ n : Nat, n < e → EN m M n (pq m n)) (n9 : N 197 9 = 20) (n8 : N 197 8 = e + 1) (ho : ∀ (a : Nat) (j : Int), (a = 202 ∨ a = 203 ∨ a = 204) → ¬ j = e → N a j = M a j) (hn : EN m N e (pq m e)) (hk : k + 2 = pq m (e + 1)) : JS m N (k + 1) 2 (e + 1) := by
  refine ⟨by rw [n8]; omega, fun n h => ?_, .inr (.inl ⟨n9, rfl, by omega⟩)⟩
  by_cases q : n = e
  · subst q; exact hn
  · exact EN_cg (hp n (by omega)) (ho _ _ (by omega) (by omega)) (ho _ _ (by omega) (by omega)) (ho _ _ (by omega) (by omega))
theorem JS_step {m M : Mem} {k w c : Int} {e : Nat} (hc : tC m k = c) (h : JS m M k w e) : (pTb M c = true ∧ ¬ tW w c = 0 ∧ ∃ e', JS m (pT M c) (k + 1) (tW w c) e') ∨ (pTb M c = false ∧ tW w c = 0) := by
  obtain ⟨hE, hp, h⟩ := h
  rcases h with ⟨s, hw, hk⟩ | ⟨s, hw, hk⟩ | ⟨s, hk, ⟨c0, v0⟩, hh⟩ | ⟨s, hk, ⟨c0, cr, v0⟩, hh⟩ | ⟨s, hw, hk, ⟨t0, k0⟩, c0, cr, v0⟩ | ⟨s, hw, hk, ⟨t0, k0⟩, c0, cr, v0⟩ | ⟨s, hw, hk, ⟨t0, k0⟩, c0, v0⟩
  · -- a step must come
    subst hw
    have eT : pT M c = pB M c := by unfold pT; rw [if_pos s]
    have eb : pTb M c = pBb c := by unfold pTb; rw [if_pos s]
    have ew : tW 1 c = tS c := by unfold tW; rw [if_pos rfl]
    rw [eT, eb, ew]
    have z3 : ∀ x, pBK M x 203 e = 0 := fun x => by unfold pBK pB0; rw [up_ne (by omega), up_ne (by omega), hE, up_at]
    have z4 : ∀ x, pBK M x 204 e = 0 := fun x => by unfold pBK pB0; rw [up_ne (by omega), hE, up_at]
    have z2 : ∀ x, pBK M x 202 e = x := fun x => by unfold pBK; rw [hE, up_at]
    have zo : ∀ (x : Int) (a : Nat) (j : Int), ¬ ((a = 202 ∨ a = 203 ∨ a = 204) ∧ j = e) → pBK M x a j = M a j := fun x a j q => by unfold pBK pB0; rw [hE, up_ne (by omega), up_ne (by omega), up_ne (by omega)]
    have en : ∀ (x n' : Int) (n : Nat), n < e → EN m (pG (pBK M x) true n') n (pq m n) := fun x n' n hn => EN_cg (hp n hn) (by rw [pG_v.2 _ _ (by omega), zo _ _ _ (by omega)]) (by rw [pG_v.2 _ _ (by omega), zo _ _ _ (by omega)]) (by rw [pG_v.2 _ _ (by omega), zo _ _ _ (by omega)])
    have e8 : ∀ (x n' : Int), pG (pBK M x) true n' 197 8 = e := fun x n' => by rw [pG_v.2 _ _ (by omega), zo _ _ _ (by omega), hE]
    have tp : tC m (pq m e) = c := by rw [← hk]; exact hc
    unfold pB tS pBb
    by_cases q1 : c = 114
    · left
      subst q1
      refine ⟨rfl, by decide, e, ?_⟩
      rw [if_pos rfl]
      refine ⟨e8 _ _, en _ _, .inr (.inr (.inl ⟨pG_v.1, by omega, ⟨by rw [pG_v.2 _ _ (by omega), z3], by rw [pG_v.2 _ _ (by omega), z4]⟩, .inl ⟨tp, by rw [pG_v.2 _ _ (by omega), z2], rfl⟩⟩))⟩
    by_cases q2 : c = 116
    · left
      subst q2
      refine ⟨rfl, by decide, e, ?_⟩
      rw [if_neg (by decide), if_pos rfl]
      refine ⟨e8 _ _, en _ _, .inr (.inr (.inr (.inr (.inr (.inr ⟨pG_v.1, rfl, by omega, ⟨tp, by rw [pG_v.2 _ _ (by omega), z2]⟩, by rw [pG_v.2 _ _ (by omega), z3], by rw [pG_v.2 _ _ (by omega), z4]⟩)))))⟩
    by_cases q3 : c = 119
    · left
      subst q3
      refine ⟨rfl, by decide, e, ?_⟩
      rw [if_neg (by decide), if_neg (by decide), if_pos rfl]
      refine ⟨e8 _ _, en _ _, .inr (.inr (.inl ⟨pG_v.1, by omega, ⟨by rw [pG_v.2 _ _ (by omega), z3], by rw [pG_v.2 _ _ (by omega), z4]⟩, .inr ⟨tp, by rw [pG_v.2 _ _ (by omega), z2], rfl⟩⟩))⟩
    by_cases q4 : c = 98
    · left
      subst q4
      refine ⟨rfl, by decide, e + 1, ?_⟩
      rw [if_neg (by decide), if_neg (by decide), if_neg (by decide), if_pos rfl, decide_eq_true rfl]
      refine JS_end hE hp pE_v.1 (by rw [pE_v.2.1, zo _ _ _ (by omega), hE]) (fun a j ha hj => by rw [pE_v.2.2 _ _ (by omega), zo _ _ _ (by omega)]) ?_ ?_
      · refine EN_cg (M := pBK M 2) ⟨⟨by rw [z3]; omega, by rw [z4]; omega⟩, .inr (.inr (.inl ⟨tp, z2 2⟩))⟩ (pE_v.2.2 _ _ (by omega)) (pE_v.2.2 _ _ (by omega)) (pE_v.2.2 _ _ (by omega))
      · rw [pq, tp]; unfold tN; rw [if_neg (by decide), if_neg (by decide), if_neg (by decide)]; omega
    · right
      rw [if_neg q4, if_neg q1, if_neg q2, if_neg q3]
      exact ⟨decide_eq_false (by omega), rfl⟩
  · -- behind a step
    subst hw
    have eT : pT M c = pG M (decide (c = 59)) 0 := by unfold pT; rw [if_neg (by omega), if_neg (by omega), if_neg (by omega), if_neg (by omega), if_neg (by omega), if_neg (by omega)]
    have eb : pTb M c = decide (c = 59) := by unfold pTb; rw [if_neg (by omega), if_neg (by omega), if_neg (by omega), if_neg (by omega), if_neg (by omega)]
    have ew : tW 2 c = if c = 59 then 1 else 0 := by unfold tW; rw [if_neg (by decide), if_pos rfl]
    rw [eT, eb, ew]
    by_cases q : c = 59
    · left
      rw [decide_eq_true q, if_pos q]
      exact ⟨rfl, by decide, e, by rw [pG_v.2 _ _ (by omega)]; exact hE, fun n hn => EN_cg (hp n hn) (pG_v.2 _ _ (by omega)) (pG_v.2 _ _ (by omega)) (pG_v.2 _ _ (by omega)), .inl ⟨pG_v.1, rfl, hk⟩⟩
    · right
      rw [decide_eq_false q, if_neg q]; exact ⟨rfl, rfl⟩
  · -- a row
    have eT : pT M c = pG (up M 203 e (8 * (c - 48))) (wi (c - 48) 0 7) 2 := by unfold pT; rw [if_neg (by omega), if_pos s, hE]
    have eb : pTb M c = wi (c - 48) 0 7 := by unfold pTb; rw [if_neg (by omega), if_pos (.inl s)]
    have hq : tC m (pq m e + 1) = c := by rw [← hk]; exact hc
    have wq : wi c 48 55 = wi (c - 48) 0 7 := by unfold wi; rw [decide_eq_decide]; omega
    rw [eT, eb]
    by_cases q : wi (c - 48) 0 7 = true
    · left
      rw [q]
      have q' := wi_iff.mp q
      have hW : tW w c = w + 1 := by
        unfold tW
        rcases hh with ⟨_, _, hw⟩ | ⟨_, _, hw⟩
        · subst hw; rw [if_neg (by decide), if_neg (by decide), if_pos rfl, wq, if_pos q]; rfl
        · subst hw; rw [if_neg (by decide), if_neg (by decide), if_neg (by decide), if_neg (by decide), if_pos rfl, wq, if_pos q]; rfl
      rw [hW]
      refine ⟨rfl, by omega, e, by rw [pG_v.2 _ _ (by omega), up_ne (by omega)]; exact hE, fun n hn => EN_cg (hp n hn) (by rw [pG_v.2 _ _ (by omega), up_ne (by omega)]) (by rw [pG_v.2 _ _ (by omega), up_ne (by omega)]) (by rw [pG_v.2 _ _ (by omega), up_ne (by omega)]), .inr (.inr (.inr (.inl ⟨pG_v.1, by omega, ⟨by rw [pG_v.2 _ _ (by omega), up_at, hq], by rw [pG_v.2 _ _ (by omega), up_at]; omega, by rw [pG_v.2 _ _ (by omega), up_ne (by omega)]; exact v0⟩, ?_⟩)))⟩
      rcases hh with ⟨x1, x2, x3⟩ | ⟨x1, x2, x3⟩
      · exact .inl ⟨x1, by rw [pG_v.2 _ _ (by omega), up_ne (by omega)]; exact x2, by omega⟩
      · exact .inr ⟨x1, by rw [pG_v.2 _ _ (by omega), up_ne (by omega)]; exact x2, by omega⟩
    · right
      refine ⟨by simpa using q, ?_⟩
      unfold tW
      rcases hh with ⟨_, _, hw⟩ | ⟨_, _, hw⟩
      · subst hw; rw [if_neg (by decide), if_neg (by decide), if_pos rfl, wq, if_neg q]
      · subst hw; rw [if_neg (by decide), if_neg (by decide), if_neg (by decide), if_neg (by decide), if_pos rfl, wq, if_neg q]
  · -- a column
    have eb : pTb M c = wi (c - 48) 0 7 := by unfold pTb; rw [if_neg (by omega), if_pos (.inr s)]
    have hq : tC m (pq m e + 1 + 1) = c := by rw [show pq m e + 1 + 1 = k by omega]; exact hc
    have wq : wi c 48 55 = wi (c - 48) 0 7 := by unfold wi; rw [decide_eq_decide]; omega
    have eT : pT M c = if wr (M 202 e) = 0 then pE (pT2 M (c - 48)) (wi (c - 48) 0 7) else pG (pT2 M (c - 48)) (wi (c - 48) 0 7) 3 := by unfold pT; rw [if_neg (by omega), if_neg (by omega), if_pos s, hE]
    rw [eT, eb]
    by_cases q : wi (c - 48) 0 7 = true
    · left
      have q' := wi_iff.mp q
      have e2 : pT2 M (c - 48) = up M 203 e (M 203 e + (c - 48)) := by unfold pT2; rw [if_pos q, hE]
      rw [e2, q]
      have ek : M 203 e + (c - 48) = tK m (pq m e + 1) := by unfold tK; rw [hq]; omega
      rcases hh with ⟨x1, x2, x3⟩ | ⟨x1, x2, x3⟩
      · have hW : tW w c = 2 := by subst x3; unfold tW; rw [if_neg (by decide), if_neg (by decide), if_neg (by decide), if_pos rfl, wq, if_pos q]
        rw [hW, x2, if_pos (by decide)]
        refine ⟨rfl, by decide, e + 1, JS_end hE hp pE_v.1 (by rw [pE_v.2.1, up_ne (by omega), hE]) (fun a j ha hj => by rw [pE_v.2.2 _ _ (by omega), up_ne (by omega)]) ?_ ?_⟩
        · refine EN_cg (M := up M 203 e (M 203 e + (c - 48))) ⟨⟨by rw [up_at]; omega, by rw [up_ne (by omega), v0]; omega⟩, .inl ⟨x1, by rw [up_ne (by omega)]; exact x2, by rw [up_at]; exact ek⟩⟩ (pE_v.2.2 _ _ (by omega)) (pE_v.2.2 _ _ (by omega)) (pE_v.2.2 _ _ (by omega))
        · rw [pq, x1]; unfold tN; rw [if_pos rfl]; omega
      · have hW : tW w c = 7 := by subst x3; unfold tW; rw [if_neg (by decide), if_neg (by decide), if_neg (by decide), if_neg (by decide), if_neg (by decide), if_pos rfl, wq, if_pos q]
        rw [hW, x2, if_neg (by decide)]
        refine ⟨rfl, by decide, e, by rw [pG_v.2 _ _ (by omega), up_ne (by omega)]; exact hE, fun n hn => EN_cg (hp n hn) (by rw [pG_v.2 _ _ (by omega), up_ne (by omega)]) (by rw [pG_v.2 _ _ (by omega), up_ne (by omega)]) (by rw [pG_v.2 _ _ (by omega), up_ne (by omega)]), .inr (.inr (.inr (.inr (.inl ⟨pG_v.1, rfl, by omega, ⟨x1, by rw [pG_v.2 _ _ (by omega), up_ne (by omega)]; exact x2⟩, by rw [pG_v.2 _ _ (by omega), up_at]; exact ek, by rw [pG_v.2 _ _ (by omega), up_at]; omega, by rw [pG_v.2 _ _ (by omega), up_ne (by omega)]; exact v0⟩))))⟩
    · right
      refine ⟨by simpa using q, ?_⟩
      unfold tW
      rcases hh with ⟨_, _, hw⟩ | ⟨_, _, hw⟩
      · subst hw; rw [if_neg (by decide), if_neg (by decide), if_neg (by decide), if_pos rfl, wq, if_neg q]
      · subst hw; rw [if_neg (by decide), if_neg (by decide), if_neg (by decide), if_neg (by decide), if_neg (by decide), if_pos rfl, wq, if_neg q]
  · -- "="
    subst hw
    have eT : pT M c = pG M (decide (c = 61)) 4 := by unfold pT; rw [if_neg (by omega), if_neg (by omega), if_neg (by omega), if_pos s]
    have eb : pTb M c = decide (c = 61) := by unfold pTb; rw [if_neg (by omega), if_neg (by omega), if_pos s]
    have ew : tW 7 c = if c = 61 then 8 else 0 := by unfold tW; rw [if_neg (by decide), if_neg (by decide), if_neg (by decide), if_neg (by decide), if_neg (by decide), if_neg (by decide), if_pos rfl]
    rw [eT, eb, ew]
    by_cases q : c = 61
    · left
      rw [decide_eq_true q, if_pos q]
      exact ⟨rfl, by decide, e, by rw [pG_v.2 _ _ (by omega)]; exact hE, fun n hn => EN_cg (hp n hn) (pG_v.2 _ _ (by omega)) (pG_v.2 _ _ (by omega)) (pG_v.2 _ _ (by omega)), .inr (.inr (.inr (.inr (.inr (.inl ⟨pG_v.1, rfl, by omega, ⟨t0, by rw [pG_v.2 _ _ (by omega)]; exact k0⟩, by rw [pG_v.2 _ _ (by omega)]; exact c0, by rw [pG_v.2 _ _ (by omega)]; exact cr, by rw [pG_v.2 _ _ (by omega)]; exact v0⟩)))))⟩
    · right
      rw [decide_eq_false q, if_neg q]; exact ⟨rfl, rfl⟩
  · -- a bit
    subst hw
    have eT : pT M c = pE (up M 204 e (c - 48)) (wi (c - 48) 0 1) := by unfold pT; rw [if_neg (by omega), if_neg (by omega), if_neg (by omega), if_neg (by omega), if_pos s, hE]
    have eb : pTb M c = wi (c - 48) 0 1 := by unfold pTb; rw [if_neg (by omega), if_neg (by omega), if_neg (by omega), if_pos s]
    have wq : wi c 48 49 = wi (c - 48) 0 1 := by unfold wi; rw [decide_eq_decide]; omega
    have ew : tW 8 c = if wi (c - 48) 0 1 = true then 2 else 0 := by unfold tW; rw [if_neg (by decide), if_neg (by decide), if_neg (by decide), if_neg (by decide), if_neg (by decide), if_neg (by decide), if_neg (by decide), if_pos rfl, wq]
    have hq : tC m (pq m e + 4) = c := by rw [← hk]; exact hc
    rw [eT, eb, ew]
    by_cases q : wi (c - 48) 0 1 = true
    · left
      have q' := wi_iff.mp q
      rw [q, if_pos rfl]
      refine ⟨rfl, by decide, e + 1, JS_end hE hp pE_v.1 (by rw [pE_v.2.1, up_ne (by omega), hE]) (fun a j ha hj => by rw [pE_v.2.2 _ _ (by omega), up_ne (by omega)]) ?_ ?_⟩
      · refine EN_cg (M := up M 204 e (c - 48)) ⟨⟨by rw [up_ne (by omega)]; omega, by rw [up_at]; omega⟩, .inr (.inl ⟨t0, by rw [up_ne (by omega)]; exact k0, by rw [up_ne (by omega)]; exact c0, by rw [up_at, hq], by rw [up_at]; omega⟩)⟩ (pE_v.2.2 _ _ (by omega)) (pE_v.2.2 _ _ (by omega)) (pE_v.2.2 _ _ (by omega))
      · rw [pq, t0]; unfold tN; rw [if_neg (by decide), if_neg (by decide), if_pos rfl]; omega
    · right
      rw [if_neg q]; exact ⟨by simpa using q, rfl⟩
  · -- ticks
    subst hw
    have eT : pT M c = pE (up M 204 e (c - 48)) (wi (c - 48) 1 9) := by unfold pT; rw [if_neg (by omega), if_neg (by omega), if_neg (by omega), if_neg (by omega), if_neg (by omega), if_pos s, hE]
    have eb : pTb M c = wi (c - 48) 1 9 := by unfold pTb; rw [if_neg (by omega), if_neg (by omega), if_neg (by omega), if_neg (by omega), if_pos s]
    have wq : wi c 49 57 = wi (c - 48) 1 9 := by unfold wi; rw [decide_eq_decide]; omega
    have ew : tW 9 c = if wi (c - 48) 1 9 = true then 2 else 0 := by unfold tW; rw [if_neg (by decide), if_neg (by decide), if_neg (by decide), if_neg (by decide), if_neg (by decide), if_neg (by decide), if_neg (by decide), if_neg (by decide), if_pos rfl, wq]
    have hq : tC m (pq m e + 1) = c := by rw [← hk]; exact hc
    rw [eT, eb, ew]
    by_cases q : wi (c - 48) 1 9 = true
    · left
      have q' := wi_iff.mp q
      rw [q, if_pos rfl]
      refine ⟨rfl, by decide, e + 1, JS_end hE hp pE_v.1 (by rw [pE_v.2.1, up_ne (by omega), hE]) (fun a j ha hj => by rw [pE_v.2.2 _ _ (by omega), up_ne (by omega)]) ?_ ?_⟩
      · refine EN_cg (M := up M 204 e (c - 48)) ⟨⟨by rw [up_ne (by omega), c0]; omega, by rw [up_at]; omega⟩, .inr (.inr (.inr ⟨t0, by rw [up_ne (by omega)]; exact k0, by rw [up_at, hq]⟩))⟩ (pE_v.2.2 _ _ (by omega)) (pE_v.2.2 _ _ (by omega)) (pE_v.2.2 _ _ (by omega))
      · rw [pq, t0]; unfold tN; rw [if_neg (by decide), if_pos rfl]; omega
    · right
      rw [if_neg q]; exact ⟨by simpa using q, rfl⟩

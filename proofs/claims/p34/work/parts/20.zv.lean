/-! the model: its public methods -/
def zAT (z : Z) (v : Int) : Z := u1 (u1 z (23 + 3 * z 2) v) 2 (u1 z (23 + 3 * z 2) v 2 + 1)
def zAI (z : Z) (f r c : Int) : Z :=
  let z1 := u1 (u1 (u1 z (41 + 6 * z 3 + 0) f) (41 + 6 * z 3 + 1) r) (41 + 6 * z 3 + 2) c
  u1 z1 3 (z1 3 + 1)
theorem zMost_b (s : Int) : 0 ≤ zMost s ∧ zMost s ≤ 100 := by unfold zMost; split; omega; split; omega; split <;> omega
def zLe (z : Z) (c t k : Int) : Z :=
  let z1 := u1 z (23 + 3 * t) (z (23 + 3 * t) - k * z (15 + 0))
  let z2 := u1 z1 12 (z1 12 + k * z (15 + 0))
  u1 (u1 z2 (59 + 9 * c + 2) (t + 1)) (59 + 9 * c + 3) k
def zIn0 (z : Z) (c i k : Int) : Z :=
  let p := zPrem z c i k (z 1)
  let z1 := u1 z (23 + 3 * (z (59 + 9 * c + 2) - 1)) (z (23 + 3 * (z (59 + 9 * c + 2) - 1)) - p)
  let z2 := u1 z1 (41 + 6 * i + 0) (z1 (41 + 6 * i + 0) + p)
  let z3 := u1 z2 (41 + 6 * i + 4) (z2 (41 + 6 * i + 4) + p)
  u1 (u1 z3 (59 + 9 * c + 4) (i + 1)) (59 + 9 * c + 5) k
def zIn (z : Z) (c i k : Int) : Z := zPay (zIn0 z c i k) i
def zRen (z : Z) (c : Int) : Z :=
  let z1 := u1 (u1 z (59 + 9 * c + 1) 100) (59 + 9 * c + 0) 0
  let z2 := u1 z1 12 (z1 12 - z1 (15 + 7))
  u1 z2 13 (z2 13 + z2 (15 + 7))
def mApp (m : Mem) (c : Int) : Mem := up (up m 201 (m 197 11) c) 197 11 (m 197 11 + 1)
theorem zSv_205 {z : Z} {m : Mem} {j : Int} : zSv z m 205 j = m 205 j := by
  unfold zSv; rw [up_ne (by omega)]
  unfold shB; rw [if_neg (by omega)]
  unfold zSvA
  split
  · rw [up_ne (by omega)]; exact if_neg (by omega)
  · rfl
theorem zSv_205' {z : Z} {m : Mem} : zSv z m 205 = m 205 := by funext j; exact zSv_205
theorem WI_tkN' {K : Int} {d : Nat} {s : Z × (Int → Int)} (h : WI s.1 K) : WI (zTkN d s).1 K := WI_tkN d s h
theorem TX_th {m : Mem} (h : TX m) : TX (th0 m) := by
  have e11 : th0 m 197 11 = m 197 11 := up_ne (by omega)
  have e2 : ∀ j, th0 m 201 j = m 201 j := fun j => up_ne (by omega)
  exact ⟨by rw [e11]; exact h.1, fun j a b => by rw [e2]; exact h.2 j a (by omega)⟩
def zOwd (z : Z) (o : Int → Int) (p w : Int) : Int := if zOrN z o ≤ p then -1 else if w = 0 then zOrd z o p else z (59 + 9 * zOrd z o p + 6) - 1

/-! the model: its queries -/
def cntF (p : Int → Bool) : Nat → Int → Int → Int
  | 0, _, n => n
  | d + 1, c, n => cntF p d (c + 1) (n + bI (p c))
theorem cnt_t {p : Int → Bool} {d : Nat} {c n : Int} (h : p c = true) : cntF p d (c + 1) (n + 1) = cntF p (d + 1) c n := by rw [cntF, h]; rfl
theorem cnt_f {p : Int → Bool} {d : Nat} {c n : Int} (h : p c = false) : cntF p d (c + 1) (n + 0) = cntF p (d + 1) c n := by rw [cntF, h]; rfl
def zIs (z : Z) (w c : Int) : Bool := decide (w = 0 ∨ w = 1 ∧ 0 < wr (z (59 + 9 * c + 4)) ∨ 1 < w ∧ wr (z (59 + 9 * c + 2)) = w - 1)
def zDis (z : Z) (k w : Int) : Int := cntF (fun c => zIs z w c && zLin k c && zWk z c) 64 0 0
def zOwN (z : Z) : Int := cntF (zOw z) 64 0 0
def zCof (z : Z) (t : Int) (b : Bool) : Int := cntF (fun c => decide (wr (z (59 + 9 * c + 2)) = t + 1) && (!b || decide (0 < wr (z (59 + 9 * c + 4))))) 64 0 0
def zPol (z : Z) (i : Int) : Int := cntF (fun c => decide (wr (z (59 + 9 * c + 4)) = i + 1)) 64 0 0
def zCW (z : Z) (w : Int) : Int := cntF (fun c => decide (0 < wr (z (59 + 9 * c + w)))) 64 0 0
def zAh (z : Z) (c : Int) : Int := cntF (fun e => decide (wr (z (59 + 9 * e + 1)) < wr (z (59 + 9 * c + 1)) ∨ wr (z (59 + 9 * e + 1)) = wr (z (59 + 9 * c + 1)) ∧ e < c)) 64 0 0
theorem cnt_b (p : Int → Bool) : ∀ (d : Nat) (c n : Int), n ≤ cntF p d c n ∧ cntF p d c n ≤ n + d := by
  intro d
  induction d with
  | zero => intro c n; simp [cntF]
  | succ d ih =>
    intro c n
    have h1 := ih (c + 1) (n + bI (p c))
    have h2 := bI_01 (p c)
    rw [cntF]
    omega
theorem zAh_b (z : Z) (c : Int) : 0 ≤ zAh z c ∧ zAh z c ≤ 64 := by
  have h := cnt_b (fun e => decide (wr (z (59 + 9 * e + 1)) < wr (z (59 + 9 * c + 1)) ∨ wr (z (59 + 9 * e + 1)) = wr (z (59 + 9 * c + 1)) ∧ e < c)) 64 0 0
  unfold zAh; omega
def zWstF (z : Z) (p : Int) : Nat → Int → Int
  | 0, _ => -1
  | d + 1, c => if zAh z c = p then c else zWstF z p d (c + 1)
def zWst (z : Z) (p : Int) : Int := zWstF z p 64 0
def zWqF (z : Z) (t : Int) : Nat → Int → Int → Int
  | 0, _, n => n
  | d + 1, i, n => zWqF z t d (i + 1) (cntF (fun k => decide (wr (z (635 + 520 * i + k)) = t)) (wr (z (41 + 6 * i + 5))).toNat 0 n)
def zWq (z : Z) (t : Int) : Int := zWqF z t (wr (z 3)).toNat 0 0
def zChF (z : Z) (c v t : Int) : Nat → Int → Int → Int
  | 0, _, b => b
  | d + 1, i, b => zChF z c v t d (i + 1) (if v ≤ wr (z (41 + 6 * i + 2)) ∧ (b = -1 ∨ wr (zPrem z c i t (z 1)) < wr (zPrem z c b t (z 1))) then i else b)
def zCh (z : Z) (c v t : Int) : Int := zChF z c v t (wr (z 3)).toNat 0 (-1)
def zWtF (z : Z) (c i t x : Int) : Nat → Int → Int
  | 0, _ => -1
  | d + 1, n => if wr (zPrem z c i t (zNB (z 1 - n * z (15 + 6)))) ≤ x then n else zWtF z c i t x d (n + 1)
def zWt (z : Z) (c i t x : Int) : Int := zWtF z c i t x 201 0
def zGen (z : Z) (a b : Int) : Bool := decide (wr (zDis z a 0) < wr (zDis z b 0) ∨ wr (zDis z a 0) = wr (zDis z b 0) ∧ wr (z (59 + 9 * b + 1)) < wr (z (59 + 9 * a + 1)))
def zGF (z : Z) : Nat → Int → Int → Int
  | 0, _, b => b
  | d + 1, c, b => zGF z d (c + 1) (if (zCR z c && decide (wr (z (59 + 9 * c + 0)) = 1)) = true ∧ (b = -1 ∨ zGen z c b = true) then c else b)
def zG (z : Z) : Int := zGF z 64 0 (-1)
def zRkF (z : Z) (t : Int) : Nat → Int → Int → Int
  | 0, _, b => b
  | d + 1, c, b => zRkF z t d (c + 1) (if wr b < wr (if zCR z c then zDis z c (t + 2) else 0) then (if zCR z c then zDis z c (t + 2) else 0) else b)
def zRk (z : Z) (t : Int) : Int := zRkF z t 64 0 0

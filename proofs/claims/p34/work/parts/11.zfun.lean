/-! THE MODEL'S METHODS, as functions of its cell 198 -/
theorem bI_01 (b : Bool) : bI b = 0 ∨ bI b = 1 := by cases b; exact Or.inl rfl; exact Or.inr rfl
section
variable {G : GX} {sh : List SH} {M : MI} {mc ms : Nat} {F : FinT} {pc : Nat} {L : List (Option PV)} {S : List PV} {m : Mem} {k n : Nat}
theorem j_fin {r r' : Option PV} {m' m'' : Mem} (hr : r = r') (hm : m' = m'') (kk : J G sh M mc ms (FN G sh mc ms r m') pc L S m k n) : J G sh M mc ms (FN G sh mc ms r' m'') pc L S m k n := by
  subst hr; subst hm; exact kk
theorem j_mem {m' : Mem} (hm : m = m') (kk : J G sh M mc ms F pc L S m' k n) : J G sh M mc ms F pc L S m k n := by subst hm; exact kk
theorem j_fgt0 {x : Option PV} {r : List (Option PV)} (kk : J G sh M mc ms F pc (none :: r) S m k n) : J G sh M mc ms F pc (x :: r) S m k n :=
  j_forget (fun j v h => by
    match j with
    | 0 => exact absurd h (by intro q; cases q)
    | j + 1 => exact h) kk
theorem j_fgt1 {a0 x : Option PV} {r : List (Option PV)} (kk : J G sh M mc ms F pc (a0 :: none :: r) S m k n) : J G sh M mc ms F pc (a0 :: x :: r) S m k n :=
  j_forget (fun j v h => by
    match j with
    | 0 => exact h
    | 1 => exact absurd h (by intro q; cases q)
    | j + 2 => exact h) kk
theorem j_fgt2 {a0 a1 x : Option PV} {r : List (Option PV)} (kk : J G sh M mc ms F pc (a0 :: a1 :: none :: r) S m k n) : J G sh M mc ms F pc (a0 :: a1 :: x :: r) S m k n :=
  j_forget (fun j v h => by
    match j with
    | 0 => exact h
    | 1 => exact h
    | 2 => exact absurd h (by intro q; cases q)
    | j + 3 => exact h) kk
theorem j_fgt3 {a0 a1 a2 x : Option PV} {r : List (Option PV)} (kk : J G sh M mc ms F pc (a0 :: a1 :: a2 :: none :: r) S m k n) : J G sh M mc ms F pc (a0 :: a1 :: a2 :: x :: r) S m k n :=
  j_forget (fun j v h => by
    match j with
    | 0 => exact h
    | 1 => exact h
    | 2 => exact h
    | 3 => exact absurd h (by intro q; cases q)
    | j + 4 => exact h) kk
theorem j_fgt4 {a0 a1 a2 a3 x : Option PV} {r : List (Option PV)} (kk : J G sh M mc ms F pc (a0 :: a1 :: a2 :: a3 :: none :: r) S m k n) : J G sh M mc ms F pc (a0 :: a1 :: a2 :: a3 :: x :: r) S m k n :=
  j_forget (fun j v h => by
    match j with
    | 0 => exact h
    | 1 => exact h
    | 2 => exact h
    | 3 => exact h
    | 4 => exact absurd h (by intro q; cases q)
    | j + 5 => exact h) kk
theorem j_fgt5 {a0 a1 a2 a3 a4 x : Option PV} {r : List (Option PV)} (kk : J G sh M mc ms F pc (a0 :: a1 :: a2 :: a3 :: a4 :: none :: r) S m k n) : J G sh M mc ms F pc (a0 :: a1 :: a2 :: a3 :: a4 :: x :: r) S m k n :=
  j_forget (fun j v h => by
    match j with
    | 0 => exact h
    | 1 => exact h
    | 2 => exact h
    | 3 => exact h
    | 4 => exact h
    | 5 => exact absurd h (by intro q; cases q)
    | j + 6 => exact h) kk
theorem j_fgt6 {a0 a1 a2 a3 a4 a5 x : Option PV} {r : List (Option PV)} (kk : J G sh M mc ms F pc (a0 :: a1 :: a2 :: a3 :: a4 :: a5 :: none :: r) S m k n) : J G sh M mc ms F pc (a0 :: a1 :: a2 :: a3 :: a4 :: a5 :: x :: r) S m k n :=
  j_forget (fun j v h => by
    match j with
    | 0 => exact h
    | 1 => exact h
    | 2 => exact h
    | 3 => exact h
    | 4 => exact h
    | 5 => exact h
    | 6 => exact absurd h (by intro q; cases q)
    | j + 7 => exact h) kk
theorem j_fgt7 {a0 a1 a2 a3 a4 a5 a6 x : Option PV} {r : List (Option PV)} (kk : J G sh M mc ms F pc (a0 :: a1 :: a2 :: a3 :: a4 :: a5 :: a6 :: none :: r) S m k n) : J G sh M mc ms F pc (a0 :: a1 :: a2 :: a3 :: a4 :: a5 :: a6 :: x :: r) S m k n :=
  j_forget (fun j v h => by
    match j with
    | 0 => exact h
    | 1 => exact h
    | 2 => exact h
    | 3 => exact h
    | 4 => exact h
    | 5 => exact h
    | 6 => exact h
    | 7 => exact absurd h (by intro q; cases q)
    | j + 8 => exact h) kk
theorem j_fgt8 {a0 a1 a2 a3 a4 a5 a6 a7 x : Option PV} {r : List (Option PV)} (kk : J G sh M mc ms F pc (a0 :: a1 :: a2 :: a3 :: a4 :: a5 :: a6 :: a7 :: none :: r) S m k n) : J G sh M mc ms F pc (a0 :: a1 :: a2 :: a3 :: a4 :: a5 :: a6 :: a7 :: x :: r) S m k n :=
  j_forget (fun j v h => by
    match j with
    | 0 => exact h
    | 1 => exact h
    | 2 => exact h
    | 3 => exact h
    | 4 => exact h
    | 5 => exact h
    | 6 => exact h
    | 7 => exact h
    | 8 => exact absurd h (by intro q; cases q)
    | j + 9 => exact h) kk
theorem j_fgt9 {a0 a1 a2 a3 a4 a5 a6 a7 a8 x : Option PV} {r : List (Option PV)} (kk : J G sh M mc ms F pc (a0 :: a1 :: a2 :: a3 :: a4 :: a5 :: a6 :: a7 :: a8 :: none :: r) S m k n) : J G sh M mc ms F pc (a0 :: a1 :: a2 :: a3 :: a4 :: a5 :: a6 :: a7 :: a8 :: x :: r) S m k n :=
  j_forget (fun j v h => by
    match j with
    | 0 => exact h
    | 1 => exact h
    | 2 => exact h
    | 3 => exact h
    | 4 => exact h
    | 5 => exact h
    | 6 => exact h
    | 7 => exact h
    | 8 => exact h
    | 9 => exact absurd h (by intro q; cases q)
    | j + 10 => exact h) kk
theorem j_fgt10 {a0 a1 a2 a3 a4 a5 a6 a7 a8 a9 x : Option PV} {r : List (Option PV)} (kk : J G sh M mc ms F pc (a0 :: a1 :: a2 :: a3 :: a4 :: a5 :: a6 :: a7 :: a8 :: a9 :: none :: r) S m k n) : J G sh M mc ms F pc (a0 :: a1 :: a2 :: a3 :: a4 :: a5 :: a6 :: a7 :: a8 :: a9 :: x :: r) S m k n :=
  j_forget (fun j v h => by
    match j with
    | 0 => exact h
    | 1 => exact h
    | 2 => exact h
    | 3 => exact h
    | 4 => exact h
    | 5 => exact h
    | 6 => exact h
    | 7 => exact h
    | 8 => exact h
    | 9 => exact h
    | 10 => exact absurd h (by intro q; cases q)
    | j + 11 => exact h) kk
theorem j_fgt11 {a0 a1 a2 a3 a4 a5 a6 a7 a8 a9 a10 x : Option PV} {r : List (Option PV)} (kk : J G sh M mc ms F pc (a0 :: a1 :: a2 :: a3 :: a4 :: a5 :: a6 :: a7 :: a8 :: a9 :: a10 :: none :: r) S m k n) : J G sh M mc ms F pc (a0 :: a1 :: a2 :: a3 :: a4 :: a5 :: a6 :: a7 :: a8 :: a9 :: a10 :: x :: r) S m k n :=
  j_forget (fun j v h => by
    match j with
    | 0 => exact h
    | 1 => exact h
    | 2 => exact h
    | 3 => exact h
    | 4 => exact h
    | 5 => exact h
    | 6 => exact h
    | 7 => exact h
    | 8 => exact h
    | 9 => exact h
    | 10 => exact h
    | 11 => exact absurd h (by intro q; cases q)
    | j + 12 => exact h) kk
theorem j_idivP {q : Nat} {x y x' y' : Int} (hd : decode (mB M) pc = .ok (.idiv, 1)) (hq : pc + 1 = q) (hx : wr x = x') (hy : wr y = y') (h0 : 0 ≤ x') (h1 : 0 < y') (kk : J G sh M mc ms F q L ((.inl (x' / y') : PV) :: S) m k n) : J G sh M mc ms F pc L (.inl y :: .inl x :: S) m k n :=
  j_idiv hd hq hx hy (by omega) (by omega) (by rw [Int.tdiv_eq_ediv_of_nonneg h0]; exact kk)
theorem j_iremP {q : Nat} {x y x' y' : Int} (hd : decode (mB M) pc = .ok (.irem, 1)) (hq : pc + 1 = q) (hx : wr x = x') (hy : wr y = y') (h0 : 0 ≤ x') (h1 : 0 < y') (kk : J G sh M mc ms F q L ((.inl (x' % y') : PV) :: S) m k n) : J G sh M mc ms F pc L (.inl y :: .inl x :: S) m k n :=
  j_irem hd hq hx hy (by omega) (by omega) (by rw [Int.tmod_eq_emod_of_nonneg h0]; exact kk)
end
def wi (v a b : Int) : Bool := decide (a ≤ v ∧ v ≤ b)
def zNB (v : Int) : Int := if wr v < 0 then 0 else v
def zLess (a b : Int) : Int := if wr a < wr b then a else b
def zLs (z : Z) (c : Int) : Bool := decide (0 < wr (z (59 + 9 * c + 2)))
def zOw (z : Z) (c : Int) : Bool := decide (0 < wr (z (59 + 9 * c + 6)))
def zCR (z : Z) (c : Int) : Bool := zLs z c && !zOw z c
def zLin (a b : Int) : Bool := decide (¬ a = b ∧ (a / 8 = b / 8 ∨ a % 8 = b % 8))
def zWk (z : Z) (c : Int) : Bool := decide (wr (z (59 + 9 * c + 0)) = 1 ∧ wr (z (59 + 9 * c + 1)) < wr (z (15 + 5)))
def zWorn (z : Z) (c : Int) : Int := zNB (z (59 + 9 * c + 1) - 1 - (wr (z 1)).tdiv 25)
def zHeat (z : Z) (b : Int) : Int := zLess 100 (z 1 + b)
def zPrem (z : Z) (c i t h : Int) : Int := (wr ((10 + h + 100 - z (59 + 9 * c + 1)) * t * z (41 + 6 * i + 1))).tdiv 1000 + 1
def zAhead (z : Z) (a b : Int) : Bool := decide (wr (z (59 + 9 * a + 6)) < wr (z (59 + 9 * b + 6)) ∨ wr (z (59 + 9 * a + 6)) = wr (z (59 + 9 * b + 6)) ∧ wr (z (59 + 9 * a + 7)) < wr (z (59 + 9 * b + 7)))
def zMost (s : Int) : Int := if s = 0 ∨ s = 1 ∨ s = 2 then 20 else if s = 3 ∨ s = 7 then 50 else if s = 6 then 10 else 100

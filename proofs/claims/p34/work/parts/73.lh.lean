/-! the law: what ends; what the class answers -/
theorem j_fgt12 {G : GX} {sh : List SH} {M : MI} {mc ms : Nat} {F : FinT} {pc : Nat} {S : List PV} {m : Mem} {k n : Nat} {a0 a1 a2 a3 a4 a5 a6 a7 a8 a9 a10 a11 x : Option PV} {r : List (Option PV)} (kk : J G sh M mc ms F pc (a0 :: a1 :: a2 :: a3 :: a4 :: a5 :: a6 :: a7 :: a8 :: a9 :: a10 :: a11 :: none :: r) S m k n) : J G sh M mc ms F pc (a0 :: a1 :: a2 :: a3 :: a4 :: a5 :: a6 :: a7 :: a8 :: a9 :: a10 :: a11 :: x :: r) S m k n :=
  j_forget (fun j v h => by
    match j with
    | 0 => exact h
    | 1 => exact h
    | 2 => exact h
    | 3 => exact h
    | 4 => exact h
    | 5 => exact h
    | 6 => exact h
    | 7 => exact h
    | 8 => exact h
    | 9 => exact h
    | 10 => exact h
    | 11 => exact h
    | 12 => exact absurd h (by intro q; cases q)
    | j + 13 => exact h) kk
theorem j_fgt13 {G : GX} {sh : List SH} {M : MI} {mc ms : Nat} {F : FinT} {pc : Nat} {S : List PV} {m : Mem} {k n : Nat} {a0 a1 a2 a3 a4 a5 a6 a7 a8 a9 a10 a11 a12 x : Option PV} {r : List (Option PV)} (kk : J G sh M mc ms F pc (a0 :: a1 :: a2 :: a3 :: a4 :: a5 :: a6 :: a7 :: a8 :: a9 :: a10 :: a11 :: a12 :: none :: r) S m k n) : J G sh M mc ms F pc (a0 :: a1 :: a2 :: a3 :: a4 :: a5 :: a6 :: a7 :: a8 :: a9 :: a10 :: a11 :: a12 :: x :: r) S m k n :=
  j_forget (fun j v h => by
    match j with
    | 0 => exact h
    | 1 => exact h
    | 2 => exact h
    | 3 => exact h
    | 4 => exact h
    | 5 => exact h
    | 6 => exact h
    | 7 => exact h
    | 8 => exact h
    | 9 => exact h
    | 10 => exact h
    | 11 => exact h
    | 12 => exact h
    | 13 => exact absurd h (by intro q; cases q)
    | j + 14 => exact h) kk
theorem j_fgt14 {G : GX} {sh : List SH} {M : MI} {mc ms : Nat} {F : FinT} {pc : Nat} {S : List PV} {m : Mem} {k n : Nat} {a0 a1 a2 a3 a4 a5 a6 a7 a8 a9 a10 a11 a12 a13 x : Option PV} {r : List (Option PV)} (kk : J G sh M mc ms F pc (a0 :: a1 :: a2 :: a3 :: a4 :: a5 :: a6 :: a7 :: a8 :: a9 :: a10 :: a11 :: a12 :: a13 :: none :: r) S m k n) : J G sh M mc ms F pc (a0 :: a1 :: a2 :: a3 :: a4 :: a5 :: a6 :: a7 :: a8 :: a9 :: a10 :: a11 :: a12 :: a13 :: x :: r) S m k n :=
  j_forget (fun j v h => by
    match j with
    | 0 => exact h
    | 1 => exact h
    | 2 => exact h
    | 3 => exact h
    | 4 => exact h
    | 5 => exact h
    | 6 => exact h
    | 7 => exact h
    | 8 => exact h
    | 9 => exact h
    | 10 => exact h
    | 11 => exact h
    | 12 => exact h
    | 13 => exact h
    | 14 => exact absurd h (by intro q; cases q)
    | j + 15 => exact h) kk
theorem j_fgt15 {G : GX} {sh : List SH} {M : MI} {mc ms : Nat} {F : FinT} {pc : Nat} {S : List PV} {m : Mem} {k n : Nat} {a0 a1 a2 a3 a4 a5 a6 a7 a8 a9 a10 a11 a12 a13 a14 x : Option PV} {r : List (Option PV)} (kk : J G sh M mc ms F pc (a0 :: a1 :: a2 :: a3 :: a4 :: a5 :: a6 :: a7 :: a8 :: a9 :: a10 :: a11 :: a12 :: a13 :: a14 :: none :: r) S m k n) : J G sh M mc ms F pc (a0 :: a1 :: a2 :: a3 :: a4 :: a5 :: a6 :: a7 :: a8 :: a9 :: a10 :: a11 :: a12 :: a13 :: a14 :: x :: r) S m k n :=
  j_forget (fun j v h => by
    match j with
    | 0 => exact h
    | 1 => exact h
    | 2 => exact h
    | 3 => exact h
    | 4 => exact h
    | 5 => exact h
    | 6 => exact h
    | 7 => exact h
    | 8 => exact h
    | 9 => exact h
    | 10 => exact h
    | 11 => exact h
    | 12 => exact h
    | 13 => exact h
    | 14 => exact h
    | 15 => exact absurd h (by intro q; cases q)
    | j + 16 => exact h) kk
theorem j_fgt16 {G : GX} {sh : List SH} {M : MI} {mc ms : Nat} {F : FinT} {pc : Nat} {S : List PV} {m : Mem} {k n : Nat} {a0 a1 a2 a3 a4 a5 a6 a7 a8 a9 a10 a11 a12 a13 a14 a15 x : Option PV} {r : List (Option PV)} (kk : J G sh M mc ms F pc (a0 :: a1 :: a2 :: a3 :: a4 :: a5 :: a6 :: a7 :: a8 :: a9 :: a10 :: a11 :: a12 :: a13 :: a14 :: a15 :: none :: r) S m k n) : J G sh M mc ms F pc (a0 :: a1 :: a2 :: a3 :: a4 :: a5 :: a6 :: a7 :: a8 :: a9 :: a10 :: a11 :: a12 :: a13 :: a14 :: a15 :: x :: r) S m k n :=
  j_forget (fun j v h => by
    match j with
    | 0 => exact h
    | 1 => exact h
    | 2 => exact h
    | 3 => exact h
    | 4 => exact h
    | 5 => exact h
    | 6 => exact h
    | 7 => exact h
    | 8 => exact h
    | 9 => exact h
    | 10 => exact h
    | 11 => exact h
    | 12 => exact h
    | 13 => exact h
    | 14 => exact h
    | 15 => exact h
    | 16 => exact absurd h (by intro q; cases q)
    | j + 17 => exact h) kk
theorem j_fgt17 {G : GX} {sh : List SH} {M : MI} {mc ms : Nat} {F : FinT} {pc : Nat} {S : List PV} {m : Mem} {k n : Nat} {a0 a1 a2 a3 a4 a5 a6 a7 a8 a9 a10 a11 a12 a13 a14 a15 a16 x : Option PV} {r : List (Option PV)} (kk : J G sh M mc ms F pc (a0 :: a1 :: a2 :: a3 :: a4 :: a5 :: a6 :: a7 :: a8 :: a9 :: a10 :: a11 :: a12 :: a13 :: a14 :: a15 :: a16 :: none :: r) S m k n) : J G sh M mc ms F pc (a0 :: a1 :: a2 :: a3 :: a4 :: a5 :: a6 :: a7 :: a8 :: a9 :: a10 :: a11 :: a12 :: a13 :: a14 :: a15 :: a16 :: x :: r) S m k n :=
  j_forget (fun j v h => by
    match j with
    | 0 => exact h
    | 1 => exact h
    | 2 => exact h
    | 3 => exact h
    | 4 => exact h
    | 5 => exact h
    | 6 => exact h
    | 7 => exact h
    | 8 => exact h
    | 9 => exact h
    | 10 => exact h
    | 11 => exact h
    | 12 => exact h
    | 13 => exact h
    | 14 => exact h
    | 15 => exact h
    | 16 => exact h
    | 17 => exact absurd h (by intro q; cases q)
    | j + 18 => exact h) kk
theorem j_fgt18 {G : GX} {sh : List SH} {M : MI} {mc ms : Nat} {F : FinT} {pc : Nat} {S : List PV} {m : Mem} {k n : Nat} {a0 a1 a2 a3 a4 a5 a6 a7 a8 a9 a10 a11 a12 a13 a14 a15 a16 a17 x : Option PV} {r : List (Option PV)} (kk : J G sh M mc ms F pc (a0 :: a1 :: a2 :: a3 :: a4 :: a5 :: a6 :: a7 :: a8 :: a9 :: a10 :: a11 :: a12 :: a13 :: a14 :: a15 :: a16 :: a17 :: none :: r) S m k n) : J G sh M mc ms F pc (a0 :: a1 :: a2 :: a3 :: a4 :: a5 :: a6 :: a7 :: a8 :: a9 :: a10 :: a11 :: a12 :: a13 :: a14 :: a15 :: a16 :: a17 :: x :: r) S m k n :=
  j_forget (fun j v h => by
    match j with
    | 0 => exact h
    | 1 => exact h
    | 2 => exact h
    | 3 => exact h
    | 4 => exact h
    | 5 => exact h
    | 6 => exact h
    | 7 => exact h
    | 8 => exact h
    | 9 => exact h
    | 10 => exact h
    | 11 => exact h
    | 12 => exact h
    | 13 => exact h
    | 14 => exact h
    | 15 => exact h
    | 16 => exact h
    | 17 => exact h
    | 18 => exact absurd h (by intro q; cases q)
    | j + 19 => exact h) kk
theorem j_fgt19 {G : GX} {sh : List SH} {M : MI} {mc ms : Nat} {F : FinT} {pc : Nat} {S : List PV} {m : Mem} {k n : Nat} {a0 a1 a2 a3 a4 a5 a6 a7 a8 a9 a10 a11 a12 a13 a14 a15 a16 a17 a18 x : Option PV} {r : List (Option PV)} (kk : J G sh M mc ms F pc (a0 :: a1 :: a2 :: a3 :: a4 :: a5 :: a6 :: a7 :: a8 :: a9 :: a10 :: a11 :: a12 :: a13 :: a14 :: a15 :: a16 :: a17 :: a18 :: none :: r) S m k n) : J G sh M mc ms F pc (a0 :: a1 :: a2 :: a3 :: a4 :: a5 :: a6 :: a7 :: a8 :: a9 :: a10 :: a11 :: a12 :: a13 :: a14 :: a15 :: a16 :: a17 :: a18 :: x :: r) S m k n :=
  j_forget (fun j v h => by
    match j with
    | 0 => exact h
    | 1 => exact h
    | 2 => exact h
    | 3 => exact h
    | 4 => exact h
    | 5 => exact h
    | 6 => exact h
    | 7 => exact h
    | 8 => exact h
    | 9 => exact h
    | 10 => exact h
    | 11 => exact h
    | 12 => exact h
    | 13 => exact h
    | 14 => exact h
    | 15 => exact h
    | 16 => exact h
    | 17 => exact h
    | 18 => exact h
    | 19 => exact absurd h (by intro q; cases q)
    | j + 20 => exact h) kk
theorem j_fgt20 {G : GX} {sh : List SH} {M : MI} {mc ms : Nat} {F : FinT} {pc : Nat} {S : List PV} {m : Mem} {k n : Nat} {a0 a1 a2 a3 a4 a5 a6 a7 a8 a9 a10 a11 a12 a13 a14 a15 a16 a17 a18 a19 x : Option PV} {r : List (Option PV)} (kk : J G sh M mc ms F pc (a0 :: a1 :: a2 :: a3 :: a4 :: a5 :: a6 :: a7 :: a8 :: a9 :: a10 :: a11 :: a12 :: a13 :: a14 :: a15 :: a16 :: a17 :: a18 :: a19 :: none :: r) S m k n) : J G sh M mc ms F pc (a0 :: a1 :: a2 :: a3 :: a4 :: a5 :: a6 :: a7 :: a8 :: a9 :: a10 :: a11 :: a12 :: a13 :: a14 :: a15 :: a16 :: a17 :: a18 :: a19 :: x :: r) S m k n :=
  j_forget (fun j v h => by
    match j with
    | 0 => exact h
    | 1 => exact h
    | 2 => exact h
    | 3 => exact h
    | 4 => exact h
    | 5 => exact h
    | 6 => exact h
    | 7 => exact h
    | 8 => exact h
    | 9 => exact h
    | 10 => exact h
    | 11 => exact h
    | 12 => exact h
    | 13 => exact h
    | 14 => exact h
    | 15 => exact h
    | 16 => exact h
    | 17 => exact h
    | 18 => exact h
    | 19 => exact h
    | 20 => exact absurd h (by intro q; cases q)
    | j + 21 => exact h) kk
theorem j_fgt21 {G : GX} {sh : List SH} {M : MI} {mc ms : Nat} {F : FinT} {pc : Nat} {S : List PV} {m : Mem} {k n : Nat} {a0 a1 a2 a3 a4 a5 a6 a7 a8 a9 a10 a11 a12 a13 a14 a15 a16 a17 a18 a19 a20 x : Option PV} {r : List (Option PV)} (kk : J G sh M mc ms F pc (a0 :: a1 :: a2 :: a3 :: a4 :: a5 :: a6 :: a7 :: a8 :: a9 :: a10 :: a11 :: a12 :: a13 :: a14 :: a15 :: a16 :: a17 :: a18 :: a19 :: a20 :: none :: r) S m k n) : J G sh M mc ms F pc (a0 :: a1 :: a2 :: a3 :: a4 :: a5 :: a6 :: a7 :: a8 :: a9 :: a10 :: a11 :: a12 :: a13 :: a14 :: a15 :: a16 :: a17 :: a18 :: a19 :: a20 :: x :: r) S m k n :=
  j_forget (fun j v h => by
    match j with
    | 0 => exact h
    | 1 => exact h
    | 2 => exact h
    | 3 => exact h
    | 4 => exact h
    | 5 => exact h
    | 6 => exact h
    | 7 => exact h
    | 8 => exact h
    | 9 => exact h
    | 10 => exact h
    | 11 => exact h
    | 12 => exact h
    | 13 => exact h
    | 14 => exact h
    | 15 => exact h
    | 16 => exact h
    | 17 => exact h
    | 18 => exact h
    | 19 => exact h
    | 20 => exact h
    | 21 => exact absurd h (by intro q; cases q)
    | j + 22 => exact h) kk
theorem j_fgt22 {G : GX} {sh : List SH} {M : MI} {mc ms : Nat} {F : FinT} {pc : Nat} {S : List PV} {m : Mem} {k n : Nat} {a0 a1 a2 a3 a4 a5 a6 a7 a8 a9 a10 a11 a12 a13 a14 a15 a16 a17 a18 a19 a20 a21 x : Option PV} {r : List (Option PV)} (kk : J G sh M mc ms F pc (a0 :: a1 :: a2 :: a3 :: a4 :: a5 :: a6 :: a7 :: a8 :: a9 :: a10 :: a11 :: a12 :: a13 :: a14 :: a15 :: a16 :: a17 :: a18 :: a19 :: a20 :: a21 :: none :: r) S m k n) : J G sh M mc ms F pc (a0 :: a1 :: a2 :: a3 :: a4 :: a5 :: a6 :: a7 :: a8 :: a9 :: a10 :: a11 :: a12 :: a13 :: a14 :: a15 :: a16 :: a17 :: a18 :: a19 :: a20 :: a21 :: x :: r) S m k n :=
  j_forget (fun j v h => by
    match j with
    | 0 => exact h
    | 1 => exact h
    | 2 => exact h
    | 3 => exact h
    | 4 => exact h
    | 5 => exact h
    | 6 => exact h
    | 7 => exact h
    | 8 => exact h
    | 9 => exact h
    | 10 => exact h
    | 11 => exact h
    | 12 => exact h
    | 13 => exact h
    | 14 => exact h
    | 15 => exact h
    | 16 => exact h
    | 17 => exact h
    | 18 => exact h
    | 19 => exact h
    | 20 => exact h
    | 21 => exact h
    | 22 => exact absurd h (by intro q; cases q)
    | j + 23 => exact h) kk
theorem j_fgt23 {G : GX} {sh : List SH} {M : MI} {mc ms : Nat} {F : FinT} {pc : Nat} {S : List PV} {m : Mem} {k n : Nat} {a0 a1 a2 a3 a4 a5 a6 a7 a8 a9 a10 a11 a12 a13 a14 a15 a16 a17 a18 a19 a20 a21 a22 x : Option PV} {r : List (Option PV)} (kk : J G sh M mc ms F pc (a0 :: a1 :: a2 :: a3 :: a4 :: a5 :: a6 :: a7 :: a8 :: a9 :: a10 :: a11 :: a12 :: a13 :: a14 :: a15 :: a16 :: a17 :: a18 :: a19 :: a20 :: a21 :: a22 :: none :: r) S m k n) : J G sh M mc ms F pc (a0 :: a1 :: a2 :: a3 :: a4 :: a5 :: a6 :: a7 :: a8 :: a9 :: a10 :: a11 :: a12 :: a13 :: a14 :: a15 :: a16 :: a17 :: a18 :: a19 :: a20 :: a21 :: a22 :: x :: r) S m k n :=
  j_forget (fun j v h => by
    match j with
    | 0 => exact h
    | 1 => exact h
    | 2 => exact h
    | 3 => exact h
    | 4 => exact h
    | 5 => exact h
    | 6 => exact h
    | 7 => exact h
    | 8 => exact h
    | 9 => exact h
    | 10 => exact h
    | 11 => exact h
    | 12 => exact h
    | 13 => exact h
    | 14 => exact h
    | 15 => exact h
    | 16 => exact h
    | 17 => exact h
    | 18 => exact h
    | 19 => exact h
    | 20 => exact h
    | 21 => exact h
    | 22 => exact h
    | 23 => exact absurd h (by intro q; cases q)
    | j + 24 => exact h) kk
theorem j_fgt24 {G : GX} {sh : List SH} {M : MI} {mc ms : Nat} {F : FinT} {pc : Nat} {S : List PV} {m : Mem} {k n : Nat} {a0 a1 a2 a3 a4 a5 a6 a7 a8 a9 a10 a11 a12 a13 a14 a15 a16 a17 a18 a19 a20 a21 a22 a23 x : Option PV} {r : List (Option PV)} (kk : J G sh M mc ms F pc (a0 :: a1 :: a2 :: a3 :: a4 :: a5 :: a6 :: a7 :: a8 :: a9 :: a10 :: a11 :: a12 :: a13 :: a14 :: a15 :: a16 :: a17 :: a18 :: a19 :: a20 :: a21 :: a22 :: a23 :: none :: r) S m k n) : J G sh M mc ms F pc (a0 :: a1 :: a2 :: a3 :: a4 :: a5 :: a6 :: a7 :: a8 :: a9 :: a10 :: a11 :: a12 :: a13 :: a14 :: a15 :: a16 :: a17 :: a18 :: a19 :: a20 :: a21 :: a22 :: a23 :: x :: r) S m k n :=
  j_forget (fun j v h => by
    match j with
    | 0 => exact h
    | 1 => exact h
    | 2 => exact h
    | 3 => exact h
    | 4 => exact h
    | 5 => exact h
    | 6 => exact h
    | 7 => exact h
    | 8 => exact h
    | 9 => exact h
    | 10 => exact h
    | 11 => exact h
    | 12 => exact h
    | 13 => exact h
    | 14 => exact h
    | 15 => exact h
    | 16 => exact h
    | 17 => exact h
    | 18 => exact h
    | 19 => exact h
    | 20 => exact h
    | 21 => exact h
    | 22 => exact h
    | 23 => exact h
    | 24 => exact absurd h (by intro q; cases q)
    | j + 25 => exact h) kk
theorem j_fgt25 {G : GX} {sh : List SH} {M : MI} {mc ms : Nat} {F : FinT} {pc : Nat} {S : List PV} {m : Mem} {k n : Nat} {a0 a1 a2 a3 a4 a5 a6 a7 a8 a9 a10 a11 a12 a13 a14 a15 a16 a17 a18 a19 a20 a21 a22 a23 a24 x : Option PV} {r : List (Option PV)} (kk : J G sh M mc ms F pc (a0 :: a1 :: a2 :: a3 :: a4 :: a5 :: a6 :: a7 :: a8 :: a9 :: a10 :: a11 :: a12 :: a13 :: a14 :: a15 :: a16 :: a17 :: a18 :: a19 :: a20 :: a21 :: a22 :: a23 :: a24 :: none :: r) S m k n) : J G sh M mc ms F pc (a0 :: a1 :: a2 :: a3 :: a4 :: a5 :: a6 :: a7 :: a8 :: a9 :: a10 :: a11 :: a12 :: a13 :: a14 :: a15 :: a16 :: a17 :: a18 :: a19 :: a20 :: a21 :: a22 :: a23 :: a24 :: x :: r) S m k n :=
  j_forget (fun j v h => by
    match j with
    | 0 => exact h
    | 1 => exact h
    | 2 => exact h
    | 3 => exact h
    | 4 => exact h
    | 5 => exact h
    | 6 => exact h
    | 7 => exact h
    | 8 => exact h
    | 9 => exact h
    | 10 => exact h
    | 11 => exact h
    | 12 => exact h
    | 13 => exact h
    | 14 => exact h
    | 15 => exact h
    | 16 => exact h
    | 17 => exact h
    | 18 => exact h
    | 19 => exact h
    | 20 => exact h
    | 21 => exact h
    | 22 => exact h
    | 23 => exact h
    | 24 => exact h
    | 25 => exact absurd h (by intro q; cases q)
    | j + 26 => exact h) kk
theorem j_fgt26 {G : GX} {sh : List SH} {M : MI} {mc ms : Nat} {F : FinT} {pc : Nat} {S : List PV} {m : Mem} {k n : Nat} {a0 a1 a2 a3 a4 a5 a6 a7 a8 a9 a10 a11 a12 a13 a14 a15 a16 a17 a18 a19 a20 a21 a22 a23 a24 a25 x : Option PV} {r : List (Option PV)} (kk : J G sh M mc ms F pc (a0 :: a1 :: a2 :: a3 :: a4 :: a5 :: a6 :: a7 :: a8 :: a9 :: a10 :: a11 :: a12 :: a13 :: a14 :: a15 :: a16 :: a17 :: a18 :: a19 :: a20 :: a21 :: a22 :: a23 :: a24 :: a25 :: none :: r) S m k n) : J G sh M mc ms F pc (a0 :: a1 :: a2 :: a3 :: a4 :: a5 :: a6 :: a7 :: a8 :: a9 :: a10 :: a11 :: a12 :: a13 :: a14 :: a15 :: a16 :: a17 :: a18 :: a19 :: a20 :: a21 :: a22 :: a23 :: a24 :: a25 :: x :: r) S m k n :=
  j_forget (fun j v h => by
    match j with
    | 0 => exact h
    | 1 => exact h
    | 2 => exact h
    | 3 => exact h
    | 4 => exact h
    | 5 => exact h
    | 6 => exact h
    | 7 => exact h
    | 8 => exact h
    | 9 => exact h
    | 10 => exact h
    | 11 => exact h
    | 12 => exact h
    | 13 => exact h
    | 14 => exact h
    | 15 => exact h
    | 16 => exact h
    | 17 => exact h
    | 18 => exact h
    | 19 => exact h
    | 20 => exact h
    | 21 => exact h
    | 22 => exact h
    | 23 => exact h
    | 24 => exact h
    | 25 => exact h
    | 26 => exact absurd h (by intro q; cases q)
    | j + 27 => exact h) kk
/-- what is not leased has no ticks left, nor what is not insured -/
def LZ (z : Z) : Prop := ∀ c, 0 ≤ c → c < 64 → (z (59 + 9 * c + 2) = 0 → wr (z (59 + 9 * c + 3)) = 0) ∧ (z (59 + 9 * c + 4) = 0 → wr (z (59 + 9 * c + 5)) = 0)
theorem LZ_cg {z y : Z} (h : LZ z) (hy : ∀ c, 0 ≤ c → c < 64 → y (59 + 9 * c + 2) = z (59 + 9 * c + 2) ∧ y (59 + 9 * c + 3) = z (59 + 9 * c + 3) ∧ y (59 + 9 * c + 4) = z (59 + 9 * c + 4) ∧ y (59 + 9 * c + 5) = z (59 + 9 * c + 5)) : LZ y := fun c a b => by
  obtain ⟨e2, e3, e4, e5⟩ := hy c a b
  rw [e2, e3, e4, e5]
  exact h c a b
def ZN (j : Int) : Prop := j < 59 ∨ 635 ≤ j ∨ ¬ (j - 59) % 9 = 2 ∧ ¬ (j - 59) % 9 = 3 ∧ ¬ (j - 59) % 9 = 4 ∧ ¬ (j - 59) % 9 = 5
theorem LZ_u1 {z : Z} {j v : Int} (hj : ZN j) (h : LZ z) : LZ (u1 z j v) := by
  unfold ZN at hj
  exact LZ_cg h (fun c a b => ⟨u1_ne (by omega), u1_ne (by omega), u1_ne (by omega), u1_ne (by omega)⟩)
theorem LZ_pay {z : Z} {i : Int} (hi : 0 ≤ i ∧ i < 2) (hX : LX z) (h : LZ z) : LZ (zPay z i) := by
  have hw := LX_wt hX hi
  have f := (zPay_fr ⟨hi.1, by omega⟩ ⟨hw.1, by omega⟩ (QT_QE hX.1)).1
  exact LZ_cg h (fun c a b => ⟨f _ (by omega) (by omega) (by omega), f _ (by omega) (by omega) (by omega), f _ (by omega) (by omega) (by omega), f _ (by omega) (by omega) (by omega)⟩)
theorem zL3_v {z : Z} {c i t j : Int} (hc : 0 ≤ c ∧ c < 64) (hi : 0 ≤ i ∧ i < 2) (hw : 0 ≤ z (41 + 6 * i + 5) ∧ z (41 + 6 * i + 5) ≤ 512) (hj : 59 ≤ j ∧ j < 635) : zL3 z c i t j = if j = 59 + 9 * c + 5 ∨ j = 59 + 9 * c + 4 then 0 else z j := by
  have e4 : u1 (u1 z (59 + 9 * c + 4) 0) (59 + 9 * c + 5) 0 (41 + 6 * i + 5) = z (41 + 6 * i + 5) := by rw [u1_ne (by omega), u1_ne (by omega)]
  simp only [zL3]
  rw [e4, u1_ne (by omega), u1_ne (by omega)]
  by_cases a : j = 59 + 9 * c + 5
  · rw [if_pos (Or.inl a), a, u1_at]
  · rw [u1_ne a]
    by_cases b : j = 59 + 9 * c + 4
    · rw [if_pos (Or.inr b), b, u1_at]
    · rw [if_neg (fun q => q.elim a b), u1_ne b]
theorem LZ_3 {z : Z} {c i t : Int} (hc : 0 ≤ c ∧ c < 64) (hi : 0 ≤ i ∧ i < 2) (hX : LX z) (h : LZ z) : LZ (zL3 z c i t) := fun e a b => by
  have hw := LX_wt hX hi
  have k := h e a b
  have v : ∀ w, 0 ≤ w → w < 9 → zL3 z c i t (59 + 9 * e + w) = if 59 + 9 * e + w = 59 + 9 * c + 5 ∨ 59 + 9 * e + w = 59 + 9 * c + 4 then 0 else z (59 + 9 * e + w) := fun w p q => zL3_v hc hi ⟨hw.1, by omega⟩ (by omega)
  rw [v 2 (by decide) (by decide), v 3 (by decide) (by decide), v 4 (by decide) (by decide), v 5 (by decide) (by decide), if_neg (by omega), if_neg (by omega)]
  refine ⟨k.1, ?_⟩
  by_cases q : e = c
  · intro _; rw [if_pos (by omega)]; rfl
  · rw [if_neg (by omega), if_neg (by omega)]; exact k.2
theorem LZ_lo {z : Z} {c : Int} (hc : 0 ≤ c ∧ c < 64) (hX : LX z) (h : LZ z) : LZ (zLo z c) := by
  have w1 := LX_1 hc hX
  have r1 := w1.2.2 c hc.1 hc.2
  have h1 : LZ (zL1 z c) := LZ_u1 (by unfold ZN; omega) h
  unfold zLo
  split
  · rename_i hl
    have hl := (zLs_p ⟨r1.2.2.1.1, by omega⟩).mp hl
    have w2 := LX_2 hc hl w1
    have r2 := w2.2.2 c hc.1 hc.2
    have h2 : LZ (zL2 (zL1 z c) c) := LZ_u1 (by unfold ZN; omega) h1
    split
    · exact h2
    · have hi : 0 ≤ zL2 (zL1 z c) c (59 + 9 * c + 4) - 1 ∧ zL2 (zL1 z c) c (59 + 9 * c + 4) - 1 < 2 := ⟨by omega, by omega⟩
      exact LZ_pay hi (LX_3 hc rfl hi ⟨by omega, by omega⟩ w2) (LZ_3 hc hi w2 h2)
  · exact h1
theorem LZ_pd {z : Z} {c : Int} (h : LZ z) : LZ (zPd z c) := LZ_u1 (by unfold ZN; omega) (LZ_u1 (by unfold ZN; omega) h)
theorem LZ_puF {k : Int} : ∀ (d : Nat) (c : Int) (z : Z), c + d = 64 → 0 ≤ c → LX z → LZ z → LZ (zPuF k d c z) := by
  intro d
  induction d with
  | zero => intro c z _ _ _ h; exact h
  | succ d ih =>
    intro c z h1 h2 hX h
    have hc : 0 ≤ c ∧ c < 64 := ⟨h2, by omega⟩
    rw [zPuF]
    split
    · exact ih _ _ (by omega) (by omega) (LX_lo hc (LX_pd hc hX)) (LZ_lo hc (LX_pd hc hX) (LZ_pd h))
    · exact ih _ _ (by omega) (by omega) hX h
theorem LZ_pul {z : Z} {k b : Int} (hX : LX z) (hk : 0 ≤ k ∧ k < 64) (h : LZ z) : LZ (zPul z k b) :=
  LZ_u1 (by unfold ZN; omega) (LZ_puF 64 0 _ (by omega) (by omega) (LX_u1 (by unfold LN; omega) hX) (LZ_u1 (by unfold ZN; omega) h))
theorem LZ_wr {z : Z} {c b : Int} (hc : 0 ≤ c ∧ c < 64) (hX : LX z) (h : LZ z) : LZ (zWr z c b) := by
  have h1 : LZ (zWr2 (zPul z c (z (15 + 1))) c b) := LZ_u1 (by unfold ZN; omega) (LZ_pul hX hc h)
  unfold zWr zWr3
  split
  · exact LZ_u1 (by unfold ZN; omega) (LZ_u1 (by unfold ZN; omega) h1)
  · exact h1
theorem LZ_rd {z : Z} {c : Int} (hc : 0 ≤ c ∧ c < 64) (hX : LX z) (h : LZ z) : LZ (zRd z c) := by
  have h1 : LZ (zRd1 z c) := LZ_u1 (by unfold ZN; omega) (LZ_pul hX hc h)
  unfold zRd
  split
  · unfold zRd2
    exact LZ_u1 (by unfold ZN; omega) (LZ_u1 (by unfold ZN; omega) (LZ_u1 (by unfold ZN; omega) (LZ_u1 (by unfold ZN; omega) (LZ_u1 (by unfold ZN; omega) h1))))
  · exact h1
theorem LZ_wb {z : Z} {c : Int} (hc : 0 ≤ c ∧ c < 64) (hX : LX z) (h : LZ z) : LZ (zWb z c) := by
  have h1 : LZ (zWbA z c) := LZ_pul (LX_due hc (Or.inl rfl) hX) hc (LZ_u1 (by unfold ZN; omega) h)
  unfold zWb
  split
  · exact LZ_u1 (by unfold ZN; omega) (LZ_u1 (by unfold ZN; omega) h1)
  · exact LZ_lo hc (LX_u1 (by unfold LN; omega) (LX_wbA hc hX)) (LZ_u1 (by unfold ZN; omega) h1)
theorem LZ_ltF (o : Int → Int) (n : Nat) (ho : OE o n) : ∀ (d : Nat) (k : Int) (z : Z), k + d = n → 0 ≤ k → LX z → LZ z → LZ (zLtF o d k z) := by
  intro d
  induction d with
  | zero => intro c z _ _ _ h; exact h
  | succ d ih =>
    intro k z h1 h2 hX h
    have hb := ho k h2 (by omega)
    rw [zLtF]
    split
    · have w : LX (u1 (u1 z (59 + 9 * o k + 6) 0) 8 (u1 z (59 + 9 * o k + 6) 0 8 + 1)) := LX_u1 (by unfold LN; omega) (LX_due hb (Or.inl rfl) hX)
      exact ih _ _ (by omega) (by omega) (LX_lo hb w) (LZ_lo hb w (LZ_u1 (by unfold ZN; omega) (LZ_u1 (by unfold ZN; omega) h)))
    · exact ih _ _ (by omega) (by omega) hX h
theorem LZ_ep {z : Z} {c : Int} (hc : 0 ≤ c ∧ c < 64) (h : LZ z) : LZ (zEp z c) := fun e a b => by
  have k := h e a b
  by_cases q : e = c
  · subst q
    unfold zEp
    split
    · unfold zEp1
      try dsimp only
      rw [u1_ne (by omega), u1_ne (by omega), u1_ne (by omega), u1_ne (by omega), u1_at, u1_ne (i := 59 + 9 * e + 4) (by omega), u1_at]
      refine ⟨k.1, fun w => ?_⟩
      split at w
      · assumption
      · rw [u1_ne (by omega)] at w
        rename_i p _
        rw [w] at p
        exact absurd p (by decide)
    · exact k
  · rw [zEp_ne (by omega), zEp_ne (by omega), zEp_ne (by omega), zEp_ne (by omega)]; exact k
theorem LZ_el {z : Z} {c : Int} (hc : 0 ≤ c ∧ c < 64) (hX : LX z) (h : LZ z) : LZ (zEl z c) := fun e a b => by
  have k := h e a b
  by_cases q : e = c
  · subst q
    have hb := (hX.2.2 e a b).2.2.1
    unfold zEl
    split
    · rename_i hl
      have hl := (zLs_p ⟨hb.1, by omega⟩).mp hl
      split
      · rename_i hw
        unfold zEl2
        try dsimp only
        have e3 : ∀ w v : Int, u1 (u1 (u1 (zEl1 z e) (59 + 9 * e + 2) 0) 11 w) (59 + 9 * e + 6) v (59 + 9 * e + 3) = zEl1 z e (59 + 9 * e + 3) := fun w v => by rw [u1_ne (by omega), u1_ne (by omega), u1_ne (by omega)]
        have e4 : ∀ w v : Int, u1 (u1 (u1 (zEl1 z e) (59 + 9 * e + 2) 0) 11 w) (59 + 9 * e + 6) v (59 + 9 * e + 4) = z (59 + 9 * e + 4) := fun w v => by unfold zEl1; rw [u1_ne (by omega), u1_ne (by omega), u1_ne (by omega), u1_ne (by omega)]
        have e5 : ∀ w v : Int, u1 (u1 (u1 (zEl1 z e) (59 + 9 * e + 2) 0) 11 w) (59 + 9 * e + 6) v (59 + 9 * e + 5) = z (59 + 9 * e + 5) := fun w v => by unfold zEl1; rw [u1_ne (by omega), u1_ne (by omega), u1_ne (by omega), u1_ne (by omega)]
        rw [e3, e4, e5]
        exact ⟨fun _ => hw, k.2⟩
      · unfold zEl1
        rw [u1_ne (j := 59 + 9 * e + 2) (by omega), u1_ne (j := 59 + 9 * e + 4) (by omega), u1_ne (j := 59 + 9 * e + 5) (by omega)]
        exact ⟨fun w => by omega, k.2⟩
    · exact k
  · rw [zEl_ne (by omega), zEl_ne (by omega), zEl_ne (by omega), zEl_ne (by omega)]; exact k
theorem LZ_epF : ∀ (d : Nat) (c : Int) (z : Z), c + d = 64 → 0 ≤ c → LZ z → LZ (zEpF d c z) := by
  intro d
  induction d with
  | zero => intro c z _ _ h; exact h
  | succ d ih => intro c z h1 h2 h; exact ih _ _ (by omega) (by omega) (LZ_ep ⟨h2, by omega⟩ h)
theorem LZ_elF : ∀ (d : Nat) (c : Int) (z : Z), c + d = 64 → 0 ≤ c → LX z → LZ z → LZ (zElF d c z) := by
  intro d
  induction d with
  | zero => intro c z _ _ _ h; exact h
  | succ d ih => intro c z h1 h2 hX h; exact ih _ _ (by omega) (by omega) (LX_el ⟨h2, by omega⟩ hX) (LZ_el ⟨h2, by omega⟩ hX h)
theorem LZ_tk {z : Z} {o : Int → Int} (hX : LX z) (h : LZ z) : LZ (zTk z o) := by
  have hb := zOr_b (zTk0 z) o
  have h0 : LZ (zTk0 z) := LZ_u1 (by unfold ZN; omega) (LZ_u1 (by unfold ZN; omega) h)
  have h1 : LZ (zTk1 z o) := LZ_ltF _ (zOrN (zTk0 z) o).toNat hb.1 _ _ _ (by omega) (by omega) (LX_tk0 hX) h0
  have X1 : LX (zTk1 z o) := LX_tk1 hX
  exact LZ_elF 64 0 _ (by omega) (by omega) (LX_epF 64 0 _ (by omega) (by omega) X1) (LZ_epF 64 0 _ (by omega) (by omega) h1)
/-! what the class answers -/
theorem ct_q {G : GX} {sh : List SH} {M : MI} {a : List PV} {X P : Mem} {r : Option PV} (e : ps X 1 P = X) (h : CT G sh M 0 0 a (ps X 1 P) r (ps X 1 P)) : CT G sh M 0 0 a X r X := by rw [e] at h; exact h
theorem ct_r {G : GX} {sh : List SH} {M : MI} {c s : Nat} {a : List PV} {X Y : Mem} {v w : Int} (h : CT G sh M c s a X (some (.inl v)) Y) (e : v = w) : CT G sh M c s a X (some (.inl w)) Y := e ▸ h
/-- the class's plane in a memory, and the row that it stands for -/
def QP (X P : Mem) (z : Z) (T B K : Int) : Prop := ps X 1 P = X ∧ RR P z T B K ∧ CX P ∧ LX z ∧ LZ z
section
variable {G : GX} {sh : List SH} {X P : Mem} {z : Z} {T B K : Int}
theorem qc_core (V : EV G sh) (Q : QP X P z T B K) {c w : Int} (hc : 0 ≤ c ∧ c < 64) (hw : 0 ≤ w ∧ w ≤ 8) : CT G sh iX7_core 0 0 [.inr (.ref 0), .inl c, .inl w] X (some (.inl (zCN z c w))) X := by
  rw [← q_core hc hw Q.2.1]
  exact ct_q Q.1 (ct_X7_core V ⟨by omega, by omega⟩ ⟨by omega, by omega⟩ hc hw)
theorem qc_tenant (V : EV G sh) (Q : QP X P z T B K) {t w : Int} (ht : 0 ≤ t ∧ t < z 2) (hw : 0 ≤ w ∧ w ≤ 5) : CT G sh iX7_tenant 0 0 [.inr (.ref 0), .inl t, .inl w] X (some (.inl (zTN z t w))) X := by
  have b := Q.2.1.2.2.2.1.1
  have e := Q.2.1.1.tn
  rw [← q_tenant ⟨ht.1, by omega⟩ hw Q.2.1 Q.2.2.1]
  exact ct_q Q.1 (ct_X7_tenant V ⟨by omega, by omega⟩ ⟨by omega, by omega⟩ b ⟨ht.1, by omega⟩ hw Q.2.1.2.2.2.1)
theorem qc_insurer (V : EV G sh) (Q : QP X P z T B K) {i w : Int} (hi : 0 ≤ i ∧ i < z 3) (hw : 0 ≤ w ∧ w ≤ 6) : CT G sh iX7_insurer 0 0 [.inr (.ref 0), .inl i, .inl w] X (some (.inl (zIN z i w))) X := by
  have b := Q.2.1.2.2.2.1.2.1
  have e := Q.2.1.1.im
  rw [← q_insurer ⟨hi.1, by omega⟩ hw Q.2.1]
  exact ct_q Q.1 (ct_X7_insurer V ⟨by omega, by omega⟩ ⟨by omega, by omega⟩ b ⟨hi.1, by omega⟩ hw Q.2.1.2.2.2.1)
theorem qc_owed (V : EV G sh) (Q : QP X P z T B K) {p w : Int} (hp : 0 ≤ p ∧ p ≤ 63) (hw : 0 ≤ w ∧ w ≤ 1) : CT G sh iX7_owed 0 0 [.inr (.ref 0), .inl p, .inl w] X (some (.inl (zOwd z (fun _ => 0) p w))) X := by
  rw [← q_owed (fun _ => 0) ⟨hp.1, by omega⟩ Q.2.1]
  exact ct_q Q.1 (ct_X7_owed V ⟨by omega, by omega⟩ ⟨by omega, by omega⟩ hp hw Q.2.1.2.2.2.1.2.2.2.1)
theorem qc_count (V : EV G sh) (Q : QP X P z T B K) {w : Int} (hw : 0 ≤ w ∧ w ≤ 18) : CT G sh iX7_count 0 0 [.inr (.ref 0), .inl w] X (some (.inl (zCnt z (X 49 0) w))) X := by
  rw [← q_count (s := X 49 0) hw Q.2.1]
  exact ct_q Q.1 (ct_X7_count V ⟨by omega, by omega⟩ hw rfl)
theorem qc_setting (V : EV G sh) (Q : QP X P z T B K) {s : Int} (hs : 0 ≤ s ∧ s < 8) : CT G sh iX7_setting 0 0 [.inr (.ref 0), .inl s] X (some (.inl (z (15 + s)))) X := by
  rw [← Q.2.1.1.st s hs.1 hs.2]
  exact ct_q Q.1 (ct_X7_setting V ⟨by omega, by omega⟩ hs)
theorem qc_premium (V : EV G sh) (Q : QP X P z T B K) {c i k : Int} (hc : 0 ≤ c ∧ c < 64) (hi : 0 ≤ i ∧ i < z 3) (hk : 1 ≤ k ∧ k ≤ 200) : CT G sh iX7_premium 0 0 [.inr (.ref 0), .inl c, .inl i, .inl k] X (some (.inl (zPrem z c i k (z 1)))) X := by
  have b := Q.2.1.2.2.2.1.2.1
  have e := Q.2.1.1.im
  rw [← prem_e (k := k) hc ⟨hi.1, by omega⟩ Q.2.1.1 Q.2.1.1.ht]
  exact ct_q Q.1 (ct_X7_premium V ⟨by omega, by omega⟩ ⟨by omega, by omega⟩ ⟨by omega, by omega⟩ b hc ⟨hi.1, by omega⟩ hk)
theorem qc_cheapest (V : EV G sh) (Q : QP X P z T B K) {c v k : Int} (hc : 0 ≤ c ∧ c < 64) (hv : 1 ≤ v ∧ v ≤ 500) (hk : 1 ≤ k ∧ k ≤ 200) : CT G sh iX7_cheapest 0 0 [.inr (.ref 0), .inl c, .inl v, .inl k] X (some (.inl (zCh z c v k))) X := by
  have b := Q.2.1.2.2.2.1.2.1
  have e := Q.2.1.1.im
  have r : zCh z c v k = cCh P c v k := by
    unfold zCh cCh
    rw [wr_id' (x := z 3) (by omega) (by omega), ← e]
    exact (q_ch hc Q.2.1 _ 0 (-1) 0 (by omega) (by omega) (Or.inl rfl)).symm
  rw [r]
  exact ct_q Q.1 (ct_X7_cheapest V ⟨by omega, by omega⟩ ⟨by omega, by omega⟩ ⟨by omega, by omega⟩ hc hv hk b)
theorem qc_waitFor (V : EV G sh) (Q : QP X P z T B K) {c i k x : Int} (hc : 0 ≤ c ∧ c < 64) (hi : 0 ≤ i ∧ i < z 3) (hk : 1 ≤ k ∧ k ≤ 200) (hx : 1 ≤ x ∧ x ≤ 10000) : CT G sh iX7_waitFor 0 0 [.inr (.ref 0), .inl c, .inl i, .inl k, .inl x] X (some (.inl (zWt z c i k x))) X := by
  have b := Q.2.1.2.2.2.1.2.1
  have e := Q.2.1.1.im
  have r : zWt z c i k x = cWtF P c i k x 201 0 := (q_wt hc ⟨hi.1, by omega⟩ Q.2.1 201 0 (by omega) (by omega)).symm
  rw [r]
  exact ct_q Q.1 (ct_X7_waitFor V ⟨by omega, by omega⟩ ⟨by omega, by omega⟩ ⟨by omega, by omega⟩ ⟨by omega, by omega⟩ b hc ⟨hi.1, by omega⟩ hk hx)
theorem qc_ifRead (V : EV G sh) (Q : QP X P z T B K) {c w : Int} (hc : 0 ≤ c ∧ c < 64) (hw : 0 ≤ w ∧ w ≤ 4) : CT G sh iX7_ifRead 0 0 [.inr (.ref 0), .inl c, .inl w] X (some (.inl (zRN z c w))) X := by
  rw [← q_ifRead hc hw Q.2.1]
  exact ct_q Q.1 (ct_X7_ifRead V ⟨by omega, by omega⟩ ⟨by omega, by omega⟩ hc hw)
theorem qc_gentlest (V : EV G sh) (Q : QP X P z T B K) : CT G sh iX7_gentlest 0 0 [.inr (.ref 0)] X (some (.inl (zG z))) X := by
  have r : zG z = cG P := (q_g Q.2.1 64 0 (-1) 64 0 (by omega) (by omega) (Or.inl rfl)).symm
  rw [r]
  exact ct_q Q.1 (ct_X7_gentlest V)
theorem qc_atRisk (V : EV G sh) (Q : QP X P z T B K) {t : Int} (ht : 0 ≤ t ∧ t < z 2) : CT G sh iX7_atRisk 0 0 [.inr (.ref 0), .inl t] X (some (.inl (zRk z t))) X := by
  have b := Q.2.1.2.2.2.1.1
  have e := Q.2.1.1.tn
  have r : zRk z t = cRk P t := (q_rk ⟨ht.1, by omega⟩ Q.2.1 64 0 0 (by omega) (by omega) (by omega) (by omega)).symm
  rw [r]
  exact ct_q Q.1 (ct_X7_atRisk V ⟨by omega, by omega⟩ b ⟨ht.1, by omega⟩)
theorem qc_backShare (V : EV G sh) (Q : QP X P z T B K) : CT G sh iX7_backShare 0 0 [.inr (.ref 0)] X (some (.inr (.double (zBk z)))) X := by
  rw [← (q_bk Q.2.1).1]
  exact ct_q Q.1 (ct_X7_backShare V)
/-! the answers in the law's words -/
theorem v_core3 {c : Int} (hc : 0 ≤ c ∧ c < 64) (Q : QP X P z T B K) : wr (zCN z c 3) = wr (z (59 + 9 * c + 3)) := by
  have b := (Q.2.2.2.1.2.2 c hc.1 hc.2).2.2.1
  have k := (Q.2.2.2.2 c hc.1 hc.2).1
  have e : zCN z c 3 = if zLs z c then z (59 + 9 * c + 3) else 0 := by unfold zCN; rw [if_neg (by decide), if_neg (by decide), if_pos rfl]
  rw [e]
  split
  · rfl
  · rename_i h
    rw [zLs_p ⟨b.1, by omega⟩] at h
    rw [k (by omega)]; rfl
theorem v_core5 {c : Int} (hc : 0 ≤ c ∧ c < 64) (Q : QP X P z T B K) : wr (zCN z c 5) = wr (z (59 + 9 * c + 5)) := by
  have b := (Q.2.2.2.1.2.2 c hc.1 hc.2).2.2.2.1
  have k := (Q.2.2.2.2 c hc.1 hc.2).2
  have e : zCN z c 5 = if 0 < wr (z (59 + 9 * c + 4)) then z (59 + 9 * c + 5) else 0 := by unfold zCN; rw [if_neg (by decide), if_neg (by decide), if_neg (by decide), if_neg (by decide), if_pos rfl]
  rw [e, wr_id' (x := z (59 + 9 * c + 4)) (by omega) (by omega)]
  split
  · rfl
  · rw [k (by omega)]; rfl
theorem v_core6 {c : Int} (hc : 0 ≤ c ∧ c < 64) (Q : QP X P z T B K) : zCN z c 6 = if z (59 + 9 * c + 6) - 1 < 0 then 0 else 1 := by
  have d := Q.2.1.2.2.2.2.2.du c hc.1 hc.2
  have t := Q.2.1.2.2.2.2.2.tT
  have e : zCN z c 6 = bI (zOw z c) := by unfold zCN; rw [if_neg (by decide), if_neg (by decide), if_neg (by decide), if_neg (by decide), if_neg (by decide), if_pos rfl]
  rw [e]
  unfold zOw
  rw [wr_id' (by omega) (by omega)]
  by_cases q : z (59 + 9 * c + 6) - 1 < 0
  · rw [if_pos q, ← bI_f (by omega)]
  · rw [if_neg q, ← bI_t (by omega)]
theorem v_heat (Q : QP X P z T B K) {c : Int} : zRN z c 2 = if z 1 + z (15 + 2) ≤ 100 then z 1 + z (15 + 2) else 100 := by
  have a := Q.2.1.2.2.2.2.2.ht
  have b := Q.2.1.2.2.2.2.2.st 2 (by decide) (by decide)
  have e : zRN z c 2 = zHeat z (z (15 + 2)) := by unfold zRN; rw [if_neg (by decide), if_neg (by decide), if_pos rfl]
  rw [e]
  unfold zHeat
  rw [zLess_e ⟨by omega, by omega⟩]
  by_cases q : z 1 + z (15 + 2) ≤ 100
  · rw [if_pos q, if_neg (by omega)]
  · rw [if_neg q, if_pos (by omega)]
theorem v_worn (Q : QP X P z T B K) {c : Int} (hc : 0 ≤ c ∧ c < 64) : zRN z c 3 = if z (59 + 9 * c + 1) - 1 - (z 1).tdiv 25 < 0 then 0 else z (59 + 9 * c + 1) - 1 - (z 1).tdiv 25 := by
  have a := Q.2.1.2.2.2.2.2.ht
  have b := Q.2.1.2.2.2.2.2.sg c hc.1 hc.2
  have t := tdiv_b a
  have e : zRN z c 3 = zWorn z c := by unfold zRN; rw [if_neg (by decide), if_neg (by decide), if_neg (by decide), if_pos rfl]
  rw [e]
  unfold zWorn
  rw [wr_id' (x := z 1) (by omega) (by omega), zNB_e ⟨by omega, by omega⟩]
end

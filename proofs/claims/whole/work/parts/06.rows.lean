/-! ROWS OF J: one for each instruction that the methods use. Proved from the kit's rows. -/
section
variable {G : GX} {sh : List SH} {M : MI} {mc ms : Nat} {F : FinT} {pc : Nat} {L : List (Option PV)} {S : List PV} {m : Mem} {k n : Nat}
theorem j_iconst {v : Int} {q : Nat} (hd : decode (mB M) pc = .ok (.iconst v, 1)) (hq : pc + 1 = q)  (kk : J G sh M mc ms F q L (.inl v :: S) m k n) : J G sh M mc ms F pc L (S) m k n := by
  intro p e s mm args below meth c R C H locs ls hP hS hL
  subst hq
  exact lv_iconst C.x C.b hd rfl (kk p e s mm args below meth c R C H locs ls hP hS hL)
theorem j_bipush {v : Int} {q : Nat} (hd : decode (mB M) pc = .ok (.bipush v, 2)) (hq : pc + 2 = q) (hv : (Int8.ofInt v).toInt32 = Int32.ofInt v) (kk : J G sh M mc ms F q L (.inl v :: S) m k n) : J G sh M mc ms F pc L (S) m k n := by
  intro p e s mm args below meth c R C H locs ls hP hS hL
  subst hq
  exact lv_bipush C.x C.b hd hv (kk p e s mm args below meth c R C H locs ls hP hS hL)
theorem j_sipush {v : Int} {q : Nat} (hd : decode (mB M) pc = .ok (.sipush v, 3)) (hq : pc + 3 = q) (hv : (Int16.ofInt v).toInt32 = Int32.ofInt v) (kk : J G sh M mc ms F q L (.inl v :: S) m k n) : J G sh M mc ms F pc L (S) m k n := by
  intro p e s mm args below meth c R C H locs ls hP hS hL
  subst hq
  exact lv_sipush C.x C.b hd hv (kk p e s mm args below meth c R C H locs ls hP hS hL)
theorem j_lconst {v : Fin 2} {x : Int64} {q : Nat} (hd : decode (mB M) pc = .ok (.lconst v, 1)) (hq : pc + 1 = q) (hv : Int64.ofNat (v : Nat) = x) (kk : J G sh M mc ms F q L (.inr (.long x) :: S) m k n) : J G sh M mc ms F pc L (S) m k n := by
  intro p e s mm args below meth c R C H locs ls hP hS hL
  subst hq
  exact lv_lconst C.x C.b hd hv (kk p e s mm args below meth c R C H locs ls hP hS hL)
theorem j_dconst0  {q : Nat} (hd : decode (mB M) pc = .ok (.dconst 0, 1)) (hq : pc + 1 = q)  (kk : J G sh M mc ms F q L (.inr (.double FP.dconst0) :: S) m k n) : J G sh M mc ms F pc L (S) m k n := by
  intro p e s mm args below meth c R C H locs ls hP hS hL
  subst hq
  exact lv_dconst0 C.x C.b hd (kk p e s mm args below meth c R C H locs ls hP hS hL)
theorem j_dconst1  {q : Nat} (hd : decode (mB M) pc = .ok (.dconst 1, 1)) (hq : pc + 1 = q)  (kk : J G sh M mc ms F q L (.inr (.double FP.dconst1) :: S) m k n) : J G sh M mc ms F pc L (S) m k n := by
  intro p e s mm args below meth c R C H locs ls hP hS hL
  subst hq
  exact lv_dconst1 C.x C.b hd (kk p e s mm args below meth c R C H locs ls hP hS hL)
theorem j_ldc2 {i : Nat} {x : Int64} {q : Nat} (hd : decode (mB M) pc = .ok (.ldc2_w i, 3)) (hq : pc + 3 = q) (hw : Cond.constantLong (mY M).cls i x ∈ jall) (kk : J G sh M mc ms F q L (.inr (.long x) :: S) m k n) : J G sh M mc ms F pc L (S) m k n := by
  intro p e s mm args below meth c R C H locs ls hP hS hL
  subst hq
  exact lv_ldc2 C.x C.b C.own (C.ts _ hw) hd (kk p e s mm args below meth c R C H locs ls hP hS hL)
theorem j_ldc2d {i : Nat} {x : UInt64} {q : Nat} (hd : decode (mB M) pc = .ok (.ldc2_w i, 3)) (hq : pc + 3 = q) (hw : Cond.constantDouble (mY M).cls i x ∈ jall) (kk : J G sh M mc ms F q L (.inr (.double x) :: S) m k n) : J G sh M mc ms F pc L (S) m k n := by
  intro p e s mm args below meth c R C H locs ls hP hS hL
  subst hq
  exact lv_ldc2d C.x C.b C.own (C.ts _ hw) hd (kk p e s mm args below meth c R C H locs ls hP hS hL)
theorem j_iload0 {x : Int} {r : List (Option PV)} {q : Nat} (hd : decode (mB M) pc = .ok (.iload_n 0, 1)) (hq : pc + 1 = q) (kk : J G sh M mc ms F q (some (.inl x) :: r) (.inl x :: S) m k n) : J G sh M mc ms F pc (some (.inl x) :: r) (S) m k n := by
  intro p e s mm args below meth c R C H locs ls hP hS hL
  subst hq
  exact lv_iload_n C.x C.b hd rfl (jl_get hL (k := 0) rfl) (kk p e s mm args below meth c R C H locs ls hP hS hL)
theorem j_lload0 {x : Int64} {r : List (Option PV)} {q : Nat} (hd : decode (mB M) pc = .ok (.lload_n 0, 1)) (hq : pc + 1 = q) (kk : J G sh M mc ms F q (some (.inr (.long x)) :: r) (.inr (.long x) :: S) m k n) : J G sh M mc ms F pc (some (.inr (.long x)) :: r) (S) m k n := by
  intro p e s mm args below meth c R C H locs ls hP hS hL
  subst hq
  exact lv_lload_n C.x C.b hd rfl (jl_get hL (k := 0) rfl) (kk p e s mm args below meth c R C H locs ls hP hS hL)
theorem j_aload0 {x : Nat} {r : List (Option PV)} {q : Nat} (hd : decode (mB M) pc = .ok (.aload_n 0, 1)) (hq : pc + 1 = q) (kk : J G sh M mc ms F q (some (.inr (.ref x)) :: r) (.inr (.ref x) :: S) m k n) : J G sh M mc ms F pc (some (.inr (.ref x)) :: r) (S) m k n := by
  intro p e s mm args below meth c R C H locs ls hP hS hL
  subst hq
  exact lv_aload_n C.x C.b hd rfl (jl_get hL (k := 0) rfl) (kk p e s mm args below meth c R C H locs ls hP hS hL)
theorem j_oload0 {x : Nat} {r : List (Option PV)} {q : Nat} (hd : decode (mB M) pc = .ok (.aload_n 0, 1)) (hq : pc + 1 = q) (kk : J G sh M mc ms F q (some (.inr (.retAddr x)) :: r) (.inr (.retAddr x) :: S) m k n) : J G sh M mc ms F pc (some (.inr (.retAddr x)) :: r) (S) m k n := by
  intro p e s mm args below meth c R C H locs ls hP hS hL
  subst hq
  exact lv_aload_n C.x C.b hd rfl (jl_get hL (k := 0) rfl) (kk p e s mm args below meth c R C H locs ls hP hS hL)
theorem j_dload0 {x : UInt64} {r : List (Option PV)} {q : Nat} (hd : decode (mB M) pc = .ok (.dload_n 0, 1)) (hq : pc + 1 = q) (kk : J G sh M mc ms F q (some (.inr (.double x)) :: r) (.inr (.double x) :: S) m k n) : J G sh M mc ms F pc (some (.inr (.double x)) :: r) (S) m k n := by
  intro p e s mm args below meth c R C H locs ls hP hS hL
  subst hq
  exact lv_dload_n C.x C.b hd rfl (jl_get hL (k := 0) rfl) (kk p e s mm args below meth c R C H locs ls hP hS hL)
theorem j_istore0 {x : Int} {r : List (Option PV)} {b0 : Option PV} {q : Nat} (hd : decode (mB M) pc = .ok (.istore_n 0, 1)) (hq : pc + 1 = q) (hn : 0 < mL M) (kk : J G sh M mc ms F q (some (.inl x) :: r) (S) m k n) : J G sh M mc ms F pc (b0 :: r) (.inl x :: S) m k n := by
  intro p e s mm args below meth c R C H locs ls hP hS hL
  subst hq
  exact lv_istore_n (i := 0) C.x C.b hd rfl hL hn rfl (fun ls1 h1 => kk p e s mm args below meth c R C H locs ls1 hP hS (jl_store (i := 0) (v := .inl x) rfl h1))
theorem j_astore0 {x : Nat} {r : List (Option PV)} {b0 : Option PV} {q : Nat} (hd : decode (mB M) pc = .ok (.astore_n 0, 1)) (hq : pc + 1 = q) (hn : 0 < mL M) (kk : J G sh M mc ms F q (some (.inr (.ref x)) :: r) (S) m k n) : J G sh M mc ms F pc (b0 :: r) (.inr (.ref x) :: S) m k n := by
  intro p e s mm args below meth c R C H locs ls hP hS hL
  subst hq
  exact lv_astore_n (i := 0) C.x C.b hd rfl hL hn rfl (fun ls1 h1 => kk p e s mm args below meth c R C H locs ls1 hP hS (jl_store (i := 0) (v := .inr (.ref x)) rfl h1))
theorem j_lstore0 {x : Int64} {r : List (Option PV)} {b0 : Option PV} {b1 : Option PV} {q : Nat} (hd : decode (mB M) pc = .ok (.lstore_n 0, 1)) (hq : pc + 1 = q) (hn : 0 + 1 < mL M) (kk : J G sh M mc ms F q (some (.inr (.long x)) :: none :: r) (S) m k n) : J G sh M mc ms F pc (b0 :: b1 :: r) (.inr (.long x) :: S) m k n := by
  intro p e s mm args below meth c R C H locs ls hP hS hL
  subst hq
  exact lv_lstore_n (i := 0) C.x C.b hd rfl hL hn rfl (fun ls1 h1 => kk p e s mm args below meth c R C H locs ls1 hP hS (jl_store2 (i := 0) (v := .inr (.long x)) rfl h1))
theorem j_dstore0 {x : UInt64} {r : List (Option PV)} {b0 : Option PV} {b1 : Option PV} {q : Nat} (hd : decode (mB M) pc = .ok (.dstore_n 0, 1)) (hq : pc + 1 = q) (hn : 0 + 1 < mL M) (kk : J G sh M mc ms F q (some (.inr (.double x)) :: none :: r) (S) m k n) : J G sh M mc ms F pc (b0 :: b1 :: r) (.inr (.double x) :: S) m k n := by
  intro p e s mm args below meth c R C H locs ls hP hS hL
  subst hq
  exact lv_dstore_n (i := 0) C.x C.b hd rfl hL hn rfl (fun ls1 h1 => kk p e s mm args below meth c R C H locs ls1 hP hS (jl_store2 (i := 0) (v := .inr (.double x)) rfl h1))
theorem j_iinc0 {x d : Int} {r : List (Option PV)} {q : Nat} (hd : decode (mB M) pc = .ok (.iinc 0 d, 3)) (hq : pc + 3 = q) (hn : 0 < mL M) (kk : J G sh M mc ms F q (some (.inl (x + d)) :: r) (S) m k n) : J G sh M mc ms F pc (some (.inl x) :: r) (S) m k n := by
  intro p e s mm args below meth c R C H locs ls hP hS hL
  subst hq
  obtain ⟨k0, hk0⟩ := List.getElem?_of_mem ((jl_mem (G := G) (some (.inl x) :: r) 0 (0, jv G (.inl x))).mpr ⟨0, .inl x, rfl, rfl⟩)
  exact lv_iinc (i := 0) C.x C.b hd hL hk0 (Int32.ofInt_add x d).symm hn rfl (fun ls1 h1 => kk p e s mm args below meth c R C H locs ls1 hP hS (jl_store (i := 0) (v := .inl (x + d)) rfl h1))
theorem j_iload1 {x : Int} {a0 : Option PV} {r : List (Option PV)} {q : Nat} (hd : decode (mB M) pc = .ok (.iload_n 1, 1)) (hq : pc + 1 = q) (kk : J G sh M mc ms F q (a0 :: some (.inl x) :: r) (.inl x :: S) m k n) : J G sh M mc ms F pc (a0 :: some (.inl x) :: r) (S) m k n := by
  intro p e s mm args below meth c R C H locs ls hP hS hL
  subst hq
  exact lv_iload_n C.x C.b hd rfl (jl_get hL (k := 1) rfl) (kk p e s mm args below meth c R C H locs ls hP hS hL)
theorem j_lload1 {x : Int64} {a0 : Option PV} {r : List (Option PV)} {q : Nat} (hd : decode (mB M) pc = .ok (.lload_n 1, 1)) (hq : pc + 1 = q) (kk : J G sh M mc ms F q (a0 :: some (.inr (.long x)) :: r) (.inr (.long x) :: S) m k n) : J G sh M mc ms F pc (a0 :: some (.inr (.long x)) :: r) (S) m k n := by
  intro p e s mm args below meth c R C H locs ls hP hS hL
  subst hq
  exact lv_lload_n C.x C.b hd rfl (jl_get hL (k := 1) rfl) (kk p e s mm args below meth c R C H locs ls hP hS hL)
theorem j_aload1 {x : Nat} {a0 : Option PV} {r : List (Option PV)} {q : Nat} (hd : decode (mB M) pc = .ok (.aload_n 1, 1)) (hq : pc + 1 = q) (kk : J G sh M mc ms F q (a0 :: some (.inr (.ref x)) :: r) (.inr (.ref x) :: S) m k n) : J G sh M mc ms F pc (a0 :: some (.inr (.ref x)) :: r) (S) m k n := by
  intro p e s mm args below meth c R C H locs ls hP hS hL
  subst hq
  exact lv_aload_n C.x C.b hd rfl (jl_get hL (k := 1) rfl) (kk p e s mm args below meth c R C H locs ls hP hS hL)
theorem j_oload1 {x : Nat} {a0 : Option PV} {r : List (Option PV)} {q : Nat} (hd : decode (mB M) pc = .ok (.aload_n 1, 1)) (hq : pc + 1 = q) (kk : J G sh M mc ms F q (a0 :: some (.inr (.retAddr x)) :: r) (.inr (.retAddr x) :: S) m k n) : J G sh M mc ms F pc (a0 :: some (.inr (.retAddr x)) :: r) (S) m k n := by
  intro p e s mm args below meth c R C H locs ls hP hS hL
  subst hq
  exact lv_aload_n C.x C.b hd rfl (jl_get hL (k := 1) rfl) (kk p e s mm args below meth c R C H locs ls hP hS hL)
theorem j_dload1 {x : UInt64} {a0 : Option PV} {r : List (Option PV)} {q : Nat} (hd : decode (mB M) pc = .ok (.dload_n 1, 1)) (hq : pc + 1 = q) (kk : J G sh M mc ms F q (a0 :: some (.inr (.double x)) :: r) (.inr (.double x) :: S) m k n) : J G sh M mc ms F pc (a0 :: some (.inr (.double x)) :: r) (S) m k n := by
  intro p e s mm args below meth c R C H locs ls hP hS hL
  subst hq
  exact lv_dload_n C.x C.b hd rfl (jl_get hL (k := 1) rfl) (kk p e s mm args below meth c R C H locs ls hP hS hL)
theorem j_istore1 {x : Int} {a0 : Option PV} {r : List (Option PV)} {b0 : Option PV} {q : Nat} (hd : decode (mB M) pc = .ok (.istore_n 1, 1)) (hq : pc + 1 = q) (hp : jprev 1 (a0 :: b0 :: r) = true) (hn : 1 < mL M) (kk : J G sh M mc ms F q (a0 :: some (.inl x) :: r) (S) m k n) : J G sh M mc ms F pc (a0 :: b0 :: r) (.inl x :: S) m k n := by
  intro p e s mm args below meth c R C H locs ls hP hS hL
  subst hq
  exact lv_istore_n (i := 1) C.x C.b hd rfl hL hn rfl (fun ls1 h1 => kk p e s mm args below meth c R C H locs ls1 hP hS (jl_store (i := 1) (v := .inl x) hp h1))
theorem j_astore1 {x : Nat} {a0 : Option PV} {r : List (Option PV)} {b0 : Option PV} {q : Nat} (hd : decode (mB M) pc = .ok (.astore_n 1, 1)) (hq : pc + 1 = q) (hp : jprev 1 (a0 :: b0 :: r) = true) (hn : 1 < mL M) (kk : J G sh M mc ms F q (a0 :: some (.inr (.ref x)) :: r) (S) m k n) : J G sh M mc ms F pc (a0 :: b0 :: r) (.inr (.ref x) :: S) m k n := by
  intro p e s mm args below meth c R C H locs ls hP hS hL
  subst hq
  exact lv_astore_n (i := 1) C.x C.b hd rfl hL hn rfl (fun ls1 h1 => kk p e s mm args below meth c R C H locs ls1 hP hS (jl_store (i := 1) (v := .inr (.ref x)) hp h1))
theorem j_lstore1 {x : Int64} {a0 : Option PV} {r : List (Option PV)} {b0 : Option PV} {b1 : Option PV} {q : Nat} (hd : decode (mB M) pc = .ok (.lstore_n 1, 1)) (hq : pc + 1 = q) (hp : jprev 1 (a0 :: b0 :: b1 :: r) = true) (hn : 1 + 1 < mL M) (kk : J G sh M mc ms F q (a0 :: some (.inr (.long x)) :: none :: r) (S) m k n) : J G sh M mc ms F pc (a0 :: b0 :: b1 :: r) (.inr (.long x) :: S) m k n := by
  intro p e s mm args below meth c R C H locs ls hP hS hL
  subst hq
  exact lv_lstore_n (i := 1) C.x C.b hd rfl hL hn rfl (fun ls1 h1 => kk p e s mm args below meth c R C H locs ls1 hP hS (jl_store2 (i := 1) (v := .inr (.long x)) hp h1))
theorem j_dstore1 {x : UInt64} {a0 : Option PV} {r : List (Option PV)} {b0 : Option PV} {b1 : Option PV} {q : Nat} (hd : decode (mB M) pc = .ok (.dstore_n 1, 1)) (hq : pc + 1 = q) (hp : jprev 1 (a0 :: b0 :: b1 :: r) = true) (hn : 1 + 1 < mL M) (kk : J G sh M mc ms F q (a0 :: some (.inr (.double x)) :: none :: r) (S) m k n) : J G sh M mc ms F pc (a0 :: b0 :: b1 :: r) (.inr (.double x) :: S) m k n := by
  intro p e s mm args below meth c R C H locs ls hP hS hL
  subst hq
  exact lv_dstore_n (i := 1) C.x C.b hd rfl hL hn rfl (fun ls1 h1 => kk p e s mm args below meth c R C H locs ls1 hP hS (jl_store2 (i := 1) (v := .inr (.double x)) hp h1))
theorem j_iinc1 {x d : Int} {a0 : Option PV} {r : List (Option PV)} {q : Nat} (hd : decode (mB M) pc = .ok (.iinc 1 d, 3)) (hq : pc + 3 = q) (hp : jprev 1 (a0 :: some (.inl x) :: r) = true) (hn : 1 < mL M) (kk : J G sh M mc ms F q (a0 :: some (.inl (x + d)) :: r) (S) m k n) : J G sh M mc ms F pc (a0 :: some (.inl x) :: r) (S) m k n := by
  intro p e s mm args below meth c R C H locs ls hP hS hL
  subst hq
  obtain ⟨k0, hk0⟩ := List.getElem?_of_mem ((jl_mem (G := G) (a0 :: some (.inl x) :: r) 0 (1, jv G (.inl x))).mpr ⟨1, .inl x, rfl, rfl⟩)
  exact lv_iinc (i := 1) C.x C.b hd hL hk0 (Int32.ofInt_add x d).symm hn rfl (fun ls1 h1 => kk p e s mm args below meth c R C H locs ls1 hP hS (jl_store (i := 1) (v := .inl (x + d)) hp h1))
theorem j_iload2 {x : Int} {a0 : Option PV} {a1 : Option PV} {r : List (Option PV)} {q : Nat} (hd : decode (mB M) pc = .ok (.iload_n 2, 1)) (hq : pc + 1 = q) (kk : J G sh M mc ms F q (a0 :: a1 :: some (.inl x) :: r) (.inl x :: S) m k n) : J G sh M mc ms F pc (a0 :: a1 :: some (.inl x) :: r) (S) m k n := by
  intro p e s mm args below meth c R C H locs ls hP hS hL
  subst hq
  exact lv_iload_n C.x C.b hd rfl (jl_get hL (k := 2) rfl) (kk p e s mm args below meth c R C H locs ls hP hS hL)
theorem j_lload2 {x : Int64} {a0 : Option PV} {a1 : Option PV} {r : List (Option PV)} {q : Nat} (hd : decode (mB M) pc = .ok (.lload_n 2, 1)) (hq : pc + 1 = q) (kk : J G sh M mc ms F q (a0 :: a1 :: some (.inr (.long x)) :: r) (.inr (.long x) :: S) m k n) : J G sh M mc ms F pc (a0 :: a1 :: some (.inr (.long x)) :: r) (S) m k n := by
  intro p e s mm args below meth c R C H locs ls hP hS hL
  subst hq
  exact lv_lload_n C.x C.b hd rfl (jl_get hL (k := 2) rfl) (kk p e s mm args below meth c R C H locs ls hP hS hL)
theorem j_aload2 {x : Nat} {a0 : Option PV} {a1 : Option PV} {r : List (Option PV)} {q : Nat} (hd : decode (mB M) pc = .ok (.aload_n 2, 1)) (hq : pc + 1 = q) (kk : J G sh M mc ms F q (a0 :: a1 :: some (.inr (.ref x)) :: r) (.inr (.ref x) :: S) m k n) : J G sh M mc ms F pc (a0 :: a1 :: some (.inr (.ref x)) :: r) (S) m k n := by
  intro p e s mm args below meth c R C H locs ls hP hS hL
  subst hq
  exact lv_aload_n C.x C.b hd rfl (jl_get hL (k := 2) rfl) (kk p e s mm args below meth c R C H locs ls hP hS hL)
theorem j_oload2 {x : Nat} {a0 : Option PV} {a1 : Option PV} {r : List (Option PV)} {q : Nat} (hd : decode (mB M) pc = .ok (.aload_n 2, 1)) (hq : pc + 1 = q) (kk : J G sh M mc ms F q (a0 :: a1 :: some (.inr (.retAddr x)) :: r) (.inr (.retAddr x) :: S) m k n) : J G sh M mc ms F pc (a0 :: a1 :: some (.inr (.retAddr x)) :: r) (S) m k n := by
  intro p e s mm args below meth c R C H locs ls hP hS hL
  subst hq
  exact lv_aload_n C.x C.b hd rfl (jl_get hL (k := 2) rfl) (kk p e s mm args below meth c R C H locs ls hP hS hL)
theorem j_dload2 {x : UInt64} {a0 : Option PV} {a1 : Option PV} {r : List (Option PV)} {q : Nat} (hd : decode (mB M) pc = .ok (.dload_n 2, 1)) (hq : pc + 1 = q) (kk : J G sh M mc ms F q (a0 :: a1 :: some (.inr (.double x)) :: r) (.inr (.double x) :: S) m k n) : J G sh M mc ms F pc (a0 :: a1 :: some (.inr (.double x)) :: r) (S) m k n := by
  intro p e s mm args below meth c R C H locs ls hP hS hL
  subst hq
  exact lv_dload_n C.x C.b hd rfl (jl_get hL (k := 2) rfl) (kk p e s mm args below meth c R C H locs ls hP hS hL)
theorem j_istore2 {x : Int} {a0 : Option PV} {a1 : Option PV} {r : List (Option PV)} {b0 : Option PV} {q : Nat} (hd : decode (mB M) pc = .ok (.istore_n 2, 1)) (hq : pc + 1 = q) (hp : jprev 2 (a0 :: a1 :: b0 :: r) = true) (hn : 2 < mL M) (kk : J G sh M mc ms F q (a0 :: a1 :: some (.inl x) :: r) (S) m k n) : J G sh M mc ms F pc (a0 :: a1 :: b0 :: r) (.inl x :: S) m k n := by
  intro p e s mm args below meth c R C H locs ls hP hS hL
  subst hq
  exact lv_istore_n (i := 2) C.x C.b hd rfl hL hn rfl (fun ls1 h1 => kk p e s mm args below meth c R C H locs ls1 hP hS (jl_store (i := 2) (v := .inl x) hp h1))
theorem j_astore2 {x : Nat} {a0 : Option PV} {a1 : Option PV} {r : List (Option PV)} {b0 : Option PV} {q : Nat} (hd : decode (mB M) pc = .ok (.astore_n 2, 1)) (hq : pc + 1 = q) (hp : jprev 2 (a0 :: a1 :: b0 :: r) = true) (hn : 2 < mL M) (kk : J G sh M mc ms F q (a0 :: a1 :: some (.inr (.ref x)) :: r) (S) m k n) : J G sh M mc ms F pc (a0 :: a1 :: b0 :: r) (.inr (.ref x) :: S) m k n := by
  intro p e s mm args below meth c R C H locs ls hP hS hL
  subst hq
  exact lv_astore_n (i := 2) C.x C.b hd rfl hL hn rfl (fun ls1 h1 => kk p e s mm args below meth c R C H locs ls1 hP hS (jl_store (i := 2) (v := .inr (.ref x)) hp h1))
theorem j_lstore2 {x : Int64} {a0 : Option PV} {a1 : Option PV} {r : List (Option PV)} {b0 : Option PV} {b1 : Option PV} {q : Nat} (hd : decode (mB M) pc = .ok (.lstore_n 2, 1)) (hq : pc + 1 = q) (hp : jprev 2 (a0 :: a1 :: b0 :: b1 :: r) = true) (hn : 2 + 1 < mL M) (kk : J G sh M mc ms F q (a0 :: a1 :: some (.inr (.long x)) :: none :: r) (S) m k n) : J G sh M mc ms F pc (a0 :: a1 :: b0 :: b1 :: r) (.inr (.long x) :: S) m k n := by
  intro p e s mm args below meth c R C H locs ls hP hS hL
  subst hq
  exact lv_lstore_n (i := 2) C.x C.b hd rfl hL hn rfl (fun ls1 h1 => kk p e s mm args below meth c R C H locs ls1 hP hS (jl_store2 (i := 2) (v := .inr (.long x)) hp h1))
theorem j_dstore2 {x : UInt64} {a0 : Option PV} {a1 : Option PV} {r : List (Option PV)} {b0 : Option PV} {b1 : Option PV} {q : Nat} (hd : decode (mB M) pc = .ok (.dstore_n 2, 1)) (hq : pc + 1 = q) (hp : jprev 2 (a0 :: a1 :: b0 :: b1 :: r) = true) (hn : 2 + 1 < mL M) (kk : J G sh M mc ms F q (a0 :: a1 :: some (.inr (.double x)) :: none :: r) (S) m k n) : J G sh M mc ms F pc (a0 :: a1 :: b0 :: b1 :: r) (.inr (.double x) :: S) m k n := by
  intro p e s mm args below meth c R C H locs ls hP hS hL
  subst hq
  exact lv_dstore_n (i := 2) C.x C.b hd rfl hL hn rfl (fun ls1 h1 => kk p e s mm args below meth c R C H locs ls1 hP hS (jl_store2 (i := 2) (v := .inr (.double x)) hp h1))
theorem j_iinc2 {x d : Int} {a0 : Option PV} {a1 : Option PV} {r : List (Option PV)} {q : Nat} (hd : decode (mB M) pc = .ok (.iinc 2 d, 3)) (hq : pc + 3 = q) (hp : jprev 2 (a0 :: a1 :: some (.inl x) :: r) = true) (hn : 2 < mL M) (kk : J G sh M mc ms F q (a0 :: a1 :: some (.inl (x + d)) :: r) (S) m k n) : J G sh M mc ms F pc (a0 :: a1 :: some (.inl x) :: r) (S) m k n := by
  intro p e s mm args below meth c R C H locs ls hP hS hL
  subst hq
  obtain ⟨k0, hk0⟩ := List.getElem?_of_mem ((jl_mem (G := G) (a0 :: a1 :: some (.inl x) :: r) 0 (2, jv G (.inl x))).mpr ⟨2, .inl x, rfl, rfl⟩)
  exact lv_iinc (i := 2) C.x C.b hd hL hk0 (Int32.ofInt_add x d).symm hn rfl (fun ls1 h1 => kk p e s mm args below meth c R C H locs ls1 hP hS (jl_store (i := 2) (v := .inl (x + d)) hp h1))
theorem j_iload3 {x : Int} {a0 : Option PV} {a1 : Option PV} {a2 : Option PV} {r : List (Option PV)} {q : Nat} (hd : decode (mB M) pc = .ok (.iload_n 3, 1)) (hq : pc + 1 = q) (kk : J G sh M mc ms F q (a0 :: a1 :: a2 :: some (.inl x) :: r) (.inl x :: S) m k n) : J G sh M mc ms F pc (a0 :: a1 :: a2 :: some (.inl x) :: r) (S) m k n := by
  intro p e s mm args below meth c R C H locs ls hP hS hL
  subst hq
  exact lv_iload_n C.x C.b hd rfl (jl_get hL (k := 3) rfl) (kk p e s mm args below meth c R C H locs ls hP hS hL)
theorem j_lload3 {x : Int64} {a0 : Option PV} {a1 : Option PV} {a2 : Option PV} {r : List (Option PV)} {q : Nat} (hd : decode (mB M) pc = .ok (.lload_n 3, 1)) (hq : pc + 1 = q) (kk : J G sh M mc ms F q (a0 :: a1 :: a2 :: some (.inr (.long x)) :: r) (.inr (.long x) :: S) m k n) : J G sh M mc ms F pc (a0 :: a1 :: a2 :: some (.inr (.long x)) :: r) (S) m k n := by
  intro p e s mm args below meth c R C H locs ls hP hS hL
  subst hq
  exact lv_lload_n C.x C.b hd rfl (jl_get hL (k := 3) rfl) (kk p e s mm args below meth c R C H locs ls hP hS hL)
theorem j_aload3 {x : Nat} {a0 : Option PV} {a1 : Option PV} {a2 : Option PV} {r : List (Option PV)} {q : Nat} (hd : decode (mB M) pc = .ok (.aload_n 3, 1)) (hq : pc + 1 = q) (kk : J G sh M mc ms F q (a0 :: a1 :: a2 :: some (.inr (.ref x)) :: r) (.inr (.ref x) :: S) m k n) : J G sh M mc ms F pc (a0 :: a1 :: a2 :: some (.inr (.ref x)) :: r) (S) m k n := by
  intro p e s mm args below meth c R C H locs ls hP hS hL
  subst hq
  exact lv_aload_n C.x C.b hd rfl (jl_get hL (k := 3) rfl) (kk p e s mm args below meth c R C H locs ls hP hS hL)
theorem j_oload3 {x : Nat} {a0 : Option PV} {a1 : Option PV} {a2 : Option PV} {r : List (Option PV)} {q : Nat} (hd : decode (mB M) pc = .ok (.aload_n 3, 1)) (hq : pc + 1 = q) (kk : J G sh M mc ms F q (a0 :: a1 :: a2 :: some (.inr (.retAddr x)) :: r) (.inr (.retAddr x) :: S) m k n) : J G sh M mc ms F pc (a0 :: a1 :: a2 :: some (.inr (.retAddr x)) :: r) (S) m k n := by
  intro p e s mm args below meth c R C H locs ls hP hS hL
  subst hq
  exact lv_aload_n C.x C.b hd rfl (jl_get hL (k := 3) rfl) (kk p e s mm args below meth c R C H locs ls hP hS hL)
theorem j_dload3 {x : UInt64} {a0 : Option PV} {a1 : Option PV} {a2 : Option PV} {r : List (Option PV)} {q : Nat} (hd : decode (mB M) pc = .ok (.dload_n 3, 1)) (hq : pc + 1 = q) (kk : J G sh M mc ms F q (a0 :: a1 :: a2 :: some (.inr (.double x)) :: r) (.inr (.double x) :: S) m k n) : J G sh M mc ms F pc (a0 :: a1 :: a2 :: some (.inr (.double x)) :: r) (S) m k n := by
  intro p e s mm args below meth c R C H locs ls hP hS hL
  subst hq
  exact lv_dload_n C.x C.b hd rfl (jl_get hL (k := 3) rfl) (kk p e s mm args below meth c R C H locs ls hP hS hL)
theorem j_istore3 {x : Int} {a0 : Option PV} {a1 : Option PV} {a2 : Option PV} {r : List (Option PV)} {b0 : Option PV} {q : Nat} (hd : decode (mB M) pc = .ok (.istore_n 3, 1)) (hq : pc + 1 = q) (hp : jprev 3 (a0 :: a1 :: a2 :: b0 :: r) = true) (hn : 3 < mL M) (kk : J G sh M mc ms F q (a0 :: a1 :: a2 :: some (.inl x) :: r) (S) m k n) : J G sh M mc ms F pc (a0 :: a1 :: a2 :: b0 :: r) (.inl x :: S) m k n := by
  intro p e s mm args below meth c R C H locs ls hP hS hL
  subst hq
  exact lv_istore_n (i := 3) C.x C.b hd rfl hL hn rfl (fun ls1 h1 => kk p e s mm args below meth c R C H locs ls1 hP hS (jl_store (i := 3) (v := .inl x) hp h1))
theorem j_astore3 {x : Nat} {a0 : Option PV} {a1 : Option PV} {a2 : Option PV} {r : List (Option PV)} {b0 : Option PV} {q : Nat} (hd : decode (mB M) pc = .ok (.astore_n 3, 1)) (hq : pc + 1 = q) (hp : jprev 3 (a0 :: a1 :: a2 :: b0 :: r) = true) (hn : 3 < mL M) (kk : J G sh M mc ms F q (a0 :: a1 :: a2 :: some (.inr (.ref x)) :: r) (S) m k n) : J G sh M mc ms F pc (a0 :: a1 :: a2 :: b0 :: r) (.inr (.ref x) :: S) m k n := by
  intro p e s mm args below meth c R C H locs ls hP hS hL
  subst hq
  exact lv_astore_n (i := 3) C.x C.b hd rfl hL hn rfl (fun ls1 h1 => kk p e s mm args below meth c R C H locs ls1 hP hS (jl_store (i := 3) (v := .inr (.ref x)) hp h1))
theorem j_lstore3 {x : Int64} {a0 : Option PV} {a1 : Option PV} {a2 : Option PV} {r : List (Option PV)} {b0 : Option PV} {b1 : Option PV} {q : Nat} (hd : decode (mB M) pc = .ok (.lstore_n 3, 1)) (hq : pc + 1 = q) (hp : jprev 3 (a0 :: a1 :: a2 :: b0 :: b1 :: r) = true) (hn : 3 + 1 < mL M) (kk : J G sh M mc ms F q (a0 :: a1 :: a2 :: some (.inr (.long x)) :: none :: r) (S) m k n) : J G sh M mc ms F pc (a0 :: a1 :: a2 :: b0 :: b1 :: r) (.inr (.long x) :: S) m k n := by
  intro p e s mm args below meth c R C H locs ls hP hS hL
  subst hq
  exact lv_lstore_n (i := 3) C.x C.b hd rfl hL hn rfl (fun ls1 h1 => kk p e s mm args below meth c R C H locs ls1 hP hS (jl_store2 (i := 3) (v := .inr (.long x)) hp h1))
theorem j_dstore3 {x : UInt64} {a0 : Option PV} {a1 : Option PV} {a2 : Option PV} {r : List (Option PV)} {b0 : Option PV} {b1 : Option PV} {q : Nat} (hd : decode (mB M) pc = .ok (.dstore_n 3, 1)) (hq : pc + 1 = q) (hp : jprev 3 (a0 :: a1 :: a2 :: b0 :: b1 :: r) = true) (hn : 3 + 1 < mL M) (kk : J G sh M mc ms F q (a0 :: a1 :: a2 :: some (.inr (.double x)) :: none :: r) (S) m k n) : J G sh M mc ms F pc (a0 :: a1 :: a2 :: b0 :: b1 :: r) (.inr (.double x) :: S) m k n := by
  intro p e s mm args below meth c R C H locs ls hP hS hL
  subst hq
  exact lv_dstore_n (i := 3) C.x C.b hd rfl hL hn rfl (fun ls1 h1 => kk p e s mm args below meth c R C H locs ls1 hP hS (jl_store2 (i := 3) (v := .inr (.double x)) hp h1))
theorem j_iinc3 {x d : Int} {a0 : Option PV} {a1 : Option PV} {a2 : Option PV} {r : List (Option PV)} {q : Nat} (hd : decode (mB M) pc = .ok (.iinc 3 d, 3)) (hq : pc + 3 = q) (hp : jprev 3 (a0 :: a1 :: a2 :: some (.inl x) :: r) = true) (hn : 3 < mL M) (kk : J G sh M mc ms F q (a0 :: a1 :: a2 :: some (.inl (x + d)) :: r) (S) m k n) : J G sh M mc ms F pc (a0 :: a1 :: a2 :: some (.inl x) :: r) (S) m k n := by
  intro p e s mm args below meth c R C H locs ls hP hS hL
  subst hq
  obtain ⟨k0, hk0⟩ := List.getElem?_of_mem ((jl_mem (G := G) (a0 :: a1 :: a2 :: some (.inl x) :: r) 0 (3, jv G (.inl x))).mpr ⟨3, .inl x, rfl, rfl⟩)
  exact lv_iinc (i := 3) C.x C.b hd hL hk0 (Int32.ofInt_add x d).symm hn rfl (fun ls1 h1 => kk p e s mm args below meth c R C H locs ls1 hP hS (jl_store (i := 3) (v := .inl (x + d)) hp h1))
theorem j_iload4 {x : Int} {a0 : Option PV} {a1 : Option PV} {a2 : Option PV} {a3 : Option PV} {r : List (Option PV)} {q : Nat} (hd : decode (mB M) pc = .ok (.iload 4, 2)) (hq : pc + 2 = q) (kk : J G sh M mc ms F q (a0 :: a1 :: a2 :: a3 :: some (.inl x) :: r) (.inl x :: S) m k n) : J G sh M mc ms F pc (a0 :: a1 :: a2 :: a3 :: some (.inl x) :: r) (S) m k n := by
  intro p e s mm args below meth c R C H locs ls hP hS hL
  subst hq
  exact lv_iload C.x C.b hd (jl_get hL (k := 4) rfl) (kk p e s mm args below meth c R C H locs ls hP hS hL)
theorem j_lload4 {x : Int64} {a0 : Option PV} {a1 : Option PV} {a2 : Option PV} {a3 : Option PV} {r : List (Option PV)} {q : Nat} (hd : decode (mB M) pc = .ok (.lload 4, 2)) (hq : pc + 2 = q) (kk : J G sh M mc ms F q (a0 :: a1 :: a2 :: a3 :: some (.inr (.long x)) :: r) (.inr (.long x) :: S) m k n) : J G sh M mc ms F pc (a0 :: a1 :: a2 :: a3 :: some (.inr (.long x)) :: r) (S) m k n := by
  intro p e s mm args below meth c R C H locs ls hP hS hL
  subst hq
  exact lv_lload C.x C.b hd (jl_get hL (k := 4) rfl) (kk p e s mm args below meth c R C H locs ls hP hS hL)
theorem j_aload4 {x : Nat} {a0 : Option PV} {a1 : Option PV} {a2 : Option PV} {a3 : Option PV} {r : List (Option PV)} {q : Nat} (hd : decode (mB M) pc = .ok (.aload 4, 2)) (hq : pc + 2 = q) (kk : J G sh M mc ms F q (a0 :: a1 :: a2 :: a3 :: some (.inr (.ref x)) :: r) (.inr (.ref x) :: S) m k n) : J G sh M mc ms F pc (a0 :: a1 :: a2 :: a3 :: some (.inr (.ref x)) :: r) (S) m k n := by
  intro p e s mm args below meth c R C H locs ls hP hS hL
  subst hq
  exact lv_aload C.x C.b hd (jl_get hL (k := 4) rfl) (kk p e s mm args below meth c R C H locs ls hP hS hL)
theorem j_oload4 {x : Nat} {a0 : Option PV} {a1 : Option PV} {a2 : Option PV} {a3 : Option PV} {r : List (Option PV)} {q : Nat} (hd : decode (mB M) pc = .ok (.aload 4, 2)) (hq : pc + 2 = q) (kk : J G sh M mc ms F q (a0 :: a1 :: a2 :: a3 :: some (.inr (.retAddr x)) :: r) (.inr (.retAddr x) :: S) m k n) : J G sh M mc ms F pc (a0 :: a1 :: a2 :: a3 :: some (.inr (.retAddr x)) :: r) (S) m k n := by
  intro p e s mm args below meth c R C H locs ls hP hS hL
  subst hq
  exact lv_aload C.x C.b hd (jl_get hL (k := 4) rfl) (kk p e s mm args below meth c R C H locs ls hP hS hL)
theorem j_dload4 {x : UInt64} {a0 : Option PV} {a1 : Option PV} {a2 : Option PV} {a3 : Option PV} {r : List (Option PV)} {q : Nat} (hd : decode (mB M) pc = .ok (.dload 4, 2)) (hq : pc + 2 = q) (kk : J G sh M mc ms F q (a0 :: a1 :: a2 :: a3 :: some (.inr (.double x)) :: r) (.inr (.double x) :: S) m k n) : J G sh M mc ms F pc (a0 :: a1 :: a2 :: a3 :: some (.inr (.double x)) :: r) (S) m k n := by
  intro p e s mm args below meth c R C H locs ls hP hS hL
  subst hq
  exact lv_dload C.x C.b hd (jl_get hL (k := 4) rfl) (kk p e s mm args below meth c R C H locs ls hP hS hL)
theorem j_istore4 {x : Int} {a0 : Option PV} {a1 : Option PV} {a2 : Option PV} {a3 : Option PV} {r : List (Option PV)} {b0 : Option PV} {q : Nat} (hd : decode (mB M) pc = .ok (.istore 4, 2)) (hq : pc + 2 = q) (hp : jprev 4 (a0 :: a1 :: a2 :: a3 :: b0 :: r) = true) (hn : 4 < mL M) (kk : J G sh M mc ms F q (a0 :: a1 :: a2 :: a3 :: some (.inl x) :: r) (S) m k n) : J G sh M mc ms F pc (a0 :: a1 :: a2 :: a3 :: b0 :: r) (.inl x :: S) m k n := by
  intro p e s mm args below meth c R C H locs ls hP hS hL
  subst hq
  exact lv_istore (i := 4) C.x C.b hd hL hn rfl (fun ls1 h1 => kk p e s mm args below meth c R C H locs ls1 hP hS (jl_store (i := 4) (v := .inl x) hp h1))
theorem j_astore4 {x : Nat} {a0 : Option PV} {a1 : Option PV} {a2 : Option PV} {a3 : Option PV} {r : List (Option PV)} {b0 : Option PV} {q : Nat} (hd : decode (mB M) pc = .ok (.astore 4, 2)) (hq : pc + 2 = q) (hp : jprev 4 (a0 :: a1 :: a2 :: a3 :: b0 :: r) = true) (hn : 4 < mL M) (kk : J G sh M mc ms F q (a0 :: a1 :: a2 :: a3 :: some (.inr (.ref x)) :: r) (S) m k n) : J G sh M mc ms F pc (a0 :: a1 :: a2 :: a3 :: b0 :: r) (.inr (.ref x) :: S) m k n := by
  intro p e s mm args below meth c R C H locs ls hP hS hL
  subst hq
  exact lv_astore (i := 4) C.x C.b hd hL hn rfl (fun ls1 h1 => kk p e s mm args below meth c R C H locs ls1 hP hS (jl_store (i := 4) (v := .inr (.ref x)) hp h1))
theorem j_lstore4 {x : Int64} {a0 : Option PV} {a1 : Option PV} {a2 : Option PV} {a3 : Option PV} {r : List (Option PV)} {b0 : Option PV} {b1 : Option PV} {q : Nat} (hd : decode (mB M) pc = .ok (.lstore 4, 2)) (hq : pc + 2 = q) (hp : jprev 4 (a0 :: a1 :: a2 :: a3 :: b0 :: b1 :: r) = true) (hn : 4 + 1 < mL M) (kk : J G sh M mc ms F q (a0 :: a1 :: a2 :: a3 :: some (.inr (.long x)) :: none :: r) (S) m k n) : J G sh M mc ms F pc (a0 :: a1 :: a2 :: a3 :: b0 :: b1 :: r) (.inr (.long x) :: S) m k n := by
  intro p e s mm args below meth c R C H locs ls hP hS hL
  subst hq
  exact lv_lstore (i := 4) C.x C.b hd hL hn rfl (fun ls1 h1 => kk p e s mm args below meth c R C H locs ls1 hP hS (jl_store2 (i := 4) (v := .inr (.long x)) hp h1))
theorem j_dstore4 {x : UInt64} {a0 : Option PV} {a1 : Option PV} {a2 : Option PV} {a3 : Option PV} {r : List (Option PV)} {b0 : Option PV} {b1 : Option PV} {q : Nat} (hd : decode (mB M) pc = .ok (.dstore 4, 2)) (hq : pc + 2 = q) (hp : jprev 4 (a0 :: a1 :: a2 :: a3 :: b0 :: b1 :: r) = true) (hn : 4 + 1 < mL M) (kk : J G sh M mc ms F q (a0 :: a1 :: a2 :: a3 :: some (.inr (.double x)) :: none :: r) (S) m k n) : J G sh M mc ms F pc (a0 :: a1 :: a2 :: a3 :: b0 :: b1 :: r) (.inr (.double x) :: S) m k n := by
  intro p e s mm args below meth c R C H locs ls hP hS hL
  subst hq
  exact lv_dstore (i := 4) C.x C.b hd hL hn rfl (fun ls1 h1 => kk p e s mm args below meth c R C H locs ls1 hP hS (jl_store2 (i := 4) (v := .inr (.double x)) hp h1))
theorem j_iinc4 {x d : Int} {a0 : Option PV} {a1 : Option PV} {a2 : Option PV} {a3 : Option PV} {r : List (Option PV)} {q : Nat} (hd : decode (mB M) pc = .ok (.iinc 4 d, 3)) (hq : pc + 3 = q) (hp : jprev 4 (a0 :: a1 :: a2 :: a3 :: some (.inl x) :: r) = true) (hn : 4 < mL M) (kk : J G sh M mc ms F q (a0 :: a1 :: a2 :: a3 :: some (.inl (x + d)) :: r) (S) m k n) : J G sh M mc ms F pc (a0 :: a1 :: a2 :: a3 :: some (.inl x) :: r) (S) m k n := by
  intro p e s mm args below meth c R C H locs ls hP hS hL
  subst hq
  obtain ⟨k0, hk0⟩ := List.getElem?_of_mem ((jl_mem (G := G) (a0 :: a1 :: a2 :: a3 :: some (.inl x) :: r) 0 (4, jv G (.inl x))).mpr ⟨4, .inl x, rfl, rfl⟩)
  exact lv_iinc (i := 4) C.x C.b hd hL hk0 (Int32.ofInt_add x d).symm hn rfl (fun ls1 h1 => kk p e s mm args below meth c R C H locs ls1 hP hS (jl_store (i := 4) (v := .inl (x + d)) hp h1))
theorem j_iload5 {x : Int} {a0 : Option PV} {a1 : Option PV} {a2 : Option PV} {a3 : Option PV} {a4 : Option PV} {r : List (Option PV)} {q : Nat} (hd : decode (mB M) pc = .ok (.iload 5, 2)) (hq : pc + 2 = q) (kk : J G sh M mc ms F q (a0 :: a1 :: a2 :: a3 :: a4 :: some (.inl x) :: r) (.inl x :: S) m k n) : J G sh M mc ms F pc (a0 :: a1 :: a2 :: a3 :: a4 :: some (.inl x) :: r) (S) m k n := by
  intro p e s mm args below meth c R C H locs ls hP hS hL
  subst hq
  exact lv_iload C.x C.b hd (jl_get hL (k := 5) rfl) (kk p e s mm args below meth c R C H locs ls hP hS hL)
theorem j_lload5 {x : Int64} {a0 : Option PV} {a1 : Option PV} {a2 : Option PV} {a3 : Option PV} {a4 : Option PV} {r : List (Option PV)} {q : Nat} (hd : decode (mB M) pc = .ok (.lload 5, 2)) (hq : pc + 2 = q) (kk : J G sh M mc ms F q (a0 :: a1 :: a2 :: a3 :: a4 :: some (.inr (.long x)) :: r) (.inr (.long x) :: S) m k n) : J G sh M mc ms F pc (a0 :: a1 :: a2 :: a3 :: a4 :: some (.inr (.long x)) :: r) (S) m k n := by
  intro p e s mm args below meth c R C H locs ls hP hS hL
  subst hq
  exact lv_lload C.x C.b hd (jl_get hL (k := 5) rfl) (kk p e s mm args below meth c R C H locs ls hP hS hL)
theorem j_aload5 {x : Nat} {a0 : Option PV} {a1 : Option PV} {a2 : Option PV} {a3 : Option PV} {a4 : Option PV} {r : List (Option PV)} {q : Nat} (hd : decode (mB M) pc = .ok (.aload 5, 2)) (hq : pc + 2 = q) (kk : J G sh M mc ms F q (a0 :: a1 :: a2 :: a3 :: a4 :: some (.inr (.ref x)) :: r) (.inr (.ref x) :: S) m k n) : J G sh M mc ms F pc (a0 :: a1 :: a2 :: a3 :: a4 :: some (.inr (.ref x)) :: r) (S) m k n := by
  intro p e s mm args below meth c R C H locs ls hP hS hL
  subst hq
  exact lv_aload C.x C.b hd (jl_get hL (k := 5) rfl) (kk p e s mm args below meth c R C H locs ls hP hS hL)
theorem j_oload5 {x : Nat} {a0 : Option PV} {a1 : Option PV} {a2 : Option PV} {a3 : Option PV} {a4 : Option PV} {r : List (Option PV)} {q : Nat} (hd : decode (mB M) pc = .ok (.aload 5, 2)) (hq : pc + 2 = q) (kk : J G sh M mc ms F q (a0 :: a1 :: a2 :: a3 :: a4 :: some (.inr (.retAddr x)) :: r) (.inr (.retAddr x) :: S) m k n) : J G sh M mc ms F pc (a0 :: a1 :: a2 :: a3 :: a4 :: some (.inr (.retAddr x)) :: r) (S) m k n := by
  intro p e s mm args below meth c R C H locs ls hP hS hL
  subst hq
  exact lv_aload C.x C.b hd (jl_get hL (k := 5) rfl) (kk p e s mm args below meth c R C H locs ls hP hS hL)
theorem j_dload5 {x : UInt64} {a0 : Option PV} {a1 : Option PV} {a2 : Option PV} {a3 : Option PV} {a4 : Option PV} {r : List (Option PV)} {q : Nat} (hd : decode (mB M) pc = .ok (.dload 5, 2)) (hq : pc + 2 = q) (kk : J G sh M mc ms F q (a0 :: a1 :: a2 :: a3 :: a4 :: some (.inr (.double x)) :: r) (.inr (.double x) :: S) m k n) : J G sh M mc ms F pc (a0 :: a1 :: a2 :: a3 :: a4 :: some (.inr (.double x)) :: r) (S) m k n := by
  intro p e s mm args below meth c R C H locs ls hP hS hL
  subst hq
  exact lv_dload C.x C.b hd (jl_get hL (k := 5) rfl) (kk p e s mm args below meth c R C H locs ls hP hS hL)
theorem j_istore5 {x : Int} {a0 : Option PV} {a1 : Option PV} {a2 : Option PV} {a3 : Option PV} {a4 : Option PV} {r : List (Option PV)} {b0 : Option PV} {q : Nat} (hd : decode (mB M) pc = .ok (.istore 5, 2)) (hq : pc + 2 = q) (hp : jprev 5 (a0 :: a1 :: a2 :: a3 :: a4 :: b0 :: r) = true) (hn : 5 < mL M) (kk : J G sh M mc ms F q (a0 :: a1 :: a2 :: a3 :: a4 :: some (.inl x) :: r) (S) m k n) : J G sh M mc ms F pc (a0 :: a1 :: a2 :: a3 :: a4 :: b0 :: r) (.inl x :: S) m k n := by
  intro p e s mm args below meth c R C H locs ls hP hS hL
  subst hq
  exact lv_istore (i := 5) C.x C.b hd hL hn rfl (fun ls1 h1 => kk p e s mm args below meth c R C H locs ls1 hP hS (jl_store (i := 5) (v := .inl x) hp h1))
theorem j_astore5 {x : Nat} {a0 : Option PV} {a1 : Option PV} {a2 : Option PV} {a3 : Option PV} {a4 : Option PV} {r : List (Option PV)} {b0 : Option PV} {q : Nat} (hd : decode (mB M) pc = .ok (.astore 5, 2)) (hq : pc + 2 = q) (hp : jprev 5 (a0 :: a1 :: a2 :: a3 :: a4 :: b0 :: r) = true) (hn : 5 < mL M) (kk : J G sh M mc ms F q (a0 :: a1 :: a2 :: a3 :: a4 :: some (.inr (.ref x)) :: r) (S) m k n) : J G sh M mc ms F pc (a0 :: a1 :: a2 :: a3 :: a4 :: b0 :: r) (.inr (.ref x) :: S) m k n := by
  intro p e s mm args below meth c R C H locs ls hP hS hL
  subst hq
  exact lv_astore (i := 5) C.x C.b hd hL hn rfl (fun ls1 h1 => kk p e s mm args below meth c R C H locs ls1 hP hS (jl_store (i := 5) (v := .inr (.ref x)) hp h1))
theorem j_lstore5 {x : Int64} {a0 : Option PV} {a1 : Option PV} {a2 : Option PV} {a3 : Option PV} {a4 : Option PV} {r : List (Option PV)} {b0 : Option PV} {b1 : Option PV} {q : Nat} (hd : decode (mB M) pc = .ok (.lstore 5, 2)) (hq : pc + 2 = q) (hp : jprev 5 (a0 :: a1 :: a2 :: a3 :: a4 :: b0 :: b1 :: r) = true) (hn : 5 + 1 < mL M) (kk : J G sh M mc ms F q (a0 :: a1 :: a2 :: a3 :: a4 :: some (.inr (.long x)) :: none :: r) (S) m k n) : J G sh M mc ms F pc (a0 :: a1 :: a2 :: a3 :: a4 :: b0 :: b1 :: r) (.inr (.long x) :: S) m k n := by
  intro p e s mm args below meth c R C H locs ls hP hS hL
  subst hq
  exact lv_lstore (i := 5) C.x C.b hd hL hn rfl (fun ls1 h1 => kk p e s mm args below meth c R C H locs ls1 hP hS (jl_store2 (i := 5) (v := .inr (.long x)) hp h1))
theorem j_dstore5 {x : UInt64} {a0 : Option PV} {a1 : Option PV} {a2 : Option PV} {a3 : Option PV} {a4 : Option PV} {r : List (Option PV)} {b0 : Option PV} {b1 : Option PV} {q : Nat} (hd : decode (mB M) pc = .ok (.dstore 5, 2)) (hq : pc + 2 = q) (hp : jprev 5 (a0 :: a1 :: a2 :: a3 :: a4 :: b0 :: b1 :: r) = true) (hn : 5 + 1 < mL M) (kk : J G sh M mc ms F q (a0 :: a1 :: a2 :: a3 :: a4 :: some (.inr (.double x)) :: none :: r) (S) m k n) : J G sh M mc ms F pc (a0 :: a1 :: a2 :: a3 :: a4 :: b0 :: b1 :: r) (.inr (.double x) :: S) m k n := by
  intro p e s mm args below meth c R C H locs ls hP hS hL
  subst hq
  exact lv_dstore (i := 5) C.x C.b hd hL hn rfl (fun ls1 h1 => kk p e s mm args below meth c R C H locs ls1 hP hS (jl_store2 (i := 5) (v := .inr (.double x)) hp h1))
theorem j_iinc5 {x d : Int} {a0 : Option PV} {a1 : Option PV} {a2 : Option PV} {a3 : Option PV} {a4 : Option PV} {r : List (Option PV)} {q : Nat} (hd : decode (mB M) pc = .ok (.iinc 5 d, 3)) (hq : pc + 3 = q) (hp : jprev 5 (a0 :: a1 :: a2 :: a3 :: a4 :: some (.inl x) :: r) = true) (hn : 5 < mL M) (kk : J G sh M mc ms F q (a0 :: a1 :: a2 :: a3 :: a4 :: some (.inl (x + d)) :: r) (S) m k n) : J G sh M mc ms F pc (a0 :: a1 :: a2 :: a3 :: a4 :: some (.inl x) :: r) (S) m k n := by
  intro p e s mm args below meth c R C H locs ls hP hS hL
  subst hq
  obtain ⟨k0, hk0⟩ := List.getElem?_of_mem ((jl_mem (G := G) (a0 :: a1 :: a2 :: a3 :: a4 :: some (.inl x) :: r) 0 (5, jv G (.inl x))).mpr ⟨5, .inl x, rfl, rfl⟩)
  exact lv_iinc (i := 5) C.x C.b hd hL hk0 (Int32.ofInt_add x d).symm hn rfl (fun ls1 h1 => kk p e s mm args below meth c R C H locs ls1 hP hS (jl_store (i := 5) (v := .inl (x + d)) hp h1))
theorem j_iload6 {x : Int} {a0 : Option PV} {a1 : Option PV} {a2 : Option PV} {a3 : Option PV} {a4 : Option PV} {a5 : Option PV} {r : List (Option PV)} {q : Nat} (hd : decode (mB M) pc = .ok (.iload 6, 2)) (hq : pc + 2 = q) (kk : J G sh M mc ms F q (a0 :: a1 :: a2 :: a3 :: a4 :: a5 :: some (.inl x) :: r) (.inl x :: S) m k n) : J G sh M mc ms F pc (a0 :: a1 :: a2 :: a3 :: a4 :: a5 :: some (.inl x) :: r) (S) m k n := by
  intro p e s mm args below meth c R C H locs ls hP hS hL
  subst hq
  exact lv_iload C.x C.b hd (jl_get hL (k := 6) rfl) (kk p e s mm args below meth c R C H locs ls hP hS hL)
theorem j_lload6 {x : Int64} {a0 : Option PV} {a1 : Option PV} {a2 : Option PV} {a3 : Option PV} {a4 : Option PV} {a5 : Option PV} {r : List (Option PV)} {q : Nat} (hd : decode (mB M) pc = .ok (.lload 6, 2)) (hq : pc + 2 = q) (kk : J G sh M mc ms F q (a0 :: a1 :: a2 :: a3 :: a4 :: a5 :: some (.inr (.long x)) :: r) (.inr (.long x) :: S) m k n) : J G sh M mc ms F pc (a0 :: a1 :: a2 :: a3 :: a4 :: a5 :: some (.inr (.long x)) :: r) (S) m k n := by
  intro p e s mm args below meth c R C H locs ls hP hS hL
  subst hq
  exact lv_lload C.x C.b hd (jl_get hL (k := 6) rfl) (kk p e s mm args below meth c R C H locs ls hP hS hL)
theorem j_aload6 {x : Nat} {a0 : Option PV} {a1 : Option PV} {a2 : Option PV} {a3 : Option PV} {a4 : Option PV} {a5 : Option PV} {r : List (Option PV)} {q : Nat} (hd : decode (mB M) pc = .ok (.aload 6, 2)) (hq : pc + 2 = q) (kk : J G sh M mc ms F q (a0 :: a1 :: a2 :: a3 :: a4 :: a5 :: some (.inr (.ref x)) :: r) (.inr (.ref x) :: S) m k n) : J G sh M mc ms F pc (a0 :: a1 :: a2 :: a3 :: a4 :: a5 :: some (.inr (.ref x)) :: r) (S) m k n := by
  intro p e s mm args below meth c R C H locs ls hP hS hL
  subst hq
  exact lv_aload C.x C.b hd (jl_get hL (k := 6) rfl) (kk p e s mm args below meth c R C H locs ls hP hS hL)
theorem j_oload6 {x : Nat} {a0 : Option PV} {a1 : Option PV} {a2 : Option PV} {a3 : Option PV} {a4 : Option PV} {a5 : Option PV} {r : List (Option PV)} {q : Nat} (hd : decode (mB M) pc = .ok (.aload 6, 2)) (hq : pc + 2 = q) (kk : J G sh M mc ms F q (a0 :: a1 :: a2 :: a3 :: a4 :: a5 :: some (.inr (.retAddr x)) :: r) (.inr (.retAddr x) :: S) m k n) : J G sh M mc ms F pc (a0 :: a1 :: a2 :: a3 :: a4 :: a5 :: some (.inr (.retAddr x)) :: r) (S) m k n := by
  intro p e s mm args below meth c R C H locs ls hP hS hL
  subst hq
  exact lv_aload C.x C.b hd (jl_get hL (k := 6) rfl) (kk p e s mm args below meth c R C H locs ls hP hS hL)
theorem j_dload6 {x : UInt64} {a0 : Option PV} {a1 : Option PV} {a2 : Option PV} {a3 : Option PV} {a4 : Option PV} {a5 : Option PV} {r : List (Option PV)} {q : Nat} (hd : decode (mB M) pc = .ok (.dload 6, 2)) (hq : pc + 2 = q) (kk : J G sh M mc ms F q (a0 :: a1 :: a2 :: a3 :: a4 :: a5 :: some (.inr (.double x)) :: r) (.inr (.double x) :: S) m k n) : J G sh M mc ms F pc (a0 :: a1 :: a2 :: a3 :: a4 :: a5 :: some (.inr (.double x)) :: r) (S) m k n := by
  intro p e s mm args below meth c R C H locs ls hP hS hL
  subst hq
  exact lv_dload C.x C.b hd (jl_get hL (k := 6) rfl) (kk p e s mm args below meth c R C H locs ls hP hS hL)
theorem j_istore6 {x : Int} {a0 : Option PV} {a1 : Option PV} {a2 : Option PV} {a3 : Option PV} {a4 : Option PV} {a5 : Option PV} {r : List (Option PV)} {b0 : Option PV} {q : Nat} (hd : decode (mB M) pc = .ok (.istore 6, 2)) (hq : pc + 2 = q) (hp : jprev 6 (a0 :: a1 :: a2 :: a3 :: a4 :: a5 :: b0 :: r) = true) (hn : 6 < mL M) (kk : J G sh M mc ms F q (a0 :: a1 :: a2 :: a3 :: a4 :: a5 :: some (.inl x) :: r) (S) m k n) : J G sh M mc ms F pc (a0 :: a1 :: a2 :: a3 :: a4 :: a5 :: b0 :: r) (.inl x :: S) m k n := by
  intro p e s mm args below meth c R C H locs ls hP hS hL
  subst hq
  exact lv_istore (i := 6) C.x C.b hd hL hn rfl (fun ls1 h1 => kk p e s mm args below meth c R C H locs ls1 hP hS (jl_store (i := 6) (v := .inl x) hp h1))
theorem j_astore6 {x : Nat} {a0 : Option PV} {a1 : Option PV} {a2 : Option PV} {a3 : Option PV} {a4 : Option PV} {a5 : Option PV} {r : List (Option PV)} {b0 : Option PV} {q : Nat} (hd : decode (mB M) pc = .ok (.astore 6, 2)) (hq : pc + 2 = q) (hp : jprev 6 (a0 :: a1 :: a2 :: a3 :: a4 :: a5 :: b0 :: r) = true) (hn : 6 < mL M) (kk : J G sh M mc ms F q (a0 :: a1 :: a2 :: a3 :: a4 :: a5 :: some (.inr (.ref x)) :: r) (S) m k n) : J G sh M mc ms F pc (a0 :: a1 :: a2 :: a3 :: a4 :: a5 :: b0 :: r) (.inr (.ref x) :: S) m k n := by
  intro p e s mm args below meth c R C H locs ls hP hS hL
  subst hq
  exact lv_astore (i := 6) C.x C.b hd hL hn rfl (fun ls1 h1 => kk p e s mm args below meth c R C H locs ls1 hP hS (jl_store (i := 6) (v := .inr (.ref x)) hp h1))
theorem j_lstore6 {x : Int64} {a0 : Option PV} {a1 : Option PV} {a2 : Option PV} {a3 : Option PV} {a4 : Option PV} {a5 : Option PV} {r : List (Option PV)} {b0 : Option PV} {b1 : Option PV} {q : Nat} (hd : decode (mB M) pc = .ok (.lstore 6, 2)) (hq : pc + 2 = q) (hp : jprev 6 (a0 :: a1 :: a2 :: a3 :: a4 :: a5 :: b0 :: b1 :: r) = true) (hn : 6 + 1 < mL M) (kk : J G sh M mc ms F q (a0 :: a1 :: a2 :: a3 :: a4 :: a5 :: some (.inr (.long x)) :: none :: r) (S) m k n) : J G sh M mc ms F pc (a0 :: a1 :: a2 :: a3 :: a4 :: a5 :: b0 :: b1 :: r) (.inr (.long x) :: S) m k n := by
  intro p e s mm args below meth c R C H locs ls hP hS hL
  subst hq
  exact lv_lstore (i := 6) C.x C.b hd hL hn rfl (fun ls1 h1 => kk p e s mm args below meth c R C H locs ls1 hP hS (jl_store2 (i := 6) (v := .inr (.long x)) hp h1))
theorem j_dstore6 {x : UInt64} {a0 : Option PV} {a1 : Option PV} {a2 : Option PV} {a3 : Option PV} {a4 : Option PV} {a5 : Option PV} {r : List (Option PV)} {b0 : Option PV} {b1 : Option PV} {q : Nat} (hd : decode (mB M) pc = .ok (.dstore 6, 2)) (hq : pc + 2 = q) (hp : jprev 6 (a0 :: a1 :: a2 :: a3 :: a4 :: a5 :: b0 :: b1 :: r) = true) (hn : 6 + 1 < mL M) (kk : J G sh M mc ms F q (a0 :: a1 :: a2 :: a3 :: a4 :: a5 :: some (.inr (.double x)) :: none :: r) (S) m k n) : J G sh M mc ms F pc (a0 :: a1 :: a2 :: a3 :: a4 :: a5 :: b0 :: b1 :: r) (.inr (.double x) :: S) m k n := by
  intro p e s mm args below meth c R C H locs ls hP hS hL
  subst hq
  exact lv_dstore (i := 6) C.x C.b hd hL hn rfl (fun ls1 h1 => kk p e s mm args below meth c R C H locs ls1 hP hS (jl_store2 (i := 6) (v := .inr (.double x)) hp h1))
theorem j_iinc6 {x d : Int} {a0 : Option PV} {a1 : Option PV} {a2 : Option PV} {a3 : Option PV} {a4 : Option PV} {a5 : Option PV} {r : List (Option PV)} {q : Nat} (hd : decode (mB M) pc = .ok (.iinc 6 d, 3)) (hq : pc + 3 = q) (hp : jprev 6 (a0 :: a1 :: a2 :: a3 :: a4 :: a5 :: some (.inl x) :: r) = true) (hn : 6 < mL M) (kk : J G sh M mc ms F q (a0 :: a1 :: a2 :: a3 :: a4 :: a5 :: some (.inl (x + d)) :: r) (S) m k n) : J G sh M mc ms F pc (a0 :: a1 :: a2 :: a3 :: a4 :: a5 :: some (.inl x) :: r) (S) m k n := by
  intro p e s mm args below meth c R C H locs ls hP hS hL
  subst hq
  obtain ⟨k0, hk0⟩ := List.getElem?_of_mem ((jl_mem (G := G) (a0 :: a1 :: a2 :: a3 :: a4 :: a5 :: some (.inl x) :: r) 0 (6, jv G (.inl x))).mpr ⟨6, .inl x, rfl, rfl⟩)
  exact lv_iinc (i := 6) C.x C.b hd hL hk0 (Int32.ofInt_add x d).symm hn rfl (fun ls1 h1 => kk p e s mm args below meth c R C H locs ls1 hP hS (jl_store (i := 6) (v := .inl (x + d)) hp h1))
theorem j_iload7 {x : Int} {a0 : Option PV} {a1 : Option PV} {a2 : Option PV} {a3 : Option PV} {a4 : Option PV} {a5 : Option PV} {a6 : Option PV} {r : List (Option PV)} {q : Nat} (hd : decode (mB M) pc = .ok (.iload 7, 2)) (hq : pc + 2 = q) (kk : J G sh M mc ms F q (a0 :: a1 :: a2 :: a3 :: a4 :: a5 :: a6 :: some (.inl x) :: r) (.inl x :: S) m k n) : J G sh M mc ms F pc (a0 :: a1 :: a2 :: a3 :: a4 :: a5 :: a6 :: some (.inl x) :: r) (S) m k n := by
  intro p e s mm args below meth c R C H locs ls hP hS hL
  subst hq
  exact lv_iload C.x C.b hd (jl_get hL (k := 7) rfl) (kk p e s mm args below meth c R C H locs ls hP hS hL)
theorem j_lload7 {x : Int64} {a0 : Option PV} {a1 : Option PV} {a2 : Option PV} {a3 : Option PV} {a4 : Option PV} {a5 : Option PV} {a6 : Option PV} {r : List (Option PV)} {q : Nat} (hd : decode (mB M) pc = .ok (.lload 7, 2)) (hq : pc + 2 = q) (kk : J G sh M mc ms F q (a0 :: a1 :: a2 :: a3 :: a4 :: a5 :: a6 :: some (.inr (.long x)) :: r) (.inr (.long x) :: S) m k n) : J G sh M mc ms F pc (a0 :: a1 :: a2 :: a3 :: a4 :: a5 :: a6 :: some (.inr (.long x)) :: r) (S) m k n := by
  intro p e s mm args below meth c R C H locs ls hP hS hL
  subst hq
  exact lv_lload C.x C.b hd (jl_get hL (k := 7) rfl) (kk p e s mm args below meth c R C H locs ls hP hS hL)
theorem j_aload7 {x : Nat} {a0 : Option PV} {a1 : Option PV} {a2 : Option PV} {a3 : Option PV} {a4 : Option PV} {a5 : Option PV} {a6 : Option PV} {r : List (Option PV)} {q : Nat} (hd : decode (mB M) pc = .ok (.aload 7, 2)) (hq : pc + 2 = q) (kk : J G sh M mc ms F q (a0 :: a1 :: a2 :: a3 :: a4 :: a5 :: a6 :: some (.inr (.ref x)) :: r) (.inr (.ref x) :: S) m k n) : J G sh M mc ms F pc (a0 :: a1 :: a2 :: a3 :: a4 :: a5 :: a6 :: some (.inr (.ref x)) :: r) (S) m k n := by
  intro p e s mm args below meth c R C H locs ls hP hS hL
  subst hq
  exact lv_aload C.x C.b hd (jl_get hL (k := 7) rfl) (kk p e s mm args below meth c R C H locs ls hP hS hL)
theorem j_oload7 {x : Nat} {a0 : Option PV} {a1 : Option PV} {a2 : Option PV} {a3 : Option PV} {a4 : Option PV} {a5 : Option PV} {a6 : Option PV} {r : List (Option PV)} {q : Nat} (hd : decode (mB M) pc = .ok (.aload 7, 2)) (hq : pc + 2 = q) (kk : J G sh M mc ms F q (a0 :: a1 :: a2 :: a3 :: a4 :: a5 :: a6 :: some (.inr (.retAddr x)) :: r) (.inr (.retAddr x) :: S) m k n) : J G sh M mc ms F pc (a0 :: a1 :: a2 :: a3 :: a4 :: a5 :: a6 :: some (.inr (.retAddr x)) :: r) (S) m k n := by
  intro p e s mm args below meth c R C H locs ls hP hS hL
  subst hq
  exact lv_aload C.x C.b hd (jl_get hL (k := 7) rfl) (kk p e s mm args below meth c R C H locs ls hP hS hL)
theorem j_dload7 {x : UInt64} {a0 : Option PV} {a1 : Option PV} {a2 : Option PV} {a3 : Option PV} {a4 : Option PV} {a5 : Option PV} {a6 : Option PV} {r : List (Option PV)} {q : Nat} (hd : decode (mB M) pc = .ok (.dload 7, 2)) (hq : pc + 2 = q) (kk : J G sh M mc ms F q (a0 :: a1 :: a2 :: a3 :: a4 :: a5 :: a6 :: some (.inr (.double x)) :: r) (.inr (.double x) :: S) m k n) : J G sh M mc ms F pc (a0 :: a1 :: a2 :: a3 :: a4 :: a5 :: a6 :: some (.inr (.double x)) :: r) (S) m k n := by
  intro p e s mm args below meth c R C H locs ls hP hS hL
  subst hq
  exact lv_dload C.x C.b hd (jl_get hL (k := 7) rfl) (kk p e s mm args below meth c R C H locs ls hP hS hL)
theorem j_istore7 {x : Int} {a0 : Option PV} {a1 : Option PV} {a2 : Option PV} {a3 : Option PV} {a4 : Option PV} {a5 : Option PV} {a6 : Option PV} {r : List (Option PV)} {b0 : Option PV} {q : Nat} (hd : decode (mB M) pc = .ok (.istore 7, 2)) (hq : pc + 2 = q) (hp : jprev 7 (a0 :: a1 :: a2 :: a3 :: a4 :: a5 :: a6 :: b0 :: r) = true) (hn : 7 < mL M) (kk : J G sh M mc ms F q (a0 :: a1 :: a2 :: a3 :: a4 :: a5 :: a6 :: some (.inl x) :: r) (S) m k n) : J G sh M mc ms F pc (a0 :: a1 :: a2 :: a3 :: a4 :: a5 :: a6 :: b0 :: r) (.inl x :: S) m k n := by
  intro p e s mm args below meth c R C H locs ls hP hS hL
  subst hq
  exact lv_istore (i := 7) C.x C.b hd hL hn rfl (fun ls1 h1 => kk p e s mm args below meth c R C H locs ls1 hP hS (jl_store (i := 7) (v := .inl x) hp h1))
theorem j_astore7 {x : Nat} {a0 : Option PV} {a1 : Option PV} {a2 : Option PV} {a3 : Option PV} {a4 : Option PV} {a5 : Option PV} {a6 : Option PV} {r : List (Option PV)} {b0 : Option PV} {q : Nat} (hd : decode (mB M) pc = .ok (.astore 7, 2)) (hq : pc + 2 = q) (hp : jprev 7 (a0 :: a1 :: a2 :: a3 :: a4 :: a5 :: a6 :: b0 :: r) = true) (hn : 7 < mL M) (kk : J G sh M mc ms F q (a0 :: a1 :: a2 :: a3 :: a4 :: a5 :: a6 :: some (.inr (.ref x)) :: r) (S) m k n) : J G sh M mc ms F pc (a0 :: a1 :: a2 :: a3 :: a4 :: a5 :: a6 :: b0 :: r) (.inr (.ref x) :: S) m k n := by
  intro p e s mm args below meth c R C H locs ls hP hS hL
  subst hq
  exact lv_astore (i := 7) C.x C.b hd hL hn rfl (fun ls1 h1 => kk p e s mm args below meth c R C H locs ls1 hP hS (jl_store (i := 7) (v := .inr (.ref x)) hp h1))
theorem j_lstore7 {x : Int64} {a0 : Option PV} {a1 : Option PV} {a2 : Option PV} {a3 : Option PV} {a4 : Option PV} {a5 : Option PV} {a6 : Option PV} {r : List (Option PV)} {b0 : Option PV} {b1 : Option PV} {q : Nat} (hd : decode (mB M) pc = .ok (.lstore 7, 2)) (hq : pc + 2 = q) (hp : jprev 7 (a0 :: a1 :: a2 :: a3 :: a4 :: a5 :: a6 :: b0 :: b1 :: r) = true) (hn : 7 + 1 < mL M) (kk : J G sh M mc ms F q (a0 :: a1 :: a2 :: a3 :: a4 :: a5 :: a6 :: some (.inr (.long x)) :: none :: r) (S) m k n) : J G sh M mc ms F pc (a0 :: a1 :: a2 :: a3 :: a4 :: a5 :: a6 :: b0 :: b1 :: r) (.inr (.long x) :: S) m k n := by
  intro p e s mm args below meth c R C H locs ls hP hS hL
  subst hq
  exact lv_lstore (i := 7) C.x C.b hd hL hn rfl (fun ls1 h1 => kk p e s mm args below meth c R C H locs ls1 hP hS (jl_store2 (i := 7) (v := .inr (.long x)) hp h1))
theorem j_dstore7 {x : UInt64} {a0 : Option PV} {a1 : Option PV} {a2 : Option PV} {a3 : Option PV} {a4 : Option PV} {a5 : Option PV} {a6 : Option PV} {r : List (Option PV)} {b0 : Option PV} {b1 : Option PV} {q : Nat} (hd : decode (mB M) pc = .ok (.dstore 7, 2)) (hq : pc + 2 = q) (hp : jprev 7 (a0 :: a1 :: a2 :: a3 :: a4 :: a5 :: a6 :: b0 :: b1 :: r) = true) (hn : 7 + 1 < mL M) (kk : J G sh M mc ms F q (a0 :: a1 :: a2 :: a3 :: a4 :: a5 :: a6 :: some (.inr (.double x)) :: none :: r) (S) m k n) : J G sh M mc ms F pc (a0 :: a1 :: a2 :: a3 :: a4 :: a5 :: a6 :: b0 :: b1 :: r) (.inr (.double x) :: S) m k n := by
  intro p e s mm args below meth c R C H locs ls hP hS hL
  subst hq
  exact lv_dstore (i := 7) C.x C.b hd hL hn rfl (fun ls1 h1 => kk p e s mm args below meth c R C H locs ls1 hP hS (jl_store2 (i := 7) (v := .inr (.double x)) hp h1))
theorem j_iinc7 {x d : Int} {a0 : Option PV} {a1 : Option PV} {a2 : Option PV} {a3 : Option PV} {a4 : Option PV} {a5 : Option PV} {a6 : Option PV} {r : List (Option PV)} {q : Nat} (hd : decode (mB M) pc = .ok (.iinc 7 d, 3)) (hq : pc + 3 = q) (hp : jprev 7 (a0 :: a1 :: a2 :: a3 :: a4 :: a5 :: a6 :: some (.inl x) :: r) = true) (hn : 7 < mL M) (kk : J G sh M mc ms F q (a0 :: a1 :: a2 :: a3 :: a4 :: a5 :: a6 :: some (.inl (x + d)) :: r) (S) m k n) : J G sh M mc ms F pc (a0 :: a1 :: a2 :: a3 :: a4 :: a5 :: a6 :: some (.inl x) :: r) (S) m k n := by
  intro p e s mm args below meth c R C H locs ls hP hS hL
  subst hq
  obtain ⟨k0, hk0⟩ := List.getElem?_of_mem ((jl_mem (G := G) (a0 :: a1 :: a2 :: a3 :: a4 :: a5 :: a6 :: some (.inl x) :: r) 0 (7, jv G (.inl x))).mpr ⟨7, .inl x, rfl, rfl⟩)
  exact lv_iinc (i := 7) C.x C.b hd hL hk0 (Int32.ofInt_add x d).symm hn rfl (fun ls1 h1 => kk p e s mm args below meth c R C H locs ls1 hP hS (jl_store (i := 7) (v := .inl (x + d)) hp h1))
theorem j_iload8 {x : Int} {a0 : Option PV} {a1 : Option PV} {a2 : Option PV} {a3 : Option PV} {a4 : Option PV} {a5 : Option PV} {a6 : Option PV} {a7 : Option PV} {r : List (Option PV)} {q : Nat} (hd : decode (mB M) pc = .ok (.iload 8, 2)) (hq : pc + 2 = q) (kk : J G sh M mc ms F q (a0 :: a1 :: a2 :: a3 :: a4 :: a5 :: a6 :: a7 :: some (.inl x) :: r) (.inl x :: S) m k n) : J G sh M mc ms F pc (a0 :: a1 :: a2 :: a3 :: a4 :: a5 :: a6 :: a7 :: some (.inl x) :: r) (S) m k n := by
  intro p e s mm args below meth c R C H locs ls hP hS hL
  subst hq
  exact lv_iload C.x C.b hd (jl_get hL (k := 8) rfl) (kk p e s mm args below meth c R C H locs ls hP hS hL)
theorem j_lload8 {x : Int64} {a0 : Option PV} {a1 : Option PV} {a2 : Option PV} {a3 : Option PV} {a4 : Option PV} {a5 : Option PV} {a6 : Option PV} {a7 : Option PV} {r : List (Option PV)} {q : Nat} (hd : decode (mB M) pc = .ok (.lload 8, 2)) (hq : pc + 2 = q) (kk : J G sh M mc ms F q (a0 :: a1 :: a2 :: a3 :: a4 :: a5 :: a6 :: a7 :: some (.inr (.long x)) :: r) (.inr (.long x) :: S) m k n) : J G sh M mc ms F pc (a0 :: a1 :: a2 :: a3 :: a4 :: a5 :: a6 :: a7 :: some (.inr (.long x)) :: r) (S) m k n := by
  intro p e s mm args below meth c R C H locs ls hP hS hL
  subst hq
  exact lv_lload C.x C.b hd (jl_get hL (k := 8) rfl) (kk p e s mm args below meth c R C H locs ls hP hS hL)
theorem j_aload8 {x : Nat} {a0 : Option PV} {a1 : Option PV} {a2 : Option PV} {a3 : Option PV} {a4 : Option PV} {a5 : Option PV} {a6 : Option PV} {a7 : Option PV} {r : List (Option PV)} {q : Nat} (hd : decode (mB M) pc = .ok (.aload 8, 2)) (hq : pc + 2 = q) (kk : J G sh M mc ms F q (a0 :: a1 :: a2 :: a3 :: a4 :: a5 :: a6 :: a7 :: some (.inr (.ref x)) :: r) (.inr (.ref x) :: S) m k n) : J G sh M mc ms F pc (a0 :: a1 :: a2 :: a3 :: a4 :: a5 :: a6 :: a7 :: some (.inr (.ref x)) :: r) (S) m k n := by
  intro p e s mm args below meth c R C H locs ls hP hS hL
  subst hq
  exact lv_aload C.x C.b hd (jl_get hL (k := 8) rfl) (kk p e s mm args below meth c R C H locs ls hP hS hL)
theorem j_oload8 {x : Nat} {a0 : Option PV} {a1 : Option PV} {a2 : Option PV} {a3 : Option PV} {a4 : Option PV} {a5 : Option PV} {a6 : Option PV} {a7 : Option PV} {r : List (Option PV)} {q : Nat} (hd : decode (mB M) pc = .ok (.aload 8, 2)) (hq : pc + 2 = q) (kk : J G sh M mc ms F q (a0 :: a1 :: a2 :: a3 :: a4 :: a5 :: a6 :: a7 :: some (.inr (.retAddr x)) :: r) (.inr (.retAddr x) :: S) m k n) : J G sh M mc ms F pc (a0 :: a1 :: a2 :: a3 :: a4 :: a5 :: a6 :: a7 :: some (.inr (.retAddr x)) :: r) (S) m k n := by
  intro p e s mm args below meth c R C H locs ls hP hS hL
  subst hq
  exact lv_aload C.x C.b hd (jl_get hL (k := 8) rfl) (kk p e s mm args below meth c R C H locs ls hP hS hL)
theorem j_dload8 {x : UInt64} {a0 : Option PV} {a1 : Option PV} {a2 : Option PV} {a3 : Option PV} {a4 : Option PV} {a5 : Option PV} {a6 : Option PV} {a7 : Option PV} {r : List (Option PV)} {q : Nat} (hd : decode (mB M) pc = .ok (.dload 8, 2)) (hq : pc + 2 = q) (kk : J G sh M mc ms F q (a0 :: a1 :: a2 :: a3 :: a4 :: a5 :: a6 :: a7 :: some (.inr (.double x)) :: r) (.inr (.double x) :: S) m k n) : J G sh M mc ms F pc (a0 :: a1 :: a2 :: a3 :: a4 :: a5 :: a6 :: a7 :: some (.inr (.double x)) :: r) (S) m k n := by
  intro p e s mm args below meth c R C H locs ls hP hS hL
  subst hq
  exact lv_dload C.x C.b hd (jl_get hL (k := 8) rfl) (kk p e s mm args below meth c R C H locs ls hP hS hL)
theorem j_istore8 {x : Int} {a0 : Option PV} {a1 : Option PV} {a2 : Option PV} {a3 : Option PV} {a4 : Option PV} {a5 : Option PV} {a6 : Option PV} {a7 : Option PV} {r : List (Option PV)} {b0 : Option PV} {q : Nat} (hd : decode (mB M) pc = .ok (.istore 8, 2)) (hq : pc + 2 = q) (hp : jprev 8 (a0 :: a1 :: a2 :: a3 :: a4 :: a5 :: a6 :: a7 :: b0 :: r) = true) (hn : 8 < mL M) (kk : J G sh M mc ms F q (a0 :: a1 :: a2 :: a3 :: a4 :: a5 :: a6 :: a7 :: some (.inl x) :: r) (S) m k n) : J G sh M mc ms F pc (a0 :: a1 :: a2 :: a3 :: a4 :: a5 :: a6 :: a7 :: b0 :: r) (.inl x :: S) m k n := by
  intro p e s mm args below meth c R C H locs ls hP hS hL
  subst hq
  exact lv_istore (i := 8) C.x C.b hd hL hn rfl (fun ls1 h1 => kk p e s mm args below meth c R C H locs ls1 hP hS (jl_store (i := 8) (v := .inl x) hp h1))
theorem j_astore8 {x : Nat} {a0 : Option PV} {a1 : Option PV} {a2 : Option PV} {a3 : Option PV} {a4 : Option PV} {a5 : Option PV} {a6 : Option PV} {a7 : Option PV} {r : List (Option PV)} {b0 : Option PV} {q : Nat} (hd : decode (mB M) pc = .ok (.astore 8, 2)) (hq : pc + 2 = q) (hp : jprev 8 (a0 :: a1 :: a2 :: a3 :: a4 :: a5 :: a6 :: a7 :: b0 :: r) = true) (hn : 8 < mL M) (kk : J G sh M mc ms F q (a0 :: a1 :: a2 :: a3 :: a4 :: a5 :: a6 :: a7 :: some (.inr (.ref x)) :: r) (S) m k n) : J G sh M mc ms F pc (a0 :: a1 :: a2 :: a3 :: a4 :: a5 :: a6 :: a7 :: b0 :: r) (.inr (.ref x) :: S) m k n := by
  intro p e s mm args below meth c R C H locs ls hP hS hL
  subst hq
  exact lv_astore (i := 8) C.x C.b hd hL hn rfl (fun ls1 h1 => kk p e s mm args below meth c R C H locs ls1 hP hS (jl_store (i := 8) (v := .inr (.ref x)) hp h1))
theorem j_lstore8 {x : Int64} {a0 : Option PV} {a1 : Option PV} {a2 : Option PV} {a3 : Option PV} {a4 : Option PV} {a5 : Option PV} {a6 : Option PV} {a7 : Option PV} {r : List (Option PV)} {b0 : Option PV} {b1 : Option PV} {q : Nat} (hd : decode (mB M) pc = .ok (.lstore 8, 2)) (hq : pc + 2 = q) (hp : jprev 8 (a0 :: a1 :: a2 :: a3 :: a4 :: a5 :: a6 :: a7 :: b0 :: b1 :: r) = true) (hn : 8 + 1 < mL M) (kk : J G sh M mc ms F q (a0 :: a1 :: a2 :: a3 :: a4 :: a5 :: a6 :: a7 :: some (.inr (.long x)) :: none :: r) (S) m k n) : J G sh M mc ms F pc (a0 :: a1 :: a2 :: a3 :: a4 :: a5 :: a6 :: a7 :: b0 :: b1 :: r) (.inr (.long x) :: S) m k n := by
  intro p e s mm args below meth c R C H locs ls hP hS hL
  subst hq
  exact lv_lstore (i := 8) C.x C.b hd hL hn rfl (fun ls1 h1 => kk p e s mm args below meth c R C H locs ls1 hP hS (jl_store2 (i := 8) (v := .inr (.long x)) hp h1))
theorem j_dstore8 {x : UInt64} {a0 : Option PV} {a1 : Option PV} {a2 : Option PV} {a3 : Option PV} {a4 : Option PV} {a5 : Option PV} {a6 : Option PV} {a7 : Option PV} {r : List (Option PV)} {b0 : Option PV} {b1 : Option PV} {q : Nat} (hd : decode (mB M) pc = .ok (.dstore 8, 2)) (hq : pc + 2 = q) (hp : jprev 8 (a0 :: a1 :: a2 :: a3 :: a4 :: a5 :: a6 :: a7 :: b0 :: b1 :: r) = true) (hn : 8 + 1 < mL M) (kk : J G sh M mc ms F q (a0 :: a1 :: a2 :: a3 :: a4 :: a5 :: a6 :: a7 :: some (.inr (.double x)) :: none :: r) (S) m k n) : J G sh M mc ms F pc (a0 :: a1 :: a2 :: a3 :: a4 :: a5 :: a6 :: a7 :: b0 :: b1 :: r) (.inr (.double x) :: S) m k n := by
  intro p e s mm args below meth c R C H locs ls hP hS hL
  subst hq
  exact lv_dstore (i := 8) C.x C.b hd hL hn rfl (fun ls1 h1 => kk p e s mm args below meth c R C H locs ls1 hP hS (jl_store2 (i := 8) (v := .inr (.double x)) hp h1))
theorem j_iinc8 {x d : Int} {a0 : Option PV} {a1 : Option PV} {a2 : Option PV} {a3 : Option PV} {a4 : Option PV} {a5 : Option PV} {a6 : Option PV} {a7 : Option PV} {r : List (Option PV)} {q : Nat} (hd : decode (mB M) pc = .ok (.iinc 8 d, 3)) (hq : pc + 3 = q) (hp : jprev 8 (a0 :: a1 :: a2 :: a3 :: a4 :: a5 :: a6 :: a7 :: some (.inl x) :: r) = true) (hn : 8 < mL M) (kk : J G sh M mc ms F q (a0 :: a1 :: a2 :: a3 :: a4 :: a5 :: a6 :: a7 :: some (.inl (x + d)) :: r) (S) m k n) : J G sh M mc ms F pc (a0 :: a1 :: a2 :: a3 :: a4 :: a5 :: a6 :: a7 :: some (.inl x) :: r) (S) m k n := by
  intro p e s mm args below meth c R C H locs ls hP hS hL
  subst hq
  obtain ⟨k0, hk0⟩ := List.getElem?_of_mem ((jl_mem (G := G) (a0 :: a1 :: a2 :: a3 :: a4 :: a5 :: a6 :: a7 :: some (.inl x) :: r) 0 (8, jv G (.inl x))).mpr ⟨8, .inl x, rfl, rfl⟩)
  exact lv_iinc (i := 8) C.x C.b hd hL hk0 (Int32.ofInt_add x d).symm hn rfl (fun ls1 h1 => kk p e s mm args below meth c R C H locs ls1 hP hS (jl_store (i := 8) (v := .inl (x + d)) hp h1))
theorem j_iload9 {x : Int} {a0 : Option PV} {a1 : Option PV} {a2 : Option PV} {a3 : Option PV} {a4 : Option PV} {a5 : Option PV} {a6 : Option PV} {a7 : Option PV} {a8 : Option PV} {r : List (Option PV)} {q : Nat} (hd : decode (mB M) pc = .ok (.iload 9, 2)) (hq : pc + 2 = q) (kk : J G sh M mc ms F q (a0 :: a1 :: a2 :: a3 :: a4 :: a5 :: a6 :: a7 :: a8 :: some (.inl x) :: r) (.inl x :: S) m k n) : J G sh M mc ms F pc (a0 :: a1 :: a2 :: a3 :: a4 :: a5 :: a6 :: a7 :: a8 :: some (.inl x) :: r) (S) m k n := by
  intro p e s mm args below meth c R C H locs ls hP hS hL
  subst hq
  exact lv_iload C.x C.b hd (jl_get hL (k := 9) rfl) (kk p e s mm args below meth c R C H locs ls hP hS hL)
theorem j_lload9 {x : Int64} {a0 : Option PV} {a1 : Option PV} {a2 : Option PV} {a3 : Option PV} {a4 : Option PV} {a5 : Option PV} {a6 : Option PV} {a7 : Option PV} {a8 : Option PV} {r : List (Option PV)} {q : Nat} (hd : decode (mB M) pc = .ok (.lload 9, 2)) (hq : pc + 2 = q) (kk : J G sh M mc ms F q (a0 :: a1 :: a2 :: a3 :: a4 :: a5 :: a6 :: a7 :: a8 :: some (.inr (.long x)) :: r) (.inr (.long x) :: S) m k n) : J G sh M mc ms F pc (a0 :: a1 :: a2 :: a3 :: a4 :: a5 :: a6 :: a7 :: a8 :: some (.inr (.long x)) :: r) (S) m k n := by
  intro p e s mm args below meth c R C H locs ls hP hS hL
  subst hq
  exact lv_lload C.x C.b hd (jl_get hL (k := 9) rfl) (kk p e s mm args below meth c R C H locs ls hP hS hL)
theorem j_aload9 {x : Nat} {a0 : Option PV} {a1 : Option PV} {a2 : Option PV} {a3 : Option PV} {a4 : Option PV} {a5 : Option PV} {a6 : Option PV} {a7 : Option PV} {a8 : Option PV} {r : List (Option PV)} {q : Nat} (hd : decode (mB M) pc = .ok (.aload 9, 2)) (hq : pc + 2 = q) (kk : J G sh M mc ms F q (a0 :: a1 :: a2 :: a3 :: a4 :: a5 :: a6 :: a7 :: a8 :: some (.inr (.ref x)) :: r) (.inr (.ref x) :: S) m k n) : J G sh M mc ms F pc (a0 :: a1 :: a2 :: a3 :: a4 :: a5 :: a6 :: a7 :: a8 :: some (.inr (.ref x)) :: r) (S) m k n := by
  intro p e s mm args below meth c R C H locs ls hP hS hL
  subst hq
  exact lv_aload C.x C.b hd (jl_get hL (k := 9) rfl) (kk p e s mm args below meth c R C H locs ls hP hS hL)
theorem j_oload9 {x : Nat} {a0 : Option PV} {a1 : Option PV} {a2 : Option PV} {a3 : Option PV} {a4 : Option PV} {a5 : Option PV} {a6 : Option PV} {a7 : Option PV} {a8 : Option PV} {r : List (Option PV)} {q : Nat} (hd : decode (mB M) pc = .ok (.aload 9, 2)) (hq : pc + 2 = q) (kk : J G sh M mc ms F q (a0 :: a1 :: a2 :: a3 :: a4 :: a5 :: a6 :: a7 :: a8 :: some (.inr (.retAddr x)) :: r) (.inr (.retAddr x) :: S) m k n) : J G sh M mc ms F pc (a0 :: a1 :: a2 :: a3 :: a4 :: a5 :: a6 :: a7 :: a8 :: some (.inr (.retAddr x)) :: r) (S) m k n := by
  intro p e s mm args below meth c R C H locs ls hP hS hL
  subst hq
  exact lv_aload C.x C.b hd (jl_get hL (k := 9) rfl) (kk p e s mm args below meth c R C H locs ls hP hS hL)
theorem j_dload9 {x : UInt64} {a0 : Option PV} {a1 : Option PV} {a2 : Option PV} {a3 : Option PV} {a4 : Option PV} {a5 : Option PV} {a6 : Option PV} {a7 : Option PV} {a8 : Option PV} {r : List (Option PV)} {q : Nat} (hd : decode (mB M) pc = .ok (.dload 9, 2)) (hq : pc + 2 = q) (kk : J G sh M mc ms F q (a0 :: a1 :: a2 :: a3 :: a4 :: a5 :: a6 :: a7 :: a8 :: some (.inr (.double x)) :: r) (.inr (.double x) :: S) m k n) : J G sh M mc ms F pc (a0 :: a1 :: a2 :: a3 :: a4 :: a5 :: a6 :: a7 :: a8 :: some (.inr (.double x)) :: r) (S) m k n := by
  intro p e s mm args below meth c R C H locs ls hP hS hL
  subst hq
  exact lv_dload C.x C.b hd (jl_get hL (k := 9) rfl) (kk p e s mm args below meth c R C H locs ls hP hS hL)
theorem j_istore9 {x : Int} {a0 : Option PV} {a1 : Option PV} {a2 : Option PV} {a3 : Option PV} {a4 : Option PV} {a5 : Option PV} {a6 : Option PV} {a7 : Option PV} {a8 : Option PV} {r : List (Option PV)} {b0 : Option PV} {q : Nat} (hd : decode (mB M) pc = .ok (.istore 9, 2)) (hq : pc + 2 = q) (hp : jprev 9 (a0 :: a1 :: a2 :: a3 :: a4 :: a5 :: a6 :: a7 :: a8 :: b0 :: r) = true) (hn : 9 < mL M) (kk : J G sh M mc ms F q (a0 :: a1 :: a2 :: a3 :: a4 :: a5 :: a6 :: a7 :: a8 :: some (.inl x) :: r) (S) m k n) : J G sh M mc ms F pc (a0 :: a1 :: a2 :: a3 :: a4 :: a5 :: a6 :: a7 :: a8 :: b0 :: r) (.inl x :: S) m k n := by
  intro p e s mm args below meth c R C H locs ls hP hS hL
  subst hq
  exact lv_istore (i := 9) C.x C.b hd hL hn rfl (fun ls1 h1 => kk p e s mm args below meth c R C H locs ls1 hP hS (jl_store (i := 9) (v := .inl x) hp h1))
theorem j_astore9 {x : Nat} {a0 : Option PV} {a1 : Option PV} {a2 : Option PV} {a3 : Option PV} {a4 : Option PV} {a5 : Option PV} {a6 : Option PV} {a7 : Option PV} {a8 : Option PV} {r : List (Option PV)} {b0 : Option PV} {q : Nat} (hd : decode (mB M) pc = .ok (.astore 9, 2)) (hq : pc + 2 = q) (hp : jprev 9 (a0 :: a1 :: a2 :: a3 :: a4 :: a5 :: a6 :: a7 :: a8 :: b0 :: r) = true) (hn : 9 < mL M) (kk : J G sh M mc ms F q (a0 :: a1 :: a2 :: a3 :: a4 :: a5 :: a6 :: a7 :: a8 :: some (.inr (.ref x)) :: r) (S) m k n) : J G sh M mc ms F pc (a0 :: a1 :: a2 :: a3 :: a4 :: a5 :: a6 :: a7 :: a8 :: b0 :: r) (.inr (.ref x) :: S) m k n := by
  intro p e s mm args below meth c R C H locs ls hP hS hL
  subst hq
  exact lv_astore (i := 9) C.x C.b hd hL hn rfl (fun ls1 h1 => kk p e s mm args below meth c R C H locs ls1 hP hS (jl_store (i := 9) (v := .inr (.ref x)) hp h1))
theorem j_lstore9 {x : Int64} {a0 : Option PV} {a1 : Option PV} {a2 : Option PV} {a3 : Option PV} {a4 : Option PV} {a5 : Option PV} {a6 : Option PV} {a7 : Option PV} {a8 : Option PV} {r : List (Option PV)} {b0 : Option PV} {b1 : Option PV} {q : Nat} (hd : decode (mB M) pc = .ok (.lstore 9, 2)) (hq : pc + 2 = q) (hp : jprev 9 (a0 :: a1 :: a2 :: a3 :: a4 :: a5 :: a6 :: a7 :: a8 :: b0 :: b1 :: r) = true) (hn : 9 + 1 < mL M) (kk : J G sh M mc ms F q (a0 :: a1 :: a2 :: a3 :: a4 :: a5 :: a6 :: a7 :: a8 :: some (.inr (.long x)) :: none :: r) (S) m k n) : J G sh M mc ms F pc (a0 :: a1 :: a2 :: a3 :: a4 :: a5 :: a6 :: a7 :: a8 :: b0 :: b1 :: r) (.inr (.long x) :: S) m k n := by
  intro p e s mm args below meth c R C H locs ls hP hS hL
  subst hq
  exact lv_lstore (i := 9) C.x C.b hd hL hn rfl (fun ls1 h1 => kk p e s mm args below meth c R C H locs ls1 hP hS (jl_store2 (i := 9) (v := .inr (.long x)) hp h1))
theorem j_dstore9 {x : UInt64} {a0 : Option PV} {a1 : Option PV} {a2 : Option PV} {a3 : Option PV} {a4 : Option PV} {a5 : Option PV} {a6 : Option PV} {a7 : Option PV} {a8 : Option PV} {r : List (Option PV)} {b0 : Option PV} {b1 : Option PV} {q : Nat} (hd : decode (mB M) pc = .ok (.dstore 9, 2)) (hq : pc + 2 = q) (hp : jprev 9 (a0 :: a1 :: a2 :: a3 :: a4 :: a5 :: a6 :: a7 :: a8 :: b0 :: b1 :: r) = true) (hn : 9 + 1 < mL M) (kk : J G sh M mc ms F q (a0 :: a1 :: a2 :: a3 :: a4 :: a5 :: a6 :: a7 :: a8 :: some (.inr (.double x)) :: none :: r) (S) m k n) : J G sh M mc ms F pc (a0 :: a1 :: a2 :: a3 :: a4 :: a5 :: a6 :: a7 :: a8 :: b0 :: b1 :: r) (.inr (.double x) :: S) m k n := by
  intro p e s mm args below meth c R C H locs ls hP hS hL
  subst hq
  exact lv_dstore (i := 9) C.x C.b hd hL hn rfl (fun ls1 h1 => kk p e s mm args below meth c R C H locs ls1 hP hS (jl_store2 (i := 9) (v := .inr (.double x)) hp h1))
theorem j_iinc9 {x d : Int} {a0 : Option PV} {a1 : Option PV} {a2 : Option PV} {a3 : Option PV} {a4 : Option PV} {a5 : Option PV} {a6 : Option PV} {a7 : Option PV} {a8 : Option PV} {r : List (Option PV)} {q : Nat} (hd : decode (mB M) pc = .ok (.iinc 9 d, 3)) (hq : pc + 3 = q) (hp : jprev 9 (a0 :: a1 :: a2 :: a3 :: a4 :: a5 :: a6 :: a7 :: a8 :: some (.inl x) :: r) = true) (hn : 9 < mL M) (kk : J G sh M mc ms F q (a0 :: a1 :: a2 :: a3 :: a4 :: a5 :: a6 :: a7 :: a8 :: some (.inl (x + d)) :: r) (S) m k n) : J G sh M mc ms F pc (a0 :: a1 :: a2 :: a3 :: a4 :: a5 :: a6 :: a7 :: a8 :: some (.inl x) :: r) (S) m k n := by
  intro p e s mm args below meth c R C H locs ls hP hS hL
  subst hq
  obtain ⟨k0, hk0⟩ := List.getElem?_of_mem ((jl_mem (G := G) (a0 :: a1 :: a2 :: a3 :: a4 :: a5 :: a6 :: a7 :: a8 :: some (.inl x) :: r) 0 (9, jv G (.inl x))).mpr ⟨9, .inl x, rfl, rfl⟩)
  exact lv_iinc (i := 9) C.x C.b hd hL hk0 (Int32.ofInt_add x d).symm hn rfl (fun ls1 h1 => kk p e s mm args below meth c R C H locs ls1 hP hS (jl_store (i := 9) (v := .inl (x + d)) hp h1))
theorem j_iload10 {x : Int} {a0 : Option PV} {a1 : Option PV} {a2 : Option PV} {a3 : Option PV} {a4 : Option PV} {a5 : Option PV} {a6 : Option PV} {a7 : Option PV} {a8 : Option PV} {a9 : Option PV} {r : List (Option PV)} {q : Nat} (hd : decode (mB M) pc = .ok (.iload 10, 2)) (hq : pc + 2 = q) (kk : J G sh M mc ms F q (a0 :: a1 :: a2 :: a3 :: a4 :: a5 :: a6 :: a7 :: a8 :: a9 :: some (.inl x) :: r) (.inl x :: S) m k n) : J G sh M mc ms F pc (a0 :: a1 :: a2 :: a3 :: a4 :: a5 :: a6 :: a7 :: a8 :: a9 :: some (.inl x) :: r) (S) m k n := by
  intro p e s mm args below meth c R C H locs ls hP hS hL
  subst hq
  exact lv_iload C.x C.b hd (jl_get hL (k := 10) rfl) (kk p e s mm args below meth c R C H locs ls hP hS hL)
theorem j_lload10 {x : Int64} {a0 : Option PV} {a1 : Option PV} {a2 : Option PV} {a3 : Option PV} {a4 : Option PV} {a5 : Option PV} {a6 : Option PV} {a7 : Option PV} {a8 : Option PV} {a9 : Option PV} {r : List (Option PV)} {q : Nat} (hd : decode (mB M) pc = .ok (.lload 10, 2)) (hq : pc + 2 = q) (kk : J G sh M mc ms F q (a0 :: a1 :: a2 :: a3 :: a4 :: a5 :: a6 :: a7 :: a8 :: a9 :: some (.inr (.long x)) :: r) (.inr (.long x) :: S) m k n) : J G sh M mc ms F pc (a0 :: a1 :: a2 :: a3 :: a4 :: a5 :: a6 :: a7 :: a8 :: a9 :: some (.inr (.long x)) :: r) (S) m k n := by
  intro p e s mm args below meth c R C H locs ls hP hS hL
  subst hq
  exact lv_lload C.x C.b hd (jl_get hL (k := 10) rfl) (kk p e s mm args below meth c R C H locs ls hP hS hL)
theorem j_aload10 {x : Nat} {a0 : Option PV} {a1 : Option PV} {a2 : Option PV} {a3 : Option PV} {a4 : Option PV} {a5 : Option PV} {a6 : Option PV} {a7 : Option PV} {a8 : Option PV} {a9 : Option PV} {r : List (Option PV)} {q : Nat} (hd : decode (mB M) pc = .ok (.aload 10, 2)) (hq : pc + 2 = q) (kk : J G sh M mc ms F q (a0 :: a1 :: a2 :: a3 :: a4 :: a5 :: a6 :: a7 :: a8 :: a9 :: some (.inr (.ref x)) :: r) (.inr (.ref x) :: S) m k n) : J G sh M mc ms F pc (a0 :: a1 :: a2 :: a3 :: a4 :: a5 :: a6 :: a7 :: a8 :: a9 :: some (.inr (.ref x)) :: r) (S) m k n := by
  intro p e s mm args below meth c R C H locs ls hP hS hL
  subst hq
  exact lv_aload C.x C.b hd (jl_get hL (k := 10) rfl) (kk p e s mm args below meth c R C H locs ls hP hS hL)
theorem j_oload10 {x : Nat} {a0 : Option PV} {a1 : Option PV} {a2 : Option PV} {a3 : Option PV} {a4 : Option PV} {a5 : Option PV} {a6 : Option PV} {a7 : Option PV} {a8 : Option PV} {a9 : Option PV} {r : List (Option PV)} {q : Nat} (hd : decode (mB M) pc = .ok (.aload 10, 2)) (hq : pc + 2 = q) (kk : J G sh M mc ms F q (a0 :: a1 :: a2 :: a3 :: a4 :: a5 :: a6 :: a7 :: a8 :: a9 :: some (.inr (.retAddr x)) :: r) (.inr (.retAddr x) :: S) m k n) : J G sh M mc ms F pc (a0 :: a1 :: a2 :: a3 :: a4 :: a5 :: a6 :: a7 :: a8 :: a9 :: some (.inr (.retAddr x)) :: r) (S) m k n := by
  intro p e s mm args below meth c R C H locs ls hP hS hL
  subst hq
  exact lv_aload C.x C.b hd (jl_get hL (k := 10) rfl) (kk p e s mm args below meth c R C H locs ls hP hS hL)
theorem j_dload10 {x : UInt64} {a0 : Option PV} {a1 : Option PV} {a2 : Option PV} {a3 : Option PV} {a4 : Option PV} {a5 : Option PV} {a6 : Option PV} {a7 : Option PV} {a8 : Option PV} {a9 : Option PV} {r : List (Option PV)} {q : Nat} (hd : decode (mB M) pc = .ok (.dload 10, 2)) (hq : pc + 2 = q) (kk : J G sh M mc ms F q (a0 :: a1 :: a2 :: a3 :: a4 :: a5 :: a6 :: a7 :: a8 :: a9 :: some (.inr (.double x)) :: r) (.inr (.double x) :: S) m k n) : J G sh M mc ms F pc (a0 :: a1 :: a2 :: a3 :: a4 :: a5 :: a6 :: a7 :: a8 :: a9 :: some (.inr (.double x)) :: r) (S) m k n := by
  intro p e s mm args below meth c R C H locs ls hP hS hL
  subst hq
  exact lv_dload C.x C.b hd (jl_get hL (k := 10) rfl) (kk p e s mm args below meth c R C H locs ls hP hS hL)
theorem j_istore10 {x : Int} {a0 : Option PV} {a1 : Option PV} {a2 : Option PV} {a3 : Option PV} {a4 : Option PV} {a5 : Option PV} {a6 : Option PV} {a7 : Option PV} {a8 : Option PV} {a9 : Option PV} {r : List (Option PV)} {b0 : Option PV} {q : Nat} (hd : decode (mB M) pc = .ok (.istore 10, 2)) (hq : pc + 2 = q) (hp : jprev 10 (a0 :: a1 :: a2 :: a3 :: a4 :: a5 :: a6 :: a7 :: a8 :: a9 :: b0 :: r) = true) (hn : 10 < mL M) (kk : J G sh M mc ms F q (a0 :: a1 :: a2 :: a3 :: a4 :: a5 :: a6 :: a7 :: a8 :: a9 :: some (.inl x) :: r) (S) m k n) : J G sh M mc ms F pc (a0 :: a1 :: a2 :: a3 :: a4 :: a5 :: a6 :: a7 :: a8 :: a9 :: b0 :: r) (.inl x :: S) m k n := by
  intro p e s mm args below meth c R C H locs ls hP hS hL
  subst hq
  exact lv_istore (i := 10) C.x C.b hd hL hn rfl (fun ls1 h1 => kk p e s mm args below meth c R C H locs ls1 hP hS (jl_store (i := 10) (v := .inl x) hp h1))
theorem j_astore10 {x : Nat} {a0 : Option PV} {a1 : Option PV} {a2 : Option PV} {a3 : Option PV} {a4 : Option PV} {a5 : Option PV} {a6 : Option PV} {a7 : Option PV} {a8 : Option PV} {a9 : Option PV} {r : List (Option PV)} {b0 : Option PV} {q : Nat} (hd : decode (mB M) pc = .ok (.astore 10, 2)) (hq : pc + 2 = q) (hp : jprev 10 (a0 :: a1 :: a2 :: a3 :: a4 :: a5 :: a6 :: a7 :: a8 :: a9 :: b0 :: r) = true) (hn : 10 < mL M) (kk : J G sh M mc ms F q (a0 :: a1 :: a2 :: a3 :: a4 :: a5 :: a6 :: a7 :: a8 :: a9 :: some (.inr (.ref x)) :: r) (S) m k n) : J G sh M mc ms F pc (a0 :: a1 :: a2 :: a3 :: a4 :: a5 :: a6 :: a7 :: a8 :: a9 :: b0 :: r) (.inr (.ref x) :: S) m k n := by
  intro p e s mm args below meth c R C H locs ls hP hS hL
  subst hq
  exact lv_astore (i := 10) C.x C.b hd hL hn rfl (fun ls1 h1 => kk p e s mm args below meth c R C H locs ls1 hP hS (jl_store (i := 10) (v := .inr (.ref x)) hp h1))
theorem j_lstore10 {x : Int64} {a0 : Option PV} {a1 : Option PV} {a2 : Option PV} {a3 : Option PV} {a4 : Option PV} {a5 : Option PV} {a6 : Option PV} {a7 : Option PV} {a8 : Option PV} {a9 : Option PV} {r : List (Option PV)} {b0 : Option PV} {b1 : Option PV} {q : Nat} (hd : decode (mB M) pc = .ok (.lstore 10, 2)) (hq : pc + 2 = q) (hp : jprev 10 (a0 :: a1 :: a2 :: a3 :: a4 :: a5 :: a6 :: a7 :: a8 :: a9 :: b0 :: b1 :: r) = true) (hn : 10 + 1 < mL M) (kk : J G sh M mc ms F q (a0 :: a1 :: a2 :: a3 :: a4 :: a5 :: a6 :: a7 :: a8 :: a9 :: some (.inr (.long x)) :: none :: r) (S) m k n) : J G sh M mc ms F pc (a0 :: a1 :: a2 :: a3 :: a4 :: a5 :: a6 :: a7 :: a8 :: a9 :: b0 :: b1 :: r) (.inr (.long x) :: S) m k n := by
  intro p e s mm args below meth c R C H locs ls hP hS hL
  subst hq
  exact lv_lstore (i := 10) C.x C.b hd hL hn rfl (fun ls1 h1 => kk p e s mm args below meth c R C H locs ls1 hP hS (jl_store2 (i := 10) (v := .inr (.long x)) hp h1))
theorem j_dstore10 {x : UInt64} {a0 : Option PV} {a1 : Option PV} {a2 : Option PV} {a3 : Option PV} {a4 : Option PV} {a5 : Option PV} {a6 : Option PV} {a7 : Option PV} {a8 : Option PV} {a9 : Option PV} {r : List (Option PV)} {b0 : Option PV} {b1 : Option PV} {q : Nat} (hd : decode (mB M) pc = .ok (.dstore 10, 2)) (hq : pc + 2 = q) (hp : jprev 10 (a0 :: a1 :: a2 :: a3 :: a4 :: a5 :: a6 :: a7 :: a8 :: a9 :: b0 :: b1 :: r) = true) (hn : 10 + 1 < mL M) (kk : J G sh M mc ms F q (a0 :: a1 :: a2 :: a3 :: a4 :: a5 :: a6 :: a7 :: a8 :: a9 :: some (.inr (.double x)) :: none :: r) (S) m k n) : J G sh M mc ms F pc (a0 :: a1 :: a2 :: a3 :: a4 :: a5 :: a6 :: a7 :: a8 :: a9 :: b0 :: b1 :: r) (.inr (.double x) :: S) m k n := by
  intro p e s mm args below meth c R C H locs ls hP hS hL
  subst hq
  exact lv_dstore (i := 10) C.x C.b hd hL hn rfl (fun ls1 h1 => kk p e s mm args below meth c R C H locs ls1 hP hS (jl_store2 (i := 10) (v := .inr (.double x)) hp h1))
theorem j_iinc10 {x d : Int} {a0 : Option PV} {a1 : Option PV} {a2 : Option PV} {a3 : Option PV} {a4 : Option PV} {a5 : Option PV} {a6 : Option PV} {a7 : Option PV} {a8 : Option PV} {a9 : Option PV} {r : List (Option PV)} {q : Nat} (hd : decode (mB M) pc = .ok (.iinc 10 d, 3)) (hq : pc + 3 = q) (hp : jprev 10 (a0 :: a1 :: a2 :: a3 :: a4 :: a5 :: a6 :: a7 :: a8 :: a9 :: some (.inl x) :: r) = true) (hn : 10 < mL M) (kk : J G sh M mc ms F q (a0 :: a1 :: a2 :: a3 :: a4 :: a5 :: a6 :: a7 :: a8 :: a9 :: some (.inl (x + d)) :: r) (S) m k n) : J G sh M mc ms F pc (a0 :: a1 :: a2 :: a3 :: a4 :: a5 :: a6 :: a7 :: a8 :: a9 :: some (.inl x) :: r) (S) m k n := by
  intro p e s mm args below meth c R C H locs ls hP hS hL
  subst hq
  obtain ⟨k0, hk0⟩ := List.getElem?_of_mem ((jl_mem (G := G) (a0 :: a1 :: a2 :: a3 :: a4 :: a5 :: a6 :: a7 :: a8 :: a9 :: some (.inl x) :: r) 0 (10, jv G (.inl x))).mpr ⟨10, .inl x, rfl, rfl⟩)
  exact lv_iinc (i := 10) C.x C.b hd hL hk0 (Int32.ofInt_add x d).symm hn rfl (fun ls1 h1 => kk p e s mm args below meth c R C H locs ls1 hP hS (jl_store (i := 10) (v := .inl (x + d)) hp h1))
theorem j_iload11 {x : Int} {a0 : Option PV} {a1 : Option PV} {a2 : Option PV} {a3 : Option PV} {a4 : Option PV} {a5 : Option PV} {a6 : Option PV} {a7 : Option PV} {a8 : Option PV} {a9 : Option PV} {a10 : Option PV} {r : List (Option PV)} {q : Nat} (hd : decode (mB M) pc = .ok (.iload 11, 2)) (hq : pc + 2 = q) (kk : J G sh M mc ms F q (a0 :: a1 :: a2 :: a3 :: a4 :: a5 :: a6 :: a7 :: a8 :: a9 :: a10 :: some (.inl x) :: r) (.inl x :: S) m k n) : J G sh M mc ms F pc (a0 :: a1 :: a2 :: a3 :: a4 :: a5 :: a6 :: a7 :: a8 :: a9 :: a10 :: some (.inl x) :: r) (S) m k n := by
  intro p e s mm args below meth c R C H locs ls hP hS hL
  subst hq
  exact lv_iload C.x C.b hd (jl_get hL (k := 11) rfl) (kk p e s mm args below meth c R C H locs ls hP hS hL)
theorem j_lload11 {x : Int64} {a0 : Option PV} {a1 : Option PV} {a2 : Option PV} {a3 : Option PV} {a4 : Option PV} {a5 : Option PV} {a6 : Option PV} {a7 : Option PV} {a8 : Option PV} {a9 : Option PV} {a10 : Option PV} {r : List (Option PV)} {q : Nat} (hd : decode (mB M) pc = .ok (.lload 11, 2)) (hq : pc + 2 = q) (kk : J G sh M mc ms F q (a0 :: a1 :: a2 :: a3 :: a4 :: a5 :: a6 :: a7 :: a8 :: a9 :: a10 :: some (.inr (.long x)) :: r) (.inr (.long x) :: S) m k n) : J G sh M mc ms F pc (a0 :: a1 :: a2 :: a3 :: a4 :: a5 :: a6 :: a7 :: a8 :: a9 :: a10 :: some (.inr (.long x)) :: r) (S) m k n := by
  intro p e s mm args below meth c R C H locs ls hP hS hL
  subst hq
  exact lv_lload C.x C.b hd (jl_get hL (k := 11) rfl) (kk p e s mm args below meth c R C H locs ls hP hS hL)
theorem j_aload11 {x : Nat} {a0 : Option PV} {a1 : Option PV} {a2 : Option PV} {a3 : Option PV} {a4 : Option PV} {a5 : Option PV} {a6 : Option PV} {a7 : Option PV} {a8 : Option PV} {a9 : Option PV} {a10 : Option PV} {r : List (Option PV)} {q : Nat} (hd : decode (mB M) pc = .ok (.aload 11, 2)) (hq : pc + 2 = q) (kk : J G sh M mc ms F q (a0 :: a1 :: a2 :: a3 :: a4 :: a5 :: a6 :: a7 :: a8 :: a9 :: a10 :: some (.inr (.ref x)) :: r) (.inr (.ref x) :: S) m k n) : J G sh M mc ms F pc (a0 :: a1 :: a2 :: a3 :: a4 :: a5 :: a6 :: a7 :: a8 :: a9 :: a10 :: some (.inr (.ref x)) :: r) (S) m k n := by
  intro p e s mm args below meth c R C H locs ls hP hS hL
  subst hq
  exact lv_aload C.x C.b hd (jl_get hL (k := 11) rfl) (kk p e s mm args below meth c R C H locs ls hP hS hL)
theorem j_oload11 {x : Nat} {a0 : Option PV} {a1 : Option PV} {a2 : Option PV} {a3 : Option PV} {a4 : Option PV} {a5 : Option PV} {a6 : Option PV} {a7 : Option PV} {a8 : Option PV} {a9 : Option PV} {a10 : Option PV} {r : List (Option PV)} {q : Nat} (hd : decode (mB M) pc = .ok (.aload 11, 2)) (hq : pc + 2 = q) (kk : J G sh M mc ms F q (a0 :: a1 :: a2 :: a3 :: a4 :: a5 :: a6 :: a7 :: a8 :: a9 :: a10 :: some (.inr (.retAddr x)) :: r) (.inr (.retAddr x) :: S) m k n) : J G sh M mc ms F pc (a0 :: a1 :: a2 :: a3 :: a4 :: a5 :: a6 :: a7 :: a8 :: a9 :: a10 :: some (.inr (.retAddr x)) :: r) (S) m k n := by
  intro p e s mm args below meth c R C H locs ls hP hS hL
  subst hq
  exact lv_aload C.x C.b hd (jl_get hL (k := 11) rfl) (kk p e s mm args below meth c R C H locs ls hP hS hL)
theorem j_dload11 {x : UInt64} {a0 : Option PV} {a1 : Option PV} {a2 : Option PV} {a3 : Option PV} {a4 : Option PV} {a5 : Option PV} {a6 : Option PV} {a7 : Option PV} {a8 : Option PV} {a9 : Option PV} {a10 : Option PV} {r : List (Option PV)} {q : Nat} (hd : decode (mB M) pc = .ok (.dload 11, 2)) (hq : pc + 2 = q) (kk : J G sh M mc ms F q (a0 :: a1 :: a2 :: a3 :: a4 :: a5 :: a6 :: a7 :: a8 :: a9 :: a10 :: some (.inr (.double x)) :: r) (.inr (.double x) :: S) m k n) : J G sh M mc ms F pc (a0 :: a1 :: a2 :: a3 :: a4 :: a5 :: a6 :: a7 :: a8 :: a9 :: a10 :: some (.inr (.double x)) :: r) (S) m k n := by
  intro p e s mm args below meth c R C H locs ls hP hS hL
  subst hq
  exact lv_dload C.x C.b hd (jl_get hL (k := 11) rfl) (kk p e s mm args below meth c R C H locs ls hP hS hL)
theorem j_istore11 {x : Int} {a0 : Option PV} {a1 : Option PV} {a2 : Option PV} {a3 : Option PV} {a4 : Option PV} {a5 : Option PV} {a6 : Option PV} {a7 : Option PV} {a8 : Option PV} {a9 : Option PV} {a10 : Option PV} {r : List (Option PV)} {b0 : Option PV} {q : Nat} (hd : decode (mB M) pc = .ok (.istore 11, 2)) (hq : pc + 2 = q) (hp : jprev 11 (a0 :: a1 :: a2 :: a3 :: a4 :: a5 :: a6 :: a7 :: a8 :: a9 :: a10 :: b0 :: r) = true) (hn : 11 < mL M) (kk : J G sh M mc ms F q (a0 :: a1 :: a2 :: a3 :: a4 :: a5 :: a6 :: a7 :: a8 :: a9 :: a10 :: some (.inl x) :: r) (S) m k n) : J G sh M mc ms F pc (a0 :: a1 :: a2 :: a3 :: a4 :: a5 :: a6 :: a7 :: a8 :: a9 :: a10 :: b0 :: r) (.inl x :: S) m k n := by
  intro p e s mm args below meth c R C H locs ls hP hS hL
  subst hq
  exact lv_istore (i := 11) C.x C.b hd hL hn rfl (fun ls1 h1 => kk p e s mm args below meth c R C H locs ls1 hP hS (jl_store (i := 11) (v := .inl x) hp h1))
theorem j_astore11 {x : Nat} {a0 : Option PV} {a1 : Option PV} {a2 : Option PV} {a3 : Option PV} {a4 : Option PV} {a5 : Option PV} {a6 : Option PV} {a7 : Option PV} {a8 : Option PV} {a9 : Option PV} {a10 : Option PV} {r : List (Option PV)} {b0 : Option PV} {q : Nat} (hd : decode (mB M) pc = .ok (.astore 11, 2)) (hq : pc + 2 = q) (hp : jprev 11 (a0 :: a1 :: a2 :: a3 :: a4 :: a5 :: a6 :: a7 :: a8 :: a9 :: a10 :: b0 :: r) = true) (hn : 11 < mL M) (kk : J G sh M mc ms F q (a0 :: a1 :: a2 :: a3 :: a4 :: a5 :: a6 :: a7 :: a8 :: a9 :: a10 :: some (.inr (.ref x)) :: r) (S) m k n) : J G sh M mc ms F pc (a0 :: a1 :: a2 :: a3 :: a4 :: a5 :: a6 :: a7 :: a8 :: a9 :: a10 :: b0 :: r) (.inr (.ref x) :: S) m k n := by
  intro p e s mm args below meth c R C H locs ls hP hS hL
  subst hq
  exact lv_astore (i := 11) C.x C.b hd hL hn rfl (fun ls1 h1 => kk p e s mm args below meth c R C H locs ls1 hP hS (jl_store (i := 11) (v := .inr (.ref x)) hp h1))
theorem j_lstore11 {x : Int64} {a0 : Option PV} {a1 : Option PV} {a2 : Option PV} {a3 : Option PV} {a4 : Option PV} {a5 : Option PV} {a6 : Option PV} {a7 : Option PV} {a8 : Option PV} {a9 : Option PV} {a10 : Option PV} {r : List (Option PV)} {b0 : Option PV} {b1 : Option PV} {q : Nat} (hd : decode (mB M) pc = .ok (.lstore 11, 2)) (hq : pc + 2 = q) (hp : jprev 11 (a0 :: a1 :: a2 :: a3 :: a4 :: a5 :: a6 :: a7 :: a8 :: a9 :: a10 :: b0 :: b1 :: r) = true) (hn : 11 + 1 < mL M) (kk : J G sh M mc ms F q (a0 :: a1 :: a2 :: a3 :: a4 :: a5 :: a6 :: a7 :: a8 :: a9 :: a10 :: some (.inr (.long x)) :: none :: r) (S) m k n) : J G sh M mc ms F pc (a0 :: a1 :: a2 :: a3 :: a4 :: a5 :: a6 :: a7 :: a8 :: a9 :: a10 :: b0 :: b1 :: r) (.inr (.long x) :: S) m k n := by
  intro p e s mm args below meth c R C H locs ls hP hS hL
  subst hq
  exact lv_lstore (i := 11) C.x C.b hd hL hn rfl (fun ls1 h1 => kk p e s mm args below meth c R C H locs ls1 hP hS (jl_store2 (i := 11) (v := .inr (.long x)) hp h1))
theorem j_dstore11 {x : UInt64} {a0 : Option PV} {a1 : Option PV} {a2 : Option PV} {a3 : Option PV} {a4 : Option PV} {a5 : Option PV} {a6 : Option PV} {a7 : Option PV} {a8 : Option PV} {a9 : Option PV} {a10 : Option PV} {r : List (Option PV)} {b0 : Option PV} {b1 : Option PV} {q : Nat} (hd : decode (mB M) pc = .ok (.dstore 11, 2)) (hq : pc + 2 = q) (hp : jprev 11 (a0 :: a1 :: a2 :: a3 :: a4 :: a5 :: a6 :: a7 :: a8 :: a9 :: a10 :: b0 :: b1 :: r) = true) (hn : 11 + 1 < mL M) (kk : J G sh M mc ms F q (a0 :: a1 :: a2 :: a3 :: a4 :: a5 :: a6 :: a7 :: a8 :: a9 :: a10 :: some (.inr (.double x)) :: none :: r) (S) m k n) : J G sh M mc ms F pc (a0 :: a1 :: a2 :: a3 :: a4 :: a5 :: a6 :: a7 :: a8 :: a9 :: a10 :: b0 :: b1 :: r) (.inr (.double x) :: S) m k n := by
  intro p e s mm args below meth c R C H locs ls hP hS hL
  subst hq
  exact lv_dstore (i := 11) C.x C.b hd hL hn rfl (fun ls1 h1 => kk p e s mm args below meth c R C H locs ls1 hP hS (jl_store2 (i := 11) (v := .inr (.double x)) hp h1))
theorem j_iinc11 {x d : Int} {a0 : Option PV} {a1 : Option PV} {a2 : Option PV} {a3 : Option PV} {a4 : Option PV} {a5 : Option PV} {a6 : Option PV} {a7 : Option PV} {a8 : Option PV} {a9 : Option PV} {a10 : Option PV} {r : List (Option PV)} {q : Nat} (hd : decode (mB M) pc = .ok (.iinc 11 d, 3)) (hq : pc + 3 = q) (hp : jprev 11 (a0 :: a1 :: a2 :: a3 :: a4 :: a5 :: a6 :: a7 :: a8 :: a9 :: a10 :: some (.inl x) :: r) = true) (hn : 11 < mL M) (kk : J G sh M mc ms F q (a0 :: a1 :: a2 :: a3 :: a4 :: a5 :: a6 :: a7 :: a8 :: a9 :: a10 :: some (.inl (x + d)) :: r) (S) m k n) : J G sh M mc ms F pc (a0 :: a1 :: a2 :: a3 :: a4 :: a5 :: a6 :: a7 :: a8 :: a9 :: a10 :: some (.inl x) :: r) (S) m k n := by
  intro p e s mm args below meth c R C H locs ls hP hS hL
  subst hq
  obtain ⟨k0, hk0⟩ := List.getElem?_of_mem ((jl_mem (G := G) (a0 :: a1 :: a2 :: a3 :: a4 :: a5 :: a6 :: a7 :: a8 :: a9 :: a10 :: some (.inl x) :: r) 0 (11, jv G (.inl x))).mpr ⟨11, .inl x, rfl, rfl⟩)
  exact lv_iinc (i := 11) C.x C.b hd hL hk0 (Int32.ofInt_add x d).symm hn rfl (fun ls1 h1 => kk p e s mm args below meth c R C H locs ls1 hP hS (jl_store (i := 11) (v := .inl (x + d)) hp h1))
theorem j_forget {L' : List (Option PV)} (hw : ∀ (i : Nat) (v : PV), L'[i]? = some (some v) → L[i]? = some (some v)) (kk : J G sh M mc ms F pc L' (S) m k n) : J G sh M mc ms F pc L (S) m k n := by
  intro p e s mm args below meth c R C H locs ls hP hS hL
  exact kk p e s mm args below meth c R C H locs ls hP hS (jl_weak hL hw)
theorem j_iadd {x y : Int} {q : Nat} (hd : decode (mB M) pc = .ok (.iadd, 1)) (hq : pc + 1 = q)  (kk : J G sh M mc ms F q L (.inl (x + y) :: S) m k n) : J G sh M mc ms F pc L (.inl y :: .inl x :: S) m k n := by
  intro p e s mm args below meth c R C H locs ls hP hS hL
  subst hq
  have h := kk p e s mm args below meth c R C H locs ls hP hS hL
  simp only [List.map_cons, jv, jI, Int32.ofInt_add] at h
  exact lv_iadd C.x C.b hd h
theorem j_isub {x y : Int} {q : Nat} (hd : decode (mB M) pc = .ok (.isub, 1)) (hq : pc + 1 = q)  (kk : J G sh M mc ms F q L (.inl (x - y) :: S) m k n) : J G sh M mc ms F pc L (.inl y :: .inl x :: S) m k n := by
  intro p e s mm args below meth c R C H locs ls hP hS hL
  subst hq
  have h := kk p e s mm args below meth c R C H locs ls hP hS hL
  simp only [List.map_cons, jv, jI, Int32.ofInt_sub] at h
  exact lv_isub C.x C.b hd h
theorem j_imul {x y : Int} {q : Nat} (hd : decode (mB M) pc = .ok (.imul, 1)) (hq : pc + 1 = q)  (kk : J G sh M mc ms F q L (.inl (x * y) :: S) m k n) : J G sh M mc ms F pc L (.inl y :: .inl x :: S) m k n := by
  intro p e s mm args below meth c R C H locs ls hP hS hL
  subst hq
  have h := kk p e s mm args below meth c R C H locs ls hP hS hL
  simp only [List.map_cons, jv, jI, Int32.ofInt_mul] at h
  exact lv_imul C.x C.b hd h
theorem j_idiv {x y x' y' : Int} {q : Nat} (hd : decode (mB M) pc = .ok (.idiv, 1)) (hq : pc + 1 = q) (hx : wr x = x') (hy : wr y = y') (h0 : ¬ y' = 0) (h1 : ¬ y' = -1) (kk : J G sh M mc ms F q L ((.inl (x'.tdiv y') : PV) :: S) m k n) : J G sh M mc ms F pc L (.inl y :: .inl x :: S) m k n := by
  intro p e s mm args below meth c R C H locs ls hP hS hL
  subst hq
  subst hx; subst hy
  have h := kk p e s mm args below meth c R C H locs ls hP hS hL
  have e1 : jI ((wr x).tdiv (wr y)) = jI x / jI y := by
    apply Int32.toInt_inj.mp
    rw [Int32.toInt_div_of_ne_right _ _ (fun z => h1 (by unfold wr; rw [z]; rfl))]
    have e2 := Int32.toInt_div (jI x) (jI y)
    rw [Int32.toInt_div_of_ne_right _ _ (fun z => h1 (by unfold wr; rw [z]; rfl))] at e2
    show (Int32.ofInt _).toInt = _
    rw [Int32.toInt_ofInt]
    exact e2.symm
  simp only [List.map_cons, jv, e1] at h
  exact lv_idiv C.x C.b hd (fun z => h0 (by unfold wr; rw [z]; rfl)) h
theorem j_irem {x y x' y' : Int} {q : Nat} (hd : decode (mB M) pc = .ok (.irem, 1)) (hq : pc + 1 = q) (hx : wr x = x') (hy : wr y = y') (h0 : ¬ y' = 0) (h1 : ¬ y' = -1) (kk : J G sh M mc ms F q L ((.inl (x'.tmod y') : PV) :: S) m k n) : J G sh M mc ms F pc L (.inl y :: .inl x :: S) m k n := by
  intro p e s mm args below meth c R C H locs ls hP hS hL
  subst hq
  subst hx; subst hy
  have h := kk p e s mm args below meth c R C H locs ls hP hS hL
  have e1 : jI ((wr x).tdiv (wr y)) = jI x / jI y := by
    apply Int32.toInt_inj.mp
    rw [Int32.toInt_div_of_ne_right _ _ (fun z => h1 (by unfold wr; rw [z]; rfl))]
    have e2 := Int32.toInt_div (jI x) (jI y)
    rw [Int32.toInt_div_of_ne_right _ _ (fun z => h1 (by unfold wr; rw [z]; rfl))] at e2
    show (Int32.ofInt _).toInt = _
    rw [Int32.toInt_ofInt]
    exact e2.symm
  have e2 : jI ((wr x).tmod (wr y)) = jI x - jI x / jI y * jI y := by
    rw [← e1, ← jI_wr x, ← jI_wr y, Int.tmod_def]
    show Int32.ofInt _ = Int32.ofInt _ - Int32.ofInt _ * Int32.ofInt _
    rw [Int32.ofInt_sub, Int32.ofInt_mul, Int32.mul_comm]
  simp only [List.map_cons, jv, e2] at h
  exact lv_irem C.x C.b hd (fun z => h0 (by unfold wr; rw [z]; rfl)) h
def iA (x y : Int) : Int := (jI x &&& jI y).toInt
theorem j_iand {x y : Int} {q : Nat} (hd : decode (mB M) pc = .ok (.iand, 1)) (hq : pc + 1 = q)  (kk : J G sh M mc ms F q L (.inl (iA x y) :: S) m k n) : J G sh M mc ms F pc L (.inl y :: .inl x :: S) m k n := by
  intro p e s mm args below meth c R C H locs ls hP hS hL
  subst hq
  have h := kk p e s mm args below meth c R C H locs ls hP hS hL
  simp only [List.map_cons, jv, jI, iA, Int32.ofInt_toInt] at h
  exact lv_iand C.x C.b hd h
theorem j_i2l {x : Int} {q : Nat} (hd : decode (mB M) pc = .ok (.i2l, 1)) (hq : pc + 1 = q)  (kk : J G sh M mc ms F q L (.inr (.long (jI x).toInt64) :: S) m k n) : J G sh M mc ms F pc L (.inl x :: S) m k n := by
  intro p e s mm args below meth c R C H locs ls hP hS hL
  subst hq
  exact lv_i2l C.x C.b hd rfl (kk p e s mm args below meth c R C H locs ls hP hS hL)
theorem j_ladd {x y : Int64} {q : Nat} (hd : decode (mB M) pc = .ok (.ladd, 1)) (hq : pc + 1 = q)  (kk : J G sh M mc ms F q L (.inr (.long (x + y)) :: S) m k n) : J G sh M mc ms F pc L (.inr (.long y) :: .inr (.long x) :: S) m k n := by
  intro p e s mm args below meth c R C H locs ls hP hS hL
  subst hq
  exact lv_ladd C.x C.b hd (kk p e s mm args below meth c R C H locs ls hP hS hL)
theorem j_lsub {x y : Int64} {q : Nat} (hd : decode (mB M) pc = .ok (.lsub, 1)) (hq : pc + 1 = q)  (kk : J G sh M mc ms F q L (.inr (.long (x - y)) :: S) m k n) : J G sh M mc ms F pc L (.inr (.long y) :: .inr (.long x) :: S) m k n := by
  intro p e s mm args below meth c R C H locs ls hP hS hL
  subst hq
  exact lv_lsub C.x C.b hd (kk p e s mm args below meth c R C H locs ls hP hS hL)
theorem j_lmul {x y : Int64} {q : Nat} (hd : decode (mB M) pc = .ok (.lmul, 1)) (hq : pc + 1 = q)  (kk : J G sh M mc ms F q L (.inr (.long (x * y)) :: S) m k n) : J G sh M mc ms F pc L (.inr (.long y) :: .inr (.long x) :: S) m k n := by
  intro p e s mm args below meth c R C H locs ls hP hS hL
  subst hq
  exact lv_lmul C.x C.b hd (kk p e s mm args below meth c R C H locs ls hP hS hL)
theorem j_land {x y : Int64} {q : Nat} (hd : decode (mB M) pc = .ok (.land, 1)) (hq : pc + 1 = q)  (kk : J G sh M mc ms F q L (.inr (.long (x &&& y)) :: S) m k n) : J G sh M mc ms F pc L (.inr (.long y) :: .inr (.long x) :: S) m k n := by
  intro p e s mm args below meth c R C H locs ls hP hS hL
  subst hq
  exact lv_land C.x C.b hd (kk p e s mm args below meth c R C H locs ls hP hS hL)
theorem j_lor {x y : Int64} {q : Nat} (hd : decode (mB M) pc = .ok (.lor, 1)) (hq : pc + 1 = q)  (kk : J G sh M mc ms F q L (.inr (.long (x ||| y)) :: S) m k n) : J G sh M mc ms F pc L (.inr (.long y) :: .inr (.long x) :: S) m k n := by
  intro p e s mm args below meth c R C H locs ls hP hS hL
  subst hq
  exact lv_lor C.x C.b hd (kk p e s mm args below meth c R C H locs ls hP hS hL)
theorem j_lxor {x y : Int64} {q : Nat} (hd : decode (mB M) pc = .ok (.lxor, 1)) (hq : pc + 1 = q)  (kk : J G sh M mc ms F q L (.inr (.long (x ^^^ y)) :: S) m k n) : J G sh M mc ms F pc L (.inr (.long y) :: .inr (.long x) :: S) m k n := by
  intro p e s mm args below meth c R C H locs ls hP hS hL
  subst hq
  exact lv_lxor C.x C.b hd (kk p e s mm args below meth c R C H locs ls hP hS hL)
def lS (x : Int64) (y : Int) : Int64 := x <<< ((jI y).toInt64 &&& 63)
theorem j_lshl {x : Int64} {y : Int} {q : Nat} (hd : decode (mB M) pc = .ok (.lshl, 1)) (hq : pc + 1 = q)  (kk : J G sh M mc ms F q L (.inr (.long (lS x y)) :: S) m k n) : J G sh M mc ms F pc L (.inl y :: .inr (.long x) :: S) m k n := by
  intro p e s mm args below meth c R C H locs ls hP hS hL
  subst hq
  exact lv_lshl C.x C.b hd rfl (kk p e s mm args below meth c R C H locs ls hP hS hL)
def lC (x y : Int64) : Int := (lg_cmp x y).toInt
theorem j_lcmp {x y : Int64} {q : Nat} (hd : decode (mB M) pc = .ok (.lcmp, 1)) (hq : pc + 1 = q)  (kk : J G sh M mc ms F q L (.inl (lC x y) :: S) m k n) : J G sh M mc ms F pc L (.inr (.long y) :: .inr (.long x) :: S) m k n := by
  intro p e s mm args below meth c R C H locs ls hP hS hL
  subst hq
  have h := kk p e s mm args below meth c R C H locs ls hP hS hL
  simp only [List.map_cons, jv, jI, lC, Int32.ofInt_toInt] at h
  exact W.lcmp C.x C.b hd h
theorem lC_eq {x y : Int64} : wr (lC x y) = 0 ↔ x = y := by
  unfold wr lC jI
  rw [Int32.ofInt_toInt]
  unfold lg_cmp
  by_cases h1 : x > y
  · rw [if_pos h1]
    constructor
    · intro h; exact absurd h (by decide)
    · intro h; subst h; exact absurd h1 (Int64.lt_irrefl)
  · rw [if_neg h1]
    by_cases h2 : x = y
    · rw [if_pos h2]; exact ⟨fun _ => h2, fun _ => rfl⟩
    · rw [if_neg h2]; exact ⟨fun h => absurd h (by decide), fun h => absurd h h2⟩
theorem j_i2d {x : Int} {q : Nat} (hd : decode (mB M) pc = .ok (.i2d, 1)) (hq : pc + 1 = q)  (kk : J G sh M mc ms F q L (.inr (.double (FP.i2d (jI x))) :: S) m k n) : J G sh M mc ms F pc L (.inl x :: S) m k n := by
  intro p e s mm args below meth c R C H locs ls hP hS hL
  subst hq
  exact lv_i2d C.x C.b hd (kk p e s mm args below meth c R C H locs ls hP hS hL)
theorem j_l2d {x : Int64} {q : Nat} (hd : decode (mB M) pc = .ok (.l2d, 1)) (hq : pc + 1 = q)  (kk : J G sh M mc ms F q L (.inr (.double (FP.l2d x)) :: S) m k n) : J G sh M mc ms F pc L (.inr (.long x) :: S) m k n := by
  intro p e s mm args below meth c R C H locs ls hP hS hL
  subst hq
  exact lv_l2d C.x C.b hd (kk p e s mm args below meth c R C H locs ls hP hS hL)
theorem j_d2l {x : UInt64} {q : Nat} (hd : decode (mB M) pc = .ok (.d2l, 1)) (hq : pc + 1 = q)  (kk : J G sh M mc ms F q L (.inr (.long (FP.d2l x)) :: S) m k n) : J G sh M mc ms F pc L (.inr (.double x) :: S) m k n := by
  intro p e s mm args below meth c R C H locs ls hP hS hL
  subst hq
  exact lv_d2l C.x C.b hd (kk p e s mm args below meth c R C H locs ls hP hS hL)
theorem j_ddiv {x y : UInt64} {q : Nat} (hd : decode (mB M) pc = .ok (.ddiv, 1)) (hq : pc + 1 = q) (hne : vf_n64 (FP.ddiv x y)) (kk : J G sh M mc ms F q L (.inr (.double (FP.ddiv x y)) :: S) m k n) : J G sh M mc ms F pc L (.inr (.double y) :: .inr (.double x) :: S) m k n := by
  intro p e s mm args below meth c R C H locs ls hP hS hL
  subst hq
  exact lv_ddiv C.x C.b hd hne (kk p e s mm args below meth c R C H locs ls hP hS hL)
theorem j_dmul {x y : UInt64} {q : Nat} (hd : decode (mB M) pc = .ok (.dmul, 1)) (hq : pc + 1 = q) (hne : vf_n64 (FP.dmul x y)) (kk : J G sh M mc ms F q L (.inr (.double (FP.dmul x y)) :: S) m k n) : J G sh M mc ms F pc L (.inr (.double y) :: .inr (.double x) :: S) m k n := by
  intro p e s mm args below meth c R C H locs ls hP hS hL
  subst hq
  exact lv_dmul C.x C.b hd hne (kk p e s mm args below meth c R C H locs ls hP hS hL)
theorem j_dsub {x y : UInt64} {q : Nat} (hd : decode (mB M) pc = .ok (.dsub, 1)) (hq : pc + 1 = q) (hne : vf_n64 (FP.dsub x y)) (kk : J G sh M mc ms F q L (.inr (.double (FP.dsub x y)) :: S) m k n) : J G sh M mc ms F pc L (.inr (.double y) :: .inr (.double x) :: S) m k n := by
  intro p e s mm args below meth c R C H locs ls hP hS hL
  subst hq
  exact lv_dsub C.x C.b hd hne (kk p e s mm args below meth c R C H locs ls hP hS hL)
theorem j_dadd {x y : UInt64} {q : Nat} (hd : decode (mB M) pc = .ok (.dadd, 1)) (hq : pc + 1 = q) (hne : vf_n64 (FP.dadd x y)) (kk : J G sh M mc ms F q L (.inr (.double (FP.dadd x y)) :: S) m k n) : J G sh M mc ms F pc L (.inr (.double y) :: .inr (.double x) :: S) m k n := by
  intro p e s mm args below meth c R C H locs ls hP hS hL
  subst hq
  exact lv_dadd C.x C.b hd hne (kk p e s mm args below meth c R C H locs ls hP hS hL)
theorem j_dup {v : PV} {q : Nat} (hd : decode (mB M) pc = .ok (.dup, 1)) (hq : pc + 1 = q) (hc : jcat v = 1) (kk : J G sh M mc ms F q L (v :: v :: S) m k n) : J G sh M mc ms F pc L (v :: S) m k n := by
  intro p e s mm args below meth c R C H locs ls hP hS hL
  subst hq
  exact lv_dup C.x C.b hd ((jcat_eq G v).trans hc) (kk p e s mm args below meth c R C H locs ls hP hS hL)
theorem j_pop {v : PV} {q : Nat} (hd : decode (mB M) pc = .ok (.pop, 1)) (hq : pc + 1 = q) (hc : jcat v = 1) (kk : J G sh M mc ms F q L (S) m k n) : J G sh M mc ms F pc L (v :: S) m k n := by
  intro p e s mm args below meth c R C H locs ls hP hS hL
  subst hq
  exact lv_pop C.x C.b hd ((jcat_eq G v).trans hc) (kk p e s mm args below meth c R C H locs ls hP hS hL)
theorem j_pop2 {v : PV} {q : Nat} (hd : decode (mB M) pc = .ok (.pop2, 1)) (hq : pc + 1 = q) (hc : jcat v = 2) (kk : J G sh M mc ms F q L (S) m k n) : J G sh M mc ms F pc L (v :: S) m k n := by
  intro p e s mm args below meth c R C H locs ls hP hS hL
  subst hq
  exact lv_pop2_2 C.x C.b hd ((jcat_eq G v).trans hc) (kk p e s mm args below meth c R C H locs ls hP hS hL)
theorem j_dup2 {v w : PV} {q : Nat} (hd : decode (mB M) pc = .ok (.dup2, 1)) (hq : pc + 1 = q) (hc : jcat v = 1) (hc2 : jcat w = 1) (kk : J G sh M mc ms F q L (v :: w :: v :: w :: S) m k n) : J G sh M mc ms F pc L (v :: w :: S) m k n := by
  intro p e s mm args below meth c R C H locs ls hP hS hL
  subst hq
  exact lv_dup2_11 C.x C.b hd ((jcat_eq G v).trans hc) ((jcat_eq G w).trans hc2) (kk p e s mm args below meth c R C H locs ls hP hS hL)
theorem j_dup_x1 {v w : PV} {q : Nat} (hd : decode (mB M) pc = .ok (.dup_x1, 1)) (hq : pc + 1 = q) (hc : jcat v = 1) (hc2 : jcat w = 1) (kk : J G sh M mc ms F q L (v :: w :: v :: S) m k n) : J G sh M mc ms F pc L (v :: w :: S) m k n := by
  intro p e s mm args below meth c R C H locs ls hP hS hL
  subst hq
  exact lv_dup_x1 C.x C.b hd ((jcat_eq G v).trans hc) ((jcat_eq G w).trans hc2) (kk p e s mm args below meth c R C H locs ls hP hS hL)
theorem j_goto {off : Int} {tgt : Nat} (hd : decode (mB M) pc = .ok (.goto off, 3)) (ht : (pc : Int) + off = (tgt : Int)) (kk : J G sh M mc ms F tgt L (S) m k n) : J G sh M mc ms F pc L (S) m k n := by
  intro p e s mm args below meth c R C H locs ls hP hS hL
  exact lv_goto C.x C.b hd ht (kk p e s mm args below meth c R C H locs ls hP hS hL)
theorem j32_eq0 {x : Int} : jI x = 0 ↔ wr x = 0 := by
  unfold wr
  exact ⟨fun h => by rw [h]; rfl, fun h => Int32.toInt_inj.mp (by rw [h]; rfl)⟩
theorem j32_lt0 {x : Int} : jI x < 0 ↔ wr x < 0 := by unfold wr; exact Int32.lt_iff_toInt_lt
theorem j32_ge0 {x : Int} : 0 ≤ jI x ↔ 0 ≤ wr x := by unfold wr; exact Int32.le_iff_toInt_le
theorem j32_gt0 {x : Int} : 0 < jI x ↔ 0 < wr x := by unfold wr; exact Int32.lt_iff_toInt_lt
theorem j32_le0 {x : Int} : jI x ≤ 0 ↔ wr x ≤ 0 := by unfold wr; exact Int32.le_iff_toInt_le
theorem j32_eq {x y : Int} : jI x = jI y ↔ wr x = wr y := jI_inj
theorem j32_lt {x y : Int} : jI x < jI y ↔ wr x < wr y := by unfold wr; exact Int32.lt_iff_toInt_lt
theorem j32_le {x y : Int} : jI x ≤ jI y ↔ wr x ≤ wr y := by unfold wr; exact Int32.le_iff_toInt_le
theorem j_if_eq {x x' off : Int} {tgt q : Nat} (hd : decode (mB M) pc = .ok (.ifCond .eq off, 3)) (ht : (pc : Int) + off = (tgt : Int)) (hq : pc + 3 = q) (hx : wr x = x') (kt : x' = 0 → J G sh M mc ms F tgt L (S) m k n) (kf : ¬ x' = 0 → J G sh M mc ms F q L (S) m k n) : J G sh M mc ms F pc L (.inl x :: S) m k n := by
  intro p e s mm args below meth c R C H locs ls hP hS hL
  subst hq; subst hx
  exact lv_if_eq C.x C.b hd ht (fun h => kt (j32_eq0.mp h) p e s mm args below meth c R C H locs ls hP hS hL) (fun h => kf (fun z => h (j32_eq0.mpr z)) p e s mm args below meth c R C H locs ls hP hS hL)
theorem j_if_ne {x x' off : Int} {tgt q : Nat} (hd : decode (mB M) pc = .ok (.ifCond .ne off, 3)) (ht : (pc : Int) + off = (tgt : Int)) (hq : pc + 3 = q) (hx : wr x = x') (kt : ¬ x' = 0 → J G sh M mc ms F tgt L (S) m k n) (kf : x' = 0 → J G sh M mc ms F q L (S) m k n) : J G sh M mc ms F pc L (.inl x :: S) m k n := by
  intro p e s mm args below meth c R C H locs ls hP hS hL
  subst hq; subst hx
  exact lv_if_ne C.x C.b hd ht (fun h => kt (fun z => h (j32_eq0.mpr z)) p e s mm args below meth c R C H locs ls hP hS hL) (fun h => kf (j32_eq0.mp h) p e s mm args below meth c R C H locs ls hP hS hL)
theorem j_if_lt {x x' off : Int} {tgt q : Nat} (hd : decode (mB M) pc = .ok (.ifCond .lt off, 3)) (ht : (pc : Int) + off = (tgt : Int)) (hq : pc + 3 = q) (hx : wr x = x') (kt : x' < 0 → J G sh M mc ms F tgt L (S) m k n) (kf : ¬ x' < 0 → J G sh M mc ms F q L (S) m k n) : J G sh M mc ms F pc L (.inl x :: S) m k n := by
  intro p e s mm args below meth c R C H locs ls hP hS hL
  subst hq; subst hx
  exact lv_if_lt C.x C.b hd ht (fun h => kt (j32_lt0.mp h) p e s mm args below meth c R C H locs ls hP hS hL) (fun h => kf (fun z => h (j32_lt0.mpr z)) p e s mm args below meth c R C H locs ls hP hS hL)
theorem j_if_ge {x x' off : Int} {tgt q : Nat} (hd : decode (mB M) pc = .ok (.ifCond .ge off, 3)) (ht : (pc : Int) + off = (tgt : Int)) (hq : pc + 3 = q) (hx : wr x = x') (kt : 0 ≤ x' → J G sh M mc ms F tgt L (S) m k n) (kf : ¬ 0 ≤ x' → J G sh M mc ms F q L (S) m k n) : J G sh M mc ms F pc L (.inl x :: S) m k n := by
  intro p e s mm args below meth c R C H locs ls hP hS hL
  subst hq; subst hx
  exact lv_if_ge C.x C.b hd ht (fun h => kt (j32_ge0.mp h) p e s mm args below meth c R C H locs ls hP hS hL) (fun h => kf (fun z => h (j32_ge0.mpr z)) p e s mm args below meth c R C H locs ls hP hS hL)
theorem j_if_gt {x x' off : Int} {tgt q : Nat} (hd : decode (mB M) pc = .ok (.ifCond .gt off, 3)) (ht : (pc : Int) + off = (tgt : Int)) (hq : pc + 3 = q) (hx : wr x = x') (kt : 0 < x' → J G sh M mc ms F tgt L (S) m k n) (kf : ¬ 0 < x' → J G sh M mc ms F q L (S) m k n) : J G sh M mc ms F pc L (.inl x :: S) m k n := by
  intro p e s mm args below meth c R C H locs ls hP hS hL
  subst hq; subst hx
  exact lv_if_gt C.x C.b hd ht (fun h => kt (j32_gt0.mp h) p e s mm args below meth c R C H locs ls hP hS hL) (fun h => kf (fun z => h (j32_gt0.mpr z)) p e s mm args below meth c R C H locs ls hP hS hL)
theorem j_if_le {x x' off : Int} {tgt q : Nat} (hd : decode (mB M) pc = .ok (.ifCond .le off, 3)) (ht : (pc : Int) + off = (tgt : Int)) (hq : pc + 3 = q) (hx : wr x = x') (kt : x' ≤ 0 → J G sh M mc ms F tgt L (S) m k n) (kf : ¬ x' ≤ 0 → J G sh M mc ms F q L (S) m k n) : J G sh M mc ms F pc L (.inl x :: S) m k n := by
  intro p e s mm args below meth c R C H locs ls hP hS hL
  subst hq; subst hx
  exact lv_if_le C.x C.b hd ht (fun h => kt (j32_le0.mp h) p e s mm args below meth c R C H locs ls hP hS hL) (fun h => kf (fun z => h (j32_le0.mpr z)) p e s mm args below meth c R C H locs ls hP hS hL)
theorem j_icmp_eq {x x' y y' off : Int} {tgt q : Nat} (hd : decode (mB M) pc = .ok (.if_icmp .eq off, 3)) (ht : (pc : Int) + off = (tgt : Int)) (hq : pc + 3 = q) (hx : wr x = x') (hy : wr y = y') (kt : x' = y' → J G sh M mc ms F tgt L (S) m k n) (kf : ¬ x' = y' → J G sh M mc ms F q L (S) m k n) : J G sh M mc ms F pc L (.inl y :: .inl x :: S) m k n := by
  intro p e s mm args below meth c R C H locs ls hP hS hL
  subst hq; subst hx; subst hy
  exact lv_icmp_eq C.x C.b hd ht (fun h => kt (j32_eq.mp h) p e s mm args below meth c R C H locs ls hP hS hL) (fun h => kf (fun z => h (j32_eq.mpr z)) p e s mm args below meth c R C H locs ls hP hS hL)
theorem j_icmp_ne {x x' y y' off : Int} {tgt q : Nat} (hd : decode (mB M) pc = .ok (.if_icmp .ne off, 3)) (ht : (pc : Int) + off = (tgt : Int)) (hq : pc + 3 = q) (hx : wr x = x') (hy : wr y = y') (kt : ¬ x' = y' → J G sh M mc ms F tgt L (S) m k n) (kf : x' = y' → J G sh M mc ms F q L (S) m k n) : J G sh M mc ms F pc L (.inl y :: .inl x :: S) m k n := by
  intro p e s mm args below meth c R C H locs ls hP hS hL
  subst hq; subst hx; subst hy
  exact lv_icmp_ne C.x C.b hd ht (fun h => kt (fun z => h (j32_eq.mpr z)) p e s mm args below meth c R C H locs ls hP hS hL) (fun h => kf (j32_eq.mp h) p e s mm args below meth c R C H locs ls hP hS hL)
theorem j_icmp_lt {x x' y y' off : Int} {tgt q : Nat} (hd : decode (mB M) pc = .ok (.if_icmp .lt off, 3)) (ht : (pc : Int) + off = (tgt : Int)) (hq : pc + 3 = q) (hx : wr x = x') (hy : wr y = y') (kt : x' < y' → J G sh M mc ms F tgt L (S) m k n) (kf : ¬ x' < y' → J G sh M mc ms F q L (S) m k n) : J G sh M mc ms F pc L (.inl y :: .inl x :: S) m k n := by
  intro p e s mm args below meth c R C H locs ls hP hS hL
  subst hq; subst hx; subst hy
  exact lv_icmp_lt C.x C.b hd ht (fun h => kt (j32_lt.mp h) p e s mm args below meth c R C H locs ls hP hS hL) (fun h => kf (fun z => h (j32_lt.mpr z)) p e s mm args below meth c R C H locs ls hP hS hL)
theorem j_icmp_ge {x x' y y' off : Int} {tgt q : Nat} (hd : decode (mB M) pc = .ok (.if_icmp .ge off, 3)) (ht : (pc : Int) + off = (tgt : Int)) (hq : pc + 3 = q) (hx : wr x = x') (hy : wr y = y') (kt : y' ≤ x' → J G sh M mc ms F tgt L (S) m k n) (kf : ¬ y' ≤ x' → J G sh M mc ms F q L (S) m k n) : J G sh M mc ms F pc L (.inl y :: .inl x :: S) m k n := by
  intro p e s mm args below meth c R C H locs ls hP hS hL
  subst hq; subst hx; subst hy
  exact lv_icmp_ge C.x C.b hd ht (fun h => kt (j32_le.mp h) p e s mm args below meth c R C H locs ls hP hS hL) (fun h => kf (fun z => h (j32_le.mpr z)) p e s mm args below meth c R C H locs ls hP hS hL)
theorem j_icmp_gt {x x' y y' off : Int} {tgt q : Nat} (hd : decode (mB M) pc = .ok (.if_icmp .gt off, 3)) (ht : (pc : Int) + off = (tgt : Int)) (hq : pc + 3 = q) (hx : wr x = x') (hy : wr y = y') (kt : y' < x' → J G sh M mc ms F tgt L (S) m k n) (kf : ¬ y' < x' → J G sh M mc ms F q L (S) m k n) : J G sh M mc ms F pc L (.inl y :: .inl x :: S) m k n := by
  intro p e s mm args below meth c R C H locs ls hP hS hL
  subst hq; subst hx; subst hy
  exact lv_icmp_gt C.x C.b hd ht (fun h => kt (j32_lt.mp h) p e s mm args below meth c R C H locs ls hP hS hL) (fun h => kf (fun z => h (j32_lt.mpr z)) p e s mm args below meth c R C H locs ls hP hS hL)
theorem j_icmp_le {x x' y y' off : Int} {tgt q : Nat} (hd : decode (mB M) pc = .ok (.if_icmp .le off, 3)) (ht : (pc : Int) + off = (tgt : Int)) (hq : pc + 3 = q) (hx : wr x = x') (hy : wr y = y') (kt : x' ≤ y' → J G sh M mc ms F tgt L (S) m k n) (kf : ¬ x' ≤ y' → J G sh M mc ms F q L (S) m k n) : J G sh M mc ms F pc L (.inl y :: .inl x :: S) m k n := by
  intro p e s mm args below meth c R C H locs ls hP hS hL
  subst hq; subst hx; subst hy
  exact lv_icmp_le C.x C.b hd ht (fun h => kt (j32_le.mp h) p e s mm args below meth c R C H locs ls hP hS hL) (fun h => kf (fun z => h (j32_le.mpr z)) p e s mm args below meth c R C H locs ls hP hS hL)
theorem wr_bI (b : Bool) : wr (bI b) = bI b := by cases b <;> rfl
theorem bI_eq0 {b : Bool} : bI b = 0 ↔ b = false := by cases b <;> decide
theorem j_ifeq_b {b : Bool} {off : Int} {tgt q : Nat} (hd : decode (mB M) pc = .ok (.ifCond .eq off, 3)) (ht : (pc : Int) + off = (tgt : Int)) (hq : pc + 3 = q) (kt : b = false → J G sh M mc ms F tgt L (S) m k n) (kf : b = true → J G sh M mc ms F q L (S) m k n) : J G sh M mc ms F pc L (.inl (bI b) :: S) m k n :=
  j_if_eq hd ht hq (wr_bI b) (fun h => kt (bI_eq0.mp h)) (fun h => kf (by cases b; exact absurd rfl h; rfl))
theorem j_ifne_b {b : Bool} {off : Int} {tgt q : Nat} (hd : decode (mB M) pc = .ok (.ifCond .ne off, 3)) (ht : (pc : Int) + off = (tgt : Int)) (hq : pc + 3 = q) (kt : b = true → J G sh M mc ms F tgt L (S) m k n) (kf : b = false → J G sh M mc ms F q L (S) m k n) : J G sh M mc ms F pc L (.inl (bI b) :: S) m k n :=
  j_if_ne hd ht hq (wr_bI b) (fun h => kt (by cases b; exact absurd rfl h; rfl)) (fun h => kf (bI_eq0.mp h))
theorem j_ifeq_l {x y : Int64} {off : Int} {tgt q : Nat} (hd : decode (mB M) pc = .ok (.ifCond .eq off, 3)) (ht : (pc : Int) + off = (tgt : Int)) (hq : pc + 3 = q) (kt : x = y → J G sh M mc ms F tgt L (S) m k n) (kf : ¬ x = y → J G sh M mc ms F q L (S) m k n) : J G sh M mc ms F pc L (.inl (lC x y) :: S) m k n :=
  j_if_eq hd ht hq rfl (fun h => kt (lC_eq.mp h)) (fun h => kf (fun z => h (lC_eq.mpr z)))
theorem j_ifne_l {x y : Int64} {off : Int} {tgt q : Nat} (hd : decode (mB M) pc = .ok (.ifCond .ne off, 3)) (ht : (pc : Int) + off = (tgt : Int)) (hq : pc + 3 = q) (kt : ¬ x = y → J G sh M mc ms F tgt L (S) m k n) (kf : x = y → J G sh M mc ms F q L (S) m k n) : J G sh M mc ms F pc L (.inl (lC x y) :: S) m k n :=
  j_if_ne hd ht hq rfl (fun h => kt (fun z => h (lC_eq.mpr z))) (fun h => kf (lC_eq.mp h))
theorem j_tableOut {x x' dflt lo hi : Int} {offs : Array Int} {len tgt : Nat} (hd : decode (mB M) pc = .ok (.tableswitch dflt lo hi offs, len)) (hx : wr x = x') (h : x' < lo ∨ hi < x') (ht : (pc : Int) + dflt = (tgt : Int)) (kk : J G sh M mc ms F tgt L (S) m k n) : J G sh M mc ms F pc L (.inl x :: S) m k n := by
  intro p e s mm args below meth c R C H locs ls hP hS hL
  subst hx
  exact lv_tableOut C.x C.b hd h ht (kk p e s mm args below meth c R C H locs ls hP hS hL)
theorem j_tableIn {x x' dflt lo hi : Int} {offs : Array Int} {len tgt : Nat} {off : Int} (i : Nat) (hd : decode (mB M) pc = .ok (.tableswitch dflt lo hi offs, len)) (hx : wr x = x') (h : x' = lo + i) (hi : lo + i ≤ hi) (ho : offs[i]? = some off) (ht : (pc : Int) + off = (tgt : Int)) (kk : J G sh M mc ms F tgt L (S) m k n) : J G sh M mc ms F pc L (.inl x :: S) m k n := by
  intro p e s mm args below meth c R C H locs ls hP hS hL
  have e1 : (jI x).toInt = lo + i := hx.trans h
  exact lv_tableIn C.x C.b hd (by omega) (by omega) (by rw [e1, show (lo + (i : Int) - lo).toNat = i by omega]; exact ho) ht (kk p e s mm args below meth c R C H locs ls hP hS hL)
theorem j_lookup {x x' dflt off : Int} {ps : Array (Int × Int)} {len tgt : Nat} (hd : decode (mB M) pc = .ok (.lookupswitch dflt ps, len)) (hp : (ps.toList.zip (ps.toList.drop 1)).all (fun (a, next) => a.1 < next.1) = true) (hx : wr x = x') (ho : Op.lookupswitch.offset ps.toList dflt x' = off) (ht : (pc : Int) + off = (tgt : Int)) (kk : J G sh M mc ms F tgt L (S) m k n) : J G sh M mc ms F pc L (.inl x :: S) m k n := by
  intro p e s mm args below meth c R C H locs ls hP hS hL
  subst hx
  exact lv_lookup C.x C.b hd hp ho ht (kk p e s mm args below meth c R C H locs ls hP hS hL)
end

/-! THE LAW'S ARRAYS show a row z of the reference's form: cells ix p 0 (a), 1 (b), 2 (lo), 3 (te), 4 (in), 5 (q), 6 (c), 7 (st); p: the law's own, or the copies that ahead makes -/
def cr (k : Int) : Int := 8 * (k / 4) + k % 4
theorem cr_b {k : Int} (h : 0 ≤ k ∧ k < 16) : 0 ≤ cr k ∧ cr k < 64 := by unfold cr; omega
theorem cr_inj {a b : Int} (h : cr a = cr b) : a = b := by unfold cr at h; omega
def ix (p : Bool) (d : Nat) : Nat := match p, d with
  | false, 6 => 204
  | false, 7 => 203
  | false, d => 197 + d
  | true, 7 => 203
  | true, d => 205 + d
def ln (d : Nat) : Nat := match d with
  | 0 => 64
  | 1 => 64
  | 2 => 16
  | 3 => 9
  | 4 => 12
  | 5 => 48
  | 6 => 15
  | _ => 8
/-- where a place of an array stands in the row -/
def zi (d : Nat) (j : Int) : Int := match d with
  | 0 => 59 + 9 * cr (j / 4) + j % 4
  | 1 => 59 + 9 * cr (j / 4) + 4 + j % 4
  | 2 => 59 + 9 * cr j + 8
  | 3 => 23 + j
  | 4 => 41 + j
  | 5 => 635 + 520 * (j / 24) + j % 24
  | 6 => j
  | _ => 15 + j
/-- what is one less there -/
def zo (d : Nat) (j : Int) : Int := match d with
  | 0 => if j % 4 = 2 then 1 else 0
  | 1 => if j % 4 = 0 ∨ j % 4 = 2 then 1 else 0
  | _ => 0
def lr (z : Z) (d : Nat) (j : Int) : Int := if 0 ≤ j ∧ j < ln d then z (zi d j) - zo d j else 0
def lz (m : Mem) (p : Bool) (z : Z) : Mem := fun c => if c = ix p 0 then lr z 0 else if c = ix p 1 then lr z 1 else if c = ix p 2 then lr z 2 else if c = ix p 3 then lr z 3 else if c = ix p 4 then lr z 4 else if c = ix p 5 then lr z 5 else if c = ix p 6 then lr z 6 else if c = ix p 7 then lr z 7 else m c
theorem ix_inj {p : Bool} {a b : Nat} (ha : a < 8) (hb : b < 8) (h : ix p a = ix p b) : a = b := by
  have key : ∀ p : Bool, ∀ a : Fin 8, ∀ b : Fin 8, ix p a = ix p b → a = b := by decide
  have := key p ⟨a, ha⟩ ⟨b, hb⟩ h
  exact congrArg Fin.val this
theorem ix_b (p : Bool) {d : Nat} (h : d < 8) : 197 ≤ ix p d ∧ ix p d < 212 := by
  have key : ∀ p : Bool, ∀ a : Fin 8, 197 ≤ ix p a ∧ ix p a < 212 := by decide
  exact key p ⟨d, h⟩
theorem lz_at {m : Mem} {p : Bool} {z : Z} {d : Nat} (hd : d < 8) : lz m p z (ix p d) = lr z d := by
  unfold lz
  have e : d = 0 ∨ d = 1 ∨ d = 2 ∨ d = 3 ∨ d = 4 ∨ d = 5 ∨ d = 6 ∨ d = 7 := by omega
  have n : ∀ a b : Nat, a < 8 → b < 8 → ¬ a = b → ¬ ix p a = ix p b := fun a b h1 h2 h3 h4 => h3 (ix_inj h1 h2 h4)
  rcases e with rfl | rfl | rfl | rfl | rfl | rfl | rfl | rfl
  · rw [if_pos rfl]
  · rw [if_neg (n 1 0 (by decide) (by decide) (by decide)), if_pos rfl]
  · rw [if_neg (n 2 0 (by decide) (by decide) (by decide)), if_neg (n 2 1 (by decide) (by decide) (by decide)), if_pos rfl]
  · rw [if_neg (n 3 0 (by decide) (by decide) (by decide)), if_neg (n 3 1 (by decide) (by decide) (by decide)), if_neg (n 3 2 (by decide) (by decide) (by decide)), if_pos rfl]
  · rw [if_neg (n 4 0 (by decide) (by decide) (by decide)), if_neg (n 4 1 (by decide) (by decide) (by decide)), if_neg (n 4 2 (by decide) (by decide) (by decide)), if_neg (n 4 3 (by decide) (by decide) (by decide)), if_pos rfl]
  · rw [if_neg (n 5 0 (by decide) (by decide) (by decide)), if_neg (n 5 1 (by decide) (by decide) (by decide)), if_neg (n 5 2 (by decide) (by decide) (by decide)), if_neg (n 5 3 (by decide) (by decide) (by decide)), if_neg (n 5 4 (by decide) (by decide) (by decide)), if_pos rfl]
  · rw [if_neg (n 6 0 (by decide) (by decide) (by decide)), if_neg (n 6 1 (by decide) (by decide) (by decide)), if_neg (n 6 2 (by decide) (by decide) (by decide)), if_neg (n 6 3 (by decide) (by decide) (by decide)), if_neg (n 6 4 (by decide) (by decide) (by decide)), if_neg (n 6 5 (by decide) (by decide) (by decide)), if_pos rfl]
  · rw [if_neg (n 7 0 (by decide) (by decide) (by decide)), if_neg (n 7 1 (by decide) (by decide) (by decide)), if_neg (n 7 2 (by decide) (by decide) (by decide)), if_neg (n 7 3 (by decide) (by decide) (by decide)), if_neg (n 7 4 (by decide) (by decide) (by decide)), if_neg (n 7 5 (by decide) (by decide) (by decide)), if_neg (n 7 6 (by decide) (by decide) (by decide)), if_pos rfl]
theorem lz_ne {m : Mem} {p : Bool} {z : Z} {c : Nat} (h : ∀ d, d < 8 → ¬ c = ix p d) : lz m p z c = m c := by
  unfold lz
  rw [if_neg (h 0 (by decide)), if_neg (h 1 (by decide)), if_neg (h 2 (by decide)), if_neg (h 3 (by decide)), if_neg (h 4 (by decide)), if_neg (h 5 (by decide)), if_neg (h 6 (by decide)), if_neg (h 7 (by decide))]
theorem lz_lo {m : Mem} {p : Bool} {z : Z} {c : Nat} (h : c < 197) : lz m p z c = m c := lz_ne fun d hd e => by have := (ix_b p hd).1; omega
theorem lz_cg {m m' : Mem} {p : Bool} {z : Z} (h : ∀ c, (∀ d, d < 8 → ¬ c = ix p d) → m' c = m c) : lz m' p z = lz m p z := by
  funext c
  by_cases q : ∃ d, d < 8 ∧ c = ix p d
  · obtain ⟨d, h1, rfl⟩ := q
    rw [lz_at h1, lz_at h1]
  · have q' : ∀ d, d < 8 → ¬ c = ix p d := fun d h1 h2 => q ⟨d, h1, h2⟩
    rw [lz_ne q', lz_ne q']
    exact h c q'
theorem lz_lz {m : Mem} {p : Bool} {z z' : Z} : lz (lz m p z) p z' = lz m p z' := lz_cg fun c h => lz_ne h
theorem zi_b {d : Nat} {j : Int} (hd : d < 8) (hj : 0 ≤ j ∧ j < ln d) : (d = 6 ∧ zi d j = j ∧ j < 15) ∨ (d = 7 ∧ zi d j = 15 + j ∧ j < 8) ∨ (d = 3 ∧ zi d j = 23 + j ∧ j < 9) ∨ (d = 4 ∧ zi d j = 41 + j ∧ j < 12) ∨ (d = 0 ∧ zi d j = 59 + 9 * cr (j / 4) + j % 4 ∧ j < 64) ∨ (d = 1 ∧ zi d j = 59 + 9 * cr (j / 4) + 4 + j % 4 ∧ j < 64) ∨ (d = 2 ∧ zi d j = 59 + 9 * cr j + 8 ∧ j < 16) ∨ (d = 5 ∧ zi d j = 635 + 520 * (j / 24) + j % 24 ∧ j < 48) := by
  have e : d = 0 ∨ d = 1 ∨ d = 2 ∨ d = 3 ∨ d = 4 ∨ d = 5 ∨ d = 6 ∨ d = 7 := by omega
  rcases e with rfl | rfl | rfl | rfl | rfl | rfl | rfl | rfl <;> simp [zi, ln] at hj ⊢ <;> omega
theorem zi_inj {d e : Nat} {i j : Int} (hd : d < 8) (he : e < 8) (hi : 0 ≤ i ∧ i < ln d) (hj : 0 ≤ j ∧ j < ln e) (h : zi d i = zi e j) : d = e ∧ i = j := by
  have a := zi_b hd hi
  have b := zi_b he hj
  have h1 : ∀ k : Int, cr k = 8 * (k / 4) + k % 4 := fun k => rfl
  have hi0 := hi.1
  have hj0 := hj.1
  have i1 : 0 ≤ i / 4 := by omega
  have i2 : 0 ≤ i / 4 / 4 := by omega
  have i3 : 0 ≤ i / 24 := by omega
  have j1 : 0 ≤ j / 4 := by omega
  have j2 : 0 ≤ j / 4 / 4 := by omega
  have j3 : 0 ≤ j / 24 := by omega
  rcases a with ⟨rfl, a, a'⟩ | ⟨rfl, a, a'⟩ | ⟨rfl, a, a'⟩ | ⟨rfl, a, a'⟩ | ⟨rfl, a, a'⟩ | ⟨rfl, a, a'⟩ | ⟨rfl, a, a'⟩ | ⟨rfl, a, a'⟩ <;> rcases b with ⟨rfl, b, b'⟩ | ⟨rfl, b, b'⟩ | ⟨rfl, b, b'⟩ | ⟨rfl, b, b'⟩ | ⟨rfl, b, b'⟩ | ⟨rfl, b, b'⟩ | ⟨rfl, b, b'⟩ | ⟨rfl, b, b'⟩ <;> rw [a, b] at h <;> (try simp only [h1] at h) <;> first | (exact ⟨rfl, by omega⟩) | (exfalso; omega)
theorem lr_u1 {z : Z} {d e : Nat} {i j v : Int} (hd : d < 8) (he : e < 8) (hi : 0 ≤ i ∧ i < ln d) : lr (u1 z (zi d i) (v + zo d i)) e j = if e = d ∧ j = i then v else lr z e j := by
  unfold lr
  by_cases hj : 0 ≤ j ∧ j < ln e
  · rw [if_pos hj, if_pos hj]
    by_cases q : e = d ∧ j = i
    · obtain ⟨rfl, rfl⟩ := q
      rw [if_pos ⟨rfl, rfl⟩, u1_at]; omega
    · rw [if_neg q, u1_ne (fun z => q (zi_inj he hd hj hi z))]
  · rw [if_neg hj, if_neg hj, if_neg (fun q => hj (by rw [q.1, q.2]; exact hi))]
theorem up_lz {m : Mem} {p : Bool} {z : Z} {d : Nat} {i v : Int} (hd : d < 8) (hi : 0 ≤ i ∧ i < ln d) : up (lz m p z) (ix p d) i v = lz m p (u1 z (zi d i) (v + zo d i)) := by
  funext c j
  unfold up
  by_cases h : ∃ e, e < 8 ∧ c = ix p e
  · obtain ⟨e, he, rfl⟩ := h
    rw [lz_at he, lz_at he, lr_u1 hd he hi]
    by_cases q : e = d ∧ j = i
    · rw [if_pos ⟨by rw [q.1], q.2⟩, if_pos q]
    · rw [if_neg (fun x => q ⟨ix_inj he hd x.1, x.2⟩), if_neg q]
  · have h' : ∀ e, e < 8 → ¬ c = ix p e := fun e h1 h2 => h ⟨e, h1, h2⟩
    rw [if_neg (fun q => h' d hd q.1), lz_ne h', lz_ne h']
def LA (sh : List SH) (p : Bool) : Prop := ∀ d, d < 8 → sh[ix p d]? = some (.inr (0, ln d))
def EW (G : GX) (sh : List SH) : Prop := jAp G sh.length ∧ (gL G).flags = flags0
/-! rows that the law needs besides -/
def iS (x y : Int) : Int := (jI x >>> (jI y &&& 31)).toInt
def iU (x y : Int) : Int := (((jI x).toUInt32 >>> ((jI y).toUInt32 &&& Int32.toUInt32 31)).toInt32).toInt
section
variable {G : GX} {sh : List SH} {M : MI} {mc ms : Nat} {F : FinT} {pc : Nat} {L : List (Option PV)} {S : List PV} {m : Mem} {k n : Nat} {p : Bool} {z : Z}
theorem j_ishr {x y : Int} {q : Nat} (hd : decode (mB M) pc = .ok (.ishr, 1)) (hq : pc + 1 = q) (kk : J G sh M mc ms F q L (.inl (iS x y) :: S) m k n) : J G sh M mc ms F pc L (.inl y :: .inl x :: S) m k n := by
  intro p e s mm args below meth c R C H locs ls hP hS hL
  subst hq
  have h := kk p e s mm args below meth c R C H locs ls hP hS hL
  simp only [List.map_cons, jv, jI, iS, Int32.ofInt_toInt] at h
  exact lv_ishr C.x C.b hd h
theorem j_iushr {x y : Int} {q : Nat} (hd : decode (mB M) pc = .ok (.iushr, 1)) (hq : pc + 1 = q) (kk : J G sh M mc ms F q L (.inl (iU x y) :: S) m k n) : J G sh M mc ms F pc L (.inl y :: .inl x :: S) m k n := by
  intro p e s mm args below meth c R C H locs ls hP hS hL
  subst hq
  have h := kk p e s mm args below meth c R C H locs ls hP hS hL
  simp only [List.map_cons, jv, jI, iU, Int32.ofInt_toInt] at h
  exact lv_iushr C.x C.b hd rfl h
theorem j_ldc {x : Int} {w : Int32} {i q : Nat} (hd : decode (mB M) pc = .ok (.ldc i, 2)) (hq : pc + 2 = q) (hw : Cond.constant (mY M).cls i w ∈ jall) (hx : Int32.ofInt x = w) (kk : J G sh M mc ms F q L (.inl x :: S) m k n) : J G sh M mc ms F pc L S m k n := by
  intro p e s mm args below meth c R C H locs ls hP hS hL
  subst hq; subst hx
  exact lv_ldc C.x C.b C.own (C.ts _ hw) hd (kk p e s mm args below meth c R C H locs ls hP hS hL)
theorem j_lg {d q : Nat} {i i' : Int} (hd : d < 8) (hdc : decode (mB M) pc = .ok (.iaload, 1)) (hq : pc + 1 = q) (hs : LA sh p) (hi : wr i = i') (h0 : 0 ≤ i' ∧ i' < ln d) (kk : J G sh M mc ms F q L (.inl (z (zi d i') - zo d i') :: S) (lz m p z) k n) : J G sh M mc ms F pc L (.inl i :: .inr (.ref (ix p d)) :: S) (lz m p z) k n := by
  refine j_iaload hdc hq (hs d hd) hi h0.1 h0.2 ?_
  rw [lz_at hd]
  unfold lr
  rw [if_pos h0]
  exact kk
theorem j_sg {d q : Nat} {i i' v : Int} (hd : d < 8) (hdc : decode (mB M) pc = .ok (.iastore, 1)) (hq : pc + 1 = q) (hs : LA sh p) (hi : wr i = i') (h0 : 0 ≤ i' ∧ i' < ln d) (kk : J G sh M mc ms F q L S (lz m p (u1 z (zi d i') (v + zo d i'))) k n) : J G sh M mc ms F pc L (.inl v :: .inl i :: .inr (.ref (ix p d)) :: S) (lz m p z) k n := by
  refine j_iastore hdc hq (hs d hd) hi h0.1 h0.2 ?_
  rw [up_lz hd h0]
  exact kk
theorem j_l0_0 {x : Int} {q : Nat} (hdc : decode (mB M) pc = .ok (.iaload, 1)) (hq : pc + 1 = q) (hs : LA sh p) (hx : 0 ≤ x ∧ x < 16) (kk : J G sh M mc ms F q L (.inl (z (59 + 9 * cr x + 0)) :: S) (lz m p z) k n) : J G sh M mc ms F pc L (.inl (4 * x) :: .inr (.ref (ix p 0)) :: S) (lz m p z) k n := by
  have e1 : zi 0 (4 * x) = 59 + 9 * cr x + 0 := by simp only [zi, cr] <;> omega
  have e2 : zo 0 (4 * x) = 0 := by simp only [zo]; (first | rw [if_pos (by omega)] | rw [if_neg (by omega)])
  refine j_lg (d := 0) (by decide) hdc hq hs (wr_id' (by omega) (by omega)) (by simp only [ln]; omega) ?_
  rw [e1, e2, Int.sub_zero]
  exact kk
theorem j_s0_0 {x : Int} {v : Int} {q : Nat} (hdc : decode (mB M) pc = .ok (.iastore, 1)) (hq : pc + 1 = q) (hs : LA sh p) (hx : 0 ≤ x ∧ x < 16) (kk : J G sh M mc ms F q L S (lz m p (u1 z (59 + 9 * cr x + 0) v)) k n) : J G sh M mc ms F pc L (.inl v :: .inl (4 * x) :: .inr (.ref (ix p 0)) :: S) (lz m p z) k n := by
  have e1 : zi 0 (4 * x) = 59 + 9 * cr x + 0 := by simp only [zi, cr] <;> omega
  have e2 : zo 0 (4 * x) = 0 := by simp only [zo]; (first | rw [if_pos (by omega)] | rw [if_neg (by omega)])
  refine j_sg (d := 0) (by decide) hdc hq hs (wr_id' (by omega) (by omega)) (by simp only [ln]; omega) ?_
  rw [e1, e2, show v + 0 = v from Int.add_zero v]
  exact kk
theorem j_l0_1 {x : Int} {q : Nat} (hdc : decode (mB M) pc = .ok (.iaload, 1)) (hq : pc + 1 = q) (hs : LA sh p) (hx : 0 ≤ x ∧ x < 16) (kk : J G sh M mc ms F q L (.inl (z (59 + 9 * cr x + 1)) :: S) (lz m p z) k n) : J G sh M mc ms F pc L (.inl (4 * x + 1) :: .inr (.ref (ix p 0)) :: S) (lz m p z) k n := by
  have e1 : zi 0 (4 * x + 1) = 59 + 9 * cr x + 1 := by simp only [zi, cr] <;> omega
  have e2 : zo 0 (4 * x + 1) = 0 := by simp only [zo]; (first | rw [if_pos (by omega)] | rw [if_neg (by omega)])
  refine j_lg (d := 0) (by decide) hdc hq hs (wr_id' (by omega) (by omega)) (by simp only [ln]; omega) ?_
  rw [e1, e2, Int.sub_zero]
  exact kk
theorem j_s0_1 {x : Int} {v : Int} {q : Nat} (hdc : decode (mB M) pc = .ok (.iastore, 1)) (hq : pc + 1 = q) (hs : LA sh p) (hx : 0 ≤ x ∧ x < 16) (kk : J G sh M mc ms F q L S (lz m p (u1 z (59 + 9 * cr x + 1) v)) k n) : J G sh M mc ms F pc L (.inl v :: .inl (4 * x + 1) :: .inr (.ref (ix p 0)) :: S) (lz m p z) k n := by
  have e1 : zi 0 (4 * x + 1) = 59 + 9 * cr x + 1 := by simp only [zi, cr] <;> omega
  have e2 : zo 0 (4 * x + 1) = 0 := by simp only [zo]; (first | rw [if_pos (by omega)] | rw [if_neg (by omega)])
  refine j_sg (d := 0) (by decide) hdc hq hs (wr_id' (by omega) (by omega)) (by simp only [ln]; omega) ?_
  rw [e1, e2, show v + 0 = v from Int.add_zero v]
  exact kk
theorem j_l0_2 {x : Int} {q : Nat} (hdc : decode (mB M) pc = .ok (.iaload, 1)) (hq : pc + 1 = q) (hs : LA sh p) (hx : 0 ≤ x ∧ x < 16) (kk : J G sh M mc ms F q L (.inl (z (59 + 9 * cr x + 2) - 1) :: S) (lz m p z) k n) : J G sh M mc ms F pc L (.inl (4 * x + 2) :: .inr (.ref (ix p 0)) :: S) (lz m p z) k n := by
  have e1 : zi 0 (4 * x + 2) = 59 + 9 * cr x + 2 := by simp only [zi, cr] <;> omega
  have e2 : zo 0 (4 * x + 2) = 1 := by simp only [zo]; (first | rw [if_pos (by omega)] | rw [if_neg (by omega)])
  refine j_lg (d := 0) (by decide) hdc hq hs (wr_id' (by omega) (by omega)) (by simp only [ln]; omega) ?_
  rw [e1, e2]
  exact kk
theorem j_s0_2 {x : Int} {v v' : Int} {q : Nat} (hdc : decode (mB M) pc = .ok (.iastore, 1)) (hq : pc + 1 = q) (hs : LA sh p) (hx : 0 ≤ x ∧ x < 16) (hv : v + 1 = v') (kk : J G sh M mc ms F q L S (lz m p (u1 z (59 + 9 * cr x + 2) v')) k n) : J G sh M mc ms F pc L (.inl v :: .inl (4 * x + 2) :: .inr (.ref (ix p 0)) :: S) (lz m p z) k n := by
  have e1 : zi 0 (4 * x + 2) = 59 + 9 * cr x + 2 := by simp only [zi, cr] <;> omega
  have e2 : zo 0 (4 * x + 2) = 1 := by simp only [zo]; (first | rw [if_pos (by omega)] | rw [if_neg (by omega)])
  refine j_sg (d := 0) (by decide) hdc hq hs (wr_id' (by omega) (by omega)) (by simp only [ln]; omega) ?_
  rw [e1, e2, hv]
  exact kk
theorem j_l0_3 {x : Int} {q : Nat} (hdc : decode (mB M) pc = .ok (.iaload, 1)) (hq : pc + 1 = q) (hs : LA sh p) (hx : 0 ≤ x ∧ x < 16) (kk : J G sh M mc ms F q L (.inl (z (59 + 9 * cr x + 3)) :: S) (lz m p z) k n) : J G sh M mc ms F pc L (.inl (4 * x + 3) :: .inr (.ref (ix p 0)) :: S) (lz m p z) k n := by
  have e1 : zi 0 (4 * x + 3) = 59 + 9 * cr x + 3 := by simp only [zi, cr] <;> omega
  have e2 : zo 0 (4 * x + 3) = 0 := by simp only [zo]; (first | rw [if_pos (by omega)] | rw [if_neg (by omega)])
  refine j_lg (d := 0) (by decide) hdc hq hs (wr_id' (by omega) (by omega)) (by simp only [ln]; omega) ?_
  rw [e1, e2, Int.sub_zero]
  exact kk
theorem j_s0_3 {x : Int} {v : Int} {q : Nat} (hdc : decode (mB M) pc = .ok (.iastore, 1)) (hq : pc + 1 = q) (hs : LA sh p) (hx : 0 ≤ x ∧ x < 16) (kk : J G sh M mc ms F q L S (lz m p (u1 z (59 + 9 * cr x + 3) v)) k n) : J G sh M mc ms F pc L (.inl v :: .inl (4 * x + 3) :: .inr (.ref (ix p 0)) :: S) (lz m p z) k n := by
  have e1 : zi 0 (4 * x + 3) = 59 + 9 * cr x + 3 := by simp only [zi, cr] <;> omega
  have e2 : zo 0 (4 * x + 3) = 0 := by simp only [zo]; (first | rw [if_pos (by omega)] | rw [if_neg (by omega)])
  refine j_sg (d := 0) (by decide) hdc hq hs (wr_id' (by omega) (by omega)) (by simp only [ln]; omega) ?_
  rw [e1, e2, show v + 0 = v from Int.add_zero v]
  exact kk
theorem j_l1_0 {x : Int} {q : Nat} (hdc : decode (mB M) pc = .ok (.iaload, 1)) (hq : pc + 1 = q) (hs : LA sh p) (hx : 0 ≤ x ∧ x < 16) (kk : J G sh M mc ms F q L (.inl (z (59 + 9 * cr x + 4) - 1) :: S) (lz m p z) k n) : J G sh M mc ms F pc L (.inl (4 * x) :: .inr (.ref (ix p 1)) :: S) (lz m p z) k n := by
  have e1 : zi 1 (4 * x) = 59 + 9 * cr x + 4 := by simp only [zi, cr] <;> omega
  have e2 : zo 1 (4 * x) = 1 := by simp only [zo]; (first | rw [if_pos (by omega)] | rw [if_neg (by omega)])
  refine j_lg (d := 1) (by decide) hdc hq hs (wr_id' (by omega) (by omega)) (by simp only [ln]; omega) ?_
  rw [e1, e2]
  exact kk
theorem j_s1_0 {x : Int} {v v' : Int} {q : Nat} (hdc : decode (mB M) pc = .ok (.iastore, 1)) (hq : pc + 1 = q) (hs : LA sh p) (hx : 0 ≤ x ∧ x < 16) (hv : v + 1 = v') (kk : J G sh M mc ms F q L S (lz m p (u1 z (59 + 9 * cr x + 4) v')) k n) : J G sh M mc ms F pc L (.inl v :: .inl (4 * x) :: .inr (.ref (ix p 1)) :: S) (lz m p z) k n := by
  have e1 : zi 1 (4 * x) = 59 + 9 * cr x + 4 := by simp only [zi, cr] <;> omega
  have e2 : zo 1 (4 * x) = 1 := by simp only [zo]; (first | rw [if_pos (by omega)] | rw [if_neg (by omega)])
  refine j_sg (d := 1) (by decide) hdc hq hs (wr_id' (by omega) (by omega)) (by simp only [ln]; omega) ?_
  rw [e1, e2, hv]
  exact kk
theorem j_l1_1 {x : Int} {q : Nat} (hdc : decode (mB M) pc = .ok (.iaload, 1)) (hq : pc + 1 = q) (hs : LA sh p) (hx : 0 ≤ x ∧ x < 16) (kk : J G sh M mc ms F q L (.inl (z (59 + 9 * cr x + 5)) :: S) (lz m p z) k n) : J G sh M mc ms F pc L (.inl (4 * x + 1) :: .inr (.ref (ix p 1)) :: S) (lz m p z) k n := by
  have e1 : zi 1 (4 * x + 1) = 59 + 9 * cr x + 5 := by simp only [zi, cr] <;> omega
  have e2 : zo 1 (4 * x + 1) = 0 := by simp only [zo]; (first | rw [if_pos (by omega)] | rw [if_neg (by omega)])
  refine j_lg (d := 1) (by decide) hdc hq hs (wr_id' (by omega) (by omega)) (by simp only [ln]; omega) ?_
  rw [e1, e2, Int.sub_zero]
  exact kk
theorem j_s1_1 {x : Int} {v : Int} {q : Nat} (hdc : decode (mB M) pc = .ok (.iastore, 1)) (hq : pc + 1 = q) (hs : LA sh p) (hx : 0 ≤ x ∧ x < 16) (kk : J G sh M mc ms F q L S (lz m p (u1 z (59 + 9 * cr x + 5) v)) k n) : J G sh M mc ms F pc L (.inl v :: .inl (4 * x + 1) :: .inr (.ref (ix p 1)) :: S) (lz m p z) k n := by
  have e1 : zi 1 (4 * x + 1) = 59 + 9 * cr x + 5 := by simp only [zi, cr] <;> omega
  have e2 : zo 1 (4 * x + 1) = 0 := by simp only [zo]; (first | rw [if_pos (by omega)] | rw [if_neg (by omega)])
  refine j_sg (d := 1) (by decide) hdc hq hs (wr_id' (by omega) (by omega)) (by simp only [ln]; omega) ?_
  rw [e1, e2, show v + 0 = v from Int.add_zero v]
  exact kk
theorem j_l1_2 {x : Int} {q : Nat} (hdc : decode (mB M) pc = .ok (.iaload, 1)) (hq : pc + 1 = q) (hs : LA sh p) (hx : 0 ≤ x ∧ x < 16) (kk : J G sh M mc ms F q L (.inl (z (59 + 9 * cr x + 6) - 1) :: S) (lz m p z) k n) : J G sh M mc ms F pc L (.inl (4 * x + 2) :: .inr (.ref (ix p 1)) :: S) (lz m p z) k n := by
  have e1 : zi 1 (4 * x + 2) = 59 + 9 * cr x + 6 := by simp only [zi, cr] <;> omega
  have e2 : zo 1 (4 * x + 2) = 1 := by simp only [zo]; (first | rw [if_pos (by omega)] | rw [if_neg (by omega)])
  refine j_lg (d := 1) (by decide) hdc hq hs (wr_id' (by omega) (by omega)) (by simp only [ln]; omega) ?_
  rw [e1, e2]
  exact kk
theorem j_s1_2 {x : Int} {v v' : Int} {q : Nat} (hdc : decode (mB M) pc = .ok (.iastore, 1)) (hq : pc + 1 = q) (hs : LA sh p) (hx : 0 ≤ x ∧ x < 16) (hv : v + 1 = v') (kk : J G sh M mc ms F q L S (lz m p (u1 z (59 + 9 * cr x + 6) v')) k n) : J G sh M mc ms F pc L (.inl v :: .inl (4 * x + 2) :: .inr (.ref (ix p 1)) :: S) (lz m p z) k n := by
  have e1 : zi 1 (4 * x + 2) = 59 + 9 * cr x + 6 := by simp only [zi, cr] <;> omega
  have e2 : zo 1 (4 * x + 2) = 1 := by simp only [zo]; (first | rw [if_pos (by omega)] | rw [if_neg (by omega)])
  refine j_sg (d := 1) (by decide) hdc hq hs (wr_id' (by omega) (by omega)) (by simp only [ln]; omega) ?_
  rw [e1, e2, hv]
  exact kk
theorem j_l1_3 {x : Int} {q : Nat} (hdc : decode (mB M) pc = .ok (.iaload, 1)) (hq : pc + 1 = q) (hs : LA sh p) (hx : 0 ≤ x ∧ x < 16) (kk : J G sh M mc ms F q L (.inl (z (59 + 9 * cr x + 7)) :: S) (lz m p z) k n) : J G sh M mc ms F pc L (.inl (4 * x + 3) :: .inr (.ref (ix p 1)) :: S) (lz m p z) k n := by
  have e1 : zi 1 (4 * x + 3) = 59 + 9 * cr x + 7 := by simp only [zi, cr] <;> omega
  have e2 : zo 1 (4 * x + 3) = 0 := by simp only [zo]; (first | rw [if_pos (by omega)] | rw [if_neg (by omega)])
  refine j_lg (d := 1) (by decide) hdc hq hs (wr_id' (by omega) (by omega)) (by simp only [ln]; omega) ?_
  rw [e1, e2, Int.sub_zero]
  exact kk
theorem j_s1_3 {x : Int} {v : Int} {q : Nat} (hdc : decode (mB M) pc = .ok (.iastore, 1)) (hq : pc + 1 = q) (hs : LA sh p) (hx : 0 ≤ x ∧ x < 16) (kk : J G sh M mc ms F q L S (lz m p (u1 z (59 + 9 * cr x + 7) v)) k n) : J G sh M mc ms F pc L (.inl v :: .inl (4 * x + 3) :: .inr (.ref (ix p 1)) :: S) (lz m p z) k n := by
  have e1 : zi 1 (4 * x + 3) = 59 + 9 * cr x + 7 := by simp only [zi, cr] <;> omega
  have e2 : zo 1 (4 * x + 3) = 0 := by simp only [zo]; (first | rw [if_pos (by omega)] | rw [if_neg (by omega)])
  refine j_sg (d := 1) (by decide) hdc hq hs (wr_id' (by omega) (by omega)) (by simp only [ln]; omega) ?_
  rw [e1, e2, show v + 0 = v from Int.add_zero v]
  exact kk
theorem j_l2_0 {x : Int} {q : Nat} (hdc : decode (mB M) pc = .ok (.iaload, 1)) (hq : pc + 1 = q) (hs : LA sh p) (hx : 0 ≤ x ∧ x < 16) (kk : J G sh M mc ms F q L (.inl (z (59 + 9 * cr x + 8)) :: S) (lz m p z) k n) : J G sh M mc ms F pc L (.inl (x) :: .inr (.ref (ix p 2)) :: S) (lz m p z) k n := by
  have e1 : zi 2 (x) = 59 + 9 * cr x + 8 := by simp only [zi, cr] <;> omega
  have e2 : zo 2 (x) = 0 := by simp only [zo]
  refine j_lg (d := 2) (by decide) hdc hq hs (wr_id' (by omega) (by omega)) (by simp only [ln]; omega) ?_
  rw [e1, e2, Int.sub_zero]
  exact kk
theorem j_s2_0 {x : Int} {v : Int} {q : Nat} (hdc : decode (mB M) pc = .ok (.iastore, 1)) (hq : pc + 1 = q) (hs : LA sh p) (hx : 0 ≤ x ∧ x < 16) (kk : J G sh M mc ms F q L S (lz m p (u1 z (59 + 9 * cr x + 8) v)) k n) : J G sh M mc ms F pc L (.inl v :: .inl (x) :: .inr (.ref (ix p 2)) :: S) (lz m p z) k n := by
  have e1 : zi 2 (x) = 59 + 9 * cr x + 8 := by simp only [zi, cr] <;> omega
  have e2 : zo 2 (x) = 0 := by simp only [zo]
  refine j_sg (d := 2) (by decide) hdc hq hs (wr_id' (by omega) (by omega)) (by simp only [ln]; omega) ?_
  rw [e1, e2, show v + 0 = v from Int.add_zero v]
  exact kk
theorem j_l3_0 {x : Int} {q : Nat} (hdc : decode (mB M) pc = .ok (.iaload, 1)) (hq : pc + 1 = q) (hs : LA sh p) (hx : 0 ≤ x ∧ x < 3) (kk : J G sh M mc ms F q L (.inl (z (23 + 3 * x)) :: S) (lz m p z) k n) : J G sh M mc ms F pc L (.inl (3 * x) :: .inr (.ref (ix p 3)) :: S) (lz m p z) k n := by
  have e1 : zi 3 (3 * x) = 23 + 3 * x := by simp only [zi, cr] <;> omega
  have e2 : zo 3 (3 * x) = 0 := by simp only [zo]
  refine j_lg (d := 3) (by decide) hdc hq hs (wr_id' (by omega) (by omega)) (by simp only [ln]; omega) ?_
  rw [e1, e2, Int.sub_zero]
  exact kk
theorem j_s3_0 {x : Int} {v : Int} {q : Nat} (hdc : decode (mB M) pc = .ok (.iastore, 1)) (hq : pc + 1 = q) (hs : LA sh p) (hx : 0 ≤ x ∧ x < 3) (kk : J G sh M mc ms F q L S (lz m p (u1 z (23 + 3 * x) v)) k n) : J G sh M mc ms F pc L (.inl v :: .inl (3 * x) :: .inr (.ref (ix p 3)) :: S) (lz m p z) k n := by
  have e1 : zi 3 (3 * x) = 23 + 3 * x := by simp only [zi, cr] <;> omega
  have e2 : zo 3 (3 * x) = 0 := by simp only [zo]
  refine j_sg (d := 3) (by decide) hdc hq hs (wr_id' (by omega) (by omega)) (by simp only [ln]; omega) ?_
  rw [e1, e2, show v + 0 = v from Int.add_zero v]
  exact kk
theorem j_l3_1 {x : Int} {q : Nat} (hdc : decode (mB M) pc = .ok (.iaload, 1)) (hq : pc + 1 = q) (hs : LA sh p) (hx : 0 ≤ x ∧ x < 3) (kk : J G sh M mc ms F q L (.inl (z (23 + 3 * x + 1)) :: S) (lz m p z) k n) : J G sh M mc ms F pc L (.inl (3 * x + 1) :: .inr (.ref (ix p 3)) :: S) (lz m p z) k n := by
  have e1 : zi 3 (3 * x + 1) = 23 + 3 * x + 1 := by simp only [zi, cr] <;> omega
  have e2 : zo 3 (3 * x + 1) = 0 := by simp only [zo]
  refine j_lg (d := 3) (by decide) hdc hq hs (wr_id' (by omega) (by omega)) (by simp only [ln]; omega) ?_
  rw [e1, e2, Int.sub_zero]
  exact kk
theorem j_s3_1 {x : Int} {v : Int} {q : Nat} (hdc : decode (mB M) pc = .ok (.iastore, 1)) (hq : pc + 1 = q) (hs : LA sh p) (hx : 0 ≤ x ∧ x < 3) (kk : J G sh M mc ms F q L S (lz m p (u1 z (23 + 3 * x + 1) v)) k n) : J G sh M mc ms F pc L (.inl v :: .inl (3 * x + 1) :: .inr (.ref (ix p 3)) :: S) (lz m p z) k n := by
  have e1 : zi 3 (3 * x + 1) = 23 + 3 * x + 1 := by simp only [zi, cr] <;> omega
  have e2 : zo 3 (3 * x + 1) = 0 := by simp only [zo]
  refine j_sg (d := 3) (by decide) hdc hq hs (wr_id' (by omega) (by omega)) (by simp only [ln]; omega) ?_
  rw [e1, e2, show v + 0 = v from Int.add_zero v]
  exact kk
theorem j_l3_2 {x : Int} {q : Nat} (hdc : decode (mB M) pc = .ok (.iaload, 1)) (hq : pc + 1 = q) (hs : LA sh p) (hx : 0 ≤ x ∧ x < 3) (kk : J G sh M mc ms F q L (.inl (z (23 + 3 * x + 2)) :: S) (lz m p z) k n) : J G sh M mc ms F pc L (.inl (3 * x + 2) :: .inr (.ref (ix p 3)) :: S) (lz m p z) k n := by
  have e1 : zi 3 (3 * x + 2) = 23 + 3 * x + 2 := by simp only [zi, cr] <;> omega
  have e2 : zo 3 (3 * x + 2) = 0 := by simp only [zo]
  refine j_lg (d := 3) (by decide) hdc hq hs (wr_id' (by omega) (by omega)) (by simp only [ln]; omega) ?_
  rw [e1, e2, Int.sub_zero]
  exact kk
theorem j_s3_2 {x : Int} {v : Int} {q : Nat} (hdc : decode (mB M) pc = .ok (.iastore, 1)) (hq : pc + 1 = q) (hs : LA sh p) (hx : 0 ≤ x ∧ x < 3) (kk : J G sh M mc ms F q L S (lz m p (u1 z (23 + 3 * x + 2) v)) k n) : J G sh M mc ms F pc L (.inl v :: .inl (3 * x + 2) :: .inr (.ref (ix p 3)) :: S) (lz m p z) k n := by
  have e1 : zi 3 (3 * x + 2) = 23 + 3 * x + 2 := by simp only [zi, cr] <;> omega
  have e2 : zo 3 (3 * x + 2) = 0 := by simp only [zo]
  refine j_sg (d := 3) (by decide) hdc hq hs (wr_id' (by omega) (by omega)) (by simp only [ln]; omega) ?_
  rw [e1, e2, show v + 0 = v from Int.add_zero v]
  exact kk
theorem j_l3_b {x : Int} {q : Nat} (hdc : decode (mB M) pc = .ok (.iaload, 1)) (hq : pc + 1 = q) (hs : LA sh p) (hx : 1 ≤ x ∧ x < 4) (kk : J G sh M mc ms F q L (.inl (z (23 + 3 * (x - 1))) :: S) (lz m p z) k n) : J G sh M mc ms F pc L (.inl (3 * x - 3) :: .inr (.ref (ix p 3)) :: S) (lz m p z) k n := by
  have e1 : zi 3 (3 * x - 3) = 23 + 3 * (x - 1) := by simp only [zi, cr] <;> omega
  have e2 : zo 3 (3 * x - 3) = 0 := by simp only [zo]
  refine j_lg (d := 3) (by decide) hdc hq hs (wr_id' (by omega) (by omega)) (by simp only [ln]; omega) ?_
  rw [e1, e2, Int.sub_zero]
  exact kk
theorem j_s3_b {x : Int} {v : Int} {q : Nat} (hdc : decode (mB M) pc = .ok (.iastore, 1)) (hq : pc + 1 = q) (hs : LA sh p) (hx : 1 ≤ x ∧ x < 4) (kk : J G sh M mc ms F q L S (lz m p (u1 z (23 + 3 * (x - 1)) v)) k n) : J G sh M mc ms F pc L (.inl v :: .inl (3 * x - 3) :: .inr (.ref (ix p 3)) :: S) (lz m p z) k n := by
  have e1 : zi 3 (3 * x - 3) = 23 + 3 * (x - 1) := by simp only [zi, cr] <;> omega
  have e2 : zo 3 (3 * x - 3) = 0 := by simp only [zo]
  refine j_sg (d := 3) (by decide) hdc hq hs (wr_id' (by omega) (by omega)) (by simp only [ln]; omega) ?_
  rw [e1, e2, show v + 0 = v from Int.add_zero v]
  exact kk
theorem j_l4_0 {x : Int} {q : Nat} (hdc : decode (mB M) pc = .ok (.iaload, 1)) (hq : pc + 1 = q) (hs : LA sh p) (hx : 0 ≤ x ∧ x < 2) (kk : J G sh M mc ms F q L (.inl (z (41 + 6 * x + 0)) :: S) (lz m p z) k n) : J G sh M mc ms F pc L (.inl (6 * x) :: .inr (.ref (ix p 4)) :: S) (lz m p z) k n := by
  have e1 : zi 4 (6 * x) = 41 + 6 * x + 0 := by simp only [zi, cr] <;> omega
  have e2 : zo 4 (6 * x) = 0 := by simp only [zo]
  refine j_lg (d := 4) (by decide) hdc hq hs (wr_id' (by omega) (by omega)) (by simp only [ln]; omega) ?_
  rw [e1, e2, Int.sub_zero]
  exact kk
theorem j_s4_0 {x : Int} {v : Int} {q : Nat} (hdc : decode (mB M) pc = .ok (.iastore, 1)) (hq : pc + 1 = q) (hs : LA sh p) (hx : 0 ≤ x ∧ x < 2) (kk : J G sh M mc ms F q L S (lz m p (u1 z (41 + 6 * x + 0) v)) k n) : J G sh M mc ms F pc L (.inl v :: .inl (6 * x) :: .inr (.ref (ix p 4)) :: S) (lz m p z) k n := by
  have e1 : zi 4 (6 * x) = 41 + 6 * x + 0 := by simp only [zi, cr] <;> omega
  have e2 : zo 4 (6 * x) = 0 := by simp only [zo]
  refine j_sg (d := 4) (by decide) hdc hq hs (wr_id' (by omega) (by omega)) (by simp only [ln]; omega) ?_
  rw [e1, e2, show v + 0 = v from Int.add_zero v]
  exact kk
theorem j_l4_1 {x : Int} {q : Nat} (hdc : decode (mB M) pc = .ok (.iaload, 1)) (hq : pc + 1 = q) (hs : LA sh p) (hx : 0 ≤ x ∧ x < 2) (kk : J G sh M mc ms F q L (.inl (z (41 + 6 * x + 1)) :: S) (lz m p z) k n) : J G sh M mc ms F pc L (.inl (6 * x + 1) :: .inr (.ref (ix p 4)) :: S) (lz m p z) k n := by
  have e1 : zi 4 (6 * x + 1) = 41 + 6 * x + 1 := by simp only [zi, cr] <;> omega
  have e2 : zo 4 (6 * x + 1) = 0 := by simp only [zo]
  refine j_lg (d := 4) (by decide) hdc hq hs (wr_id' (by omega) (by omega)) (by simp only [ln]; omega) ?_
  rw [e1, e2, Int.sub_zero]
  exact kk
theorem j_s4_1 {x : Int} {v : Int} {q : Nat} (hdc : decode (mB M) pc = .ok (.iastore, 1)) (hq : pc + 1 = q) (hs : LA sh p) (hx : 0 ≤ x ∧ x < 2) (kk : J G sh M mc ms F q L S (lz m p (u1 z (41 + 6 * x + 1) v)) k n) : J G sh M mc ms F pc L (.inl v :: .inl (6 * x + 1) :: .inr (.ref (ix p 4)) :: S) (lz m p z) k n := by
  have e1 : zi 4 (6 * x + 1) = 41 + 6 * x + 1 := by simp only [zi, cr] <;> omega
  have e2 : zo 4 (6 * x + 1) = 0 := by simp only [zo]
  refine j_sg (d := 4) (by decide) hdc hq hs (wr_id' (by omega) (by omega)) (by simp only [ln]; omega) ?_
  rw [e1, e2, show v + 0 = v from Int.add_zero v]
  exact kk
theorem j_l4_2 {x : Int} {q : Nat} (hdc : decode (mB M) pc = .ok (.iaload, 1)) (hq : pc + 1 = q) (hs : LA sh p) (hx : 0 ≤ x ∧ x < 2) (kk : J G sh M mc ms F q L (.inl (z (41 + 6 * x + 2)) :: S) (lz m p z) k n) : J G sh M mc ms F pc L (.inl (6 * x + 2) :: .inr (.ref (ix p 4)) :: S) (lz m p z) k n := by
  have e1 : zi 4 (6 * x + 2) = 41 + 6 * x + 2 := by simp only [zi, cr] <;> omega
  have e2 : zo 4 (6 * x + 2) = 0 := by simp only [zo]
  refine j_lg (d := 4) (by decide) hdc hq hs (wr_id' (by omega) (by omega)) (by simp only [ln]; omega) ?_
  rw [e1, e2, Int.sub_zero]
  exact kk
theorem j_s4_2 {x : Int} {v : Int} {q : Nat} (hdc : decode (mB M) pc = .ok (.iastore, 1)) (hq : pc + 1 = q) (hs : LA sh p) (hx : 0 ≤ x ∧ x < 2) (kk : J G sh M mc ms F q L S (lz m p (u1 z (41 + 6 * x + 2) v)) k n) : J G sh M mc ms F pc L (.inl v :: .inl (6 * x + 2) :: .inr (.ref (ix p 4)) :: S) (lz m p z) k n := by
  have e1 : zi 4 (6 * x + 2) = 41 + 6 * x + 2 := by simp only [zi, cr] <;> omega
  have e2 : zo 4 (6 * x + 2) = 0 := by simp only [zo]
  refine j_sg (d := 4) (by decide) hdc hq hs (wr_id' (by omega) (by omega)) (by simp only [ln]; omega) ?_
  rw [e1, e2, show v + 0 = v from Int.add_zero v]
  exact kk
theorem j_l4_3 {x : Int} {q : Nat} (hdc : decode (mB M) pc = .ok (.iaload, 1)) (hq : pc + 1 = q) (hs : LA sh p) (hx : 0 ≤ x ∧ x < 2) (kk : J G sh M mc ms F q L (.inl (z (41 + 6 * x + 3)) :: S) (lz m p z) k n) : J G sh M mc ms F pc L (.inl (6 * x + 3) :: .inr (.ref (ix p 4)) :: S) (lz m p z) k n := by
  have e1 : zi 4 (6 * x + 3) = 41 + 6 * x + 3 := by simp only [zi, cr] <;> omega
  have e2 : zo 4 (6 * x + 3) = 0 := by simp only [zo]
  refine j_lg (d := 4) (by decide) hdc hq hs (wr_id' (by omega) (by omega)) (by simp only [ln]; omega) ?_
  rw [e1, e2, Int.sub_zero]
  exact kk
theorem j_s4_3 {x : Int} {v : Int} {q : Nat} (hdc : decode (mB M) pc = .ok (.iastore, 1)) (hq : pc + 1 = q) (hs : LA sh p) (hx : 0 ≤ x ∧ x < 2) (kk : J G sh M mc ms F q L S (lz m p (u1 z (41 + 6 * x + 3) v)) k n) : J G sh M mc ms F pc L (.inl v :: .inl (6 * x + 3) :: .inr (.ref (ix p 4)) :: S) (lz m p z) k n := by
  have e1 : zi 4 (6 * x + 3) = 41 + 6 * x + 3 := by simp only [zi, cr] <;> omega
  have e2 : zo 4 (6 * x + 3) = 0 := by simp only [zo]
  refine j_sg (d := 4) (by decide) hdc hq hs (wr_id' (by omega) (by omega)) (by simp only [ln]; omega) ?_
  rw [e1, e2, show v + 0 = v from Int.add_zero v]
  exact kk
theorem j_l4_4 {x : Int} {q : Nat} (hdc : decode (mB M) pc = .ok (.iaload, 1)) (hq : pc + 1 = q) (hs : LA sh p) (hx : 0 ≤ x ∧ x < 2) (kk : J G sh M mc ms F q L (.inl (z (41 + 6 * x + 4)) :: S) (lz m p z) k n) : J G sh M mc ms F pc L (.inl (6 * x + 4) :: .inr (.ref (ix p 4)) :: S) (lz m p z) k n := by
  have e1 : zi 4 (6 * x + 4) = 41 + 6 * x + 4 := by simp only [zi, cr] <;> omega
  have e2 : zo 4 (6 * x + 4) = 0 := by simp only [zo]
  refine j_lg (d := 4) (by decide) hdc hq hs (wr_id' (by omega) (by omega)) (by simp only [ln]; omega) ?_
  rw [e1, e2, Int.sub_zero]
  exact kk
theorem j_s4_4 {x : Int} {v : Int} {q : Nat} (hdc : decode (mB M) pc = .ok (.iastore, 1)) (hq : pc + 1 = q) (hs : LA sh p) (hx : 0 ≤ x ∧ x < 2) (kk : J G sh M mc ms F q L S (lz m p (u1 z (41 + 6 * x + 4) v)) k n) : J G sh M mc ms F pc L (.inl v :: .inl (6 * x + 4) :: .inr (.ref (ix p 4)) :: S) (lz m p z) k n := by
  have e1 : zi 4 (6 * x + 4) = 41 + 6 * x + 4 := by simp only [zi, cr] <;> omega
  have e2 : zo 4 (6 * x + 4) = 0 := by simp only [zo]
  refine j_sg (d := 4) (by decide) hdc hq hs (wr_id' (by omega) (by omega)) (by simp only [ln]; omega) ?_
  rw [e1, e2, show v + 0 = v from Int.add_zero v]
  exact kk
theorem j_l4_5 {x : Int} {q : Nat} (hdc : decode (mB M) pc = .ok (.iaload, 1)) (hq : pc + 1 = q) (hs : LA sh p) (hx : 0 ≤ x ∧ x < 2) (kk : J G sh M mc ms F q L (.inl (z (41 + 6 * x + 5)) :: S) (lz m p z) k n) : J G sh M mc ms F pc L (.inl (6 * x + 5) :: .inr (.ref (ix p 4)) :: S) (lz m p z) k n := by
  have e1 : zi 4 (6 * x + 5) = 41 + 6 * x + 5 := by simp only [zi, cr] <;> omega
  have e2 : zo 4 (6 * x + 5) = 0 := by simp only [zo]
  refine j_lg (d := 4) (by decide) hdc hq hs (wr_id' (by omega) (by omega)) (by simp only [ln]; omega) ?_
  rw [e1, e2, Int.sub_zero]
  exact kk
theorem j_s4_5 {x : Int} {v : Int} {q : Nat} (hdc : decode (mB M) pc = .ok (.iastore, 1)) (hq : pc + 1 = q) (hs : LA sh p) (hx : 0 ≤ x ∧ x < 2) (kk : J G sh M mc ms F q L S (lz m p (u1 z (41 + 6 * x + 5) v)) k n) : J G sh M mc ms F pc L (.inl v :: .inl (6 * x + 5) :: .inr (.ref (ix p 4)) :: S) (lz m p z) k n := by
  have e1 : zi 4 (6 * x + 5) = 41 + 6 * x + 5 := by simp only [zi, cr] <;> omega
  have e2 : zo 4 (6 * x + 5) = 0 := by simp only [zo]
  refine j_sg (d := 4) (by decide) hdc hq hs (wr_id' (by omega) (by omega)) (by simp only [ln]; omega) ?_
  rw [e1, e2, show v + 0 = v from Int.add_zero v]
  exact kk
theorem j_l4_v {x y : Int} {q : Nat} (hdc : decode (mB M) pc = .ok (.iaload, 1)) (hq : pc + 1 = q) (hs : LA sh p) (hx : (0 ≤ x ∧ x < 2) ∧ 0 ≤ y ∧ y < 6) (kk : J G sh M mc ms F q L (.inl (z (41 + 6 * x + y)) :: S) (lz m p z) k n) : J G sh M mc ms F pc L (.inl (6 * x + y) :: .inr (.ref (ix p 4)) :: S) (lz m p z) k n := by
  have e1 : zi 4 (6 * x + y) = 41 + 6 * x + y := by simp only [zi, cr] <;> omega
  have e2 : zo 4 (6 * x + y) = 0 := by simp only [zo]
  refine j_lg (d := 4) (by decide) hdc hq hs (wr_id' (by omega) (by omega)) (by simp only [ln]; omega) ?_
  rw [e1, e2, Int.sub_zero]
  exact kk
theorem j_s4_v {x y : Int} {v : Int} {q : Nat} (hdc : decode (mB M) pc = .ok (.iastore, 1)) (hq : pc + 1 = q) (hs : LA sh p) (hx : (0 ≤ x ∧ x < 2) ∧ 0 ≤ y ∧ y < 6) (kk : J G sh M mc ms F q L S (lz m p (u1 z (41 + 6 * x + y) v)) k n) : J G sh M mc ms F pc L (.inl v :: .inl (6 * x + y) :: .inr (.ref (ix p 4)) :: S) (lz m p z) k n := by
  have e1 : zi 4 (6 * x + y) = 41 + 6 * x + y := by simp only [zi, cr] <;> omega
  have e2 : zo 4 (6 * x + y) = 0 := by simp only [zo]
  refine j_sg (d := 4) (by decide) hdc hq hs (wr_id' (by omega) (by omega)) (by simp only [ln]; omega) ?_
  rw [e1, e2, show v + 0 = v from Int.add_zero v]
  exact kk
theorem j_l5_0 {x : Int} {q : Nat} (hdc : decode (mB M) pc = .ok (.iaload, 1)) (hq : pc + 1 = q) (hs : LA sh p) (hx : 0 ≤ x ∧ x < 2) (kk : J G sh M mc ms F q L (.inl (z (635 + 520 * x)) :: S) (lz m p z) k n) : J G sh M mc ms F pc L (.inl (24 * x) :: .inr (.ref (ix p 5)) :: S) (lz m p z) k n := by
  have e1 : zi 5 (24 * x) = 635 + 520 * x := by simp only [zi, cr] <;> omega
  have e2 : zo 5 (24 * x) = 0 := by simp only [zo]
  refine j_lg (d := 5) (by decide) hdc hq hs (wr_id' (by omega) (by omega)) (by simp only [ln]; omega) ?_
  rw [e1, e2, Int.sub_zero]
  exact kk
theorem j_s5_0 {x : Int} {v : Int} {q : Nat} (hdc : decode (mB M) pc = .ok (.iastore, 1)) (hq : pc + 1 = q) (hs : LA sh p) (hx : 0 ≤ x ∧ x < 2) (kk : J G sh M mc ms F q L S (lz m p (u1 z (635 + 520 * x) v)) k n) : J G sh M mc ms F pc L (.inl v :: .inl (24 * x) :: .inr (.ref (ix p 5)) :: S) (lz m p z) k n := by
  have e1 : zi 5 (24 * x) = 635 + 520 * x := by simp only [zi, cr] <;> omega
  have e2 : zo 5 (24 * x) = 0 := by simp only [zo]
  refine j_sg (d := 5) (by decide) hdc hq hs (wr_id' (by omega) (by omega)) (by simp only [ln]; omega) ?_
  rw [e1, e2, show v + 0 = v from Int.add_zero v]
  exact kk
theorem j_l5_v {x y : Int} {q : Nat} (hdc : decode (mB M) pc = .ok (.iaload, 1)) (hq : pc + 1 = q) (hs : LA sh p) (hx : (0 ≤ x ∧ x < 2) ∧ 0 ≤ y ∧ y < 24) (kk : J G sh M mc ms F q L (.inl (z (635 + 520 * x + y)) :: S) (lz m p z) k n) : J G sh M mc ms F pc L (.inl (24 * x + y) :: .inr (.ref (ix p 5)) :: S) (lz m p z) k n := by
  have e1 : zi 5 (24 * x + y) = 635 + 520 * x + y := by simp only [zi, cr] <;> omega
  have e2 : zo 5 (24 * x + y) = 0 := by simp only [zo]
  refine j_lg (d := 5) (by decide) hdc hq hs (wr_id' (by omega) (by omega)) (by simp only [ln]; omega) ?_
  rw [e1, e2, Int.sub_zero]
  exact kk
theorem j_s5_v {x y : Int} {v : Int} {q : Nat} (hdc : decode (mB M) pc = .ok (.iastore, 1)) (hq : pc + 1 = q) (hs : LA sh p) (hx : (0 ≤ x ∧ x < 2) ∧ 0 ≤ y ∧ y < 24) (kk : J G sh M mc ms F q L S (lz m p (u1 z (635 + 520 * x + y) v)) k n) : J G sh M mc ms F pc L (.inl v :: .inl (24 * x + y) :: .inr (.ref (ix p 5)) :: S) (lz m p z) k n := by
  have e1 : zi 5 (24 * x + y) = 635 + 520 * x + y := by simp only [zi, cr] <;> omega
  have e2 : zo 5 (24 * x + y) = 0 := by simp only [zo]
  refine j_sg (d := 5) (by decide) hdc hq hs (wr_id' (by omega) (by omega)) (by simp only [ln]; omega) ?_
  rw [e1, e2, show v + 0 = v from Int.add_zero v]
  exact kk
theorem j_l5_vk {x y : Int} {q : Nat} (hdc : decode (mB M) pc = .ok (.iaload, 1)) (hq : pc + 1 = q) (hs : LA sh p) (hx : (0 ≤ x ∧ x < 2) ∧ 0 ≤ y ∧ y < 23) (kk : J G sh M mc ms F q L (.inl (z (635 + 520 * x + y + 1)) :: S) (lz m p z) k n) : J G sh M mc ms F pc L (.inl (24 * x + y + 1) :: .inr (.ref (ix p 5)) :: S) (lz m p z) k n := by
  have e1 : zi 5 (24 * x + y + 1) = 635 + 520 * x + y + 1 := by simp only [zi, cr] <;> omega
  have e2 : zo 5 (24 * x + y + 1) = 0 := by simp only [zo]
  refine j_lg (d := 5) (by decide) hdc hq hs (wr_id' (by omega) (by omega)) (by simp only [ln]; omega) ?_
  rw [e1, e2, Int.sub_zero]
  exact kk
theorem j_s5_vk {x y : Int} {v : Int} {q : Nat} (hdc : decode (mB M) pc = .ok (.iastore, 1)) (hq : pc + 1 = q) (hs : LA sh p) (hx : (0 ≤ x ∧ x < 2) ∧ 0 ≤ y ∧ y < 23) (kk : J G sh M mc ms F q L S (lz m p (u1 z (635 + 520 * x + y + 1) v)) k n) : J G sh M mc ms F pc L (.inl v :: .inl (24 * x + y + 1) :: .inr (.ref (ix p 5)) :: S) (lz m p z) k n := by
  have e1 : zi 5 (24 * x + y + 1) = 635 + 520 * x + y + 1 := by simp only [zi, cr] <;> omega
  have e2 : zo 5 (24 * x + y + 1) = 0 := by simp only [zo]
  refine j_sg (d := 5) (by decide) hdc hq hs (wr_id' (by omega) (by omega)) (by simp only [ln]; omega) ?_
  rw [e1, e2, show v + 0 = v from Int.add_zero v]
  exact kk
theorem j_l6_0 {x : Int} {q : Nat} (hdc : decode (mB M) pc = .ok (.iaload, 1)) (hq : pc + 1 = q) (hs : LA sh p) (hx : 0 ≤ x ∧ x < 15) (kk : J G sh M mc ms F q L (.inl (z (x)) :: S) (lz m p z) k n) : J G sh M mc ms F pc L (.inl (x) :: .inr (.ref (ix p 6)) :: S) (lz m p z) k n := by
  have e1 : zi 6 (x) = x := by simp only [zi, cr] <;> omega
  have e2 : zo 6 (x) = 0 := by simp only [zo]
  refine j_lg (d := 6) (by decide) hdc hq hs (wr_id' (by omega) (by omega)) (by simp only [ln]; omega) ?_
  rw [e1, e2, Int.sub_zero]
  exact kk
theorem j_s6_0 {x : Int} {v : Int} {q : Nat} (hdc : decode (mB M) pc = .ok (.iastore, 1)) (hq : pc + 1 = q) (hs : LA sh p) (hx : 0 ≤ x ∧ x < 15) (kk : J G sh M mc ms F q L S (lz m p (u1 z (x) v)) k n) : J G sh M mc ms F pc L (.inl v :: .inl (x) :: .inr (.ref (ix p 6)) :: S) (lz m p z) k n := by
  have e1 : zi 6 (x) = x := by simp only [zi, cr] <;> omega
  have e2 : zo 6 (x) = 0 := by simp only [zo]
  refine j_sg (d := 6) (by decide) hdc hq hs (wr_id' (by omega) (by omega)) (by simp only [ln]; omega) ?_
  rw [e1, e2, show v + 0 = v from Int.add_zero v]
  exact kk
theorem j_l7_0 {x : Int} {q : Nat} (hdc : decode (mB M) pc = .ok (.iaload, 1)) (hq : pc + 1 = q) (hs : LA sh p) (hx : 0 ≤ x ∧ x < 8) (kk : J G sh M mc ms F q L (.inl (z (15 + x)) :: S) (lz m p z) k n) : J G sh M mc ms F pc L (.inl (x) :: .inr (.ref (ix p 7)) :: S) (lz m p z) k n := by
  have e1 : zi 7 (x) = 15 + x := by simp only [zi, cr] <;> omega
  have e2 : zo 7 (x) = 0 := by simp only [zo]
  refine j_lg (d := 7) (by decide) hdc hq hs (wr_id' (by omega) (by omega)) (by simp only [ln]; omega) ?_
  rw [e1, e2, Int.sub_zero]
  exact kk
theorem j_s7_0 {x : Int} {v : Int} {q : Nat} (hdc : decode (mB M) pc = .ok (.iastore, 1)) (hq : pc + 1 = q) (hs : LA sh p) (hx : 0 ≤ x ∧ x < 8) (kk : J G sh M mc ms F q L S (lz m p (u1 z (15 + x) v)) k n) : J G sh M mc ms F pc L (.inl v :: .inl (x) :: .inr (.ref (ix p 7)) :: S) (lz m p z) k n := by
  have e1 : zi 7 (x) = 15 + x := by simp only [zi, cr] <;> omega
  have e2 : zo 7 (x) = 0 := by simp only [zo]
  refine j_sg (d := 7) (by decide) hdc hq hs (wr_id' (by omega) (by omega)) (by simp only [ln]; omega) ?_
  rw [e1, e2, show v + 0 = v from Int.add_zero v]
  exact kk
end

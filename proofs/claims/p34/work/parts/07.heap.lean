/-! ROWS OF J over the cells: fields, arrays, arrays from outside -/
section
variable {G : GX} {sh : List SH} {M : MI} {mc ms : Nat} {F : FinT} {pc : Nat} {L : List (Option PV)} {S : List PV} {m : Mem} {k n : Nat}
/-- what the tables say of a class of cells -/
def CF (ci : Nat) (C : String) (T : u_T) (N : Nat) (ty : Nat → FieldType) : Prop :=
  vwCl[ci]? = some (C, T, N) ∧ (∀ w ∈ u_ws C T N, w ∈ jall) ∧ (∀ k, k < N → parseFieldDescriptor (T k).2.2.1 = some (ty k)) ∧ ∀ a, a < N → ∀ b, b < N → a ≠ b → (T a).2.1 ≠ (T b).2.1
/-- a link to a field: reading -/
def FL (own : String) (idx ci j : Nat) : Prop := ∃ (C : String) (T : u_T) (N : Nat) (ty : Nat → FieldType), CF ci C T N ty ∧ j < N ∧ Cond.fieldLink own idx (T j).1 (T j).2.1 (T j).2.2.1 ∈ jall
/-- a link to a field that isn't final: writing -/
def FW (own : String) (idx ci j : Nat) (fty : FieldType) : Prop := ∃ (C : String) (T : u_T) (N : Nat) (ty : Nat → FieldType), CF ci C T N ty ∧ j < N ∧ Cond.fieldLink own idx (T j).1 (T j).2.1 (T j).2.2.1 ∈ jall ∧ (T j).2.2.2 = false ∧ parseFieldDescriptor (T j).2.2.1 = some fty
theorem jfl_at {ks : List (Nat ⊕ Nat)} {f : Int → Int} {j : Nat} {x : Nat ⊕ Nat} (hk : ks[j]? = some x) : (jfl G ks f)[j]? = some (jfv G x (f (j : Int))) := by
  have hj : j < ks.length := (List.getElem?_eq_some_iff.mp hk).1
  unfold jfl
  rw [List.getElem?_map, List.getElem?_range hj]
  simp [List.getD, hk]
theorem jfl_len {ks : List (Nat ⊕ Nat)} {f : Int → Int} : (jfl G ks f).length = ks.length := by simp [jfl]
theorem j_getf {c ci j idx q : Nat} {ks : List (Nat ⊕ Nat)} {x : Nat ⊕ Nat} {v : PV} (hd : decode (mB M) pc = .ok (.getfield idx, 3)) (hq : pc + 3 = q) (hf : FL (mY M).cls idx ci j) (hs : sh[c]? = some (.inl (ci, ks))) (hk : ks[j]? = some x) (hv : jfv G x (m c (j : Int)) = jv G v) (kk : J G sh M mc ms F q L (v :: S) m k n) : J G sh M mc ms F pc L (.inr (.ref c) :: S) m k n := by
  intro p e s mm args below meth c0 R C H locs ls hP hS hL
  subst hq
  obtain ⟨CC, T, N, ty, ⟨h1, h2, h3, h4⟩, h5, h6⟩ := hf
  exact va_get C.x C.b C.ts h2 C.own C.k hP c (jws_at hs) h1 j h5 (C.ts _ h6) (fun _ h => h) (v := jv G v) (by rw [← hv]; exact jfl_at hk) hd (kk p e s mm args below meth c0 R C H locs ls hP hS hL)
theorem j_getI {c ci idx q : Nat} (j : Nat) {j' : Int} {ks : List (Nat ⊕ Nat)} (hd : decode (mB M) pc = .ok (.getfield idx, 3)) (hq : pc + 3 = q) (hf : FL (mY M).cls idx ci j) (hs : sh[c]? = some (.inl (ci, ks))) (hk : ks[j]? = some (.inl 0)) (hj : (j : Int) = j') (kk : J G sh M mc ms F q L (.inl (m c j') :: S) m k n) : J G sh M mc ms F pc L (.inr (.ref c) :: S) m k n :=
  j_getf (v := .inl (m c j')) hd hq hf hs hk (by rw [hj]; rfl) kk
def lo (x : Int) : Int64 := Int64.ofInt x
theorem j_getL {c ci idx q : Nat} (j : Nat) {j' : Int} {ks : List (Nat ⊕ Nat)} (hd : decode (mB M) pc = .ok (.getfield idx, 3)) (hq : pc + 3 = q) (hf : FL (mY M).cls idx ci j) (hs : sh[c]? = some (.inl (ci, ks))) (hk : ks[j]? = some (.inl 1)) (hj : (j : Int) = j') (kk : J G sh M mc ms F q L (.inr (.long (lo (m c j'))) :: S) m k n) : J G sh M mc ms F pc L (.inr (.ref c) :: S) m k n :=
  j_getf (v := .inr (.long (lo (m c j')))) hd hq hf hs hk (by rw [hj]; rfl) kk
theorem j_getR {c ci idx q r : Nat} (j : Nat) {ks : List (Nat ⊕ Nat)} (hd : decode (mB M) pc = .ok (.getfield idx, 3)) (hq : pc + 3 = q) (hf : FL (mY M).cls idx ci j) (hs : sh[c]? = some (.inl (ci, ks))) (hk : ks[j]? = some (.inr r)) (kk : J G sh M mc ms F q L (.inr (.ref r) :: S) m k n) : J G sh M mc ms F pc L (.inr (.ref c) :: S) m k n :=
  j_getf (v := .inr (.ref r)) hd hq hf hs hk rfl kk
theorem jfl_up {ks : List (Nat ⊕ Nat)} {c : Nat} {j : Nat} {v : Int} {x : Nat ⊕ Nat} (hk : ks[j]? = some x) : (jfl G ks (m c)).set j (jfv G x v) = jfl G ks (up m c (j : Int) v c) := by
  apply List.ext_getElem?
  intro i
  rw [List.getElem?_set]
  by_cases hi : j = i
  · subst hi
    rw [if_pos rfl, jfl_len, if_pos (List.getElem?_eq_some_iff.mp hk).1, jfl_at hk]
    congr 2
    simp [up]
  · rw [if_neg hi]
    by_cases hl : i < ks.length
    · rw [jfl_at (List.getElem?_eq_getElem hl), jfl_at (List.getElem?_eq_getElem hl)]
      congr 2
      have : ¬ (i : Int) = (j : Int) := by omega
      simp [up, this]
    · rw [List.getElem?_eq_none (by rw [jfl_len]; omega), List.getElem?_eq_none (by rw [jfl_len]; omega)]
theorem j_putf {c ci j idx q : Nat} {ks : List (Nat ⊕ Nat)} {x : Nat ⊕ Nat} {v : PV} {v' : Int} {fty : FieldType} (hd : decode (mB M) pc = .ok (.putfield idx, 3)) (hq : pc + 3 = q) (hf : FW (mY M).cls idx ci j fty) (hs : sh[c]? = some (.inl (ci, ks))) (hk : ks[j]? = some x) (hv : jfv G x v' = jv G v) (hn : narrow fty (jv G v) = jv G v) (hft : fits fty (jv G v) = true) (kk : J G sh M mc ms F q L S (up m c (j : Int) v') k n) : J G sh M mc ms F pc L (v :: .inr (.ref c) :: S) m k n := by
  intro p e s mm args below meth c0 R C H locs ls hP hS hL
  subst hq
  obtain ⟨CC, T, N, ty, ⟨h1, h2, h3, h4⟩, h5, h6, h7, h8⟩ := hf
  refine va_put C.x C.b C.ts h2 ty h3 h4 C.own C.k hP (C.d m) hS c (jws_at hs) h1 j h5 (C.ts _ h6) (fun _ h => h) h7 h8 hn hft (by rw [jfl_len]; exact (List.getElem?_eq_some_iff.mp hk).1) hd (fun H1 locs1 hP1 hD1 hS1 => ?_)
  have e1 : (jws G sh m).set c (gA G c, .inr (ci, (jfl G ks (m c)).set j (jv G v))) = jws G sh (up m c (j : Int) v') := by
    refine jws_up hs ?_
    show Sum.inr (ci, jfl G ks (up m c (j : Int) v' c)) = _
    rw [← hv, jfl_up hk]
  have hP2 : va_P (gD G) vwCl (jws G sh (up m c (j : Int) v')) H1 := e1 ▸ hP1
  exact kk p e s mm args below meth c0 R C H1 locs1 ls hP2 hS1 hL
theorem j_putI {c ci idx q : Nat} {v : Int} (j : Nat) {j' : Int} {ks : List (Nat ⊕ Nat)} (hd : decode (mB M) pc = .ok (.putfield idx, 3)) (hq : pc + 3 = q) (hf : FW (mY M).cls idx ci j .int) (hs : sh[c]? = some (.inl (ci, ks))) (hk : ks[j]? = some (.inl 0)) (hj : (j : Int) = j') (kk : J G sh M mc ms F q L S (up m c j' v) k n) : J G sh M mc ms F pc L (.inl v :: .inr (.ref c) :: S) m k n :=
  j_putf (v := .inl v) (v' := v) hd hq hf hs hk rfl rfl rfl (by rw [hj]; exact kk)
theorem j_putL {c ci idx q : Nat} {v : Int64} (j : Nat) {j' : Int} {ks : List (Nat ⊕ Nat)} (hd : decode (mB M) pc = .ok (.putfield idx, 3)) (hq : pc + 3 = q) (hf : FW (mY M).cls idx ci j .long) (hs : sh[c]? = some (.inl (ci, ks))) (hk : ks[j]? = some (.inl 1)) (hj : (j : Int) = j') (kk : J G sh M mc ms F q L S (up m c j' v.toInt) k n) : J G sh M mc ms F pc L (.inr (.long v) :: .inr (.ref c) :: S) m k n :=
  j_putf (v := .inr (.long v)) (v' := v.toInt) hd hq hf hs hk (by show Value.long (Int64.ofInt v.toInt) = _; rw [Int64.ofInt_toInt]; rfl) rfl rfl (by rw [hj]; exact kk)
/-! arrays -/
theorem jin_of {i i' : Int} {n0 : Nat} (hi : wr i = i') (h0 : 0 ≤ i') (h1 : i' < n0) : vp_in (jI i) n0 ∧ ((jI i).toNatClampNeg : Int) = i' := by
  have e : (jI i).toInt = i' := hi
  have e2 : (jI i).toNatClampNeg = i'.toNat := by show (jI i).toInt.toNat = _; rw [e]
  refine ⟨fun h => ?_, by rw [e2]; omega⟩
  rcases h with h | h
  · have := Int32.lt_iff_toInt_lt.mp h
    rw [e] at this
    exact absurd this (by show ¬ i' < 0; omega)
  · rw [e2] at h; omega
theorem j_iaload {c n0 q : Nat} {i i' : Int} (hd : decode (mB M) pc = .ok (.iaload, 1)) (hq : pc + 1 = q) (hs : sh[c]? = some (.inr (0, n0))) (hi : wr i = i') (h0 : 0 ≤ i') (h1 : i' < n0) (kk : J G sh M mc ms F q L (.inl (m c i') :: S) m k n) : J G sh M mc ms F pc L (.inl i :: .inr (.ref c) :: S) m k n := by
  intro p e s mm args below meth c0 R C H locs ls hP hS hL
  subst hq
  obtain ⟨g1, g2⟩ := jin_of hi h0 h1
  have h := kk p e s mm args below meth c0 R C H locs ls hP hS hL
  rw [← g2] at h
  exact va_iald C.x C.b C.k hP c 0 (f := fun j => jI (m c (j : Int))) (jws_at hs) rfl g1 hd h
theorem j_aaload {c n0 q r : Nat} {i i' : Int} (hd : decode (mB M) pc = .ok (.aaload, 1)) (hq : pc + 1 = q) (hs : sh[c]? = some (.inr (2, n0))) (hi : wr i = i') (h0 : 0 ≤ i') (h1 : i' < n0) (hr : m c i' = (r : Int)) (kk : J G sh M mc ms F q L (.inr (.ref r) :: S) m k n) : J G sh M mc ms F pc L (.inl i :: .inr (.ref c) :: S) m k n := by
  intro p e s mm args below meth c0 R C H locs ls hP hS hL
  subst hq
  obtain ⟨g1, g2⟩ := jin_of hi h0 h1
  have h := kk p e s mm args below meth c0 R C H locs ls hP hS hL
  refine va_aldq C.x C.b C.k hP c 2 (f := fun j => jrf G (m c (j : Int))) (jws_at hs) rfl g1 hd ?_
  have e1 : va_rf (jrf G (m c (((jI i).toNatClampNeg : Nat) : Int))) = .ref (gA G r) := by
    rw [g2, hr]
    unfold jrf
    rw [if_neg (by omega)]
    rfl
  show W p (gL G) e R s mm args below meth c0 H locs k n (F below args s c0 meth) (F0 mm (pc + 1) ls (va_rf (jrf G (m c (((jI i).toNatClampNeg : Nat) : Int))) :: S.map (jv G)))
  rw [e1]
  exact h
theorem jup_arr {β : Type} {c : Nat} {i' v : Int} {z : Nat} (hz : (z : Int) = i') (g : Int → β) (f : Nat → β) (hf : f = fun (j : Nat) => g (m c (j : Int))) : (fun j : Nat => if j = z then g v else f j) = fun j : Nat => g (up m c i' v c (j : Int)) := by
  subst hf
  funext j
  by_cases h : j = z
  · subst h
    simp [up, hz]
  · have : ¬ (j : Int) = i' := by omega
    simp [up, h, this]
theorem j_iastore {c n0 q : Nat} {i i' v : Int} (hd : decode (mB M) pc = .ok (.iastore, 1)) (hq : pc + 1 = q) (hs : sh[c]? = some (.inr (0, n0))) (hi : wr i = i') (h0 : 0 ≤ i') (h1 : i' < n0) (kk : J G sh M mc ms F q L S (up m c i' v) k n) : J G sh M mc ms F pc L (.inl v :: .inl i :: .inr (.ref c) :: S) m k n := by
  intro p e s mm args below meth c0 R C H locs ls hP hS hL
  subst hq
  obtain ⟨g1, g2⟩ := jin_of hi h0 h1
  refine va_iast C.x C.b C.k hP (C.d m) hS c 0 (f := fun j => jI (m c (j : Int))) (jws_at hs) rfl g1 hd (fun H1 locs1 hP1 hD1 hS1 => ?_)
  have e1 := jws_up (G := G) (v := v) (j := i') (m := m) (e := .inl (gC G 0, n0, .inl (upd (fun j => jI (m c (j : Int))) (jI i).toNatClampNeg (jI v)))) hs (by
    show Sum.inl (gC G 0, n0, Sum.inl (fun j : Nat => jI (up m c i' v c (j : Int)))) = _
    rw [← jup_arr (m := m) g2 jI _ rfl]
    rfl)
  have hP2 : va_P (gD G) vwCl (jws G sh (up m c i' v)) H1 := e1 ▸ hP1
  exact kk p e s mm args below meth c0 R C H1 locs1 ls hP2 hS1 hL
theorem j_aastore {c n0 q r : Nat} {i i' : Int} {ks : List (Nat ⊕ Nat)} (hd : decode (mB M) pc = .ok (.aastore, 1)) (hq : pc + 1 = q) (hs : sh[c]? = some (.inr (2, n0))) (hr : sh[r]? = some (.inl (3, ks))) (hi : wr i = i') (h0 : 0 ≤ i') (h1 : i' < n0) (kk : J G sh M mc ms F q L S (up m c i' (r : Int)) k n) : J G sh M mc ms F pc L (.inr (.ref r) :: .inl i :: .inr (.ref c) :: S) m k n := by
  intro p e s mm args below meth c0 R C H locs ls hP hS hL
  subst hq
  obtain ⟨g1, g2⟩ := jin_of hi h0 h1
  refine va_astq C.x C.b C.k hP (C.d m) hS c 2 r 3 (r := (RX3, TX3, 11)) (f := fun j => jrf G (m c (j : Int))) (jws_at hs) rfl (jws_at hr) rfl g1 hd (fun H1 locs1 hP1 hD1 hS1 => ?_)
  have e1 := jws_up (G := G) (v := (r : Int)) (j := i') (m := m) (e := .inl (gC G 2, n0, .inr (.inr (.inr (.inr (va_up (fun j => jrf G (m c (j : Int))) (jI i).toNatClampNeg (some (gA G r)))))))) hs (by
    show Sum.inl (gC G 2, n0, Sum.inr (Sum.inr (Sum.inr (Sum.inr (fun j : Nat => jrf G (up m c i' (r : Int) c (j : Int))))))) = _
    rw [← jup_arr (m := m) g2 (jrf G) _ rfl]
    have e0 : jrf G (r : Int) = some (gA G r) := by unfold jrf; rw [if_neg (by omega)]; rfl
    rw [e0]
    rfl)
  have hP2 : va_P (gD G) vwCl (jws G sh (up m c i' (r : Int))) H1 := e1 ▸ hP1
  exact kk p e s mm args below meth c0 R C H1 locs1 ls hP2 hS1 hL
theorem j_alen {c n0 q : Nat} {v : Int} (hd : decode (mB M) pc = .ok (.arraylength, 1)) (hq : pc + 1 = q) (hs : sh[c]? = some (.inr (0, n0))) (hv : (n0 : Int) = v) (kk : J G sh M mc ms F q L (.inl v :: S) m k n) : J G sh M mc ms F pc L (.inr (.ref c) :: S) m k n := by
  intro p e s mm args below meth c0 R C H locs ls hP hS hL
  subst hq; subst hv
  exact va_alen C.x C.b C.k hP c 0 (jws_at hs) rfl (v := jI (n0 : Int)) Int32.ofInt_eq_ofNat.symm hd (kk p e s mm args below meth c0 R C H locs ls hP hS hL)
/-! arrays from outside -/
theorem j_oload {j q : Nat} {i i' : Int} (hj : j < 3) (hd : decode (mB M) pc = .ok (.iaload, 1)) (hq : pc + 1 = q) (hi : wr i = i') (h0 : 0 ≤ i') (h1 : i' < (gE G j).2.1) (kk : J G sh M mc ms F q L (.inl ((gE G j).2.2 i') :: S) m k n) : J G sh M mc ms F pc L (.inl i :: .inr (.retAddr j) :: S) m k n := by
  intro p e s mm args below meth c0 R C H locs ls hP hS hL
  subst hq
  obtain ⟨g1, g2⟩ := jin_of hi h0 h1
  exact va_ti C.x C.b (C.sf.2.2.2.1 j hj) hS g1 (v := .int (jI ((gE G j).2.2 i'))) (by rw [g2]) hd (kk p e s mm args below meth c0 R C H locs ls hP hS hL)
theorem j_olen {j q : Nat} (hj : j < 3) (hd : decode (mB M) pc = .ok (.arraylength, 1)) (hq : pc + 1 = q) (kk : J G sh M mc ms F q L (.inl ((gE G j).2.1 : Int) :: S) m k n) : J G sh M mc ms F pc L (.inr (.retAddr j) :: S) m k n := by
  intro p e s mm args below meth c0 R C H locs ls hP hS hL
  subst hq
  exact va_tlen C.x C.b (C.sf.2.2.2.1 j hj) hS (v := jI ((gE G j).2.1 : Int)) Int32.ofInt_eq_ofNat.symm hd (kk p e s mm args below meth c0 R C H locs ls hP hS hL)
theorem j_getMost {idx q : Nat} (hd : decode (mB M) pc = .ok (.getstatic idx, 3)) (hq : pc + 3 = q) (hl : Cond.fieldLink (mY M).cls idx RX7 "MOST_SETTINGS" "[I" ∈ jall) (kk : J G sh M mc ms F q L (.inr (.retAddr 1) :: S) m k n) : J G sh M mc ms F pc L S m k n := by
  intro p e s mm args below meth c0 R C H locs ls hP hS hL
  subst hq
  exact va_gets C.x C.b C.sf.2.2.1 hS C.own (C.ts _ hl) (fun _ h => h) hd (kk p e s mm args below meth c0 R C H locs ls hP hS hL)
end

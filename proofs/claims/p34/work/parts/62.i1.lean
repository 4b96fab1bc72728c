/-! CONSTRUCTORS: a list of shapes that grows; the addresses are in a row -/
def Lin (G : GX) : Prop := ∀ k, gA G k = gZ G + k
theorem Lin.ap {G : GX} {n : Nat} (h : Lin G) : jAp G n := ⟨fun i j _ _ e => by rw [h i, h j] at e; omega, fun i _ => by rw [h i]; omega⟩
/-- the first settings, an array from outside -/
def HX (G : GX) (U : State) : Prop := va_X (gE G 0).1 8 (fun i => jI ((gE G 0).2.2 (i : Int))) U U.heap
/-- over a heap of this size at the begin -/
def FH (G : GX) (n0 : Nat) (F : FinT) : FinT := fun below args s c meth t => (s.heap.size = gZ G + n0 ∧ HX G s) → F below args s c meth t
def FY (G : GX) (F : FinT) : FinT := fun below args s c meth t => HX G s → F below args s c meth t
/-- in a constructor -/
def FI (F : FinT) : FinT := fun below args s c meth t => meth.name = "<init>" → F below args s c meth t
theorem W.no {p : Program} {l : Launch} {e : Env} {R : Room} {s : State} {mm : MethodId} {args : Array Value} {below : List Frame} {meth : Method} {c : Code} {H : Heap} {locs : List Loc} {k n : Nat} {Q : State → Prop} {g : JFrame} (h : ∀ t, Q t) : W p l e R s mm args below meth c H locs k n Q g := fun _ _ _ => ⟨_, Steps.refl _, h _⟩
theorem W.imp {p : Program} {l : Launch} {e : Env} {R : Room} {s : State} {mm : MethodId} {args : Array Value} {below : List Frame} {meth : Method} {c : Code} {H : Heap} {locs : List Loc} {k n : Nat} {Q Q' : State → Prop} {g : JFrame} (h : ∀ t, Q t → Q' t) (kk : W p l e R s mm args below meth c H locs k n Q g) : W p l e R s mm args below meth c H locs k n Q' g := by
  intro T hT X
  obtain ⟨t, a, b⟩ := kk T hT X
  exact ⟨t, a, h t b⟩
theorem jws_push {G : GX} {sh : List SH} {m : Mem} {x : SH} : jws G (sh ++ [x]) m = jws G sh m ++ [(gA G sh.length, jel G x (m sh.length))] := by
  apply List.ext_getElem?
  intro i
  by_cases h : i < sh.length
  · rw [List.getElem?_append_left (by rw [jws_len]; exact h), jws_at (List.getElem?_eq_getElem h), jws_at (x := sh[i]) (by rw [List.getElem?_append_left h]; exact List.getElem?_eq_getElem h)]
  · by_cases h2 : i = sh.length
    · subst h2
      rw [jws_at (x := x) (by simp), List.getElem?_append_right (by rw [jws_len]; exact Nat.le_refl _), jws_len, Nat.sub_self]
      rfl
    · rw [List.getElem?_eq_none (by rw [jws_len, List.length_append, List.length_singleton]; omega), List.getElem?_eq_none (by rw [List.length_append, jws_len, List.length_singleton]; omega)]
theorem jws_setS {G : GX} {sh : List SH} {m : Mem} {c : Nat} {x : SH} (h : c < sh.length) : jws G (sh.set c x) m = (jws G sh m).set c (gA G c, jel G x (m c)) := by
  apply List.ext_getElem?
  intro i
  by_cases hi : i < sh.length
  · by_cases hc : c = i
    · subst hc
      rw [jws_at (x := x) (by rw [List.getElem?_set, if_pos rfl, if_pos hi]), List.getElem?_set, if_pos rfl, if_pos (by rw [jws_len]; exact hi)]
    · rw [jws_at (x := sh[i]) (by rw [List.getElem?_set, if_neg hc]; exact List.getElem?_eq_getElem hi), List.getElem?_set, if_neg hc, jws_at (List.getElem?_eq_getElem hi)]
  · rw [List.getElem?_eq_none (by rw [jws_len, List.length_set]; omega), List.getElem?_eq_none (by rw [List.length_set, jws_len]; omega)]
theorem jP_push {G : GX} {sh : List SH} {m : Mem} {x : SH} {H H1 : Heap} (hP : va_P (gD G) vwCl (jws G sh m) H) (o1 : ∀ q : Nat, q < H.size → H1[q]? = H[q]?) (hat : va_at (gD G) vwCl (gA G sh.length, jel G x (m sh.length)) H1) : va_P (gD G) vwCl (jws G (sh ++ [x]) m) H1 := by
  rw [jws_push]
  refine va_P.app (hP.kept fun k x hx => o1 x.1 ((hP k x hx).lt)) (fun k x hx => ?_)
  have hz : k < 1 := (List.getElem?_eq_some_iff.mp hx).1
  rw [show k = 0 by omega] at hx
  cases hx
  exact hat
theorem gx {pre l : List SH} {b d : Nat} {x : SH} (hb : pre.length = b) (h : l[d]? = some x) : (pre ++ l)[b + d]? = some x := by
  subst hb
  rw [List.getElem?_append_right (Nat.le_add_right _ _), Nat.add_sub_cancel_left]
  exact h
section
variable {G : GX} {sh pre l l' : List SH} {M : MI} {mc ms : Nat} {F : FinT} {pc : Nat} {L : List (Option PV)} {S : List PV} {m : Mem} {k n n0 b : Nat}
theorem Cx.to {sh' : List SH} {p : Program} {s : State} {mm : MethodId} {args : Array Value} {meth : Method} {c : Code} {R : Room} (C : Cx G sh M mc ms p s mm args meth c R) (hl : Lin G) : Cx G sh' M mc ms p s mm args meth c R := ⟨C.x, C.b, C.r, C.ml, C.own, C.lk, C.ts, C.sf, C.z, hl.ap, C.fl, C.room⟩
/-- what the size of the heap is -/
theorem j_sz (hl : Lin G) (hn : sh.length = n0 + k) (kk : ∀ (p : Program) (e : Env) (s : State) (mm : MethodId) (args : Array Value) (below : List Frame) (meth : Method) (c : Code) (R : Room), Cx G sh M mc ms p s mm args meth c R → s.heap.size = gZ G + n0 → HX G s → ∀ (H : Heap) (locs : List Loc) (ls : Array Slot), H.size = gZ G + sh.length → va_P (gD G) vwCl (jws G sh m) H → va_S (jA G) s.heap H locs → lv_has ls (mL M) (jl G 0 L) → W p (gL G) e R s mm args below meth c H locs k n (FH G n0 F below args s c meth) (F0 mm pc ls (S.map (jv G)))) : J G sh M mc ms (FH G n0 F) pc L S m k n := by
  intro p e s mm args below meth c R C H locs ls hP hS hL
  by_cases h0 : s.heap.size = gZ G + n0 ∧ HX G s
  · obtain ⟨h0, hX⟩ := h0
    intro T hT X
    have h1 := X.heapSize
    rw [hT] at h1
    have h2 : gZ G + sh.length ≤ H.size := by
      rcases Nat.eq_zero_or_pos sh.length with q | q
      · have := hS.1; omega
      · have h3 := (hP (sh.length - 1) _ (jws_at (List.getElem?_eq_getElem (by omega)))).lt
        have h4 : gA G (sh.length - 1) < H.size := h3
        rw [hl] at h4; omega
    exact kk p e s mm args below meth c R C h0 hX H locs ls (by omega) hP hS hL T hT X
  · exact W.no (fun t h => absurd h h0)
/-- a new object -/
theorem j_new {ci idx q N r : Nat} {CC : String} {T : u_T} {ty : Nat → FieldType} {ks : List (Nat ⊕ Nat)} (hl : Lin G) (hb : pre.length = b) (hn : b + l.length = n0 + k) (hr : b + l.length = r) (hl' : l ++ [.inl (ci, ks)] = l') (hc : CF ci CC T N ty) (hd : decode (mB M) pc = .ok (.new idx, 3)) (hq : pc + 3 = q) (hcl : Cond.classLink (mY M).cls idx CC ∈ jall) (hins : Cond.instantiable CC N ∈ jall) (hini : Cond.initialized CC ∈ jall) (hdef : ∀ j, j < N → defaultValue (ty j) = vp_V (jfl G ks (fun _ => 0)) j) (hz : m r = fun _ => 0) (hk : k + 1 ≤ mc) (hs : n + N ≤ ms) (kk : J G (pre ++ l') M mc ms (FH G n0 F) q L (.inr (.ref r) :: S) m (k + 1) (n + N)) : J G (pre ++ l) M mc ms (FH G n0 F) pc L S m k n := by
  have hlen : (pre ++ l).length = r := by rw [List.length_append, hb, hr]
  refine j_sz hl (by rw [hlen, ← hr, hn]) fun p e s mm args below meth c R C h0 hX H locs ls hH hP hS hL => ?_
  subst hq; subst hl'
  rw [hlen] at hH
  obtain ⟨h1, h2, h3, h4⟩ := hc
  have hKn := C.k.1 ci _ h1
  have er : gA G r = gZ G + r := hl r
  refine W.newcK C.x C.b C.own (C.ts _ hcl) (C.ts _ hins) (C.ts _ hini) rfl hd (by rw [C.room]; exact hk) (by rw [C.room]; exact hs) hKn.2.1 hH fun H1 kC hkC e1 z1 o1 => ?_
  have hP1 : va_P (gD G) vwCl (jws G (pre ++ (l ++ [.inl (ci, ks)])) m) H1 := by
    rw [← List.append_assoc]
    refine jP_push hP (fun q hq => o1 q (by omega)) ⟨_, h1, ?_⟩
    rw [hlen, er]
    show t_OB (gZ G + r) _ _ _ H1 (vp_V (jfl G ks (m r)))
    rw [hz]
    exact (u_born ty C.ts h2 hKn hkC e1 h3).to hdef
  have hS1 : va_S (jA G) s.heap H1 locs := ⟨by have := hS.1; omega, fun q a c => (o1 q (by have := hS.1; omega)).trans (hS.2.1 q a c), hS.2.2⟩
  have w := kk p e s mm args below meth c R (C.to hl) H1 locs ls hP1 hS1 hL
  have e2 : jv G (.inr (.ref r)) = .ref (gZ G + r) := by show Value.ref (gA G r) = _; rw [er]
  rw [List.map_cons, e2] at w
  exact w
/-- a new array of ints -/
theorem j_newI {q r N : Nat} {v : Int} (hl : Lin G) (hb : pre.length = b) (hn : b + l.length = n0 + k) (hr : b + l.length = r) (hl' : l ++ [.inr (0, N)] = l') (hd : decode (mB M) pc = .ok (.newarray .int, 2)) (hq : pc + 2 = q) (hv : wr v = (N : Int)) (hN : N ≤ 20000) (hz : m r = fun _ => 0) (hk : k + 1 ≤ mc) (hs : n + N ≤ ms) (kk : J G (pre ++ l') M mc ms (FH G n0 F) q L (.inr (.ref r) :: S) m (k + 1) (n + N)) : J G (pre ++ l) M mc ms (FH G n0 F) pc L (.inl v :: S) m k n := by
  have hlen : (pre ++ l).length = r := by rw [List.length_append, hb, hr]
  refine j_sz hl (by rw [hlen, ← hr, hn]) fun p e s mm args below meth c R C h0 hX H locs ls hH hP hS hL => ?_
  subst hq; subst hl'
  rw [hlen] at hH
  have er : gA G r = gZ G + r := hl r
  have f0 : (jI v).toInt = (N : Int) := hv
  refine va_newaK (atype := .int) C.x C.b (C.ts _ jw_75) rfl hd rfl (fun h => ?_) (N := N) (by show (jI v).toInt.toNat = N; rw [f0]; rfl) (by show N * 4 ≤ 536870912; omega) (by rw [C.room]; exact hk) (by rw [C.room]; exact hs) hH fun H1 cA e1 z1 o1 hAr hNm => ?_
  · have := Int32.lt_iff_toInt_lt.mp h
    rw [f0] at this
    exact absurd this (by show ¬ (N : Int) < 0; omega)
  have hcA : gC G 0 = cA := Option.some.inj ((C.k.2 0 _ rfl).2.symm.trans hNm)
  have hP1 : va_P (gD G) vwCl (jws G (pre ++ (l ++ [.inr (0, N)])) m) H1 := by
    rw [← List.append_assoc]
    refine jP_push hP (fun q hq => o1 q (by omega)) ?_
    rw [hlen, er]
    show H1[gZ G + r]? = some (vp_cell (gC G 0) (N, .inl (fun i => jI (m r (i : Int)))))
    rw [e1, vp_cell_i, hcA, hz]
    rfl
  have hS1 : va_S (jA G) s.heap H1 locs := ⟨by have := hS.1; omega, fun q a c => (o1 q (by have := hS.1; omega)).trans (hS.2.1 q a c), hS.2.2⟩
  have w := kk p e s mm args below meth c R (C.to hl) H1 locs ls hP1 hS1 hL
  have e2 : jv G (.inr (.ref r)) = .ref (gZ G + r) := by show Value.ref (gA G r) = _; rw [er]
  rw [List.map_cons, e2] at w
  exact w
/-- a new array of planes -/
theorem j_newP {idx q r N : Nat} {v : Int} (hl : Lin G) (hb : pre.length = b) (hn : b + l.length = n0 + k) (hr : b + l.length = r) (hl' : l ++ [.inr (2, N)] = l') (hd : decode (mB M) pc = .ok (.anewarray idx, 3)) (hq : pc + 3 = q) (hcl : Cond.classLink (mY M).cls idx RX3 ∈ jall) (hv : wr v = (N : Int)) (hN : N ≤ 20000) (hz : m r = fun _ => -1) (hk : k + 1 ≤ mc) (hs : n + N ≤ ms) (kk : J G (pre ++ l') M mc ms (FH G n0 F) q L (.inr (.ref r) :: S) m (k + 1) (n + N)) : J G (pre ++ l) M mc ms (FH G n0 F) pc L (.inl v :: S) m k n := by
  have hlen : (pre ++ l).length = r := by rw [List.length_append, hb, hr]
  refine j_sz hl (by rw [hlen, ← hr, hn]) fun p e s mm args below meth c R C h0 hX H locs ls hH hP hS hL => ?_
  subst hq; subst hl'
  rw [hlen] at hH
  have er : gA G r = gZ G + r := hl r
  have f0 : (jI v).toInt = (N : Int) := hv
  have f1 : (jI v).toNatClampNeg = N := by show (jI v).toInt.toNat = N; rw [f0]; rfl
  have hAO : va_AO RX3 s := C.sf.2.2.2.2.2.2.2.2.2.2.2
  refine W.anew C.x C.b C.own (C.ts _ hcl) (va_AO.use hAO) rfl hd rfl (fun h => ?_) (by rw [f1]; omega) (by rw [C.room]; exact hk) (by rw [C.room, f1]; exact hs) fun cA kA comp g1 g2 g3 g4 => ?_
  · have := Int32.lt_iff_toInt_lt.mp h
    rw [f0] at this
    exact absurd this (by show ¬ (N : Int) < 0; omega)
  rw [f1]
  generalize hH1 : H.push ({ cls := cA, slots := Array.replicate N .null, vm := .none } : Cell) = H1
  have z1 : H1.size = H.size + 1 := by rw [← hH1, Array.size_push]
  have e1 : H1[H.size]? = some (arrV cA N (fun _ => .null)) := by rw [← hH1, Array.getElem?_push_size, ← arrV_new]
  have o1 : ∀ q : Nat, q < H.size → H1[q]? = H[q]? := fun q hq => by rw [← hH1, Array.getElem?_push, if_neg (Nat.ne_of_lt hq)]
  obtain ⟨-, kA', comp', -, -, -, hNm⟩ := C.k.2 2 _ rfl
  have hcA : gC G 2 = cA := Option.some.inj (hNm.symm.trans g1)
  have hP1 : va_P (gD G) vwCl (jws G (pre ++ (l ++ [.inr (2, N)])) m) H1 := by
    rw [← List.append_assoc]
    refine jP_push hP o1 ?_
    rw [hlen, er]
    show H1[gZ G + r]? = some (vp_cell (gC G 2) (N, .inr (.inr (.inr (.inr (fun i => jrf G (m r (i : Int))))))))
    rw [← hH, e1, vp_cell_q, hcA, hz]
    rfl
  have hS1 : va_S (jA G) s.heap H1 locs := ⟨by have := hS.1; omega, fun q a c => (o1 q (by have := hS.1; omega)).trans (hS.2.1 q a c), hS.2.2⟩
  have w := kk p e s mm args below meth c R (C.to hl) H1 locs ls hP1 hS1 hL
  have e2 : jv G (.inr (.ref r)) = .ref H.size := by show Value.ref (gA G r) = _; rw [er, hH]
  rw [List.map_cons, e2] at w
  exact w
/-- a link to a final field of references, in its own constructor -/
def FR (own : String) (idx ci j : Nat) : Prop := ∃ (C : String) (T : u_T) (N : Nat) (ty : Nat → FieldType) (fty : FieldType), CF ci C T N ty ∧ j < N ∧ Cond.fieldLink own idx (T j).1 (T j).2.1 (T j).2.2.1 ∈ jall ∧ (T j).2.2.2 = true ∧ (T j).1 = own ∧ parseFieldDescriptor (T j).2.2.1 = some fty ∧ (∀ a, narrow fty (.ref a) = .ref a ∧ fits fty (.ref a) = true)
theorem jfl_setR {ks : List (Nat ⊕ Nat)} {j r : Nat} {f : Int → Int} : jfl G (ks.set j (.inr r)) f = (jfl G ks f).set j (.ref (gA G r)) := by
  apply List.ext_getElem?
  intro i
  by_cases hi : i < ks.length
  · by_cases hc : j = i
    · subst hc
      rw [jfl_at (x := .inr r) (by rw [List.getElem?_set, if_pos rfl, if_pos hi]), List.getElem?_set, if_pos rfl, if_pos (by rw [jfl_len]; exact hi)]
      rfl
    · rw [jfl_at (x := ks[i]) (by rw [List.getElem?_set, if_neg hc]; exact List.getElem?_eq_getElem hi), List.getElem?_set, if_neg hc, jfl_at (List.getElem?_eq_getElem hi)]
  · rw [List.getElem?_eq_none (by rw [jfl_len, List.length_set]; omega), List.getElem?_eq_none (by rw [List.length_set, jfl_len]; omega)]
/-- a final field is laid -/
theorem j_putR {c d ci j idx q r : Nat} {ks : List (Nat ⊕ Nat)} (hl : Lin G) (hb : pre.length = b) (hd : decode (mB M) pc = .ok (.putfield idx, 3)) (hq : pc + 3 = q) (hf : FR (mY M).cls idx ci j) (hs : l[d]? = some (.inl (ci, ks))) (hc : b + d = c) (hj : j < ks.length) (hl' : l.set d (.inl (ci, ks.set j (.inr r))) = l') (kk : J G (pre ++ l') M mc ms (FH G n0 (FI F)) q L S m k n) : J G (pre ++ l) M mc ms (FH G n0 (FI F)) pc L (.inr (.ref r) :: .inr (.ref c) :: S) m k n := by
  intro p e s mm args below meth c0 R C H locs ls hP hS hL
  by_cases hnm : meth.name = "<init>"
  · subst hq; subst hc; subst hl'
    obtain ⟨CC, T, N, ty, fty, ⟨h1, h2, h3, h4⟩, h5, h6, h7, h8, h9, h10⟩ := hf
    refine va_putF C.x C.b C.ts h2 ty h3 h4 C.own C.k hP (C.d m) hS (b + d) (jws_at (gx hb hs)) h1 j h5 (C.ts _ h6) (fun _ h => h) h7 hnm h8 h9 (h10 _).1 (h10 _).2 (by rw [jfl_len]; exact hj) hd (fun H1 locs1 hP1 hD1 hS1 => ?_)
    have hlt : d < l.length := (List.getElem?_eq_some_iff.mp hs).1
    have e1 : (jws G (pre ++ l) m).set (b + d) (gA G (b + d), .inr (ci, (jfl G ks (m (b + d))).set j (.ref (gA G r)))) = jws G (pre ++ l.set d (.inl (ci, ks.set j (.inr r)))) m := by
      have e2 : pre ++ l.set d (.inl (ci, ks.set j (.inr r))) = (pre ++ l).set (b + d) (.inl (ci, ks.set j (.inr r))) := by
        subst hb
        rw [List.set_append_right _ _ (Nat.le_add_right _ _), Nat.add_sub_cancel_left]
      rw [e2, jws_setS (by rw [List.length_append, hb]; omega)]
      show _ = (jws G (pre ++ l) m).set (b + d) (gA G (b + d), .inr (ci, jfl G (ks.set j (.inr r)) (m (b + d))))
      rw [jfl_setR]
    exact kk p e s mm args below meth c0 R (C.to hl) H1 locs1 ls (e1 ▸ hP1) hS1 hL
  · exact W.no (fun t _ h => absurd h hnm)
/-- Object's own constructor -/
theorem j_obj {c idx q : Nat} (hd : decode (mB M) pc = .ok (.invokespecial idx, 3)) (hq : pc + 3 = q) (hlk : Cond.methodLink (mY M).cls idx Lib.objectInit ∈ jall) (hin : Cond.instanceMethod Lib.objectInit ∈ jall) (hco : Cond.code Lib.objectInit ⟨#[0xb1]⟩ 1 none ∈ jall) (hrest : Nat.ble (jcats S) 8 = true) (hroom : 1 ≤ mF M ∧ 20 ≤ mW M) (kk : J G sh M mc ms F q L S m k n) : J G sh M mc ms F pc L (.inr (.ref c) :: S) m k n := by
  intro p e s mm args below meth c0 R C H locs ls hP hS hL
  subst hq
  have hr := lv_room (pc := pc) (ls := ls) (m := mm) (rest := (.inr (.ref c) :: S).map (jv G)) (st := S.map (jv G)) (by rw [jcats_eq]; exact Nat.le_of_ble_eq_true hrest)
  exact W.objInit C.x C.b C.own (C.ts _ hlk) (C.ts _ hin) (C.ts _ hco) rfl (hL.1.trans C.ml.symm) rfl hd (by rw [C.room]; exact hroom.1) (by rw [C.room]; show _ + 12 ≤ mW M; have := hroom.2; omega) (kk p e s mm args below meth c0 R C H locs ls hP hS hL)
end
theorem HX_go {G : GX} {s U : State} {H : Heap} {locs : List Loc} (h : HX G s) (hg : jSF G s) (hS : va_S (jA G) s.heap H locs) (hU : U.heap = H) (hW : s.WarmedH U.vm) : HX G U := by
  obtain ⟨cell, -, -, -, -, -, -, hA⟩ := hg.2.2.2.1 0 (by decide)
  obtain ⟨scr, h1, h2, h3⟩ := h
  refine ⟨scr, ?_, State.isArrayOf_alike hW.alike h2, h3⟩
  rw [hU, hS.2.1 _ (Array.getElem?_eq_some_iff.mp h1).1 hA]
  exact h1
/-- a constructor's contract: the shapes grow -/
def CG (G : GX) (sh : List SH) (M : MI) (mc ms : Nat) (a : List PV) (m : Mem) (sh' : List SH) (m' : Mem) : Prop :=
  Met (gL G) (mY M) (Cond.code (mY M) (mB M) (mL M) (mR M) :: jall) { frames := mF M, locals := mW M, cells := mc, slots := ms } (fun v U => jPc G sh a m v U ∧ U.heap.size = gZ G + sh.length ∧ HX G U) (jQc G sh' none m') mc ms (jA G)
theorem jg_met {G : GX} {sh sh' : List SH} {M : MI} {mc ms n0 : Nat} {a : List PV} {m m' : Mem} {L0 : List (Option PV)} (hl : Lin G) (hfl : (gL G).flags = flags0) (hy : plainName (mY M).cls = true) (hnm : (mY M).name = "<init>") (hL0 : jent (mL M) a = L0) (hlen : (jent1 a).length ≤ mL M) (hn0 : sh.length = n0) (body : J G sh M mc ms (FH G n0 (FI (FN G sh' mc ms none m'))) 0 L0 [] m 0 0) : CG G sh M mc ms a m sh' m' := by
  refine Met.ofW hy rfl ?_
  intro p e s mm args below meth c s1 B hml hP
  obtain ⟨⟨rfl, h1, h2, h3⟩, h4, h5⟩ := hP
  have hin : meth.name = "<init>" := (name_of_methodNamed B.named B.method).1.trans hnm
  have hts0 := atoms_spec (ws := Cond.code (mY M) (mB M) (mL M) (mR M) :: jall) B.pre
  rw [lg_entry_eq]
  refine W.imp (fun t h => h ⟨by rw [← hn0]; exact h4, h5⟩ hin) (body p e s mm _ below meth c _ ⟨B.exec, B.bytes, B.returns, hml, findClass_of_methodNamed B.named, B.notSynchronized, fun w hw => hts0 w (List.mem_cons_of_mem _ hw), h1, h2, hl.ap, hfl, rfl⟩ s.heap [] _ h3 va_S.rf ?_)
  rw [← hL0, jent_jl]
  exact lv_entry _ (by rw [jent1_len]; exact hlen)
section
variable {G : GX} {sh sh' : List SH} {M : MI} {mc ms : Nat} {F : FinT} {pc : Nat} {L : List (Option PV)} {S : List PV} {m m' : Mem} {k n n0 : Nat}
theorem jg_blind {a : List PV} : FrameBlind (fun v U => jPc G sh a m v U ∧ U.heap.size = gZ G + sh.length ∧ HX G U) := fun v U g mk h => h
theorem jg_call {Mc : MI} {b idx q c' s' : Nat} (hl : Lin G) (hn0 : sh.length = n0 + k) (hd : decode (mB M) pc = .ok (.invokespecial idx, 3)) (hq : pc + 3 = q) (hi : KC Mc 0) (hlk : Cond.methodLink (mY M).cls idx (mY Mc) ∈ jall) (hroom : mF Mc + 1 ≤ mF M ∧ 8 + (mL Mc + 11) + mW Mc ≤ mW M) (hret : mR Mc = none) (hrest : Nat.ble (jcats S) 8 = true) (hk : k + c' ≤ mc) (hn : n + s' ≤ ms) (hM : CG G sh Mc c' s' [.inr (.ref b)] m sh' m') (kk : J G sh' M mc ms (FH G n0 F) q L S m' (k + c') (n + s')) : J G sh M mc ms (FH G n0 F) pc L (.inr (.ref b) :: S) m k n := by
  refine j_sz hl hn0 fun p e s mm args below meth c0 R C h0 hX H locs ls hH hP hS hL => ?_
  subst hq
  have cw0 := jcb (c' := c') (s' := s') C hi.1 hlk hroom
  have hM2 : Met _ _ _ _ _ _ _ _ _ := hM
  rw [hret] at cw0 hM2
  have hrun := va_runI (H := H) (locs := locs) (cells := k) (slots := n) (below := below) (meth := meth) (e := e) (As := []) (rest := S.map (jv G)) (g := F0 mm pc ls ((.inr (.ref b) :: S).map (jv G))) ⟨C.x, C.b, C.ml, C.own, C.ts⟩ hM2 ⟨cw0, hi.2.1, C.ts _ hi.2.2⟩ ⟨jg_blind, fun U hU hW => ⟨jpre C.sf C.z hP hS hU hW, by rw [hU]; exact hH, HX_go hX C.sf hS hU hW⟩⟩ rfl rfl hL.1 rfl (lv_room (pc := pc) (ls := ls) (m := mm) (rest := (.inr (.ref b) :: S).map (jv G)) (by rw [jcats_eq]; exact Nat.le_of_ble_eq_true hrest)) hd (by rw [C.room]; exact ⟨hk, hn⟩)
  exact jcall (r := none) hrun (fun st o t h => h) hS (fun H1 locs1 h1 h2 => kk p e s mm args below meth c0 R (C.to hl) H1 locs1 ls h1 h2 hL)
theorem jg_callN {Mc : MI} {b idx q c' s' : Nat} (hl : Lin G) (hn0 : sh.length = n0 + k) (hd : decode (mB M) pc = .ok (.invokespecial idx, 3)) (hq : pc + 3 = q) (hi : KC Mc 0) (hlk : ((mY M).cls, idx, mY Mc) ∈ jnest) (hroom : mF Mc + 1 ≤ mF M ∧ 8 + (mL Mc + 11) + mW Mc ≤ mW M) (hret : mR Mc = none) (hrest : Nat.ble (jcats S) 8 = true) (hk : k + c' ≤ mc) (hn : n + s' ≤ ms) (hM : CG G sh Mc c' s' [.inr (.ref b)] m sh' m') (kk : J G sh' M mc ms (FH G n0 F) q L S m' (k + c') (n + s')) : J G sh M mc ms (FH G n0 F) pc L (.inr (.ref b) :: S) m k n := by
  refine j_sz hl hn0 fun p e s mm args below meth c0 R C h0 hX H locs ls hH hP hS hL => ?_
  subst hq
  have cw0 := jcn (c' := c') (s' := s') C hi.1 hlk hroom
  have hM2 : Met _ _ _ _ _ _ _ _ _ := hM
  rw [hret] at cw0 hM2
  have hrun := va_runIN (H := H) (locs := locs) (cells := k) (slots := n) (below := below) (meth := meth) (e := e) (As := []) (rest := S.map (jv G)) (g := F0 mm pc ls ((.inr (.ref b) :: S).map (jv G))) ⟨C.x, C.b, C.ml, C.own, C.ts⟩ hM2 ⟨cw0, hi.2.1, C.ts _ hi.2.2⟩ ⟨jg_blind, fun U hU hW => ⟨jpre C.sf C.z hP hS hU hW, by rw [hU]; exact hH, HX_go hX C.sf hS hU hW⟩⟩ rfl rfl hL.1 rfl (lv_room (pc := pc) (ls := ls) (m := mm) (rest := (.inr (.ref b) :: S).map (jv G)) (by rw [jcats_eq]; exact Nat.le_of_ble_eq_true hrest)) hd (by rw [C.room]; exact ⟨hk, hn⟩)
  exact jcall (r := none) hrun (fun st o t h => h) hS (fun H1 locs1 h1 h2 => kk p e s mm args below meth c0 R (C.to hl) H1 locs1 ls h1 h2 hL)
theorem jg_return (hd : decode (mB M) pc = .ok (.return_, 1)) (hr : mR M = none) (hs : sh = sh') (hm : m = m') : J G sh M k n (FH G n0 (FI (FN G sh' k n none m'))) pc L [] m k n := by
  subst hs
  intro p e s mm args below meth c R C H locs ls hP hS hL
  exact W.imp (fun t h _ _ => h) (j_return hd hr hm p e s mm args below meth c R C H locs ls hP hS hL)
/-- shapes, memory and the places below them -/
theorem j_shp (hs : sh = sh') (kk : J G sh' M mc ms F pc L S m k n) : J G sh M mc ms F pc L S m k n := by subst hs; exact kk
/-- a copy of the first settings -/
theorem j_copyO {b idx q : Nat} (h8 : (gE G 0).2.1 = 8) (hd : decode (mB M) pc = .ok (.invokestatic idx, 3)) (hq : pc + 3 = q) (hl : Cond.methodLink (mY M).cls idx arraycopyName ∈ jall) (hb : sh[b]? = some (.inr (0, 8))) (hroom : 1 ≤ mF M ∧ jcats S + 40 ≤ mW M) (kk : J G sh M mc ms (FY G F) q L S (cpP m b (gE G 0).2.2 8) k n) : J G sh M mc ms (FY G F) pc L (.inl 8 :: .inl 0 :: .inr (.ref b) :: .inl 0 :: .inr (.retAddr 0) :: S) m k n := by
  intro p e s mm args below meth c0 R C H locs ls hP hS hL
  by_cases hX : HX G s
  · subst hq
    have z0 : (jI 0).toNatClampNeg = 0 := rfl
    have zN : (jI 8).toNatClampNeg = 8 := rfl
    have n8 : ¬ jI 8 < 0 := by decide
    have n0 : ¬ jI 0 < 0 := by decide
    have hf1 : 1 ≤ R.frames := by rw [C.room]; exact hroom.1
    have hl1 : ((S.map (jv G)).map fun v => v.category).sum + (nativeFrameWords "java/lang/System" "arraycopy" 5 + 11) ≤ R.locals := by
      have h1 : nativeFrameWords "java/lang/System" "arraycopy" 5 + 11 ≤ 40 := by decide
      have h2 := hroom.2
      rw [jcats_eq, C.room]
      show jcats S + _ ≤ mW M
      omega
    obtain ⟨cell, a1, -, -, -, -, -, hA⟩ := C.sf.2.2.2.1 0 (by decide)
    refine va_copyx C.x C.b (C.ml.trans hL.1.symm) C.own (C.ts _ hl) (C.ts _ jw_168) (C.ts _ jw_167) (C.ts _ jw_9) C.k hP (C.d m) hS hX (Array.getElem?_eq_some_iff.mp a1).1 hA b 0 (g := fun j => jI (m b (j : Int))) (jws_at hb) rfl n0 n0 n8 (by rw [z0, zN]; omega) (by rw [z0, zN]; omega) hf1 hl1 hd (fun H1 locs1 hP1 hD1 hS1 => ?_)
    have e1 := jws_set (G := G) (m := m) (m' := cpP m b (gE G 0).2.2 8) (k := b) hb (e := .inl (gC G 0, 8, .inl (va_cpy (fun j => jI ((gE G 0).2.2 (j : Int))) (fun j => jI (m b (j : Int))) (jI 0).toNatClampNeg (jI 0).toNatClampNeg (jI 8).toNatClampNeg))) (by
      show Sum.inl (gC G 0, 8, Sum.inl (fun j : Nat => jI (cpP m b (gE G 0).2.2 8 b (j : Int)))) = _
      congr 4
      funext j
      unfold va_cpy cpP
      rw [z0, zN]
      by_cases h : j < 8
      · rw [if_pos ⟨rfl, by omega, by omega⟩, if_pos (by omega), show 0 + (j - 0) = j by omega]
      · rw [if_neg (by omega), if_neg (by omega)]) (fun i hi => by funext j; unfold cpP; rw [if_neg (fun q => hi q.1)])
    exact kk p e s mm args below meth c0 R C H1 locs1 ls (e1 ▸ hP1) hS1 hL
  · exact W.no (fun t h => absurd h hX)
end
section
variable {G : GX} {sh sh' : List SH} {M : MI} {mc ms : Nat} {F : FinT} {pc : Nat} {L : List (Option PV)} {S : List PV} {m m' : Mem} {k n n0 : Nat}
theorem j_getFirst {idx q : Nat} (hd : decode (mB M) pc = .ok (.getstatic idx, 3)) (hq : pc + 3 = q) (hl : (mY M).cls = RX3) (hi : idx = 62) (kk : J G sh M mc ms F q L (.inr (.retAddr 0) :: S) m k n) : J G sh M mc ms F pc L S m k n := by
  intro p e s mm args below meth c R C H locs ls hP hS hL
  subst hq; subst hi
  have ho := C.own
  rw [hl] at ho
  exact va_getsN C.x C.b C.sf.2.1 hS ho (C.sf.2.2.2.2.2.2.2.2.1.use rfl) (fun _ h => h) hd (kk p e s mm args below meth c R C H locs ls hP hS hL)
theorem jx_met {a : List PV} {r : Option PV} {L0 : List (Option PV)} (hy : plainName (mY M).cls = true) (hap : jAp G sh.length) (hfl : (gL G).flags = flags0) (hL0 : jent (mL M) a = L0) (hlen : (jent1 a).length ≤ mL M) (body : J G sh M mc ms (FY G (FN G sh mc ms r m')) 0 L0 [] m 0 0) : Met (gL G) (mY M) (Cond.code (mY M) (mB M) (mL M) (mR M) :: jall) { frames := mF M, locals := mW M, cells := mc, slots := ms } (fun v U => jPc G sh a m v U ∧ HX G U) (jQc G sh r m') mc ms (jA G) := by
  refine Met.ofW hy rfl ?_
  intro p e s mm args below meth c s1 B hml hP
  obtain ⟨⟨rfl, h1, h2, h3⟩, h4⟩ := hP
  have hts0 := atoms_spec (ws := Cond.code (mY M) (mB M) (mL M) (mR M) :: jall) B.pre
  rw [lg_entry_eq]
  refine W.imp (fun t h => h h4) (body p e s mm _ below meth c _ ⟨B.exec, B.bytes, B.returns, hml, findClass_of_methodNamed B.named, B.notSynchronized, fun w hw => hts0 w (List.mem_cons_of_mem _ hw), h1, h2, hap, hfl, rfl⟩ s.heap [] _ h3 va_S.rf ?_)
  rw [← hL0, jent_jl]
  exact lv_entry _ (by rw [jent1_len]; exact hlen)
theorem jx_return (hd : decode (mB M) pc = .ok (.return_, 1)) (hr : mR M = none) (hm : m = m') : J G sh M k n (FY G (FN G sh k n none m')) pc L [] m k n := by
  intro p e s mm args below meth c R C H locs ls hP hS hL
  exact W.imp (fun t h _ => h) (j_return hd hr hm p e s mm args below meth c R C H locs ls hP hS hL)
theorem co_copyRow {b : Nat} (hl : Lin G) (hfl : (gL G).flags = flags0) (h8 : (gE G 0).2.1 = 8) (hb : sh[b]? = some (.inr (0, 8))) : Met (gL G) (mY iX7_copyRow) (Cond.code (mY iX7_copyRow) (mB iX7_copyRow) (mL iX7_copyRow) (mR iX7_copyRow) :: jall) { frames := mF iX7_copyRow, locals := mW iX7_copyRow, cells := 0, slots := 0 } (fun v U => jPc G sh [.inr (.retAddr 0), .inr (.ref b)] m v U ∧ HX G U) (jQc G sh none (cpP m b (gE G 0).2.2 8)) 0 0 (jA G) := by
  refine jx_met (L0 := [some (.inr (.retAddr 0)), some (.inr (.ref b))]) (by decide) hl.ap hfl rfl (Nat.le_of_ble_eq_true rfl) ?_
  refine j_oload0 (q := 1) dX7_copyRow_0 rfl ?_
  refine j_iconst (q := 2) dX7_copyRow_1 rfl ?_
  refine j_aload1 (q := 3) dX7_copyRow_2 rfl ?_
  refine j_iconst (q := 4) dX7_copyRow_3 rfl ?_
  refine j_oload0 (q := 5) dX7_copyRow_4 rfl ?_
  refine j_olen (q := 6) (by decide) dX7_copyRow_5 rfl ?_
  rw [h8, show ((8 : Nat) : Int) = 8 from rfl]
  refine j_aload1 (q := 7) dX7_copyRow_6 rfl ?_
  refine j_alen (q := 8) (v := 8) dX7_copyRow_7 rfl hb rfl ?_
  refine j_min (q := 11) dX7_copyRow_8 rfl jw_163 ⟨by decide, Nat.le_of_ble_eq_true rfl⟩ (Nat.le_refl _) (Nat.le_refl _) ?_
  rw [ite_self]
  refine j_copyO (q := 14) h8 dX7_copyRow_11 rfl jw_166 hb ⟨by decide, Nat.le_of_ble_eq_true rfl⟩ ?_
  exact jx_return dX7_copyRow_14 rfl rfl
theorem jg_copyO {b idx q : Nat} (hl : Lin G) (hfl : (gL G).flags = flags0) (h8 : (gE G 0).2.1 = 8) (hn0 : sh.length = n0 + k) (hd : decode (mB M) pc = .ok (.invokestatic idx, 3)) (hq : pc + 3 = q) (hlk : ((mY M).cls, idx, mY iX7_copyRow) ∈ jnest) (hroom : mF iX7_copyRow + 1 ≤ mF M ∧ 8 + (mL iX7_copyRow + 11) + mW iX7_copyRow ≤ mW M) (hrest : Nat.ble (jcats S) 8 = true) (hk : k + 0 ≤ mc) (hn : n + 0 ≤ ms) (hb : sh[b]? = some (.inr (0, 8))) (kk : J G sh M mc ms (FH G n0 F) q L S (cpP m b (gE G 0).2.2 8) (k + 0) (n + 0)) : J G sh M mc ms (FH G n0 F) pc L (.inr (.ref b) :: .inr (.retAddr 0) :: S) m k n := by
  refine j_sz hl hn0 fun p e s mm args below meth c0 R C h0 hX H locs ls hH hP hS hL => ?_
  subst hq
  have hrun := va_runSN (H := H) (locs := locs) (cells := k) (slots := n) (below := below) (meth := meth) (e := e) (As := [jv G (.inr (.retAddr 0)), jv G (.inr (.ref b))]) (rest := S.map (jv G)) (g := F0 mm pc ls ((.inr (.ref b) :: .inr (.retAddr 0) :: S).map (jv G))) ⟨C.x, C.b, C.ml, C.own, C.ts⟩ (co_copyRow (m := m) hl hfl h8 hb) ⟨jcn C kS_X7_copyRow.1 hlk hroom, C.ts _ kS_X7_copyRow.2, trivial⟩ ⟨fun v U g mk h => h, fun U hU hW => ⟨jpre C.sf C.z hP hS hU hW, HX_go hX C.sf hS hU hW⟩⟩ rfl rfl hL.1 rfl (lv_room (pc := pc) (ls := ls) (m := mm) (rest := (.inr (.ref b) :: .inr (.retAddr 0) :: S).map (jv G)) (by rw [jcats_eq]; exact Nat.le_of_ble_eq_true hrest)) hd (by rw [C.room]; exact ⟨hk, hn⟩)
  exact jcall (r := none) hrun (fun st o t h => h) hS (fun H1 locs1 h1 h2 => kk p e s mm args below meth c0 R (C.to hl) H1 locs1 ls h1 h2 hL)
/-- a row filled -/
theorem lp_fill {a N : Nat} {v : Int} (ha : sh[a]? = some (.inr (0, N))) (hN : N ≤ 600) : ∀ (d : Nat) (i : Int), 0 ≤ i → i + d = N → J G sh iJ7_fill_53178 0 0 (FN G sh 0 0 none (cpP m a (fun _ => v) N)) 5 [some (.inr (.ref a)), some (.inl v), some (.inl i), some (.inl (N : Int))] [] (cpP m a (fun _ => v) i) 0 0 := by
  intro d
  induction d with
  | zero =>
    intro i g0 g1
    refine j_iload2 (q := 6) dJ7_fill_53178_5 rfl ?_
    refine j_iload3 (q := 7) dJ7_fill_53178_6 rfl ?_
    refine j_icmp_ge (tgt := 20) (q := 10) dJ7_fill_53178_7 (by decide) rfl (wr_id' (by omega) (by omega)) (wr_id' (by omega) (by omega)) (fun h7 => ?_) (fun h7 => ?_)
    · obtain rfl : i = N := by omega
      exact j_return dJ7_fill_53178_20 rfl rfl
    · omega
  | succ d ih =>
    intro i g0 g1
    refine j_iload2 (q := 6) dJ7_fill_53178_5 rfl ?_
    refine j_iload3 (q := 7) dJ7_fill_53178_6 rfl ?_
    refine j_icmp_ge (tgt := 20) (q := 10) dJ7_fill_53178_7 (by decide) rfl (wr_id' (by omega) (by omega)) (wr_id' (by omega) (by omega)) (fun h7 => ?_) (fun h7 => ?_)
    · omega
    · refine j_aload0 (q := 11) dJ7_fill_53178_10 rfl ?_
      refine j_iload2 (q := 12) dJ7_fill_53178_11 rfl ?_
      refine j_iload1 (q := 13) dJ7_fill_53178_12 rfl ?_
      refine j_iastore (q := 14) dJ7_fill_53178_13 rfl ha (wr_id' (by omega) (by omega)) (by omega) (by omega) ?_
      refine j_iinc2 (q := 17) dJ7_fill_53178_14 rfl rfl (by decide) ?_
      refine j_goto (tgt := 5) dJ7_fill_53178_17 (by decide) ?_
      refine j_mem (m' := cpP m a (fun _ => v) (i + 1)) (cpP_s (f := fun _ => v) g0) ?_
      exact ih _ (by omega) (by omega)
theorem ct_fill {a N : Nat} {v : Int} (hap : jAp G sh.length) (hfl : (gL G).flags = flags0) (ha : sh[a]? = some (.inr (0, N))) (hN : N ≤ 600) : CT G sh iJ7_fill_53178 0 0 [.inr (.ref a), .inl v] m none (cpP m a (fun _ => v) N) := by
  refine j_met (L0 := [some (.inr (.ref a)), some (.inl v), none, none]) (by decide) hap hfl rfl (Nat.le_of_ble_eq_true rfl) ?_
  refine j_iconst (q := 1) dJ7_fill_53178_0 rfl ?_
  refine j_istore2 (q := 2) dJ7_fill_53178_1 rfl rfl (by decide) ?_
  refine j_aload0 (q := 3) dJ7_fill_53178_2 rfl ?_
  refine j_alen (q := 4) (v := N) dJ7_fill_53178_3 rfl ha rfl ?_
  refine j_istore3 (q := 5) dJ7_fill_53178_4 rfl rfl (by decide) ?_
  refine j_mem (m' := cpP m a (fun _ => v) 0) cpP_0 ?_
  exact lp_fill ha hN N 0 (by omega) (by omega)
theorem up0 {c : Nat} {j : Int} (h : m c j = 0) : up m c j 0 = m := by
  funext a b
  unfold up
  by_cases q : a = c ∧ b = j
  · rw [if_pos q, q.1, q.2, h]
  · rw [if_neg q]
end

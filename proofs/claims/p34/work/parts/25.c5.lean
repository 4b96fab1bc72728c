/-! exceptions in J -/
theorem jw_15 : (Jvm.Cond.initialized "java/lang/IndexOutOfBoundsException") ∈ jall := jt 18 (by decide +kernel) rfl
theorem jw_16 : (Jvm.Cond.initialized "java/lang/IllegalArgumentException") ∈ jall := jt 16 (by decide +kernel) rfl
theorem jw_18 : (Jvm.Cond.initialized "java/lang/IllegalStateException") ∈ jall := jt 17 (by decide +kernel) rfl
theorem jw_312 : (Jvm.Cond.instanceMethod ({ cls := "java/lang/RuntimeException", name := "<init>", desc := "(Ljava/lang/String;)V" } : Jvm.MethodName)) ∈ jall := jt 392 (by decide +kernel) rfl
theorem jw_315 : (Jvm.Cond.instanceMethod ({ cls := "java/lang/Exception", name := "<init>", desc := "(Ljava/lang/String;)V" } : Jvm.MethodName)) ∈ jall := jt 395 (by decide +kernel) rfl
theorem jw_318 : (Jvm.Cond.instanceMethod ({ cls := "java/lang/Throwable", name := "<init>", desc := "(Ljava/lang/String;)V" } : Jvm.MethodName)) ∈ jall := jt 398 (by decide +kernel) rfl
theorem dcl_of {s : State} {args : Array Value} {x : MethodName} {b : ByteArray} {n : Nat} {r : Option FieldType} (h1 : (Cond.instanceMethod x).before args s = true) (h2 : (Cond.code x b n r).before args s = true) : (Cond.declares x).before args s = true := by
  obtain ⟨mk, methM, hnamed, hmethM, hstM, habM⟩ := Cond.instanceMethod_spec h1
  obtain ⟨methM', cM, hmethM', -, -, -, -, -, -, hsigM⟩ := Cond.code_spec hnamed h2
  cases hmethM.symm.trans hmethM'
  simp [Cond.before, Cond.holds, Cond.value, hnamed, hmethM, hstM, hsigM]
abbrev xBad (X : String) : List Cond := [Cond.castable X X, Cond.declares ⟨"java/lang/RuntimeException", "<init>", "(Ljava/lang/String;)V"⟩, Cond.declares ⟨"java/lang/Exception", "<init>", "(Ljava/lang/String;)V"⟩, Cond.declares ⟨"java/lang/Throwable", "<init>", "(Ljava/lang/String;)V"⟩]
abbrev xNames : List String := ["java/lang/RuntimeException", "java/lang/Exception"]
theorem xl_jXO : (vx_atS RX7 397 jXO xNames).filter goodWord = [13, 368, 377, 381, 384, 386, 369, 370, 28, 29, 371, 376, 382, 402, 358, 403, 360, 404, 362, 372, 374, 364, 398, 399, 401, 364, 461, 462, 463, 392, 392, 393, 394, 395, 395, 396, 397, 398, 460, 451, 453, 380, 454, 455, 456, 457, 367, 366, 458].filterMap (fun i => tables_1[i]?) := by decide +kernel
theorem xg_jXO : ∀ w ∈ (vx_atS RX7 397 jXO xNames).filter goodWord, w ∈ jall := fun w hw => by
  have hg := (List.mem_filter.mp hw).2
  rw [xl_jXO] at hw
  obtain ⟨i, -, hi⟩ := List.mem_filterMap.mp hw
  exact List.mem_filter.mpr ⟨List.mem_append_right _ (List.mem_of_getElem? hi), hg⟩
theorem xb_jXO : ∀ w ∈ (vx_atS RX7 397 jXO xNames).filter (fun w => !goodWord w), w ∈ xBad jXO := by decide +kernel
theorem xo_jXO : ∀ w ∈ Cond.classLink RX7 393 jXO :: Cond.initialized jXO :: vx_atS RX7 397 jXO xNames, vx_ot w = true := by decide +kernel
theorem xl_jXA : (vx_atS RX7 411 jXA xNames).filter goodWord = [13, 368, 377, 381, 384, 386, 369, 370, 28, 29, 371, 376, 382, 402, 358, 403, 360, 404, 362, 372, 374, 364, 398, 399, 401, 364, 389, 390, 391, 392, 392, 393, 394, 395, 395, 396, 397, 398, 388, 347, 355, 356, 357, 359, 361, 363, 367, 366, 365].filterMap (fun i => tables_1[i]?) := by decide +kernel
theorem xg_jXA : ∀ w ∈ (vx_atS RX7 411 jXA xNames).filter goodWord, w ∈ jall := fun w hw => by
  have hg := (List.mem_filter.mp hw).2
  rw [xl_jXA] at hw
  obtain ⟨i, -, hi⟩ := List.mem_filterMap.mp hw
  exact List.mem_filter.mpr ⟨List.mem_append_right _ (List.mem_of_getElem? hi), hg⟩
theorem xb_jXA : ∀ w ∈ (vx_atS RX7 411 jXA xNames).filter (fun w => !goodWord w), w ∈ xBad jXA := by decide +kernel
theorem xo_jXA : ∀ w ∈ Cond.classLink RX7 407 jXA :: Cond.initialized jXA :: vx_atS RX7 411 jXA xNames, vx_ot w = true := by decide +kernel
theorem xl_jXS : (vx_atS RX7 416 jXS xNames).filter goodWord = [13, 368, 377, 381, 384, 386, 369, 370, 28, 29, 371, 376, 382, 402, 358, 403, 360, 404, 362, 372, 374, 364, 398, 399, 401, 364, 716, 717, 718, 392, 392, 393, 394, 395, 395, 396, 397, 398, 715, 706, 708, 379, 709, 710, 711, 712, 367, 366, 713].filterMap (fun i => tables_1[i]?) := by decide +kernel
theorem xg_jXS : ∀ w ∈ (vx_atS RX7 416 jXS xNames).filter goodWord, w ∈ jall := fun w hw => by
  have hg := (List.mem_filter.mp hw).2
  rw [xl_jXS] at hw
  obtain ⟨i, -, hi⟩ := List.mem_filterMap.mp hw
  exact List.mem_filter.mpr ⟨List.mem_append_right _ (List.mem_of_getElem? hi), hg⟩
theorem xb_jXS : ∀ w ∈ (vx_atS RX7 416 jXS xNames).filter (fun w => !goodWord w), w ∈ xBad jXS := by decide +kernel
theorem xo_jXS : ∀ w ∈ Cond.classLink RX7 412 jXS :: Cond.initialized jXS :: vx_atS RX7 416 jXS xNames, vx_ot w = true := by decide +kernel
/-- what a throw needs of its class -/
def XT (X : String) (ik ic : Nat) : Prop := Bundle.fit X = true ∧ Cond.classLink RX7 ik X ∈ jall ∧ Cond.initialized X ∈ jall ∧ (∀ w ∈ (vx_atS RX7 ic X xNames).filter goodWord, w ∈ jall) ∧ (∀ w ∈ (vx_atS RX7 ic X xNames).filter (fun w => !goodWord w), w ∈ xBad X) ∧ (∀ w ∈ Cond.classLink RX7 ik X :: Cond.initialized X :: vx_atS RX7 ic X xNames, vx_ot w = true) ∧ X ∈ jcast
theorem xt_jXO : XT jXO 393 397 := ⟨by decide +kernel, jw_266, jw_15, xg_jXO, xb_jXO, xo_jXO, by decide⟩
theorem xt_jXA : XT jXA 407 411 := ⟨by decide +kernel, jw_339, jw_16, xg_jXA, xb_jXA, xo_jXA, by decide⟩
theorem xt_jXS : XT jXS 412 416 := ⟨by decide +kernel, jw_717, jw_18, xg_jXS, xb_jXS, xo_jXS, by decide⟩
def jXC (G : GX) (sh : List SH) (X : String) (m' : Mem) : String → State → State → Prop := fun E st t => E = X ∧ va_P (gD G) vwCl (jws G sh m') t.heap ∧ va_F (jA G) st t
def jNo : Array Value → State → Outcome → State → Prop := fun _ _ _ _ => False
/-- a contract of a method that throws X and leaves the memory m' -/
def CTX (G : GX) (sh : List SH) (M : MI) (mc ms : Nat) (a : List PV) (m : Mem) (X : String) (m' : Mem) : Prop :=
  vx_Met (gL G) (mY M) (Cond.code (mY M) (mB M) (mL M) (mR M) :: jall) { frames := mF M, locals := mW M, cells := mc, slots := ms } (jPc G sh a m) jNo (jXC G sh X m') mc ms (jA G)
def FX (G : GX) (sh : List SH) (mc ms : Nat) (X : String) (m' : Mem) : FinT := fun below args s c _ t => (∀ x ∈ c.exceptionTable.toList, False) → vx_MQ below jNo (jXC G sh X m') args s mc ms (jA G) t
theorem j_metX {G : GX} {sh : List SH} {M : MI} {mc ms : Nat} {a : List PV} {m m' : Mem} {X : String} {L0 : List (Option PV)} (hy : plainName (mY M).cls = true) (hap : jAp G sh.length) (hfl : (gL G).flags = flags0) (hL0 : jent (mL M) a = L0) (hlen : (jent1 a).length ≤ mL M) (body : J G sh M mc ms (FX G sh mc ms X m') 0 L0 [] m 0 0) : CTX G sh M mc ms a m X m' := by
  refine vx_ofW hy rfl ?_
  intro p e s mm args below meth c s1 B hml ht hP
  obtain ⟨rfl, h1, h2, h3⟩ := hP
  have hts0 := atoms_spec (ws := Cond.code (mY M) (mB M) (mL M) (mR M) :: jall) B.pre
  rw [lg_entry_eq]
  have hb := body p e s mm _ below meth c _ ⟨B.exec, B.bytes, B.returns, hml, findClass_of_methodNamed B.named, B.notSynchronized, fun w hw => hts0 w (List.mem_cons_of_mem _ hw), h1, h2, hap, hfl, rfl⟩ s.heap [] ((lg_sl (a.map (jv G)) ++ List.replicate (mL M - (lg_sl (a.map (jv G))).length) Slot.unset).toArray) h3 va_S.rf (by rw [← hL0, jent_jl]; exact lv_entry _ (by rw [jent1_len]; exact hlen))
  intro T hT Xs
  obtain ⟨t, a1, b1⟩ := hb T hT Xs
  exact ⟨t, a1, b1 ht⟩
section
variable {G : GX} {sh : List SH} {M : MI} {mc ms : Nat} {F : FinT} {pc : Nat} {L : List (Option PV)} {S : List PV} {m m' : Mem} {k n : Nat}
end
section
variable {p : Program} {e : Env} {R : Room} {s : State} {mm : MethodId} {args : Array Value} {below : List Frame} {meth : Method} {c0 : Code} {H : Heap} {locs : List Loc} {Q : State → Prop} {G : GX} {sh : List SH} {M : MI} {mc ms : Nat} {pc : Nat} {S : List PV} {m m' : Mem} {k n : Nat} {ls : Array Slot} {st0 rest : List Value}
theorem jcallX {c' s' : Nat} {X : String} {Qa : State → Outcome → State → Prop} (hr : vx_Run p (gL G) e R s mm args below meth c0 H locs k n c' s' (F0 mm pc ls st0) rest Qa (jXC G sh X m') (jA G)) (hQ : ∀ st o t, ¬ Qa st o t) (hS : va_S (jA G) s.heap H locs)
    (kk : ∀ (H1 : Heap) (locs1 : List Loc) (q : Addr) (ce : Cell), va_P (gD G) vwCl (jws G sh m') H1 → va_S (jA G) s.heap H1 locs1 → H1[q]? = some ce → ce.vm = .none → s.vm.findClass X = some ce.cls → vx_W p (gL G) e R s mm args below meth c0 H1 locs1 (k + c') (n + s') Q (F0 mm pc ls rest) q) : W p (gL G) e R s mm args below meth c0 H locs k n Q (F0 mm pc ls st0) := by
  intro T hT Xs
  rcases hr T hT Xs with ⟨v, st₀, t, T', L, h0, X', hL, e1, e2, hq, st⟩ | ⟨q, st₀, t, T', L, E, ce, h0, X', hL, e1, e2, ⟨rfl, h2, hz, hk⟩, hce, hcv, hcl, st⟩
  · exact absurd hq (hQ _ _ _)
  · rw [h0] at hz hk
    rw [← e1] at h2 hz hk hce
    obtain ⟨t2, a1, b1⟩ := kk T'.heap (locs ++ L) q ce h2 ⟨Nat.le_trans hS.1 hz, fun q g1 g2 => by rw [hk q (Nat.lt_of_lt_of_le g1 hS.1) g2]; exact hS.2.1 q g1 g2, fun q hq => by
      rcases List.mem_append.mp hq with h | h
      · exact hS.2.2 q h
      · exact hL q h⟩ hce hcv hcl T' rfl X'
    exact ⟨t2, st.trans a1, b1⟩
/-- nothing is caught: on to the caller -/
theorem jpassX {X : String} {H1 : Heap} {locs1 : List Loc} {q : Addr} {ce : Cell} (C : Cx G sh M mc ms p s mm args meth c0 R) (hP : va_P (gD G) vwCl (jws G sh m') H1) (hS : va_S (jA G) s.heap H1 locs1) (hce : H1[q]? = some ce) (hcv : ce.vm = .none) (hcl : s.vm.findClass X = some ce.cls) (hk : k ≤ mc) (hn : n ≤ ms) : vx_W p (gL G) e R s mm args below meth c0 H1 locs1 k n (FX G sh mc ms X m' below args s c0 meth) (F0 mm pc ls rest) q := by
  by_cases ht : ∀ x ∈ c0.exceptionTable.toList, False
  · have h := vx_out (Qc := jNo) (XC := jXC G sh X m') (p := p) (l := gL G) (e := e) (R := R) (below := below) (pc := pc) (ls := ls) (rest := rest) (args := args) (m := mm) (free := jA G) (mc := mc) (ms := ms) (cells := k) (slots := n) (fun x hx => absurd (ht x hx) id) C.lk hce hcv hcl (fun t h1 _ => ⟨rfl, by rw [h1]; exact hP, hS.F h1⟩) hS.2.2 hk hn
    intro T hT Xs
    obtain ⟨t, a1, b1⟩ := h T hT Xs
    exact ⟨t, a1, fun _ => b1⟩
  · exact fun T hT Xs => ⟨_, Steps.refl _, fun h => absurd h ht⟩
end
section
variable {G : GX} {sh : List SH} {M : MI} {mc ms : Nat} {F : FinT} {pc : Nat} {L : List (Option PV)} {S : List PV} {m m' : Mem} {k n : Nat}
theorem j_callSX1 {Mc : MI} {v0 : PV} {X : String} {idx c' s' : Nat} (hd : decode (mB M) pc = .ok (.invokestatic idx, 3)) (hi : KS Mc 1) (hl : Cond.methodLink (mY M).cls idx (mY Mc) ∈ jall) (hroom : mF Mc + 1 ≤ mF M ∧ 8 + (mL Mc + 11) + mW Mc ≤ mW M) (hrest : Nat.ble (jcats S) 8 = true) (hk : k + c' ≤ mc) (hn : n + s' ≤ ms) (hM : CTX G sh Mc c' s' [v0] m X m') : J G sh M mc ms (FX G sh mc ms X m') pc L (v0 :: S) m k n := by
  intro p e s mm args below meth c0 R C H locs ls hP hS hL
  have hp : PreS s H (jPc G sh [v0] m) [jv G v0] := ⟨jPc.blind, fun U hU hW => jpre C.sf C.z hP hS hU hW⟩
  have hrun := vx_runS (H := H) (locs := locs) (cells := k) (slots := n) (below := below) (meth := meth) (e := e) (As := [jv G v0]) (rest := S.map (jv G)) (g := F0 mm pc ls ((v0 :: S).map (jv G))) ⟨C.x, C.b, C.ml, C.own, C.ts⟩ hM ⟨jcb C hi.1 hl hroom, C.ts _ hi.2⟩ hp rfl rfl hL.1 rfl (lv_room (pc := pc) (ls := ls) (m := mm) (rest := S.map (jv G)) (by rw [jcats_eq]; exact Nat.le_of_ble_eq_true hrest)) hd (by rw [C.room]; exact ⟨hk, hn⟩)
  exact jcallX hrun (fun _ _ _ h => h) hS (fun H1 locs1 q ce h1 h2 h3 h4 h5 => jpassX C h1 h2 h3 h4 h5 hk hn)
theorem j_callVX1 {Mc : MI} {v0 : PV} {X : String} {b ci : Nat} {ks : List (Nat ⊕ Nat)} {q0 : vw_C} {idx c' s' : Nat} (hd : decode (mB M) pc = .ok (.invokevirtual idx, 3)) (hi : KV Mc 1) (hl : Cond.methodLink (mY M).cls idx (mY Mc) ∈ jall) (hroom : mF Mc + 1 ≤ mF M ∧ 8 + (mL Mc + 11) + mW Mc ≤ mW M) (hb : sh[b]? = some (.inl (ci, ks))) (hc : vwCl[ci]? = some q0) (hcl : q0.1 = (mY Mc).cls) (hrest : Nat.ble (jcats S) 8 = true) (hk : k + c' ≤ mc) (hn : n + s' ≤ ms) (hM : CTX G sh Mc c' s' [.inr (.ref b), v0] m X m') : J G sh M mc ms (FX G sh mc ms X m') pc L (v0 :: .inr (.ref b) :: S) m k n := by
  intro p e s mm args below meth c0 R C H locs ls hP hS hL
  obtain ⟨cell, g1, g2, g3⟩ := va_recv C.k hP hc (jws_at hb)
  rw [hcl] at g3
  have hp : PreV s H (mY Mc).cls (gA G b) (jPc G sh [.inr (.ref b), v0] m) [jv G v0] := ⟨jPc.blind, ⟨cell, g1, g2, g3⟩, fun U hU hW => jpre C.sf C.z hP hS hU hW⟩
  have hrun := vx_runV (H := H) (locs := locs) (cells := k) (slots := n) (below := below) (meth := meth) (e := e) (As := [jv G v0]) (rest := S.map (jv G)) (g := F0 mm pc ls ((v0 :: .inr (.ref b) :: S).map (jv G))) ⟨C.x, C.b, C.ml, C.own, C.ts⟩ hM ⟨jcb C hi.1 hl hroom, C.ts _ hi.2.1, C.ts _ hi.2.2⟩ hp rfl rfl hL.1 rfl (lv_room (pc := pc) (ls := ls) (m := mm) (rest := S.map (jv G)) (by rw [jcats_eq]; exact Nat.le_of_ble_eq_true hrest)) hd (by rw [C.room]; exact ⟨hk, hn⟩)
  exact jcallX hrun (fun _ _ _ h => h) hS (fun H1 locs1 q ce h1 h2 h3 h4 h5 => jpassX C h1 h2 h3 h4 h5 hk hn)
end

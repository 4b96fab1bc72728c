/-! CONTRACTS AND CALLS IN J -/
theorem jgood {w : Cond} (h : w ∈ jall) : goodWord w = true := (List.mem_filter.mp h).2
theorem jGoodIn {ws : List Cond} (h : ∀ w ∈ ws, w ∈ jall) : GoodIn jall ws := fun w hw => ⟨h w hw, good_of_word (jgood (h w hw))⟩
theorem jSF.go {G : GX} {s U : State} {H : Heap} {locs : List Loc} (h : jSF G s) (hS : va_S (jA G) s.heap H locs) (hU : U.heap = H) (hW : s.WarmedH U.vm) : jSF G U := by
  obtain ⟨hK, z1, z2, t, q1, q2, st, nm, nf, ca, nc, ao⟩ := h
  have hv := hW.alike
  have hk : ∀ a : Nat, a < s.heap.size → ¬ jA G a → U.heap[a]? = s.heap[a]? := fun a h1 h2 => by rw [hU]; exact hS.2.1 a h1 h2
  refine ⟨hK.moved hv, (z1.moved hv).kept hk, (z2.moved hv).kept hk, fun j hj => ((t j hj).moved hv).kept hk, (q1.moved hv).kept hk, (q2.moved hv).kept hk, fun q hq => ?_, fun q hq => ?_, va_Nw.warmF hW nf, fun q hq => (ca q hq).warmC hW, fun q hq => (nc q hq).moved hv, ao.moved hv⟩
  · obtain ⟨a, ha⟩ := st q hq
    exact ⟨a, ha.warm hW⟩
  · exact va_Nw.warmM hW (nm q hq)
def jPc (G : GX) (sh : List SH) (a : List PV) (m : Mem) : Array Value → State → Prop := fun v U => v = (a.map (jv G)).toArray ∧ jSF G U ∧ gZ G ≤ U.heap.size ∧ va_P (gD G) vwCl (jws G sh m) U.heap
def jQc (G : GX) (sh : List SH) (r : Option PV) (m' : Mem) : Array Value → State → Outcome → State → Prop := fun _ st o t => o = .returned (r.map (jv G)) ∧ va_P (gD G) vwCl (jws G sh m') t.heap ∧ va_F (jA G) st t
/-- a contract: with these arguments, over this memory, the method returns r and leaves the memory m' -/
def CT (G : GX) (sh : List SH) (M : MI) (mc ms : Nat) (a : List PV) (m : Mem) (r : Option PV) (m' : Mem) : Prop :=
  Met (gL G) (mY M) (Cond.code (mY M) (mB M) (mL M) (mR M) :: jall) { frames := mF M, locals := mW M, cells := mc, slots := ms } (jPc G sh a m) (jQc G sh r m') mc ms (jA G)
theorem jPc.blind {G : GX} {sh : List SH} {a : List PV} {m : Mem} : FrameBlind (jPc G sh a m) := fun v U g mk h => h
/-- a method's end: its answer, its memory -/
def FN (G : GX) (sh : List SH) (mc ms : Nat) (r : Option PV) (m' : Mem) : FinT := fun below args s _ _ => MQ below (jQc G sh r m') args s mc ms (jA G)
/-- the locals at a method's begin -/
def jent1 : List PV → List (Option PV)
  | [] => []
  | v :: r => if jcat v = 2 then some v :: none :: jent1 r else some v :: jent1 r
def jent (n : Nat) (a : List PV) : List (Option PV) := jent1 a ++ List.replicate (n - (jent1 a).length) none
theorem jent1_len (G : GX) (a : List PV) : (lg_sl (a.map (jv G))).length = (jent1 a).length := by
  induction a with
  | nil => rfl
  | cons v r ih =>
    simp only [lg_sl] at ih
    by_cases h : jcat v = 2 <;> simp [lg_sl, jent1, jcat_eq, h, ih]
theorem jl_append {G : GX} : ∀ (a b : List (Option PV)) (i : Nat), jl G i (a ++ b) = jl G i a ++ jl G (i + a.length) b
  | [], b, i => by simp [jl]
  | none :: r, b, i => by simp [jl, jl_append r b (i + 1)]; congr 1; omega
  | some v :: r, b, i => by simp [jl, jl_append r b (i + 1)]; congr 1; omega
theorem jl_none {G : GX} : ∀ (n i : Nat), jl G i (List.replicate n none) = []
  | 0, i => rfl
  | n + 1, i => by rw [List.replicate_succ, jl, jl_none n]
theorem jent_jl (G : GX) (n : Nat) (a : List PV) : jl G 0 (jent n a) = lv_args 0 (a.map (jv G)) := by
  have h : ∀ (a : List PV) (i : Nat), jl G i (jent1 a) = lv_args i (a.map (jv G)) := by
    intro a
    induction a with
    | nil => intro i; rfl
    | cons v r ih =>
      intro i
      by_cases h : jcat v = 2 <;> simp [jl, jent1, lv_args, jcat_eq, h, ih]
  unfold jent
  rw [jl_append, jl_none, List.append_nil, h]
theorem j_met {G : GX} {sh : List SH} {M : MI} {mc ms : Nat} {a : List PV} {m m' : Mem} {r : Option PV} {L0 : List (Option PV)} (hy : plainName (mY M).cls = true) (hap : jAp G sh.length) (hfl : (gL G).flags = flags0) (hL0 : jent (mL M) a = L0) (hlen : (jent1 a).length ≤ mL M) (body : J G sh M mc ms (FN G sh mc ms r m') 0 L0 [] m 0 0) : CT G sh M mc ms a m r m' := by
  refine Met.ofW hy rfl ?_
  intro p e s mm args below meth c s1 B hml hP
  obtain ⟨rfl, h1, h2, h3⟩ := hP
  have hts0 := atoms_spec (ws := Cond.code (mY M) (mB M) (mL M) (mR M) :: jall) B.pre
  rw [lg_entry_eq]
  refine body p e s mm _ below meth c _ ⟨B.exec, B.bytes, B.returns, hml, findClass_of_methodNamed B.named, B.notSynchronized, fun w hw => hts0 w (List.mem_cons_of_mem _ hw), h1, h2, hap, hfl, rfl⟩ s.heap [] _ h3 va_S.rf ?_
  rw [← hL0, jent_jl]
  exact lv_entry _ (by rw [jent1_len]; exact hlen)
section
variable {G : GX} {sh : List SH} {M : MI} {mc ms : Nat} {F : FinT} {pc : Nat} {L : List (Option PV)} {S : List PV} {m : Mem} {k n : Nat}
/-! returns -/
theorem j_ireturn {v v' : Int} {m' : Mem} (hd : decode (mB M) pc = .ok (.ireturn, 1)) (hr : mR M = some .int) (hv : jI v = jI v') (hm : m = m') : J G sh M k n (FN G sh k n (some (.inl v')) m') pc L [.inl v] m k n := by
  intro p e s mm args below meth c R C H locs ls hP hS hL
  subst hm
  exact W.iret C.x C.b (C.r.trans hr) (fun t ht hW => ⟨by show _ = Outcome.returned (some (.int (jI v'))); rw [← hv], by rw [ht]; exact hP, hS.F ht⟩) hS.2.2 hd C.lk
theorem j_zreturn {v v' : Int} {m' : Mem} (hd : decode (mB M) pc = .ok (.ireturn, 1)) (hr : mR M = some .boolean) (hz : v = 0 ∨ v = 1) (hv : v = v') (hm : m = m') : J G sh M k n (FN G sh k n (some (.inl v')) m') pc L [.inl v] m k n := by
  intro p e s mm args below meth c R C H locs ls hP hS hL
  subst hm; subst hv
  exact W.zret C.x C.b (C.r.trans hr) (by rcases hz with rfl | rfl <;> rfl) (fun t ht hW => ⟨rfl, by rw [ht]; exact hP, hS.F ht⟩) hS.2.2 hd C.lk
theorem j_lreturn {v v' : Int64} {m' : Mem} (hd : decode (mB M) pc = .ok (.lreturn, 1)) (hr : mR M = some .long) (hv : v = v') (hm : m = m') : J G sh M k n (FN G sh k n (some (.inr (.long v'))) m') pc L [.inr (.long v)] m k n := by
  intro p e s mm args below meth c R C H locs ls hP hS hL
  subst hm; subst hv
  exact W.lret C.x C.b (C.r.trans hr) (fun t ht hW => ⟨rfl, by rw [ht]; exact hP, hS.F ht⟩) hS.2.2 hd C.lk
theorem j_dreturn {v v' : UInt64} {m' : Mem} (hd : decode (mB M) pc = .ok (.dreturn, 1)) (hr : mR M = some .double) (hv : v = v') (hm : m = m') : J G sh M k n (FN G sh k n (some (.inr (.double v'))) m') pc L [.inr (.double v)] m k n := by
  intro p e s mm args below meth c R C H locs ls hP hS hL
  subst hm; subst hv
  exact W.dret C.x C.b (C.r.trans hr) (fun t ht hW => ⟨rfl, by rw [ht]; exact hP, hS.F ht⟩) hS.2.2 hd C.lk
theorem j_return {m' : Mem} (hd : decode (mB M) pc = .ok (.return_, 1)) (hr : mR M = none) (hm : m = m') : J G sh M k n (FN G sh k n none m') pc L [] m k n := by
  intro p e s mm args below meth c R C H locs ls hP hS hL
  subst hm
  exact W.vret C.x C.b (C.r.trans hr) (fun t ht hW => ⟨rfl, by rw [ht]; exact hP, hS.F ht⟩) hS.2.2 hd C.lk
end
/-- what the tables say of a method that is called -/
def KI (Mc : MI) (n : Nat) : Prop := Cond.code (mY Mc) (mB Mc) (mL Mc) (mR Mc) ∈ jall ∧ Cond.initialized (mY Mc).cls ∈ jall ∧ ((mY Mc).cls ≠ "java/lang/invoke/MethodHandle" ∧ (mY Mc).cls ≠ "java/lang/invoke/VarHandle" ∧ (parseMethodDescriptor (mY Mc).desc).map (fun d => d.parameters.length) = some n)
def KV (Mc : MI) (n : Nat) : Prop := KI Mc n ∧ Cond.instanceMethod (mY Mc) ∈ jall ∧ Cond.selects (mY Mc).cls (mY Mc) (mY Mc) ∈ jall
def KS (Mc : MI) (n : Nat) : Prop := KI Mc n ∧ Cond.static (mY Mc) ∈ jall
def KC (Mc : MI) (n : Nat) : Prop := KI Mc n ∧ (mY Mc).name = "<init>" ∧ Cond.instanceMethod (mY Mc) ∈ jall
section
variable {p : Program} {e : Env} {R : Room} {s : State} {mm : MethodId} {args : Array Value} {below : List Frame} {meth : Method} {c0 : Code} {H : Heap} {locs : List Loc} {Q : State → Prop} {G : GX} {sh : List SH} {M : MI} {mc ms : Nat} {pc : Nat} {S : List PV} {m m' : Mem} {k n : Nat} {ls : Array Slot} {st0 : List Value}
theorem jcall {c' s' : Nat} {r : Option PV} {Qa : State → Outcome → State → Prop} (hr : va_Run p (gL G) e R s mm args below meth c0 H locs k n c' s' (F0 mm pc ls st0) (S.map (jv G)) Qa (jA G)) (hQ : ∀ (st : State) (o : Outcome) (t : State), Qa st o t → o = .returned (r.map (jv G)) ∧ va_P (gD G) vwCl (jws G sh m') t.heap ∧ va_F (jA G) st t) (hS : va_S (jA G) s.heap H locs)
    (kk : ∀ (H1 : Heap) (locs1 : List Loc), va_P (gD G) vwCl (jws G sh m') H1 → va_S (jA G) s.heap H1 locs1 → W p (gL G) e R s mm args below meth c0 H1 locs1 (k + c') (n + s') Q (F0 mm (pc + 3) ls ((r.toList ++ S).map (jv G)))) : W p (gL G) e R s mm args below meth c0 H locs k n Q (F0 mm pc ls st0) := by
  intro T hT X
  obtain ⟨v, st₀, t, T', L, h0, X', hL, e1, e2, hq, st⟩ := hr T hT X
  obtain ⟨h1, h2, hz, hk⟩ := hQ _ _ _ hq
  have hv : v = r.map (jv G) := by cases h1; rfl
  rw [h0] at hz hk
  rw [← e1] at h2 hz hk
  obtain ⟨t2, a1, b1⟩ := kk T'.heap (locs ++ L) h2 ⟨Nat.le_trans hS.1 hz, fun q g1 g2 => by rw [hk q (Nat.lt_of_lt_of_le g1 hS.1) g2]; exact hS.2.1 q g1 g2, fun q hq => by
      rcases List.mem_append.mp hq with h | h
      · exact hS.2.2 q h
      · exact hL q h⟩ T' rfl X'
  refine ⟨t2, st t2 ?_, b1⟩
  rw [hv]
  have e3 : (r.map (jv G)).toList ++ S.map (jv G) = (r.toList ++ S).map (jv G) := by cases r <;> rfl
  rw [e3]
  exact a1
theorem jcb {Mc : MI} {idx c' s' nn : Nat} (C : Cx G sh M mc ms p s mm args meth c0 R) (hi : KI Mc nn) (hl : Cond.methodLink (mY M).cls idx (mY Mc) ∈ jall) (hroom : mF Mc + 1 ≤ mF M ∧ 8 + (mL Mc + 11) + mW Mc ≤ mW M) : CallB R s args (mY M).cls idx (mY Mc) (mB Mc) (mL Mc) (mR Mc) (Cond.code (mY Mc) (mB Mc) (mL Mc) (mR Mc) :: jall) { frames := mF Mc, locals := mW Mc, cells := c', slots := s' } c' s' nn := by
  obtain ⟨h1, h2, h3⟩ := hi
  refine callB_of nn C.ts (jGoodIn fun w hw => ?_) rfl rfl rfl (C.ts _ h2) (C.ts _ hl) h3 (by rw [C.room]; exact hroom)
  rcases List.mem_cons.mp hw with rfl | h
  · exact h1
  · exact h
theorem jcn {Mc : MI} {idx c' s' nn : Nat} (C : Cx G sh M mc ms p s mm args meth c0 R) (hi : KI Mc nn) (hl : ((mY M).cls, idx, mY Mc) ∈ jnest) (hroom : mF Mc + 1 ≤ mF M ∧ 8 + (mL Mc + 11) + mW Mc ≤ mW M) : va_CN R s args (mY M).cls idx (mY Mc) RX7 (mB Mc) (mL Mc) (mR Mc) (Cond.code (mY Mc) (mB Mc) (mL Mc) (mR Mc) :: jall) { frames := mF Mc, locals := mW Mc, cells := c', slots := s' } c' s' nn := by
  obtain ⟨h1, h2, h3⟩ := hi
  refine va_cnB nn C.ts (jGoodIn fun w hw => ?_) rfl rfl rfl (C.sf.2.2.2.2.2.2.2.1 _ hl) (C.ts _ h2) h3 (by rw [C.room]; exact hroom)
  rcases List.mem_cons.mp hw with rfl | h
  · exact h1
  · exact h
end
section
variable {G : GX} {sh : List SH} {M : MI} {mc ms : Nat} {F : FinT} {pc : Nat} {L : List (Option PV)} {S : List PV} {m : Mem} {k n : Nat}
theorem jpre {s : State} {H : Heap} {locs : List Loc} {a : List PV} {U : State} (hsf : jSF G s) (hz : gZ G ≤ s.heap.size) (hP : va_P (gD G) vwCl (jws G sh m) H) (hS : va_S (jA G) s.heap H locs) (hU : U.heap = H) (hW : s.WarmedH U.vm) : jPc G sh a m (a.map (jv G)).toArray U :=
  ⟨rfl, hsf.go hS hU hW, by rw [hU]; exact Nat.le_trans hz hS.1, by rw [hU]; exact hP⟩
theorem j_callV0 {Mc : MI} {b ci : Nat} {ks : List (Nat ⊕ Nat)} {q0 : vw_C} {r : PV} {m' : Mem} {idx q c' s' : Nat} (hd : decode (mB M) pc = .ok (.invokevirtual idx, 3)) (hq : pc + 3 = q) (hi : KV Mc 0) (hl : Cond.methodLink (mY M).cls idx (mY Mc) ∈ jall) (hroom : mF Mc + 1 ≤ mF M ∧ 8 + (mL Mc + 11) + mW Mc ≤ mW M) (hb : sh[b]? = some (.inl (ci, ks))) (hc : vwCl[ci]? = some q0) (hcl : q0.1 = (mY Mc).cls) (hrest : Nat.ble (jcats S) 8 = true) (hk : k + c' ≤ mc) (hn : n + s' ≤ ms) (hM : CT G sh Mc c' s' [.inr (.ref b)] m (some r) m') (kk : J G sh M mc ms F q L (r :: S) m' (k + c') (n + s')) : J G sh M mc ms F pc L (.inr (.ref b) :: S) m k n := by
  intro p e s mm args below meth c0 R C H locs ls hP hS hL
  subst hq
  obtain ⟨cell, g1, g2, g3⟩ := va_recv C.k hP hc (jws_at hb)
  rw [hcl] at g3
  have hrun := va_runV (H := H) (locs := locs) (cells := k) (slots := n) (below := below) (meth := meth) (e := e) (As := []) (rest := S.map (jv G)) (g := F0 mm pc ls ((.inr (.ref b) :: S).map (jv G))) ⟨C.x, C.b, C.ml, C.own, C.ts⟩ hM ⟨jcb C hi.1 hl hroom, C.ts _ hi.2.1, C.ts _ hi.2.2⟩ ⟨jPc.blind, ⟨cell, g1, g2, g3⟩, fun U hU hW => jpre C.sf C.z hP hS hU hW⟩ rfl rfl hL.1 rfl (lv_room (pc := pc) (ls := ls) (m := mm) (rest := (.inr (.ref b) :: S).map (jv G)) (by rw [jcats_eq]; exact Nat.le_of_ble_eq_true hrest)) hd (by rw [C.room]; exact ⟨hk, hn⟩)
  exact jcall (r := (some r)) hrun (fun st o t h => h) hS (fun H1 locs1 h1 h2 => kk p e s mm args below meth c0 R C H1 locs1 ls h1 h2 hL)
theorem j_callV0v {Mc : MI} {b ci : Nat} {ks : List (Nat ⊕ Nat)} {q0 : vw_C} {m' : Mem} {idx q c' s' : Nat} (hd : decode (mB M) pc = .ok (.invokevirtual idx, 3)) (hq : pc + 3 = q) (hi : KV Mc 0) (hl : Cond.methodLink (mY M).cls idx (mY Mc) ∈ jall) (hroom : mF Mc + 1 ≤ mF M ∧ 8 + (mL Mc + 11) + mW Mc ≤ mW M) (hb : sh[b]? = some (.inl (ci, ks))) (hc : vwCl[ci]? = some q0) (hcl : q0.1 = (mY Mc).cls) (hrest : Nat.ble (jcats S) 8 = true) (hk : k + c' ≤ mc) (hn : n + s' ≤ ms) (hM : CT G sh Mc c' s' [.inr (.ref b)] m none m') (kk : J G sh M mc ms F q L (S) m' (k + c') (n + s')) : J G sh M mc ms F pc L (.inr (.ref b) :: S) m k n := by
  intro p e s mm args below meth c0 R C H locs ls hP hS hL
  subst hq
  obtain ⟨cell, g1, g2, g3⟩ := va_recv C.k hP hc (jws_at hb)
  rw [hcl] at g3
  have hrun := va_runV (H := H) (locs := locs) (cells := k) (slots := n) (below := below) (meth := meth) (e := e) (As := []) (rest := S.map (jv G)) (g := F0 mm pc ls ((.inr (.ref b) :: S).map (jv G))) ⟨C.x, C.b, C.ml, C.own, C.ts⟩ hM ⟨jcb C hi.1 hl hroom, C.ts _ hi.2.1, C.ts _ hi.2.2⟩ ⟨jPc.blind, ⟨cell, g1, g2, g3⟩, fun U hU hW => jpre C.sf C.z hP hS hU hW⟩ rfl rfl hL.1 rfl (lv_room (pc := pc) (ls := ls) (m := mm) (rest := (.inr (.ref b) :: S).map (jv G)) (by rw [jcats_eq]; exact Nat.le_of_ble_eq_true hrest)) hd (by rw [C.room]; exact ⟨hk, hn⟩)
  exact jcall (r := none) hrun (fun st o t h => h) hS (fun H1 locs1 h1 h2 => kk p e s mm args below meth c0 R C H1 locs1 ls h1 h2 hL)
theorem j_callV1 {Mc : MI} {b ci : Nat} {ks : List (Nat ⊕ Nat)} {q0 : vw_C} {v0 : PV} {r : PV} {m' : Mem} {idx q c' s' : Nat} (hd : decode (mB M) pc = .ok (.invokevirtual idx, 3)) (hq : pc + 3 = q) (hi : KV Mc 1) (hl : Cond.methodLink (mY M).cls idx (mY Mc) ∈ jall) (hroom : mF Mc + 1 ≤ mF M ∧ 8 + (mL Mc + 11) + mW Mc ≤ mW M) (hb : sh[b]? = some (.inl (ci, ks))) (hc : vwCl[ci]? = some q0) (hcl : q0.1 = (mY Mc).cls) (hrest : Nat.ble (jcats S) 8 = true) (hk : k + c' ≤ mc) (hn : n + s' ≤ ms) (hM : CT G sh Mc c' s' [.inr (.ref b), v0] m (some r) m') (kk : J G sh M mc ms F q L (r :: S) m' (k + c') (n + s')) : J G sh M mc ms F pc L (v0 :: .inr (.ref b) :: S) m k n := by
  intro p e s mm args below meth c0 R C H locs ls hP hS hL
  subst hq
  obtain ⟨cell, g1, g2, g3⟩ := va_recv C.k hP hc (jws_at hb)
  rw [hcl] at g3
  have hrun := va_runV (H := H) (locs := locs) (cells := k) (slots := n) (below := below) (meth := meth) (e := e) (As := [jv G v0]) (rest := S.map (jv G)) (g := F0 mm pc ls ((v0 :: .inr (.ref b) :: S).map (jv G))) ⟨C.x, C.b, C.ml, C.own, C.ts⟩ hM ⟨jcb C hi.1 hl hroom, C.ts _ hi.2.1, C.ts _ hi.2.2⟩ ⟨jPc.blind, ⟨cell, g1, g2, g3⟩, fun U hU hW => jpre C.sf C.z hP hS hU hW⟩ rfl rfl hL.1 rfl (lv_room (pc := pc) (ls := ls) (m := mm) (rest := (v0 :: .inr (.ref b) :: S).map (jv G)) (by rw [jcats_eq]; exact Nat.le_of_ble_eq_true hrest)) hd (by rw [C.room]; exact ⟨hk, hn⟩)
  exact jcall (r := (some r)) hrun (fun st o t h => h) hS (fun H1 locs1 h1 h2 => kk p e s mm args below meth c0 R C H1 locs1 ls h1 h2 hL)
theorem j_callV1v {Mc : MI} {b ci : Nat} {ks : List (Nat ⊕ Nat)} {q0 : vw_C} {v0 : PV} {m' : Mem} {idx q c' s' : Nat} (hd : decode (mB M) pc = .ok (.invokevirtual idx, 3)) (hq : pc + 3 = q) (hi : KV Mc 1) (hl : Cond.methodLink (mY M).cls idx (mY Mc) ∈ jall) (hroom : mF Mc + 1 ≤ mF M ∧ 8 + (mL Mc + 11) + mW Mc ≤ mW M) (hb : sh[b]? = some (.inl (ci, ks))) (hc : vwCl[ci]? = some q0) (hcl : q0.1 = (mY Mc).cls) (hrest : Nat.ble (jcats S) 8 = true) (hk : k + c' ≤ mc) (hn : n + s' ≤ ms) (hM : CT G sh Mc c' s' [.inr (.ref b), v0] m none m') (kk : J G sh M mc ms F q L (S) m' (k + c') (n + s')) : J G sh M mc ms F pc L (v0 :: .inr (.ref b) :: S) m k n := by
  intro p e s mm args below meth c0 R C H locs ls hP hS hL
  subst hq
  obtain ⟨cell, g1, g2, g3⟩ := va_recv C.k hP hc (jws_at hb)
  rw [hcl] at g3
  have hrun := va_runV (H := H) (locs := locs) (cells := k) (slots := n) (below := below) (meth := meth) (e := e) (As := [jv G v0]) (rest := S.map (jv G)) (g := F0 mm pc ls ((v0 :: .inr (.ref b) :: S).map (jv G))) ⟨C.x, C.b, C.ml, C.own, C.ts⟩ hM ⟨jcb C hi.1 hl hroom, C.ts _ hi.2.1, C.ts _ hi.2.2⟩ ⟨jPc.blind, ⟨cell, g1, g2, g3⟩, fun U hU hW => jpre C.sf C.z hP hS hU hW⟩ rfl rfl hL.1 rfl (lv_room (pc := pc) (ls := ls) (m := mm) (rest := (v0 :: .inr (.ref b) :: S).map (jv G)) (by rw [jcats_eq]; exact Nat.le_of_ble_eq_true hrest)) hd (by rw [C.room]; exact ⟨hk, hn⟩)
  exact jcall (r := none) hrun (fun st o t h => h) hS (fun H1 locs1 h1 h2 => kk p e s mm args below meth c0 R C H1 locs1 ls h1 h2 hL)
theorem j_callV2 {Mc : MI} {b ci : Nat} {ks : List (Nat ⊕ Nat)} {q0 : vw_C} {v0 v1 : PV} {r : PV} {m' : Mem} {idx q c' s' : Nat} (hd : decode (mB M) pc = .ok (.invokevirtual idx, 3)) (hq : pc + 3 = q) (hi : KV Mc 2) (hl : Cond.methodLink (mY M).cls idx (mY Mc) ∈ jall) (hroom : mF Mc + 1 ≤ mF M ∧ 8 + (mL Mc + 11) + mW Mc ≤ mW M) (hb : sh[b]? = some (.inl (ci, ks))) (hc : vwCl[ci]? = some q0) (hcl : q0.1 = (mY Mc).cls) (hrest : Nat.ble (jcats S) 8 = true) (hk : k + c' ≤ mc) (hn : n + s' ≤ ms) (hM : CT G sh Mc c' s' [.inr (.ref b), v0, v1] m (some r) m') (kk : J G sh M mc ms F q L (r :: S) m' (k + c') (n + s')) : J G sh M mc ms F pc L (v1 :: v0 :: .inr (.ref b) :: S) m k n := by
  intro p e s mm args below meth c0 R C H locs ls hP hS hL
  subst hq
  obtain ⟨cell, g1, g2, g3⟩ := va_recv C.k hP hc (jws_at hb)
  rw [hcl] at g3
  have hrun := va_runV (H := H) (locs := locs) (cells := k) (slots := n) (below := below) (meth := meth) (e := e) (As := [jv G v0, jv G v1]) (rest := S.map (jv G)) (g := F0 mm pc ls ((v1 :: v0 :: .inr (.ref b) :: S).map (jv G))) ⟨C.x, C.b, C.ml, C.own, C.ts⟩ hM ⟨jcb C hi.1 hl hroom, C.ts _ hi.2.1, C.ts _ hi.2.2⟩ ⟨jPc.blind, ⟨cell, g1, g2, g3⟩, fun U hU hW => jpre C.sf C.z hP hS hU hW⟩ rfl rfl hL.1 rfl (lv_room (pc := pc) (ls := ls) (m := mm) (rest := (v1 :: v0 :: .inr (.ref b) :: S).map (jv G)) (by rw [jcats_eq]; exact Nat.le_of_ble_eq_true hrest)) hd (by rw [C.room]; exact ⟨hk, hn⟩)
  exact jcall (r := (some r)) hrun (fun st o t h => h) hS (fun H1 locs1 h1 h2 => kk p e s mm args below meth c0 R C H1 locs1 ls h1 h2 hL)
theorem j_callV2v {Mc : MI} {b ci : Nat} {ks : List (Nat ⊕ Nat)} {q0 : vw_C} {v0 v1 : PV} {m' : Mem} {idx q c' s' : Nat} (hd : decode (mB M) pc = .ok (.invokevirtual idx, 3)) (hq : pc + 3 = q) (hi : KV Mc 2) (hl : Cond.methodLink (mY M).cls idx (mY Mc) ∈ jall) (hroom : mF Mc + 1 ≤ mF M ∧ 8 + (mL Mc + 11) + mW Mc ≤ mW M) (hb : sh[b]? = some (.inl (ci, ks))) (hc : vwCl[ci]? = some q0) (hcl : q0.1 = (mY Mc).cls) (hrest : Nat.ble (jcats S) 8 = true) (hk : k + c' ≤ mc) (hn : n + s' ≤ ms) (hM : CT G sh Mc c' s' [.inr (.ref b), v0, v1] m none m') (kk : J G sh M mc ms F q L (S) m' (k + c') (n + s')) : J G sh M mc ms F pc L (v1 :: v0 :: .inr (.ref b) :: S) m k n := by
  intro p e s mm args below meth c0 R C H locs ls hP hS hL
  subst hq
  obtain ⟨cell, g1, g2, g3⟩ := va_recv C.k hP hc (jws_at hb)
  rw [hcl] at g3
  have hrun := va_runV (H := H) (locs := locs) (cells := k) (slots := n) (below := below) (meth := meth) (e := e) (As := [jv G v0, jv G v1]) (rest := S.map (jv G)) (g := F0 mm pc ls ((v1 :: v0 :: .inr (.ref b) :: S).map (jv G))) ⟨C.x, C.b, C.ml, C.own, C.ts⟩ hM ⟨jcb C hi.1 hl hroom, C.ts _ hi.2.1, C.ts _ hi.2.2⟩ ⟨jPc.blind, ⟨cell, g1, g2, g3⟩, fun U hU hW => jpre C.sf C.z hP hS hU hW⟩ rfl rfl hL.1 rfl (lv_room (pc := pc) (ls := ls) (m := mm) (rest := (v1 :: v0 :: .inr (.ref b) :: S).map (jv G)) (by rw [jcats_eq]; exact Nat.le_of_ble_eq_true hrest)) hd (by rw [C.room]; exact ⟨hk, hn⟩)
  exact jcall (r := none) hrun (fun st o t h => h) hS (fun H1 locs1 h1 h2 => kk p e s mm args below meth c0 R C H1 locs1 ls h1 h2 hL)
theorem j_callV3 {Mc : MI} {b ci : Nat} {ks : List (Nat ⊕ Nat)} {q0 : vw_C} {v0 v1 v2 : PV} {r : PV} {m' : Mem} {idx q c' s' : Nat} (hd : decode (mB M) pc = .ok (.invokevirtual idx, 3)) (hq : pc + 3 = q) (hi : KV Mc 3) (hl : Cond.methodLink (mY M).cls idx (mY Mc) ∈ jall) (hroom : mF Mc + 1 ≤ mF M ∧ 8 + (mL Mc + 11) + mW Mc ≤ mW M) (hb : sh[b]? = some (.inl (ci, ks))) (hc : vwCl[ci]? = some q0) (hcl : q0.1 = (mY Mc).cls) (hrest : Nat.ble (jcats S) 8 = true) (hk : k + c' ≤ mc) (hn : n + s' ≤ ms) (hM : CT G sh Mc c' s' [.inr (.ref b), v0, v1, v2] m (some r) m') (kk : J G sh M mc ms F q L (r :: S) m' (k + c') (n + s')) : J G sh M mc ms F pc L (v2 :: v1 :: v0 :: .inr (.ref b) :: S) m k n := by
  intro p e s mm args below meth c0 R C H locs ls hP hS hL
  subst hq
  obtain ⟨cell, g1, g2, g3⟩ := va_recv C.k hP hc (jws_at hb)
  rw [hcl] at g3
  have hrun := va_runV (H := H) (locs := locs) (cells := k) (slots := n) (below := below) (meth := meth) (e := e) (As := [jv G v0, jv G v1, jv G v2]) (rest := S.map (jv G)) (g := F0 mm pc ls ((v2 :: v1 :: v0 :: .inr (.ref b) :: S).map (jv G))) ⟨C.x, C.b, C.ml, C.own, C.ts⟩ hM ⟨jcb C hi.1 hl hroom, C.ts _ hi.2.1, C.ts _ hi.2.2⟩ ⟨jPc.blind, ⟨cell, g1, g2, g3⟩, fun U hU hW => jpre C.sf C.z hP hS hU hW⟩ rfl rfl hL.1 rfl (lv_room (pc := pc) (ls := ls) (m := mm) (rest := (v2 :: v1 :: v0 :: .inr (.ref b) :: S).map (jv G)) (by rw [jcats_eq]; exact Nat.le_of_ble_eq_true hrest)) hd (by rw [C.room]; exact ⟨hk, hn⟩)
  exact jcall (r := (some r)) hrun (fun st o t h => h) hS (fun H1 locs1 h1 h2 => kk p e s mm args below meth c0 R C H1 locs1 ls h1 h2 hL)
theorem j_callV3v {Mc : MI} {b ci : Nat} {ks : List (Nat ⊕ Nat)} {q0 : vw_C} {v0 v1 v2 : PV} {m' : Mem} {idx q c' s' : Nat} (hd : decode (mB M) pc = .ok (.invokevirtual idx, 3)) (hq : pc + 3 = q) (hi : KV Mc 3) (hl : Cond.methodLink (mY M).cls idx (mY Mc) ∈ jall) (hroom : mF Mc + 1 ≤ mF M ∧ 8 + (mL Mc + 11) + mW Mc ≤ mW M) (hb : sh[b]? = some (.inl (ci, ks))) (hc : vwCl[ci]? = some q0) (hcl : q0.1 = (mY Mc).cls) (hrest : Nat.ble (jcats S) 8 = true) (hk : k + c' ≤ mc) (hn : n + s' ≤ ms) (hM : CT G sh Mc c' s' [.inr (.ref b), v0, v1, v2] m none m') (kk : J G sh M mc ms F q L (S) m' (k + c') (n + s')) : J G sh M mc ms F pc L (v2 :: v1 :: v0 :: .inr (.ref b) :: S) m k n := by
  intro p e s mm args below meth c0 R C H locs ls hP hS hL
  subst hq
  obtain ⟨cell, g1, g2, g3⟩ := va_recv C.k hP hc (jws_at hb)
  rw [hcl] at g3
  have hrun := va_runV (H := H) (locs := locs) (cells := k) (slots := n) (below := below) (meth := meth) (e := e) (As := [jv G v0, jv G v1, jv G v2]) (rest := S.map (jv G)) (g := F0 mm pc ls ((v2 :: v1 :: v0 :: .inr (.ref b) :: S).map (jv G))) ⟨C.x, C.b, C.ml, C.own, C.ts⟩ hM ⟨jcb C hi.1 hl hroom, C.ts _ hi.2.1, C.ts _ hi.2.2⟩ ⟨jPc.blind, ⟨cell, g1, g2, g3⟩, fun U hU hW => jpre C.sf C.z hP hS hU hW⟩ rfl rfl hL.1 rfl (lv_room (pc := pc) (ls := ls) (m := mm) (rest := (v2 :: v1 :: v0 :: .inr (.ref b) :: S).map (jv G)) (by rw [jcats_eq]; exact Nat.le_of_ble_eq_true hrest)) hd (by rw [C.room]; exact ⟨hk, hn⟩)
  exact jcall (r := none) hrun (fun st o t h => h) hS (fun H1 locs1 h1 h2 => kk p e s mm args below meth c0 R C H1 locs1 ls h1 h2 hL)
theorem j_callV4 {Mc : MI} {b ci : Nat} {ks : List (Nat ⊕ Nat)} {q0 : vw_C} {v0 v1 v2 v3 : PV} {r : PV} {m' : Mem} {idx q c' s' : Nat} (hd : decode (mB M) pc = .ok (.invokevirtual idx, 3)) (hq : pc + 3 = q) (hi : KV Mc 4) (hl : Cond.methodLink (mY M).cls idx (mY Mc) ∈ jall) (hroom : mF Mc + 1 ≤ mF M ∧ 8 + (mL Mc + 11) + mW Mc ≤ mW M) (hb : sh[b]? = some (.inl (ci, ks))) (hc : vwCl[ci]? = some q0) (hcl : q0.1 = (mY Mc).cls) (hrest : Nat.ble (jcats S) 8 = true) (hk : k + c' ≤ mc) (hn : n + s' ≤ ms) (hM : CT G sh Mc c' s' [.inr (.ref b), v0, v1, v2, v3] m (some r) m') (kk : J G sh M mc ms F q L (r :: S) m' (k + c') (n + s')) : J G sh M mc ms F pc L (v3 :: v2 :: v1 :: v0 :: .inr (.ref b) :: S) m k n := by
  intro p e s mm args below meth c0 R C H locs ls hP hS hL
  subst hq
  obtain ⟨cell, g1, g2, g3⟩ := va_recv C.k hP hc (jws_at hb)
  rw [hcl] at g3
  have hrun := va_runV (H := H) (locs := locs) (cells := k) (slots := n) (below := below) (meth := meth) (e := e) (As := [jv G v0, jv G v1, jv G v2, jv G v3]) (rest := S.map (jv G)) (g := F0 mm pc ls ((v3 :: v2 :: v1 :: v0 :: .inr (.ref b) :: S).map (jv G))) ⟨C.x, C.b, C.ml, C.own, C.ts⟩ hM ⟨jcb C hi.1 hl hroom, C.ts _ hi.2.1, C.ts _ hi.2.2⟩ ⟨jPc.blind, ⟨cell, g1, g2, g3⟩, fun U hU hW => jpre C.sf C.z hP hS hU hW⟩ rfl rfl hL.1 rfl (lv_room (pc := pc) (ls := ls) (m := mm) (rest := (v3 :: v2 :: v1 :: v0 :: .inr (.ref b) :: S).map (jv G)) (by rw [jcats_eq]; exact Nat.le_of_ble_eq_true hrest)) hd (by rw [C.room]; exact ⟨hk, hn⟩)
  exact jcall (r := (some r)) hrun (fun st o t h => h) hS (fun H1 locs1 h1 h2 => kk p e s mm args below meth c0 R C H1 locs1 ls h1 h2 hL)
theorem j_callV4v {Mc : MI} {b ci : Nat} {ks : List (Nat ⊕ Nat)} {q0 : vw_C} {v0 v1 v2 v3 : PV} {m' : Mem} {idx q c' s' : Nat} (hd : decode (mB M) pc = .ok (.invokevirtual idx, 3)) (hq : pc + 3 = q) (hi : KV Mc 4) (hl : Cond.methodLink (mY M).cls idx (mY Mc) ∈ jall) (hroom : mF Mc + 1 ≤ mF M ∧ 8 + (mL Mc + 11) + mW Mc ≤ mW M) (hb : sh[b]? = some (.inl (ci, ks))) (hc : vwCl[ci]? = some q0) (hcl : q0.1 = (mY Mc).cls) (hrest : Nat.ble (jcats S) 8 = true) (hk : k + c' ≤ mc) (hn : n + s' ≤ ms) (hM : CT G sh Mc c' s' [.inr (.ref b), v0, v1, v2, v3] m none m') (kk : J G sh M mc ms F q L (S) m' (k + c') (n + s')) : J G sh M mc ms F pc L (v3 :: v2 :: v1 :: v0 :: .inr (.ref b) :: S) m k n := by
  intro p e s mm args below meth c0 R C H locs ls hP hS hL
  subst hq
  obtain ⟨cell, g1, g2, g3⟩ := va_recv C.k hP hc (jws_at hb)
  rw [hcl] at g3
  have hrun := va_runV (H := H) (locs := locs) (cells := k) (slots := n) (below := below) (meth := meth) (e := e) (As := [jv G v0, jv G v1, jv G v2, jv G v3]) (rest := S.map (jv G)) (g := F0 mm pc ls ((v3 :: v2 :: v1 :: v0 :: .inr (.ref b) :: S).map (jv G))) ⟨C.x, C.b, C.ml, C.own, C.ts⟩ hM ⟨jcb C hi.1 hl hroom, C.ts _ hi.2.1, C.ts _ hi.2.2⟩ ⟨jPc.blind, ⟨cell, g1, g2, g3⟩, fun U hU hW => jpre C.sf C.z hP hS hU hW⟩ rfl rfl hL.1 rfl (lv_room (pc := pc) (ls := ls) (m := mm) (rest := (v3 :: v2 :: v1 :: v0 :: .inr (.ref b) :: S).map (jv G)) (by rw [jcats_eq]; exact Nat.le_of_ble_eq_true hrest)) hd (by rw [C.room]; exact ⟨hk, hn⟩)
  exact jcall (r := none) hrun (fun st o t h => h) hS (fun H1 locs1 h1 h2 => kk p e s mm args below meth c0 R C H1 locs1 ls h1 h2 hL)
theorem j_callV5 {Mc : MI} {b ci : Nat} {ks : List (Nat ⊕ Nat)} {q0 : vw_C} {v0 v1 v2 v3 v4 : PV} {r : PV} {m' : Mem} {idx q c' s' : Nat} (hd : decode (mB M) pc = .ok (.invokevirtual idx, 3)) (hq : pc + 3 = q) (hi : KV Mc 5) (hl : Cond.methodLink (mY M).cls idx (mY Mc) ∈ jall) (hroom : mF Mc + 1 ≤ mF M ∧ 8 + (mL Mc + 11) + mW Mc ≤ mW M) (hb : sh[b]? = some (.inl (ci, ks))) (hc : vwCl[ci]? = some q0) (hcl : q0.1 = (mY Mc).cls) (hrest : Nat.ble (jcats S) 8 = true) (hk : k + c' ≤ mc) (hn : n + s' ≤ ms) (hM : CT G sh Mc c' s' [.inr (.ref b), v0, v1, v2, v3, v4] m (some r) m') (kk : J G sh M mc ms F q L (r :: S) m' (k + c') (n + s')) : J G sh M mc ms F pc L (v4 :: v3 :: v2 :: v1 :: v0 :: .inr (.ref b) :: S) m k n := by
  intro p e s mm args below meth c0 R C H locs ls hP hS hL
  subst hq
  obtain ⟨cell, g1, g2, g3⟩ := va_recv C.k hP hc (jws_at hb)
  rw [hcl] at g3
  have hrun := va_runV (H := H) (locs := locs) (cells := k) (slots := n) (below := below) (meth := meth) (e := e) (As := [jv G v0, jv G v1, jv G v2, jv G v3, jv G v4]) (rest := S.map (jv G)) (g := F0 mm pc ls ((v4 :: v3 :: v2 :: v1 :: v0 :: .inr (.ref b) :: S).map (jv G))) ⟨C.x, C.b, C.ml, C.own, C.ts⟩ hM ⟨jcb C hi.1 hl hroom, C.ts _ hi.2.1, C.ts _ hi.2.2⟩ ⟨jPc.blind, ⟨cell, g1, g2, g3⟩, fun U hU hW => jpre C.sf C.z hP hS hU hW⟩ rfl rfl hL.1 rfl (lv_room (pc := pc) (ls := ls) (m := mm) (rest := (v4 :: v3 :: v2 :: v1 :: v0 :: .inr (.ref b) :: S).map (jv G)) (by rw [jcats_eq]; exact Nat.le_of_ble_eq_true hrest)) hd (by rw [C.room]; exact ⟨hk, hn⟩)
  exact jcall (r := (some r)) hrun (fun st o t h => h) hS (fun H1 locs1 h1 h2 => kk p e s mm args below meth c0 R C H1 locs1 ls h1 h2 hL)
theorem j_callV5v {Mc : MI} {b ci : Nat} {ks : List (Nat ⊕ Nat)} {q0 : vw_C} {v0 v1 v2 v3 v4 : PV} {m' : Mem} {idx q c' s' : Nat} (hd : decode (mB M) pc = .ok (.invokevirtual idx, 3)) (hq : pc + 3 = q) (hi : KV Mc 5) (hl : Cond.methodLink (mY M).cls idx (mY Mc) ∈ jall) (hroom : mF Mc + 1 ≤ mF M ∧ 8 + (mL Mc + 11) + mW Mc ≤ mW M) (hb : sh[b]? = some (.inl (ci, ks))) (hc : vwCl[ci]? = some q0) (hcl : q0.1 = (mY Mc).cls) (hrest : Nat.ble (jcats S) 8 = true) (hk : k + c' ≤ mc) (hn : n + s' ≤ ms) (hM : CT G sh Mc c' s' [.inr (.ref b), v0, v1, v2, v3, v4] m none m') (kk : J G sh M mc ms F q L (S) m' (k + c') (n + s')) : J G sh M mc ms F pc L (v4 :: v3 :: v2 :: v1 :: v0 :: .inr (.ref b) :: S) m k n := by
  intro p e s mm args below meth c0 R C H locs ls hP hS hL
  subst hq
  obtain ⟨cell, g1, g2, g3⟩ := va_recv C.k hP hc (jws_at hb)
  rw [hcl] at g3
  have hrun := va_runV (H := H) (locs := locs) (cells := k) (slots := n) (below := below) (meth := meth) (e := e) (As := [jv G v0, jv G v1, jv G v2, jv G v3, jv G v4]) (rest := S.map (jv G)) (g := F0 mm pc ls ((v4 :: v3 :: v2 :: v1 :: v0 :: .inr (.ref b) :: S).map (jv G))) ⟨C.x, C.b, C.ml, C.own, C.ts⟩ hM ⟨jcb C hi.1 hl hroom, C.ts _ hi.2.1, C.ts _ hi.2.2⟩ ⟨jPc.blind, ⟨cell, g1, g2, g3⟩, fun U hU hW => jpre C.sf C.z hP hS hU hW⟩ rfl rfl hL.1 rfl (lv_room (pc := pc) (ls := ls) (m := mm) (rest := (v4 :: v3 :: v2 :: v1 :: v0 :: .inr (.ref b) :: S).map (jv G)) (by rw [jcats_eq]; exact Nat.le_of_ble_eq_true hrest)) hd (by rw [C.room]; exact ⟨hk, hn⟩)
  exact jcall (r := none) hrun (fun st o t h => h) hS (fun H1 locs1 h1 h2 => kk p e s mm args below meth c0 R C H1 locs1 ls h1 h2 hL)
theorem j_callS0 {Mc : MI} {r : PV} {m' : Mem} {idx q c' s' : Nat} (hd : decode (mB M) pc = .ok (.invokestatic idx, 3)) (hq : pc + 3 = q) (hi : KS Mc 0) (hl : Cond.methodLink (mY M).cls idx (mY Mc) ∈ jall) (hroom : mF Mc + 1 ≤ mF M ∧ 8 + (mL Mc + 11) + mW Mc ≤ mW M) (hrest : Nat.ble (jcats S) 8 = true) (hk : k + c' ≤ mc) (hn : n + s' ≤ ms) (hM : CT G sh Mc c' s' [] m (some r) m') (kk : J G sh M mc ms F q L (r :: S) m' (k + c') (n + s')) : J G sh M mc ms F pc L (S) m k n := by
  intro p e s mm args below meth c0 R C H locs ls hP hS hL
  subst hq
  have hrun := va_runS (H := H) (locs := locs) (cells := k) (slots := n) (below := below) (meth := meth) (e := e) (As := []) (rest := S.map (jv G)) (g := F0 mm pc ls ((S).map (jv G))) ⟨C.x, C.b, C.ml, C.own, C.ts⟩ hM ⟨jcb C hi.1 hl hroom, C.ts _ hi.2⟩ ⟨jPc.blind, fun U hU hW => jpre C.sf C.z hP hS hU hW⟩ rfl rfl hL.1 rfl (lv_room (pc := pc) (ls := ls) (m := mm) (rest := (S).map (jv G)) (by rw [jcats_eq]; exact Nat.le_of_ble_eq_true hrest)) hd (by rw [C.room]; exact ⟨hk, hn⟩)
  exact jcall (r := (some r)) hrun (fun st o t h => h) hS (fun H1 locs1 h1 h2 => kk p e s mm args below meth c0 R C H1 locs1 ls h1 h2 hL)
theorem j_callS0v {Mc : MI} {m' : Mem} {idx q c' s' : Nat} (hd : decode (mB M) pc = .ok (.invokestatic idx, 3)) (hq : pc + 3 = q) (hi : KS Mc 0) (hl : Cond.methodLink (mY M).cls idx (mY Mc) ∈ jall) (hroom : mF Mc + 1 ≤ mF M ∧ 8 + (mL Mc + 11) + mW Mc ≤ mW M) (hrest : Nat.ble (jcats S) 8 = true) (hk : k + c' ≤ mc) (hn : n + s' ≤ ms) (hM : CT G sh Mc c' s' [] m none m') (kk : J G sh M mc ms F q L (S) m' (k + c') (n + s')) : J G sh M mc ms F pc L (S) m k n := by
  intro p e s mm args below meth c0 R C H locs ls hP hS hL
  subst hq
  have hrun := va_runS (H := H) (locs := locs) (cells := k) (slots := n) (below := below) (meth := meth) (e := e) (As := []) (rest := S.map (jv G)) (g := F0 mm pc ls ((S).map (jv G))) ⟨C.x, C.b, C.ml, C.own, C.ts⟩ hM ⟨jcb C hi.1 hl hroom, C.ts _ hi.2⟩ ⟨jPc.blind, fun U hU hW => jpre C.sf C.z hP hS hU hW⟩ rfl rfl hL.1 rfl (lv_room (pc := pc) (ls := ls) (m := mm) (rest := (S).map (jv G)) (by rw [jcats_eq]; exact Nat.le_of_ble_eq_true hrest)) hd (by rw [C.room]; exact ⟨hk, hn⟩)
  exact jcall (r := none) hrun (fun st o t h => h) hS (fun H1 locs1 h1 h2 => kk p e s mm args below meth c0 R C H1 locs1 ls h1 h2 hL)
theorem j_callS1 {Mc : MI} {v0 : PV} {r : PV} {m' : Mem} {idx q c' s' : Nat} (hd : decode (mB M) pc = .ok (.invokestatic idx, 3)) (hq : pc + 3 = q) (hi : KS Mc 1) (hl : Cond.methodLink (mY M).cls idx (mY Mc) ∈ jall) (hroom : mF Mc + 1 ≤ mF M ∧ 8 + (mL Mc + 11) + mW Mc ≤ mW M) (hrest : Nat.ble (jcats S) 8 = true) (hk : k + c' ≤ mc) (hn : n + s' ≤ ms) (hM : CT G sh Mc c' s' [v0] m (some r) m') (kk : J G sh M mc ms F q L (r :: S) m' (k + c') (n + s')) : J G sh M mc ms F pc L (v0 :: S) m k n := by
  intro p e s mm args below meth c0 R C H locs ls hP hS hL
  subst hq
  have hrun := va_runS (H := H) (locs := locs) (cells := k) (slots := n) (below := below) (meth := meth) (e := e) (As := [jv G v0]) (rest := S.map (jv G)) (g := F0 mm pc ls ((v0 :: S).map (jv G))) ⟨C.x, C.b, C.ml, C.own, C.ts⟩ hM ⟨jcb C hi.1 hl hroom, C.ts _ hi.2⟩ ⟨jPc.blind, fun U hU hW => jpre C.sf C.z hP hS hU hW⟩ rfl rfl hL.1 rfl (lv_room (pc := pc) (ls := ls) (m := mm) (rest := (v0 :: S).map (jv G)) (by rw [jcats_eq]; exact Nat.le_of_ble_eq_true hrest)) hd (by rw [C.room]; exact ⟨hk, hn⟩)
  exact jcall (r := (some r)) hrun (fun st o t h => h) hS (fun H1 locs1 h1 h2 => kk p e s mm args below meth c0 R C H1 locs1 ls h1 h2 hL)
theorem j_callS1v {Mc : MI} {v0 : PV} {m' : Mem} {idx q c' s' : Nat} (hd : decode (mB M) pc = .ok (.invokestatic idx, 3)) (hq : pc + 3 = q) (hi : KS Mc 1) (hl : Cond.methodLink (mY M).cls idx (mY Mc) ∈ jall) (hroom : mF Mc + 1 ≤ mF M ∧ 8 + (mL Mc + 11) + mW Mc ≤ mW M) (hrest : Nat.ble (jcats S) 8 = true) (hk : k + c' ≤ mc) (hn : n + s' ≤ ms) (hM : CT G sh Mc c' s' [v0] m none m') (kk : J G sh M mc ms F q L (S) m' (k + c') (n + s')) : J G sh M mc ms F pc L (v0 :: S) m k n := by
  intro p e s mm args below meth c0 R C H locs ls hP hS hL
  subst hq
  have hrun := va_runS (H := H) (locs := locs) (cells := k) (slots := n) (below := below) (meth := meth) (e := e) (As := [jv G v0]) (rest := S.map (jv G)) (g := F0 mm pc ls ((v0 :: S).map (jv G))) ⟨C.x, C.b, C.ml, C.own, C.ts⟩ hM ⟨jcb C hi.1 hl hroom, C.ts _ hi.2⟩ ⟨jPc.blind, fun U hU hW => jpre C.sf C.z hP hS hU hW⟩ rfl rfl hL.1 rfl (lv_room (pc := pc) (ls := ls) (m := mm) (rest := (v0 :: S).map (jv G)) (by rw [jcats_eq]; exact Nat.le_of_ble_eq_true hrest)) hd (by rw [C.room]; exact ⟨hk, hn⟩)
  exact jcall (r := none) hrun (fun st o t h => h) hS (fun H1 locs1 h1 h2 => kk p e s mm args below meth c0 R C H1 locs1 ls h1 h2 hL)
theorem j_callS2 {Mc : MI} {v0 v1 : PV} {r : PV} {m' : Mem} {idx q c' s' : Nat} (hd : decode (mB M) pc = .ok (.invokestatic idx, 3)) (hq : pc + 3 = q) (hi : KS Mc 2) (hl : Cond.methodLink (mY M).cls idx (mY Mc) ∈ jall) (hroom : mF Mc + 1 ≤ mF M ∧ 8 + (mL Mc + 11) + mW Mc ≤ mW M) (hrest : Nat.ble (jcats S) 8 = true) (hk : k + c' ≤ mc) (hn : n + s' ≤ ms) (hM : CT G sh Mc c' s' [v0, v1] m (some r) m') (kk : J G sh M mc ms F q L (r :: S) m' (k + c') (n + s')) : J G sh M mc ms F pc L (v1 :: v0 :: S) m k n := by
  intro p e s mm args below meth c0 R C H locs ls hP hS hL
  subst hq
  have hrun := va_runS (H := H) (locs := locs) (cells := k) (slots := n) (below := below) (meth := meth) (e := e) (As := [jv G v0, jv G v1]) (rest := S.map (jv G)) (g := F0 mm pc ls ((v1 :: v0 :: S).map (jv G))) ⟨C.x, C.b, C.ml, C.own, C.ts⟩ hM ⟨jcb C hi.1 hl hroom, C.ts _ hi.2⟩ ⟨jPc.blind, fun U hU hW => jpre C.sf C.z hP hS hU hW⟩ rfl rfl hL.1 rfl (lv_room (pc := pc) (ls := ls) (m := mm) (rest := (v1 :: v0 :: S).map (jv G)) (by rw [jcats_eq]; exact Nat.le_of_ble_eq_true hrest)) hd (by rw [C.room]; exact ⟨hk, hn⟩)
  exact jcall (r := (some r)) hrun (fun st o t h => h) hS (fun H1 locs1 h1 h2 => kk p e s mm args below meth c0 R C H1 locs1 ls h1 h2 hL)
theorem j_callS2v {Mc : MI} {v0 v1 : PV} {m' : Mem} {idx q c' s' : Nat} (hd : decode (mB M) pc = .ok (.invokestatic idx, 3)) (hq : pc + 3 = q) (hi : KS Mc 2) (hl : Cond.methodLink (mY M).cls idx (mY Mc) ∈ jall) (hroom : mF Mc + 1 ≤ mF M ∧ 8 + (mL Mc + 11) + mW Mc ≤ mW M) (hrest : Nat.ble (jcats S) 8 = true) (hk : k + c' ≤ mc) (hn : n + s' ≤ ms) (hM : CT G sh Mc c' s' [v0, v1] m none m') (kk : J G sh M mc ms F q L (S) m' (k + c') (n + s')) : J G sh M mc ms F pc L (v1 :: v0 :: S) m k n := by
  intro p e s mm args below meth c0 R C H locs ls hP hS hL
  subst hq
  have hrun := va_runS (H := H) (locs := locs) (cells := k) (slots := n) (below := below) (meth := meth) (e := e) (As := [jv G v0, jv G v1]) (rest := S.map (jv G)) (g := F0 mm pc ls ((v1 :: v0 :: S).map (jv G))) ⟨C.x, C.b, C.ml, C.own, C.ts⟩ hM ⟨jcb C hi.1 hl hroom, C.ts _ hi.2⟩ ⟨jPc.blind, fun U hU hW => jpre C.sf C.z hP hS hU hW⟩ rfl rfl hL.1 rfl (lv_room (pc := pc) (ls := ls) (m := mm) (rest := (v1 :: v0 :: S).map (jv G)) (by rw [jcats_eq]; exact Nat.le_of_ble_eq_true hrest)) hd (by rw [C.room]; exact ⟨hk, hn⟩)
  exact jcall (r := none) hrun (fun st o t h => h) hS (fun H1 locs1 h1 h2 => kk p e s mm args below meth c0 R C H1 locs1 ls h1 h2 hL)
theorem j_callS3 {Mc : MI} {v0 v1 v2 : PV} {r : PV} {m' : Mem} {idx q c' s' : Nat} (hd : decode (mB M) pc = .ok (.invokestatic idx, 3)) (hq : pc + 3 = q) (hi : KS Mc 3) (hl : Cond.methodLink (mY M).cls idx (mY Mc) ∈ jall) (hroom : mF Mc + 1 ≤ mF M ∧ 8 + (mL Mc + 11) + mW Mc ≤ mW M) (hrest : Nat.ble (jcats S) 8 = true) (hk : k + c' ≤ mc) (hn : n + s' ≤ ms) (hM : CT G sh Mc c' s' [v0, v1, v2] m (some r) m') (kk : J G sh M mc ms F q L (r :: S) m' (k + c') (n + s')) : J G sh M mc ms F pc L (v2 :: v1 :: v0 :: S) m k n := by
  intro p e s mm args below meth c0 R C H locs ls hP hS hL
  subst hq
  have hrun := va_runS (H := H) (locs := locs) (cells := k) (slots := n) (below := below) (meth := meth) (e := e) (As := [jv G v0, jv G v1, jv G v2]) (rest := S.map (jv G)) (g := F0 mm pc ls ((v2 :: v1 :: v0 :: S).map (jv G))) ⟨C.x, C.b, C.ml, C.own, C.ts⟩ hM ⟨jcb C hi.1 hl hroom, C.ts _ hi.2⟩ ⟨jPc.blind, fun U hU hW => jpre C.sf C.z hP hS hU hW⟩ rfl rfl hL.1 rfl (lv_room (pc := pc) (ls := ls) (m := mm) (rest := (v2 :: v1 :: v0 :: S).map (jv G)) (by rw [jcats_eq]; exact Nat.le_of_ble_eq_true hrest)) hd (by rw [C.room]; exact ⟨hk, hn⟩)
  exact jcall (r := (some r)) hrun (fun st o t h => h) hS (fun H1 locs1 h1 h2 => kk p e s mm args below meth c0 R C H1 locs1 ls h1 h2 hL)
theorem j_callS3v {Mc : MI} {v0 v1 v2 : PV} {m' : Mem} {idx q c' s' : Nat} (hd : decode (mB M) pc = .ok (.invokestatic idx, 3)) (hq : pc + 3 = q) (hi : KS Mc 3) (hl : Cond.methodLink (mY M).cls idx (mY Mc) ∈ jall) (hroom : mF Mc + 1 ≤ mF M ∧ 8 + (mL Mc + 11) + mW Mc ≤ mW M) (hrest : Nat.ble (jcats S) 8 = true) (hk : k + c' ≤ mc) (hn : n + s' ≤ ms) (hM : CT G sh Mc c' s' [v0, v1, v2] m none m') (kk : J G sh M mc ms F q L (S) m' (k + c') (n + s')) : J G sh M mc ms F pc L (v2 :: v1 :: v0 :: S) m k n := by
  intro p e s mm args below meth c0 R C H locs ls hP hS hL
  subst hq
  have hrun := va_runS (H := H) (locs := locs) (cells := k) (slots := n) (below := below) (meth := meth) (e := e) (As := [jv G v0, jv G v1, jv G v2]) (rest := S.map (jv G)) (g := F0 mm pc ls ((v2 :: v1 :: v0 :: S).map (jv G))) ⟨C.x, C.b, C.ml, C.own, C.ts⟩ hM ⟨jcb C hi.1 hl hroom, C.ts _ hi.2⟩ ⟨jPc.blind, fun U hU hW => jpre C.sf C.z hP hS hU hW⟩ rfl rfl hL.1 rfl (lv_room (pc := pc) (ls := ls) (m := mm) (rest := (v2 :: v1 :: v0 :: S).map (jv G)) (by rw [jcats_eq]; exact Nat.le_of_ble_eq_true hrest)) hd (by rw [C.room]; exact ⟨hk, hn⟩)
  exact jcall (r := none) hrun (fun st o t h => h) hS (fun H1 locs1 h1 h2 => kk p e s mm args below meth c0 R C H1 locs1 ls h1 h2 hL)
theorem j_callS4 {Mc : MI} {v0 v1 v2 v3 : PV} {r : PV} {m' : Mem} {idx q c' s' : Nat} (hd : decode (mB M) pc = .ok (.invokestatic idx, 3)) (hq : pc + 3 = q) (hi : KS Mc 4) (hl : Cond.methodLink (mY M).cls idx (mY Mc) ∈ jall) (hroom : mF Mc + 1 ≤ mF M ∧ 8 + (mL Mc + 11) + mW Mc ≤ mW M) (hrest : Nat.ble (jcats S) 8 = true) (hk : k + c' ≤ mc) (hn : n + s' ≤ ms) (hM : CT G sh Mc c' s' [v0, v1, v2, v3] m (some r) m') (kk : J G sh M mc ms F q L (r :: S) m' (k + c') (n + s')) : J G sh M mc ms F pc L (v3 :: v2 :: v1 :: v0 :: S) m k n := by
  intro p e s mm args below meth c0 R C H locs ls hP hS hL
  subst hq
  have hrun := va_runS (H := H) (locs := locs) (cells := k) (slots := n) (below := below) (meth := meth) (e := e) (As := [jv G v0, jv G v1, jv G v2, jv G v3]) (rest := S.map (jv G)) (g := F0 mm pc ls ((v3 :: v2 :: v1 :: v0 :: S).map (jv G))) ⟨C.x, C.b, C.ml, C.own, C.ts⟩ hM ⟨jcb C hi.1 hl hroom, C.ts _ hi.2⟩ ⟨jPc.blind, fun U hU hW => jpre C.sf C.z hP hS hU hW⟩ rfl rfl hL.1 rfl (lv_room (pc := pc) (ls := ls) (m := mm) (rest := (v3 :: v2 :: v1 :: v0 :: S).map (jv G)) (by rw [jcats_eq]; exact Nat.le_of_ble_eq_true hrest)) hd (by rw [C.room]; exact ⟨hk, hn⟩)
  exact jcall (r := (some r)) hrun (fun st o t h => h) hS (fun H1 locs1 h1 h2 => kk p e s mm args below meth c0 R C H1 locs1 ls h1 h2 hL)
theorem j_callS4v {Mc : MI} {v0 v1 v2 v3 : PV} {m' : Mem} {idx q c' s' : Nat} (hd : decode (mB M) pc = .ok (.invokestatic idx, 3)) (hq : pc + 3 = q) (hi : KS Mc 4) (hl : Cond.methodLink (mY M).cls idx (mY Mc) ∈ jall) (hroom : mF Mc + 1 ≤ mF M ∧ 8 + (mL Mc + 11) + mW Mc ≤ mW M) (hrest : Nat.ble (jcats S) 8 = true) (hk : k + c' ≤ mc) (hn : n + s' ≤ ms) (hM : CT G sh Mc c' s' [v0, v1, v2, v3] m none m') (kk : J G sh M mc ms F q L (S) m' (k + c') (n + s')) : J G sh M mc ms F pc L (v3 :: v2 :: v1 :: v0 :: S) m k n := by
  intro p e s mm args below meth c0 R C H locs ls hP hS hL
  subst hq
  have hrun := va_runS (H := H) (locs := locs) (cells := k) (slots := n) (below := below) (meth := meth) (e := e) (As := [jv G v0, jv G v1, jv G v2, jv G v3]) (rest := S.map (jv G)) (g := F0 mm pc ls ((v3 :: v2 :: v1 :: v0 :: S).map (jv G))) ⟨C.x, C.b, C.ml, C.own, C.ts⟩ hM ⟨jcb C hi.1 hl hroom, C.ts _ hi.2⟩ ⟨jPc.blind, fun U hU hW => jpre C.sf C.z hP hS hU hW⟩ rfl rfl hL.1 rfl (lv_room (pc := pc) (ls := ls) (m := mm) (rest := (v3 :: v2 :: v1 :: v0 :: S).map (jv G)) (by rw [jcats_eq]; exact Nat.le_of_ble_eq_true hrest)) hd (by rw [C.room]; exact ⟨hk, hn⟩)
  exact jcall (r := none) hrun (fun st o t h => h) hS (fun H1 locs1 h1 h2 => kk p e s mm args below meth c0 R C H1 locs1 ls h1 h2 hL)
theorem j_callS5 {Mc : MI} {v0 v1 v2 v3 v4 : PV} {r : PV} {m' : Mem} {idx q c' s' : Nat} (hd : decode (mB M) pc = .ok (.invokestatic idx, 3)) (hq : pc + 3 = q) (hi : KS Mc 5) (hl : Cond.methodLink (mY M).cls idx (mY Mc) ∈ jall) (hroom : mF Mc + 1 ≤ mF M ∧ 8 + (mL Mc + 11) + mW Mc ≤ mW M) (hrest : Nat.ble (jcats S) 8 = true) (hk : k + c' ≤ mc) (hn : n + s' ≤ ms) (hM : CT G sh Mc c' s' [v0, v1, v2, v3, v4] m (some r) m') (kk : J G sh M mc ms F q L (r :: S) m' (k + c') (n + s')) : J G sh M mc ms F pc L (v4 :: v3 :: v2 :: v1 :: v0 :: S) m k n := by
  intro p e s mm args below meth c0 R C H locs ls hP hS hL
  subst hq
  have hrun := va_runS (H := H) (locs := locs) (cells := k) (slots := n) (below := below) (meth := meth) (e := e) (As := [jv G v0, jv G v1, jv G v2, jv G v3, jv G v4]) (rest := S.map (jv G)) (g := F0 mm pc ls ((v4 :: v3 :: v2 :: v1 :: v0 :: S).map (jv G))) ⟨C.x, C.b, C.ml, C.own, C.ts⟩ hM ⟨jcb C hi.1 hl hroom, C.ts _ hi.2⟩ ⟨jPc.blind, fun U hU hW => jpre C.sf C.z hP hS hU hW⟩ rfl rfl hL.1 rfl (lv_room (pc := pc) (ls := ls) (m := mm) (rest := (v4 :: v3 :: v2 :: v1 :: v0 :: S).map (jv G)) (by rw [jcats_eq]; exact Nat.le_of_ble_eq_true hrest)) hd (by rw [C.room]; exact ⟨hk, hn⟩)
  exact jcall (r := (some r)) hrun (fun st o t h => h) hS (fun H1 locs1 h1 h2 => kk p e s mm args below meth c0 R C H1 locs1 ls h1 h2 hL)
theorem j_callS5v {Mc : MI} {v0 v1 v2 v3 v4 : PV} {m' : Mem} {idx q c' s' : Nat} (hd : decode (mB M) pc = .ok (.invokestatic idx, 3)) (hq : pc + 3 = q) (hi : KS Mc 5) (hl : Cond.methodLink (mY M).cls idx (mY Mc) ∈ jall) (hroom : mF Mc + 1 ≤ mF M ∧ 8 + (mL Mc + 11) + mW Mc ≤ mW M) (hrest : Nat.ble (jcats S) 8 = true) (hk : k + c' ≤ mc) (hn : n + s' ≤ ms) (hM : CT G sh Mc c' s' [v0, v1, v2, v3, v4] m none m') (kk : J G sh M mc ms F q L (S) m' (k + c') (n + s')) : J G sh M mc ms F pc L (v4 :: v3 :: v2 :: v1 :: v0 :: S) m k n := by
  intro p e s mm args below meth c0 R C H locs ls hP hS hL
  subst hq
  have hrun := va_runS (H := H) (locs := locs) (cells := k) (slots := n) (below := below) (meth := meth) (e := e) (As := [jv G v0, jv G v1, jv G v2, jv G v3, jv G v4]) (rest := S.map (jv G)) (g := F0 mm pc ls ((v4 :: v3 :: v2 :: v1 :: v0 :: S).map (jv G))) ⟨C.x, C.b, C.ml, C.own, C.ts⟩ hM ⟨jcb C hi.1 hl hroom, C.ts _ hi.2⟩ ⟨jPc.blind, fun U hU hW => jpre C.sf C.z hP hS hU hW⟩ rfl rfl hL.1 rfl (lv_room (pc := pc) (ls := ls) (m := mm) (rest := (v4 :: v3 :: v2 :: v1 :: v0 :: S).map (jv G)) (by rw [jcats_eq]; exact Nat.le_of_ble_eq_true hrest)) hd (by rw [C.room]; exact ⟨hk, hn⟩)
  exact jcall (r := none) hrun (fun st o t h => h) hS (fun H1 locs1 h1 h2 => kk p e s mm args below meth c0 R C H1 locs1 ls h1 h2 hL)
theorem j_callI0v {Mc : MI} {b : Nat} {m' : Mem} {idx q c' s' : Nat} (hd : decode (mB M) pc = .ok (.invokespecial idx, 3)) (hq : pc + 3 = q) (hi : KC Mc 0) (hl : Cond.methodLink (mY M).cls idx (mY Mc) ∈ jall) (hroom : mF Mc + 1 ≤ mF M ∧ 8 + (mL Mc + 11) + mW Mc ≤ mW M) (hret : mR Mc = none) (hrest : Nat.ble (jcats S) 8 = true) (hk : k + c' ≤ mc) (hn : n + s' ≤ ms) (hM : CT G sh Mc c' s' [.inr (.ref b)] m none m') (kk : J G sh M mc ms F q L (S) m' (k + c') (n + s')) : J G sh M mc ms F pc L (.inr (.ref b) :: S) m k n := by
  intro p e s mm args below meth c0 R C H locs ls hP hS hL
  subst hq
  have cw0 := jcb (c' := c') (s' := s') C hi.1 hl hroom
  have hM2 : Met _ _ _ _ _ _ _ _ _ := hM
  rw [hret] at cw0 hM2
  have hrun := va_runI (H := H) (locs := locs) (cells := k) (slots := n) (below := below) (meth := meth) (e := e) (As := []) (rest := S.map (jv G)) (g := F0 mm pc ls ((.inr (.ref b) :: S).map (jv G))) ⟨C.x, C.b, C.ml, C.own, C.ts⟩ hM2 ⟨cw0, hi.2.1, C.ts _ hi.2.2⟩ ⟨jPc.blind, fun U hU hW => jpre C.sf C.z hP hS hU hW⟩ rfl rfl hL.1 rfl (lv_room (pc := pc) (ls := ls) (m := mm) (rest := (.inr (.ref b) :: S).map (jv G)) (by rw [jcats_eq]; exact Nat.le_of_ble_eq_true hrest)) hd (by rw [C.room]; exact ⟨hk, hn⟩)
  exact jcall (r := none) hrun (fun st o t h => h) hS (fun H1 locs1 h1 h2 => kk p e s mm args below meth c0 R C H1 locs1 ls h1 h2 hL)
theorem j_callI1v {Mc : MI} {b : Nat} {v0 : PV} {m' : Mem} {idx q c' s' : Nat} (hd : decode (mB M) pc = .ok (.invokespecial idx, 3)) (hq : pc + 3 = q) (hi : KC Mc 1) (hl : Cond.methodLink (mY M).cls idx (mY Mc) ∈ jall) (hroom : mF Mc + 1 ≤ mF M ∧ 8 + (mL Mc + 11) + mW Mc ≤ mW M) (hret : mR Mc = none) (hrest : Nat.ble (jcats S) 8 = true) (hk : k + c' ≤ mc) (hn : n + s' ≤ ms) (hM : CT G sh Mc c' s' [.inr (.ref b), v0] m none m') (kk : J G sh M mc ms F q L (S) m' (k + c') (n + s')) : J G sh M mc ms F pc L (v0 :: .inr (.ref b) :: S) m k n := by
  intro p e s mm args below meth c0 R C H locs ls hP hS hL
  subst hq
  have cw0 := jcb (c' := c') (s' := s') C hi.1 hl hroom
  have hM2 : Met _ _ _ _ _ _ _ _ _ := hM
  rw [hret] at cw0 hM2
  have hrun := va_runI (H := H) (locs := locs) (cells := k) (slots := n) (below := below) (meth := meth) (e := e) (As := [jv G v0]) (rest := S.map (jv G)) (g := F0 mm pc ls ((v0 :: .inr (.ref b) :: S).map (jv G))) ⟨C.x, C.b, C.ml, C.own, C.ts⟩ hM2 ⟨cw0, hi.2.1, C.ts _ hi.2.2⟩ ⟨jPc.blind, fun U hU hW => jpre C.sf C.z hP hS hU hW⟩ rfl rfl hL.1 rfl (lv_room (pc := pc) (ls := ls) (m := mm) (rest := (v0 :: .inr (.ref b) :: S).map (jv G)) (by rw [jcats_eq]; exact Nat.le_of_ble_eq_true hrest)) hd (by rw [C.room]; exact ⟨hk, hn⟩)
  exact jcall (r := none) hrun (fun st o t h => h) hS (fun H1 locs1 h1 h2 => kk p e s mm args below meth c0 R C H1 locs1 ls h1 h2 hL)
theorem j_callI2v {Mc : MI} {b : Nat} {v0 v1 : PV} {m' : Mem} {idx q c' s' : Nat} (hd : decode (mB M) pc = .ok (.invokespecial idx, 3)) (hq : pc + 3 = q) (hi : KC Mc 2) (hl : Cond.methodLink (mY M).cls idx (mY Mc) ∈ jall) (hroom : mF Mc + 1 ≤ mF M ∧ 8 + (mL Mc + 11) + mW Mc ≤ mW M) (hret : mR Mc = none) (hrest : Nat.ble (jcats S) 8 = true) (hk : k + c' ≤ mc) (hn : n + s' ≤ ms) (hM : CT G sh Mc c' s' [.inr (.ref b), v0, v1] m none m') (kk : J G sh M mc ms F q L (S) m' (k + c') (n + s')) : J G sh M mc ms F pc L (v1 :: v0 :: .inr (.ref b) :: S) m k n := by
  intro p e s mm args below meth c0 R C H locs ls hP hS hL
  subst hq
  have cw0 := jcb (c' := c') (s' := s') C hi.1 hl hroom
  have hM2 : Met _ _ _ _ _ _ _ _ _ := hM
  rw [hret] at cw0 hM2
  have hrun := va_runI (H := H) (locs := locs) (cells := k) (slots := n) (below := below) (meth := meth) (e := e) (As := [jv G v0, jv G v1]) (rest := S.map (jv G)) (g := F0 mm pc ls ((v1 :: v0 :: .inr (.ref b) :: S).map (jv G))) ⟨C.x, C.b, C.ml, C.own, C.ts⟩ hM2 ⟨cw0, hi.2.1, C.ts _ hi.2.2⟩ ⟨jPc.blind, fun U hU hW => jpre C.sf C.z hP hS hU hW⟩ rfl rfl hL.1 rfl (lv_room (pc := pc) (ls := ls) (m := mm) (rest := (v1 :: v0 :: .inr (.ref b) :: S).map (jv G)) (by rw [jcats_eq]; exact Nat.le_of_ble_eq_true hrest)) hd (by rw [C.room]; exact ⟨hk, hn⟩)
  exact jcall (r := none) hrun (fun st o t h => h) hS (fun H1 locs1 h1 h2 => kk p e s mm args below meth c0 R C H1 locs1 ls h1 h2 hL)
theorem j_callI3v {Mc : MI} {b : Nat} {v0 v1 v2 : PV} {m' : Mem} {idx q c' s' : Nat} (hd : decode (mB M) pc = .ok (.invokespecial idx, 3)) (hq : pc + 3 = q) (hi : KC Mc 3) (hl : Cond.methodLink (mY M).cls idx (mY Mc) ∈ jall) (hroom : mF Mc + 1 ≤ mF M ∧ 8 + (mL Mc + 11) + mW Mc ≤ mW M) (hret : mR Mc = none) (hrest : Nat.ble (jcats S) 8 = true) (hk : k + c' ≤ mc) (hn : n + s' ≤ ms) (hM : CT G sh Mc c' s' [.inr (.ref b), v0, v1, v2] m none m') (kk : J G sh M mc ms F q L (S) m' (k + c') (n + s')) : J G sh M mc ms F pc L (v2 :: v1 :: v0 :: .inr (.ref b) :: S) m k n := by
  intro p e s mm args below meth c0 R C H locs ls hP hS hL
  subst hq
  have cw0 := jcb (c' := c') (s' := s') C hi.1 hl hroom
  have hM2 : Met _ _ _ _ _ _ _ _ _ := hM
  rw [hret] at cw0 hM2
  have hrun := va_runI (H := H) (locs := locs) (cells := k) (slots := n) (below := below) (meth := meth) (e := e) (As := [jv G v0, jv G v1, jv G v2]) (rest := S.map (jv G)) (g := F0 mm pc ls ((v2 :: v1 :: v0 :: .inr (.ref b) :: S).map (jv G))) ⟨C.x, C.b, C.ml, C.own, C.ts⟩ hM2 ⟨cw0, hi.2.1, C.ts _ hi.2.2⟩ ⟨jPc.blind, fun U hU hW => jpre C.sf C.z hP hS hU hW⟩ rfl rfl hL.1 rfl (lv_room (pc := pc) (ls := ls) (m := mm) (rest := (v2 :: v1 :: v0 :: .inr (.ref b) :: S).map (jv G)) (by rw [jcats_eq]; exact Nat.le_of_ble_eq_true hrest)) hd (by rw [C.room]; exact ⟨hk, hn⟩)
  exact jcall (r := none) hrun (fun st o t h => h) hS (fun H1 locs1 h1 h2 => kk p e s mm args below meth c0 R C H1 locs1 ls h1 h2 hL)
theorem j_callI4v {Mc : MI} {b : Nat} {v0 v1 v2 v3 : PV} {m' : Mem} {idx q c' s' : Nat} (hd : decode (mB M) pc = .ok (.invokespecial idx, 3)) (hq : pc + 3 = q) (hi : KC Mc 4) (hl : Cond.methodLink (mY M).cls idx (mY Mc) ∈ jall) (hroom : mF Mc + 1 ≤ mF M ∧ 8 + (mL Mc + 11) + mW Mc ≤ mW M) (hret : mR Mc = none) (hrest : Nat.ble (jcats S) 8 = true) (hk : k + c' ≤ mc) (hn : n + s' ≤ ms) (hM : CT G sh Mc c' s' [.inr (.ref b), v0, v1, v2, v3] m none m') (kk : J G sh M mc ms F q L (S) m' (k + c') (n + s')) : J G sh M mc ms F pc L (v3 :: v2 :: v1 :: v0 :: .inr (.ref b) :: S) m k n := by
  intro p e s mm args below meth c0 R C H locs ls hP hS hL
  subst hq
  have cw0 := jcb (c' := c') (s' := s') C hi.1 hl hroom
  have hM2 : Met _ _ _ _ _ _ _ _ _ := hM
  rw [hret] at cw0 hM2
  have hrun := va_runI (H := H) (locs := locs) (cells := k) (slots := n) (below := below) (meth := meth) (e := e) (As := [jv G v0, jv G v1, jv G v2, jv G v3]) (rest := S.map (jv G)) (g := F0 mm pc ls ((v3 :: v2 :: v1 :: v0 :: .inr (.ref b) :: S).map (jv G))) ⟨C.x, C.b, C.ml, C.own, C.ts⟩ hM2 ⟨cw0, hi.2.1, C.ts _ hi.2.2⟩ ⟨jPc.blind, fun U hU hW => jpre C.sf C.z hP hS hU hW⟩ rfl rfl hL.1 rfl (lv_room (pc := pc) (ls := ls) (m := mm) (rest := (v3 :: v2 :: v1 :: v0 :: .inr (.ref b) :: S).map (jv G)) (by rw [jcats_eq]; exact Nat.le_of_ble_eq_true hrest)) hd (by rw [C.room]; exact ⟨hk, hn⟩)
  exact jcall (r := none) hrun (fun st o t h => h) hS (fun H1 locs1 h1 h2 => kk p e s mm args below meth c0 R C H1 locs1 ls h1 h2 hL)
theorem j_callI5v {Mc : MI} {b : Nat} {v0 v1 v2 v3 v4 : PV} {m' : Mem} {idx q c' s' : Nat} (hd : decode (mB M) pc = .ok (.invokespecial idx, 3)) (hq : pc + 3 = q) (hi : KC Mc 5) (hl : Cond.methodLink (mY M).cls idx (mY Mc) ∈ jall) (hroom : mF Mc + 1 ≤ mF M ∧ 8 + (mL Mc + 11) + mW Mc ≤ mW M) (hret : mR Mc = none) (hrest : Nat.ble (jcats S) 8 = true) (hk : k + c' ≤ mc) (hn : n + s' ≤ ms) (hM : CT G sh Mc c' s' [.inr (.ref b), v0, v1, v2, v3, v4] m none m') (kk : J G sh M mc ms F q L (S) m' (k + c') (n + s')) : J G sh M mc ms F pc L (v4 :: v3 :: v2 :: v1 :: v0 :: .inr (.ref b) :: S) m k n := by
  intro p e s mm args below meth c0 R C H locs ls hP hS hL
  subst hq
  have cw0 := jcb (c' := c') (s' := s') C hi.1 hl hroom
  have hM2 : Met _ _ _ _ _ _ _ _ _ := hM
  rw [hret] at cw0 hM2
  have hrun := va_runI (H := H) (locs := locs) (cells := k) (slots := n) (below := below) (meth := meth) (e := e) (As := [jv G v0, jv G v1, jv G v2, jv G v3, jv G v4]) (rest := S.map (jv G)) (g := F0 mm pc ls ((v4 :: v3 :: v2 :: v1 :: v0 :: .inr (.ref b) :: S).map (jv G))) ⟨C.x, C.b, C.ml, C.own, C.ts⟩ hM2 ⟨cw0, hi.2.1, C.ts _ hi.2.2⟩ ⟨jPc.blind, fun U hU hW => jpre C.sf C.z hP hS hU hW⟩ rfl rfl hL.1 rfl (lv_room (pc := pc) (ls := ls) (m := mm) (rest := (v4 :: v3 :: v2 :: v1 :: v0 :: .inr (.ref b) :: S).map (jv G)) (by rw [jcats_eq]; exact Nat.le_of_ble_eq_true hrest)) hd (by rw [C.room]; exact ⟨hk, hn⟩)
  exact jcall (r := none) hrun (fun st o t h => h) hS (fun H1 locs1 h1 h2 => kk p e s mm args below meth c0 R C H1 locs1 ls h1 h2 hL)
theorem j_callVN0 {Mc : MI} {b ci : Nat} {ks : List (Nat ⊕ Nat)} {q0 : vw_C} {r : PV} {m' : Mem} {idx q c' s' : Nat} (hd : decode (mB M) pc = .ok (.invokevirtual idx, 3)) (hq : pc + 3 = q) (hi : KV Mc 0) (hl : ((mY M).cls, idx, mY Mc) ∈ jnest) (hroom : mF Mc + 1 ≤ mF M ∧ 8 + (mL Mc + 11) + mW Mc ≤ mW M) (hb : sh[b]? = some (.inl (ci, ks))) (hc : vwCl[ci]? = some q0) (hcl : q0.1 = (mY Mc).cls) (hrest : Nat.ble (jcats S) 8 = true) (hk : k + c' ≤ mc) (hn : n + s' ≤ ms) (hM : CT G sh Mc c' s' [.inr (.ref b)] m (some r) m') (kk : J G sh M mc ms F q L (r :: S) m' (k + c') (n + s')) : J G sh M mc ms F pc L (.inr (.ref b) :: S) m k n := by
  intro p e s mm args below meth c0 R C H locs ls hP hS hL
  subst hq
  obtain ⟨cell, g1, g2, g3⟩ := va_recv C.k hP hc (jws_at hb)
  rw [hcl] at g3
  have hrun := va_runVN (H := H) (locs := locs) (cells := k) (slots := n) (below := below) (meth := meth) (e := e) (As := []) (rest := S.map (jv G)) (g := F0 mm pc ls ((.inr (.ref b) :: S).map (jv G))) ⟨C.x, C.b, C.ml, C.own, C.ts⟩ hM ⟨jcn C hi.1 hl hroom, C.ts _ hi.2.1, C.ts _ hi.2.2⟩ ⟨jPc.blind, ⟨cell, g1, g2, g3⟩, fun U hU hW => jpre C.sf C.z hP hS hU hW⟩ rfl rfl hL.1 rfl (lv_room (pc := pc) (ls := ls) (m := mm) (rest := (.inr (.ref b) :: S).map (jv G)) (by rw [jcats_eq]; exact Nat.le_of_ble_eq_true hrest)) hd (by rw [C.room]; exact ⟨hk, hn⟩)
  exact jcall (r := (some r)) hrun (fun st o t h => h) hS (fun H1 locs1 h1 h2 => kk p e s mm args below meth c0 R C H1 locs1 ls h1 h2 hL)
theorem j_callVN0v {Mc : MI} {b ci : Nat} {ks : List (Nat ⊕ Nat)} {q0 : vw_C} {m' : Mem} {idx q c' s' : Nat} (hd : decode (mB M) pc = .ok (.invokevirtual idx, 3)) (hq : pc + 3 = q) (hi : KV Mc 0) (hl : ((mY M).cls, idx, mY Mc) ∈ jnest) (hroom : mF Mc + 1 ≤ mF M ∧ 8 + (mL Mc + 11) + mW Mc ≤ mW M) (hb : sh[b]? = some (.inl (ci, ks))) (hc : vwCl[ci]? = some q0) (hcl : q0.1 = (mY Mc).cls) (hrest : Nat.ble (jcats S) 8 = true) (hk : k + c' ≤ mc) (hn : n + s' ≤ ms) (hM : CT G sh Mc c' s' [.inr (.ref b)] m none m') (kk : J G sh M mc ms F q L (S) m' (k + c') (n + s')) : J G sh M mc ms F pc L (.inr (.ref b) :: S) m k n := by
  intro p e s mm args below meth c0 R C H locs ls hP hS hL
  subst hq
  obtain ⟨cell, g1, g2, g3⟩ := va_recv C.k hP hc (jws_at hb)
  rw [hcl] at g3
  have hrun := va_runVN (H := H) (locs := locs) (cells := k) (slots := n) (below := below) (meth := meth) (e := e) (As := []) (rest := S.map (jv G)) (g := F0 mm pc ls ((.inr (.ref b) :: S).map (jv G))) ⟨C.x, C.b, C.ml, C.own, C.ts⟩ hM ⟨jcn C hi.1 hl hroom, C.ts _ hi.2.1, C.ts _ hi.2.2⟩ ⟨jPc.blind, ⟨cell, g1, g2, g3⟩, fun U hU hW => jpre C.sf C.z hP hS hU hW⟩ rfl rfl hL.1 rfl (lv_room (pc := pc) (ls := ls) (m := mm) (rest := (.inr (.ref b) :: S).map (jv G)) (by rw [jcats_eq]; exact Nat.le_of_ble_eq_true hrest)) hd (by rw [C.room]; exact ⟨hk, hn⟩)
  exact jcall (r := none) hrun (fun st o t h => h) hS (fun H1 locs1 h1 h2 => kk p e s mm args below meth c0 R C H1 locs1 ls h1 h2 hL)
theorem j_callVN1 {Mc : MI} {b ci : Nat} {ks : List (Nat ⊕ Nat)} {q0 : vw_C} {v0 : PV} {r : PV} {m' : Mem} {idx q c' s' : Nat} (hd : decode (mB M) pc = .ok (.invokevirtual idx, 3)) (hq : pc + 3 = q) (hi : KV Mc 1) (hl : ((mY M).cls, idx, mY Mc) ∈ jnest) (hroom : mF Mc + 1 ≤ mF M ∧ 8 + (mL Mc + 11) + mW Mc ≤ mW M) (hb : sh[b]? = some (.inl (ci, ks))) (hc : vwCl[ci]? = some q0) (hcl : q0.1 = (mY Mc).cls) (hrest : Nat.ble (jcats S) 8 = true) (hk : k + c' ≤ mc) (hn : n + s' ≤ ms) (hM : CT G sh Mc c' s' [.inr (.ref b), v0] m (some r) m') (kk : J G sh M mc ms F q L (r :: S) m' (k + c') (n + s')) : J G sh M mc ms F pc L (v0 :: .inr (.ref b) :: S) m k n := by
  intro p e s mm args below meth c0 R C H locs ls hP hS hL
  subst hq
  obtain ⟨cell, g1, g2, g3⟩ := va_recv C.k hP hc (jws_at hb)
  rw [hcl] at g3
  have hrun := va_runVN (H := H) (locs := locs) (cells := k) (slots := n) (below := below) (meth := meth) (e := e) (As := [jv G v0]) (rest := S.map (jv G)) (g := F0 mm pc ls ((v0 :: .inr (.ref b) :: S).map (jv G))) ⟨C.x, C.b, C.ml, C.own, C.ts⟩ hM ⟨jcn C hi.1 hl hroom, C.ts _ hi.2.1, C.ts _ hi.2.2⟩ ⟨jPc.blind, ⟨cell, g1, g2, g3⟩, fun U hU hW => jpre C.sf C.z hP hS hU hW⟩ rfl rfl hL.1 rfl (lv_room (pc := pc) (ls := ls) (m := mm) (rest := (v0 :: .inr (.ref b) :: S).map (jv G)) (by rw [jcats_eq]; exact Nat.le_of_ble_eq_true hrest)) hd (by rw [C.room]; exact ⟨hk, hn⟩)
  exact jcall (r := (some r)) hrun (fun st o t h => h) hS (fun H1 locs1 h1 h2 => kk p e s mm args below meth c0 R C H1 locs1 ls h1 h2 hL)
theorem j_callVN1v {Mc : MI} {b ci : Nat} {ks : List (Nat ⊕ Nat)} {q0 : vw_C} {v0 : PV} {m' : Mem} {idx q c' s' : Nat} (hd : decode (mB M) pc = .ok (.invokevirtual idx, 3)) (hq : pc + 3 = q) (hi : KV Mc 1) (hl : ((mY M).cls, idx, mY Mc) ∈ jnest) (hroom : mF Mc + 1 ≤ mF M ∧ 8 + (mL Mc + 11) + mW Mc ≤ mW M) (hb : sh[b]? = some (.inl (ci, ks))) (hc : vwCl[ci]? = some q0) (hcl : q0.1 = (mY Mc).cls) (hrest : Nat.ble (jcats S) 8 = true) (hk : k + c' ≤ mc) (hn : n + s' ≤ ms) (hM : CT G sh Mc c' s' [.inr (.ref b), v0] m none m') (kk : J G sh M mc ms F q L (S) m' (k + c') (n + s')) : J G sh M mc ms F pc L (v0 :: .inr (.ref b) :: S) m k n := by
  intro p e s mm args below meth c0 R C H locs ls hP hS hL
  subst hq
  obtain ⟨cell, g1, g2, g3⟩ := va_recv C.k hP hc (jws_at hb)
  rw [hcl] at g3
  have hrun := va_runVN (H := H) (locs := locs) (cells := k) (slots := n) (below := below) (meth := meth) (e := e) (As := [jv G v0]) (rest := S.map (jv G)) (g := F0 mm pc ls ((v0 :: .inr (.ref b) :: S).map (jv G))) ⟨C.x, C.b, C.ml, C.own, C.ts⟩ hM ⟨jcn C hi.1 hl hroom, C.ts _ hi.2.1, C.ts _ hi.2.2⟩ ⟨jPc.blind, ⟨cell, g1, g2, g3⟩, fun U hU hW => jpre C.sf C.z hP hS hU hW⟩ rfl rfl hL.1 rfl (lv_room (pc := pc) (ls := ls) (m := mm) (rest := (v0 :: .inr (.ref b) :: S).map (jv G)) (by rw [jcats_eq]; exact Nat.le_of_ble_eq_true hrest)) hd (by rw [C.room]; exact ⟨hk, hn⟩)
  exact jcall (r := none) hrun (fun st o t h => h) hS (fun H1 locs1 h1 h2 => kk p e s mm args below meth c0 R C H1 locs1 ls h1 h2 hL)
theorem j_callVN2 {Mc : MI} {b ci : Nat} {ks : List (Nat ⊕ Nat)} {q0 : vw_C} {v0 v1 : PV} {r : PV} {m' : Mem} {idx q c' s' : Nat} (hd : decode (mB M) pc = .ok (.invokevirtual idx, 3)) (hq : pc + 3 = q) (hi : KV Mc 2) (hl : ((mY M).cls, idx, mY Mc) ∈ jnest) (hroom : mF Mc + 1 ≤ mF M ∧ 8 + (mL Mc + 11) + mW Mc ≤ mW M) (hb : sh[b]? = some (.inl (ci, ks))) (hc : vwCl[ci]? = some q0) (hcl : q0.1 = (mY Mc).cls) (hrest : Nat.ble (jcats S) 8 = true) (hk : k + c' ≤ mc) (hn : n + s' ≤ ms) (hM : CT G sh Mc c' s' [.inr (.ref b), v0, v1] m (some r) m') (kk : J G sh M mc ms F q L (r :: S) m' (k + c') (n + s')) : J G sh M mc ms F pc L (v1 :: v0 :: .inr (.ref b) :: S) m k n := by
  intro p e s mm args below meth c0 R C H locs ls hP hS hL
  subst hq
  obtain ⟨cell, g1, g2, g3⟩ := va_recv C.k hP hc (jws_at hb)
  rw [hcl] at g3
  have hrun := va_runVN (H := H) (locs := locs) (cells := k) (slots := n) (below := below) (meth := meth) (e := e) (As := [jv G v0, jv G v1]) (rest := S.map (jv G)) (g := F0 mm pc ls ((v1 :: v0 :: .inr (.ref b) :: S).map (jv G))) ⟨C.x, C.b, C.ml, C.own, C.ts⟩ hM ⟨jcn C hi.1 hl hroom, C.ts _ hi.2.1, C.ts _ hi.2.2⟩ ⟨jPc.blind, ⟨cell, g1, g2, g3⟩, fun U hU hW => jpre C.sf C.z hP hS hU hW⟩ rfl rfl hL.1 rfl (lv_room (pc := pc) (ls := ls) (m := mm) (rest := (v1 :: v0 :: .inr (.ref b) :: S).map (jv G)) (by rw [jcats_eq]; exact Nat.le_of_ble_eq_true hrest)) hd (by rw [C.room]; exact ⟨hk, hn⟩)
  exact jcall (r := (some r)) hrun (fun st o t h => h) hS (fun H1 locs1 h1 h2 => kk p e s mm args below meth c0 R C H1 locs1 ls h1 h2 hL)
theorem j_callVN2v {Mc : MI} {b ci : Nat} {ks : List (Nat ⊕ Nat)} {q0 : vw_C} {v0 v1 : PV} {m' : Mem} {idx q c' s' : Nat} (hd : decode (mB M) pc = .ok (.invokevirtual idx, 3)) (hq : pc + 3 = q) (hi : KV Mc 2) (hl : ((mY M).cls, idx, mY Mc) ∈ jnest) (hroom : mF Mc + 1 ≤ mF M ∧ 8 + (mL Mc + 11) + mW Mc ≤ mW M) (hb : sh[b]? = some (.inl (ci, ks))) (hc : vwCl[ci]? = some q0) (hcl : q0.1 = (mY Mc).cls) (hrest : Nat.ble (jcats S) 8 = true) (hk : k + c' ≤ mc) (hn : n + s' ≤ ms) (hM : CT G sh Mc c' s' [.inr (.ref b), v0, v1] m none m') (kk : J G sh M mc ms F q L (S) m' (k + c') (n + s')) : J G sh M mc ms F pc L (v1 :: v0 :: .inr (.ref b) :: S) m k n := by
  intro p e s mm args below meth c0 R C H locs ls hP hS hL
  subst hq
  obtain ⟨cell, g1, g2, g3⟩ := va_recv C.k hP hc (jws_at hb)
  rw [hcl] at g3
  have hrun := va_runVN (H := H) (locs := locs) (cells := k) (slots := n) (below := below) (meth := meth) (e := e) (As := [jv G v0, jv G v1]) (rest := S.map (jv G)) (g := F0 mm pc ls ((v1 :: v0 :: .inr (.ref b) :: S).map (jv G))) ⟨C.x, C.b, C.ml, C.own, C.ts⟩ hM ⟨jcn C hi.1 hl hroom, C.ts _ hi.2.1, C.ts _ hi.2.2⟩ ⟨jPc.blind, ⟨cell, g1, g2, g3⟩, fun U hU hW => jpre C.sf C.z hP hS hU hW⟩ rfl rfl hL.1 rfl (lv_room (pc := pc) (ls := ls) (m := mm) (rest := (v1 :: v0 :: .inr (.ref b) :: S).map (jv G)) (by rw [jcats_eq]; exact Nat.le_of_ble_eq_true hrest)) hd (by rw [C.room]; exact ⟨hk, hn⟩)
  exact jcall (r := none) hrun (fun st o t h => h) hS (fun H1 locs1 h1 h2 => kk p e s mm args below meth c0 R C H1 locs1 ls h1 h2 hL)
theorem j_callVN3 {Mc : MI} {b ci : Nat} {ks : List (Nat ⊕ Nat)} {q0 : vw_C} {v0 v1 v2 : PV} {r : PV} {m' : Mem} {idx q c' s' : Nat} (hd : decode (mB M) pc = .ok (.invokevirtual idx, 3)) (hq : pc + 3 = q) (hi : KV Mc 3) (hl : ((mY M).cls, idx, mY Mc) ∈ jnest) (hroom : mF Mc + 1 ≤ mF M ∧ 8 + (mL Mc + 11) + mW Mc ≤ mW M) (hb : sh[b]? = some (.inl (ci, ks))) (hc : vwCl[ci]? = some q0) (hcl : q0.1 = (mY Mc).cls) (hrest : Nat.ble (jcats S) 8 = true) (hk : k + c' ≤ mc) (hn : n + s' ≤ ms) (hM : CT G sh Mc c' s' [.inr (.ref b), v0, v1, v2] m (some r) m') (kk : J G sh M mc ms F q L (r :: S) m' (k + c') (n + s')) : J G sh M mc ms F pc L (v2 :: v1 :: v0 :: .inr (.ref b) :: S) m k n := by
  intro p e s mm args below meth c0 R C H locs ls hP hS hL
  subst hq
  obtain ⟨cell, g1, g2, g3⟩ := va_recv C.k hP hc (jws_at hb)
  rw [hcl] at g3
  have hrun := va_runVN (H := H) (locs := locs) (cells := k) (slots := n) (below := below) (meth := meth) (e := e) (As := [jv G v0, jv G v1, jv G v2]) (rest := S.map (jv G)) (g := F0 mm pc ls ((v2 :: v1 :: v0 :: .inr (.ref b) :: S).map (jv G))) ⟨C.x, C.b, C.ml, C.own, C.ts⟩ hM ⟨jcn C hi.1 hl hroom, C.ts _ hi.2.1, C.ts _ hi.2.2⟩ ⟨jPc.blind, ⟨cell, g1, g2, g3⟩, fun U hU hW => jpre C.sf C.z hP hS hU hW⟩ rfl rfl hL.1 rfl (lv_room (pc := pc) (ls := ls) (m := mm) (rest := (v2 :: v1 :: v0 :: .inr (.ref b) :: S).map (jv G)) (by rw [jcats_eq]; exact Nat.le_of_ble_eq_true hrest)) hd (by rw [C.room]; exact ⟨hk, hn⟩)
  exact jcall (r := (some r)) hrun (fun st o t h => h) hS (fun H1 locs1 h1 h2 => kk p e s mm args below meth c0 R C H1 locs1 ls h1 h2 hL)
theorem j_callVN3v {Mc : MI} {b ci : Nat} {ks : List (Nat ⊕ Nat)} {q0 : vw_C} {v0 v1 v2 : PV} {m' : Mem} {idx q c' s' : Nat} (hd : decode (mB M) pc = .ok (.invokevirtual idx, 3)) (hq : pc + 3 = q) (hi : KV Mc 3) (hl : ((mY M).cls, idx, mY Mc) ∈ jnest) (hroom : mF Mc + 1 ≤ mF M ∧ 8 + (mL Mc + 11) + mW Mc ≤ mW M) (hb : sh[b]? = some (.inl (ci, ks))) (hc : vwCl[ci]? = some q0) (hcl : q0.1 = (mY Mc).cls) (hrest : Nat.ble (jcats S) 8 = true) (hk : k + c' ≤ mc) (hn : n + s' ≤ ms) (hM : CT G sh Mc c' s' [.inr (.ref b), v0, v1, v2] m none m') (kk : J G sh M mc ms F q L (S) m' (k + c') (n + s')) : J G sh M mc ms F pc L (v2 :: v1 :: v0 :: .inr (.ref b) :: S) m k n := by
  intro p e s mm args below meth c0 R C H locs ls hP hS hL
  subst hq
  obtain ⟨cell, g1, g2, g3⟩ := va_recv C.k hP hc (jws_at hb)
  rw [hcl] at g3
  have hrun := va_runVN (H := H) (locs := locs) (cells := k) (slots := n) (below := below) (meth := meth) (e := e) (As := [jv G v0, jv G v1, jv G v2]) (rest := S.map (jv G)) (g := F0 mm pc ls ((v2 :: v1 :: v0 :: .inr (.ref b) :: S).map (jv G))) ⟨C.x, C.b, C.ml, C.own, C.ts⟩ hM ⟨jcn C hi.1 hl hroom, C.ts _ hi.2.1, C.ts _ hi.2.2⟩ ⟨jPc.blind, ⟨cell, g1, g2, g3⟩, fun U hU hW => jpre C.sf C.z hP hS hU hW⟩ rfl rfl hL.1 rfl (lv_room (pc := pc) (ls := ls) (m := mm) (rest := (v2 :: v1 :: v0 :: .inr (.ref b) :: S).map (jv G)) (by rw [jcats_eq]; exact Nat.le_of_ble_eq_true hrest)) hd (by rw [C.room]; exact ⟨hk, hn⟩)
  exact jcall (r := none) hrun (fun st o t h => h) hS (fun H1 locs1 h1 h2 => kk p e s mm args below meth c0 R C H1 locs1 ls h1 h2 hL)
theorem j_callVN4 {Mc : MI} {b ci : Nat} {ks : List (Nat ⊕ Nat)} {q0 : vw_C} {v0 v1 v2 v3 : PV} {r : PV} {m' : Mem} {idx q c' s' : Nat} (hd : decode (mB M) pc = .ok (.invokevirtual idx, 3)) (hq : pc + 3 = q) (hi : KV Mc 4) (hl : ((mY M).cls, idx, mY Mc) ∈ jnest) (hroom : mF Mc + 1 ≤ mF M ∧ 8 + (mL Mc + 11) + mW Mc ≤ mW M) (hb : sh[b]? = some (.inl (ci, ks))) (hc : vwCl[ci]? = some q0) (hcl : q0.1 = (mY Mc).cls) (hrest : Nat.ble (jcats S) 8 = true) (hk : k + c' ≤ mc) (hn : n + s' ≤ ms) (hM : CT G sh Mc c' s' [.inr (.ref b), v0, v1, v2, v3] m (some r) m') (kk : J G sh M mc ms F q L (r :: S) m' (k + c') (n + s')) : J G sh M mc ms F pc L (v3 :: v2 :: v1 :: v0 :: .inr (.ref b) :: S) m k n := by
  intro p e s mm args below meth c0 R C H locs ls hP hS hL
  subst hq
  obtain ⟨cell, g1, g2, g3⟩ := va_recv C.k hP hc (jws_at hb)
  rw [hcl] at g3
  have hrun := va_runVN (H := H) (locs := locs) (cells := k) (slots := n) (below := below) (meth := meth) (e := e) (As := [jv G v0, jv G v1, jv G v2, jv G v3]) (rest := S.map (jv G)) (g := F0 mm pc ls ((v3 :: v2 :: v1 :: v0 :: .inr (.ref b) :: S).map (jv G))) ⟨C.x, C.b, C.ml, C.own, C.ts⟩ hM ⟨jcn C hi.1 hl hroom, C.ts _ hi.2.1, C.ts _ hi.2.2⟩ ⟨jPc.blind, ⟨cell, g1, g2, g3⟩, fun U hU hW => jpre C.sf C.z hP hS hU hW⟩ rfl rfl hL.1 rfl (lv_room (pc := pc) (ls := ls) (m := mm) (rest := (v3 :: v2 :: v1 :: v0 :: .inr (.ref b) :: S).map (jv G)) (by rw [jcats_eq]; exact Nat.le_of_ble_eq_true hrest)) hd (by rw [C.room]; exact ⟨hk, hn⟩)
  exact jcall (r := (some r)) hrun (fun st o t h => h) hS (fun H1 locs1 h1 h2 => kk p e s mm args below meth c0 R C H1 locs1 ls h1 h2 hL)
theorem j_callVN4v {Mc : MI} {b ci : Nat} {ks : List (Nat ⊕ Nat)} {q0 : vw_C} {v0 v1 v2 v3 : PV} {m' : Mem} {idx q c' s' : Nat} (hd : decode (mB M) pc = .ok (.invokevirtual idx, 3)) (hq : pc + 3 = q) (hi : KV Mc 4) (hl : ((mY M).cls, idx, mY Mc) ∈ jnest) (hroom : mF Mc + 1 ≤ mF M ∧ 8 + (mL Mc + 11) + mW Mc ≤ mW M) (hb : sh[b]? = some (.inl (ci, ks))) (hc : vwCl[ci]? = some q0) (hcl : q0.1 = (mY Mc).cls) (hrest : Nat.ble (jcats S) 8 = true) (hk : k + c' ≤ mc) (hn : n + s' ≤ ms) (hM : CT G sh Mc c' s' [.inr (.ref b), v0, v1, v2, v3] m none m') (kk : J G sh M mc ms F q L (S) m' (k + c') (n + s')) : J G sh M mc ms F pc L (v3 :: v2 :: v1 :: v0 :: .inr (.ref b) :: S) m k n := by
  intro p e s mm args below meth c0 R C H locs ls hP hS hL
  subst hq
  obtain ⟨cell, g1, g2, g3⟩ := va_recv C.k hP hc (jws_at hb)
  rw [hcl] at g3
  have hrun := va_runVN (H := H) (locs := locs) (cells := k) (slots := n) (below := below) (meth := meth) (e := e) (As := [jv G v0, jv G v1, jv G v2, jv G v3]) (rest := S.map (jv G)) (g := F0 mm pc ls ((v3 :: v2 :: v1 :: v0 :: .inr (.ref b) :: S).map (jv G))) ⟨C.x, C.b, C.ml, C.own, C.ts⟩ hM ⟨jcn C hi.1 hl hroom, C.ts _ hi.2.1, C.ts _ hi.2.2⟩ ⟨jPc.blind, ⟨cell, g1, g2, g3⟩, fun U hU hW => jpre C.sf C.z hP hS hU hW⟩ rfl rfl hL.1 rfl (lv_room (pc := pc) (ls := ls) (m := mm) (rest := (v3 :: v2 :: v1 :: v0 :: .inr (.ref b) :: S).map (jv G)) (by rw [jcats_eq]; exact Nat.le_of_ble_eq_true hrest)) hd (by rw [C.room]; exact ⟨hk, hn⟩)
  exact jcall (r := none) hrun (fun st o t h => h) hS (fun H1 locs1 h1 h2 => kk p e s mm args below meth c0 R C H1 locs1 ls h1 h2 hL)
theorem j_callVN5 {Mc : MI} {b ci : Nat} {ks : List (Nat ⊕ Nat)} {q0 : vw_C} {v0 v1 v2 v3 v4 : PV} {r : PV} {m' : Mem} {idx q c' s' : Nat} (hd : decode (mB M) pc = .ok (.invokevirtual idx, 3)) (hq : pc + 3 = q) (hi : KV Mc 5) (hl : ((mY M).cls, idx, mY Mc) ∈ jnest) (hroom : mF Mc + 1 ≤ mF M ∧ 8 + (mL Mc + 11) + mW Mc ≤ mW M) (hb : sh[b]? = some (.inl (ci, ks))) (hc : vwCl[ci]? = some q0) (hcl : q0.1 = (mY Mc).cls) (hrest : Nat.ble (jcats S) 8 = true) (hk : k + c' ≤ mc) (hn : n + s' ≤ ms) (hM : CT G sh Mc c' s' [.inr (.ref b), v0, v1, v2, v3, v4] m (some r) m') (kk : J G sh M mc ms F q L (r :: S) m' (k + c') (n + s')) : J G sh M mc ms F pc L (v4 :: v3 :: v2 :: v1 :: v0 :: .inr (.ref b) :: S) m k n := by
  intro p e s mm args below meth c0 R C H locs ls hP hS hL
  subst hq
  obtain ⟨cell, g1, g2, g3⟩ := va_recv C.k hP hc (jws_at hb)
  rw [hcl] at g3
  have hrun := va_runVN (H := H) (locs := locs) (cells := k) (slots := n) (below := below) (meth := meth) (e := e) (As := [jv G v0, jv G v1, jv G v2, jv G v3, jv G v4]) (rest := S.map (jv G)) (g := F0 mm pc ls ((v4 :: v3 :: v2 :: v1 :: v0 :: .inr (.ref b) :: S).map (jv G))) ⟨C.x, C.b, C.ml, C.own, C.ts⟩ hM ⟨jcn C hi.1 hl hroom, C.ts _ hi.2.1, C.ts _ hi.2.2⟩ ⟨jPc.blind, ⟨cell, g1, g2, g3⟩, fun U hU hW => jpre C.sf C.z hP hS hU hW⟩ rfl rfl hL.1 rfl (lv_room (pc := pc) (ls := ls) (m := mm) (rest := (v4 :: v3 :: v2 :: v1 :: v0 :: .inr (.ref b) :: S).map (jv G)) (by rw [jcats_eq]; exact Nat.le_of_ble_eq_true hrest)) hd (by rw [C.room]; exact ⟨hk, hn⟩)
  exact jcall (r := (some r)) hrun (fun st o t h => h) hS (fun H1 locs1 h1 h2 => kk p e s mm args below meth c0 R C H1 locs1 ls h1 h2 hL)
theorem j_callVN5v {Mc : MI} {b ci : Nat} {ks : List (Nat ⊕ Nat)} {q0 : vw_C} {v0 v1 v2 v3 v4 : PV} {m' : Mem} {idx q c' s' : Nat} (hd : decode (mB M) pc = .ok (.invokevirtual idx, 3)) (hq : pc + 3 = q) (hi : KV Mc 5) (hl : ((mY M).cls, idx, mY Mc) ∈ jnest) (hroom : mF Mc + 1 ≤ mF M ∧ 8 + (mL Mc + 11) + mW Mc ≤ mW M) (hb : sh[b]? = some (.inl (ci, ks))) (hc : vwCl[ci]? = some q0) (hcl : q0.1 = (mY Mc).cls) (hrest : Nat.ble (jcats S) 8 = true) (hk : k + c' ≤ mc) (hn : n + s' ≤ ms) (hM : CT G sh Mc c' s' [.inr (.ref b), v0, v1, v2, v3, v4] m none m') (kk : J G sh M mc ms F q L (S) m' (k + c') (n + s')) : J G sh M mc ms F pc L (v4 :: v3 :: v2 :: v1 :: v0 :: .inr (.ref b) :: S) m k n := by
  intro p e s mm args below meth c0 R C H locs ls hP hS hL
  subst hq
  obtain ⟨cell, g1, g2, g3⟩ := va_recv C.k hP hc (jws_at hb)
  rw [hcl] at g3
  have hrun := va_runVN (H := H) (locs := locs) (cells := k) (slots := n) (below := below) (meth := meth) (e := e) (As := [jv G v0, jv G v1, jv G v2, jv G v3, jv G v4]) (rest := S.map (jv G)) (g := F0 mm pc ls ((v4 :: v3 :: v2 :: v1 :: v0 :: .inr (.ref b) :: S).map (jv G))) ⟨C.x, C.b, C.ml, C.own, C.ts⟩ hM ⟨jcn C hi.1 hl hroom, C.ts _ hi.2.1, C.ts _ hi.2.2⟩ ⟨jPc.blind, ⟨cell, g1, g2, g3⟩, fun U hU hW => jpre C.sf C.z hP hS hU hW⟩ rfl rfl hL.1 rfl (lv_room (pc := pc) (ls := ls) (m := mm) (rest := (v4 :: v3 :: v2 :: v1 :: v0 :: .inr (.ref b) :: S).map (jv G)) (by rw [jcats_eq]; exact Nat.le_of_ble_eq_true hrest)) hd (by rw [C.room]; exact ⟨hk, hn⟩)
  exact jcall (r := none) hrun (fun st o t h => h) hS (fun H1 locs1 h1 h2 => kk p e s mm args below meth c0 R C H1 locs1 ls h1 h2 hL)
theorem j_callSN0 {Mc : MI} {r : PV} {m' : Mem} {idx q c' s' : Nat} (hd : decode (mB M) pc = .ok (.invokestatic idx, 3)) (hq : pc + 3 = q) (hi : KS Mc 0) (hl : ((mY M).cls, idx, mY Mc) ∈ jnest) (hroom : mF Mc + 1 ≤ mF M ∧ 8 + (mL Mc + 11) + mW Mc ≤ mW M) (hrest : Nat.ble (jcats S) 8 = true) (hk : k + c' ≤ mc) (hn : n + s' ≤ ms) (hM : CT G sh Mc c' s' [] m (some r) m') (kk : J G sh M mc ms F q L (r :: S) m' (k + c') (n + s')) : J G sh M mc ms F pc L (S) m k n := by
  intro p e s mm args below meth c0 R C H locs ls hP hS hL
  subst hq
  have hrun := va_runSN (H := H) (locs := locs) (cells := k) (slots := n) (below := below) (meth := meth) (e := e) (As := []) (rest := S.map (jv G)) (g := F0 mm pc ls ((S).map (jv G))) ⟨C.x, C.b, C.ml, C.own, C.ts⟩ hM ⟨jcn C hi.1 hl hroom, C.ts _ hi.2, trivial⟩ ⟨jPc.blind, fun U hU hW => jpre C.sf C.z hP hS hU hW⟩ rfl rfl hL.1 rfl (lv_room (pc := pc) (ls := ls) (m := mm) (rest := (S).map (jv G)) (by rw [jcats_eq]; exact Nat.le_of_ble_eq_true hrest)) hd (by rw [C.room]; exact ⟨hk, hn⟩)
  exact jcall (r := (some r)) hrun (fun st o t h => h) hS (fun H1 locs1 h1 h2 => kk p e s mm args below meth c0 R C H1 locs1 ls h1 h2 hL)
theorem j_callSN0v {Mc : MI} {m' : Mem} {idx q c' s' : Nat} (hd : decode (mB M) pc = .ok (.invokestatic idx, 3)) (hq : pc + 3 = q) (hi : KS Mc 0) (hl : ((mY M).cls, idx, mY Mc) ∈ jnest) (hroom : mF Mc + 1 ≤ mF M ∧ 8 + (mL Mc + 11) + mW Mc ≤ mW M) (hrest : Nat.ble (jcats S) 8 = true) (hk : k + c' ≤ mc) (hn : n + s' ≤ ms) (hM : CT G sh Mc c' s' [] m none m') (kk : J G sh M mc ms F q L (S) m' (k + c') (n + s')) : J G sh M mc ms F pc L (S) m k n := by
  intro p e s mm args below meth c0 R C H locs ls hP hS hL
  subst hq
  have hrun := va_runSN (H := H) (locs := locs) (cells := k) (slots := n) (below := below) (meth := meth) (e := e) (As := []) (rest := S.map (jv G)) (g := F0 mm pc ls ((S).map (jv G))) ⟨C.x, C.b, C.ml, C.own, C.ts⟩ hM ⟨jcn C hi.1 hl hroom, C.ts _ hi.2, trivial⟩ ⟨jPc.blind, fun U hU hW => jpre C.sf C.z hP hS hU hW⟩ rfl rfl hL.1 rfl (lv_room (pc := pc) (ls := ls) (m := mm) (rest := (S).map (jv G)) (by rw [jcats_eq]; exact Nat.le_of_ble_eq_true hrest)) hd (by rw [C.room]; exact ⟨hk, hn⟩)
  exact jcall (r := none) hrun (fun st o t h => h) hS (fun H1 locs1 h1 h2 => kk p e s mm args below meth c0 R C H1 locs1 ls h1 h2 hL)
theorem j_callSN1 {Mc : MI} {v0 : PV} {r : PV} {m' : Mem} {idx q c' s' : Nat} (hd : decode (mB M) pc = .ok (.invokestatic idx, 3)) (hq : pc + 3 = q) (hi : KS Mc 1) (hl : ((mY M).cls, idx, mY Mc) ∈ jnest) (hroom : mF Mc + 1 ≤ mF M ∧ 8 + (mL Mc + 11) + mW Mc ≤ mW M) (hrest : Nat.ble (jcats S) 8 = true) (hk : k + c' ≤ mc) (hn : n + s' ≤ ms) (hM : CT G sh Mc c' s' [v0] m (some r) m') (kk : J G sh M mc ms F q L (r :: S) m' (k + c') (n + s')) : J G sh M mc ms F pc L (v0 :: S) m k n := by
  intro p e s mm args below meth c0 R C H locs ls hP hS hL
  subst hq
  have hrun := va_runSN (H := H) (locs := locs) (cells := k) (slots := n) (below := below) (meth := meth) (e := e) (As := [jv G v0]) (rest := S.map (jv G)) (g := F0 mm pc ls ((v0 :: S).map (jv G))) ⟨C.x, C.b, C.ml, C.own, C.ts⟩ hM ⟨jcn C hi.1 hl hroom, C.ts _ hi.2, trivial⟩ ⟨jPc.blind, fun U hU hW => jpre C.sf C.z hP hS hU hW⟩ rfl rfl hL.1 rfl (lv_room (pc := pc) (ls := ls) (m := mm) (rest := (v0 :: S).map (jv G)) (by rw [jcats_eq]; exact Nat.le_of_ble_eq_true hrest)) hd (by rw [C.room]; exact ⟨hk, hn⟩)
  exact jcall (r := (some r)) hrun (fun st o t h => h) hS (fun H1 locs1 h1 h2 => kk p e s mm args below meth c0 R C H1 locs1 ls h1 h2 hL)
theorem j_callSN1v {Mc : MI} {v0 : PV} {m' : Mem} {idx q c' s' : Nat} (hd : decode (mB M) pc = .ok (.invokestatic idx, 3)) (hq : pc + 3 = q) (hi : KS Mc 1) (hl : ((mY M).cls, idx, mY Mc) ∈ jnest) (hroom : mF Mc + 1 ≤ mF M ∧ 8 + (mL Mc + 11) + mW Mc ≤ mW M) (hrest : Nat.ble (jcats S) 8 = true) (hk : k + c' ≤ mc) (hn : n + s' ≤ ms) (hM : CT G sh Mc c' s' [v0] m none m') (kk : J G sh M mc ms F q L (S) m' (k + c') (n + s')) : J G sh M mc ms F pc L (v0 :: S) m k n := by
  intro p e s mm args below meth c0 R C H locs ls hP hS hL
  subst hq
  have hrun := va_runSN (H := H) (locs := locs) (cells := k) (slots := n) (below := below) (meth := meth) (e := e) (As := [jv G v0]) (rest := S.map (jv G)) (g := F0 mm pc ls ((v0 :: S).map (jv G))) ⟨C.x, C.b, C.ml, C.own, C.ts⟩ hM ⟨jcn C hi.1 hl hroom, C.ts _ hi.2, trivial⟩ ⟨jPc.blind, fun U hU hW => jpre C.sf C.z hP hS hU hW⟩ rfl rfl hL.1 rfl (lv_room (pc := pc) (ls := ls) (m := mm) (rest := (v0 :: S).map (jv G)) (by rw [jcats_eq]; exact Nat.le_of_ble_eq_true hrest)) hd (by rw [C.room]; exact ⟨hk, hn⟩)
  exact jcall (r := none) hrun (fun st o t h => h) hS (fun H1 locs1 h1 h2 => kk p e s mm args below meth c0 R C H1 locs1 ls h1 h2 hL)
theorem j_callSN2 {Mc : MI} {v0 v1 : PV} {r : PV} {m' : Mem} {idx q c' s' : Nat} (hd : decode (mB M) pc = .ok (.invokestatic idx, 3)) (hq : pc + 3 = q) (hi : KS Mc 2) (hl : ((mY M).cls, idx, mY Mc) ∈ jnest) (hroom : mF Mc + 1 ≤ mF M ∧ 8 + (mL Mc + 11) + mW Mc ≤ mW M) (hrest : Nat.ble (jcats S) 8 = true) (hk : k + c' ≤ mc) (hn : n + s' ≤ ms) (hM : CT G sh Mc c' s' [v0, v1] m (some r) m') (kk : J G sh M mc ms F q L (r :: S) m' (k + c') (n + s')) : J G sh M mc ms F pc L (v1 :: v0 :: S) m k n := by
  intro p e s mm args below meth c0 R C H locs ls hP hS hL
  subst hq
  have hrun := va_runSN (H := H) (locs := locs) (cells := k) (slots := n) (below := below) (meth := meth) (e := e) (As := [jv G v0, jv G v1]) (rest := S.map (jv G)) (g := F0 mm pc ls ((v1 :: v0 :: S).map (jv G))) ⟨C.x, C.b, C.ml, C.own, C.ts⟩ hM ⟨jcn C hi.1 hl hroom, C.ts _ hi.2, trivial⟩ ⟨jPc.blind, fun U hU hW => jpre C.sf C.z hP hS hU hW⟩ rfl rfl hL.1 rfl (lv_room (pc := pc) (ls := ls) (m := mm) (rest := (v1 :: v0 :: S).map (jv G)) (by rw [jcats_eq]; exact Nat.le_of_ble_eq_true hrest)) hd (by rw [C.room]; exact ⟨hk, hn⟩)
  exact jcall (r := (some r)) hrun (fun st o t h => h) hS (fun H1 locs1 h1 h2 => kk p e s mm args below meth c0 R C H1 locs1 ls h1 h2 hL)
theorem j_callSN2v {Mc : MI} {v0 v1 : PV} {m' : Mem} {idx q c' s' : Nat} (hd : decode (mB M) pc = .ok (.invokestatic idx, 3)) (hq : pc + 3 = q) (hi : KS Mc 2) (hl : ((mY M).cls, idx, mY Mc) ∈ jnest) (hroom : mF Mc + 1 ≤ mF M ∧ 8 + (mL Mc + 11) + mW Mc ≤ mW M) (hrest : Nat.ble (jcats S) 8 = true) (hk : k + c' ≤ mc) (hn : n + s' ≤ ms) (hM : CT G sh Mc c' s' [v0, v1] m none m') (kk : J G sh M mc ms F q L (S) m' (k + c') (n + s')) : J G sh M mc ms F pc L (v1 :: v0 :: S) m k n := by
  intro p e s mm args below meth c0 R C H locs ls hP hS hL
  subst hq
  have hrun := va_runSN (H := H) (locs := locs) (cells := k) (slots := n) (below := below) (meth := meth) (e := e) (As := [jv G v0, jv G v1]) (rest := S.map (jv G)) (g := F0 mm pc ls ((v1 :: v0 :: S).map (jv G))) ⟨C.x, C.b, C.ml, C.own, C.ts⟩ hM ⟨jcn C hi.1 hl hroom, C.ts _ hi.2, trivial⟩ ⟨jPc.blind, fun U hU hW => jpre C.sf C.z hP hS hU hW⟩ rfl rfl hL.1 rfl (lv_room (pc := pc) (ls := ls) (m := mm) (rest := (v1 :: v0 :: S).map (jv G)) (by rw [jcats_eq]; exact Nat.le_of_ble_eq_true hrest)) hd (by rw [C.room]; exact ⟨hk, hn⟩)
  exact jcall (r := none) hrun (fun st o t h => h) hS (fun H1 locs1 h1 h2 => kk p e s mm args below meth c0 R C H1 locs1 ls h1 h2 hL)
theorem j_callSN3 {Mc : MI} {v0 v1 v2 : PV} {r : PV} {m' : Mem} {idx q c' s' : Nat} (hd : decode (mB M) pc = .ok (.invokestatic idx, 3)) (hq : pc + 3 = q) (hi : KS Mc 3) (hl : ((mY M).cls, idx, mY Mc) ∈ jnest) (hroom : mF Mc + 1 ≤ mF M ∧ 8 + (mL Mc + 11) + mW Mc ≤ mW M) (hrest : Nat.ble (jcats S) 8 = true) (hk : k + c' ≤ mc) (hn : n + s' ≤ ms) (hM : CT G sh Mc c' s' [v0, v1, v2] m (some r) m') (kk : J G sh M mc ms F q L (r :: S) m' (k + c') (n + s')) : J G sh M mc ms F pc L (v2 :: v1 :: v0 :: S) m k n := by
  intro p e s mm args below meth c0 R C H locs ls hP hS hL
  subst hq
  have hrun := va_runSN (H := H) (locs := locs) (cells := k) (slots := n) (below := below) (meth := meth) (e := e) (As := [jv G v0, jv G v1, jv G v2]) (rest := S.map (jv G)) (g := F0 mm pc ls ((v2 :: v1 :: v0 :: S).map (jv G))) ⟨C.x, C.b, C.ml, C.own, C.ts⟩ hM ⟨jcn C hi.1 hl hroom, C.ts _ hi.2, trivial⟩ ⟨jPc.blind, fun U hU hW => jpre C.sf C.z hP hS hU hW⟩ rfl rfl hL.1 rfl (lv_room (pc := pc) (ls := ls) (m := mm) (rest := (v2 :: v1 :: v0 :: S).map (jv G)) (by rw [jcats_eq]; exact Nat.le_of_ble_eq_true hrest)) hd (by rw [C.room]; exact ⟨hk, hn⟩)
  exact jcall (r := (some r)) hrun (fun st o t h => h) hS (fun H1 locs1 h1 h2 => kk p e s mm args below meth c0 R C H1 locs1 ls h1 h2 hL)
theorem j_callSN3v {Mc : MI} {v0 v1 v2 : PV} {m' : Mem} {idx q c' s' : Nat} (hd : decode (mB M) pc = .ok (.invokestatic idx, 3)) (hq : pc + 3 = q) (hi : KS Mc 3) (hl : ((mY M).cls, idx, mY Mc) ∈ jnest) (hroom : mF Mc + 1 ≤ mF M ∧ 8 + (mL Mc + 11) + mW Mc ≤ mW M) (hrest : Nat.ble (jcats S) 8 = true) (hk : k + c' ≤ mc) (hn : n + s' ≤ ms) (hM : CT G sh Mc c' s' [v0, v1, v2] m none m') (kk : J G sh M mc ms F q L (S) m' (k + c') (n + s')) : J G sh M mc ms F pc L (v2 :: v1 :: v0 :: S) m k n := by
  intro p e s mm args below meth c0 R C H locs ls hP hS hL
  subst hq
  have hrun := va_runSN (H := H) (locs := locs) (cells := k) (slots := n) (below := below) (meth := meth) (e := e) (As := [jv G v0, jv G v1, jv G v2]) (rest := S.map (jv G)) (g := F0 mm pc ls ((v2 :: v1 :: v0 :: S).map (jv G))) ⟨C.x, C.b, C.ml, C.own, C.ts⟩ hM ⟨jcn C hi.1 hl hroom, C.ts _ hi.2, trivial⟩ ⟨jPc.blind, fun U hU hW => jpre C.sf C.z hP hS hU hW⟩ rfl rfl hL.1 rfl (lv_room (pc := pc) (ls := ls) (m := mm) (rest := (v2 :: v1 :: v0 :: S).map (jv G)) (by rw [jcats_eq]; exact Nat.le_of_ble_eq_true hrest)) hd (by rw [C.room]; exact ⟨hk, hn⟩)
  exact jcall (r := none) hrun (fun st o t h => h) hS (fun H1 locs1 h1 h2 => kk p e s mm args below meth c0 R C H1 locs1 ls h1 h2 hL)
theorem j_callSN4 {Mc : MI} {v0 v1 v2 v3 : PV} {r : PV} {m' : Mem} {idx q c' s' : Nat} (hd : decode (mB M) pc = .ok (.invokestatic idx, 3)) (hq : pc + 3 = q) (hi : KS Mc 4) (hl : ((mY M).cls, idx, mY Mc) ∈ jnest) (hroom : mF Mc + 1 ≤ mF M ∧ 8 + (mL Mc + 11) + mW Mc ≤ mW M) (hrest : Nat.ble (jcats S) 8 = true) (hk : k + c' ≤ mc) (hn : n + s' ≤ ms) (hM : CT G sh Mc c' s' [v0, v1, v2, v3] m (some r) m') (kk : J G sh M mc ms F q L (r :: S) m' (k + c') (n + s')) : J G sh M mc ms F pc L (v3 :: v2 :: v1 :: v0 :: S) m k n := by
  intro p e s mm args below meth c0 R C H locs ls hP hS hL
  subst hq
  have hrun := va_runSN (H := H) (locs := locs) (cells := k) (slots := n) (below := below) (meth := meth) (e := e) (As := [jv G v0, jv G v1, jv G v2, jv G v3]) (rest := S.map (jv G)) (g := F0 mm pc ls ((v3 :: v2 :: v1 :: v0 :: S).map (jv G))) ⟨C.x, C.b, C.ml, C.own, C.ts⟩ hM ⟨jcn C hi.1 hl hroom, C.ts _ hi.2, trivial⟩ ⟨jPc.blind, fun U hU hW => jpre C.sf C.z hP hS hU hW⟩ rfl rfl hL.1 rfl (lv_room (pc := pc) (ls := ls) (m := mm) (rest := (v3 :: v2 :: v1 :: v0 :: S).map (jv G)) (by rw [jcats_eq]; exact Nat.le_of_ble_eq_true hrest)) hd (by rw [C.room]; exact ⟨hk, hn⟩)
  exact jcall (r := (some r)) hrun (fun st o t h => h) hS (fun H1 locs1 h1 h2 => kk p e s mm args below meth c0 R C H1 locs1 ls h1 h2 hL)
theorem j_callSN4v {Mc : MI} {v0 v1 v2 v3 : PV} {m' : Mem} {idx q c' s' : Nat} (hd : decode (mB M) pc = .ok (.invokestatic idx, 3)) (hq : pc + 3 = q) (hi : KS Mc 4) (hl : ((mY M).cls, idx, mY Mc) ∈ jnest) (hroom : mF Mc + 1 ≤ mF M ∧ 8 + (mL Mc + 11) + mW Mc ≤ mW M) (hrest : Nat.ble (jcats S) 8 = true) (hk : k + c' ≤ mc) (hn : n + s' ≤ ms) (hM : CT G sh Mc c' s' [v0, v1, v2, v3] m none m') (kk : J G sh M mc ms F q L (S) m' (k + c') (n + s')) : J G sh M mc ms F pc L (v3 :: v2 :: v1 :: v0 :: S) m k n := by
  intro p e s mm args below meth c0 R C H locs ls hP hS hL
  subst hq
  have hrun := va_runSN (H := H) (locs := locs) (cells := k) (slots := n) (below := below) (meth := meth) (e := e) (As := [jv G v0, jv G v1, jv G v2, jv G v3]) (rest := S.map (jv G)) (g := F0 mm pc ls ((v3 :: v2 :: v1 :: v0 :: S).map (jv G))) ⟨C.x, C.b, C.ml, C.own, C.ts⟩ hM ⟨jcn C hi.1 hl hroom, C.ts _ hi.2, trivial⟩ ⟨jPc.blind, fun U hU hW => jpre C.sf C.z hP hS hU hW⟩ rfl rfl hL.1 rfl (lv_room (pc := pc) (ls := ls) (m := mm) (rest := (v3 :: v2 :: v1 :: v0 :: S).map (jv G)) (by rw [jcats_eq]; exact Nat.le_of_ble_eq_true hrest)) hd (by rw [C.room]; exact ⟨hk, hn⟩)
  exact jcall (r := none) hrun (fun st o t h => h) hS (fun H1 locs1 h1 h2 => kk p e s mm args below meth c0 R C H1 locs1 ls h1 h2 hL)
theorem j_callSN5 {Mc : MI} {v0 v1 v2 v3 v4 : PV} {r : PV} {m' : Mem} {idx q c' s' : Nat} (hd : decode (mB M) pc = .ok (.invokestatic idx, 3)) (hq : pc + 3 = q) (hi : KS Mc 5) (hl : ((mY M).cls, idx, mY Mc) ∈ jnest) (hroom : mF Mc + 1 ≤ mF M ∧ 8 + (mL Mc + 11) + mW Mc ≤ mW M) (hrest : Nat.ble (jcats S) 8 = true) (hk : k + c' ≤ mc) (hn : n + s' ≤ ms) (hM : CT G sh Mc c' s' [v0, v1, v2, v3, v4] m (some r) m') (kk : J G sh M mc ms F q L (r :: S) m' (k + c') (n + s')) : J G sh M mc ms F pc L (v4 :: v3 :: v2 :: v1 :: v0 :: S) m k n := by
  intro p e s mm args below meth c0 R C H locs ls hP hS hL
  subst hq
  have hrun := va_runSN (H := H) (locs := locs) (cells := k) (slots := n) (below := below) (meth := meth) (e := e) (As := [jv G v0, jv G v1, jv G v2, jv G v3, jv G v4]) (rest := S.map (jv G)) (g := F0 mm pc ls ((v4 :: v3 :: v2 :: v1 :: v0 :: S).map (jv G))) ⟨C.x, C.b, C.ml, C.own, C.ts⟩ hM ⟨jcn C hi.1 hl hroom, C.ts _ hi.2, trivial⟩ ⟨jPc.blind, fun U hU hW => jpre C.sf C.z hP hS hU hW⟩ rfl rfl hL.1 rfl (lv_room (pc := pc) (ls := ls) (m := mm) (rest := (v4 :: v3 :: v2 :: v1 :: v0 :: S).map (jv G)) (by rw [jcats_eq]; exact Nat.le_of_ble_eq_true hrest)) hd (by rw [C.room]; exact ⟨hk, hn⟩)
  exact jcall (r := (some r)) hrun (fun st o t h => h) hS (fun H1 locs1 h1 h2 => kk p e s mm args below meth c0 R C H1 locs1 ls h1 h2 hL)
theorem j_callSN5v {Mc : MI} {v0 v1 v2 v3 v4 : PV} {m' : Mem} {idx q c' s' : Nat} (hd : decode (mB M) pc = .ok (.invokestatic idx, 3)) (hq : pc + 3 = q) (hi : KS Mc 5) (hl : ((mY M).cls, idx, mY Mc) ∈ jnest) (hroom : mF Mc + 1 ≤ mF M ∧ 8 + (mL Mc + 11) + mW Mc ≤ mW M) (hrest : Nat.ble (jcats S) 8 = true) (hk : k + c' ≤ mc) (hn : n + s' ≤ ms) (hM : CT G sh Mc c' s' [v0, v1, v2, v3, v4] m none m') (kk : J G sh M mc ms F q L (S) m' (k + c') (n + s')) : J G sh M mc ms F pc L (v4 :: v3 :: v2 :: v1 :: v0 :: S) m k n := by
  intro p e s mm args below meth c0 R C H locs ls hP hS hL
  subst hq
  have hrun := va_runSN (H := H) (locs := locs) (cells := k) (slots := n) (below := below) (meth := meth) (e := e) (As := [jv G v0, jv G v1, jv G v2, jv G v3, jv G v4]) (rest := S.map (jv G)) (g := F0 mm pc ls ((v4 :: v3 :: v2 :: v1 :: v0 :: S).map (jv G))) ⟨C.x, C.b, C.ml, C.own, C.ts⟩ hM ⟨jcn C hi.1 hl hroom, C.ts _ hi.2, trivial⟩ ⟨jPc.blind, fun U hU hW => jpre C.sf C.z hP hS hU hW⟩ rfl rfl hL.1 rfl (lv_room (pc := pc) (ls := ls) (m := mm) (rest := (v4 :: v3 :: v2 :: v1 :: v0 :: S).map (jv G)) (by rw [jcats_eq]; exact Nat.le_of_ble_eq_true hrest)) hd (by rw [C.room]; exact ⟨hk, hn⟩)
  exact jcall (r := none) hrun (fun st o t h => h) hS (fun H1 locs1 h1 h2 => kk p e s mm args below meth c0 R C H1 locs1 ls h1 h2 hL)
theorem j_callIN0v {Mc : MI} {b : Nat} {m' : Mem} {idx q c' s' : Nat} (hd : decode (mB M) pc = .ok (.invokespecial idx, 3)) (hq : pc + 3 = q) (hi : KC Mc 0) (hl : ((mY M).cls, idx, mY Mc) ∈ jnest) (hroom : mF Mc + 1 ≤ mF M ∧ 8 + (mL Mc + 11) + mW Mc ≤ mW M) (hret : mR Mc = none) (hrest : Nat.ble (jcats S) 8 = true) (hk : k + c' ≤ mc) (hn : n + s' ≤ ms) (hM : CT G sh Mc c' s' [.inr (.ref b)] m none m') (kk : J G sh M mc ms F q L (S) m' (k + c') (n + s')) : J G sh M mc ms F pc L (.inr (.ref b) :: S) m k n := by
  intro p e s mm args below meth c0 R C H locs ls hP hS hL
  subst hq
  have cw0 := jcn (c' := c') (s' := s') C hi.1 hl hroom
  have hM2 : Met _ _ _ _ _ _ _ _ _ := hM
  rw [hret] at cw0 hM2
  have hrun := va_runIN (H := H) (locs := locs) (cells := k) (slots := n) (below := below) (meth := meth) (e := e) (As := []) (rest := S.map (jv G)) (g := F0 mm pc ls ((.inr (.ref b) :: S).map (jv G))) ⟨C.x, C.b, C.ml, C.own, C.ts⟩ hM2 ⟨cw0, hi.2.1, C.ts _ hi.2.2⟩ ⟨jPc.blind, fun U hU hW => jpre C.sf C.z hP hS hU hW⟩ rfl rfl hL.1 rfl (lv_room (pc := pc) (ls := ls) (m := mm) (rest := (.inr (.ref b) :: S).map (jv G)) (by rw [jcats_eq]; exact Nat.le_of_ble_eq_true hrest)) hd (by rw [C.room]; exact ⟨hk, hn⟩)
  exact jcall (r := none) hrun (fun st o t h => h) hS (fun H1 locs1 h1 h2 => kk p e s mm args below meth c0 R C H1 locs1 ls h1 h2 hL)
theorem j_callIN1v {Mc : MI} {b : Nat} {v0 : PV} {m' : Mem} {idx q c' s' : Nat} (hd : decode (mB M) pc = .ok (.invokespecial idx, 3)) (hq : pc + 3 = q) (hi : KC Mc 1) (hl : ((mY M).cls, idx, mY Mc) ∈ jnest) (hroom : mF Mc + 1 ≤ mF M ∧ 8 + (mL Mc + 11) + mW Mc ≤ mW M) (hret : mR Mc = none) (hrest : Nat.ble (jcats S) 8 = true) (hk : k + c' ≤ mc) (hn : n + s' ≤ ms) (hM : CT G sh Mc c' s' [.inr (.ref b), v0] m none m') (kk : J G sh M mc ms F q L (S) m' (k + c') (n + s')) : J G sh M mc ms F pc L (v0 :: .inr (.ref b) :: S) m k n := by
  intro p e s mm args below meth c0 R C H locs ls hP hS hL
  subst hq
  have cw0 := jcn (c' := c') (s' := s') C hi.1 hl hroom
  have hM2 : Met _ _ _ _ _ _ _ _ _ := hM
  rw [hret] at cw0 hM2
  have hrun := va_runIN (H := H) (locs := locs) (cells := k) (slots := n) (below := below) (meth := meth) (e := e) (As := [jv G v0]) (rest := S.map (jv G)) (g := F0 mm pc ls ((v0 :: .inr (.ref b) :: S).map (jv G))) ⟨C.x, C.b, C.ml, C.own, C.ts⟩ hM2 ⟨cw0, hi.2.1, C.ts _ hi.2.2⟩ ⟨jPc.blind, fun U hU hW => jpre C.sf C.z hP hS hU hW⟩ rfl rfl hL.1 rfl (lv_room (pc := pc) (ls := ls) (m := mm) (rest := (v0 :: .inr (.ref b) :: S).map (jv G)) (by rw [jcats_eq]; exact Nat.le_of_ble_eq_true hrest)) hd (by rw [C.room]; exact ⟨hk, hn⟩)
  exact jcall (r := none) hrun (fun st o t h => h) hS (fun H1 locs1 h1 h2 => kk p e s mm args below meth c0 R C H1 locs1 ls h1 h2 hL)
theorem j_callIN2v {Mc : MI} {b : Nat} {v0 v1 : PV} {m' : Mem} {idx q c' s' : Nat} (hd : decode (mB M) pc = .ok (.invokespecial idx, 3)) (hq : pc + 3 = q) (hi : KC Mc 2) (hl : ((mY M).cls, idx, mY Mc) ∈ jnest) (hroom : mF Mc + 1 ≤ mF M ∧ 8 + (mL Mc + 11) + mW Mc ≤ mW M) (hret : mR Mc = none) (hrest : Nat.ble (jcats S) 8 = true) (hk : k + c' ≤ mc) (hn : n + s' ≤ ms) (hM : CT G sh Mc c' s' [.inr (.ref b), v0, v1] m none m') (kk : J G sh M mc ms F q L (S) m' (k + c') (n + s')) : J G sh M mc ms F pc L (v1 :: v0 :: .inr (.ref b) :: S) m k n := by
  intro p e s mm args below meth c0 R C H locs ls hP hS hL
  subst hq
  have cw0 := jcn (c' := c') (s' := s') C hi.1 hl hroom
  have hM2 : Met _ _ _ _ _ _ _ _ _ := hM
  rw [hret] at cw0 hM2
  have hrun := va_runIN (H := H) (locs := locs) (cells := k) (slots := n) (below := below) (meth := meth) (e := e) (As := [jv G v0, jv G v1]) (rest := S.map (jv G)) (g := F0 mm pc ls ((v1 :: v0 :: .inr (.ref b) :: S).map (jv G))) ⟨C.x, C.b, C.ml, C.own, C.ts⟩ hM2 ⟨cw0, hi.2.1, C.ts _ hi.2.2⟩ ⟨jPc.blind, fun U hU hW => jpre C.sf C.z hP hS hU hW⟩ rfl rfl hL.1 rfl (lv_room (pc := pc) (ls := ls) (m := mm) (rest := (v1 :: v0 :: .inr (.ref b) :: S).map (jv G)) (by rw [jcats_eq]; exact Nat.le_of_ble_eq_true hrest)) hd (by rw [C.room]; exact ⟨hk, hn⟩)
  exact jcall (r := none) hrun (fun st o t h => h) hS (fun H1 locs1 h1 h2 => kk p e s mm args below meth c0 R C H1 locs1 ls h1 h2 hL)
theorem j_callIN3v {Mc : MI} {b : Nat} {v0 v1 v2 : PV} {m' : Mem} {idx q c' s' : Nat} (hd : decode (mB M) pc = .ok (.invokespecial idx, 3)) (hq : pc + 3 = q) (hi : KC Mc 3) (hl : ((mY M).cls, idx, mY Mc) ∈ jnest) (hroom : mF Mc + 1 ≤ mF M ∧ 8 + (mL Mc + 11) + mW Mc ≤ mW M) (hret : mR Mc = none) (hrest : Nat.ble (jcats S) 8 = true) (hk : k + c' ≤ mc) (hn : n + s' ≤ ms) (hM : CT G sh Mc c' s' [.inr (.ref b), v0, v1, v2] m none m') (kk : J G sh M mc ms F q L (S) m' (k + c') (n + s')) : J G sh M mc ms F pc L (v2 :: v1 :: v0 :: .inr (.ref b) :: S) m k n := by
  intro p e s mm args below meth c0 R C H locs ls hP hS hL
  subst hq
  have cw0 := jcn (c' := c') (s' := s') C hi.1 hl hroom
  have hM2 : Met _ _ _ _ _ _ _ _ _ := hM
  rw [hret] at cw0 hM2
  have hrun := va_runIN (H := H) (locs := locs) (cells := k) (slots := n) (below := below) (meth := meth) (e := e) (As := [jv G v0, jv G v1, jv G v2]) (rest := S.map (jv G)) (g := F0 mm pc ls ((v2 :: v1 :: v0 :: .inr (.ref b) :: S).map (jv G))) ⟨C.x, C.b, C.ml, C.own, C.ts⟩ hM2 ⟨cw0, hi.2.1, C.ts _ hi.2.2⟩ ⟨jPc.blind, fun U hU hW => jpre C.sf C.z hP hS hU hW⟩ rfl rfl hL.1 rfl (lv_room (pc := pc) (ls := ls) (m := mm) (rest := (v2 :: v1 :: v0 :: .inr (.ref b) :: S).map (jv G)) (by rw [jcats_eq]; exact Nat.le_of_ble_eq_true hrest)) hd (by rw [C.room]; exact ⟨hk, hn⟩)
  exact jcall (r := none) hrun (fun st o t h => h) hS (fun H1 locs1 h1 h2 => kk p e s mm args below meth c0 R C H1 locs1 ls h1 h2 hL)
theorem j_callIN4v {Mc : MI} {b : Nat} {v0 v1 v2 v3 : PV} {m' : Mem} {idx q c' s' : Nat} (hd : decode (mB M) pc = .ok (.invokespecial idx, 3)) (hq : pc + 3 = q) (hi : KC Mc 4) (hl : ((mY M).cls, idx, mY Mc) ∈ jnest) (hroom : mF Mc + 1 ≤ mF M ∧ 8 + (mL Mc + 11) + mW Mc ≤ mW M) (hret : mR Mc = none) (hrest : Nat.ble (jcats S) 8 = true) (hk : k + c' ≤ mc) (hn : n + s' ≤ ms) (hM : CT G sh Mc c' s' [.inr (.ref b), v0, v1, v2, v3] m none m') (kk : J G sh M mc ms F q L (S) m' (k + c') (n + s')) : J G sh M mc ms F pc L (v3 :: v2 :: v1 :: v0 :: .inr (.ref b) :: S) m k n := by
  intro p e s mm args below meth c0 R C H locs ls hP hS hL
  subst hq
  have cw0 := jcn (c' := c') (s' := s') C hi.1 hl hroom
  have hM2 : Met _ _ _ _ _ _ _ _ _ := hM
  rw [hret] at cw0 hM2
  have hrun := va_runIN (H := H) (locs := locs) (cells := k) (slots := n) (below := below) (meth := meth) (e := e) (As := [jv G v0, jv G v1, jv G v2, jv G v3]) (rest := S.map (jv G)) (g := F0 mm pc ls ((v3 :: v2 :: v1 :: v0 :: .inr (.ref b) :: S).map (jv G))) ⟨C.x, C.b, C.ml, C.own, C.ts⟩ hM2 ⟨cw0, hi.2.1, C.ts _ hi.2.2⟩ ⟨jPc.blind, fun U hU hW => jpre C.sf C.z hP hS hU hW⟩ rfl rfl hL.1 rfl (lv_room (pc := pc) (ls := ls) (m := mm) (rest := (v3 :: v2 :: v1 :: v0 :: .inr (.ref b) :: S).map (jv G)) (by rw [jcats_eq]; exact Nat.le_of_ble_eq_true hrest)) hd (by rw [C.room]; exact ⟨hk, hn⟩)
  exact jcall (r := none) hrun (fun st o t h => h) hS (fun H1 locs1 h1 h2 => kk p e s mm args below meth c0 R C H1 locs1 ls h1 h2 hL)
theorem j_callIN5v {Mc : MI} {b : Nat} {v0 v1 v2 v3 v4 : PV} {m' : Mem} {idx q c' s' : Nat} (hd : decode (mB M) pc = .ok (.invokespecial idx, 3)) (hq : pc + 3 = q) (hi : KC Mc 5) (hl : ((mY M).cls, idx, mY Mc) ∈ jnest) (hroom : mF Mc + 1 ≤ mF M ∧ 8 + (mL Mc + 11) + mW Mc ≤ mW M) (hret : mR Mc = none) (hrest : Nat.ble (jcats S) 8 = true) (hk : k + c' ≤ mc) (hn : n + s' ≤ ms) (hM : CT G sh Mc c' s' [.inr (.ref b), v0, v1, v2, v3, v4] m none m') (kk : J G sh M mc ms F q L (S) m' (k + c') (n + s')) : J G sh M mc ms F pc L (v4 :: v3 :: v2 :: v1 :: v0 :: .inr (.ref b) :: S) m k n := by
  intro p e s mm args below meth c0 R C H locs ls hP hS hL
  subst hq
  have cw0 := jcn (c' := c') (s' := s') C hi.1 hl hroom
  have hM2 : Met _ _ _ _ _ _ _ _ _ := hM
  rw [hret] at cw0 hM2
  have hrun := va_runIN (H := H) (locs := locs) (cells := k) (slots := n) (below := below) (meth := meth) (e := e) (As := [jv G v0, jv G v1, jv G v2, jv G v3, jv G v4]) (rest := S.map (jv G)) (g := F0 mm pc ls ((v4 :: v3 :: v2 :: v1 :: v0 :: .inr (.ref b) :: S).map (jv G))) ⟨C.x, C.b, C.ml, C.own, C.ts⟩ hM2 ⟨cw0, hi.2.1, C.ts _ hi.2.2⟩ ⟨jPc.blind, fun U hU hW => jpre C.sf C.z hP hS hU hW⟩ rfl rfl hL.1 rfl (lv_room (pc := pc) (ls := ls) (m := mm) (rest := (v4 :: v3 :: v2 :: v1 :: v0 :: .inr (.ref b) :: S).map (jv G)) (by rw [jcats_eq]; exact Nat.le_of_ble_eq_true hrest)) hd (by rw [C.room]; exact ⟨hk, hn⟩)
  exact jcall (r := none) hrun (fun st o t h => h) hS (fun H1 locs1 h1 h2 => kk p e s mm args below meth c0 R C H1 locs1 ls h1 h2 hL)
end

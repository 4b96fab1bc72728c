/-! WRAPPERS: methods with a table of their own; what they call returns or throws -/
abbrev HT : Type := List (Nat × Nat × Nat × Nat)
def FTb (hh : HT) (F : FinT) : FinT := fun below args s c meth t => c.exceptionTable.toList = tableOf hh → F below args s c meth t
/-- a contract of a method with the table hh -/
def CW (G : GX) (sh : List SH) (M : MI) (hh : HT) (mc ms : Nat) (a : List PV) (m : Mem) (r : Option PV) (m' : Mem) : Prop :=
  Met (gL G) (mY M) (Cond.codeWith (mY M) (mB M) (mL M) (mR M) hh :: jall) { frames := mF M, locals := mW M, cells := mc, slots := ms } (jPc G sh a m) (jQc G sh r m') mc ms (jA G)
/-- where the thrown object is stored -/
def AST (M : MI) (hpc i q : Nat) : Prop := (∃ f : Fin 4, decode (mB M) hpc = .ok (.astore_n f, 1) ∧ (f : Nat) = i ∧ hpc + 1 = q) ∨ (decode (mB M) hpc = .ok (.astore i, 2) ∧ hpc + 2 = q)
theorem jl_skip {G : GX} {ls : Array Slot} {n i : Nat} {L : List (Option PV)} {v : Value} (hi : L[i]? = some none) (hp : jprev i L = true) (h : lv_has ls n ((i, v) :: (jl G 0 L).filter (fun q => !(q.1 == i) && !(q.1 + 1 == i && q.2.category == 2)))) : lv_has ls n (jl G 0 L) := by
  refine ⟨h.1, h.2.1, fun q hq => ?_⟩
  obtain ⟨k, w, hk, rfl⟩ := (jl_mem _ 0 q).mp hq
  rw [Nat.zero_add]
  apply h.2.2
  have h1 : ¬ k = i := fun z => by subst z; rw [hi] at hk; cases hk
  refine List.mem_cons_of_mem _ (List.mem_filter.mpr ⟨(jl_mem L 0 _).mpr ⟨k, w, hk, by rw [Nat.zero_add]⟩, ?_⟩)
  by_cases h2 : k + 1 = i
  · subst h2
    simp only [jprev, hk, beq_iff_eq] at hp
    simp [jcat_eq, hp]
  · simp [h1, h2]
section
variable {G : GX} {sh : List SH} {M : MI} {mc ms : Nat} {F : FinT} {pc : Nat} {L : List (Option PV)} {S : List PV} {m m' : Mem} {k n : Nat} {hh : HT}
theorem j_wid {k' n' : Nat} (hk : k ≤ k') (hn : n ≤ n') (kk : J G sh M mc ms F pc L S m k' n') : J G sh M mc ms F pc L S m k n :=
  fun p e s mm args below meth c R C H locs ls hP hS hL => W.widen hk hn (kk p e s mm args below meth c R C H locs ls hP hS hL)
theorem jw_met {a : List PV} {r : Option PV} {L0 : List (Option PV)} (hy : plainName (mY M).cls = true) (hap : jAp G sh.length) (hfl : (gL G).flags = flags0) (hL0 : jent (mL M) a = L0) (hlen : (jent1 a).length ≤ mL M) (body : J G sh M mc ms (FTb hh (FN G sh mc ms r m')) 0 L0 [] m 0 0) : CW G sh M hh mc ms a m r m' := by
  refine va_MetW (hh := hh) hy rfl ?_
  intro p e s mm args below meth c s1 B hml hP
  obtain ⟨rfl, h1, h2, h3⟩ := hP
  have hts0 := atoms_spec (ws := Cond.codeWith (mY M) (mB M) (mL M) (mR M) hh :: jall) B.pre
  have ht := vx_table (x := mY M) B (hts0 _ List.mem_cons_self)
  rw [lg_entry_eq]
  refine W.imp (fun t h => h ht) (body p e s mm _ below meth c _ ⟨B.exec, B.bytes, B.returns, hml, findClass_of_methodNamed B.named, B.notSynchronized, fun w hw => hts0 w (List.mem_cons_of_mem _ hw), h1, h2, hap, hfl, rfl⟩ s.heap [] _ h3 va_S.rf ?_)
  rw [← hL0, jent_jl]
  exact lv_entry _ (by rw [jent1_len]; exact hlen)
theorem jw_ireturn {v : Int} (hd : decode (mB M) pc = .ok (.ireturn, 1)) (hr : mR M = some .int) (hk : k ≤ mc) (hn : n ≤ ms) : J G sh M mc ms (FTb hh (FN G sh mc ms (some (.inl v)) m)) pc L [.inl v] m k n :=
  j_wid hk hn fun p e s mm args below meth c R C H locs ls hP hS hL => W.imp (fun t h _ => h) (j_ireturn hd hr rfl rfl p e s mm args below meth c R C H locs ls hP hS hL)
end
section
variable {p : Program} {e : Env} {R : Room} {s : State} {mm : MethodId} {args : Array Value} {below : List Frame} {meth : Method} {c0 : Code} {G : GX} {sh : List SH} {M : MI} {mc ms : Nat} {pc : Nat} {m' : Mem} {k n : Nat} {ls : Array Slot} {rest : List Value} {L : List (Option PV)} {F : FinT}
theorem jcatch {X : String} {hh pre suf : HT} {a b hpc ct i q0 : Nat} {H1 : Heap} {locs1 : List Loc} {q : Addr} {ce : Cell} (C : Cx G sh M mc ms p s mm args meth c0 R) (hP : va_P (gD G) vwCl (jws G sh m') H1) (hS : va_S (jA G) s.heap H1 locs1) (hL : lv_has ls (mL M) (jl G 0 L)) (hce : H1[q]? = some ce) (hcv : ce.vm = .none) (hcl : s.vm.findClass X = some ce.cls) (hsp : hh = pre ++ (a, b, hpc, ct) :: suf) (hpass : ∀ y ∈ pre, y.2.2.2 ≠ 0 ∧ ∃ nm, Cond.classLink (mY M).cls y.2.2.2 nm ∈ jall ∧ (X, nm) ∈ jncast) (hcov : a ≤ pc ∧ pc < b) (h0 : ct ≠ 0) (hlk : Cond.classLink (mY M).cls ct X ∈ jall) (hX : X ∈ jcast) (hst : AST M hpc i q0) (hi : L[i]? = some none) (hp : jprev i L = true) (hin : i < mL M) (kk : J G sh M mc ms (FTb hh F) q0 L [] m' k n) : vx_W p (gL G) e R s mm args below meth c0 H1 locs1 k n (FTb hh F below args s c0 meth) (F0 mm pc ls rest) q := by
  by_cases ht : c0.exceptionTable.toList = tableOf hh
  · refine vx_catch (name := X) C.own (tableOf pre) ⟨a, b, hpc, ct⟩ (tableOf suf) (by rw [ht, hsp]; unfold tableOf; rw [List.map_append]; rfl) (fun z hz => ?_) (by show (decide (a ≤ pc) && decide (pc < b)) = true; simp [hcov.1, hcov.2]) h0 (C.ts _ hlk) (va_tabs rfl rfl (C.sf.2.2.2.2.2.2.2.2.2.1 _ hX)) hce hcv hcl ?_
    · obtain ⟨y, hy, rfl⟩ := List.mem_map.mp hz
      obtain ⟨g0, nm, g1, g2⟩ := hpass y hy
      exact Or.inr ⟨g0, nm, C.ts _ g1, C.sf.2.2.2.2.2.2.2.2.2.2.1 _ g2⟩
    · rcases hst with ⟨f, g1, g2, g3⟩ | ⟨g1, g3⟩
      · subst g3
        exact lv_astore_n C.x C.b g1 g2 hL hin rfl (fun ls1 h1 => kk p e s mm args below meth c0 R C H1 locs1 ls1 hP hS (jl_skip hi hp h1))
      · subst g3
        exact lv_astore C.x C.b g1 hL hin rfl (fun ls1 h1 => kk p e s mm args below meth c0 R C H1 locs1 ls1 hP hS (jl_skip hi hp h1))
  · exact fun T _ _ => ⟨_, Steps.refl _, fun h => absurd h ht⟩
end
section
variable {G : GX} {sh : List SH} {M : MI} {mc ms : Nat} {F : FinT} {pc : Nat} {L : List (Option PV)} {S : List PV} {m m' : Mem} {k n : Nat} {hh : HT}
theorem j_catchV0 {Mc : MI} {X : String} {b0 ci : Nat} {ks : List (Nat ⊕ Nat)} {q0 : vw_C} {idx c' s' a b hpc ct i q1 : Nat} {pre suf : HT} (hd : decode (mB M) pc = .ok (.invokevirtual idx, 3)) (hi : KV Mc 0) (hl : Cond.methodLink (mY M).cls idx (mY Mc) ∈ jall) (hroom : mF Mc + 1 ≤ mF M ∧ 8 + (mL Mc + 11) + mW Mc ≤ mW M) (hb : sh[b0]? = some (.inl (ci, ks))) (hc : vwCl[ci]? = some q0) (hcl : q0.1 = (mY Mc).cls) (hrest : Nat.ble (jcats S) 8 = true) (hk : k + c' ≤ mc) (hn : n + s' ≤ ms) (hM : CTX G sh Mc c' s' [.inr (.ref b0)] m X m') (hsp : hh = pre ++ (a, b, hpc, ct) :: suf) (hpass : ∀ y ∈ pre, y.2.2.2 ≠ 0 ∧ ∃ nm, Cond.classLink (mY M).cls y.2.2.2 nm ∈ jall ∧ (X, nm) ∈ jncast) (hcov : a ≤ pc ∧ pc < b) (h0 : ct ≠ 0) (hlk : Cond.classLink (mY M).cls ct X ∈ jall) (hX : X ∈ jcast) (hst : AST M hpc i q1) (hio : L[i]? = some none) (hp : jprev i L = true) (hin : i < mL M) (kk : J G sh M mc ms (FTb hh F) q1 L [] m' (k + c') (n + s')) : J G sh M mc ms (FTb hh F) pc L (.inr (.ref b0) :: S) m k n := by
  intro p e s mm args below meth c0 R C H locs ls hP hS hL
  obtain ⟨cell, g1, g2, g3⟩ := va_recv C.k hP hc (jws_at hb)
  rw [hcl] at g3
  have hpv : PreV s H (mY Mc).cls (gA G b0) (jPc G sh [.inr (.ref b0)] m) [] := ⟨jPc.blind, ⟨cell, g1, g2, g3⟩, fun U hU hW => jpre C.sf C.z hP hS hU hW⟩
  have hrun := vx_runV (H := H) (locs := locs) (cells := k) (slots := n) (below := below) (meth := meth) (e := e) (As := []) (rest := S.map (jv G)) (g := F0 mm pc ls ((.inr (.ref b0) :: S).map (jv G))) ⟨C.x, C.b, C.ml, C.own, C.ts⟩ hM ⟨jcb C hi.1 hl hroom, C.ts _ hi.2.1, C.ts _ hi.2.2⟩ hpv rfl rfl hL.1 rfl (lv_room (pc := pc) (ls := ls) (m := mm) (rest := S.map (jv G)) (by rw [jcats_eq]; exact Nat.le_of_ble_eq_true hrest)) hd (by rw [C.room]; exact ⟨hk, hn⟩)
  exact jcallX hrun (fun _ _ _ h => h) hS (fun H1 locs1 q ce h1 h2 h3 h4 h5 => jcatch C h1 h2 hL h3 h4 h5 hsp hpass hcov h0 hlk hX hst hio hp hin kk)
theorem j_catchV1 {Mc : MI} {v0 : PV} {X : String} {b0 ci : Nat} {ks : List (Nat ⊕ Nat)} {q0 : vw_C} {idx c' s' a b hpc ct i q1 : Nat} {pre suf : HT} (hd : decode (mB M) pc = .ok (.invokevirtual idx, 3)) (hi : KV Mc 1) (hl : Cond.methodLink (mY M).cls idx (mY Mc) ∈ jall) (hroom : mF Mc + 1 ≤ mF M ∧ 8 + (mL Mc + 11) + mW Mc ≤ mW M) (hb : sh[b0]? = some (.inl (ci, ks))) (hc : vwCl[ci]? = some q0) (hcl : q0.1 = (mY Mc).cls) (hrest : Nat.ble (jcats S) 8 = true) (hk : k + c' ≤ mc) (hn : n + s' ≤ ms) (hM : CTX G sh Mc c' s' [.inr (.ref b0), v0] m X m') (hsp : hh = pre ++ (a, b, hpc, ct) :: suf) (hpass : ∀ y ∈ pre, y.2.2.2 ≠ 0 ∧ ∃ nm, Cond.classLink (mY M).cls y.2.2.2 nm ∈ jall ∧ (X, nm) ∈ jncast) (hcov : a ≤ pc ∧ pc < b) (h0 : ct ≠ 0) (hlk : Cond.classLink (mY M).cls ct X ∈ jall) (hX : X ∈ jcast) (hst : AST M hpc i q1) (hio : L[i]? = some none) (hp : jprev i L = true) (hin : i < mL M) (kk : J G sh M mc ms (FTb hh F) q1 L [] m' (k + c') (n + s')) : J G sh M mc ms (FTb hh F) pc L (v0 :: .inr (.ref b0) :: S) m k n := by
  intro p e s mm args below meth c0 R C H locs ls hP hS hL
  obtain ⟨cell, g1, g2, g3⟩ := va_recv C.k hP hc (jws_at hb)
  rw [hcl] at g3
  have hpv : PreV s H (mY Mc).cls (gA G b0) (jPc G sh [.inr (.ref b0), v0] m) [jv G v0] := ⟨jPc.blind, ⟨cell, g1, g2, g3⟩, fun U hU hW => jpre C.sf C.z hP hS hU hW⟩
  have hrun := vx_runV (H := H) (locs := locs) (cells := k) (slots := n) (below := below) (meth := meth) (e := e) (As := [jv G v0]) (rest := S.map (jv G)) (g := F0 mm pc ls ((v0 :: .inr (.ref b0) :: S).map (jv G))) ⟨C.x, C.b, C.ml, C.own, C.ts⟩ hM ⟨jcb C hi.1 hl hroom, C.ts _ hi.2.1, C.ts _ hi.2.2⟩ hpv rfl rfl hL.1 rfl (lv_room (pc := pc) (ls := ls) (m := mm) (rest := S.map (jv G)) (by rw [jcats_eq]; exact Nat.le_of_ble_eq_true hrest)) hd (by rw [C.room]; exact ⟨hk, hn⟩)
  exact jcallX hrun (fun _ _ _ h => h) hS (fun H1 locs1 q ce h1 h2 h3 h4 h5 => jcatch C h1 h2 hL h3 h4 h5 hsp hpass hcov h0 hlk hX hst hio hp hin kk)
theorem j_catchV2 {Mc : MI} {v0 v1 : PV} {X : String} {b0 ci : Nat} {ks : List (Nat ⊕ Nat)} {q0 : vw_C} {idx c' s' a b hpc ct i q1 : Nat} {pre suf : HT} (hd : decode (mB M) pc = .ok (.invokevirtual idx, 3)) (hi : KV Mc 2) (hl : Cond.methodLink (mY M).cls idx (mY Mc) ∈ jall) (hroom : mF Mc + 1 ≤ mF M ∧ 8 + (mL Mc + 11) + mW Mc ≤ mW M) (hb : sh[b0]? = some (.inl (ci, ks))) (hc : vwCl[ci]? = some q0) (hcl : q0.1 = (mY Mc).cls) (hrest : Nat.ble (jcats S) 8 = true) (hk : k + c' ≤ mc) (hn : n + s' ≤ ms) (hM : CTX G sh Mc c' s' [.inr (.ref b0), v0, v1] m X m') (hsp : hh = pre ++ (a, b, hpc, ct) :: suf) (hpass : ∀ y ∈ pre, y.2.2.2 ≠ 0 ∧ ∃ nm, Cond.classLink (mY M).cls y.2.2.2 nm ∈ jall ∧ (X, nm) ∈ jncast) (hcov : a ≤ pc ∧ pc < b) (h0 : ct ≠ 0) (hlk : Cond.classLink (mY M).cls ct X ∈ jall) (hX : X ∈ jcast) (hst : AST M hpc i q1) (hio : L[i]? = some none) (hp : jprev i L = true) (hin : i < mL M) (kk : J G sh M mc ms (FTb hh F) q1 L [] m' (k + c') (n + s')) : J G sh M mc ms (FTb hh F) pc L (v1 :: v0 :: .inr (.ref b0) :: S) m k n := by
  intro p e s mm args below meth c0 R C H locs ls hP hS hL
  obtain ⟨cell, g1, g2, g3⟩ := va_recv C.k hP hc (jws_at hb)
  rw [hcl] at g3
  have hpv : PreV s H (mY Mc).cls (gA G b0) (jPc G sh [.inr (.ref b0), v0, v1] m) [jv G v0, jv G v1] := ⟨jPc.blind, ⟨cell, g1, g2, g3⟩, fun U hU hW => jpre C.sf C.z hP hS hU hW⟩
  have hrun := vx_runV (H := H) (locs := locs) (cells := k) (slots := n) (below := below) (meth := meth) (e := e) (As := [jv G v0, jv G v1]) (rest := S.map (jv G)) (g := F0 mm pc ls ((v1 :: v0 :: .inr (.ref b0) :: S).map (jv G))) ⟨C.x, C.b, C.ml, C.own, C.ts⟩ hM ⟨jcb C hi.1 hl hroom, C.ts _ hi.2.1, C.ts _ hi.2.2⟩ hpv rfl rfl hL.1 rfl (lv_room (pc := pc) (ls := ls) (m := mm) (rest := S.map (jv G)) (by rw [jcats_eq]; exact Nat.le_of_ble_eq_true hrest)) hd (by rw [C.room]; exact ⟨hk, hn⟩)
  exact jcallX hrun (fun _ _ _ h => h) hS (fun H1 locs1 q ce h1 h2 h3 h4 h5 => jcatch C h1 h2 hL h3 h4 h5 hsp hpass hcov h0 hlk hX hst hio hp hin kk)
theorem j_catchV3 {Mc : MI} {v0 v1 v2 : PV} {X : String} {b0 ci : Nat} {ks : List (Nat ⊕ Nat)} {q0 : vw_C} {idx c' s' a b hpc ct i q1 : Nat} {pre suf : HT} (hd : decode (mB M) pc = .ok (.invokevirtual idx, 3)) (hi : KV Mc 3) (hl : Cond.methodLink (mY M).cls idx (mY Mc) ∈ jall) (hroom : mF Mc + 1 ≤ mF M ∧ 8 + (mL Mc + 11) + mW Mc ≤ mW M) (hb : sh[b0]? = some (.inl (ci, ks))) (hc : vwCl[ci]? = some q0) (hcl : q0.1 = (mY Mc).cls) (hrest : Nat.ble (jcats S) 8 = true) (hk : k + c' ≤ mc) (hn : n + s' ≤ ms) (hM : CTX G sh Mc c' s' [.inr (.ref b0), v0, v1, v2] m X m') (hsp : hh = pre ++ (a, b, hpc, ct) :: suf) (hpass : ∀ y ∈ pre, y.2.2.2 ≠ 0 ∧ ∃ nm, Cond.classLink (mY M).cls y.2.2.2 nm ∈ jall ∧ (X, nm) ∈ jncast) (hcov : a ≤ pc ∧ pc < b) (h0 : ct ≠ 0) (hlk : Cond.classLink (mY M).cls ct X ∈ jall) (hX : X ∈ jcast) (hst : AST M hpc i q1) (hio : L[i]? = some none) (hp : jprev i L = true) (hin : i < mL M) (kk : J G sh M mc ms (FTb hh F) q1 L [] m' (k + c') (n + s')) : J G sh M mc ms (FTb hh F) pc L (v2 :: v1 :: v0 :: .inr (.ref b0) :: S) m k n := by
  intro p e s mm args below meth c0 R C H locs ls hP hS hL
  obtain ⟨cell, g1, g2, g3⟩ := va_recv C.k hP hc (jws_at hb)
  rw [hcl] at g3
  have hpv : PreV s H (mY Mc).cls (gA G b0) (jPc G sh [.inr (.ref b0), v0, v1, v2] m) [jv G v0, jv G v1, jv G v2] := ⟨jPc.blind, ⟨cell, g1, g2, g3⟩, fun U hU hW => jpre C.sf C.z hP hS hU hW⟩
  have hrun := vx_runV (H := H) (locs := locs) (cells := k) (slots := n) (below := below) (meth := meth) (e := e) (As := [jv G v0, jv G v1, jv G v2]) (rest := S.map (jv G)) (g := F0 mm pc ls ((v2 :: v1 :: v0 :: .inr (.ref b0) :: S).map (jv G))) ⟨C.x, C.b, C.ml, C.own, C.ts⟩ hM ⟨jcb C hi.1 hl hroom, C.ts _ hi.2.1, C.ts _ hi.2.2⟩ hpv rfl rfl hL.1 rfl (lv_room (pc := pc) (ls := ls) (m := mm) (rest := S.map (jv G)) (by rw [jcats_eq]; exact Nat.le_of_ble_eq_true hrest)) hd (by rw [C.room]; exact ⟨hk, hn⟩)
  exact jcallX hrun (fun _ _ _ h => h) hS (fun H1 locs1 q ce h1 h2 h3 h4 h5 => jcatch C h1 h2 hL h3 h4 h5 hsp hpass hcov h0 hlk hX hst hio hp hin kk)
theorem j_catchV4 {Mc : MI} {v0 v1 v2 v3 : PV} {X : String} {b0 ci : Nat} {ks : List (Nat ⊕ Nat)} {q0 : vw_C} {idx c' s' a b hpc ct i q1 : Nat} {pre suf : HT} (hd : decode (mB M) pc = .ok (.invokevirtual idx, 3)) (hi : KV Mc 4) (hl : Cond.methodLink (mY M).cls idx (mY Mc) ∈ jall) (hroom : mF Mc + 1 ≤ mF M ∧ 8 + (mL Mc + 11) + mW Mc ≤ mW M) (hb : sh[b0]? = some (.inl (ci, ks))) (hc : vwCl[ci]? = some q0) (hcl : q0.1 = (mY Mc).cls) (hrest : Nat.ble (jcats S) 8 = true) (hk : k + c' ≤ mc) (hn : n + s' ≤ ms) (hM : CTX G sh Mc c' s' [.inr (.ref b0), v0, v1, v2, v3] m X m') (hsp : hh = pre ++ (a, b, hpc, ct) :: suf) (hpass : ∀ y ∈ pre, y.2.2.2 ≠ 0 ∧ ∃ nm, Cond.classLink (mY M).cls y.2.2.2 nm ∈ jall ∧ (X, nm) ∈ jncast) (hcov : a ≤ pc ∧ pc < b) (h0 : ct ≠ 0) (hlk : Cond.classLink (mY M).cls ct X ∈ jall) (hX : X ∈ jcast) (hst : AST M hpc i q1) (hio : L[i]? = some none) (hp : jprev i L = true) (hin : i < mL M) (kk : J G sh M mc ms (FTb hh F) q1 L [] m' (k + c') (n + s')) : J G sh M mc ms (FTb hh F) pc L (v3 :: v2 :: v1 :: v0 :: .inr (.ref b0) :: S) m k n := by
  intro p e s mm args below meth c0 R C H locs ls hP hS hL
  obtain ⟨cell, g1, g2, g3⟩ := va_recv C.k hP hc (jws_at hb)
  rw [hcl] at g3
  have hpv : PreV s H (mY Mc).cls (gA G b0) (jPc G sh [.inr (.ref b0), v0, v1, v2, v3] m) [jv G v0, jv G v1, jv G v2, jv G v3] := ⟨jPc.blind, ⟨cell, g1, g2, g3⟩, fun U hU hW => jpre C.sf C.z hP hS hU hW⟩
  have hrun := vx_runV (H := H) (locs := locs) (cells := k) (slots := n) (below := below) (meth := meth) (e := e) (As := [jv G v0, jv G v1, jv G v2, jv G v3]) (rest := S.map (jv G)) (g := F0 mm pc ls ((v3 :: v2 :: v1 :: v0 :: .inr (.ref b0) :: S).map (jv G))) ⟨C.x, C.b, C.ml, C.own, C.ts⟩ hM ⟨jcb C hi.1 hl hroom, C.ts _ hi.2.1, C.ts _ hi.2.2⟩ hpv rfl rfl hL.1 rfl (lv_room (pc := pc) (ls := ls) (m := mm) (rest := S.map (jv G)) (by rw [jcats_eq]; exact Nat.le_of_ble_eq_true hrest)) hd (by rw [C.room]; exact ⟨hk, hn⟩)
  exact jcallX hrun (fun _ _ _ h => h) hS (fun H1 locs1 q ce h1 h2 h3 h4 h5 => jcatch C h1 h2 hL h3 h4 h5 hsp hpass hcov h0 hlk hX hst hio hp hin kk)
/-- what the tables say of a wrapper -/
def KSW (Mc : MI) (hh : HT) (n : Nat) : Prop := Cond.codeWith (mY Mc) (mB Mc) (mL Mc) (mR Mc) hh ∈ jall ∧ Cond.initialized (mY Mc).cls ∈ jall ∧ ((mY Mc).cls ≠ "java/lang/invoke/MethodHandle" ∧ (mY Mc).cls ≠ "java/lang/invoke/VarHandle" ∧ (parseMethodDescriptor (mY Mc).desc).map (fun d => d.parameters.length) = some n) ∧ Cond.static (mY Mc) ∈ jall
theorem j_callW2 {Mc : MI} {v0 v1 r : PV} {idx q c' s' : Nat} {hx : HT} (hd : decode (mB M) pc = .ok (.invokestatic idx, 3)) (hq : pc + 3 = q) (hi : KSW Mc hx 2) (hl : Cond.methodLink (mY M).cls idx (mY Mc) ∈ jall) (hroom : mF Mc + 1 ≤ mF M ∧ 8 + (mL Mc + 11) + mW Mc ≤ mW M) (hrest : Nat.ble (jcats S) 8 = true) (hk : k + c' ≤ mc) (hn : n + s' ≤ ms) (hM : CW G sh Mc hx c' s' [v0, v1] m (some r) m') (kk : J G sh M mc ms F q L (r :: S) m' (k + c') (n + s')) : J G sh M mc ms F pc L (v1 :: v0 :: S) m k n := by
  intro p e s mm args below meth c0 R C H locs ls hP hS hL
  subst hq
  obtain ⟨i1, i2, i3, i4⟩ := hi
  have cw0 : vx_CSW R s args (mY M).cls idx (mY Mc) (mB Mc) (mL Mc) (mR Mc) hx (Cond.codeWith (mY Mc) (mB Mc) (mL Mc) (mR Mc) hx :: jall) { frames := mF Mc, locals := mW Mc, cells := c', slots := s' } c' s' 2 := by
    refine vx_cwSW 2 C.ts (jGoodIn fun w hw => ?_) rfl rfl rfl i3 (by rw [C.room]; exact hroom)
    unfold va_wsS at hw
    rcases List.mem_append.mp hw with h | h
    · rcases List.mem_cons.mp h with rfl | h
      · exact hl
      · rcases List.mem_cons.mp h with rfl | h
        · exact i4
        · rcases List.mem_cons.mp h with rfl | h
          · exact i2
          · exact absurd h List.not_mem_nil
    · rcases List.mem_cons.mp h with rfl | h
      · exact i1
      · exact h
  have hrun := vx_runSW (H := H) (locs := locs) (cells := k) (slots := n) (below := below) (meth := meth) (e := e) (As := [jv G v0, jv G v1]) (rest := S.map (jv G)) (g := F0 mm pc ls ((v1 :: v0 :: S).map (jv G))) ⟨C.x, C.b, C.ml, C.own, C.ts⟩ hM cw0 ⟨jPc.blind, fun U hU hW => jpre C.sf C.z hP hS hU hW⟩ rfl rfl hL.1 rfl (lv_room (pc := pc) (ls := ls) (m := mm) (rest := (v1 :: v0 :: S).map (jv G)) (by rw [jcats_eq]; exact Nat.le_of_ble_eq_true hrest)) hd (by rw [C.room]; exact ⟨hk, hn⟩)
  exact jcall (r := (some r)) hrun (fun st o t h => h) hS (fun H1 locs1 h1 h2 => kk p e s mm args below meth c0 R C H1 locs1 ls h1 h2 hL)
theorem j_callW3 {Mc : MI} {v0 v1 v2 r : PV} {idx q c' s' : Nat} {hx : HT} (hd : decode (mB M) pc = .ok (.invokestatic idx, 3)) (hq : pc + 3 = q) (hi : KSW Mc hx 3) (hl : Cond.methodLink (mY M).cls idx (mY Mc) ∈ jall) (hroom : mF Mc + 1 ≤ mF M ∧ 8 + (mL Mc + 11) + mW Mc ≤ mW M) (hrest : Nat.ble (jcats S) 8 = true) (hk : k + c' ≤ mc) (hn : n + s' ≤ ms) (hM : CW G sh Mc hx c' s' [v0, v1, v2] m (some r) m') (kk : J G sh M mc ms F q L (r :: S) m' (k + c') (n + s')) : J G sh M mc ms F pc L (v2 :: v1 :: v0 :: S) m k n := by
  intro p e s mm args below meth c0 R C H locs ls hP hS hL
  subst hq
  obtain ⟨i1, i2, i3, i4⟩ := hi
  have cw0 : vx_CSW R s args (mY M).cls idx (mY Mc) (mB Mc) (mL Mc) (mR Mc) hx (Cond.codeWith (mY Mc) (mB Mc) (mL Mc) (mR Mc) hx :: jall) { frames := mF Mc, locals := mW Mc, cells := c', slots := s' } c' s' 3 := by
    refine vx_cwSW 3 C.ts (jGoodIn fun w hw => ?_) rfl rfl rfl i3 (by rw [C.room]; exact hroom)
    unfold va_wsS at hw
    rcases List.mem_append.mp hw with h | h
    · rcases List.mem_cons.mp h with rfl | h
      · exact hl
      · rcases List.mem_cons.mp h with rfl | h
        · exact i4
        · rcases List.mem_cons.mp h with rfl | h
          · exact i2
          · exact absurd h List.not_mem_nil
    · rcases List.mem_cons.mp h with rfl | h
      · exact i1
      · exact h
  have hrun := vx_runSW (H := H) (locs := locs) (cells := k) (slots := n) (below := below) (meth := meth) (e := e) (As := [jv G v0, jv G v1, jv G v2]) (rest := S.map (jv G)) (g := F0 mm pc ls ((v2 :: v1 :: v0 :: S).map (jv G))) ⟨C.x, C.b, C.ml, C.own, C.ts⟩ hM cw0 ⟨jPc.blind, fun U hU hW => jpre C.sf C.z hP hS hU hW⟩ rfl rfl hL.1 rfl (lv_room (pc := pc) (ls := ls) (m := mm) (rest := (v2 :: v1 :: v0 :: S).map (jv G)) (by rw [jcats_eq]; exact Nat.le_of_ble_eq_true hrest)) hd (by rw [C.room]; exact ⟨hk, hn⟩)
  exact jcall (r := (some r)) hrun (fun st o t h => h) hS (fun H1 locs1 h1 h2 => kk p e s mm args below meth c0 R C H1 locs1 ls h1 h2 hL)
theorem j_callW4 {Mc : MI} {v0 v1 v2 v3 r : PV} {idx q c' s' : Nat} {hx : HT} (hd : decode (mB M) pc = .ok (.invokestatic idx, 3)) (hq : pc + 3 = q) (hi : KSW Mc hx 4) (hl : Cond.methodLink (mY M).cls idx (mY Mc) ∈ jall) (hroom : mF Mc + 1 ≤ mF M ∧ 8 + (mL Mc + 11) + mW Mc ≤ mW M) (hrest : Nat.ble (jcats S) 8 = true) (hk : k + c' ≤ mc) (hn : n + s' ≤ ms) (hM : CW G sh Mc hx c' s' [v0, v1, v2, v3] m (some r) m') (kk : J G sh M mc ms F q L (r :: S) m' (k + c') (n + s')) : J G sh M mc ms F pc L (v3 :: v2 :: v1 :: v0 :: S) m k n := by
  intro p e s mm args below meth c0 R C H locs ls hP hS hL
  subst hq
  obtain ⟨i1, i2, i3, i4⟩ := hi
  have cw0 : vx_CSW R s args (mY M).cls idx (mY Mc) (mB Mc) (mL Mc) (mR Mc) hx (Cond.codeWith (mY Mc) (mB Mc) (mL Mc) (mR Mc) hx :: jall) { frames := mF Mc, locals := mW Mc, cells := c', slots := s' } c' s' 4 := by
    refine vx_cwSW 4 C.ts (jGoodIn fun w hw => ?_) rfl rfl rfl i3 (by rw [C.room]; exact hroom)
    unfold va_wsS at hw
    rcases List.mem_append.mp hw with h | h
    · rcases List.mem_cons.mp h with rfl | h
      · exact hl
      · rcases List.mem_cons.mp h with rfl | h
        · exact i4
        · rcases List.mem_cons.mp h with rfl | h
          · exact i2
          · exact absurd h List.not_mem_nil
    · rcases List.mem_cons.mp h with rfl | h
      · exact i1
      · exact h
  have hrun := vx_runSW (H := H) (locs := locs) (cells := k) (slots := n) (below := below) (meth := meth) (e := e) (As := [jv G v0, jv G v1, jv G v2, jv G v3]) (rest := S.map (jv G)) (g := F0 mm pc ls ((v3 :: v2 :: v1 :: v0 :: S).map (jv G))) ⟨C.x, C.b, C.ml, C.own, C.ts⟩ hM cw0 ⟨jPc.blind, fun U hU hW => jpre C.sf C.z hP hS hU hW⟩ rfl rfl hL.1 rfl (lv_room (pc := pc) (ls := ls) (m := mm) (rest := (v3 :: v2 :: v1 :: v0 :: S).map (jv G)) (by rw [jcats_eq]; exact Nat.le_of_ble_eq_true hrest)) hd (by rw [C.room]; exact ⟨hk, hn⟩)
  exact jcall (r := (some r)) hrun (fun st o t h => h) hS (fun H1 locs1 h1 h2 => kk p e s mm args below meth c0 R C H1 locs1 ls h1 h2 hL)
theorem j_callW5 {Mc : MI} {v0 v1 v2 v3 v4 r : PV} {idx q c' s' : Nat} {hx : HT} (hd : decode (mB M) pc = .ok (.invokestatic idx, 3)) (hq : pc + 3 = q) (hi : KSW Mc hx 5) (hl : Cond.methodLink (mY M).cls idx (mY Mc) ∈ jall) (hroom : mF Mc + 1 ≤ mF M ∧ 8 + (mL Mc + 11) + mW Mc ≤ mW M) (hrest : Nat.ble (jcats S) 8 = true) (hk : k + c' ≤ mc) (hn : n + s' ≤ ms) (hM : CW G sh Mc hx c' s' [v0, v1, v2, v3, v4] m (some r) m') (kk : J G sh M mc ms F q L (r :: S) m' (k + c') (n + s')) : J G sh M mc ms F pc L (v4 :: v3 :: v2 :: v1 :: v0 :: S) m k n := by
  intro p e s mm args below meth c0 R C H locs ls hP hS hL
  subst hq
  obtain ⟨i1, i2, i3, i4⟩ := hi
  have cw0 : vx_CSW R s args (mY M).cls idx (mY Mc) (mB Mc) (mL Mc) (mR Mc) hx (Cond.codeWith (mY Mc) (mB Mc) (mL Mc) (mR Mc) hx :: jall) { frames := mF Mc, locals := mW Mc, cells := c', slots := s' } c' s' 5 := by
    refine vx_cwSW 5 C.ts (jGoodIn fun w hw => ?_) rfl rfl rfl i3 (by rw [C.room]; exact hroom)
    unfold va_wsS at hw
    rcases List.mem_append.mp hw with h | h
    · rcases List.mem_cons.mp h with rfl | h
      · exact hl
      · rcases List.mem_cons.mp h with rfl | h
        · exact i4
        · rcases List.mem_cons.mp h with rfl | h
          · exact i2
          · exact absurd h List.not_mem_nil
    · rcases List.mem_cons.mp h with rfl | h
      · exact i1
      · exact h
  have hrun := vx_runSW (H := H) (locs := locs) (cells := k) (slots := n) (below := below) (meth := meth) (e := e) (As := [jv G v0, jv G v1, jv G v2, jv G v3, jv G v4]) (rest := S.map (jv G)) (g := F0 mm pc ls ((v4 :: v3 :: v2 :: v1 :: v0 :: S).map (jv G))) ⟨C.x, C.b, C.ml, C.own, C.ts⟩ hM cw0 ⟨jPc.blind, fun U hU hW => jpre C.sf C.z hP hS hU hW⟩ rfl rfl hL.1 rfl (lv_room (pc := pc) (ls := ls) (m := mm) (rest := (v4 :: v3 :: v2 :: v1 :: v0 :: S).map (jv G)) (by rw [jcats_eq]; exact Nat.le_of_ble_eq_true hrest)) hd (by rw [C.room]; exact ⟨hk, hn⟩)
  exact jcall (r := (some r)) hrun (fun st o t h => h) hS (fun H1 locs1 h1 h2 => kk p e s mm args below meth c0 R C H1 locs1 ls h1 h2 hL)
theorem j_callW6 {Mc : MI} {v0 v1 v2 v3 v4 v5 r : PV} {idx q c' s' : Nat} {hx : HT} (hd : decode (mB M) pc = .ok (.invokestatic idx, 3)) (hq : pc + 3 = q) (hi : KSW Mc hx 6) (hl : Cond.methodLink (mY M).cls idx (mY Mc) ∈ jall) (hroom : mF Mc + 1 ≤ mF M ∧ 8 + (mL Mc + 11) + mW Mc ≤ mW M) (hrest : Nat.ble (jcats S) 8 = true) (hk : k + c' ≤ mc) (hn : n + s' ≤ ms) (hM : CW G sh Mc hx c' s' [v0, v1, v2, v3, v4, v5] m (some r) m') (kk : J G sh M mc ms F q L (r :: S) m' (k + c') (n + s')) : J G sh M mc ms F pc L (v5 :: v4 :: v3 :: v2 :: v1 :: v0 :: S) m k n := by
  intro p e s mm args below meth c0 R C H locs ls hP hS hL
  subst hq
  obtain ⟨i1, i2, i3, i4⟩ := hi
  have cw0 : vx_CSW R s args (mY M).cls idx (mY Mc) (mB Mc) (mL Mc) (mR Mc) hx (Cond.codeWith (mY Mc) (mB Mc) (mL Mc) (mR Mc) hx :: jall) { frames := mF Mc, locals := mW Mc, cells := c', slots := s' } c' s' 6 := by
    refine vx_cwSW 6 C.ts (jGoodIn fun w hw => ?_) rfl rfl rfl i3 (by rw [C.room]; exact hroom)
    unfold va_wsS at hw
    rcases List.mem_append.mp hw with h | h
    · rcases List.mem_cons.mp h with rfl | h
      · exact hl
      · rcases List.mem_cons.mp h with rfl | h
        · exact i4
        · rcases List.mem_cons.mp h with rfl | h
          · exact i2
          · exact absurd h List.not_mem_nil
    · rcases List.mem_cons.mp h with rfl | h
      · exact i1
      · exact h
  have hrun := vx_runSW (H := H) (locs := locs) (cells := k) (slots := n) (below := below) (meth := meth) (e := e) (As := [jv G v0, jv G v1, jv G v2, jv G v3, jv G v4, jv G v5]) (rest := S.map (jv G)) (g := F0 mm pc ls ((v5 :: v4 :: v3 :: v2 :: v1 :: v0 :: S).map (jv G))) ⟨C.x, C.b, C.ml, C.own, C.ts⟩ hM cw0 ⟨jPc.blind, fun U hU hW => jpre C.sf C.z hP hS hU hW⟩ rfl rfl hL.1 rfl (lv_room (pc := pc) (ls := ls) (m := mm) (rest := (v5 :: v4 :: v3 :: v2 :: v1 :: v0 :: S).map (jv G)) (by rw [jcats_eq]; exact Nat.le_of_ble_eq_true hrest)) hd (by rw [C.room]; exact ⟨hk, hn⟩)
  exact jcall (r := (some r)) hrun (fun st o t h => h) hS (fun H1 locs1 h1 h2 => kk p e s mm args below meth c0 R C H1 locs1 ls h1 h2 hL)
end

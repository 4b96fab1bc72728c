/-! the law: contracts whose memory is told by what holds of it -/
def CE (G : GX) (sh : List SH) (M : MI) (mc ms : Nat) (a : List PV) (m : Mem) (r : Option PV) (Φ : Mem → Prop) : Prop :=
  Met (gL G) (mY M) (Cond.code (mY M) (mB M) (mL M) (mR M) :: jall) { frames := mF M, locals := mW M, cells := mc, slots := ms } (jPc G sh a m) (fun v st o t => ∃ m' : Mem, Φ m' ∧ jQc G sh r m' v st o t) mc ms (jA G)
def FE (G : GX) (sh : List SH) (mc ms : Nat) (r : Option PV) (Φ : Mem → Prop) : FinT := fun below args s _ _ => MQ below (fun v st o t => ∃ m' : Mem, Φ m' ∧ jQc G sh r m' v st o t) args s mc ms (jA G)
theorem j_metE {G : GX} {sh : List SH} {M : MI} {mc ms : Nat} {a : List PV} {m : Mem} {Φ : Mem → Prop} {r : Option PV} {L0 : List (Option PV)} (hy : plainName (mY M).cls = true) (hap : jAp G sh.length) (hfl : (gL G).flags = flags0) (hL0 : jent (mL M) a = L0) (hlen : (jent1 a).length ≤ mL M) (body : J G sh M mc ms (FE G sh mc ms r Φ) 0 L0 [] m 0 0) : CE G sh M mc ms a m r Φ := by
  refine Met.ofW hy rfl ?_
  intro p e s mm args below meth c s1 B hml hP
  obtain ⟨rfl, h1, h2, h3⟩ := hP
  have hts0 := atoms_spec (ws := Cond.code (mY M) (mB M) (mL M) (mR M) :: jall) B.pre
  rw [lg_entry_eq]
  refine body p e s mm _ below meth c _ ⟨B.exec, B.bytes, B.returns, hml, findClass_of_methodNamed B.named, B.notSynchronized, fun w hw => hts0 w (List.mem_cons_of_mem _ hw), h1, h2, hap, hfl, rfl⟩ s.heap [] _ h3 va_S.rf ?_
  rw [← hL0, jent_jl]
  exact lv_entry _ (by rw [jent1_len]; exact hlen)
theorem j_fe {G : GX} {sh : List SH} {M : MI} {mc ms : Nat} {pc : Nat} {L : List (Option PV)} {S : List PV} {m m' : Mem} {k n : Nat} {r : Option PV} {Φ : Mem → Prop} (h : Φ m') (kk : J G sh M mc ms (FN G sh mc ms r m') pc L S m k n) : J G sh M mc ms (FE G sh mc ms r Φ) pc L S m k n := by
  intro p e s mm args below meth c R C H locs ls hP hS hL
  refine W.imp (fun t w => ?_) (kk p e s mm args below meth c R C H locs ls hP hS hL)
  obtain ⟨o, c1, c2, c3, c4⟩ := w
  exact ⟨o, c1, c2, ⟨m', h, c3⟩, c4⟩
section
variable {p : Program} {e : Env} {R : Room} {s : State} {mm : MethodId} {args : Array Value} {below : List Frame} {meth : Method} {c0 : Code} {H : Heap} {locs : List Loc} {Q : State → Prop} {G : GX} {sh : List SH} {M : MI} {mc ms : Nat} {pc : Nat} {S : List PV} {m : Mem} {k n : Nat} {ls : Array Slot} {st0 : List Value}
theorem jcallE {Φ : Mem → Prop} {c' s' : Nat} {r : Option PV} {Qa : State → Outcome → State → Prop} (hr : va_Run p (gL G) e R s mm args below meth c0 H locs k n c' s' (F0 mm pc ls st0) (S.map (jv G)) Qa (jA G)) (hQ : ∀ (st : State) (o : Outcome) (t : State), Qa st o t → ∃ m' : Mem, Φ m' ∧ o = .returned (r.map (jv G)) ∧ va_P (gD G) vwCl (jws G sh m') t.heap ∧ va_F (jA G) st t) (hS : va_S (jA G) s.heap H locs)
    (kk : ∀ m' : Mem, Φ m' → ∀ (H1 : Heap) (locs1 : List Loc), va_P (gD G) vwCl (jws G sh m') H1 → va_S (jA G) s.heap H1 locs1 → W p (gL G) e R s mm args below meth c0 H1 locs1 (k + c') (n + s') Q (F0 mm (pc + 3) ls ((r.toList ++ S).map (jv G)))) : W p (gL G) e R s mm args below meth c0 H locs k n Q (F0 mm pc ls st0) := by
  intro T hT X
  obtain ⟨v, st₀, t, T', L, h0, X', hL, e1, e2, hq, st⟩ := hr T hT X
  obtain ⟨m', hm, h1, h2, hz, hk⟩ := hQ _ _ _ hq
  have hv : v = r.map (jv G) := by cases h1; rfl
  rw [h0] at hz hk
  rw [← e1] at h2 hz hk
  obtain ⟨t2, a1, b1⟩ := kk m' hm T'.heap (locs ++ L) h2 ⟨Nat.le_trans hS.1 hz, fun q g1 g2 => by rw [hk q (Nat.lt_of_lt_of_le g1 hS.1) g2]; exact hS.2.1 q g1 g2, fun q hq => by
      rcases List.mem_append.mp hq with h | h
      · exact hS.2.2 q h
      · exact hL q h⟩ T' rfl X'
  refine ⟨t2, st t2 ?_, b1⟩
  rw [hv]
  have e3 : (r.map (jv G)).toList ++ S.map (jv G) = (r.toList ++ S).map (jv G) := by cases r <;> rfl
  rw [e3]
  exact a1
end
section
variable {G : GX} {sh : List SH} {M : MI} {mc ms : Nat} {F : FinT} {pc : Nat} {L : List (Option PV)} {S : List PV} {m : Mem} {k n : Nat}
theorem j_callS12E {Φ : Mem → Prop} {Mc : MI} {v0 v1 v2 v3 v4 v5 v6 v7 v8 v9 v10 v11 : PV} {r : PV} {idx q c' s' : Nat} (hd : decode (mB M) pc = .ok (.invokestatic idx, 3)) (hq : pc + 3 = q) (hi : KS Mc 12) (hl : Cond.methodLink (mY M).cls idx (mY Mc) ∈ jall) (hroom : mF Mc + 1 ≤ mF M ∧ 8 + (mL Mc + 11) + mW Mc ≤ mW M) (hrest : Nat.ble (jcats S) 8 = true) (hk : k + c' ≤ mc) (hn : n + s' ≤ ms) (hM : CE G sh Mc c' s' [v0, v1, v2, v3, v4, v5, v6, v7, v8, v9, v10, v11] m (some r) Φ) (kk : ∀ m' : Mem, Φ m' → J G sh M mc ms F q L (r :: S) m' (k + c') (n + s')) : J G sh M mc ms F pc L (v11 :: v10 :: v9 :: v8 :: v7 :: v6 :: v5 :: v4 :: v3 :: v2 :: v1 :: v0 :: S) m k n := by
  intro p e s mm args below meth c0 R C H locs ls hP hS hL
  subst hq
  have hrun := va_runS (H := H) (locs := locs) (cells := k) (slots := n) (below := below) (meth := meth) (e := e) (As := [jv G v0, jv G v1, jv G v2, jv G v3, jv G v4, jv G v5, jv G v6, jv G v7, jv G v8, jv G v9, jv G v10, jv G v11]) (rest := S.map (jv G)) (g := F0 mm pc ls ((v11 :: v10 :: v9 :: v8 :: v7 :: v6 :: v5 :: v4 :: v3 :: v2 :: v1 :: v0 :: S).map (jv G))) ⟨C.x, C.b, C.ml, C.own, C.ts⟩ hM ⟨jcb C hi.1 hl hroom, C.ts _ hi.2⟩ ⟨jPc.blind, fun U hU hW => jpre C.sf C.z hP hS hU hW⟩ rfl rfl hL.1 rfl (lv_room (pc := pc) (ls := ls) (m := mm) (rest := (v11 :: v10 :: v9 :: v8 :: v7 :: v6 :: v5 :: v4 :: v3 :: v2 :: v1 :: v0 :: S).map (jv G)) (by rw [jcats_eq]; exact Nat.le_of_ble_eq_true hrest)) hd (by rw [C.room]; exact ⟨hk, hn⟩)
  exact jcallE (r := (some r)) hrun (fun st o t h => h) hS (fun m' hm H1 locs1 h1 h2 => kk m' hm p e s mm args below meth c0 R C H1 locs1 ls h1 h2 hL)
end
theorem CX_at {P : Mem} {v : Int} (h : CX P) : CX (cAT P v) := by
  refine CX_cg h ?_ ?_ (fun j => ?_) <;> unfold cAT <;> rw [up_ne (by omega), up_ne (by omega)]
theorem CX_ai {P : Mem} {f r c : Int} (h : CX P) : CX (cAI P f r c) := fun j a b => by
  have e1 : cAI P f r c 17 0 = P 17 0 + 1 := by unfold cAI; rw [up_at]
  have e2 : cAI P f r c 0 10 = P 0 10 := by unfold cAI; rw [up_ne (by omega), up_ne (by omega), up_ne (by omega), up_ne (by omega)]
  have e3 : cAI P f r c 23 j = P 23 j := by unfold cAI; rw [up_ne (by omega), up_ne (by omega), up_ne (by omega), up_ne (by omega)]
  rw [e2] at b
  rw [e1, e3]
  have := h j a b
  omega
theorem CX_set {P : Mem} {s v : Int} (h : CX P) : CX (up P 1 s v) := CX_cg h (up_ne (by omega)) (up_ne (by omega)) (fun j => up_ne (by omega))
theorem CX_le {P : Mem} {c t k : Int} (h : CX P) : CX (cLeO P c t k) := by
  refine CX_cg h ?_ ?_ (fun j => ?_) <;> simp only [cLeO] <;> rw [up_ne (by omega), up_ne (by omega), up_ne (by omega), up_ne (by omega)]
theorem CX_ren {P : Mem} {c : Int} (h : CX P) : CX (cRpl P c) := by
  unfold cRpl
  refine CX_put (CX_cg h ?_ ?_ (fun j => ?_)) <;> rw [up_ne (by omega), up_ne (by omega), up_ne (by omega)]
theorem CX_mk {P : Mem} {c i k t p : Int} (h : CX P) : CX (cMkP P c i k t p) := by
  refine CX_cg h ?_ ?_ (fun j => ?_) <;> simp only [cMkP] <;> rw [up_ne (by omega), up_ne (by omega), up_ne (by omega), up_ne (by omega), up_ne (by omega)]
theorem mk_10 {P : Mem} {c i k t p : Int} : cMkP P c i k t p 0 10 = P 0 10 := by
  simp only [cMkP]; rw [up_ne (by omega), up_ne (by omega), up_ne (by omega), up_ne (by omega), up_ne (by omega)]
/-- what of the memory the class's own face needs -/
def LB (X : Mem) : Prop := SR X ∧ (1 ≤ X 49 0 ∧ X 49 0 ≤ 6) ∧ TL X ∧ (∀ j, X 50 j < 205) ∧ ∀ c, 205 ≤ c → X c = fun _ => 0
theorem LB_cg {X Y : Mem} (h : LB X) (h49 : Y 49 = X 49) (h50 : Y 50 = X 50) (hT : TL Y) (h5 : ∀ c, 205 ≤ c → Y c = X c) : LB Y := by
  obtain ⟨a, b, c, d, e⟩ := h
  exact ⟨by unfold SR; rw [h50]; exact a, by rw [h49]; exact b, hT, by rw [h50]; exact d, fun c hc => by rw [h5 c hc]; exact e c hc⟩
theorem LB_lz {X : Mem} {z : Z} (h : LB X) : SR (lz X false z) ∧ (0 ≤ lz X false z 49 0 ∧ lz X false z 49 0 ≤ 6) ∧ TL (lz X false z) := by
  obtain ⟨a, b, c, d, e⟩ := h
  have h49 : lz X false z 49 = X 49 := lz_lo (by decide)
  have h50 : lz X false z 50 = X 50 := lz_lo (by decide)
  have h95 : lz X false z 195 = X 195 := lz_lo (by decide)
  have h96 : lz X false z 196 = X 196 := lz_lo (by decide)
  refine ⟨by unfold SR; rw [h50]; exact a, by rw [h49]; omega, ?_⟩
  unfold TL
  rw [h95, h96]
  exact c
/-- a call of the class that keeps the present: what becomes of the memory -/
theorem kM_LB {X P P1 : Mem} {z : Z} (h : LB X) : LB (ps (kM (lz X false z) P) 1 P1) ∧ lz (ps (kM (lz X false z) P) 1 P1) false z = ps (kM (lz X false z) P) 1 P1 := by
  obtain ⟨a1, a2, a3⟩ := LB_lz (z := z) h
  have hi : ∀ c, 195 ≤ c → ps (kM (lz X false z) P) 1 P1 c = lz X false z c := fun c hc => by
    rw [ps_ne (by omega)]
    funext j
    exact kM_o a2 a1 hc
  obtain ⟨b1, b2, b3, b4, b5⟩ := h
  have h49 : lz X false z 49 = X 49 := lz_lo (by decide)
  have h50 : lz X false z 50 = X 50 := lz_lo (by decide)
  generalize hn : ps (lz X false z) 1 P = n
  have n49 : n 49 = X 49 := by rw [← hn, ps_ne (by omega)]; exact h49
  have n50 : n 50 = X 50 := by rw [← hn, ps_ne (by omega)]; exact h50
  have nS : SR n := by unfold SR; rw [n50]; exact b1
  have nz : 0 ≤ n 49 0 ∧ n 49 0 ≤ 6 := by rw [n49]; omega
  have k1 := kp1_SR nS
  have k2 := kp1_s nz
  have k3 : 0 ≤ kp1 n 49 0 ∧ kp1 n 49 0 < 6 := by rw [k2]; split <;> omega
  obtain ⟨r, hr1, hr, hr2, hr3⟩ := okr_PA (k1.1 (kp1 n 49 0) k3.1 k3.2)
  have e50 : kM (lz X false z) P 50 = kp1 n 50 := by
    unfold kM kpS
    rw [hn, up_ne' (by omega), hr1]
    unfold kp2
    rw [ps_ne (by omega)]
  have e49 : kM (lz X false z) P 49 0 = kp1 n 49 0 + 1 := by
    unfold kM kpS
    rw [hn, up_at]
  have q50 : ∀ j, kp1 n 50 j < 205 := fun j => by
    unfold kp1
    split
    · unfold drM
      rw [up_ne (by omega)]
      by_cases w : j = 5
      · rw [w, up_at, n50]; exact b4 0
      · rw [up_ne (by omega)]
        unfold shS
        split
        · rw [n50]; exact b4 _
        · rw [n50]; exact b4 _
    · rw [n50]; exact b4 _
  refine ⟨⟨?_, ?_, ?_, ?_, fun c hc => ?_⟩, ?_⟩
  · have e : ps (kM (lz X false z) P) 1 P1 50 = kp1 n 50 := by rw [ps_ne (by omega), e50]
    unfold SR; rw [e]; exact k1
  · have e : ps (kM (lz X false z) P) 1 P1 49 0 = kp1 n 49 0 + 1 := by rw [ps_ne (by omega), e49]
    rw [e, k2, n49]
    split <;> omega
  · unfold TL
    rw [hi 195 (by decide), hi 196 (by decide)]
    exact a3
  · intro j
    have e : ps (kM (lz X false z) P) 1 P1 50 = kp1 n 50 := by rw [ps_ne (by omega), e50]
    rw [e]; exact q50 j
  · rw [hi c (by omega), lz_ne (fun d hd e => by
      have key : ∀ a : Fin 8, ix false a < 205 := by decide
      have k' : ix false d < 205 := key ⟨d, hd⟩
      omega)]
    exact b5 c hc
  · funext c
    by_cases w : ∃ d, d < 8 ∧ c = ix false d
    · obtain ⟨d, h1, rfl⟩ := w
      have hb := (ix_b false h1).1
      rw [lz_at h1, hi _ (by omega), lz_at h1]
    · exact lz_ne (fun d h1 h2 => w ⟨d, h1, h2⟩)
/-- what the law keeps from act to act -/
def LJ (X P : Mem) (z : Z) (B K H : Int) : Prop := QP (lz X false z) P z 10000 B K ∧ NI z ∧ RT z ∧ LB X ∧ 0 ≤ z 0 ∧ z 0 ≤ H
def LΦ (B K H : Int) (m : Mem) : Prop := ∃ (X P : Mem) (z : Z), m = lz X false z ∧ LJ X P z B K H
theorem LJ_mono {X P : Mem} {z : Z} {B K H B' K' H' : Int} (hB : B ≤ B') (hB2 : B' ≤ 1000000) (hK : K ≤ K') (hK2 : K' ≤ 512) (hH : H ≤ H') (h : LJ X P z B K H) : LJ X P z B' K' H' := by
  obtain ⟨⟨q1, q2, q3⟩, a, b, c, d⟩ := h
  exact ⟨⟨q1, RR_mono hB hB2 hK hK2 q2, q3⟩, a, b, c, by omega⟩
/-- behind a call that keeps the present; the law's row is y then, or later -/
theorem LJ_new {X P P1 : Mem} {z0 y : Z} {B K H : Int} (hb : LB X) (hR : RR P1 y 10000 B K) (hC : CX P1) (hX : LX y) (hZ : LZ y) (hN : NI y) (hr : RT y) (hH : 0 ≤ y 0 ∧ y 0 ≤ H) : LJ (ps (kM (lz X false z0) P) 1 P1) P1 y B K H :=
  ⟨⟨by rw [lz_ps (by decide), ps_ps], hR, hC, hX, hZ⟩, hN, hr, (kM_LB hb).1, hH⟩
theorem QP_z {X P : Mem} {z : Z} {T B K : Int} (Q : QP (lz X false z) P z T B K) (y : Z) : ps (lz X false y) 1 P = lz X false y := by
  have h := Q.1
  rw [lz_ps (by decide)] at h ⊢
  have e : ∀ c, (∀ d, d < 8 → ¬ c = ix false d) → ps X 1 P c = X c := fun c hc => by
    have := congrFun h c
    rw [lz_ne hc, lz_ne hc] at this
    exact this
  exact lz_cg e
/-- rates and heads of the lists stay where the plane's stay -/
theorem RT_cg {z y : Z} (h : RT z) (e1 : y 42 = z 42) (e2 : y 48 = z 48) : RT y := fun i a b => by
  have e : i = 0 ∨ i = 1 := by omega
  rcases e with rfl | rfl
  · show 0 ≤ y 42 ∧ y 42 ≤ 60; rw [e1]; exact h 0 (by decide) (by decide)
  · show 0 ≤ y 48 ∧ y 48 ≤ 60; rw [e2]; exact h 1 (by decide) (by decide)
theorem RT_P {P P1 : Mem} {z y : Z} {d1 d2 : Int → Int} (h : RT z) (hR : RC P z d1) (hR1 : RC P1 y d2) (e : ∀ i, P1 19 i = P 19 i) : RT y := fun i a b => by
  rw [← hR1.ra i a (by omega), e, hR.ra i a (by omega)]
  exact h i a b
theorem NI_P {P P1 : Mem} {z y : Z} {d1 d2 : Int → Int} (h : NI z) (hR : RC P z d1) (hR1 : RC P1 y d2) (e1 : P1 13 0 = P 13 0) (e2 : P1 17 0 = P 17 0) : NI y := by
  unfold NI at h ⊢
  rw [← hR1.tn, ← hR1.im, e1, e2, hR.tn, hR.im]
  exact h

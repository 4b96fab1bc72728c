/-! the law: seven arrays more, at the heap's end -/
/-- the cells with the copies behind them -/
def SHA : List SH := SHP ++ [.inr (0, 64), .inr (0, 64), .inr (0, 16), .inr (0, 9), .inr (0, 12), .inr (0, 48), .inr (0, 15)]
theorem SHP_len : SHP.length = 205 := by decide +kernel
theorem SHA_len : SHA.length = 212 := by decide +kernel
theorem SHA_at {i : Nat} {x : SH} (h : SHP[i]? = some x) : SHA[i]? = some x := by
  have hi : i < SHP.length := (List.getElem?_eq_some_iff.mp h).1
  unfold SHA
  rw [List.getElem?_append_left hi]
  exact h
theorem LA_SHA (p : Bool) : LA SHA p := fun d hd => by
  have e : d = 0 ∨ d = 1 ∨ d = 2 ∨ d = 3 ∨ d = 4 ∨ d = 5 ∨ d = 6 ∨ d = 7 := by omega
  cases p
  · rcases e with rfl | rfl | rfl | rfl | rfl | rfl | rfl | rfl
    · exact SHA_at sh_197
    · exact SHA_at sh_198
    · exact SHA_at sh_199
    · exact SHA_at sh_200
    · exact SHA_at sh_201
    · exact SHA_at sh_202
    · exact SHA_at sh_204
    · exact SHA_at sh_203
  · rcases e with rfl | rfl | rfl | rfl | rfl | rfl | rfl | rfl
    · rfl
    · rfl
    · rfl
    · rfl
    · rfl
    · rfl
    · rfl
    · exact SHA_at sh_203
theorem LA_SHP : LA SHP false := fun d hd => by
  have e : d = 0 ∨ d = 1 ∨ d = 2 ∨ d = 3 ∨ d = 4 ∨ d = 5 ∨ d = 6 ∨ d = 7 := by omega
  rcases e with rfl | rfl | rfl | rfl | rfl | rfl | rfl | rfl
  · exact sh_197
  · exact sh_198
  · exact sh_199
  · exact sh_200
  · exact sh_201
  · exact sh_202
  · exact sh_204
  · exact sh_203
/-- over a heap of this size at the begin -/
def FS (S0 : Nat) (F : FinT) : FinT := fun below args s c meth t => s.heap.size = S0 → F below args s c meth t
/-- an end whose old cells are as told -/
def FA (G : GX) (mc ms : Nat) (r : Option PV) (m' : Mem) : FinT := fun below args s c meth t => ∃ m2 : Mem, (∀ k, k < 205 → m2 k = m' k) ∧ FN G SHA mc ms r m2 below args s c meth t
section
variable {G : GX} {sh : List SH} {M : MI} {mc ms : Nat} {F : FinT} {pc : Nat} {L : List (Option PV)} {S : List PV} {m : Mem} {k n S0 : Nat}
theorem j_fs (kk : J G sh M mc ms F pc L S m k n) : J G sh M mc ms (FS S0 F) pc L S m k n := by
  intro p e s mm args below meth c R C H locs ls hP hS hL
  exact W.imp (fun t h _ => h) (kk p e s mm args below meth c R C H locs ls hP hS hL)
theorem j_fa {r : Option PV} {m1 m2 : Mem} (h : ∀ k, k < 205 → m2 k = m1 k) (kk : J G sh M mc ms (FN G SHA mc ms r m2) pc L S m k n) : J G sh M mc ms (FA G mc ms r m1) pc L S m k n := by
  intro p e s mm args below meth c R C H locs ls hP hS hL
  exact W.imp (fun t w => ⟨m2, h, w⟩) (kk p e s mm args below meth c R C H locs ls hP hS hL)
/-- a new array at the heap's end -/
theorem j_newS {q r N : Nat} {v : Int} (hg : ∀ i, gA G (205 + i) = S0 + i) (hlen : sh.length = 205 + k) (hap : jAp G 212) (hb : k < 7) (hr : 205 + k = r) (hd : decode (mB M) pc = .ok (.newarray .int, 2)) (hq : pc + 2 = q) (hv : wr v = (N : Int)) (hN : N ≤ 20000) (hz : m r = fun _ => 0) (hk : k + 1 ≤ mc) (hs : n + N ≤ ms) (kk : J G (sh ++ [.inr (0, N)]) M mc ms (FS S0 F) q L (.inr (.ref r) :: S) m (k + 1) (n + N)) : J G sh M mc ms (FS S0 F) pc L (.inl v :: S) m k n := by
  intro p e s mm args below meth c R C H locs ls hP hS hL
  by_cases h0 : s.heap.size = S0
  · intro T hT X
    have h1 := X.heapSize
    rw [hT] at h1
    have h2 : S0 + k ≤ H.size := by
      rcases Nat.eq_zero_or_pos k with w | w
      · have := hS.1; omega
      · have h3 := (hP (sh.length - 1) _ (jws_at (List.getElem?_eq_getElem (by omega)))).lt
        have h4 : gA G (sh.length - 1) < H.size := h3
        rw [show sh.length - 1 = 205 + (k - 1) by omega, hg] at h4; omega
    have hH : H.size = S0 + k := by omega
    refine (?_ : W p (gL G) e R s mm args below meth c H locs k n (FS S0 F below args s c meth) (F0 mm pc ls ((.inl v :: S).map (jv G)))) T hT X
    subst hq
    have er : gA G r = S0 + k := by rw [← hr]; exact hg k
    have f0 : (jI v).toInt = (N : Int) := hv
    refine va_newaK (atype := .int) C.x C.b (C.ts _ jw_75) rfl hd rfl (fun h => ?_) (N := N) (by show (jI v).toInt.toNat = N; rw [f0]; rfl) (by show N * 4 ≤ 536870912; omega) (by rw [C.room]; exact hk) (by rw [C.room]; exact hs) hH fun H1 cA e1 z1 o1 hAr hNm => ?_
    · have := Int32.lt_iff_toInt_lt.mp h
      rw [f0] at this
      exact absurd this (by show ¬ (N : Int) < 0; omega)
    have hcA : gC G 0 = cA := Option.some.inj ((C.k.2 0 _ rfl).2.symm.trans hNm)
    have hP1 : va_P (gD G) vwCl (jws G (sh ++ [.inr (0, N)]) m) H1 := by
      refine jP_push hP (fun q hq => o1 q (by omega)) ?_
      rw [hlen, hr, er]
      show H1[S0 + k]? = some (vp_cell (gC G 0) (N, .inl (fun i => jI (m r (i : Int)))))
      rw [e1, vp_cell_i, hcA, hz]
      rfl
    have hS1 : va_S (jA G) s.heap H1 locs := ⟨by have := hS.1; omega, fun q a c => (o1 q (by have := hS.1; omega)).trans (hS.2.1 q a c), hS.2.2⟩
    have hap1 : jAp G (sh ++ [(.inr (0, N) : SH)]).length := by
      have e : (sh ++ [(.inr (0, N) : SH)]).length = 205 + k + 1 := by rw [List.length_append, hlen]; rfl
      rw [e]
      exact ⟨fun i j a b => hap.1 i j (by omega) (by omega), fun i a => hap.2 i (by omega)⟩
    have w := kk p e s mm args below meth c R ⟨C.x, C.b, C.r, C.ml, C.own, C.lk, C.ts, C.sf, C.z, hap1, C.fl, C.room⟩ H1 locs ls hP1 hS1 hL
    have e2 : jv G (.inr (.ref r)) = .ref (S0 + k) := by show Value.ref (gA G r) = _; rw [er]
    rw [List.map_cons, e2] at w
    exact w
  · exact W.no (fun t h => absurd h h0)
end
/-- what of a cell's shape points elsewhere points among the old cells -/
def okx : SH → Bool
  | .inl (_, ks) => ks.all (fun k => match k with
    | .inl _ => true
    | .inr r => decide (r < 205))
  | .inr _ => true
theorem okx_P : ∀ x, x ∈ SHP → okx x = true := fun x hx => List.all_eq_true.mp (show SHP.all okx = true by decide +kernel) x hx
theorem jel_cg {G G' : GX} {x : SH} {f : Int → Int} (gc : gC G' = gC G) (ga : ∀ k, k < 205 → gA G' k = gA G k) (hx : okx x = true) (hf : ∀ t N, x = .inr (t + 2, N) → ∀ j, f j < 205) : jel G' x f = jel G x f := by
  rcases x with ⟨ci, ks⟩ | ⟨t, N⟩
  · have hk : ∀ j, jfv G' (ks.getD j (.inl 0)) (f (j : Int)) = jfv G (ks.getD j (.inl 0)) (f (j : Int)) := fun j => by
      by_cases hj : j < ks.length
      · have e : ks.getD j (.inl 0) = ks[j] := by simp [List.getD, List.getElem?_eq_getElem hj]
        have w := List.all_eq_true.mp hx ks[j] (List.getElem_mem hj)
        rw [e]
        revert w
        generalize ks[j] = y
        intro w
        rcases y with a | r
        · match a with
          | 0 => rfl
          | 1 => rfl
          | _ + 2 => rfl
        · show Value.ref (gA G' r) = Value.ref (gA G r)
          rw [ga r (of_decide_eq_true w)]
      · have e : ks.getD j (.inl 0) = .inl 0 := by simp [List.getD, List.getElem?_eq_none (by omega : ks.length ≤ j)]
        rw [e]; rfl
    show Sum.inr (ci, jfl G' ks f) = Sum.inr (ci, jfl G ks f)
    unfold jfl
    rw [List.map_congr_left (fun j _ => hk j)]
  · match t with
    | 0 => show Sum.inl (gC G' 0, N, _) = Sum.inl (gC G 0, N, _); rw [gc]
    | 1 => show Sum.inl (gC G' 1, N, _) = Sum.inl (gC G 1, N, _); rw [gc]
    | t + 2 =>
      show Sum.inl (gC G' 2, N, _) = Sum.inl (gC G 2, N, _)
      rw [gc]
      have e : (fun i : Nat => jrf G' (f (i : Int))) = fun i : Nat => jrf G (f (i : Int)) := by
        funext i
        unfold jrf
        by_cases q : f (i : Int) < 0
        · rw [if_pos q, if_pos q]
        · rw [if_neg q, if_neg q]
          have w := hf t N rfl (i : Int)
          rw [ga _ (by omega)]
      rw [e]
theorem ref_P : ∀ (i : Nat) (t N : Nat), SHP[i]? = some (.inr (t + 2, N)) → i = 50 := by
  intro i t N h
  have hi : i < 205 := (List.getElem?_eq_some_iff.mp h).1
  have key : (List.range 205).all (fun i => match SHP[i]? with
    | some (.inr (_ + 2, _)) => i == 50
    | _ => true) = true := by decide +kernel
  have w := List.all_eq_true.mp key i (List.mem_range.mpr hi)
  rw [h] at w
  exact of_decide_eq_true w
theorem jws_cg {G G' : GX} {n : Mem} (gc : gC G' = gC G) (ga : ∀ k, k < 205 → gA G' k = gA G k) (h : ∀ j, n 50 j < 205) : jws G' SHP n = jws G SHP n := by
  apply List.ext_getElem?
  intro i
  by_cases hi : i < SHP.length
  · have hx := List.getElem?_eq_getElem hi
    rw [jws_at hx, jws_at hx, ga i (by rw [SHP_len] at hi; exact hi), jel_cg gc ga (okx_P _ (List.getElem_mem hi)) (fun t N e j => by
      have q := ref_P i t N (by rw [hx, e])
      rw [q]; exact h j)]
  · rw [List.getElem?_eq_none (by rw [jws_len]; omega), List.getElem?_eq_none (by rw [jws_len]; omega)]
theorem jws_m {G : GX} {sh : List SH} {m n : Mem} (h : ∀ k, k < sh.length → m k = n k) : jws G sh m = jws G sh n := by
  apply List.ext_getElem?
  intro i
  by_cases hi : i < sh.length
  · rw [jws_at (List.getElem?_eq_getElem hi), jws_at (List.getElem?_eq_getElem hi), h i hi]
  · rw [List.getElem?_eq_none (by rw [jws_len]; omega), List.getElem?_eq_none (by rw [jws_len]; omega)]
/-- a contract speaks of its cells alone -/
theorem ct_m {G : GX} {sh : List SH} {M : MI} {mc ms : Nat} {a : List PV} {m n m' n' : Mem} {r : Option PV} (h : CT G sh M mc ms a m r m') (e : ∀ k, k < sh.length → m k = n k) (e' : ∀ k, k < sh.length → m' k = n' k) : CT G sh M mc ms a n r n' := by
  unfold CT jPc jQc at h ⊢
  rw [jws_m e, jws_m e'] at h
  exact h
theorem ct_ah {G : GX} {M : MI} {a : List PV} {m m' : Mem} {v : Int} {L0 : List (Option PV)} (hy : plainName (mY M).cls = true) (hap : jAp G 205) (hfl : (gL G).flags = flags0) (hL0 : jent (mL M) a = L0) (hlen : (jent1 a).length ≤ mL M) (ha : ∀ G' : GX, (∀ k, k < 205 → gA G' k = gA G k) → a.map (jv G') = a.map (jv G)) (h50 : ∀ j, m 50 j < 205) (h50' : ∀ j, m' 50 j < 205) (body : ∀ (G' : GX) (S0 : Nat), (gL G').flags = flags0 → jAp G' 212 → (∀ i, gA G' (205 + i) = S0 + i) → J G' SHP M 7 228 (FS S0 (FA G' 7 228 (some (.inl v)) m')) 0 L0 [] m 0 0) : CT G SHP M 7 228 a m (some (.inl v)) m' := by
  refine Met.ofW hy rfl ?_
  intro p e s mm args below meth c s1 B hml hP
  obtain ⟨rfl, h1, h2, h3⟩ := hP
  have hts0 := atoms_spec (ws := Cond.code (mY M) (mB M) (mL M) (mR M) :: jall) B.pre
  rw [lg_entry_eq]
  obtain ⟨G', g1, g2, g3, g4, g5, g6, g7⟩ : ∃ G' : GX, gL G' = gL G ∧ gD G' = gD G ∧ gC G' = gC G ∧ gZ G' = gZ G ∧ gE G' = gE G ∧ (∀ k, k < 205 → gA G' k = gA G k) ∧ ∀ i, gA G' (205 + i) = s.heap.size + i :=
    ⟨(gL G, gD G, gC G, gZ G, gE G, fun k => if k < 205 then gA G k else s.heap.size + (k - 205)), rfl, rfl, rfl, rfl, rfl, fun k h => if_pos h, fun i => by
      show (if 205 + i < 205 then _ else _) = _
      rw [if_neg (by omega)]; omega⟩
  have hlt : ∀ k, k < 205 → gA G k < s.heap.size := fun k hk => (h3 k _ (jws_at (List.getElem?_eq_getElem (by rw [SHP_len]; exact hk)))).lt
  have gk : ∀ k, 205 ≤ k → gA G' k = s.heap.size + (k - 205) := fun k hk => by have := g7 (k - 205); rw [show 205 + (k - 205) = k by omega] at this; exact this
  have ap' : jAp G' 212 := by
    refine ⟨fun i j hi hj w => ?_, fun i hi => ?_⟩
    · by_cases a1 : i < 205
      · by_cases a2 : j < 205
        · rw [g6 i a1, g6 j a2] at w; exact hap.1 i j a1 a2 w
        · rw [g6 i a1, gk j (by omega)] at w; have := hlt i a1; omega
      · by_cases a2 : j < 205
        · rw [g6 j a2, gk i (by omega)] at w; have := hlt j a2; omega
        · rw [gk i (by omega), gk j (by omega)] at w; omega
    · rw [g4]
      by_cases a1 : i < 205
      · rw [g6 i a1]; exact hap.2 i a1
      · rw [gk i (by omega)]; omega
  have hA : jA G' = jA G := by unfold jA; rw [g4]
  have sf' : jSF G' s := by
    have e : jSF G' s = jSF G s := by unfold jSF jGF jty; rw [hA, g2, g3, g5]
    rw [e]; exact h1
  have hP' : va_P (gD G') vwCl (jws G' SHP m) s.heap := by rw [g2, jws_cg g3 g6 h50]; exact h3
  rw [← g1]
  refine W.imp (fun t h => ?_) (body G' s.heap.size (by rw [g1]; exact hfl) ap' g7 p e s mm _ below meth c _ ⟨B.exec, B.bytes, B.returns, hml, findClass_of_methodNamed B.named, B.notSynchronized, fun w hw => hts0 w (List.mem_cons_of_mem _ hw), sf', by rw [g4]; exact h2, ⟨fun i j a1 a2 => ap'.1 i j (by rw [SHP_len] at a1; omega) (by rw [SHP_len] at a2; omega), fun i a1 => ap'.2 i (by rw [SHP_len] at a1; omega)⟩, by rw [g1]; exact hfl, rfl⟩ s.heap [] _ hP' va_S.rf ?_)
  · obtain ⟨m2, q1, o, c1, c2, ⟨d1, d2, d3⟩, L, e1, e2⟩ := h rfl
    refine ⟨o, c1, c2, ⟨d1, ?_, by rw [← hA]; exact d3⟩, L, e1, fun q hq => by rw [← hA]; exact e2 q hq⟩
    rw [← jws_cg g3 g6 h50', ← g2]
    intro k q hq
    have hk : k < SHP.length := by
      have := (List.getElem?_eq_some_iff.mp hq).1
      rwa [jws_len] at this
    have hx := List.getElem?_eq_getElem hk
    rw [jws_at hx] at hq
    refine d2 k q ?_
    rw [jws_at (SHA_at hx), q1 k (by rw [SHP_len] at hk; exact hk)]
    exact hq
  · rw [← hL0, jent_jl, ha G' g6]
    exact lv_entry _ (by rw [jent1_len]; exact hlen)

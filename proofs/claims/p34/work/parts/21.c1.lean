/-! the class: its cores, debts -/
/-- a memory whose plane at b is P -/
def ps (m : Mem) (b : Nat) (P : Mem) : Mem := fun k => if b ≤ k ∧ k < b + 24 then P (k - b) else m k
theorem ps_at {m P : Mem} {b d : Nat} (h : d < 24) : ps m b P (b + d) = P d := by
  unfold ps; rw [if_pos (by omega), show b + d - b = d by omega]
theorem ps_ne {m P : Mem} {b c : Nat} (h : ¬ (b ≤ c ∧ c < b + 24)) : ps m b P c = m c := if_neg h
theorem up_ps {m P : Mem} {b d : Nat} {i v : Int} (h : d < 24) : up (ps m b P) (b + d) i v = ps m b (up P d i v) := by
  funext k j
  unfold up ps
  by_cases hk : b ≤ k ∧ k < b + 24
  · rw [if_pos hk]
    by_cases h2 : k = b + d ∧ j = i
    · rw [if_pos h2, if_pos hk]; dsimp only; rw [if_pos (by omega)]
    · rw [if_neg h2, if_pos hk]; dsimp only; rw [if_neg (by omega)]
  · rw [if_neg (by omega), if_neg hk]
    rw [if_neg hk]
theorem up_psn {m P : Mem} {b c : Nat} {i v : Int} (h : ¬ (b ≤ c ∧ c < b + 24)) : up (ps m b P) c i v = ps (up m c i v) b P := by
  funext k j
  unfold up ps
  by_cases hk : b ≤ k ∧ k < b + 24
  · rw [if_neg (by omega), if_pos hk]; rw [if_pos hk]
  · rw [if_neg hk]
    by_cases h2 : k = c ∧ j = i
    · rw [if_pos h2, if_neg hk]; dsimp only; rw [if_pos h2]
    · rw [if_neg h2, if_neg hk]; dsimp only; rw [if_neg h2]
theorem ps_ps {m P Q : Mem} {b : Nat} : ps (ps m b P) b Q = ps m b Q := by
  funext k
  unfold ps
  by_cases hk : b ≤ k ∧ k < b + 24 <;> simp [hk]
def pg (m : Mem) (b : Nat) : Mem := fun d => m (b + d)
theorem ps_pg {m : Mem} {b : Nat} : ps m b (pg m b) = m := by
  funext k
  unfold ps pg
  by_cases hk : b ≤ k ∧ k < b + 24
  · rw [if_pos hk, show b + (k - b) = k by omega]
  · rw [if_neg hk]
section
variable {G : GX} {sh : List SH} {M : MI} {mc ms : Nat} {F : FinT} {pc : Nat} {L : List (Option PV)} {S : List PV} {m P : Mem} {b : Nat} {k n : Nat}
theorem j_pload {c d n0 q : Nat} {i i' : Int} (hc : c = b + d) (hl : d < 24) (hd : decode (mB M) pc = .ok (.iaload, 1)) (hq : pc + 1 = q) (hs : sh[c]? = some (.inr (0, n0))) (hi : wr i = i') (h0 : 0 ≤ i') (h1 : i' < n0) (kk : J G sh M mc ms F q L (.inl (P d i') :: S) (ps m b P) k n) : J G sh M mc ms F pc L (.inl i :: .inr (.ref c) :: S) (ps m b P) k n := by
  subst hc; exact j_iaload hd hq hs hi h0 h1 (by rw [ps_at hl]; exact kk)
theorem j_pstore {c d n0 q : Nat} {i i' v : Int} (hc : c = b + d) (hl : d < 24) (hd : decode (mB M) pc = .ok (.iastore, 1)) (hq : pc + 1 = q) (hs : sh[c]? = some (.inr (0, n0))) (hi : wr i = i') (h0 : 0 ≤ i') (h1 : i' < n0) (kk : J G sh M mc ms F q L S (ps m b (up P d i' v)) k n) : J G sh M mc ms F pc L (.inl v :: .inl i :: .inr (.ref c) :: S) (ps m b P) k n := by
  subst hc; exact j_iastore hd hq hs hi h0 h1 (by rw [up_ps hl]; exact kk)
theorem j_pgetI {c d ci idx q : Nat} (hc : c = b + d) (hl : d < 24) (j : Nat) {j' : Int} {ks : List (Nat ⊕ Nat)} (hd : decode (mB M) pc = .ok (.getfield idx, 3)) (hq : pc + 3 = q) (hf : FL (mY M).cls idx ci j) (hs : sh[c]? = some (.inl (ci, ks))) (hk : ks[j]? = some (.inl 0)) (hj : (j : Int) = j') (kk : J G sh M mc ms F q L (.inl (P d j') :: S) (ps m b P) k n) : J G sh M mc ms F pc L (.inr (.ref c) :: S) (ps m b P) k n := by
  subst hc; exact j_getI j hd hq hf hs hk hj (by rw [ps_at hl]; exact kk)
theorem j_pputI {c d ci idx q : Nat} {v : Int} (hc : c = b + d) (hl : d < 24) (j : Nat) {j' : Int} {ks : List (Nat ⊕ Nat)} (hd : decode (mB M) pc = .ok (.putfield idx, 3)) (hq : pc + 3 = q) (hf : FW (mY M).cls idx ci j .int) (hs : sh[c]? = some (.inl (ci, ks))) (hk : ks[j]? = some (.inl 0)) (hj : (j : Int) = j') (kk : J G sh M mc ms F q L S (ps m b (up P d j' v)) k n) : J G sh M mc ms F pc L (.inl v :: .inr (.ref c) :: S) (ps m b P) k n := by
  subst hc; exact j_putI j hd hq hf hs hk hj (by rw [up_ps hl]; exact kk)
theorem j_pgetL {c d ci idx q : Nat} (hc : c = b + d) (hl : d < 24) (j : Nat) {j' : Int} {ks : List (Nat ⊕ Nat)} (hd : decode (mB M) pc = .ok (.getfield idx, 3)) (hq : pc + 3 = q) (hf : FL (mY M).cls idx ci j) (hs : sh[c]? = some (.inl (ci, ks))) (hk : ks[j]? = some (.inl 1)) (hj : (j : Int) = j') (kk : J G sh M mc ms F q L (.inr (.long (lo (P d j'))) :: S) (ps m b P) k n) : J G sh M mc ms F pc L (.inr (.ref c) :: S) (ps m b P) k n := by
  subst hc; exact j_getL j hd hq hf hs hk hj (by rw [ps_at hl]; exact kk)
theorem j_pputL {c d ci idx q : Nat} {v : Int64} (hc : c = b + d) (hl : d < 24) (j : Nat) {j' : Int} {ks : List (Nat ⊕ Nat)} (hd : decode (mB M) pc = .ok (.putfield idx, 3)) (hq : pc + 3 = q) (hf : FW (mY M).cls idx ci j .long) (hs : sh[c]? = some (.inl (ci, ks))) (hk : ks[j]? = some (.inl 1)) (hj : (j : Int) = j') (kk : J G sh M mc ms F q L S (ps m b (up P d j' v.toInt)) k n) : J G sh M mc ms F pc L (.inr (.long v) :: .inr (.ref c) :: S) (ps m b P) k n := by
  subst hc; exact j_putL j hd hq hf hs hk hj (by rw [up_ps hl]; exact kk)
theorem j_qload {c n0 q : Nat} {i i' : Int} (hc : ¬ (b ≤ c ∧ c < b + 24)) (hd : decode (mB M) pc = .ok (.iaload, 1)) (hq : pc + 1 = q) (hs : sh[c]? = some (.inr (0, n0))) (hi : wr i = i') (h0 : 0 ≤ i') (h1 : i' < n0) (kk : J G sh M mc ms F q L (.inl (m c i') :: S) (ps m b P) k n) : J G sh M mc ms F pc L (.inl i :: .inr (.ref c) :: S) (ps m b P) k n :=
  j_iaload hd hq hs hi h0 h1 (by rw [ps_ne hc]; exact kk)
theorem j_qstore {c n0 q : Nat} {i i' v : Int} (hc : ¬ (b ≤ c ∧ c < b + 24)) (hd : decode (mB M) pc = .ok (.iastore, 1)) (hq : pc + 1 = q) (hs : sh[c]? = some (.inr (0, n0))) (hi : wr i = i') (h0 : 0 ≤ i') (h1 : i' < n0) (kk : J G sh M mc ms F q L S (ps (up m c i' v) b P) k n) : J G sh M mc ms F pc L (.inl v :: .inl i :: .inr (.ref c) :: S) (ps m b P) k n :=
  j_iastore hd hq hs hi h0 h1 (by rw [up_psn hc]; exact kk)
theorem j_qgetI {c ci idx q : Nat} (hc : ¬ (b ≤ c ∧ c < b + 24)) (j : Nat) {j' : Int} {ks : List (Nat ⊕ Nat)} (hd : decode (mB M) pc = .ok (.getfield idx, 3)) (hq : pc + 3 = q) (hf : FL (mY M).cls idx ci j) (hs : sh[c]? = some (.inl (ci, ks))) (hk : ks[j]? = some (.inl 0)) (hj : (j : Int) = j') (kk : J G sh M mc ms F q L (.inl (m c j') :: S) (ps m b P) k n) : J G sh M mc ms F pc L (.inr (.ref c) :: S) (ps m b P) k n :=
  j_getI j hd hq hf hs hk hj (by rw [ps_ne hc]; exact kk)
theorem j_qgetL {c ci idx q : Nat} (hc : ¬ (b ≤ c ∧ c < b + 24)) (j : Nat) {j' : Int} {ks : List (Nat ⊕ Nat)} (hd : decode (mB M) pc = .ok (.getfield idx, 3)) (hq : pc + 3 = q) (hf : FL (mY M).cls idx ci j) (hs : sh[c]? = some (.inl (ci, ks))) (hk : ks[j]? = some (.inl 1)) (hj : (j : Int) = j') (kk : J G sh M mc ms F q L (.inr (.long (lo (m c j'))) :: S) (ps m b P) k n) : J G sh M mc ms F pc L (.inr (.ref c) :: S) (ps m b P) k n :=
  j_getL j hd hq hf hs hk hj (by rw [ps_ne hc]; exact kk)
theorem j_qputI {c ci idx q : Nat} {v : Int} (hc : ¬ (b ≤ c ∧ c < b + 24)) (j : Nat) {j' : Int} {ks : List (Nat ⊕ Nat)} (hd : decode (mB M) pc = .ok (.putfield idx, 3)) (hq : pc + 3 = q) (hf : FW (mY M).cls idx ci j .int) (hs : sh[c]? = some (.inl (ci, ks))) (hk : ks[j]? = some (.inl 0)) (hj : (j : Int) = j') (kk : J G sh M mc ms F q L S (ps (up m c j' v) b P) k n) : J G sh M mc ms F pc L (.inl v :: .inr (.ref c) :: S) (ps m b P) k n :=
  j_putI j hd hq hf hs hk hj (by rw [up_psn hc]; exact kk)
theorem max_i (x y : Int) : (if jI x < jI y then jI y else jI x) = jI (if wr x < wr y then y else x) := by
  by_cases h : wr x < wr y
  · rw [if_pos h, if_pos (Int32.lt_iff_toInt_lt.mpr h)]
  · rw [if_neg h, if_neg (fun q => h (Int32.lt_iff_toInt_lt.mp q))]
theorem min_i (x y : Int) : (if jI y < jI x then jI y else jI x) = jI (if wr y < wr x then y else x) := by
  by_cases h : wr y < wr x
  · rw [if_pos h, if_pos (Int32.lt_iff_toInt_lt.mpr h)]
  · rw [if_neg h, if_neg (fun q => h (Int32.lt_iff_toInt_lt.mp q))]
theorem j_max {x y : Int} {idx q : Nat} {sh : List SH} {m : Mem} (hd : decode (mB M) pc = .ok (.invokestatic idx, 3)) (hq : pc + 3 = q) (hl : Cond.methodLink (mY M).cls idx Lib.Math.max.name ∈ jall) (hroom : 1 ≤ mF M ∧ jcats S + 13 ≤ mW M) (hk : k ≤ mc) (hn : n ≤ ms) (kk : J G sh M mc ms F q L (.inl (if wr x < wr y then y else x) :: S) m k n) : J G sh M mc ms F pc L (.inl y :: .inl x :: S) m k n := by
  intro p e s mm args below meth c0 R C H locs ls hP hS hL
  subst hq
  have h := kk p e s mm args below meth c0 R C H locs ls hP hS hL
  refine va_mmax C.x C.b (C.ml.trans hL.1.symm) C.own (C.ts _ hl) (C.ts _ jw_506) (C.ts _ jw_8) (C.ts _ jw_507) (by rw [C.room]; exact hroom.1) (by rw [jcats_eq, C.room]; exact hroom.2) (by rw [C.room]; exact hk) (by rw [C.room]; exact hn) hd ?_
  rw [max_i]
  exact h
theorem j_min {x y : Int} {idx q : Nat} {sh : List SH} {m : Mem} (hd : decode (mB M) pc = .ok (.invokestatic idx, 3)) (hq : pc + 3 = q) (hl : Cond.methodLink (mY M).cls idx Lib.Math.min.name ∈ jall) (hroom : 1 ≤ mF M ∧ jcats S + 13 ≤ mW M) (hk : k ≤ mc) (hn : n ≤ ms) (kk : J G sh M mc ms F q L (.inl (if wr y < wr x then y else x) :: S) m k n) : J G sh M mc ms F pc L (.inl y :: .inl x :: S) m k n := by
  intro p e s mm args below meth c0 R C H locs ls hP hS hL
  subst hq
  have h := kk p e s mm args below meth c0 R C H locs ls hP hS hL
  refine va_mmin C.x C.b (C.ml.trans hL.1.symm) C.own (C.ts _ hl) (C.ts _ jw_164) (C.ts _ jw_8) (C.ts _ jw_165) (by rw [C.room]; exact hroom.1) (by rw [jcats_eq, C.room]; exact hroom.2) (by rw [C.room]; exact hk) (by rw [C.room]; exact hn) hd ?_
  rw [min_i]
  exact h
end
def msk (c : Int) : Int64 := lS 1 c
def tb (x : Int64) (c : Int) : Bool := decide (¬ x &&& msk c = 0)
def lin (c : Int) : Int64 := (lS 255 (c / 8 * 8) ||| lS 72340172838076673 (c % 8)) &&& (msk c ^^^ -1)
def kF (p : Int → Bool) : Nat → Int → Int64 → Int64
  | 0, _, x => x
  | d + 1, c, x => kF p d (c + 1) (if p c = true then x ||| msk c else x)
def cOne (P : Mem) (c : Int) : Bool := tb (lo (P 3 0)) c
def cPut (P : Mem) (c : Int) (b : Bool) : Mem := up P 3 0 (if b = true then lo (P 3 0) ||| msk c else lo (P 3 0) &&& (msk c ^^^ -1)).toInt
def cLs (P : Mem) (c : Int) : Bool := decide (¬ wr (P 5 c) = -1)
def cHp (P : Mem) (c : Int) : Bool := decide (¬ wr (P 7 c) = -1)
def cEp (P : Mem) (c : Int) : Mem := up P 7 c (-1)
def cEl (P : Mem) (c : Int) : Mem := cEp (up P 5 c (-1)) c
def cLsF (P : Mem) (t : Int) : Int64 := kF (fun c => decide (wr (P 5 c) = wr t)) 64 0 0
def cInF (P : Mem) : Int64 := kF (cHp P) 64 0 0
def cBel (P : Mem) (l : Int) : Int64 := kF (fun c => decide (wr (P 4 c) < wr l) && cOne P c) 64 0 0
def cInB (P : Mem) (i : Int) : Int := cntF (fun c => decide (wr (P 7 c) = wr i)) 64 0 0
def cWk (P : Mem) (a b : Int) : Bool := if wi a 0 63 = true ∧ wi b 0 63 = true then decide (wr (P 4 a) < wr (P 4 b) ∨ wr (P 4 a) = wr (P 4 b) ∧ a < b) else decide (a = -1)
def cNwF (P : Mem) (b : Int) : Nat → Int → Int → Int
  | 0, _, n => n
  | d + 1, c, n => cNwF P b d (c + 1) (if cWk P b c = true ∧ (n = -1 ∨ cWk P c n = true) then c else n)
def cNw (P : Mem) (b : Int) : Int := cNwF P b 64 0 (-1)
def cOw (P : Mem) (c : Int) : Bool := decide (¬ wr (P 12 c) = -1)
def cDu (P : Mem) (c : Int) : Int := if wi c 0 63 = true then P 12 c else -1
def cFi (P : Mem) : Int := if 0 < wr (P 10 0) then P 11 0 else -1
def cEnF (c t : Int) : Nat → Mem → Mem
  | 0, P => up P 11 ((0 : Nat) : Int) c
  | k + 1, P => if wr t < wr (cDu P (P 11 (k : Int))) then cEnF c t k (up P 11 ((k + 1 : Nat) : Int) (P 11 (k : Int))) else up P 11 ((k + 1 : Nat) : Int) c
def cEnt (P : Mem) (c t : Int) : Mem := if 64 ≤ P 10 0 ∨ cOw P c = true then P else
  let P2 := up (cEnF c t (P 10 0).toNat P) 12 c t
  up P2 10 0 (P2 10 0 + 1)
def cStF (c : Int) : Nat → Int → Int → Mem → Mem × Int
  | 0, _, k, P => (P, k)
  | d + 1, i, k, P => if wr (P 11 i) = wr c then cStF c d (i + 1) k P else cStF c d (i + 1) (k + 1) (up P 11 k (P 11 i))
def cStr (P : Mem) (c : Int) : Mem := if cOw P c = true then up (up (cStF c (P 10 0).toNat 0 0 P).1 12 c (-1)) 10 0 (cStF c (P 10 0).toNat 0 0 P).2 else P
/-- the debts' order holds cores -/
def CD (P : Mem) : Prop := (0 ≤ P 10 0 ∧ P 10 0 ≤ 64) ∧ ∀ j, 0 ≤ j → j < P 10 0 → 0 ≤ P 11 j ∧ P 11 j < 64
theorem ct_X7_within {G : GX} {sh : List SH} (E : EV G sh) {m : Mem} {v : Int} {a : Int} {b : Int} (h1 : -2147483648 ≤ v ∧ v < 2147483648) (h2 : -2147483648 ≤ a ∧ a < 2147483648) (h3 : -2147483648 ≤ b ∧ b < 2147483648) : CT G sh iX7_within 0 0 [.inl v, .inl a, .inl b] (m) (some (.inl (bI (wi v a b)))) (m) := by
  refine j_met (L0 := [some (.inl v), some (.inl a), some (.inl b)]) (by decide) E.1 E.2.1 rfl (Nat.le_of_ble_eq_true rfl) ?_
  refine j_iload1 (q := 1) dX7_within_0 rfl ?_
  refine j_iload0 (q := 2) dX7_within_1 rfl ?_
  refine j_icmp_gt (tgt := 14) (q := 5) dX7_within_2 (by decide) rfl (by first | exact wr_id' (by omega) (by omega) | with_reducible exact wr_bI _ | exact rfl) (by first | exact wr_id' (by omega) (by omega) | with_reducible exact wr_bI _ | exact rfl) (fun h2 => ?_) (fun h2 => ?_)
  · refine j_iconst (q := 15) dX7_within_14 rfl ?_
    exact j_zreturn dX7_within_15 rfl (by decide) (by first | exact bI_t (by omega) | exact bI_f (by omega) | simp [bI, *]) (rfl)
  · refine j_iload0 (q := 6) dX7_within_5 rfl ?_
    refine j_iload2 (q := 7) dX7_within_6 rfl ?_
    refine j_icmp_gt (tgt := 14) (q := 10) dX7_within_7 (by decide) rfl (by first | exact wr_id' (by omega) (by omega) | with_reducible exact wr_bI _ | exact rfl) (by first | exact wr_id' (by omega) (by omega) | with_reducible exact wr_bI _ | exact rfl) (fun h7 => ?_) (fun h7 => ?_)
    · refine j_iconst (q := 15) dX7_within_14 rfl ?_
      exact j_zreturn dX7_within_15 rfl (by decide) (by first | exact bI_t (by omega) | exact bI_f (by omega) | simp [bI, *]) (rfl)
    · refine j_iconst (q := 11) dX7_within_10 rfl ?_
      refine j_goto (tgt := 15) dX7_within_11 (by decide) ?_
      exact j_zreturn dX7_within_15 rfl (by decide) (by first | exact bI_t (by omega) | exact bI_f (by omega) | simp [bI, *]) (rfl)
theorem ct_X7_isCore {G : GX} {sh : List SH} (E : EV G sh) {m : Mem} {c : Int} (h1 : -2147483648 ≤ c ∧ c < 2147483648) : CT G sh iX7_isCore 0 0 [.inl c] (m) (some (.inl (bI (wi c 0 63)))) (m) := by
  refine j_met (L0 := [some (.inl c)]) (by decide) E.1 E.2.1 rfl (Nat.le_of_ble_eq_true rfl) ?_
  refine j_iload0 (q := 1) dX7_isCore_0 rfl ?_
  refine j_iconst (q := 2) dX7_isCore_1 rfl ?_
  refine j_bipush (q := 4) dX7_isCore_2 rfl rfl ?_
  refine j_callS3 (Mc := iX7_within) (q := 7) (c' := 0) (s' := 0) dX7_isCore_4 rfl kS_X7_within jw_263 ⟨by decide, by decide⟩ rfl (Nat.le_refl _) (Nat.le_refl _) (ct_X7_within E (by omega) (by omega) (by omega)) ?_
  exact j_zreturn dX7_isCore_7 rfl (bI_01 _) (rfl) (rfl)
theorem ct_X7_maskOf {G : GX} {sh : List SH} (E : EV G sh) {m : Mem} {c : Int} : CT G sh iX7_maskOf 0 0 [.inl c] (m) (some (.inr (.long (msk c)))) (m) := by
  refine j_met (L0 := [some (.inl c)]) (by decide) E.1 E.2.1 rfl (Nat.le_of_ble_eq_true rfl) ?_
  refine j_lconst (q := 1) (x := 1) dX7_maskOf_0 rfl rfl ?_
  refine j_iload0 (q := 2) dX7_maskOf_1 rfl ?_
  refine j_lshl (q := 3) dX7_maskOf_2 rfl ?_
  exact j_lreturn dX7_maskOf_3 rfl (rfl) (rfl)
theorem ct_X7_linesOf {G : GX} {sh : List SH} (E : EV G sh) {m : Mem} {c : Int} (h1 : 0 ≤ c ∧ c < 64) : CT G sh iX7_linesOf 0 0 [.inl c] (m) (some (.inr (.long (lin c)))) (m) := by
  refine j_met (L0 := [some (.inl c), none, none, none, none]) (by decide) E.1 E.2.1 rfl (Nat.le_of_ble_eq_true rfl) ?_
  refine j_ldc2 (q := 3) dX7_linesOf_0 rfl jw_492 ?_
  refine j_iload0 (q := 4) dX7_linesOf_3 rfl ?_
  refine j_bipush (q := 6) dX7_linesOf_4 rfl rfl ?_
  refine j_idivP (q := 7) dX7_linesOf_6 rfl (by first | exact wr_id' (by omega) (by omega) | with_reducible exact wr_bI _ | exact rfl) (by first | exact wr_id' (by omega) (by omega) | with_reducible exact wr_bI _ | exact rfl) (by omega) (by omega) ?_
  refine j_bipush (q := 9) dX7_linesOf_7 rfl rfl ?_
  refine j_imul (q := 10) dX7_linesOf_9 rfl ?_
  refine j_lshl (q := 11) dX7_linesOf_10 rfl ?_
  refine j_lstore1 (q := 12) dX7_linesOf_11 rfl rfl (by decide) ?_
  refine j_ldc2 (q := 15) dX7_linesOf_12 rfl jw_493 ?_
  refine j_iload0 (q := 16) dX7_linesOf_15 rfl ?_
  refine j_bipush (q := 18) dX7_linesOf_16 rfl rfl ?_
  refine j_iremP (q := 19) dX7_linesOf_18 rfl (by first | exact wr_id' (by omega) (by omega) | with_reducible exact wr_bI _ | exact rfl) (by first | exact wr_id' (by omega) (by omega) | with_reducible exact wr_bI _ | exact rfl) (by omega) (by omega) ?_
  refine j_lshl (q := 20) dX7_linesOf_19 rfl ?_
  refine j_lstore3 (q := 21) dX7_linesOf_20 rfl rfl (by decide) ?_
  refine j_lload1 (q := 22) dX7_linesOf_21 rfl ?_
  refine j_lload3 (q := 23) dX7_linesOf_22 rfl ?_
  refine j_lor (q := 24) dX7_linesOf_23 rfl ?_
  refine j_iload0 (q := 25) dX7_linesOf_24 rfl ?_
  refine j_callS1 (Mc := iX7_maskOf) (q := 28) (c' := 0) (s' := 0) dX7_linesOf_25 rfl kS_X7_maskOf jw_494 ⟨by decide, by decide⟩ rfl (Nat.le_refl _) (Nat.le_refl _) (ct_X7_maskOf E) ?_
  refine j_ldc2 (q := 31) dX7_linesOf_28 rfl jw_495 ?_
  refine j_lxor (q := 32) dX7_linesOf_31 rfl ?_
  refine j_land (q := 33) dX7_linesOf_32 rfl ?_
  exact j_lreturn dX7_linesOf_33 rfl (rfl) (rfl)
theorem ct_X0_isOne {G : GX} {sh : List SH} (E : EV G sh) {m P : Mem} {q : Nat} (hq : PA q) {c : Int} : CT G sh iX0_isOne 0 0 [.inr (.ref (q + 3)), .inl c] (ps m q P) (some (.inl (bI (cOne P c)))) (ps m q P) := by
  refine j_met (L0 := [some (.inr (.ref (q + 3))), some (.inl c)]) (by decide) E.1 E.2.1 rfl (Nat.le_of_ble_eq_true rfl) ?_
  refine j_aload0 (q := 1) dX0_isOne_0 rfl ?_
  refine j_pgetL (d := 3) rfl (by decide) 0 (j' := 0) (q := 4) dX0_isOne_1 rfl fl_X0_9 (E.2.2 _ _ (hq 3 _ rfl)) rfl rfl ?_
  refine j_iload1 (q := 5) dX0_isOne_4 rfl ?_
  refine j_callSN1 (Mc := iX7_maskOf) (q := 8) (c' := 0) (s' := 0) dX0_isOne_5 rfl kS_X7_maskOf (by decide) ⟨by decide, by decide⟩ rfl (Nat.le_refl _) (Nat.le_refl _) (ct_X7_maskOf E) ?_
  refine j_land (q := 9) dX0_isOne_8 rfl ?_
  refine j_lconst (q := 10) (x := 0) dX0_isOne_9 rfl rfl ?_
  refine j_lcmp (q := 11) dX0_isOne_10 rfl ?_
  refine j_ifeq_l (tgt := 18) (q := 14) dX0_isOne_11 (by decide) rfl (fun h11 => ?_) (fun h11 => ?_)
  · refine j_iconst (q := 19) dX0_isOne_18 rfl ?_
    exact j_zreturn dX0_isOne_19 rfl (by decide) (by unfold cOne tb; first | exact bI_t (by assumption) | exact bI_f (by simpa using h11)) (rfl)
  · refine j_iconst (q := 15) dX0_isOne_14 rfl ?_
    refine j_goto (tgt := 19) dX0_isOne_15 (by decide) ?_
    exact j_zreturn dX0_isOne_19 rfl (by decide) (by unfold cOne tb; first | exact bI_t (by assumption) | exact bI_f (by simpa using h11)) (rfl)
theorem ct_X0_bitOf {G : GX} {sh : List SH} (E : EV G sh) {m P : Mem} {q : Nat} (hq : PA q) {c : Int} : CT G sh iX0_bitOf 0 0 [.inr (.ref (q + 3)), .inl c] (ps m q P) (some (.inl (bI (cOne P c)))) (ps m q P) := by
  refine j_met (L0 := [some (.inr (.ref (q + 3))), some (.inl c)]) (by decide) E.1 E.2.1 rfl (Nat.le_of_ble_eq_true rfl) ?_
  refine j_aload0 (q := 1) dX0_bitOf_0 rfl ?_
  refine j_iload1 (q := 2) dX0_bitOf_1 rfl ?_
  refine j_callV1 (Mc := iX0_isOne) (q := 5) (c' := 0) (s' := 0) dX0_bitOf_2 rfl kV_X0_isOne jw_456 ⟨by decide, by decide⟩ (E.2.2 _ _ (hq 3 _ rfl)) rfl rfl rfl (Nat.le_refl _) (Nat.le_refl _) (ct_X0_isOne E hq) ?_
  refine j_ifeq_b (tgt := 12) (q := 8) dX0_bitOf_5 (by decide) rfl (fun h5 => ?_) (fun h5 => ?_)
  · refine j_iconst (q := 13) dX0_bitOf_12 rfl ?_
    exact j_ireturn dX0_bitOf_13 rfl (by first | (rw [show cOne P c = true by assumption]; rfl) | (rw [show cOne P c = false by assumption]; rfl)) (rfl)
  · refine j_iconst (q := 9) dX0_bitOf_8 rfl ?_
    refine j_goto (tgt := 13) dX0_bitOf_9 (by decide) ?_
    exact j_ireturn dX0_bitOf_13 rfl (by first | (rw [show cOne P c = true by assumption]; rfl) | (rw [show cOne P c = false by assumption]; rfl)) (rfl)
theorem ct_X0_putBit {G : GX} {sh : List SH} (E : EV G sh) {m P : Mem} {q : Nat} (hq : PA q) {c : Int} {b : Bool} : CT G sh iX0_putBit 0 0 [.inr (.ref (q + 3)), .inl c, .inl (bI b)] (ps m q P) none (ps m q (cPut P c b)) := by
  refine j_met (L0 := [some (.inr (.ref (q + 3))), some (.inl c), some (.inl (bI b))]) (by decide) E.1 E.2.1 rfl (Nat.le_of_ble_eq_true rfl) ?_
  refine j_aload0 (q := 1) dX0_putBit_0 rfl ?_
  refine j_iload2 (q := 2) dX0_putBit_1 rfl ?_
  refine j_ifeq_b (tgt := 17) (q := 5) dX0_putBit_2 (by decide) rfl (fun h2 => ?_) (fun h2 => ?_)
  · refine j_aload0 (q := 18) dX0_putBit_17 rfl ?_
    refine j_pgetL (d := 3) rfl (by decide) 0 (j' := 0) (q := 21) dX0_putBit_18 rfl fl_X0_9 (E.2.2 _ _ (hq 3 _ rfl)) rfl rfl ?_
    refine j_iload1 (q := 22) dX0_putBit_21 rfl ?_
    refine j_callSN1 (Mc := iX7_maskOf) (q := 25) (c' := 0) (s' := 0) dX0_putBit_22 rfl kS_X7_maskOf (by decide) ⟨by decide, by decide⟩ rfl (Nat.le_refl _) (Nat.le_refl _) (ct_X7_maskOf E) ?_
    refine j_ldc2 (q := 28) dX0_putBit_25 rfl jw_645 ?_
    refine j_lxor (q := 29) dX0_putBit_28 rfl ?_
    refine j_land (q := 30) dX0_putBit_29 rfl ?_
    refine j_pputL (d := 3) rfl (by decide) 0 (j' := 0) (q := 33) dX0_putBit_30 rfl fw_X0_9 (E.2.2 _ _ (hq 3 _ rfl)) rfl rfl ?_
    exact j_return dX0_putBit_33 rfl (by unfold cPut; first | rw [if_pos (by assumption)] | rw [if_neg (nb (by assumption))])
  · refine j_aload0 (q := 6) dX0_putBit_5 rfl ?_
    refine j_pgetL (d := 3) rfl (by decide) 0 (j' := 0) (q := 9) dX0_putBit_6 rfl fl_X0_9 (E.2.2 _ _ (hq 3 _ rfl)) rfl rfl ?_
    refine j_iload1 (q := 10) dX0_putBit_9 rfl ?_
    refine j_callSN1 (Mc := iX7_maskOf) (q := 13) (c' := 0) (s' := 0) dX0_putBit_10 rfl kS_X7_maskOf (by decide) ⟨by decide, by decide⟩ rfl (Nat.le_refl _) (Nat.le_refl _) (ct_X7_maskOf E) ?_
    refine j_lor (q := 14) dX0_putBit_13 rfl ?_
    refine j_goto (tgt := 30) dX0_putBit_14 (by decide) ?_
    refine j_pputL (d := 3) rfl (by decide) 0 (j' := 0) (q := 33) dX0_putBit_30 rfl fw_X0_9 (E.2.2 _ _ (hq 3 _ rfl)) rfl rfl ?_
    exact j_return dX0_putBit_33 rfl (by unfold cPut; first | rw [if_pos (by assumption)] | rw [if_neg (nb (by assumption))])
theorem ct_X0_isLeased {G : GX} {sh : List SH} (E : EV G sh) {m P : Mem} {q : Nat} (hq : PA q) {c : Int} (h1 : 0 ≤ c ∧ c < 64) : CT G sh iX0_isLeased 0 0 [.inr (.ref (q + 3)), .inl c] (ps m q P) (some (.inl (bI (cLs P c)))) (ps m q P) := by
  refine j_met (L0 := [some (.inr (.ref (q + 3))), some (.inl c)]) (by decide) E.1 E.2.1 rfl (Nat.le_of_ble_eq_true rfl) ?_
  refine j_aload0 (q := 1) dX0_isLeased_0 rfl ?_
  refine j_getR 2 (q := 4) dX0_isLeased_1 rfl fl_X0_19 (E.2.2 _ _ (hq 3 _ rfl)) rfl ?_
  refine j_iload1 (q := 5) dX0_isLeased_4 rfl ?_
  refine j_pload (q := 6) (d := 5) rfl (by decide) dX0_isLeased_5 rfl (E.2.2 _ _ (hq 5 _ rfl)) (by first | exact wr_id' (by omega) (by omega) | with_reducible exact wr_bI _ | exact rfl) (by omega) (by omega) ?_
  refine j_iconst (q := 7) dX0_isLeased_6 rfl ?_
  refine j_icmp_eq (tgt := 14) (q := 10) dX0_isLeased_7 (by decide) rfl rfl (by first | exact wr_id' (by omega) (by omega) | with_reducible exact wr_bI _ | exact rfl) (fun h7 => ?_) (fun h7 => ?_)
  · refine j_iconst (q := 15) dX0_isLeased_14 rfl ?_
    exact j_zreturn dX0_isLeased_15 rfl (by decide) (by unfold cLs; first | exact bI_t (by omega) | exact bI_f (by omega)) (rfl)
  · refine j_iconst (q := 11) dX0_isLeased_10 rfl ?_
    refine j_goto (tgt := 15) dX0_isLeased_11 (by decide) ?_
    exact j_zreturn dX0_isLeased_15 rfl (by decide) (by unfold cLs; first | exact bI_t (by omega) | exact bI_f (by omega)) (rfl)
theorem ct_X0_hasPolicy {G : GX} {sh : List SH} (E : EV G sh) {m P : Mem} {q : Nat} (hq : PA q) {c : Int} (h1 : 0 ≤ c ∧ c < 64) : CT G sh iX0_hasPolicy 0 0 [.inr (.ref (q + 3)), .inl c] (ps m q P) (some (.inl (bI (cHp P c)))) (ps m q P) := by
  refine j_met (L0 := [some (.inr (.ref (q + 3))), some (.inl c)]) (by decide) E.1 E.2.1 rfl (Nat.le_of_ble_eq_true rfl) ?_
  refine j_aload0 (q := 1) dX0_hasPolicy_0 rfl ?_
  refine j_getR 4 (q := 4) dX0_hasPolicy_1 rfl fl_X0_25 (E.2.2 _ _ (hq 3 _ rfl)) rfl ?_
  refine j_iload1 (q := 5) dX0_hasPolicy_4 rfl ?_
  refine j_pload (q := 6) (d := 7) rfl (by decide) dX0_hasPolicy_5 rfl (E.2.2 _ _ (hq 7 _ rfl)) (by first | exact wr_id' (by omega) (by omega) | with_reducible exact wr_bI _ | exact rfl) (by omega) (by omega) ?_
  refine j_iconst (q := 7) dX0_hasPolicy_6 rfl ?_
  refine j_icmp_eq (tgt := 14) (q := 10) dX0_hasPolicy_7 (by decide) rfl rfl (by first | exact wr_id' (by omega) (by omega) | with_reducible exact wr_bI _ | exact rfl) (fun h7 => ?_) (fun h7 => ?_)
  · refine j_iconst (q := 15) dX0_hasPolicy_14 rfl ?_
    exact j_zreturn dX0_hasPolicy_15 rfl (by decide) (by unfold cHp; first | exact bI_t (by omega) | exact bI_f (by omega)) (rfl)
  · refine j_iconst (q := 11) dX0_hasPolicy_10 rfl ?_
    refine j_goto (tgt := 15) dX0_hasPolicy_11 (by decide) ?_
    exact j_zreturn dX0_hasPolicy_15 rfl (by decide) (by unfold cHp; first | exact bI_t (by omega) | exact bI_f (by omega)) (rfl)
theorem ct_X0_isLeasedTo {G : GX} {sh : List SH} (E : EV G sh) {m P : Mem} {q : Nat} (hq : PA q) {c : Int} {t : Int} (h1 : -2147483648 ≤ c ∧ c < 2147483648) : CT G sh iX0_isLeasedTo 0 0 [.inr (.ref (q + 3)), .inl c, .inl t] (ps m q P) (some (.inl (bI (wi c 0 63 && decide (wr (P 5 c) = wr t))))) (ps m q P) := by
  refine j_met (L0 := [some (.inr (.ref (q + 3))), some (.inl c), some (.inl t)]) (by decide) E.1 E.2.1 rfl (Nat.le_of_ble_eq_true rfl) ?_
  refine j_iload1 (q := 1) dX0_isLeasedTo_0 rfl ?_
  refine j_callSN1 (Mc := iX7_isCore) (q := 4) (c' := 0) (s' := 0) dX0_isLeasedTo_1 rfl kS_X7_isCore (by decide) ⟨by decide, by decide⟩ rfl (Nat.le_refl _) (Nat.le_refl _) (ct_X7_isCore E (by omega)) ?_
  refine j_ifeq_b (tgt := 21) (q := 7) dX0_isLeasedTo_4 (by decide) rfl (fun h4 => ?_) (fun h4 => ?_)
  · refine j_iconst (q := 22) dX0_isLeasedTo_21 rfl ?_
    exact j_zreturn dX0_isLeasedTo_22 rfl (by decide) (by simp [bI, *]) (rfl)
  · have hc2 : 0 ≤ c ∧ c ≤ 63 := of_decide_eq_true (by assumption)
    refine j_aload0 (q := 8) dX0_isLeasedTo_7 rfl ?_
    refine j_getR 2 (q := 11) dX0_isLeasedTo_8 rfl fl_X0_19 (E.2.2 _ _ (hq 3 _ rfl)) rfl ?_
    refine j_iload1 (q := 12) dX0_isLeasedTo_11 rfl ?_
    refine j_pload (q := 13) (d := 5) rfl (by decide) dX0_isLeasedTo_12 rfl (E.2.2 _ _ (hq 5 _ rfl)) (by first | exact wr_id' (by omega) (by omega) | with_reducible exact wr_bI _ | exact rfl) (by omega) (by omega) ?_
    refine j_iload2 (q := 14) dX0_isLeasedTo_13 rfl ?_
    refine j_icmp_ne (tgt := 21) (q := 17) dX0_isLeasedTo_14 (by decide) rfl rfl rfl (fun h14 => ?_) (fun h14 => ?_)
    · refine j_iconst (q := 22) dX0_isLeasedTo_21 rfl ?_
      exact j_zreturn dX0_isLeasedTo_22 rfl (by decide) (by simp [bI, *]) (rfl)
    · refine j_iconst (q := 18) dX0_isLeasedTo_17 rfl ?_
      refine j_goto (tgt := 22) dX0_isLeasedTo_18 (by decide) ?_
      exact j_zreturn dX0_isLeasedTo_22 rfl (by decide) (by simp [bI, *]) (rfl)
theorem ct_X0_endPolicy {G : GX} {sh : List SH} (E : EV G sh) {m P : Mem} {q : Nat} (hq : PA q) {c : Int} (h1 : 0 ≤ c ∧ c < 64) : CT G sh iX0_endPolicy 0 0 [.inr (.ref (q + 3)), .inl c] (ps m q P) none (ps m q (cEp P c)) := by
  refine j_met (L0 := [some (.inr (.ref (q + 3))), some (.inl c)]) (by decide) E.1 E.2.1 rfl (Nat.le_of_ble_eq_true rfl) ?_
  refine j_aload0 (q := 1) dX0_endPolicy_0 rfl ?_
  refine j_getR 4 (q := 4) dX0_endPolicy_1 rfl fl_X0_25 (E.2.2 _ _ (hq 3 _ rfl)) rfl ?_
  refine j_iload1 (q := 5) dX0_endPolicy_4 rfl ?_
  refine j_iconst (q := 6) dX0_endPolicy_5 rfl ?_
  refine j_pstore (q := 7) (d := 7) rfl (by decide) dX0_endPolicy_6 rfl (E.2.2 _ _ (hq 7 _ rfl)) (by first | exact wr_id' (by omega) (by omega) | with_reducible exact wr_bI _ | exact rfl) (by omega) (by omega) ?_
  exact j_return dX0_endPolicy_7 rfl (rfl)
theorem ct_X0_endLease {G : GX} {sh : List SH} (E : EV G sh) {m P : Mem} {q : Nat} (hq : PA q) {c : Int} (h1 : 0 ≤ c ∧ c < 64) : CT G sh iX0_endLease 0 0 [.inr (.ref (q + 3)), .inl c] (ps m q P) none (ps m q (cEl P c)) := by
  refine j_met (L0 := [some (.inr (.ref (q + 3))), some (.inl c)]) (by decide) E.1 E.2.1 rfl (Nat.le_of_ble_eq_true rfl) ?_
  refine j_aload0 (q := 1) dX0_endLease_0 rfl ?_
  refine j_getR 2 (q := 4) dX0_endLease_1 rfl fl_X0_19 (E.2.2 _ _ (hq 3 _ rfl)) rfl ?_
  refine j_iload1 (q := 5) dX0_endLease_4 rfl ?_
  refine j_iconst (q := 6) dX0_endLease_5 rfl ?_
  refine j_pstore (q := 7) (d := 5) rfl (by decide) dX0_endLease_6 rfl (E.2.2 _ _ (hq 5 _ rfl)) (by first | exact wr_id' (by omega) (by omega) | with_reducible exact wr_bI _ | exact rfl) (by omega) (by omega) ?_
  refine j_aload0 (q := 8) dX0_endLease_7 rfl ?_
  refine j_iload1 (q := 9) dX0_endLease_8 rfl ?_
  refine j_callV1v (Mc := iX0_endPolicy) (q := 12) (c' := 0) (s' := 0) dX0_endLease_9 rfl kV_X0_endPolicy jw_687 ⟨by decide, by decide⟩ (E.2.2 _ _ (hq 3 _ rfl)) rfl rfl rfl (Nat.le_refl _) (Nat.le_refl _) (ct_X0_endPolicy E hq (by omega)) ?_
  exact j_return dX0_endLease_12 rfl (rfl)
theorem kF_t {p : Int → Bool} {d : Nat} {c : Int} {x : Int64} (h : p c = true) : kF p d (c + 1) (x ||| msk c) = kF p (d + 1) c x := by rw [kF, if_pos h]
theorem kF_f {p : Int → Bool} {d : Nat} {c : Int} {x : Int64} (h : p c = false) : kF p d (c + 1) x = kF p (d + 1) c x := by rw [kF, if_neg (nb h)]
theorem cnt_g {p : Int → Bool} {d : Nat} {c n : Int} (h : p c = false) : cntF p d (c + 1) n = cntF p (d + 1) c n := by rw [cntF, h]; simp [bI]
theorem lp_X0_leasesOf {G : GX} {sh : List SH} (E : EV G sh) {m P : Mem} {q : Nat} (hq : PA q) {t : Int} : ∀ (d : Nat) (c : Int) (x : Int64), c + d = 64 → 0 ≤ c → J G sh iX0_leasesOf 0 0 (FN G sh 0 0 (some (.inr (.long (kF (fun c => decide (wr (P 5 c) = wr t)) d c x)))) (ps m q P)) 5 [some (.inr (.ref (q + 3))), some (.inl t), some (.inr (.long x)), none, some (.inl c)] [] (ps m q P) 0 0 := by
  intro d
  induction d with
  | zero =>
    intro c x g0 g1
    refine j_iload4 (q := 7) dX0_leasesOf_5 rfl ?_
    refine j_bipush (q := 9) dX0_leasesOf_7 rfl rfl ?_
    refine j_icmp_ge (tgt := 37) (q := 12) dX0_leasesOf_9 (by decide) rfl (by first | exact wr_id' (by omega) (by omega) | with_reducible exact wr_bI _ | exact rfl) (by first | exact wr_id' (by omega) (by omega) | with_reducible exact wr_bI _ | exact rfl) (fun h9 => ?_) (fun h9 => ?_)
    · refine j_lload2 (q := 38) dX0_leasesOf_37 rfl ?_
      exact j_lreturn dX0_leasesOf_38 rfl (rfl) (rfl)
    · omega
  | succ d ih =>
    intro c x g0 g1
    refine j_iload4 (q := 7) dX0_leasesOf_5 rfl ?_
    refine j_bipush (q := 9) dX0_leasesOf_7 rfl rfl ?_
    refine j_icmp_ge (tgt := 37) (q := 12) dX0_leasesOf_9 (by decide) rfl (by first | exact wr_id' (by omega) (by omega) | with_reducible exact wr_bI _ | exact rfl) (by first | exact wr_id' (by omega) (by omega) | with_reducible exact wr_bI _ | exact rfl) (fun h9 => ?_) (fun h9 => ?_)
    · omega
    · refine j_aload0 (q := 13) dX0_leasesOf_12 rfl ?_
      refine j_getR 2 (q := 16) dX0_leasesOf_13 rfl fl_X0_19 (E.2.2 _ _ (hq 3 _ rfl)) rfl ?_
      refine j_iload4 (q := 18) dX0_leasesOf_16 rfl ?_
      refine j_pload (q := 19) (d := 5) rfl (by decide) dX0_leasesOf_18 rfl (E.2.2 _ _ (hq 5 _ rfl)) (by first | exact wr_id' (by omega) (by omega) | with_reducible exact wr_bI _ | exact rfl) (by omega) (by omega) ?_
      refine j_iload1 (q := 20) dX0_leasesOf_19 rfl ?_
      refine j_icmp_ne (tgt := 31) (q := 23) dX0_leasesOf_20 (by decide) rfl rfl rfl (fun h20 => ?_) (fun h20 => ?_)
      · refine j_iinc4 (q := 34) dX0_leasesOf_31 rfl rfl (by decide) ?_
        refine j_goto (tgt := 5) dX0_leasesOf_34 (by decide) ?_
        exact j_fin (congrArg (fun x => some (Sum.inr (Value.long x))) (by first | exact kF_t (by grind) | exact kF_f (by grind))) (rfl) (ih _ _ (by omega) (by omega))
      · refine j_lload2 (q := 24) dX0_leasesOf_23 rfl ?_
        refine j_iload4 (q := 26) dX0_leasesOf_24 rfl ?_
        refine j_callSN1 (Mc := iX7_maskOf) (q := 29) (c' := 0) (s' := 0) dX0_leasesOf_26 rfl kS_X7_maskOf (by decide) ⟨by decide, by decide⟩ rfl (Nat.le_refl _) (Nat.le_refl _) (ct_X7_maskOf E) ?_
        refine j_lor (q := 30) dX0_leasesOf_29 rfl ?_
        refine j_lstore2 (q := 31) dX0_leasesOf_30 rfl rfl (by decide) ?_
        refine j_iinc4 (q := 34) dX0_leasesOf_31 rfl rfl (by decide) ?_
        refine j_goto (tgt := 5) dX0_leasesOf_34 (by decide) ?_
        exact j_fin (congrArg (fun x => some (Sum.inr (Value.long x))) (by first | exact kF_t (by grind) | exact kF_f (by grind))) (rfl) (ih _ _ (by omega) (by omega))
theorem ct_X0_leasesOf {G : GX} {sh : List SH} (E : EV G sh) {m P : Mem} {q : Nat} (hq : PA q) {t : Int} : CT G sh iX0_leasesOf 0 0 [.inr (.ref (q + 3)), .inl t] (ps m q P) (some (.inr (.long (cLsF P t)))) (ps m q P) := by
  refine j_met (L0 := [some (.inr (.ref (q + 3))), some (.inl t), none, none, none]) (by decide) E.1 E.2.1 rfl (Nat.le_of_ble_eq_true rfl) ?_
  refine j_lconst (q := 1) (x := 0) dX0_leasesOf_0 rfl rfl ?_
  refine j_lstore2 (q := 2) dX0_leasesOf_1 rfl rfl (by decide) ?_
  refine j_iconst (q := 3) dX0_leasesOf_2 rfl ?_
  refine j_istore4 (q := 5) dX0_leasesOf_3 rfl rfl (by decide) ?_
  exact lp_X0_leasesOf E hq 64 0 0 (by omega) (by omega)
theorem lp_X0_insured {G : GX} {sh : List SH} (E : EV G sh) {m P : Mem} {q : Nat} (hq : PA q) : ∀ (d : Nat) (c : Int) (x : Int64), c + d = 64 → 0 ≤ c → J G sh iX0_insured 0 0 (FN G sh 0 0 (some (.inr (.long (kF (cHp P) d c x)))) (ps m q P)) 4 [some (.inr (.ref (q + 3))), some (.inr (.long x)), none, some (.inl c)] [] (ps m q P) 0 0 := by
  intro d
  induction d with
  | zero =>
    intro c x g0 g1
    refine j_iload3 (q := 5) dX0_insured_4 rfl ?_
    refine j_bipush (q := 7) dX0_insured_5 rfl rfl ?_
    refine j_icmp_ge (tgt := 31) (q := 10) dX0_insured_7 (by decide) rfl (by first | exact wr_id' (by omega) (by omega) | with_reducible exact wr_bI _ | exact rfl) (by first | exact wr_id' (by omega) (by omega) | with_reducible exact wr_bI _ | exact rfl) (fun h7 => ?_) (fun h7 => ?_)
    · refine j_lload1 (q := 32) dX0_insured_31 rfl ?_
      exact j_lreturn dX0_insured_32 rfl (rfl) (rfl)
    · omega
  | succ d ih =>
    intro c x g0 g1
    refine j_iload3 (q := 5) dX0_insured_4 rfl ?_
    refine j_bipush (q := 7) dX0_insured_5 rfl rfl ?_
    refine j_icmp_ge (tgt := 31) (q := 10) dX0_insured_7 (by decide) rfl (by first | exact wr_id' (by omega) (by omega) | with_reducible exact wr_bI _ | exact rfl) (by first | exact wr_id' (by omega) (by omega) | with_reducible exact wr_bI _ | exact rfl) (fun h7 => ?_) (fun h7 => ?_)
    · omega
    · refine j_aload0 (q := 11) dX0_insured_10 rfl ?_
      refine j_iload3 (q := 12) dX0_insured_11 rfl ?_
      refine j_callV1 (Mc := iX0_hasPolicy) (q := 15) (c' := 0) (s' := 0) dX0_insured_12 rfl kV_X0_hasPolicy jw_420 ⟨by decide, by decide⟩ (E.2.2 _ _ (hq 3 _ rfl)) rfl rfl rfl (Nat.le_refl _) (Nat.le_refl _) (ct_X0_hasPolicy E hq (by omega)) ?_
      refine j_ifeq_b (tgt := 25) (q := 18) dX0_insured_15 (by decide) rfl (fun h15 => ?_) (fun h15 => ?_)
      · refine j_iinc3 (q := 28) dX0_insured_25 rfl rfl (by decide) ?_
        refine j_goto (tgt := 4) dX0_insured_28 (by decide) ?_
        exact j_fin (congrArg (fun x => some (Sum.inr (Value.long x))) (by first | exact kF_t (by grind) | exact kF_f (by grind))) (rfl) (ih _ _ (by omega) (by omega))
      · refine j_lload1 (q := 19) dX0_insured_18 rfl ?_
        refine j_iload3 (q := 20) dX0_insured_19 rfl ?_
        refine j_callSN1 (Mc := iX7_maskOf) (q := 23) (c' := 0) (s' := 0) dX0_insured_20 rfl kS_X7_maskOf (by decide) ⟨by decide, by decide⟩ rfl (Nat.le_refl _) (Nat.le_refl _) (ct_X7_maskOf E) ?_
        refine j_lor (q := 24) dX0_insured_23 rfl ?_
        refine j_lstore1 (q := 25) dX0_insured_24 rfl rfl (by decide) ?_
        refine j_iinc3 (q := 28) dX0_insured_25 rfl rfl (by decide) ?_
        refine j_goto (tgt := 4) dX0_insured_28 (by decide) ?_
        exact j_fin (congrArg (fun x => some (Sum.inr (Value.long x))) (by first | exact kF_t (by grind) | exact kF_f (by grind))) (rfl) (ih _ _ (by omega) (by omega))
theorem ct_X0_insured {G : GX} {sh : List SH} (E : EV G sh) {m P : Mem} {q : Nat} (hq : PA q) : CT G sh iX0_insured 0 0 [.inr (.ref (q + 3))] (ps m q P) (some (.inr (.long (cInF P)))) (ps m q P) := by
  refine j_met (L0 := [some (.inr (.ref (q + 3))), none, none, none]) (by decide) E.1 E.2.1 rfl (Nat.le_of_ble_eq_true rfl) ?_
  refine j_lconst (q := 1) (x := 0) dX0_insured_0 rfl rfl ?_
  refine j_lstore1 (q := 2) dX0_insured_1 rfl rfl (by decide) ?_
  refine j_iconst (q := 3) dX0_insured_2 rfl ?_
  refine j_istore3 (q := 4) dX0_insured_3 rfl rfl (by decide) ?_
  exact lp_X0_insured E hq 64 0 0 (by omega) (by omega)
theorem lp_X0_onesBelow {G : GX} {sh : List SH} (E : EV G sh) {m P : Mem} {q : Nat} (hq : PA q) {l : Int} : ∀ (d : Nat) (c : Int) (x : Int64), c + d = 64 → 0 ≤ c → J G sh iX0_onesBelow 0 0 (FN G sh 0 0 (some (.inr (.long (kF (fun c => decide (wr (P 4 c) < wr l) && cOne P c) d c x)))) (ps m q P)) 5 [some (.inr (.ref (q + 3))), some (.inl l), some (.inr (.long x)), none, some (.inl c)] [] (ps m q P) 0 0 := by
  intro d
  induction d with
  | zero =>
    intro c x g0 g1
    refine j_iload4 (q := 7) dX0_onesBelow_5 rfl ?_
    refine j_bipush (q := 9) dX0_onesBelow_7 rfl rfl ?_
    refine j_icmp_ge (tgt := 46) (q := 12) dX0_onesBelow_9 (by decide) rfl (by first | exact wr_id' (by omega) (by omega) | with_reducible exact wr_bI _ | exact rfl) (by first | exact wr_id' (by omega) (by omega) | with_reducible exact wr_bI _ | exact rfl) (fun h9 => ?_) (fun h9 => ?_)
    · refine j_lload2 (q := 47) dX0_onesBelow_46 rfl ?_
      exact j_lreturn dX0_onesBelow_47 rfl (rfl) (rfl)
    · omega
  | succ d ih =>
    intro c x g0 g1
    refine j_iload4 (q := 7) dX0_onesBelow_5 rfl ?_
    refine j_bipush (q := 9) dX0_onesBelow_7 rfl rfl ?_
    refine j_icmp_ge (tgt := 46) (q := 12) dX0_onesBelow_9 (by decide) rfl (by first | exact wr_id' (by omega) (by omega) | with_reducible exact wr_bI _ | exact rfl) (by first | exact wr_id' (by omega) (by omega) | with_reducible exact wr_bI _ | exact rfl) (fun h9 => ?_) (fun h9 => ?_)
    · omega
    · refine j_aload0 (q := 13) dX0_onesBelow_12 rfl ?_
      refine j_getR 1 (q := 16) dX0_onesBelow_13 rfl fl_X0_15 (E.2.2 _ _ (hq 3 _ rfl)) rfl ?_
      refine j_iload4 (q := 18) dX0_onesBelow_16 rfl ?_
      refine j_pload (q := 19) (d := 4) rfl (by decide) dX0_onesBelow_18 rfl (E.2.2 _ _ (hq 4 _ rfl)) (by first | exact wr_id' (by omega) (by omega) | with_reducible exact wr_bI _ | exact rfl) (by omega) (by omega) ?_
      refine j_iload1 (q := 20) dX0_onesBelow_19 rfl ?_
      refine j_icmp_ge (tgt := 40) (q := 23) dX0_onesBelow_20 (by decide) rfl rfl rfl (fun h20 => ?_) (fun h20 => ?_)
      · refine j_iinc4 (q := 43) dX0_onesBelow_40 rfl rfl (by decide) ?_
        refine j_goto (tgt := 5) dX0_onesBelow_43 (by decide) ?_
        exact j_fin (congrArg (fun x => some (Sum.inr (Value.long x))) (by first | exact kF_t (by grind) | exact kF_f (by grind))) (rfl) (ih _ _ (by omega) (by omega))
      · refine j_aload0 (q := 24) dX0_onesBelow_23 rfl ?_
        refine j_iload4 (q := 26) dX0_onesBelow_24 rfl ?_
        refine j_callV1 (Mc := iX0_isOne) (q := 29) (c' := 0) (s' := 0) dX0_onesBelow_26 rfl kV_X0_isOne jw_456 ⟨by decide, by decide⟩ (E.2.2 _ _ (hq 3 _ rfl)) rfl rfl rfl (Nat.le_refl _) (Nat.le_refl _) (ct_X0_isOne E hq) ?_
        refine j_ifeq_b (tgt := 40) (q := 32) dX0_onesBelow_29 (by decide) rfl (fun h29 => ?_) (fun h29 => ?_)
        · refine j_iinc4 (q := 43) dX0_onesBelow_40 rfl rfl (by decide) ?_
          refine j_goto (tgt := 5) dX0_onesBelow_43 (by decide) ?_
          exact j_fin (congrArg (fun x => some (Sum.inr (Value.long x))) (by first | exact kF_t (by grind) | exact kF_f (by grind))) (rfl) (ih _ _ (by omega) (by omega))
        · refine j_lload2 (q := 33) dX0_onesBelow_32 rfl ?_
          refine j_iload4 (q := 35) dX0_onesBelow_33 rfl ?_
          refine j_callSN1 (Mc := iX7_maskOf) (q := 38) (c' := 0) (s' := 0) dX0_onesBelow_35 rfl kS_X7_maskOf (by decide) ⟨by decide, by decide⟩ rfl (Nat.le_refl _) (Nat.le_refl _) (ct_X7_maskOf E) ?_
          refine j_lor (q := 39) dX0_onesBelow_38 rfl ?_
          refine j_lstore2 (q := 40) dX0_onesBelow_39 rfl rfl (by decide) ?_
          refine j_iinc4 (q := 43) dX0_onesBelow_40 rfl rfl (by decide) ?_
          refine j_goto (tgt := 5) dX0_onesBelow_43 (by decide) ?_
          exact j_fin (congrArg (fun x => some (Sum.inr (Value.long x))) (by first | exact kF_t (by grind) | exact kF_f (by grind))) (rfl) (ih _ _ (by omega) (by omega))
theorem ct_X0_onesBelow {G : GX} {sh : List SH} (E : EV G sh) {m P : Mem} {q : Nat} (hq : PA q) {l : Int} : CT G sh iX0_onesBelow 0 0 [.inr (.ref (q + 3)), .inl l] (ps m q P) (some (.inr (.long (cBel P l)))) (ps m q P) := by
  refine j_met (L0 := [some (.inr (.ref (q + 3))), some (.inl l), none, none, none]) (by decide) E.1 E.2.1 rfl (Nat.le_of_ble_eq_true rfl) ?_
  refine j_lconst (q := 1) (x := 0) dX0_onesBelow_0 rfl rfl ?_
  refine j_lstore2 (q := 2) dX0_onesBelow_1 rfl rfl (by decide) ?_
  refine j_iconst (q := 3) dX0_onesBelow_2 rfl ?_
  refine j_istore4 (q := 5) dX0_onesBelow_3 rfl rfl (by decide) ?_
  exact lp_X0_onesBelow E hq 64 0 0 (by omega) (by omega)
theorem lp_X0_insuredBy {G : GX} {sh : List SH} (E : EV G sh) {m P : Mem} {q : Nat} (hq : PA q) {i : Int} : ∀ (d : Nat) (c : Int) (n : Int), c + d = 64 → 0 ≤ c → J G sh iX0_insuredBy 0 0 (FN G sh 0 0 (some (.inl (cntF (fun c => decide (wr (P 7 c) = wr i)) d c n))) (ps m q P)) 4 [some (.inr (.ref (q + 3))), some (.inl i), some (.inl n), some (.inl c)] [] (ps m q P) 0 0 := by
  intro d
  induction d with
  | zero =>
    intro c n g0 g1
    refine j_iload3 (q := 5) dX0_insuredBy_4 rfl ?_
    refine j_bipush (q := 7) dX0_insuredBy_5 rfl rfl ?_
    refine j_icmp_ge (tgt := 29) (q := 10) dX0_insuredBy_7 (by decide) rfl (by first | exact wr_id' (by omega) (by omega) | with_reducible exact wr_bI _ | exact rfl) (by first | exact wr_id' (by omega) (by omega) | with_reducible exact wr_bI _ | exact rfl) (fun h7 => ?_) (fun h7 => ?_)
    · refine j_iload2 (q := 30) dX0_insuredBy_29 rfl ?_
      exact j_ireturn dX0_insuredBy_30 rfl (rfl) (rfl)
    · omega
  | succ d ih =>
    intro c n g0 g1
    refine j_iload3 (q := 5) dX0_insuredBy_4 rfl ?_
    refine j_bipush (q := 7) dX0_insuredBy_5 rfl rfl ?_
    refine j_icmp_ge (tgt := 29) (q := 10) dX0_insuredBy_7 (by decide) rfl (by first | exact wr_id' (by omega) (by omega) | with_reducible exact wr_bI _ | exact rfl) (by first | exact wr_id' (by omega) (by omega) | with_reducible exact wr_bI _ | exact rfl) (fun h7 => ?_) (fun h7 => ?_)
    · omega
    · refine j_aload0 (q := 11) dX0_insuredBy_10 rfl ?_
      refine j_getR 4 (q := 14) dX0_insuredBy_11 rfl fl_X0_25 (E.2.2 _ _ (hq 3 _ rfl)) rfl ?_
      refine j_iload3 (q := 15) dX0_insuredBy_14 rfl ?_
      refine j_pload (q := 16) (d := 7) rfl (by decide) dX0_insuredBy_15 rfl (E.2.2 _ _ (hq 7 _ rfl)) (by first | exact wr_id' (by omega) (by omega) | with_reducible exact wr_bI _ | exact rfl) (by omega) (by omega) ?_
      refine j_iload1 (q := 17) dX0_insuredBy_16 rfl ?_
      refine j_icmp_ne (tgt := 23) (q := 20) dX0_insuredBy_17 (by decide) rfl rfl rfl (fun h17 => ?_) (fun h17 => ?_)
      · refine j_iinc3 (q := 26) dX0_insuredBy_23 rfl rfl (by decide) ?_
        refine j_goto (tgt := 4) dX0_insuredBy_26 (by decide) ?_
        exact j_fin (by first | exact congrArg (fun x => some (Sum.inl x)) (cnt_t (decide_eq_true (by assumption))) | exact congrArg (fun x => some (Sum.inl x)) (cnt_g (decide_eq_false (by assumption)))) (rfl) (ih _ _ (by omega) (by omega))
      · refine j_iinc2 (q := 23) dX0_insuredBy_20 rfl rfl (by decide) ?_
        refine j_iinc3 (q := 26) dX0_insuredBy_23 rfl rfl (by decide) ?_
        refine j_goto (tgt := 4) dX0_insuredBy_26 (by decide) ?_
        exact j_fin (by first | exact congrArg (fun x => some (Sum.inl x)) (cnt_t (decide_eq_true (by assumption))) | exact congrArg (fun x => some (Sum.inl x)) (cnt_g (decide_eq_false (by assumption)))) (rfl) (ih _ _ (by omega) (by omega))
theorem ct_X0_insuredBy {G : GX} {sh : List SH} (E : EV G sh) {m P : Mem} {q : Nat} (hq : PA q) {i : Int} : CT G sh iX0_insuredBy 0 0 [.inr (.ref (q + 3)), .inl i] (ps m q P) (some (.inl (cInB P i))) (ps m q P) := by
  refine j_met (L0 := [some (.inr (.ref (q + 3))), some (.inl i), none, none]) (by decide) E.1 E.2.1 rfl (Nat.le_of_ble_eq_true rfl) ?_
  refine j_iconst (q := 1) dX0_insuredBy_0 rfl ?_
  refine j_istore2 (q := 2) dX0_insuredBy_1 rfl rfl (by decide) ?_
  refine j_iconst (q := 3) dX0_insuredBy_2 rfl ?_
  refine j_istore3 (q := 4) dX0_insuredBy_3 rfl rfl (by decide) ?_
  exact lp_X0_insuredBy E hq 64 0 0 (by omega) (by omega)
theorem ct_X1_isOwed {G : GX} {sh : List SH} (E : EV G sh) {m P : Mem} {q : Nat} (hq : PA q) {c : Int} (h1 : 0 ≤ c ∧ c < 64) : CT G sh iX1_isOwed 0 0 [.inr (.ref (q + 10)), .inl c] (ps m q P) (some (.inl (bI (cOw P c)))) (ps m q P) := by
  refine j_met (L0 := [some (.inr (.ref (q + 10))), some (.inl c)]) (by decide) E.1 E.2.1 rfl (Nat.le_of_ble_eq_true rfl) ?_
  refine j_aload0 (q := 1) dX1_isOwed_0 rfl ?_
  refine j_getR 2 (q := 4) dX1_isOwed_1 rfl fl_X1_19 (E.2.2 _ _ (hq 10 _ rfl)) rfl ?_
  refine j_iload1 (q := 5) dX1_isOwed_4 rfl ?_
  refine j_pload (q := 6) (d := 12) rfl (by decide) dX1_isOwed_5 rfl (E.2.2 _ _ (hq 12 _ rfl)) (by first | exact wr_id' (by omega) (by omega) | with_reducible exact wr_bI _ | exact rfl) (by omega) (by omega) ?_
  refine j_iconst (q := 7) dX1_isOwed_6 rfl ?_
  refine j_icmp_eq (tgt := 14) (q := 10) dX1_isOwed_7 (by decide) rfl rfl (by first | exact wr_id' (by omega) (by omega) | with_reducible exact wr_bI _ | exact rfl) (fun h7 => ?_) (fun h7 => ?_)
  · refine j_iconst (q := 15) dX1_isOwed_14 rfl ?_
    exact j_zreturn dX1_isOwed_15 rfl (by decide) (by unfold cOw; first | exact bI_t (by omega) | exact bI_f (by omega)) (rfl)
  · refine j_iconst (q := 11) dX1_isOwed_10 rfl ?_
    refine j_goto (tgt := 15) dX1_isOwed_11 (by decide) ?_
    exact j_zreturn dX1_isOwed_15 rfl (by decide) (by unfold cOw; first | exact bI_t (by omega) | exact bI_f (by omega)) (rfl)
theorem ct_X1_dueOf {G : GX} {sh : List SH} (E : EV G sh) {m P : Mem} {q : Nat} (hq : PA q) {c : Int} (h1 : -2147483648 ≤ c ∧ c < 2147483648) : CT G sh iX1_dueOf 0 0 [.inr (.ref (q + 10)), .inl c] (ps m q P) (some (.inl (cDu P c))) (ps m q P) := by
  refine j_met (L0 := [some (.inr (.ref (q + 10))), some (.inl c)]) (by decide) E.1 E.2.1 rfl (Nat.le_of_ble_eq_true rfl) ?_
  refine j_iload1 (q := 1) dX1_dueOf_0 rfl ?_
  refine j_callSN1 (Mc := iX7_isCore) (q := 4) (c' := 0) (s' := 0) dX1_dueOf_1 rfl kS_X7_isCore (by decide) ⟨by decide, by decide⟩ rfl (Nat.le_refl _) (Nat.le_refl _) (ct_X7_isCore E (by omega)) ?_
  refine j_ifeq_b (tgt := 16) (q := 7) dX1_dueOf_4 (by decide) rfl (fun h4 => ?_) (fun h4 => ?_)
  · refine j_iconst (q := 17) dX1_dueOf_16 rfl ?_
    exact j_ireturn dX1_dueOf_17 rfl (by unfold cDu; first | rw [if_pos (by assumption)] | rw [if_neg (nb (by assumption))]) (rfl)
  · have hc2 : 0 ≤ c ∧ c ≤ 63 := of_decide_eq_true (by assumption)
    refine j_aload0 (q := 8) dX1_dueOf_7 rfl ?_
    refine j_getR 2 (q := 11) dX1_dueOf_8 rfl fl_X1_19 (E.2.2 _ _ (hq 10 _ rfl)) rfl ?_
    refine j_iload1 (q := 12) dX1_dueOf_11 rfl ?_
    refine j_pload (q := 13) (d := 12) rfl (by decide) dX1_dueOf_12 rfl (E.2.2 _ _ (hq 12 _ rfl)) (by first | exact wr_id' (by omega) (by omega) | with_reducible exact wr_bI _ | exact rfl) (by omega) (by omega) ?_
    refine j_goto (tgt := 17) dX1_dueOf_13 (by decide) ?_
    exact j_ireturn dX1_dueOf_17 rfl (by unfold cDu; first | rw [if_pos (by assumption)] | rw [if_neg (nb (by assumption))]) (rfl)
theorem ct_X1_firstCore {G : GX} {sh : List SH} (E : EV G sh) {m P : Mem} {q : Nat} (hq : PA q) : CT G sh iX1_firstCore 0 0 [.inr (.ref (q + 10))] (ps m q P) (some (.inl (cFi P))) (ps m q P) := by
  refine j_met (L0 := [some (.inr (.ref (q + 10)))]) (by decide) E.1 E.2.1 rfl (Nat.le_of_ble_eq_true rfl) ?_
  refine j_aload0 (q := 1) dX1_firstCore_0 rfl ?_
  refine j_pgetI (d := 10) rfl (by decide) 0 (j' := 0) (q := 4) dX1_firstCore_1 rfl fl_X1_9 (E.2.2 _ _ (hq 10 _ rfl)) rfl rfl ?_
  refine j_if_le (tgt := 16) (q := 7) dX1_firstCore_4 (by decide) rfl rfl (fun h4 => ?_) (fun h4 => ?_)
  · refine j_iconst (q := 17) dX1_firstCore_16 rfl ?_
    exact j_ireturn dX1_firstCore_17 rfl (by unfold cFi; first | rw [if_pos (by omega)] | rw [if_neg (by omega)]) (rfl)
  · refine j_aload0 (q := 8) dX1_firstCore_7 rfl ?_
    refine j_getR 1 (q := 11) dX1_firstCore_8 rfl fl_X1_15 (E.2.2 _ _ (hq 10 _ rfl)) rfl ?_
    refine j_iconst (q := 12) dX1_firstCore_11 rfl ?_
    refine j_pload (q := 13) (d := 11) rfl (by decide) dX1_firstCore_12 rfl (E.2.2 _ _ (hq 11 _ rfl)) (by first | exact wr_id' (by omega) (by omega) | with_reducible exact wr_bI _ | exact rfl) (by omega) (by omega) ?_
    refine j_goto (tgt := 17) dX1_firstCore_13 (by decide) ?_
    exact j_ireturn dX1_firstCore_17 rfl (by unfold cFi; first | rw [if_pos (by omega)] | rw [if_neg (by omega)]) (rfl)
theorem CD_up {P : Mem} {k v : Int} {d : Nat} (h : ∀ j : Int, 0 ≤ j → j < d + 1 → 0 ≤ P 11 j ∧ P 11 j < 64) (hk : (d : Int) < k) : ∀ j : Int, 0 ≤ j → j < d → 0 ≤ up P 11 k v 11 j ∧ up P 11 k v 11 j < 64 := fun j a b => by
  rw [up_ne (by omega)]; exact h j a (by omega)
theorem lp_X1_enter {G : GX} {sh : List SH} (E : EV G sh) {m : Mem} {q : Nat} (hq : PA q) {F : FinT} {c t : Int} (h1 : 0 ≤ c ∧ c < 64) : ∀ (d : Nat) (P : Mem), d < 64 → (∀ j : Int, 0 ≤ j → j < d → 0 ≤ P 11 j ∧ P 11 j < 64) → (∀ (x : Mem), x = cEnF c t d P → J G sh iX1_enter 0 0 F 70 [some (.inr (.ref (q + 10))), some (.inl c), some (.inl t), none] [] (ps m q x) 0 0) → J G sh iX1_enter 0 0 F 23 [some (.inr (.ref (q + 10))), some (.inl c), some (.inl t), some (.inl (d : Int))] [] (ps m q P) 0 0 := by
  intro d
  induction d with
  | zero =>
    intro P g0 g1 kk
    refine j_iload3 (q := 24) dX1_enter_23 rfl ?_
    refine j_if_le (tgt := 63) (q := 27) dX1_enter_24 (by decide) rfl (by first | exact wr_id' (by omega) (by omega) | with_reducible exact wr_bI _ | exact rfl) (fun h24 => ?_) (fun h24 => ?_)
    · refine j_aload0 (q := 64) dX1_enter_63 rfl ?_
      refine j_getR 1 (q := 67) dX1_enter_64 rfl fl_X1_15 (E.2.2 _ _ (hq 10 _ rfl)) rfl ?_
      refine j_iload3 (q := 68) dX1_enter_67 rfl ?_
      refine j_iload1 (q := 69) dX1_enter_68 rfl ?_
      refine j_pstore (q := 70) (d := 11) rfl (by decide) dX1_enter_69 rfl (E.2.2 _ _ (hq 11 _ rfl)) (by first | exact wr_id' (by omega) (by omega) | with_reducible exact wr_bI _ | exact rfl) (by omega) (by omega) ?_
      refine j_fgt3 ?_
      exact kk _ rfl
    · omega
  | succ d ih =>
    intro P g0 g1 kk
    refine j_iload3 (q := 24) dX1_enter_23 rfl ?_
    refine j_if_le (tgt := 63) (q := 27) dX1_enter_24 (by decide) rfl (by first | exact wr_id' (by omega) (by omega) | with_reducible exact wr_bI _ | exact rfl) (fun h24 => ?_) (fun h24 => ?_)
    · omega
    · refine j_aload0 (q := 28) dX1_enter_27 rfl ?_
      refine j_aload0 (q := 29) dX1_enter_28 rfl ?_
      refine j_getR 1 (q := 32) dX1_enter_29 rfl fl_X1_15 (E.2.2 _ _ (hq 10 _ rfl)) rfl ?_
      refine j_iload3 (q := 33) dX1_enter_32 rfl ?_
      refine j_iconst (q := 34) dX1_enter_33 rfl ?_
      refine j_isub (q := 35) dX1_enter_34 rfl ?_
      refine j_pload (q := 36) (d := 11) rfl (by decide) dX1_enter_35 rfl (E.2.2 _ _ (hq 11 _ rfl)) (i' := (d : Int)) (by rw [wr_id' (by omega) (by omega)]; omega) (by omega) (by omega) ?_
      have hb := g1 (d : Int) (by omega) (by omega)
      refine j_callV1 (Mc := iX1_dueOf) (q := 39) (c' := 0) (s' := 0) dX1_enter_36 rfl kV_X1_dueOf jw_800 ⟨by decide, by decide⟩ (E.2.2 _ _ (hq 10 _ rfl)) rfl rfl rfl (Nat.le_refl _) (Nat.le_refl _) (ct_X1_dueOf E hq (by omega)) ?_
      refine j_iload2 (q := 40) dX1_enter_39 rfl ?_
      refine j_icmp_le (tgt := 63) (q := 43) dX1_enter_40 (by decide) rfl rfl rfl (fun h40 => ?_) (fun h40 => ?_)
      · refine j_aload0 (q := 64) dX1_enter_63 rfl ?_
        refine j_getR 1 (q := 67) dX1_enter_64 rfl fl_X1_15 (E.2.2 _ _ (hq 10 _ rfl)) rfl ?_
        refine j_iload3 (q := 68) dX1_enter_67 rfl ?_
        refine j_iload1 (q := 69) dX1_enter_68 rfl ?_
        refine j_pstore (q := 70) (d := 11) rfl (by decide) dX1_enter_69 rfl (E.2.2 _ _ (hq 11 _ rfl)) (by first | exact wr_id' (by omega) (by omega) | with_reducible exact wr_bI _ | exact rfl) (by omega) (by omega) ?_
        refine j_mem (m' := ps m q (cEnF c t (d + 1) P)) (by rw [cEnF, if_neg (by omega)]) ?_
        refine j_fgt3 ?_
        exact kk _ rfl
      · refine j_aload0 (q := 44) dX1_enter_43 rfl ?_
        refine j_getR 1 (q := 47) dX1_enter_44 rfl fl_X1_15 (E.2.2 _ _ (hq 10 _ rfl)) rfl ?_
        refine j_iload3 (q := 48) dX1_enter_47 rfl ?_
        refine j_aload0 (q := 49) dX1_enter_48 rfl ?_
        refine j_getR 1 (q := 52) dX1_enter_49 rfl fl_X1_15 (E.2.2 _ _ (hq 10 _ rfl)) rfl ?_
        refine j_iload3 (q := 53) dX1_enter_52 rfl ?_
        refine j_iconst (q := 54) dX1_enter_53 rfl ?_
        refine j_isub (q := 55) dX1_enter_54 rfl ?_
        refine j_pload (q := 56) (d := 11) rfl (by decide) dX1_enter_55 rfl (E.2.2 _ _ (hq 11 _ rfl)) (i' := (d : Int)) (by rw [wr_id' (by omega) (by omega)]; omega) (by omega) (by omega) ?_
        refine j_pstore (q := 57) (d := 11) rfl (by decide) dX1_enter_56 rfl (E.2.2 _ _ (hq 11 _ rfl)) (by first | exact wr_id' (by omega) (by omega) | with_reducible exact wr_bI _ | exact rfl) (by omega) (by omega) ?_
        refine j_iinc3 (q := 60) dX1_enter_57 rfl rfl (by decide) ?_
        refine j_cg (L' := [some (.inr (.ref (q + 10))), some (.inl c), some (.inl t), some (.inl (d : Int))]) (by rw [show ((d + 1 : Nat) : Int) + -1 = (d : Int) by omega]) rfl rfl ?_
        refine j_goto (tgt := 23) dX1_enter_60 (by decide) ?_
        exact ih _ (by omega) (CD_up (d := d) (fun j a b => g1 j a (by omega)) (by omega)) (fun x hx => kk x (hx.trans (by rw [cEnF, if_pos (by omega)])))
theorem ct_X1_enter {G : GX} {sh : List SH} (E : EV G sh) {m P : Mem} {q : Nat} (hq : PA q) {c : Int} {t : Int} (h1 : 0 ≤ c ∧ c < 64) (hd : CD P) : CT G sh iX1_enter 0 0 [.inr (.ref (q + 10)), .inl c, .inl t] (ps m q P) none (ps m q (cEnt P c t)) := by
  refine j_met (L0 := [some (.inr (.ref (q + 10))), some (.inl c), some (.inl t), none]) (by decide) E.1 E.2.1 rfl (Nat.le_of_ble_eq_true rfl) ?_
  have hd1 := hd.1
  refine j_aload0 (q := 1) dX1_enter_0 rfl ?_
  refine j_pgetI (d := 10) rfl (by decide) 0 (j' := 0) (q := 4) dX1_enter_1 rfl fl_X1_9 (E.2.2 _ _ (hq 10 _ rfl)) rfl rfl ?_
  refine j_bipush (q := 6) dX1_enter_4 rfl rfl ?_
  refine j_icmp_ge (tgt := 17) (q := 9) dX1_enter_6 (by decide) rfl (by first | exact wr_id' (by omega) (by omega) | with_reducible exact wr_bI _ | exact rfl) (by first | exact wr_id' (by omega) (by omega) | with_reducible exact wr_bI _ | exact rfl) (fun h6 => ?_) (fun h6 => ?_)
  · exact j_return dX1_enter_17 rfl (by unfold cEnt; first | (rw [if_pos (Or.inl (by omega))]; done) | (rw [if_pos (Or.inr (by assumption))]; done))
  · refine j_aload0 (q := 10) dX1_enter_9 rfl ?_
    refine j_iload1 (q := 11) dX1_enter_10 rfl ?_
    refine j_callV1 (Mc := iX1_isOwed) (q := 14) (c' := 0) (s' := 0) dX1_enter_11 rfl kV_X1_isOwed jw_665 ⟨by decide, by decide⟩ (E.2.2 _ _ (hq 10 _ rfl)) rfl rfl rfl (Nat.le_refl _) (Nat.le_refl _) (ct_X1_isOwed E hq (by omega)) ?_
    refine j_ifeq_b (tgt := 18) (q := 17) dX1_enter_14 (by decide) rfl (fun h14 => ?_) (fun h14 => ?_)
    · refine j_aload0 (q := 19) dX1_enter_18 rfl ?_
      refine j_pgetI (d := 10) rfl (by decide) 0 (j' := 0) (q := 22) dX1_enter_19 rfl fl_X1_9 (E.2.2 _ _ (hq 10 _ rfl)) rfl rfl ?_
      refine j_istore3 (q := 23) dX1_enter_22 rfl rfl (by decide) ?_
      refine j_cg (L' := [some (.inr (.ref (q + 10))), some (.inl c), some (.inl t), some (.inl ((P 10 0).toNat : Int))]) (by rw [show ((P 10 0).toNat : Int) = P 10 0 by omega]) rfl rfl ?_
      refine lp_X1_enter E hq h1 (P 10 0).toNat P (by omega) (fun j a b => hd.2 j a (by omega)) ?_
      intro x hx
      subst hx
      refine j_aload0 (q := 71) dX1_enter_70 rfl ?_
      refine j_getR 2 (q := 74) dX1_enter_71 rfl fl_X1_19 (E.2.2 _ _ (hq 10 _ rfl)) rfl ?_
      refine j_iload1 (q := 75) dX1_enter_74 rfl ?_
      refine j_iload2 (q := 76) dX1_enter_75 rfl ?_
      refine j_pstore (q := 77) (d := 12) rfl (by decide) dX1_enter_76 rfl (E.2.2 _ _ (hq 12 _ rfl)) (by first | exact wr_id' (by omega) (by omega) | with_reducible exact wr_bI _ | exact rfl) (by omega) (by omega) ?_
      refine j_aload0 (q := 78) dX1_enter_77 rfl ?_
      refine j_dup (q := 79) dX1_enter_78 rfl rfl ?_
      refine j_pgetI (d := 10) rfl (by decide) 0 (j' := 0) (q := 82) dX1_enter_79 rfl fl_X1_9 (E.2.2 _ _ (hq 10 _ rfl)) rfl rfl ?_
      refine j_iconst (q := 83) dX1_enter_82 rfl ?_
      refine j_iadd (q := 84) dX1_enter_83 rfl ?_
      refine j_pputI (d := 10) rfl (by decide) 0 (j' := 0) (q := 87) dX1_enter_84 rfl fw_X1_9 (E.2.2 _ _ (hq 10 _ rfl)) rfl rfl ?_
      exact j_return dX1_enter_87 rfl (by unfold cEnt; rw [if_neg (by intro q; rcases q with q | q; omega; simp_all)])
    · exact j_return dX1_enter_17 rfl (by unfold cEnt; first | (rw [if_pos (Or.inl (by omega))]; done) | (rw [if_pos (Or.inr (by assumption))]; done))
theorem cStF_b (c : Int) : ∀ (d : Nat) (i k : Int) (P : Mem), 0 ≤ k → k ≤ i → 0 ≤ (cStF c d i k P).2 ∧ (cStF c d i k P).2 ≤ i + d := by
  intro d
  induction d with
  | zero => intro i k P h1 h2; simp only [cStF]; omega
  | succ d ih =>
    intro i k P h1 h2
    rw [cStF]
    split
    · have := ih (i + 1) k P h1 (by omega); omega
    · have := ih (i + 1) (k + 1) (up P 11 k (P 11 i)) (by omega) (by omega); omega
theorem lp_X1_strike {G : GX} {sh : List SH} (E : EV G sh) {m : Mem} {q : Nat} (hq : PA q) {F : FinT} {c l : Int} (hl : 0 ≤ l ∧ l ≤ 64) : ∀ (d : Nat) (i : Int) (k : Int) (P : Mem), i + d = l → 0 ≤ k → k ≤ i → P 10 0 = l → (∀ (x : Mem × Int), x = cStF c d i k P → J G sh iX1_strike 0 0 F 52 [some (.inr (.ref (q + 10))), some (.inl c), some (.inl x.2), none] [] (ps m q x.1) 0 0) → J G sh iX1_strike 0 0 F 13 [some (.inr (.ref (q + 10))), some (.inl c), some (.inl k), some (.inl i)] [] (ps m q P) 0 0 := by
  intro d
  induction d with
  | zero =>
    intro i k P g0 g1 g2 g3 kk
    refine j_iload3 (q := 14) dX1_strike_13 rfl ?_
    refine j_aload0 (q := 15) dX1_strike_14 rfl ?_
    refine j_pgetI (d := 10) rfl (by decide) 0 (j' := 0) (q := 18) dX1_strike_15 rfl fl_X1_9 (E.2.2 _ _ (hq 10 _ rfl)) rfl rfl ?_
    refine j_icmp_ge (tgt := 52) (q := 21) dX1_strike_18 (by decide) rfl (by first | exact wr_id' (by omega) (by omega) | with_reducible exact wr_bI _ | exact rfl) (by first | exact wr_id' (by omega) (by omega) | with_reducible exact wr_bI _ | exact rfl) (fun h18 => ?_) (fun h18 => ?_)
    · refine j_cg (L' := [some (.inr (.ref (q + 10))), some (.inl c), some (.inl (cStF c 0 i k P).2), some (.inl i)]) (m' := ps m q (cStF c 0 i k P).1) (by simp only [cStF]) rfl (by simp only [cStF]) ?_
      refine j_fgt3 ?_
      exact kk _ rfl
    · omega
  | succ d ih =>
    intro i k P g0 g1 g2 g3 kk
    refine j_iload3 (q := 14) dX1_strike_13 rfl ?_
    refine j_aload0 (q := 15) dX1_strike_14 rfl ?_
    refine j_pgetI (d := 10) rfl (by decide) 0 (j' := 0) (q := 18) dX1_strike_15 rfl fl_X1_9 (E.2.2 _ _ (hq 10 _ rfl)) rfl rfl ?_
    refine j_icmp_ge (tgt := 52) (q := 21) dX1_strike_18 (by decide) rfl (by first | exact wr_id' (by omega) (by omega) | with_reducible exact wr_bI _ | exact rfl) (by first | exact wr_id' (by omega) (by omega) | with_reducible exact wr_bI _ | exact rfl) (fun h18 => ?_) (fun h18 => ?_)
    · omega
    · refine j_aload0 (q := 22) dX1_strike_21 rfl ?_
      refine j_getR 1 (q := 25) dX1_strike_22 rfl fl_X1_15 (E.2.2 _ _ (hq 10 _ rfl)) rfl ?_
      refine j_iload3 (q := 26) dX1_strike_25 rfl ?_
      refine j_pload (q := 27) (d := 11) rfl (by decide) dX1_strike_26 rfl (E.2.2 _ _ (hq 11 _ rfl)) (by first | exact wr_id' (by omega) (by omega) | with_reducible exact wr_bI _ | exact rfl) (by omega) (by omega) ?_
      refine j_iload1 (q := 28) dX1_strike_27 rfl ?_
      refine j_icmp_eq (tgt := 46) (q := 31) dX1_strike_28 (by decide) rfl rfl rfl (fun h28 => ?_) (fun h28 => ?_)
      · refine j_iinc3 (q := 49) dX1_strike_46 rfl rfl (by decide) ?_
        refine j_goto (tgt := 13) dX1_strike_49 (by decide) ?_
        exact ih _ _ _ (by omega) (by omega) (by omega) (by first | assumption | (rw [up_ne (by omega)]; exact g3)) (fun x hx => kk x (hx.trans (by first | (rw [cStF, if_pos (by omega)]; done) | (rw [cStF, if_neg (by omega)]; done))))
      · refine j_aload0 (q := 32) dX1_strike_31 rfl ?_
        refine j_getR 1 (q := 35) dX1_strike_32 rfl fl_X1_15 (E.2.2 _ _ (hq 10 _ rfl)) rfl ?_
        refine j_iload2 (q := 36) dX1_strike_35 rfl ?_
        refine j_aload0 (q := 37) dX1_strike_36 rfl ?_
        refine j_getR 1 (q := 40) dX1_strike_37 rfl fl_X1_15 (E.2.2 _ _ (hq 10 _ rfl)) rfl ?_
        refine j_iload3 (q := 41) dX1_strike_40 rfl ?_
        refine j_pload (q := 42) (d := 11) rfl (by decide) dX1_strike_41 rfl (E.2.2 _ _ (hq 11 _ rfl)) (by first | exact wr_id' (by omega) (by omega) | with_reducible exact wr_bI _ | exact rfl) (by omega) (by omega) ?_
        refine j_pstore (q := 43) (d := 11) rfl (by decide) dX1_strike_42 rfl (E.2.2 _ _ (hq 11 _ rfl)) (by first | exact wr_id' (by omega) (by omega) | with_reducible exact wr_bI _ | exact rfl) (by omega) (by omega) ?_
        refine j_iinc2 (q := 46) dX1_strike_43 rfl rfl (by decide) ?_
        refine j_iinc3 (q := 49) dX1_strike_46 rfl rfl (by decide) ?_
        refine j_goto (tgt := 13) dX1_strike_49 (by decide) ?_
        exact ih _ _ _ (by omega) (by omega) (by omega) (by first | assumption | (rw [up_ne (by omega)]; exact g3)) (fun x hx => kk x (hx.trans (by first | (rw [cStF, if_pos (by omega)]; done) | (rw [cStF, if_neg (by omega)]; done))))
theorem ct_X1_strike {G : GX} {sh : List SH} (E : EV G sh) {m P : Mem} {q : Nat} (hq : PA q) {c : Int} (h1 : 0 ≤ c ∧ c < 64) (hd : CD P) : CT G sh iX1_strike 0 0 [.inr (.ref (q + 10)), .inl c] (ps m q P) none (ps m q (cStr P c)) := by
  refine j_met (L0 := [some (.inr (.ref (q + 10))), some (.inl c), none, none]) (by decide) E.1 E.2.1 rfl (Nat.le_of_ble_eq_true rfl) ?_
  have hd1 := hd.1
  refine j_aload0 (q := 1) dX1_strike_0 rfl ?_
  refine j_iload1 (q := 2) dX1_strike_1 rfl ?_
  refine j_callV1 (Mc := iX1_isOwed) (q := 5) (c' := 0) (s' := 0) dX1_strike_2 rfl kV_X1_isOwed jw_665 ⟨by decide, by decide⟩ (E.2.2 _ _ (hq 10 _ rfl)) rfl rfl rfl (Nat.le_refl _) (Nat.le_refl _) (ct_X1_isOwed E hq (by omega)) ?_
  refine j_ifne_b (tgt := 9) (q := 8) dX1_strike_5 (by decide) rfl (fun h5 => ?_) (fun h5 => ?_)
  · refine j_iconst (q := 10) dX1_strike_9 rfl ?_
    refine j_istore2 (q := 11) dX1_strike_10 rfl rfl (by decide) ?_
    refine j_iconst (q := 12) dX1_strike_11 rfl ?_
    refine j_istore3 (q := 13) dX1_strike_12 rfl rfl (by decide) ?_
    refine lp_X1_strike E hq hd1 (P 10 0).toNat 0 0 P (by omega) (by omega) (by omega) rfl ?_
    intro x hx
    subst hx
    refine j_aload0 (q := 53) dX1_strike_52 rfl ?_
    refine j_getR 2 (q := 56) dX1_strike_53 rfl fl_X1_19 (E.2.2 _ _ (hq 10 _ rfl)) rfl ?_
    refine j_iload1 (q := 57) dX1_strike_56 rfl ?_
    refine j_iconst (q := 58) dX1_strike_57 rfl ?_
    refine j_pstore (q := 59) (d := 12) rfl (by decide) dX1_strike_58 rfl (E.2.2 _ _ (hq 12 _ rfl)) (by first | exact wr_id' (by omega) (by omega) | with_reducible exact wr_bI _ | exact rfl) (by omega) (by omega) ?_
    refine j_aload0 (q := 60) dX1_strike_59 rfl ?_
    refine j_iload2 (q := 61) dX1_strike_60 rfl ?_
    refine j_pputI (d := 10) rfl (by decide) 0 (j' := 0) (q := 64) dX1_strike_61 rfl fw_X1_9 (E.2.2 _ _ (hq 10 _ rfl)) rfl rfl ?_
    exact j_return dX1_strike_64 rfl (by rw [cStr, if_pos (by assumption)])
  · exact j_return dX1_strike_8 rfl (by rw [cStr, if_neg (nb (by assumption))])
def cAT (P : Mem) (v : Int) : Mem := up (up P 14 (P 13 0) v) 13 0 (P 13 0 + 1)
def cAI (P : Mem) (f r c : Int) : Mem := up (up (up (up P 18 (P 17 0) f) 19 (P 17 0) r) 20 (P 17 0) c) 17 0 (P 17 0 + 1)
theorem ct_X5_has {G : GX} {sh : List SH} (E : EV G sh) {m P : Mem} {q : Nat} (hq : PA q) {t : Int} (h1 : -2147483648 ≤ t ∧ t < 2147483648) (h2 : 0 ≤ P 13 0 ∧ P 13 0 ≤ 6) : CT G sh iX5_has 0 0 [.inr (.ref (q + 13)), .inl t] (ps m q P) (some (.inl (bI (wi t 0 (P 13 0 - 1))))) (ps m q P) := by
  refine j_met (L0 := [some (.inr (.ref (q + 13))), some (.inl t)]) (by decide) E.1 E.2.1 rfl (Nat.le_of_ble_eq_true rfl) ?_
  refine j_iconst (q := 1) dX5_has_0 rfl ?_
  refine j_iload1 (q := 2) dX5_has_1 rfl ?_
  refine j_icmp_gt (tgt := 17) (q := 5) dX5_has_2 (by decide) rfl (by first | exact wr_id' (by omega) (by omega) | with_reducible exact wr_bI _ | exact rfl) (by first | exact wr_id' (by omega) (by omega) | with_reducible exact wr_bI _ | exact rfl) (fun h2 => ?_) (fun h2 => ?_)
  · refine j_iconst (q := 18) dX5_has_17 rfl ?_
    exact j_zreturn dX5_has_18 rfl (by decide) (by first | exact bI_t (by omega) | exact bI_f (by omega) | simp [bI, *]) (rfl)
  · refine j_iload1 (q := 6) dX5_has_5 rfl ?_
    refine j_aload0 (q := 7) dX5_has_6 rfl ?_
    refine j_pgetI (d := 13) rfl (by decide) 0 (j' := 0) (q := 10) dX5_has_7 rfl fl_X5_9 (E.2.2 _ _ (hq 13 _ rfl)) rfl rfl ?_
    refine j_icmp_ge (tgt := 17) (q := 13) dX5_has_10 (by decide) rfl (by first | exact wr_id' (by omega) (by omega) | with_reducible exact wr_bI _ | exact rfl) (by first | exact wr_id' (by omega) (by omega) | with_reducible exact wr_bI _ | exact rfl) (fun h10 => ?_) (fun h10 => ?_)
    · refine j_iconst (q := 18) dX5_has_17 rfl ?_
      exact j_zreturn dX5_has_18 rfl (by decide) (by first | exact bI_t (by omega) | exact bI_f (by omega) | simp [bI, *]) (rfl)
    · refine j_iconst (q := 14) dX5_has_13 rfl ?_
      refine j_goto (tgt := 18) dX5_has_14 (by decide) ?_
      exact j_zreturn dX5_has_18 rfl (by decide) (by first | exact bI_t (by omega) | exact bI_f (by omega) | simp [bI, *]) (rfl)
theorem ct_X2_has {G : GX} {sh : List SH} (E : EV G sh) {m P : Mem} {q : Nat} (hq : PA q) {t : Int} (h1 : -2147483648 ≤ t ∧ t < 2147483648) (h2 : 0 ≤ P 17 0 ∧ P 17 0 ≤ 3) : CT G sh iX2_has 0 0 [.inr (.ref (q + 17)), .inl t] (ps m q P) (some (.inl (bI (wi t 0 (P 17 0 - 1))))) (ps m q P) := by
  refine j_met (L0 := [some (.inr (.ref (q + 17))), some (.inl t)]) (by decide) E.1 E.2.1 rfl (Nat.le_of_ble_eq_true rfl) ?_
  refine j_iconst (q := 1) dX2_has_0 rfl ?_
  refine j_iload1 (q := 2) dX2_has_1 rfl ?_
  refine j_icmp_gt (tgt := 17) (q := 5) dX2_has_2 (by decide) rfl (by first | exact wr_id' (by omega) (by omega) | with_reducible exact wr_bI _ | exact rfl) (by first | exact wr_id' (by omega) (by omega) | with_reducible exact wr_bI _ | exact rfl) (fun h2 => ?_) (fun h2 => ?_)
  · refine j_iconst (q := 18) dX2_has_17 rfl ?_
    exact j_zreturn dX2_has_18 rfl (by decide) (by first | exact bI_t (by omega) | exact bI_f (by omega) | simp [bI, *]) (rfl)
  · refine j_iload1 (q := 6) dX2_has_5 rfl ?_
    refine j_aload0 (q := 7) dX2_has_6 rfl ?_
    refine j_pgetI (d := 17) rfl (by decide) 0 (j' := 0) (q := 10) dX2_has_7 rfl fl_X2_9 (E.2.2 _ _ (hq 17 _ rfl)) rfl rfl ?_
    refine j_icmp_ge (tgt := 17) (q := 13) dX2_has_10 (by decide) rfl (by first | exact wr_id' (by omega) (by omega) | with_reducible exact wr_bI _ | exact rfl) (by first | exact wr_id' (by omega) (by omega) | with_reducible exact wr_bI _ | exact rfl) (fun h10 => ?_) (fun h10 => ?_)
    · refine j_iconst (q := 18) dX2_has_17 rfl ?_
      exact j_zreturn dX2_has_18 rfl (by decide) (by first | exact bI_t (by omega) | exact bI_f (by omega) | simp [bI, *]) (rfl)
    · refine j_iconst (q := 14) dX2_has_13 rfl ?_
      refine j_goto (tgt := 18) dX2_has_14 (by decide) ?_
      exact j_zreturn dX2_has_18 rfl (by decide) (by first | exact bI_t (by omega) | exact bI_f (by omega) | simp [bI, *]) (rfl)
theorem ct_X5_enter {G : GX} {sh : List SH} (E : EV G sh) {m P : Mem} {q : Nat} (hq : PA q) {v : Int} (h2 : 0 ≤ P 13 0 ∧ P 13 0 < 6) : CT G sh iX5_enter 0 0 [.inr (.ref (q + 13)), .inl v] (ps m q P) (some (.inl (P 13 0))) (ps m q (cAT P v)) := by
  refine j_met (L0 := [some (.inr (.ref (q + 13))), some (.inl v)]) (by decide) E.1 E.2.1 rfl (Nat.le_of_ble_eq_true rfl) ?_
  refine j_aload0 (q := 1) dX5_enter_0 rfl ?_
  refine j_pgetI (d := 13) rfl (by decide) 0 (j' := 0) (q := 4) dX5_enter_1 rfl fl_X5_9 (E.2.2 _ _ (hq 13 _ rfl)) rfl rfl ?_
  refine j_bipush (q := 6) dX5_enter_4 rfl rfl ?_
  refine j_icmp_lt (tgt := 11) (q := 9) dX5_enter_6 (by decide) rfl (by first | exact wr_id' (by omega) (by omega) | with_reducible exact wr_bI _ | exact rfl) (by first | exact wr_id' (by omega) (by omega) | with_reducible exact wr_bI _ | exact rfl) (fun h6 => ?_) (fun h6 => ?_)
  · refine j_aload0 (q := 12) dX5_enter_11 rfl ?_
    refine j_getR 1 (q := 15) dX5_enter_12 rfl fl_X5_15 (E.2.2 _ _ (hq 13 _ rfl)) rfl ?_
    refine j_aload0 (q := 16) dX5_enter_15 rfl ?_
    refine j_pgetI (d := 13) rfl (by decide) 0 (j' := 0) (q := 19) dX5_enter_16 rfl fl_X5_9 (E.2.2 _ _ (hq 13 _ rfl)) rfl rfl ?_
    refine j_iload1 (q := 20) dX5_enter_19 rfl ?_
    refine j_pstore (q := 21) (d := 14) rfl (by decide) dX5_enter_20 rfl (E.2.2 _ _ (hq 14 _ rfl)) (by first | exact wr_id' (by omega) (by omega) | with_reducible exact wr_bI _ | exact rfl) (by omega) (by omega) ?_
    have e1 : up P 14 (P 13 0) v 13 0 = P 13 0 := up_ne (by omega)
    refine j_aload0 (q := 22) dX5_enter_21 rfl ?_
    refine j_dup (q := 23) dX5_enter_22 rfl rfl ?_
    refine j_pgetI (d := 13) rfl (by decide) 0 (j' := 0) (q := 26) dX5_enter_23 rfl fl_X5_9 (E.2.2 _ _ (hq 13 _ rfl)) rfl rfl ?_
    refine j_iconst (q := 27) dX5_enter_26 rfl ?_
    refine j_iadd (q := 28) dX5_enter_27 rfl ?_
    refine j_pputI (d := 13) rfl (by decide) 0 (j' := 0) (q := 31) dX5_enter_28 rfl fw_X5_9 (E.2.2 _ _ (hq 13 _ rfl)) rfl rfl ?_
    refine j_aload0 (q := 32) dX5_enter_31 rfl ?_
    refine j_pgetI (d := 13) rfl (by decide) 0 (j' := 0) (q := 35) dX5_enter_32 rfl fl_X5_9 (E.2.2 _ _ (hq 13 _ rfl)) rfl rfl ?_
    refine j_iconst (q := 36) dX5_enter_35 rfl ?_
    refine j_isub (q := 37) dX5_enter_36 rfl ?_
    exact j_ireturn dX5_enter_37 rfl (by rw [up_at, e1]; congr 1; omega) (by rw [e1]; rfl)
  · omega
theorem ct_X2_enter {G : GX} {sh : List SH} (E : EV G sh) {m P : Mem} {q : Nat} (hq : PA q) {f : Int} {r : Int} {c : Int} (h2 : 0 ≤ P 17 0 ∧ P 17 0 < 3) : CT G sh iX2_enter 0 0 [.inr (.ref (q + 17)), .inl f, .inl r, .inl c] (ps m q P) (some (.inl (P 17 0))) (ps m q (cAI P f r c)) := by
  refine j_met (L0 := [some (.inr (.ref (q + 17))), some (.inl f), some (.inl r), some (.inl c)]) (by decide) E.1 E.2.1 rfl (Nat.le_of_ble_eq_true rfl) ?_
  refine j_aload0 (q := 1) dX2_enter_0 rfl ?_
  refine j_pgetI (d := 17) rfl (by decide) 0 (j' := 0) (q := 4) dX2_enter_1 rfl fl_X2_9 (E.2.2 _ _ (hq 17 _ rfl)) rfl rfl ?_
  refine j_iconst (q := 5) dX2_enter_4 rfl ?_
  refine j_icmp_lt (tgt := 10) (q := 8) dX2_enter_5 (by decide) rfl (by first | exact wr_id' (by omega) (by omega) | with_reducible exact wr_bI _ | exact rfl) (by first | exact wr_id' (by omega) (by omega) | with_reducible exact wr_bI _ | exact rfl) (fun h5 => ?_) (fun h5 => ?_)
  · refine j_aload0 (q := 11) dX2_enter_10 rfl ?_
    refine j_getR 1 (q := 14) dX2_enter_11 rfl fl_X2_15 (E.2.2 _ _ (hq 17 _ rfl)) rfl ?_
    refine j_aload0 (q := 15) dX2_enter_14 rfl ?_
    refine j_pgetI (d := 17) rfl (by decide) 0 (j' := 0) (q := 18) dX2_enter_15 rfl fl_X2_9 (E.2.2 _ _ (hq 17 _ rfl)) rfl rfl ?_
    refine j_iload1 (q := 19) dX2_enter_18 rfl ?_
    refine j_pstore (q := 20) (d := 18) rfl (by decide) dX2_enter_19 rfl (E.2.2 _ _ (hq 18 _ rfl)) (by first | exact wr_id' (by omega) (by omega) | with_reducible exact wr_bI _ | exact rfl) (by omega) (by omega) ?_
    have e1 : up P 18 (P 17 0) f 17 0 = P 17 0 := up_ne (by omega)
    refine j_aload0 (q := 21) dX2_enter_20 rfl ?_
    refine j_getR 2 (q := 24) dX2_enter_21 rfl fl_X2_19 (E.2.2 _ _ (hq 17 _ rfl)) rfl ?_
    refine j_aload0 (q := 25) dX2_enter_24 rfl ?_
    refine j_pgetI (d := 17) rfl (by decide) 0 (j' := 0) (q := 28) dX2_enter_25 rfl fl_X2_9 (E.2.2 _ _ (hq 17 _ rfl)) rfl rfl ?_
    refine j_iload2 (q := 29) dX2_enter_28 rfl ?_
    refine j_pstore (q := 30) (d := 19) rfl (by decide) dX2_enter_29 rfl (E.2.2 _ _ (hq 19 _ rfl)) (by first | exact wr_id' (by omega) (by omega) | with_reducible exact wr_bI _ | exact rfl) (by omega) (by omega) ?_
    refine j_mem (m' := ps m q (up (up P 18 (P 17 0) f) 19 (P 17 0) r)) (by rw [e1]) ?_
    have e2 : up (up P 18 (P 17 0) f) 19 (P 17 0) r 17 0 = P 17 0 := by rw [up_ne (by omega)]; exact e1
    refine j_aload0 (q := 31) dX2_enter_30 rfl ?_
    refine j_getR 3 (q := 34) dX2_enter_31 rfl fl_X2_22 (E.2.2 _ _ (hq 17 _ rfl)) rfl ?_
    refine j_aload0 (q := 35) dX2_enter_34 rfl ?_
    refine j_pgetI (d := 17) rfl (by decide) 0 (j' := 0) (q := 38) dX2_enter_35 rfl fl_X2_9 (E.2.2 _ _ (hq 17 _ rfl)) rfl rfl ?_
    refine j_iload3 (q := 39) dX2_enter_38 rfl ?_
    refine j_pstore (q := 40) (d := 20) rfl (by decide) dX2_enter_39 rfl (E.2.2 _ _ (hq 20 _ rfl)) (by first | exact wr_id' (by omega) (by omega) | with_reducible exact wr_bI _ | exact rfl) (by omega) (by omega) ?_
    refine j_mem (m' := ps m q (up (up (up P 18 (P 17 0) f) 19 (P 17 0) r) 20 (P 17 0) c)) (by rw [e2]) ?_
    have e3 : up (up (up P 18 (P 17 0) f) 19 (P 17 0) r) 20 (P 17 0) c 17 0 = P 17 0 := by rw [up_ne (by omega)]; exact e2
    refine j_aload0 (q := 41) dX2_enter_40 rfl ?_
    refine j_dup (q := 42) dX2_enter_41 rfl rfl ?_
    refine j_pgetI (d := 17) rfl (by decide) 0 (j' := 0) (q := 45) dX2_enter_42 rfl fl_X2_9 (E.2.2 _ _ (hq 17 _ rfl)) rfl rfl ?_
    refine j_iconst (q := 46) dX2_enter_45 rfl ?_
    refine j_iadd (q := 47) dX2_enter_46 rfl ?_
    refine j_pputI (d := 17) rfl (by decide) 0 (j' := 0) (q := 50) dX2_enter_47 rfl fw_X2_9 (E.2.2 _ _ (hq 17 _ rfl)) rfl rfl ?_
    refine j_aload0 (q := 51) dX2_enter_50 rfl ?_
    refine j_pgetI (d := 17) rfl (by decide) 0 (j' := 0) (q := 54) dX2_enter_51 rfl fl_X2_9 (E.2.2 _ _ (hq 17 _ rfl)) rfl rfl ?_
    refine j_iconst (q := 55) dX2_enter_54 rfl ?_
    refine j_isub (q := 56) dX2_enter_55 rfl ?_
    exact j_ireturn dX2_enter_56 rfl (by rw [up_at, e3]; congr 1; omega) (by rw [e3]; rfl)
  · omega

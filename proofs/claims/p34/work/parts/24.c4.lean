/-! the class: copies, saves, text -/
def cpM (m : Mem) (a b : Nat) (N : Int) : Mem := fun c j => if c = b ∧ 0 ≤ j ∧ j < N then m a j else m c j
def cpP (P : Mem) (d : Nat) (f : Int → Int) (N : Int) : Mem := fun c j => if c = d ∧ 0 ≤ j ∧ j < N then f j else P c j
theorem cpM_ps {m P : Mem} {q r d e : Nat} {N : Int} (hd : d < 24) (hr : ¬ (q ≤ r + e ∧ r + e < q + 24)) : cpM (ps m q P) (r + e) (q + d) N = ps m q (cpP P d (m (r + e)) N) := by
  funext c j
  unfold cpM
  rw [ps_ne hr]
  by_cases h : c = q + d ∧ 0 ≤ j ∧ j < N
  · rw [if_pos h]
    obtain ⟨rfl, h1⟩ := h
    rw [ps_at hd]; unfold cpP; rw [if_pos ⟨rfl, h1⟩]
  · rw [if_neg h]
    unfold ps
    split
    · rename_i hc
      unfold cpP
      rw [if_neg (fun z => h ⟨by omega, z.2⟩)]
    · rfl
theorem cpP_o {P : Mem} {d : Nat} {f : Int → Int} {N : Int} {c : Nat} {j : Int} (h : ¬ c = d) : cpP P d f N c j = P c j := if_neg (fun z => h z.1)
theorem cpP_i {P : Mem} {d : Nat} {f : Int → Int} {N : Int} {j : Int} (h : 0 ≤ j ∧ j < N) : cpP P d f N d j = f j := if_pos ⟨rfl, h⟩
theorem cpP_0 {P : Mem} {d : Nat} {f : Int → Int} : P = cpP P d f 0 := by
  funext c j
  unfold cpP
  rw [if_neg (by omega)]
theorem cpP_s {P : Mem} {d : Nat} {f : Int → Int} {k : Int} (hk : 0 ≤ k) : up (cpP P d f k) d k (f k) = cpP P d f (k + 1) := by
  funext c j
  unfold up cpP
  by_cases h1 : c = d ∧ j = k
  · rw [if_pos h1, if_pos ⟨h1.1, by omega⟩, h1.2]
  · rw [if_neg h1]
    by_cases h2 : c = d ∧ 0 ≤ j ∧ j < k
    · rw [if_pos h2, if_pos ⟨h2.1, by omega⟩]
    · rw [if_neg h2, if_neg (fun z => h2 ⟨z.1, z.2.1, by have := z.2.2; have := fun q => h1 ⟨z.1, q⟩; omega⟩)]
theorem jws_set {G : GX} {sh : List SH} {m m' : Mem} {k : Nat} {x : SH} {e : va_E} (h : sh[k]? = some x) (he : jel G x (m' k) = e) (ho : ∀ i, ¬ i = k → m' i = m i) : (jws G sh m).set k (gA G k, e) = jws G sh m' := by
  have hk : k < sh.length := (List.getElem?_eq_some_iff.mp h).1
  apply List.ext_getElem?
  intro i
  rw [List.getElem?_set]
  by_cases hi : k = i
  · subst hi
    rw [if_pos rfl, jws_len, if_pos hk, jws_at h, he]
  · rw [if_neg hi]
    by_cases hil : i < sh.length
    · rw [jws_at (List.getElem?_eq_getElem hil), jws_at (List.getElem?_eq_getElem hil), ho i (fun z => hi z.symm)]
    · rw [List.getElem?_eq_none (by rw [jws_len]; omega), List.getElem?_eq_none (by rw [jws_len]; omega)]
theorem j_copy {G : GX} {M : MI} {mc ms : Nat} {F : FinT} {pc : Nat} {L : List (Option PV)} {S : List PV} {m : Mem} {k n : Nat} {sh : List SH} {a b N idx q : Nat} (hd : decode (mB M) pc = .ok (.invokestatic idx, 3)) (hq : pc + 3 = q) (hl : Cond.methodLink (mY M).cls idx arraycopyName ∈ jall) (ha : sh[a]? = some (.inr (0, N))) (hb : sh[b]? = some (.inr (0, N))) (hN : N ≤ 600) (hroom : 1 ≤ mF M ∧ jcats S + 40 ≤ mW M) (kk : J G sh M mc ms F q L S (cpM m a b N) k n) : J G sh M mc ms F pc L (.inl (N : Int) :: .inl 0 :: .inr (.ref b) :: .inl 0 :: .inr (.ref a) :: S) m k n := by
  intro p e s mm args below meth c0 R C H locs ls hP hS hL
  subst hq
  have z0 : (jI 0).toNatClampNeg = 0 := rfl
  have zN : (jI (N : Int)).toNatClampNeg = N := by
    show (wr (N : Int)).toNat = N
    rw [wr_id' (by omega) (by omega)]; omega
  have nN : ¬ jI (N : Int) < 0 := fun h => by
    have := Int32.lt_iff_toInt_lt.mp h
    have e : (jI (N : Int)).toInt = N := wr_id' (by omega) (by omega)
    rw [e] at this
    exact absurd this (by show ¬ (N : Int) < 0; omega)
  have n0 : ¬ jI 0 < 0 := by decide
  have hf1 : 1 ≤ R.frames := by rw [C.room]; exact hroom.1
  have hl1 : ((S.map (jv G)).map fun v => v.category).sum + (nativeFrameWords "java/lang/System" "arraycopy" 5 + 11) ≤ R.locals := by
    have h1 : nativeFrameWords "java/lang/System" "arraycopy" 5 + 11 ≤ 40 := by decide
    have h2 := hroom.2
    rw [jcats_eq, C.room]
    show jcats S + _ ≤ mW M
    omega
  refine va_copyi C.x C.b (C.ml.trans hL.1.symm) C.own (C.ts _ hl) (C.ts _ jw_168) (C.ts _ jw_167) (C.ts _ jw_9) C.k hP (C.d m) hS a b 0 0 (f := fun j => jI (m a (j : Int))) (g := fun j => jI (m b (j : Int))) (jws_at ha) (jws_at hb) rfl rfl rfl n0 n0 nN (by rw [z0, zN]; omega) (by rw [z0, zN]; omega) (fun i _ => rfl) hf1 hl1 hd (fun H1 locs1 hP1 hD1 hS1 => ?_)
  have e1 := jws_set (G := G) (m := m) (m' := cpM m a b N) (k := b) hb (e := .inl (gC G 0, N, .inl (va_cpy (fun j => jI (m a (j : Int))) (fun j => jI (m b (j : Int))) (jI 0).toNatClampNeg (jI 0).toNatClampNeg (jI (N : Int)).toNatClampNeg))) (by
    show Sum.inl (gC G 0, N, Sum.inl (fun j : Nat => jI (cpM m a b N b (j : Int)))) = _
    congr 4
    funext j
    unfold va_cpy cpM
    rw [z0, zN]
    by_cases h : j < N
    · rw [if_pos ⟨rfl, by omega, by omega⟩, if_pos (by omega), show 0 + (j - 0) = j by omega]
    · rw [if_neg (fun z => h (by omega)), if_neg (by omega)]) (fun k hk => by funext j; exact if_neg (fun z => hk z.1))
  have hP2 : va_P (gD G) vwCl (jws G sh (cpM m a b N)) H1 := e1 ▸ hP1
  exact kk p e s mm args below meth c0 R C H1 locs1 ls hP2 hS1 hL
theorem ct_X7_copyRow {G : GX} {sh : List SH} (E : EV G sh) {m : Mem} {a b N : Nat} (ha : sh[a]? = some (.inr (0, N))) (hb : sh[b]? = some (.inr (0, N))) (hN : N ≤ 600) : CT G sh iX7_copyRow 0 0 [.inr (.ref a), .inr (.ref b)] m none (cpM m a b N) := by
  refine j_met (L0 := [some (.inr (.ref a)), some (.inr (.ref b))]) (by decide) E.1 E.2.1 rfl (Nat.le_of_ble_eq_true rfl) ?_
  refine j_aload0 (q := 1) dX7_copyRow_0 rfl ?_
  refine j_iconst (q := 2) dX7_copyRow_1 rfl ?_
  refine j_aload1 (q := 3) dX7_copyRow_2 rfl ?_
  refine j_iconst (q := 4) dX7_copyRow_3 rfl ?_
  refine j_aload0 (q := 5) dX7_copyRow_4 rfl ?_
  refine j_alen (q := 6) (v := N) dX7_copyRow_5 rfl ha rfl ?_
  refine j_aload1 (q := 7) dX7_copyRow_6 rfl ?_
  refine j_alen (q := 8) (v := N) dX7_copyRow_7 rfl hb rfl ?_
  refine j_min (q := 11) dX7_copyRow_8 rfl jw_163 ⟨by decide, Nat.le_of_ble_eq_true rfl⟩ (Nat.le_refl _) (Nat.le_refl _) ?_
  rw [ite_self]
  refine j_copy (q := 14) dX7_copyRow_11 rfl jw_166 ha hb hN ⟨by decide, Nat.le_of_ble_eq_true rfl⟩ ?_
  exact j_return dX7_copyRow_14 rfl rfl
def bcC (P Q : Mem) : Mem := cpP (cpP (cpP (cpP (cpP (cpP (up P 3 0 (lo (Q 3 0)).toInt) 4 (Q 4) 64) 5 (Q 5) 64) 6 (Q 6) 64) 7 (Q 7) 64) 8 (Q 8) 64) 9 (Q 9) 64
def bcD (P Q : Mem) : Mem := cpP (cpP (up P 10 0 (Q 10 0)) 11 (Q 11) 64) 12 (Q 12) 64
def bcT (P Q : Mem) : Mem := cpP (cpP (cpP (up P 13 0 (Q 13 0)) 14 (Q 14) 6) 15 (Q 15) 6) 16 (Q 16) 6
def bcI (P Q : Mem) : Mem := cpP (cpP (cpP (cpP (cpP (up P 17 0 (Q 17 0)) 18 (Q 18) 3) 19 (Q 19) 3) 20 (Q 20) 3) 21 (Q 21) 3) 22 (Q 22) 3
def bcA (P Q : Mem) : Mem :=
  let P1 := up (up (up P 0 0 (Q 0 0)) 0 1 (Q 0 1)) 0 2 (Q 0 2)
  up (bcI (bcT (bcD (bcC (cpP (cpP P1 1 (Q 1) 8) 2 (Q 2) 19) Q) Q) Q) Q) 0 10 (Q 0 10)
def bcP (P Q : Mem) : Mem := cpP (bcA P Q) 23 (Q 23) (Q 0 10)
theorem ct_X0_become {G : GX} {sh : List SH} (E : EV G sh) {m P : Mem} {q r : Nat} (hq : PA q) (hr : PA r) (hqr : r + 24 ≤ q ∨ q + 24 ≤ r) : CT G sh iX0_become 0 0 [.inr (.ref (q + 3)), .inr (.ref (r + 3))] (ps m q P) none (ps m q (bcC P (pg m r))) := by
  refine j_met (L0 := [some (.inr (.ref (q + 3))), some (.inr (.ref (r + 3)))]) (by decide) E.1 E.2.1 rfl (Nat.le_of_ble_eq_true rfl) ?_
  refine j_aload0 (q := 1) dX0_become_0 rfl ?_
  refine j_aload1 (q := 2) dX0_become_1 rfl ?_
  refine j_qgetL (by omega) 0 (j' := 0) (q := 5) dX0_become_2 rfl fl_X0_9 (E.2.2 _ _ (hr 3 _ rfl)) rfl rfl ?_
  refine j_pputL (d := 3) rfl (by decide) 0 (j' := 0) (q := 8) dX0_become_5 rfl fw_X0_9 (E.2.2 _ _ (hq 3 _ rfl)) rfl rfl ?_
  refine j_aload1 (q := 9) dX0_become_8 rfl ?_
  refine j_getR 1 (q := 12) dX0_become_9 rfl fl_X0_15 (E.2.2 _ _ (hr 3 _ rfl)) rfl ?_
  refine j_aload0 (q := 13) dX0_become_12 rfl ?_
  refine j_getR 1 (q := 16) dX0_become_13 rfl fl_X0_15 (E.2.2 _ _ (hq 3 _ rfl)) rfl ?_
  refine j_callSN2v (Mc := iX7_copyRow) (q := 19) (c' := 0) (s' := 0) dX0_become_16 rfl kS_X7_copyRow (by decide) ⟨by decide, by decide⟩ rfl (Nat.le_refl _) (Nat.le_refl _) (ct_X7_copyRow E (E.2.2 _ _ (hr 4 _ rfl)) (E.2.2 _ _ (hq 4 _ rfl)) (by decide)) ?_
  refine j_mem (cpM_ps (e := 4) (d := 4) (by decide) (by omega)) ?_
  refine j_aload1 (q := 20) dX0_become_19 rfl ?_
  refine j_getR 2 (q := 23) dX0_become_20 rfl fl_X0_19 (E.2.2 _ _ (hr 3 _ rfl)) rfl ?_
  refine j_aload0 (q := 24) dX0_become_23 rfl ?_
  refine j_getR 2 (q := 27) dX0_become_24 rfl fl_X0_19 (E.2.2 _ _ (hq 3 _ rfl)) rfl ?_
  refine j_callSN2v (Mc := iX7_copyRow) (q := 30) (c' := 0) (s' := 0) dX0_become_27 rfl kS_X7_copyRow (by decide) ⟨by decide, by decide⟩ rfl (Nat.le_refl _) (Nat.le_refl _) (ct_X7_copyRow E (E.2.2 _ _ (hr 5 _ rfl)) (E.2.2 _ _ (hq 5 _ rfl)) (by decide)) ?_
  refine j_mem (cpM_ps (e := 5) (d := 5) (by decide) (by omega)) ?_
  refine j_aload1 (q := 31) dX0_become_30 rfl ?_
  refine j_getR 3 (q := 34) dX0_become_31 rfl fl_X0_22 (E.2.2 _ _ (hr 3 _ rfl)) rfl ?_
  refine j_aload0 (q := 35) dX0_become_34 rfl ?_
  refine j_getR 3 (q := 38) dX0_become_35 rfl fl_X0_22 (E.2.2 _ _ (hq 3 _ rfl)) rfl ?_
  refine j_callSN2v (Mc := iX7_copyRow) (q := 41) (c' := 0) (s' := 0) dX0_become_38 rfl kS_X7_copyRow (by decide) ⟨by decide, by decide⟩ rfl (Nat.le_refl _) (Nat.le_refl _) (ct_X7_copyRow E (E.2.2 _ _ (hr 6 _ rfl)) (E.2.2 _ _ (hq 6 _ rfl)) (by decide)) ?_
  refine j_mem (cpM_ps (e := 6) (d := 6) (by decide) (by omega)) ?_
  refine j_aload1 (q := 42) dX0_become_41 rfl ?_
  refine j_getR 4 (q := 45) dX0_become_42 rfl fl_X0_25 (E.2.2 _ _ (hr 3 _ rfl)) rfl ?_
  refine j_aload0 (q := 46) dX0_become_45 rfl ?_
  refine j_getR 4 (q := 49) dX0_become_46 rfl fl_X0_25 (E.2.2 _ _ (hq 3 _ rfl)) rfl ?_
  refine j_callSN2v (Mc := iX7_copyRow) (q := 52) (c' := 0) (s' := 0) dX0_become_49 rfl kS_X7_copyRow (by decide) ⟨by decide, by decide⟩ rfl (Nat.le_refl _) (Nat.le_refl _) (ct_X7_copyRow E (E.2.2 _ _ (hr 7 _ rfl)) (E.2.2 _ _ (hq 7 _ rfl)) (by decide)) ?_
  refine j_mem (cpM_ps (e := 7) (d := 7) (by decide) (by omega)) ?_
  refine j_aload1 (q := 53) dX0_become_52 rfl ?_
  refine j_getR 5 (q := 56) dX0_become_53 rfl fl_X0_28 (E.2.2 _ _ (hr 3 _ rfl)) rfl ?_
  refine j_aload0 (q := 57) dX0_become_56 rfl ?_
  refine j_getR 5 (q := 60) dX0_become_57 rfl fl_X0_28 (E.2.2 _ _ (hq 3 _ rfl)) rfl ?_
  refine j_callSN2v (Mc := iX7_copyRow) (q := 63) (c' := 0) (s' := 0) dX0_become_60 rfl kS_X7_copyRow (by decide) ⟨by decide, by decide⟩ rfl (Nat.le_refl _) (Nat.le_refl _) (ct_X7_copyRow E (E.2.2 _ _ (hr 8 _ rfl)) (E.2.2 _ _ (hq 8 _ rfl)) (by decide)) ?_
  refine j_mem (cpM_ps (e := 8) (d := 8) (by decide) (by omega)) ?_
  refine j_aload1 (q := 64) dX0_become_63 rfl ?_
  refine j_getR 6 (q := 67) dX0_become_64 rfl fl_X0_31 (E.2.2 _ _ (hr 3 _ rfl)) rfl ?_
  refine j_aload0 (q := 68) dX0_become_67 rfl ?_
  refine j_getR 6 (q := 71) dX0_become_68 rfl fl_X0_31 (E.2.2 _ _ (hq 3 _ rfl)) rfl ?_
  refine j_callSN2v (Mc := iX7_copyRow) (q := 74) (c' := 0) (s' := 0) dX0_become_71 rfl kS_X7_copyRow (by decide) ⟨by decide, by decide⟩ rfl (Nat.le_refl _) (Nat.le_refl _) (ct_X7_copyRow E (E.2.2 _ _ (hr 9 _ rfl)) (E.2.2 _ _ (hq 9 _ rfl)) (by decide)) ?_
  refine j_mem (cpM_ps (e := 9) (d := 9) (by decide) (by omega)) ?_
  exact j_return dX0_become_74 rfl (rfl)
theorem ct_X1_become {G : GX} {sh : List SH} (E : EV G sh) {m P : Mem} {q r : Nat} (hq : PA q) (hr : PA r) (hqr : r + 24 ≤ q ∨ q + 24 ≤ r) : CT G sh iX1_become 0 0 [.inr (.ref (q + 10)), .inr (.ref (r + 10))] (ps m q P) none (ps m q (bcD P (pg m r))) := by
  refine j_met (L0 := [some (.inr (.ref (q + 10))), some (.inr (.ref (r + 10)))]) (by decide) E.1 E.2.1 rfl (Nat.le_of_ble_eq_true rfl) ?_
  refine j_aload0 (q := 1) dX1_become_0 rfl ?_
  refine j_aload1 (q := 2) dX1_become_1 rfl ?_
  refine j_qgetI (by omega) 0 (j' := 0) (q := 5) dX1_become_2 rfl fl_X1_9 (E.2.2 _ _ (hr 10 _ rfl)) rfl rfl ?_
  refine j_pputI (d := 10) rfl (by decide) 0 (j' := 0) (q := 8) dX1_become_5 rfl fw_X1_9 (E.2.2 _ _ (hq 10 _ rfl)) rfl rfl ?_
  refine j_aload1 (q := 9) dX1_become_8 rfl ?_
  refine j_getR 1 (q := 12) dX1_become_9 rfl fl_X1_15 (E.2.2 _ _ (hr 10 _ rfl)) rfl ?_
  refine j_aload0 (q := 13) dX1_become_12 rfl ?_
  refine j_getR 1 (q := 16) dX1_become_13 rfl fl_X1_15 (E.2.2 _ _ (hq 10 _ rfl)) rfl ?_
  refine j_callSN2v (Mc := iX7_copyRow) (q := 19) (c' := 0) (s' := 0) dX1_become_16 rfl kS_X7_copyRow (by decide) ⟨by decide, by decide⟩ rfl (Nat.le_refl _) (Nat.le_refl _) (ct_X7_copyRow E (E.2.2 _ _ (hr 11 _ rfl)) (E.2.2 _ _ (hq 11 _ rfl)) (by decide)) ?_
  refine j_mem (cpM_ps (e := 11) (d := 11) (by decide) (by omega)) ?_
  refine j_aload1 (q := 20) dX1_become_19 rfl ?_
  refine j_getR 2 (q := 23) dX1_become_20 rfl fl_X1_19 (E.2.2 _ _ (hr 10 _ rfl)) rfl ?_
  refine j_aload0 (q := 24) dX1_become_23 rfl ?_
  refine j_getR 2 (q := 27) dX1_become_24 rfl fl_X1_19 (E.2.2 _ _ (hq 10 _ rfl)) rfl ?_
  refine j_callSN2v (Mc := iX7_copyRow) (q := 30) (c' := 0) (s' := 0) dX1_become_27 rfl kS_X7_copyRow (by decide) ⟨by decide, by decide⟩ rfl (Nat.le_refl _) (Nat.le_refl _) (ct_X7_copyRow E (E.2.2 _ _ (hr 12 _ rfl)) (E.2.2 _ _ (hq 12 _ rfl)) (by decide)) ?_
  refine j_mem (cpM_ps (e := 12) (d := 12) (by decide) (by omega)) ?_
  exact j_return dX1_become_30 rfl (rfl)
theorem ct_X5_become {G : GX} {sh : List SH} (E : EV G sh) {m P : Mem} {q r : Nat} (hq : PA q) (hr : PA r) (hqr : r + 24 ≤ q ∨ q + 24 ≤ r) : CT G sh iX5_become 0 0 [.inr (.ref (q + 13)), .inr (.ref (r + 13))] (ps m q P) none (ps m q (bcT P (pg m r))) := by
  refine j_met (L0 := [some (.inr (.ref (q + 13))), some (.inr (.ref (r + 13)))]) (by decide) E.1 E.2.1 rfl (Nat.le_of_ble_eq_true rfl) ?_
  refine j_aload0 (q := 1) dX5_become_0 rfl ?_
  refine j_aload1 (q := 2) dX5_become_1 rfl ?_
  refine j_qgetI (by omega) 0 (j' := 0) (q := 5) dX5_become_2 rfl fl_X5_9 (E.2.2 _ _ (hr 13 _ rfl)) rfl rfl ?_
  refine j_pputI (d := 13) rfl (by decide) 0 (j' := 0) (q := 8) dX5_become_5 rfl fw_X5_9 (E.2.2 _ _ (hq 13 _ rfl)) rfl rfl ?_
  refine j_aload1 (q := 9) dX5_become_8 rfl ?_
  refine j_getR 1 (q := 12) dX5_become_9 rfl fl_X5_15 (E.2.2 _ _ (hr 13 _ rfl)) rfl ?_
  refine j_aload0 (q := 13) dX5_become_12 rfl ?_
  refine j_getR 1 (q := 16) dX5_become_13 rfl fl_X5_15 (E.2.2 _ _ (hq 13 _ rfl)) rfl ?_
  refine j_callSN2v (Mc := iX7_copyRow) (q := 19) (c' := 0) (s' := 0) dX5_become_16 rfl kS_X7_copyRow (by decide) ⟨by decide, by decide⟩ rfl (Nat.le_refl _) (Nat.le_refl _) (ct_X7_copyRow E (E.2.2 _ _ (hr 14 _ rfl)) (E.2.2 _ _ (hq 14 _ rfl)) (by decide)) ?_
  refine j_mem (cpM_ps (e := 14) (d := 14) (by decide) (by omega)) ?_
  refine j_aload1 (q := 20) dX5_become_19 rfl ?_
  refine j_getR 2 (q := 23) dX5_become_20 rfl fl_X5_19 (E.2.2 _ _ (hr 13 _ rfl)) rfl ?_
  refine j_aload0 (q := 24) dX5_become_23 rfl ?_
  refine j_getR 2 (q := 27) dX5_become_24 rfl fl_X5_19 (E.2.2 _ _ (hq 13 _ rfl)) rfl ?_
  refine j_callSN2v (Mc := iX7_copyRow) (q := 30) (c' := 0) (s' := 0) dX5_become_27 rfl kS_X7_copyRow (by decide) ⟨by decide, by decide⟩ rfl (Nat.le_refl _) (Nat.le_refl _) (ct_X7_copyRow E (E.2.2 _ _ (hr 15 _ rfl)) (E.2.2 _ _ (hq 15 _ rfl)) (by decide)) ?_
  refine j_mem (cpM_ps (e := 15) (d := 15) (by decide) (by omega)) ?_
  refine j_aload1 (q := 31) dX5_become_30 rfl ?_
  refine j_getR 3 (q := 34) dX5_become_31 rfl fl_X5_22 (E.2.2 _ _ (hr 13 _ rfl)) rfl ?_
  refine j_aload0 (q := 35) dX5_become_34 rfl ?_
  refine j_getR 3 (q := 38) dX5_become_35 rfl fl_X5_22 (E.2.2 _ _ (hq 13 _ rfl)) rfl ?_
  refine j_callSN2v (Mc := iX7_copyRow) (q := 41) (c' := 0) (s' := 0) dX5_become_38 rfl kS_X7_copyRow (by decide) ⟨by decide, by decide⟩ rfl (Nat.le_refl _) (Nat.le_refl _) (ct_X7_copyRow E (E.2.2 _ _ (hr 16 _ rfl)) (E.2.2 _ _ (hq 16 _ rfl)) (by decide)) ?_
  refine j_mem (cpM_ps (e := 16) (d := 16) (by decide) (by omega)) ?_
  exact j_return dX5_become_41 rfl (rfl)
theorem ct_X2_become {G : GX} {sh : List SH} (E : EV G sh) {m P : Mem} {q r : Nat} (hq : PA q) (hr : PA r) (hqr : r + 24 ≤ q ∨ q + 24 ≤ r) : CT G sh iX2_become 0 0 [.inr (.ref (q + 17)), .inr (.ref (r + 17))] (ps m q P) none (ps m q (bcI P (pg m r))) := by
  refine j_met (L0 := [some (.inr (.ref (q + 17))), some (.inr (.ref (r + 17)))]) (by decide) E.1 E.2.1 rfl (Nat.le_of_ble_eq_true rfl) ?_
  refine j_aload0 (q := 1) dX2_become_0 rfl ?_
  refine j_aload1 (q := 2) dX2_become_1 rfl ?_
  refine j_qgetI (by omega) 0 (j' := 0) (q := 5) dX2_become_2 rfl fl_X2_9 (E.2.2 _ _ (hr 17 _ rfl)) rfl rfl ?_
  refine j_pputI (d := 17) rfl (by decide) 0 (j' := 0) (q := 8) dX2_become_5 rfl fw_X2_9 (E.2.2 _ _ (hq 17 _ rfl)) rfl rfl ?_
  refine j_aload1 (q := 9) dX2_become_8 rfl ?_
  refine j_getR 1 (q := 12) dX2_become_9 rfl fl_X2_15 (E.2.2 _ _ (hr 17 _ rfl)) rfl ?_
  refine j_aload0 (q := 13) dX2_become_12 rfl ?_
  refine j_getR 1 (q := 16) dX2_become_13 rfl fl_X2_15 (E.2.2 _ _ (hq 17 _ rfl)) rfl ?_
  refine j_callSN2v (Mc := iX7_copyRow) (q := 19) (c' := 0) (s' := 0) dX2_become_16 rfl kS_X7_copyRow (by decide) ⟨by decide, by decide⟩ rfl (Nat.le_refl _) (Nat.le_refl _) (ct_X7_copyRow E (E.2.2 _ _ (hr 18 _ rfl)) (E.2.2 _ _ (hq 18 _ rfl)) (by decide)) ?_
  refine j_mem (cpM_ps (e := 18) (d := 18) (by decide) (by omega)) ?_
  refine j_aload1 (q := 20) dX2_become_19 rfl ?_
  refine j_getR 2 (q := 23) dX2_become_20 rfl fl_X2_19 (E.2.2 _ _ (hr 17 _ rfl)) rfl ?_
  refine j_aload0 (q := 24) dX2_become_23 rfl ?_
  refine j_getR 2 (q := 27) dX2_become_24 rfl fl_X2_19 (E.2.2 _ _ (hq 17 _ rfl)) rfl ?_
  refine j_callSN2v (Mc := iX7_copyRow) (q := 30) (c' := 0) (s' := 0) dX2_become_27 rfl kS_X7_copyRow (by decide) ⟨by decide, by decide⟩ rfl (Nat.le_refl _) (Nat.le_refl _) (ct_X7_copyRow E (E.2.2 _ _ (hr 19 _ rfl)) (E.2.2 _ _ (hq 19 _ rfl)) (by decide)) ?_
  refine j_mem (cpM_ps (e := 19) (d := 19) (by decide) (by omega)) ?_
  refine j_aload1 (q := 31) dX2_become_30 rfl ?_
  refine j_getR 3 (q := 34) dX2_become_31 rfl fl_X2_22 (E.2.2 _ _ (hr 17 _ rfl)) rfl ?_
  refine j_aload0 (q := 35) dX2_become_34 rfl ?_
  refine j_getR 3 (q := 38) dX2_become_35 rfl fl_X2_22 (E.2.2 _ _ (hq 17 _ rfl)) rfl ?_
  refine j_callSN2v (Mc := iX7_copyRow) (q := 41) (c' := 0) (s' := 0) dX2_become_38 rfl kS_X7_copyRow (by decide) ⟨by decide, by decide⟩ rfl (Nat.le_refl _) (Nat.le_refl _) (ct_X7_copyRow E (E.2.2 _ _ (hr 20 _ rfl)) (E.2.2 _ _ (hq 20 _ rfl)) (by decide)) ?_
  refine j_mem (cpM_ps (e := 20) (d := 20) (by decide) (by omega)) ?_
  refine j_aload1 (q := 42) dX2_become_41 rfl ?_
  refine j_getR 4 (q := 45) dX2_become_42 rfl fl_X2_25 (E.2.2 _ _ (hr 17 _ rfl)) rfl ?_
  refine j_aload0 (q := 46) dX2_become_45 rfl ?_
  refine j_getR 4 (q := 49) dX2_become_46 rfl fl_X2_25 (E.2.2 _ _ (hq 17 _ rfl)) rfl ?_
  refine j_callSN2v (Mc := iX7_copyRow) (q := 52) (c' := 0) (s' := 0) dX2_become_49 rfl kS_X7_copyRow (by decide) ⟨by decide, by decide⟩ rfl (Nat.le_refl _) (Nat.le_refl _) (ct_X7_copyRow E (E.2.2 _ _ (hr 21 _ rfl)) (E.2.2 _ _ (hq 21 _ rfl)) (by decide)) ?_
  refine j_mem (cpM_ps (e := 21) (d := 21) (by decide) (by omega)) ?_
  refine j_aload1 (q := 53) dX2_become_52 rfl ?_
  refine j_getR 5 (q := 56) dX2_become_53 rfl fl_X2_28 (E.2.2 _ _ (hr 17 _ rfl)) rfl ?_
  refine j_aload0 (q := 57) dX2_become_56 rfl ?_
  refine j_getR 5 (q := 60) dX2_become_57 rfl fl_X2_28 (E.2.2 _ _ (hq 17 _ rfl)) rfl ?_
  refine j_callSN2v (Mc := iX7_copyRow) (q := 63) (c' := 0) (s' := 0) dX2_become_60 rfl kS_X7_copyRow (by decide) ⟨by decide, by decide⟩ rfl (Nat.le_refl _) (Nat.le_refl _) (ct_X7_copyRow E (E.2.2 _ _ (hr 22 _ rfl)) (E.2.2 _ _ (hq 22 _ rfl)) (by decide)) ?_
  refine j_mem (cpM_ps (e := 22) (d := 22) (by decide) (by omega)) ?_
  exact j_return dX2_become_63 rfl (rfl)
theorem lp_X3_become {G : GX} {sh : List SH} (E : EV G sh) {m P : Mem} {q r : Nat} (hq : PA q) (hr : PA r) (hqr : r + 24 ≤ q ∨ q + 24 ≤ r) {F : FinT} (hw : 0 ≤ P 0 10 ∧ P 0 10 ≤ 512) (kk : J G sh iX3_become 0 0 F 126 [some (.inr (.ref q)), some (.inr (.ref r)), none] [] (ps m q (cpP P 23 (m (r + 23)) (P 0 10))) 0 0) : ∀ (d : Nat) (k : Int), k + d = P 0 10 → 0 ≤ k → J G sh iX3_become 0 0 F 100 [some (.inr (.ref q)), some (.inr (.ref r)), some (.inl k)] [] (ps m q (cpP P 23 (m (r + 23)) k)) 0 0 := by
  intro d
  induction d with
  | zero =>
    intro k g0 g1
    have e0 : cpP P 23 (m (r + 23)) k 0 10 = P 0 10 := cpP_o (by omega)
    refine j_iload2 (q := 101) dX3_become_100 rfl ?_
    refine j_aload0 (q := 102) dX3_become_101 rfl ?_
    refine j_pgetI (d := 0) rfl (by decide) 10 (j' := 10) (q := 105) dX3_become_102 rfl fl_X3_59 (E.2.2 _ _ (hq 0 _ rfl)) rfl rfl ?_
    refine j_icmp_ge (tgt := 126) (q := 108) dX3_become_105 (by decide) rfl (by first | exact wr_id' (by omega) (by omega) | with_reducible exact wr_bI _ | exact rfl) (by first | exact wr_id' (by omega) (by omega) | with_reducible exact wr_bI _ | exact rfl) (fun h105 => ?_) (fun h105 => ?_)
    · obtain rfl : k = P 0 10 := by omega
      refine j_fgt2 ?_
      exact kk
    · omega
  | succ d ih =>
    intro k g0 g1
    have e0 : cpP P 23 (m (r + 23)) k 0 10 = P 0 10 := cpP_o (by omega)
    refine j_iload2 (q := 101) dX3_become_100 rfl ?_
    refine j_aload0 (q := 102) dX3_become_101 rfl ?_
    refine j_pgetI (d := 0) rfl (by decide) 10 (j' := 10) (q := 105) dX3_become_102 rfl fl_X3_59 (E.2.2 _ _ (hq 0 _ rfl)) rfl rfl ?_
    refine j_icmp_ge (tgt := 126) (q := 108) dX3_become_105 (by decide) rfl (by first | exact wr_id' (by omega) (by omega) | with_reducible exact wr_bI _ | exact rfl) (by first | exact wr_id' (by omega) (by omega) | with_reducible exact wr_bI _ | exact rfl) (fun h105 => ?_) (fun h105 => ?_)
    · omega
    · refine j_aload0 (q := 109) dX3_become_108 rfl ?_
      refine j_getR 9 (q := 112) dX3_become_109 rfl fl_X3_56 (E.2.2 _ _ (hq 0 _ rfl)) rfl ?_
      refine j_iload2 (q := 113) dX3_become_112 rfl ?_
      refine j_aload1 (q := 114) dX3_become_113 rfl ?_
      refine j_getR 9 (q := 117) dX3_become_114 rfl fl_X3_56 (E.2.2 _ _ (hr 0 _ rfl)) rfl ?_
      refine j_iload2 (q := 118) dX3_become_117 rfl ?_
      refine j_qload (q := 119) (by omega) dX3_become_118 rfl (E.2.2 _ _ (hr 23 _ rfl)) (by first | exact wr_id' (by omega) (by omega) | with_reducible exact wr_bI _ | exact rfl) (by omega) (by omega) ?_
      refine j_pstore (q := 120) (d := 23) rfl (by decide) dX3_become_119 rfl (E.2.2 _ _ (hq 23 _ rfl)) (by first | exact wr_id' (by omega) (by omega) | with_reducible exact wr_bI _ | exact rfl) (by omega) (by omega) ?_
      refine j_iinc2 (q := 123) dX3_become_120 rfl rfl (by decide) ?_
      refine j_goto (tgt := 100) dX3_become_123 (by decide) ?_
      refine j_mem (m' := ps m q (cpP P 23 (m (r + 23)) (k + 1))) (by rw [cpP_s g1]) ?_
      exact ih _ (by omega) (by omega)
theorem ct_X3_become {G : GX} {sh : List SH} (E : EV G sh) {m P : Mem} {q r : Nat} (hq : PA q) (hr : PA r) (hqr : r + 24 ≤ q ∨ q + 24 ≤ r) (hw : 0 ≤ m r 10 ∧ m r 10 ≤ 512) : CT G sh iX3_become 0 0 [.inr (.ref q), .inr (.ref r)] (ps m q P) none (ps m q (bcP P (pg m r))) := by
  refine j_met (L0 := [some (.inr (.ref q)), some (.inr (.ref r)), none]) (by decide) E.1 E.2.1 rfl (Nat.le_of_ble_eq_true rfl) ?_
  refine j_aload0 (q := 1) dX3_become_0 rfl ?_
  refine j_aload1 (q := 2) dX3_become_1 rfl ?_
  refine j_qgetI (by omega) 0 (j' := 0) (q := 5) dX3_become_2 rfl fl_X3_9 (E.2.2 _ _ (hr 0 _ rfl)) rfl rfl ?_
  refine j_pputI (d := 0) rfl (by decide) 0 (j' := 0) (q := 8) dX3_become_5 rfl fw_X3_9 (E.2.2 _ _ (hq 0 _ rfl)) rfl rfl ?_
  refine j_aload0 (q := 9) dX3_become_8 rfl ?_
  refine j_aload1 (q := 10) dX3_become_9 rfl ?_
  refine j_qgetI (by omega) 1 (j' := 1) (q := 13) dX3_become_10 rfl fl_X3_15 (E.2.2 _ _ (hr 0 _ rfl)) rfl rfl ?_
  refine j_pputI (d := 0) rfl (by decide) 1 (j' := 1) (q := 16) dX3_become_13 rfl fw_X3_15 (E.2.2 _ _ (hq 0 _ rfl)) rfl rfl ?_
  refine j_aload0 (q := 17) dX3_become_16 rfl ?_
  refine j_aload1 (q := 18) dX3_become_17 rfl ?_
  refine j_qgetI (by omega) 2 (j' := 2) (q := 21) dX3_become_18 rfl fl_X3_18 (E.2.2 _ _ (hr 0 _ rfl)) rfl rfl ?_
  refine j_pputI (d := 0) rfl (by decide) 2 (j' := 2) (q := 24) dX3_become_21 rfl fw_X3_18 (E.2.2 _ _ (hq 0 _ rfl)) rfl rfl ?_
  refine j_aload1 (q := 25) dX3_become_24 rfl ?_
  refine j_getR 3 (q := 28) dX3_become_25 rfl fl_X3_21 (E.2.2 _ _ (hr 0 _ rfl)) rfl ?_
  refine j_aload0 (q := 29) dX3_become_28 rfl ?_
  refine j_getR 3 (q := 32) dX3_become_29 rfl fl_X3_21 (E.2.2 _ _ (hq 0 _ rfl)) rfl ?_
  refine j_callSN2v (Mc := iX7_copyRow) (q := 35) (c' := 0) (s' := 0) dX3_become_32 rfl kS_X7_copyRow (by decide) ⟨by decide, by decide⟩ rfl (Nat.le_refl _) (Nat.le_refl _) (ct_X7_copyRow E (E.2.2 _ _ (hr 1 _ rfl)) (E.2.2 _ _ (hq 1 _ rfl)) (by decide)) ?_
  refine j_mem (cpM_ps (e := 1) (d := 1) (by decide) (by omega)) ?_
  refine j_aload1 (q := 36) dX3_become_35 rfl ?_
  refine j_getR 4 (q := 39) dX3_become_36 rfl fl_X3_25 (E.2.2 _ _ (hr 0 _ rfl)) rfl ?_
  refine j_aload0 (q := 40) dX3_become_39 rfl ?_
  refine j_getR 4 (q := 43) dX3_become_40 rfl fl_X3_25 (E.2.2 _ _ (hq 0 _ rfl)) rfl ?_
  refine j_callSN2v (Mc := iX7_copyRow) (q := 46) (c' := 0) (s' := 0) dX3_become_43 rfl kS_X7_copyRow (by decide) ⟨by decide, by decide⟩ rfl (Nat.le_refl _) (Nat.le_refl _) (ct_X7_copyRow E (E.2.2 _ _ (hr 2 _ rfl)) (E.2.2 _ _ (hq 2 _ rfl)) (by decide)) ?_
  refine j_mem (cpM_ps (e := 2) (d := 2) (by decide) (by omega)) ?_
  refine j_aload0 (q := 47) dX3_become_46 rfl ?_
  refine j_getR 5 (q := 50) dX3_become_47 rfl fl_X3_31 (E.2.2 _ _ (hq 0 _ rfl)) rfl ?_
  refine j_aload1 (q := 51) dX3_become_50 rfl ?_
  refine j_getR 5 (q := 54) dX3_become_51 rfl fl_X3_31 (E.2.2 _ _ (hr 0 _ rfl)) rfl ?_
  refine j_callV1v (Mc := iX0_become) (q := 57) (c' := 0) (s' := 0) dX3_become_54 rfl kV_X0_become jw_367 ⟨by decide, by decide⟩ (E.2.2 _ _ (hq 3 _ rfl)) rfl rfl rfl (Nat.le_refl _) (Nat.le_refl _) (ct_X0_become E hq hr hqr) ?_
  refine j_aload0 (q := 58) dX3_become_57 rfl ?_
  refine j_getR 6 (q := 61) dX3_become_58 rfl fl_X3_38 (E.2.2 _ _ (hq 0 _ rfl)) rfl ?_
  refine j_aload1 (q := 62) dX3_become_61 rfl ?_
  refine j_getR 6 (q := 65) dX3_become_62 rfl fl_X3_38 (E.2.2 _ _ (hr 0 _ rfl)) rfl ?_
  refine j_callV1v (Mc := iX1_become) (q := 68) (c' := 0) (s' := 0) dX3_become_65 rfl kV_X1_become jw_372 ⟨by decide, by decide⟩ (E.2.2 _ _ (hq 10 _ rfl)) rfl rfl rfl (Nat.le_refl _) (Nat.le_refl _) (ct_X1_become E hq hr hqr) ?_
  refine j_aload0 (q := 69) dX3_become_68 rfl ?_
  refine j_getR 7 (q := 72) dX3_become_69 rfl fl_X3_45 (E.2.2 _ _ (hq 0 _ rfl)) rfl ?_
  refine j_aload1 (q := 73) dX3_become_72 rfl ?_
  refine j_getR 7 (q := 76) dX3_become_73 rfl fl_X3_45 (E.2.2 _ _ (hr 0 _ rfl)) rfl ?_
  refine j_callV1v (Mc := iX5_become) (q := 79) (c' := 0) (s' := 0) dX3_become_76 rfl kV_X5_become jw_377 ⟨by decide, by decide⟩ (E.2.2 _ _ (hq 13 _ rfl)) rfl rfl rfl (Nat.le_refl _) (Nat.le_refl _) (ct_X5_become E hq hr hqr) ?_
  refine j_aload0 (q := 80) dX3_become_79 rfl ?_
  refine j_getR 8 (q := 83) dX3_become_80 rfl fl_X3_52 (E.2.2 _ _ (hq 0 _ rfl)) rfl ?_
  refine j_aload1 (q := 84) dX3_become_83 rfl ?_
  refine j_getR 8 (q := 87) dX3_become_84 rfl fl_X3_52 (E.2.2 _ _ (hr 0 _ rfl)) rfl ?_
  refine j_callV1v (Mc := iX2_become) (q := 90) (c' := 0) (s' := 0) dX3_become_87 rfl kV_X2_become jw_382 ⟨by decide, by decide⟩ (E.2.2 _ _ (hq 17 _ rfl)) rfl rfl rfl (Nat.le_refl _) (Nat.le_refl _) (ct_X2_become E hq hr hqr) ?_
  refine j_aload0 (q := 91) dX3_become_90 rfl ?_
  refine j_aload1 (q := 92) dX3_become_91 rfl ?_
  refine j_qgetI (by omega) 10 (j' := 10) (q := 95) dX3_become_92 rfl fl_X3_59 (E.2.2 _ _ (hr 0 _ rfl)) rfl rfl ?_
  refine j_pputI (d := 0) rfl (by decide) 10 (j' := 10) (q := 98) dX3_become_95 rfl fw_X3_59 (E.2.2 _ _ (hq 0 _ rfl)) rfl rfl ?_
  refine j_mem (m' := ps m q (bcA P (pg m r))) rfl ?_
  have e10 : bcA P (pg m r) 0 10 = m r 10 := up_at
  refine j_iconst (q := 99) dX3_become_98 rfl ?_
  refine j_istore2 (q := 100) dX3_become_99 rfl rfl (by decide) ?_
  refine j_mem (m' := ps m q (cpP (bcA P (pg m r)) 23 (m (r + 23)) 0)) (by rw [← cpP_0]) ?_
  refine lp_X3_become E hq hr hqr (by rw [e10]; exact hw) ?_ (m r 10).toNat 0 (by rw [e10]; omega) (by omega)
  exact j_return dX3_become_126 rfl (by rw [e10]; rfl)
/-- the saves' references: six planes, each once -/
def okr (x : Int) : Prop := x = 51 ∨ x = 75 ∨ x = 99 ∨ x = 123 ∨ x = 147 ∨ x = 171
def SR (m : Mem) : Prop := (∀ i, 0 ≤ i → i < 6 → okr (m 50 i)) ∧ ∀ i j, 0 ≤ i → i < j → j < 6 → ¬ m 50 i = m 50 j
theorem okr_PA {x : Int} (h : okr x) : ∃ r : Nat, x = (r : Int) ∧ PA r ∧ 51 ≤ r ∧ r ≤ 171 := by
  rcases h with h | h | h | h | h | h
  · exact ⟨51, h, PA51, by omega, by omega⟩
  · exact ⟨75, h, PA75, by omega, by omega⟩
  · exact ⟨99, h, PA99, by omega, by omega⟩
  · exact ⟨123, h, PA123, by omega, by omega⟩
  · exact ⟨147, h, PA147, by omega, by omega⟩
  · exact ⟨171, h, PA171, by omega, by omega⟩
def shS (m : Mem) (k : Int) : Mem := fun c j => if c = 50 ∧ 0 ≤ j ∧ j < k - 1 then m 50 (j + 1) else m c j
theorem shS_1 {m : Mem} : m = shS m 1 := by
  funext c j
  unfold shS
  rw [if_neg (by omega)]
theorem shS_s {m : Mem} {k : Int} (hk : 1 ≤ k) : up (shS m k) 50 (k - 1) (m 50 k) = shS m (k + 1) := by
  funext c j
  unfold up shS
  by_cases h1 : c = 50 ∧ j = k - 1
  · rw [if_pos h1, if_pos (by omega), h1.2, show k - 1 + 1 = k by omega]
  · rw [if_neg h1]
    by_cases h2 : c = 50 ∧ 0 ≤ j ∧ j < k - 1
    · rw [if_pos h2, if_pos (by omega)]
    · rw [if_neg h2, if_neg (by omega)]
theorem shS_k {m : Mem} {k : Int} : shS m k 50 k = m 50 k := if_neg (by omega)
def drM (m : Mem) : Mem := up (up (shS m 6) 50 5 (m 50 0)) 49 0 5
def kp1 (m : Mem) : Mem := if 6 ≤ m 49 0 then drM m else m
def kp2 (m : Mem) (r : Nat) : Mem := ps m r (bcP (pg m r) (pg m 1))
def kpS (m : Mem) : Mem := up (kp2 (kp1 m) (kp1 m 50 (kp1 m 49 0)).toNat) 49 0 (kp1 m 49 0 + 1)
def rsM (m : Mem) : Mem := up m 49 0 (m 49 0 - 1)
def rsS (m : Mem) : Mem := ps (rsM m) 1 (bcP (pg (rsM m) 1) (pg (rsM m) (m 50 (m 49 0 - 1)).toNat))
theorem lp_X4_dropOldest {G : GX} {sh : List SH} (E : EV G sh) {m : Mem} {F : FinT} {r0 : Nat} (hs : SR m) (kk : J G sh iX4_dropOldest 0 0 F 35 [some (.inr (.ref 49)), some (.inr (.ref r0)), none] [] (shS m 6) 0 0) : ∀ (d : Nat) (k : Int), k + d = 6 → 1 ≤ k → J G sh iX4_dropOldest 0 0 F 9 [some (.inr (.ref 49)), some (.inr (.ref r0)), some (.inl k)] [] (shS m k) 0 0 := by
  intro d
  induction d with
  | zero =>
    intro k g0 g1
    refine j_iload2 (q := 10) dX4_dropOldest_9 rfl ?_
    refine j_bipush (q := 12) dX4_dropOldest_10 rfl rfl ?_
    refine j_icmp_ge (tgt := 35) (q := 15) dX4_dropOldest_12 (by decide) rfl (by first | exact wr_id' (by omega) (by omega) | with_reducible exact wr_bI _ | exact rfl) (by first | exact wr_id' (by omega) (by omega) | with_reducible exact wr_bI _ | exact rfl) (fun h12 => ?_) (fun h12 => ?_)
    · obtain rfl : k = 6 := by omega
      refine j_fgt2 ?_
      exact kk
    · omega
  | succ d ih =>
    intro k g0 g1
    refine j_iload2 (q := 10) dX4_dropOldest_9 rfl ?_
    refine j_bipush (q := 12) dX4_dropOldest_10 rfl rfl ?_
    refine j_icmp_ge (tgt := 35) (q := 15) dX4_dropOldest_12 (by decide) rfl (by first | exact wr_id' (by omega) (by omega) | with_reducible exact wr_bI _ | exact rfl) (by first | exact wr_id' (by omega) (by omega) | with_reducible exact wr_bI _ | exact rfl) (fun h12 => ?_) (fun h12 => ?_)
    · omega
    · refine j_aload0 (q := 16) dX4_dropOldest_15 rfl ?_
      refine j_getR 1 (q := 19) dX4_dropOldest_16 rfl fl_X4_17 (E.2.2 _ _ sh_49) rfl ?_
      refine j_iload2 (q := 20) dX4_dropOldest_19 rfl ?_
      refine j_iconst (q := 21) dX4_dropOldest_20 rfl ?_
      refine j_isub (q := 22) dX4_dropOldest_21 rfl ?_
      refine j_aload0 (q := 23) dX4_dropOldest_22 rfl ?_
      refine j_getR 1 (q := 26) dX4_dropOldest_23 rfl fl_X4_17 (E.2.2 _ _ sh_49) rfl ?_
      refine j_iload2 (q := 27) dX4_dropOldest_26 rfl ?_
      obtain ⟨rk, hr1, hrk, hr2, hr3⟩ := okr_PA (hs.1 k (by omega) (by omega))
      refine j_aaload (q := 28) (r := rk) dX4_dropOldest_27 rfl (E.2.2 _ _ sh_50) (by first | exact wr_id' (by omega) (by omega) | with_reducible exact wr_bI _ | exact rfl) (by omega) (by omega) (by rw [shS_k]; exact hr1) ?_
      refine j_aastore (q := 29) dX4_dropOldest_28 rfl (E.2.2 _ _ sh_50) (E.2.2 _ _ (hrk 0 _ rfl)) (by first | exact wr_id' (by omega) (by omega) | with_reducible exact wr_bI _ | exact rfl) (by omega) (by omega) ?_
      refine j_iinc2 (q := 32) dX4_dropOldest_29 rfl rfl (by decide) ?_
      refine j_goto (tgt := 9) dX4_dropOldest_32 (by decide) ?_
      refine j_mem (m' := shS m (k + 1)) (by rw [← hr1, shS_s g1]) ?_
      exact ih _ (by omega) (by omega)
theorem ct_X4_dropOldest {G : GX} {sh : List SH} (E : EV G sh) {m : Mem} (hs : SR m) : CT G sh iX4_dropOldest 0 0 [.inr (.ref 49)] (m) none (drM m) := by
  refine j_met (L0 := [some (.inr (.ref 49)), none, none]) (by decide) E.1 E.2.1 rfl (Nat.le_of_ble_eq_true rfl) ?_
  refine j_aload0 (q := 1) dX4_dropOldest_0 rfl ?_
  refine j_getR 1 (q := 4) dX4_dropOldest_1 rfl fl_X4_17 (E.2.2 _ _ sh_49) rfl ?_
  refine j_iconst (q := 5) dX4_dropOldest_4 rfl ?_
  obtain ⟨r0, hr1, hr0, hr2, hr3⟩ := okr_PA (hs.1 0 (by omega) (by omega))
  refine j_aaload (q := 6) (r := r0) dX4_dropOldest_5 rfl (E.2.2 _ _ sh_50) (by first | exact wr_id' (by omega) (by omega) | with_reducible exact wr_bI _ | exact rfl) (by omega) (by omega) hr1 ?_
  refine j_astore1 (q := 7) dX4_dropOldest_6 rfl rfl (by decide) ?_
  refine j_iconst (q := 8) dX4_dropOldest_7 rfl ?_
  refine j_istore2 (q := 9) dX4_dropOldest_8 rfl rfl (by decide) ?_
  refine j_mem (m' := shS m 1) (by rw [← shS_1]) ?_
  refine lp_X4_dropOldest E hs ?_ 5 1 (by omega) (by omega)
  refine j_aload0 (q := 36) dX4_dropOldest_35 rfl ?_
  refine j_getR 1 (q := 39) dX4_dropOldest_36 rfl fl_X4_17 (E.2.2 _ _ sh_49) rfl ?_
  refine j_iconst (q := 40) dX4_dropOldest_39 rfl ?_
  refine j_aload1 (q := 41) dX4_dropOldest_40 rfl ?_
  refine j_aastore (q := 42) dX4_dropOldest_41 rfl (E.2.2 _ _ sh_50) (E.2.2 _ _ (hr0 0 _ rfl)) (by first | exact wr_id' (by omega) (by omega) | with_reducible exact wr_bI _ | exact rfl) (by omega) (by omega) ?_
  refine j_aload0 (q := 43) dX4_dropOldest_42 rfl ?_
  refine j_iconst (q := 44) dX4_dropOldest_43 rfl ?_
  refine j_putI 0 (j' := 0) (q := 47) dX4_dropOldest_44 rfl fw_X4_9 (E.2.2 _ _ sh_49) rfl rfl ?_
  exact j_return dX4_dropOldest_47 rfl (by rw [drM, hr1])
theorem SR_dr {m : Mem} (h : SR m) : SR (drM m) := by
  have e : ∀ i, 0 ≤ i → i < 6 → drM m 50 i = if i = 5 then m 50 0 else m 50 (i + 1) := fun i a b => by
    unfold drM
    rw [up_ne (by omega)]
    by_cases q : i = 5
    · rw [if_pos q, q, up_at]
    · rw [if_neg q, up_ne (by omega)]; exact if_pos ⟨rfl, by omega, by omega⟩
  refine ⟨fun i a b => ?_, fun i j a b c => ?_⟩
  · rw [e i a b]
    split
    · exact h.1 0 (by omega) (by omega)
    · exact h.1 (i + 1) (by omega) (by omega)
  · rw [e i a (by omega), e j (by omega) c, if_neg (by omega)]
    by_cases q : j = 5
    · rw [if_pos q]; exact fun z => h.2 0 (i + 1) (by omega) (by omega) (by omega) z.symm
    · rw [if_neg q]; exact h.2 (i + 1) (j + 1) (by omega) (by omega) (by omega)
theorem drM_o {m : Mem} {c : Nat} {j : Int} (h : ¬ c = 50 ∧ ¬ (c = 49 ∧ j = 0)) : drM m c j = m c j := by
  unfold drM
  rw [up_ne (by omega), up_ne (by omega)]; exact if_neg (by omega)
theorem kp1_o {m : Mem} {c : Nat} {j : Int} (h : ¬ c = 50 ∧ ¬ (c = 49 ∧ j = 0)) : kp1 m c j = m c j := by
  unfold kp1
  split
  · exact drM_o h
  · rfl
theorem kp1_SR {m : Mem} (h : SR m) : SR (kp1 m) := by
  unfold kp1
  split
  · exact SR_dr h
  · exact h
theorem kp1_s {m : Mem} (h : 0 ≤ m 49 0 ∧ m 49 0 ≤ 6) : kp1 m 49 0 = if m 49 0 = 6 then 5 else m 49 0 := by
  unfold kp1
  by_cases q : m 49 0 = 6
  · rw [if_pos (by omega), if_pos q]; exact up_at
  · rw [if_neg (by omega), if_neg q]
theorem ct_X4_keep {G : GX} {sh : List SH} (E : EV G sh) {m : Mem} (hs : SR m) (hz : 0 ≤ m 49 0 ∧ m 49 0 ≤ 6) (hw : 0 ≤ m 1 10 ∧ m 1 10 ≤ 512) : CT G sh iX4_keep 0 0 [.inr (.ref 49), .inr (.ref 1)] (m) none (kpS m) := by
  refine j_met (L0 := [some (.inr (.ref 49)), some (.inr (.ref 1))]) (by decide) E.1 E.2.1 rfl (Nat.le_of_ble_eq_true rfl) ?_
  refine j_aload0 (q := 1) dX4_keep_0 rfl ?_
  refine j_getI 0 (j' := 0) (q := 4) dX4_keep_1 rfl fl_X4_9 (E.2.2 _ _ sh_49) rfl rfl ?_
  refine j_bipush (q := 6) dX4_keep_4 rfl rfl ?_
  refine j_icmp_lt (tgt := 13) (q := 9) dX4_keep_6 (by decide) rfl (by first | exact wr_id' (by omega) (by omega) | with_reducible exact wr_bI _ | exact rfl) (by first | exact wr_id' (by omega) (by omega) | with_reducible exact wr_bI _ | exact rfl) (fun h6 => ?_) (fun h6 => ?_)
  · refine j_mem (m' := kp1 m) (by unfold kp1; first | rw [if_pos (by omega)] | rw [if_neg (by omega)]) ?_
    have h1 := kp1_SR hs
    have h2 := kp1_s hz
    have h3 : 0 ≤ kp1 m 49 0 ∧ kp1 m 49 0 < 6 := by rw [h2]; split <;> omega
    obtain ⟨rk, hr1, hrk, hr2, hr3⟩ := okr_PA (h1.1 (kp1 m 49 0) h3.1 h3.2)
    have hw2 : 0 ≤ kp1 m 1 10 ∧ kp1 m 1 10 ≤ 512 := by rw [kp1_o (by omega)]; exact hw
    refine j_aload0 (q := 14) dX4_keep_13 rfl ?_
    refine j_getR 1 (q := 17) dX4_keep_14 rfl fl_X4_17 (E.2.2 _ _ sh_49) rfl ?_
    refine j_aload0 (q := 18) dX4_keep_17 rfl ?_
    refine j_getI 0 (j' := 0) (q := 21) dX4_keep_18 rfl fl_X4_9 (E.2.2 _ _ sh_49) rfl rfl ?_
    refine j_aaload (q := 22) (r := rk) dX4_keep_21 rfl (E.2.2 _ _ sh_50) (by first | exact wr_id' (by omega) (by omega) | with_reducible exact wr_bI _ | exact rfl) (by omega) (by omega) hr1 ?_
    refine j_mem (m' := ps (kp1 m) rk (pg (kp1 m) rk)) (by rw [ps_pg]) ?_
    refine j_aload1 (q := 23) dX4_keep_22 rfl ?_
    refine j_callV1v (Mc := iX3_become) (q := 26) (c' := 0) (s' := 0) dX4_keep_23 rfl kV_X3_become jw_363 ⟨by decide, by decide⟩ (E.2.2 _ _ (hrk 0 _ rfl)) rfl rfl rfl (Nat.le_refl _) (Nat.le_refl _) (ct_X3_become E hrk PA1 (by omega) hw2) ?_
    refine j_mem (m' := kp2 (kp1 m) rk) rfl ?_
    have h4 : kp2 (kp1 m) rk 49 0 = kp1 m 49 0 := by unfold kp2; rw [ps_ne (by omega)]
    refine j_aload0 (q := 27) dX4_keep_26 rfl ?_
    refine j_dup (q := 28) dX4_keep_27 rfl rfl ?_
    refine j_getI 0 (j' := 0) (q := 31) dX4_keep_28 rfl fl_X4_9 (E.2.2 _ _ sh_49) rfl rfl ?_
    refine j_iconst (q := 32) dX4_keep_31 rfl ?_
    refine j_iadd (q := 33) dX4_keep_32 rfl ?_
    refine j_putI 0 (j' := 0) (q := 36) dX4_keep_33 rfl fw_X4_9 (E.2.2 _ _ sh_49) rfl rfl ?_
    exact j_return dX4_keep_36 rfl (by rw [h4, kpS, hr1]; rfl)
  · refine j_aload0 (q := 10) dX4_keep_9 rfl ?_
    refine j_callV0v (Mc := iX4_dropOldest) (q := 13) (c' := 0) (s' := 0) dX4_keep_10 rfl kV_X4_dropOldest jw_359 ⟨by decide, by decide⟩ (E.2.2 _ _ sh_49) rfl rfl rfl (Nat.le_refl _) (Nat.le_refl _) (ct_X4_dropOldest E hs) ?_
    refine j_mem (m' := kp1 m) (by unfold kp1; first | rw [if_pos (by omega)] | rw [if_neg (by omega)]) ?_
    have h1 := kp1_SR hs
    have h2 := kp1_s hz
    have h3 : 0 ≤ kp1 m 49 0 ∧ kp1 m 49 0 < 6 := by rw [h2]; split <;> omega
    obtain ⟨rk, hr1, hrk, hr2, hr3⟩ := okr_PA (h1.1 (kp1 m 49 0) h3.1 h3.2)
    have hw2 : 0 ≤ kp1 m 1 10 ∧ kp1 m 1 10 ≤ 512 := by rw [kp1_o (by omega)]; exact hw
    refine j_aload0 (q := 14) dX4_keep_13 rfl ?_
    refine j_getR 1 (q := 17) dX4_keep_14 rfl fl_X4_17 (E.2.2 _ _ sh_49) rfl ?_
    refine j_aload0 (q := 18) dX4_keep_17 rfl ?_
    refine j_getI 0 (j' := 0) (q := 21) dX4_keep_18 rfl fl_X4_9 (E.2.2 _ _ sh_49) rfl rfl ?_
    refine j_aaload (q := 22) (r := rk) dX4_keep_21 rfl (E.2.2 _ _ sh_50) (by first | exact wr_id' (by omega) (by omega) | with_reducible exact wr_bI _ | exact rfl) (by omega) (by omega) hr1 ?_
    refine j_mem (m' := ps (kp1 m) rk (pg (kp1 m) rk)) (by rw [ps_pg]) ?_
    refine j_aload1 (q := 23) dX4_keep_22 rfl ?_
    refine j_callV1v (Mc := iX3_become) (q := 26) (c' := 0) (s' := 0) dX4_keep_23 rfl kV_X3_become jw_363 ⟨by decide, by decide⟩ (E.2.2 _ _ (hrk 0 _ rfl)) rfl rfl rfl (Nat.le_refl _) (Nat.le_refl _) (ct_X3_become E hrk PA1 (by omega) hw2) ?_
    refine j_mem (m' := kp2 (kp1 m) rk) rfl ?_
    have h4 : kp2 (kp1 m) rk 49 0 = kp1 m 49 0 := by unfold kp2; rw [ps_ne (by omega)]
    refine j_aload0 (q := 27) dX4_keep_26 rfl ?_
    refine j_dup (q := 28) dX4_keep_27 rfl rfl ?_
    refine j_getI 0 (j' := 0) (q := 31) dX4_keep_28 rfl fl_X4_9 (E.2.2 _ _ sh_49) rfl rfl ?_
    refine j_iconst (q := 32) dX4_keep_31 rfl ?_
    refine j_iadd (q := 33) dX4_keep_32 rfl ?_
    refine j_putI 0 (j' := 0) (q := 36) dX4_keep_33 rfl fw_X4_9 (E.2.2 _ _ sh_49) rfl rfl ?_
    exact j_return dX4_keep_36 rfl (by rw [h4, kpS, hr1]; rfl)
def TL (m : Mem) : Prop := (0 ≤ m 195 0 ∧ m 195 0 ≤ 60) ∧ ∀ j, 0 ≤ j → j < m 195 0 → 33 ≤ m 196 j ∧ m 196 j ≤ 126
def tC (m : Mem) (j : Int) : Int := if 0 ≤ j ∧ j < m 195 0 then m 196 j else 0
def tK (m : Mem) (j : Int) : Int := 8 * (tC m j - 48) + (tC m (j + 1) - 48)
def tN (c : Int) : Int := if c = 114 then 3 else if c = 116 then 2 else if c = 119 then 5 else 1
def tS (c : Int) : Int := if c = 98 then 2 else if c = 114 then 3 else if c = 116 then 9 else if c = 119 then 5 else 0
def tW (w c : Int) : Int :=
  if w = 1 then tS c else if w = 2 then (if c = 59 then 1 else 0) else if w = 3 then (if wi c 48 55 = true then 4 else 0) else if w = 4 then (if wi c 48 55 = true then 2 else 0)
  else if w = 5 then (if wi c 48 55 = true then 6 else 0) else if w = 6 then (if wi c 48 55 = true then 7 else 0) else if w = 7 then (if c = 61 then 8 else 0)
  else if w = 8 then (if wi c 48 49 = true then 2 else 0) else if w = 9 then (if wi c 49 57 = true then 2 else 0) else 0
def tE (m : Mem) : Nat → Int → Int → Int
  | 0, _, _ => m 195 0
  | d + 1, i, w => if tW w (tC m i) = 0 then i else tE m d (i + 1) (tW w (tC m i))
def tP (m : Mem) : Nat → Int → Int → Int
  | 0, _, w => w
  | d + 1, i, w => tP m d (i + 1) (tW w (tC m i))
theorem tC_b {m : Mem} (h : TL m) (j : Int) : 0 ≤ tC m j ∧ tC m j ≤ 126 := by
  unfold tC
  split
  · rename_i q; have := h.2 j q.1 q.2; omega
  · omega
theorem tS_b (c : Int) : 0 ≤ tS c ∧ tS c ≤ 9 := by unfold tS; split; omega; split; omega; split; omega; split <;> omega
theorem tW_b (w c : Int) : 0 ≤ tW w c ∧ tW w c ≤ 9 := by
  unfold tW
  repeat' split
  all_goals first | exact tS_b c | omega
theorem ct_X6_codeAt {G : GX} {sh : List SH} (E : EV G sh) {m : Mem} {j : Int} (h1 : -2147483648 ≤ j ∧ j < 2147483648) (hT : TL m) : CT G sh iX6_codeAt 0 0 [.inr (.ref 195), .inl j] (m) (some (.inl (tC m j))) (m) := by
  refine j_met (L0 := [some (.inr (.ref 195)), some (.inl j)]) (by decide) E.1 E.2.1 rfl (Nat.le_of_ble_eq_true rfl) ?_
  have hl := hT.1
  refine j_iconst (q := 1) dX6_codeAt_0 rfl ?_
  refine j_iload1 (q := 2) dX6_codeAt_1 rfl ?_
  refine j_icmp_gt (tgt := 22) (q := 5) dX6_codeAt_2 (by decide) rfl (by first | exact wr_id' (by omega) (by omega) | with_reducible exact wr_bI _ | exact rfl) (by first | exact wr_id' (by omega) (by omega) | with_reducible exact wr_bI _ | exact rfl) (fun h2 => ?_) (fun h2 => ?_)
  · refine j_iconst (q := 23) dX6_codeAt_22 rfl ?_
    exact j_ireturn dX6_codeAt_23 rfl (by unfold tC; first | rw [if_pos (by omega)] | rw [if_neg (by omega)]) (rfl)
  · refine j_iload1 (q := 6) dX6_codeAt_5 rfl ?_
    refine j_aload0 (q := 7) dX6_codeAt_6 rfl ?_
    refine j_getI 0 (j' := 0) (q := 10) dX6_codeAt_7 rfl fl_X6_9 (E.2.2 _ _ sh_195) rfl rfl ?_
    refine j_icmp_ge (tgt := 22) (q := 13) dX6_codeAt_10 (by decide) rfl (by first | exact wr_id' (by omega) (by omega) | with_reducible exact wr_bI _ | exact rfl) (by first | exact wr_id' (by omega) (by omega) | with_reducible exact wr_bI _ | exact rfl) (fun h10 => ?_) (fun h10 => ?_)
    · refine j_iconst (q := 23) dX6_codeAt_22 rfl ?_
      exact j_ireturn dX6_codeAt_23 rfl (by unfold tC; first | rw [if_pos (by omega)] | rw [if_neg (by omega)]) (rfl)
    · refine j_aload0 (q := 14) dX6_codeAt_13 rfl ?_
      refine j_getR 1 (q := 17) dX6_codeAt_14 rfl fl_X6_15 (E.2.2 _ _ sh_195) rfl ?_
      refine j_iload1 (q := 18) dX6_codeAt_17 rfl ?_
      refine j_iaload (q := 19) dX6_codeAt_18 rfl (E.2.2 _ _ sh_196) (by first | exact wr_id' (by omega) (by omega) | with_reducible exact wr_bI _ | exact rfl) (by omega) (by omega) ?_
      refine j_goto (tgt := 23) dX6_codeAt_19 (by decide) ?_
      exact j_ireturn dX6_codeAt_23 rfl (by unfold tC; first | rw [if_pos (by omega)] | rw [if_neg (by omega)]) (rfl)
theorem ct_X6_digitAt {G : GX} {sh : List SH} (E : EV G sh) {m : Mem} {j : Int} (h1 : -2147483648 ≤ j ∧ j < 2147483648) (hT : TL m) : CT G sh iX6_digitAt 0 0 [.inr (.ref 195), .inl j] (m) (some (.inl (tC m j - 48))) (m) := by
  refine j_met (L0 := [some (.inr (.ref 195)), some (.inl j)]) (by decide) E.1 E.2.1 rfl (Nat.le_of_ble_eq_true rfl) ?_
  refine j_aload0 (q := 1) dX6_digitAt_0 rfl ?_
  refine j_iload1 (q := 2) dX6_digitAt_1 rfl ?_
  refine j_callV1 (Mc := iX6_codeAt) (q := 5) (c' := 0) (s' := 0) dX6_digitAt_2 rfl kV_X6_codeAt jw_843 ⟨by decide, by decide⟩ (E.2.2 _ _ sh_195) rfl rfl rfl (Nat.le_refl _) (Nat.le_refl _) (ct_X6_codeAt E (by omega) hT) ?_
  refine j_bipush (q := 7) dX6_digitAt_5 rfl rfl ?_
  refine j_isub (q := 8) dX6_digitAt_7 rfl ?_
  exact j_ireturn dX6_digitAt_8 rfl (rfl) (rfl)
theorem ct_X6_coreAt {G : GX} {sh : List SH} (E : EV G sh) {m : Mem} {j : Int} (h1 : 0 ≤ j ∧ j ≤ 100) (hT : TL m) : CT G sh iX6_coreAt 0 0 [.inr (.ref 195), .inl j] (m) (some (.inl (tK m j))) (m) := by
  refine j_met (L0 := [some (.inr (.ref 195)), some (.inl j)]) (by decide) E.1 E.2.1 rfl (Nat.le_of_ble_eq_true rfl) ?_
  refine j_bipush (q := 2) dX6_coreAt_0 rfl rfl ?_
  refine j_aload0 (q := 3) dX6_coreAt_2 rfl ?_
  refine j_iload1 (q := 4) dX6_coreAt_3 rfl ?_
  refine j_callV1 (Mc := iX6_digitAt) (q := 7) (c' := 0) (s' := 0) dX6_coreAt_4 rfl kV_X6_digitAt jw_862 ⟨by decide, by decide⟩ (E.2.2 _ _ sh_195) rfl rfl rfl (Nat.le_refl _) (Nat.le_refl _) (ct_X6_digitAt E (by omega) hT) ?_
  refine j_imul (q := 8) dX6_coreAt_7 rfl ?_
  refine j_aload0 (q := 9) dX6_coreAt_8 rfl ?_
  refine j_iload1 (q := 10) dX6_coreAt_9 rfl ?_
  refine j_iconst (q := 11) dX6_coreAt_10 rfl ?_
  refine j_iadd (q := 12) dX6_coreAt_11 rfl ?_
  refine j_callV1 (Mc := iX6_digitAt) (q := 15) (c' := 0) (s' := 0) dX6_coreAt_12 rfl kV_X6_digitAt jw_862 ⟨by decide, by decide⟩ (E.2.2 _ _ sh_195) rfl rfl rfl (Nat.le_refl _) (Nat.le_refl _) (ct_X6_digitAt E (by omega) hT) ?_
  refine j_iadd (q := 16) dX6_coreAt_15 rfl ?_
  exact j_ireturn dX6_coreAt_16 rfl (rfl) (rfl)
theorem ct_X6_stepLength {G : GX} {sh : List SH} (E : EV G sh) {m : Mem} {j : Int} (h1 : 0 ≤ j ∧ j ≤ 100) (hT : TL m) : CT G sh iX6_stepLength 0 0 [.inr (.ref 195), .inl j] (m) (some (.inl (tN (tC m j)))) (m) := by
  refine j_met (L0 := [some (.inr (.ref 195)), some (.inl j)]) (by decide) E.1 E.2.1 rfl (Nat.le_of_ble_eq_true rfl) ?_
  refine j_aload0 (q := 1) dX6_stepLength_0 rfl ?_
  refine j_iload1 (q := 2) dX6_stepLength_1 rfl ?_
  refine j_callV1 (Mc := iX6_codeAt) (q := 5) (c' := 0) (s' := 0) dX6_stepLength_2 rfl kV_X6_codeAt jw_843 ⟨by decide, by decide⟩ (E.2.2 _ _ sh_195) rfl rfl rfl (Nat.le_refl _) (Nat.le_refl _) (ct_X6_codeAt E (by omega) hT) ?_
  have hb := tC_b hT j
  by_cases h5_114 : tC m j = 114
  · refine j_lookup (x' := tC m j) (tgt := 40) (off := 35) dX6_stepLength_5 rfl (by first | exact wr_id' (by omega) (by omega) | with_reducible exact wr_bI _ | exact rfl) (by rw [h5_114]; rfl) (by decide) ?_
    refine j_iconst (q := 41) dX6_stepLength_40 rfl ?_
    exact j_ireturn dX6_stepLength_41 rfl (by unfold tN; simp [*]) (rfl)
  by_cases h5_116 : tC m j = 116
  · refine j_lookup (x' := tC m j) (tgt := 44) (off := 39) dX6_stepLength_5 rfl (by first | exact wr_id' (by omega) (by omega) | with_reducible exact wr_bI _ | exact rfl) (by rw [h5_116]; rfl) (by decide) ?_
    refine j_iconst (q := 45) dX6_stepLength_44 rfl ?_
    exact j_ireturn dX6_stepLength_45 rfl (by unfold tN; simp [*]) (rfl)
  by_cases h5_119 : tC m j = 119
  · refine j_lookup (x' := tC m j) (tgt := 42) (off := 37) dX6_stepLength_5 rfl (by first | exact wr_id' (by omega) (by omega) | with_reducible exact wr_bI _ | exact rfl) (by rw [h5_119]; rfl) (by decide) ?_
    refine j_iconst (q := 43) dX6_stepLength_42 rfl ?_
    exact j_ireturn dX6_stepLength_43 rfl (by unfold tN; simp [*]) (rfl)
  refine j_lookup (x' := tC m j) (tgt := 46) (off := 41) dX6_stepLength_5 rfl (by first | exact wr_id' (by omega) (by omega) | with_reducible exact wr_bI _ | exact rfl) (by simp only [Op.lookupswitch.offset_cons]; rw [if_neg (fun q => h5_114 q.symm), if_neg (fun q => h5_116 q.symm), if_neg (fun q => h5_119 q.symm)]; rfl) (by decide) ?_
  refine j_iconst (q := 47) dX6_stepLength_46 rfl ?_
  exact j_ireturn dX6_stepLength_47 rfl (by unfold tN; simp [*]) (rfl)
theorem ct_X6_wantedInStep {G : GX} {sh : List SH} (E : EV G sh) {m : Mem} {c : Int} (h1 : 0 ≤ c ∧ c ≤ 126) : CT G sh iX6_wantedInStep 0 0 [.inl c] (m) (some (.inl (tS c))) (m) := by
  refine j_met (L0 := [some (.inl c)]) (by decide) E.1 E.2.1 rfl (Nat.le_of_ble_eq_true rfl) ?_
  refine j_iload0 (q := 1) dX6_wantedInStep_0 rfl ?_
  by_cases h1_98 : c = 98
  · refine j_lookup (x' := c) (tgt := 48) (off := 47) dX6_wantedInStep_1 rfl (by first | exact wr_id' (by omega) (by omega) | with_reducible exact wr_bI _ | exact rfl) (by rw [h1_98]; rfl) (by decide) ?_
    refine j_iconst (q := 49) dX6_wantedInStep_48 rfl ?_
    exact j_ireturn dX6_wantedInStep_49 rfl (by unfold tS; simp [*]) (rfl)
  by_cases h1_114 : c = 114
  · refine j_lookup (x' := c) (tgt := 44) (off := 43) dX6_wantedInStep_1 rfl (by first | exact wr_id' (by omega) (by omega) | with_reducible exact wr_bI _ | exact rfl) (by rw [h1_114]; rfl) (by decide) ?_
    refine j_iconst (q := 45) dX6_wantedInStep_44 rfl ?_
    exact j_ireturn dX6_wantedInStep_45 rfl (by unfold tS; simp [*]) (rfl)
  by_cases h1_116 : c = 116
  · refine j_lookup (x' := c) (tgt := 50) (off := 49) dX6_wantedInStep_1 rfl (by first | exact wr_id' (by omega) (by omega) | with_reducible exact wr_bI _ | exact rfl) (by rw [h1_116]; rfl) (by decide) ?_
    refine j_bipush (q := 52) dX6_wantedInStep_50 rfl rfl ?_
    exact j_ireturn dX6_wantedInStep_52 rfl (by unfold tS; simp [*]) (rfl)
  by_cases h1_119 : c = 119
  · refine j_lookup (x' := c) (tgt := 46) (off := 45) dX6_wantedInStep_1 rfl (by first | exact wr_id' (by omega) (by omega) | with_reducible exact wr_bI _ | exact rfl) (by rw [h1_119]; rfl) (by decide) ?_
    refine j_iconst (q := 47) dX6_wantedInStep_46 rfl ?_
    exact j_ireturn dX6_wantedInStep_47 rfl (by unfold tS; simp [*]) (rfl)
  refine j_lookup (x' := c) (tgt := 53) (off := 52) dX6_wantedInStep_1 rfl (by first | exact wr_id' (by omega) (by omega) | with_reducible exact wr_bI _ | exact rfl) (by simp only [Op.lookupswitch.offset_cons]; rw [if_neg (fun q => h1_98 q.symm), if_neg (fun q => h1_114 q.symm), if_neg (fun q => h1_116 q.symm), if_neg (fun q => h1_119 q.symm)]; rfl) (by decide) ?_
  refine j_iconst (q := 54) dX6_wantedInStep_53 rfl ?_
  exact j_ireturn dX6_wantedInStep_54 rfl (by unfold tS; simp [*]) (rfl)
theorem ct_X6_wantedBehind {G : GX} {sh : List SH} (E : EV G sh) {m : Mem} {w : Int} {c : Int} (h1 : 0 ≤ c ∧ c ≤ 126) (h2 : 0 ≤ w ∧ w ≤ 9) : CT G sh iX6_wantedBehind 0 0 [.inl w, .inl c] (m) (some (.inl (tW w c))) (m) := by
  refine j_met (L0 := [some (.inl w), some (.inl c)]) (by decide) E.1 E.2.1 rfl (Nat.le_of_ble_eq_true rfl) ?_
  refine j_iload0 (q := 1) dX6_wantedBehind_0 rfl ?_
  by_cases h1_0 : w = 1
  · refine j_tableIn (x' := w) (tgt := 52) 0 dX6_wantedBehind_1 (by first | exact wr_id' (by omega) (by omega) | with_reducible exact wr_bI _ | exact rfl) (by omega) (by decide) rfl (by decide) ?_
    refine j_iload1 (q := 53) dX6_wantedBehind_52 rfl ?_
    refine j_callS1 (Mc := iX6_wantedInStep) (q := 56) (c' := 0) (s' := 0) dX6_wantedBehind_53 rfl kS_X6_wantedInStep jw_850 ⟨by decide, by decide⟩ rfl (Nat.le_refl _) (Nat.le_refl _) (ct_X6_wantedInStep E (by omega)) ?_
    exact j_ireturn dX6_wantedBehind_56 rfl (by rw [tW, if_pos (by omega)]) (rfl)
  by_cases h1_1 : w = 2
  · refine j_tableIn (x' := w) (tgt := 57) 1 dX6_wantedBehind_1 (by first | exact wr_id' (by omega) (by omega) | with_reducible exact wr_bI _ | exact rfl) (by omega) (by decide) rfl (by decide) ?_
    refine j_iload1 (q := 58) dX6_wantedBehind_57 rfl ?_
    refine j_bipush (q := 60) dX6_wantedBehind_58 rfl rfl ?_
    refine j_icmp_ne (tgt := 67) (q := 63) dX6_wantedBehind_60 (by decide) rfl (by first | exact wr_id' (by omega) (by omega) | with_reducible exact wr_bI _ | exact rfl) (by first | exact wr_id' (by omega) (by omega) | with_reducible exact wr_bI _ | exact rfl) (fun h60 => ?_) (fun h60 => ?_)
    · refine j_iconst (q := 68) dX6_wantedBehind_67 rfl ?_
      exact j_ireturn dX6_wantedBehind_68 rfl (by rw [tW, if_neg (by omega), if_pos (by omega)]; first | (rw [if_pos (by omega)]; done) | (rw [if_neg (by omega)]; done)) (rfl)
    · refine j_iconst (q := 64) dX6_wantedBehind_63 rfl ?_
      refine j_goto (tgt := 68) dX6_wantedBehind_64 (by decide) ?_
      exact j_ireturn dX6_wantedBehind_68 rfl (by rw [tW, if_neg (by omega), if_pos (by omega)]; first | (rw [if_pos (by omega)]; done) | (rw [if_neg (by omega)]; done)) (rfl)
  by_cases h1_2 : w = 3
  · refine j_tableIn (x' := w) (tgt := 69) 2 dX6_wantedBehind_1 (by first | exact wr_id' (by omega) (by omega) | with_reducible exact wr_bI _ | exact rfl) (by omega) (by decide) rfl (by decide) ?_
    refine j_iload1 (q := 70) dX6_wantedBehind_69 rfl ?_
    refine j_bipush (q := 72) dX6_wantedBehind_70 rfl rfl ?_
    refine j_bipush (q := 74) dX6_wantedBehind_72 rfl rfl ?_
    refine j_callSN3 (Mc := iX7_within) (q := 77) (c' := 0) (s' := 0) dX6_wantedBehind_74 rfl kS_X7_within (by decide) ⟨by decide, by decide⟩ rfl (Nat.le_refl _) (Nat.le_refl _) (ct_X7_within E (by omega) (by omega) (by omega)) ?_
    refine j_ifeq_b (tgt := 84) (q := 80) dX6_wantedBehind_77 (by decide) rfl (fun h77 => ?_) (fun h77 => ?_)
    · refine j_iconst (q := 85) dX6_wantedBehind_84 rfl ?_
      exact j_ireturn dX6_wantedBehind_85 rfl (by rw [tW, if_neg (by omega), if_neg (by omega), if_pos (by omega)]; first | (rw [if_pos (by assumption)]; done) | (rw [if_neg (nb (by assumption))]; done)) (rfl)
    · refine j_iconst (q := 81) dX6_wantedBehind_80 rfl ?_
      refine j_goto (tgt := 85) dX6_wantedBehind_81 (by decide) ?_
      exact j_ireturn dX6_wantedBehind_85 rfl (by rw [tW, if_neg (by omega), if_neg (by omega), if_pos (by omega)]; first | (rw [if_pos (by assumption)]; done) | (rw [if_neg (nb (by assumption))]; done)) (rfl)
  by_cases h1_3 : w = 4
  · refine j_tableIn (x' := w) (tgt := 86) 3 dX6_wantedBehind_1 (by first | exact wr_id' (by omega) (by omega) | with_reducible exact wr_bI _ | exact rfl) (by omega) (by decide) rfl (by decide) ?_
    refine j_iload1 (q := 87) dX6_wantedBehind_86 rfl ?_
    refine j_bipush (q := 89) dX6_wantedBehind_87 rfl rfl ?_
    refine j_bipush (q := 91) dX6_wantedBehind_89 rfl rfl ?_
    refine j_callSN3 (Mc := iX7_within) (q := 94) (c' := 0) (s' := 0) dX6_wantedBehind_91 rfl kS_X7_within (by decide) ⟨by decide, by decide⟩ rfl (Nat.le_refl _) (Nat.le_refl _) (ct_X7_within E (by omega) (by omega) (by omega)) ?_
    refine j_ifeq_b (tgt := 101) (q := 97) dX6_wantedBehind_94 (by decide) rfl (fun h94 => ?_) (fun h94 => ?_)
    · refine j_iconst (q := 102) dX6_wantedBehind_101 rfl ?_
      exact j_ireturn dX6_wantedBehind_102 rfl (by rw [tW, if_neg (by omega), if_neg (by omega), if_neg (by omega), if_pos (by omega)]; first | (rw [if_pos (by assumption)]; done) | (rw [if_neg (nb (by assumption))]; done)) (rfl)
    · refine j_iconst (q := 98) dX6_wantedBehind_97 rfl ?_
      refine j_goto (tgt := 102) dX6_wantedBehind_98 (by decide) ?_
      exact j_ireturn dX6_wantedBehind_102 rfl (by rw [tW, if_neg (by omega), if_neg (by omega), if_neg (by omega), if_pos (by omega)]; first | (rw [if_pos (by assumption)]; done) | (rw [if_neg (nb (by assumption))]; done)) (rfl)
  by_cases h1_4 : w = 5
  · refine j_tableIn (x' := w) (tgt := 103) 4 dX6_wantedBehind_1 (by first | exact wr_id' (by omega) (by omega) | with_reducible exact wr_bI _ | exact rfl) (by omega) (by decide) rfl (by decide) ?_
    refine j_iload1 (q := 104) dX6_wantedBehind_103 rfl ?_
    refine j_bipush (q := 106) dX6_wantedBehind_104 rfl rfl ?_
    refine j_bipush (q := 108) dX6_wantedBehind_106 rfl rfl ?_
    refine j_callSN3 (Mc := iX7_within) (q := 111) (c' := 0) (s' := 0) dX6_wantedBehind_108 rfl kS_X7_within (by decide) ⟨by decide, by decide⟩ rfl (Nat.le_refl _) (Nat.le_refl _) (ct_X7_within E (by omega) (by omega) (by omega)) ?_
    refine j_ifeq_b (tgt := 119) (q := 114) dX6_wantedBehind_111 (by decide) rfl (fun h111 => ?_) (fun h111 => ?_)
    · refine j_iconst (q := 120) dX6_wantedBehind_119 rfl ?_
      exact j_ireturn dX6_wantedBehind_120 rfl (by rw [tW, if_neg (by omega), if_neg (by omega), if_neg (by omega), if_neg (by omega), if_pos (by omega)]; first | (rw [if_pos (by assumption)]; done) | (rw [if_neg (nb (by assumption))]; done)) (rfl)
    · refine j_bipush (q := 116) dX6_wantedBehind_114 rfl rfl ?_
      refine j_goto (tgt := 120) dX6_wantedBehind_116 (by decide) ?_
      exact j_ireturn dX6_wantedBehind_120 rfl (by rw [tW, if_neg (by omega), if_neg (by omega), if_neg (by omega), if_neg (by omega), if_pos (by omega)]; first | (rw [if_pos (by assumption)]; done) | (rw [if_neg (nb (by assumption))]; done)) (rfl)
  by_cases h1_5 : w = 6
  · refine j_tableIn (x' := w) (tgt := 121) 5 dX6_wantedBehind_1 (by first | exact wr_id' (by omega) (by omega) | with_reducible exact wr_bI _ | exact rfl) (by omega) (by decide) rfl (by decide) ?_
    refine j_iload1 (q := 122) dX6_wantedBehind_121 rfl ?_
    refine j_bipush (q := 124) dX6_wantedBehind_122 rfl rfl ?_
    refine j_bipush (q := 126) dX6_wantedBehind_124 rfl rfl ?_
    refine j_callSN3 (Mc := iX7_within) (q := 129) (c' := 0) (s' := 0) dX6_wantedBehind_126 rfl kS_X7_within (by decide) ⟨by decide, by decide⟩ rfl (Nat.le_refl _) (Nat.le_refl _) (ct_X7_within E (by omega) (by omega) (by omega)) ?_
    refine j_ifeq_b (tgt := 137) (q := 132) dX6_wantedBehind_129 (by decide) rfl (fun h129 => ?_) (fun h129 => ?_)
    · refine j_iconst (q := 138) dX6_wantedBehind_137 rfl ?_
      exact j_ireturn dX6_wantedBehind_138 rfl (by rw [tW, if_neg (by omega), if_neg (by omega), if_neg (by omega), if_neg (by omega), if_neg (by omega), if_pos (by omega)]; first | (rw [if_pos (by assumption)]; done) | (rw [if_neg (nb (by assumption))]; done)) (rfl)
    · refine j_bipush (q := 134) dX6_wantedBehind_132 rfl rfl ?_
      refine j_goto (tgt := 138) dX6_wantedBehind_134 (by decide) ?_
      exact j_ireturn dX6_wantedBehind_138 rfl (by rw [tW, if_neg (by omega), if_neg (by omega), if_neg (by omega), if_neg (by omega), if_neg (by omega), if_pos (by omega)]; first | (rw [if_pos (by assumption)]; done) | (rw [if_neg (nb (by assumption))]; done)) (rfl)
  by_cases h1_6 : w = 7
  · refine j_tableIn (x' := w) (tgt := 139) 6 dX6_wantedBehind_1 (by first | exact wr_id' (by omega) (by omega) | with_reducible exact wr_bI _ | exact rfl) (by omega) (by decide) rfl (by decide) ?_
    refine j_iload1 (q := 140) dX6_wantedBehind_139 rfl ?_
    refine j_bipush (q := 142) dX6_wantedBehind_140 rfl rfl ?_
    refine j_icmp_ne (tgt := 150) (q := 145) dX6_wantedBehind_142 (by decide) rfl (by first | exact wr_id' (by omega) (by omega) | with_reducible exact wr_bI _ | exact rfl) (by first | exact wr_id' (by omega) (by omega) | with_reducible exact wr_bI _ | exact rfl) (fun h142 => ?_) (fun h142 => ?_)
    · refine j_iconst (q := 151) dX6_wantedBehind_150 rfl ?_
      exact j_ireturn dX6_wantedBehind_151 rfl (by rw [tW, if_neg (by omega), if_neg (by omega), if_neg (by omega), if_neg (by omega), if_neg (by omega), if_neg (by omega), if_pos (by omega)]; first | (rw [if_pos (by omega)]; done) | (rw [if_neg (by omega)]; done)) (rfl)
    · refine j_bipush (q := 147) dX6_wantedBehind_145 rfl rfl ?_
      refine j_goto (tgt := 151) dX6_wantedBehind_147 (by decide) ?_
      exact j_ireturn dX6_wantedBehind_151 rfl (by rw [tW, if_neg (by omega), if_neg (by omega), if_neg (by omega), if_neg (by omega), if_neg (by omega), if_neg (by omega), if_pos (by omega)]; first | (rw [if_pos (by omega)]; done) | (rw [if_neg (by omega)]; done)) (rfl)
  by_cases h1_7 : w = 8
  · refine j_tableIn (x' := w) (tgt := 152) 7 dX6_wantedBehind_1 (by first | exact wr_id' (by omega) (by omega) | with_reducible exact wr_bI _ | exact rfl) (by omega) (by decide) rfl (by decide) ?_
    refine j_iload1 (q := 153) dX6_wantedBehind_152 rfl ?_
    refine j_bipush (q := 155) dX6_wantedBehind_153 rfl rfl ?_
    refine j_bipush (q := 157) dX6_wantedBehind_155 rfl rfl ?_
    refine j_callSN3 (Mc := iX7_within) (q := 160) (c' := 0) (s' := 0) dX6_wantedBehind_157 rfl kS_X7_within (by decide) ⟨by decide, by decide⟩ rfl (Nat.le_refl _) (Nat.le_refl _) (ct_X7_within E (by omega) (by omega) (by omega)) ?_
    refine j_ifeq_b (tgt := 167) (q := 163) dX6_wantedBehind_160 (by decide) rfl (fun h160 => ?_) (fun h160 => ?_)
    · refine j_iconst (q := 168) dX6_wantedBehind_167 rfl ?_
      exact j_ireturn dX6_wantedBehind_168 rfl (by rw [tW, if_neg (by omega), if_neg (by omega), if_neg (by omega), if_neg (by omega), if_neg (by omega), if_neg (by omega), if_neg (by omega), if_pos (by omega)]; first | (rw [if_pos (by assumption)]; done) | (rw [if_neg (nb (by assumption))]; done)) (rfl)
    · refine j_iconst (q := 164) dX6_wantedBehind_163 rfl ?_
      refine j_goto (tgt := 168) dX6_wantedBehind_164 (by decide) ?_
      exact j_ireturn dX6_wantedBehind_168 rfl (by rw [tW, if_neg (by omega), if_neg (by omega), if_neg (by omega), if_neg (by omega), if_neg (by omega), if_neg (by omega), if_neg (by omega), if_pos (by omega)]; first | (rw [if_pos (by assumption)]; done) | (rw [if_neg (nb (by assumption))]; done)) (rfl)
  by_cases h1_8 : w = 9
  · refine j_tableIn (x' := w) (tgt := 169) 8 dX6_wantedBehind_1 (by first | exact wr_id' (by omega) (by omega) | with_reducible exact wr_bI _ | exact rfl) (by omega) (by decide) rfl (by decide) ?_
    refine j_iload1 (q := 170) dX6_wantedBehind_169 rfl ?_
    refine j_bipush (q := 172) dX6_wantedBehind_170 rfl rfl ?_
    refine j_bipush (q := 174) dX6_wantedBehind_172 rfl rfl ?_
    refine j_callSN3 (Mc := iX7_within) (q := 177) (c' := 0) (s' := 0) dX6_wantedBehind_174 rfl kS_X7_within (by decide) ⟨by decide, by decide⟩ rfl (Nat.le_refl _) (Nat.le_refl _) (ct_X7_within E (by omega) (by omega) (by omega)) ?_
    refine j_ifeq_b (tgt := 184) (q := 180) dX6_wantedBehind_177 (by decide) rfl (fun h177 => ?_) (fun h177 => ?_)
    · refine j_iconst (q := 185) dX6_wantedBehind_184 rfl ?_
      exact j_ireturn dX6_wantedBehind_185 rfl (by rw [tW, if_neg (by omega), if_neg (by omega), if_neg (by omega), if_neg (by omega), if_neg (by omega), if_neg (by omega), if_neg (by omega), if_neg (by omega), if_pos (by omega)]; first | (rw [if_pos (by assumption)]; done) | (rw [if_neg (nb (by assumption))]; done)) (rfl)
    · refine j_iconst (q := 181) dX6_wantedBehind_180 rfl ?_
      refine j_goto (tgt := 185) dX6_wantedBehind_181 (by decide) ?_
      exact j_ireturn dX6_wantedBehind_185 rfl (by rw [tW, if_neg (by omega), if_neg (by omega), if_neg (by omega), if_neg (by omega), if_neg (by omega), if_neg (by omega), if_neg (by omega), if_neg (by omega), if_pos (by omega)]; first | (rw [if_pos (by assumption)]; done) | (rw [if_neg (nb (by assumption))]; done)) (rfl)
  refine j_tableOut (x' := w) (tgt := 186) dX6_wantedBehind_1 (by first | exact wr_id' (by omega) (by omega) | with_reducible exact wr_bI _ | exact rfl) (by omega) (by decide) ?_
  refine j_iconst (q := 187) dX6_wantedBehind_186 rfl ?_
  exact j_ireturn dX6_wantedBehind_187 rfl (by rw [tW, if_neg (by omega), if_neg (by omega), if_neg (by omega), if_neg (by omega), if_neg (by omega), if_neg (by omega), if_neg (by omega), if_neg (by omega), if_neg (by omega)]) (rfl)
theorem lp_X6_isProgram {G : GX} {sh : List SH} (E : EV G sh) {m : Mem} {F : FinT} (hT : TL m) : ∀ (d : Nat) (i : Int) (w : Int), i + d = m 195 0 → 0 ≤ i → 0 ≤ w → w ≤ 9 → (∀ (x : Int), x = tP m d i w → J G sh iX6_isProgram 0 0 F 28 [some (.inr (.ref 195)), some (.inl x), none] [] (m) 0 0) → J G sh iX6_isProgram 0 0 F 4 [some (.inr (.ref 195)), some (.inl w), some (.inl i)] [] (m) 0 0 := by
  intro d
  induction d with
  | zero =>
    intro i w g0 g1 g2 g3 kk
    have hl := hT.1
    refine j_iload2 (q := 5) dX6_isProgram_4 rfl ?_
    refine j_aload0 (q := 6) dX6_isProgram_5 rfl ?_
    refine j_getI 0 (j' := 0) (q := 9) dX6_isProgram_6 rfl fl_X6_9 (E.2.2 _ _ sh_195) rfl rfl ?_
    refine j_icmp_ge (tgt := 28) (q := 12) dX6_isProgram_9 (by decide) rfl (by first | exact wr_id' (by omega) (by omega) | with_reducible exact wr_bI _ | exact rfl) (by first | exact wr_id' (by omega) (by omega) | with_reducible exact wr_bI _ | exact rfl) (fun h9 => ?_) (fun h9 => ?_)
    · refine j_fgt2 ?_
      exact kk _ rfl
    · omega
  | succ d ih =>
    intro i w g0 g1 g2 g3 kk
    have hl := hT.1
    refine j_iload2 (q := 5) dX6_isProgram_4 rfl ?_
    refine j_aload0 (q := 6) dX6_isProgram_5 rfl ?_
    refine j_getI 0 (j' := 0) (q := 9) dX6_isProgram_6 rfl fl_X6_9 (E.2.2 _ _ sh_195) rfl rfl ?_
    refine j_icmp_ge (tgt := 28) (q := 12) dX6_isProgram_9 (by decide) rfl (by first | exact wr_id' (by omega) (by omega) | with_reducible exact wr_bI _ | exact rfl) (by first | exact wr_id' (by omega) (by omega) | with_reducible exact wr_bI _ | exact rfl) (fun h9 => ?_) (fun h9 => ?_)
    · omega
    · have hb := tC_b hT i
      have hw := tW_b w (tC m i)
      refine j_iload1 (q := 13) dX6_isProgram_12 rfl ?_
      refine j_aload0 (q := 14) dX6_isProgram_13 rfl ?_
      refine j_iload2 (q := 15) dX6_isProgram_14 rfl ?_
      refine j_callV1 (Mc := iX6_codeAt) (q := 18) (c' := 0) (s' := 0) dX6_isProgram_15 rfl kV_X6_codeAt jw_843 ⟨by decide, by decide⟩ (E.2.2 _ _ sh_195) rfl rfl rfl (Nat.le_refl _) (Nat.le_refl _) (ct_X6_codeAt E (by omega) hT) ?_
      refine j_callS2 (Mc := iX6_wantedBehind) (q := 21) (c' := 0) (s' := 0) dX6_isProgram_18 rfl kS_X6_wantedBehind jw_847 ⟨by decide, by decide⟩ rfl (Nat.le_refl _) (Nat.le_refl _) (ct_X6_wantedBehind E (by omega) (by omega)) ?_
      refine j_istore1 (q := 22) dX6_isProgram_21 rfl rfl (by decide) ?_
      refine j_iinc2 (q := 25) dX6_isProgram_22 rfl rfl (by decide) ?_
      refine j_goto (tgt := 4) dX6_isProgram_25 (by decide) ?_
      exact ih _ _ (by omega) (by omega) (by omega) (by omega) (fun x hx => kk x (hx.trans (rfl)))
theorem ct_X6_isProgram {G : GX} {sh : List SH} (E : EV G sh) {m : Mem} (hT : TL m) : CT G sh iX6_isProgram 0 0 [.inr (.ref 195)] (m) (some (.inl (bI (decide (wr (tP m (m 195 0).toNat 0 1) = 2))))) (m) := by
  refine j_met (L0 := [some (.inr (.ref 195)), none, none]) (by decide) E.1 E.2.1 rfl (Nat.le_of_ble_eq_true rfl) ?_
  refine j_iconst (q := 1) dX6_isProgram_0 rfl ?_
  refine j_istore1 (q := 2) dX6_isProgram_1 rfl rfl (by decide) ?_
  refine j_iconst (q := 3) dX6_isProgram_2 rfl ?_
  refine j_istore2 (q := 4) dX6_isProgram_3 rfl rfl (by decide) ?_
  have hl := hT.1
  refine lp_X6_isProgram E hT (m 195 0).toNat 0 1 (by omega) (by omega) (by omega) (by omega) ?_
  intro x hx
  refine j_iload1 (q := 29) dX6_isProgram_28 rfl ?_
  refine j_iconst (q := 30) dX6_isProgram_29 rfl ?_
  refine j_icmp_ne (tgt := 37) (q := 33) dX6_isProgram_30 (by decide) rfl rfl (by first | exact wr_id' (by omega) (by omega) | with_reducible exact wr_bI _ | exact rfl) (fun h30 => ?_) (fun h30 => ?_)
  · refine j_iconst (q := 38) dX6_isProgram_37 rfl ?_
    exact j_zreturn dX6_isProgram_38 rfl (by decide) (by rw [← hx]; first | exact bI_t (by omega) | exact bI_f (by omega)) (rfl)
  · refine j_iconst (q := 34) dX6_isProgram_33 rfl ?_
    refine j_goto (tgt := 38) dX6_isProgram_34 (by decide) ?_
    exact j_zreturn dX6_isProgram_38 rfl (by decide) (by rw [← hx]; first | exact bI_t (by omega) | exact bI_f (by omega)) (rfl)
theorem ct_X6_put {G : GX} {sh : List SH} (E : EV G sh) {m : Mem} {c : Int} (hl : 0 ≤ m 195 0 ∧ m 195 0 < 60) : CT G sh iX6_put 0 0 [.inr (.ref 195), .inl c] (m) none (up (up m 196 (m 195 0) c) 195 0 (m 195 0 + 1)) := by
  refine j_met (L0 := [some (.inr (.ref 195)), some (.inl c)]) (by decide) E.1 E.2.1 rfl (Nat.le_of_ble_eq_true rfl) ?_
  refine j_aload0 (q := 1) dX6_put_0 rfl ?_
  refine j_getI 0 (j' := 0) (q := 4) dX6_put_1 rfl fl_X6_9 (E.2.2 _ _ sh_195) rfl rfl ?_
  refine j_bipush (q := 6) dX6_put_4 rfl rfl ?_
  refine j_icmp_ge (tgt := 29) (q := 9) dX6_put_6 (by decide) rfl (by first | exact wr_id' (by omega) (by omega) | with_reducible exact wr_bI _ | exact rfl) (by first | exact wr_id' (by omega) (by omega) | with_reducible exact wr_bI _ | exact rfl) (fun h6 => ?_) (fun h6 => ?_)
  · omega
  · refine j_aload0 (q := 10) dX6_put_9 rfl ?_
    refine j_getR 1 (q := 13) dX6_put_10 rfl fl_X6_15 (E.2.2 _ _ sh_195) rfl ?_
    refine j_aload0 (q := 14) dX6_put_13 rfl ?_
    refine j_getI 0 (j' := 0) (q := 17) dX6_put_14 rfl fl_X6_9 (E.2.2 _ _ sh_195) rfl rfl ?_
    refine j_iload1 (q := 18) dX6_put_17 rfl ?_
    refine j_iastore (q := 19) dX6_put_18 rfl (E.2.2 _ _ sh_196) (by first | exact wr_id' (by omega) (by omega) | with_reducible exact wr_bI _ | exact rfl) (by omega) (by omega) ?_
    have e1 : up m 196 (m 195 0) c 195 0 = m 195 0 := up_ne (by omega)
    refine j_aload0 (q := 20) dX6_put_19 rfl ?_
    refine j_dup (q := 21) dX6_put_20 rfl rfl ?_
    refine j_getI 0 (j' := 0) (q := 24) dX6_put_21 rfl fl_X6_9 (E.2.2 _ _ sh_195) rfl rfl ?_
    refine j_iconst (q := 25) dX6_put_24 rfl ?_
    refine j_iadd (q := 26) dX6_put_25 rfl ?_
    refine j_putI 0 (j' := 0) (q := 29) dX6_put_26 rfl fw_X6_9 (E.2.2 _ _ sh_195) rfl rfl ?_
    exact j_return dX6_put_29 rfl (by rw [e1])

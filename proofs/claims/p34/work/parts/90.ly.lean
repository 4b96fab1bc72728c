/-! the start -/
theorem tbl (i : Nat) {w : Cond} (h : tables_1[i]? = some w) : w ∈ lw_tbl := List.mem_append_right _ (List.mem_of_getElem? h)
/-- a static array of ints, with its exact length -/
theorem X_of {args : Array Value} {s : State} {tm : Term} {N : Nat} {f : Nat → Int32} (hN : N < 2 ^ 31) (harr : (Cond.arrayOf tm .int).before args s = true) (hlen : (Term.length tm).eval args s none [] s = some (.int (Int32.ofNat N))) (hel : ∀ j : Nat, j < N → (Term.elem tm (.int (Int32.ofNat j))).eval args s none [] s = some (.int (f j))) : ∃ t : Nat, tm.eval args s none [] s = some (.ref t) ∧ va_X t N f s s.heap := by
  obtain ⟨t, ht, cell, h1, h2, h3, h4, h5, h6, -⟩ := va_Tof (A := fun _ => False) hN harr hlen hel (fun _ _ h => h)
  obtain ⟨t', cell', ht', hat, hv⟩ := Term.length_spec hlen
  obtain ⟨hcell, -, -, -⟩ := State.arrayAt?_spec hat
  cases ht.symm.trans ht'
  cases h1.symm.trans hcell
  have hsz : cell.slots.size < 2 ^ 31 := by
    simp only [Term.eval, ht, hat, Option.bind_eq_bind, Option.bind_some] at hlen
    by_cases hlt : cell.slots.size < 2147483648
    · exact hlt
    · simp [hlt] at hlen
  have e : cell.slots.size = N := by
    have a : (Int32.ofNat cell.slots.size).toNatClampNeg = cell.slots.size := Int32.toNatClampNeg_ofNat_of_lt hsz
    have b : (Int32.ofNat N).toNatClampNeg = N := Int32.toNatClampNeg_ofNat_of_lt hN
    have c : Int32.ofNat cell.slots.size = Int32.ofNat N := h5
    rw [← a, c, b]
  exact ⟨t, ht, cell, h1, h2, h3, e, h6⟩
theorem T_of {b L : Nat} {xs : Nat → Int32} {s : State} {A : Nat → Prop} (h : va_X b L xs s s.heap) (hA : ¬ A b) : va_T .int b L (fun i => .int (xs i)) A s s.heap := by
  obtain ⟨scr, h1, h2, h3, h4, h5⟩ := h
  exact ⟨scr, h1, h2, h3, by omega, by rw [h4], h5, hA⟩
theorem X_lt {b L : Nat} {xs : Nat → Int32} {s : State} {H : Heap} (h : va_X b L xs s H) : b < H.size := by
  obtain ⟨scr, h1, -⟩ := h
  exact (Array.getElem?_eq_some_iff.mp h1).1
abbrev tF : Term := Term.static "CoreLeases" "FIRST_SETTINGS" "[I"
abbrev tM : Term := Term.static "CoreLeases" "MOST_SETTINGS" "[I"
def gv (k : Nat) (c0 c1 c2 : ClassId) : ClassId := if k = 0 then c0 else if k = 1 then c1 else c2
theorem st_F {args : Array Value} {s : State} (hg : ∀ c ∈ flatC (Jvm.Cond.and given_1 narrow_1), c.before args s = true) : ∃ t : Nat, tF.eval args s none [] s = some (.ref t) ∧ va_X t 8 (fun i => jI (zI 64 (15 + (i : Int)))) s s.heap := by
  refine X_of (by decide) (hg (.arrayOf tF .int) (by decide +kernel)) (va_eqt (hg (.eq (.length tF) (.int 8)) (by decide +kernel))) (fun j hj => ?_)
  match j, hj with
  | 0, _ => rw [show jI (zI 64 (15 + ((0 : Nat) : Int))) = 2 by decide +kernel]; exact va_eqt (hg (.eq (.elem tF (.int 0)) (.int 2)) (by decide +kernel))
  | 1, _ => rw [show jI (zI 64 (15 + ((1 : Nat) : Int))) = 4 by decide +kernel]; exact va_eqt (hg (.eq (.elem tF (.int 1)) (.int 4)) (by decide +kernel))
  | 2, _ => rw [show jI (zI 64 (15 + ((2 : Nat) : Int))) = 3 by decide +kernel]; exact va_eqt (hg (.eq (.elem tF (.int 2)) (.int 3)) (by decide +kernel))
  | 3, _ => rw [show jI (zI 64 (15 + ((3 : Nat) : Int))) = 5 by decide +kernel]; exact va_eqt (hg (.eq (.elem tF (.int 3)) (.int 5)) (by decide +kernel))
  | 4, _ => rw [show jI (zI 64 (15 + ((4 : Nat) : Int))) = 20 by decide +kernel]; exact va_eqt (hg (.eq (.elem tF (.int 4)) (.int 20)) (by decide +kernel))
  | 5, _ => rw [show jI (zI 64 (15 + ((5 : Nat) : Int))) = 60 by decide +kernel]; exact va_eqt (hg (.eq (.elem tF (.int 5)) (.int 60)) (by decide +kernel))
  | 6, _ => rw [show jI (zI 64 (15 + ((6 : Nat) : Int))) = 2 by decide +kernel]; exact va_eqt (hg (.eq (.elem tF (.int 6)) (.int 2)) (by decide +kernel))
  | 7, _ => rw [show jI (zI 64 (15 + ((7 : Nat) : Int))) = 10 by decide +kernel]; exact va_eqt (hg (.eq (.elem tF (.int 7)) (.int 10)) (by decide +kernel))
  | j + 8, hj => exact absurd hj (by omega)
theorem st_M {args : Array Value} {s : State} (hg : ∀ c ∈ flatC (Jvm.Cond.and given_1 narrow_1), c.before args s = true) : ∃ t : Nat, tM.eval args s none [] s = some (.ref t) ∧ va_X t 8 (fun i => jI (zMost (i : Int))) s s.heap := by
  refine X_of (by decide) (hg (.arrayOf tM .int) (by decide +kernel)) (va_eqt (hg (.eq (.length tM) (.int 8)) (by decide +kernel))) (fun j hj => ?_)
  match j, hj with
  | 0, _ => rw [show jI (zMost ((0 : Nat) : Int)) = 20 by decide +kernel]; exact va_eqt (hg (.eq (.elem tM (.int 0)) (.int 20)) (by decide +kernel))
  | 1, _ => rw [show jI (zMost ((1 : Nat) : Int)) = 20 by decide +kernel]; exact va_eqt (hg (.eq (.elem tM (.int 1)) (.int 20)) (by decide +kernel))
  | 2, _ => rw [show jI (zMost ((2 : Nat) : Int)) = 20 by decide +kernel]; exact va_eqt (hg (.eq (.elem tM (.int 2)) (.int 20)) (by decide +kernel))
  | 3, _ => rw [show jI (zMost ((3 : Nat) : Int)) = 50 by decide +kernel]; exact va_eqt (hg (.eq (.elem tM (.int 3)) (.int 50)) (by decide +kernel))
  | 4, _ => rw [show jI (zMost ((4 : Nat) : Int)) = 100 by decide +kernel]; exact va_eqt (hg (.eq (.elem tM (.int 4)) (.int 100)) (by decide +kernel))
  | 5, _ => rw [show jI (zMost ((5 : Nat) : Int)) = 100 by decide +kernel]; exact va_eqt (hg (.eq (.elem tM (.int 5)) (.int 100)) (by decide +kernel))
  | 6, _ => rw [show jI (zMost ((6 : Nat) : Int)) = 10 by decide +kernel]; exact va_eqt (hg (.eq (.elem tM (.int 6)) (.int 10)) (by decide +kernel))
  | 7, _ => rw [show jI (zMost ((7 : Nat) : Int)) = 50 by decide +kernel]; exact va_eqt (hg (.eq (.elem tM (.int 7)) (.int 50)) (by decide +kernel))
  | j + 8, hj => exact absurd hj (by omega)
theorem cl_all {args : Array Value} {s : State} (ht : ∀ w ∈ jall, w.before args s = true) : ∃ (dC : Nat → ClassId) (dI : Nat → Nat → Nat), ∀ (k : Nat) (q : vw_C), vwCl[k]? = some q → u_Kn s q.1 q.2.1 q.2.2 (dC k) (dI k) := by
  have h : ∀ k : Nat, ∃ (cC : ClassId) (iS : Nat → Nat), ∀ q : vw_C, vwCl[k]? = some q → u_Kn s q.1 q.2.1 q.2.2 cC iS := by
    intro k
    match k with
    | 0 =>
      obtain ⟨a, b, h⟩ := u_known (C := RX0) (T := TX0) (N := 7) (n := 7) ht cf_0.2.1 (ht _ jw_34)
      exact ⟨a, b, fun q hq => by cases hq; exact h⟩
    | 1 =>
      obtain ⟨a, b, h⟩ := u_known (C := RX1) (T := TX1) (N := 3) (n := 3) ht cf_1.2.1 (ht _ jw_77)
      exact ⟨a, b, fun q hq => by cases hq; exact h⟩
    | 2 =>
      obtain ⟨a, b, h⟩ := u_known (C := RX2) (T := TX2) (N := 6) (n := 6) ht cf_2.2.1 (ht _ jw_123)
      exact ⟨a, b, fun q hq => by cases hq; exact h⟩
    | 3 =>
      obtain ⟨a, b, h⟩ := u_known (C := RX3) (T := TX3) (N := 11) (n := 11) ht cf_3.2.1 (ht _ jw_28)
      exact ⟨a, b, fun q hq => by cases hq; exact h⟩
    | 4 =>
      obtain ⟨a, b, h⟩ := u_known (C := RX4) (T := TX4) (N := 2) (n := 2) ht cf_4.2.1 (ht _ jw_213)
      exact ⟨a, b, fun q hq => by cases hq; exact h⟩
    | 5 =>
      obtain ⟨a, b, h⟩ := u_known (C := RX5) (T := TX5) (N := 4) (n := 4) ht cf_5.2.1 (ht _ jw_97)
      exact ⟨a, b, fun q hq => by cases hq; exact h⟩
    | 6 =>
      obtain ⟨a, b, h⟩ := u_known (C := RX6) (T := TX6) (N := 2) (n := 2) ht cf_6.2.1 (ht _ jw_230)
      exact ⟨a, b, fun q hq => by cases hq; exact h⟩
    | 7 =>
      obtain ⟨a, b, h⟩ := u_known (C := RX7) (T := TX7) (N := 4) (n := 4) ht cf_7.2.1 (ht _ jw_20)
      exact ⟨a, b, fun q hq => by cases hq; exact h⟩
    | k + 8 => exact ⟨0, fun _ => 0, fun q hq => by simp [vwCl] at hq⟩
  exact ⟨fun k => Classical.choose (h k), fun k => Classical.choose (Classical.choose_spec (h k)), fun k q hq => Classical.choose_spec (Classical.choose_spec (h k)) q hq⟩
theorem ar_of {args : Array Value} {s : State} {ty : FieldType} (h : (Cond.arrayClass ty).before args s = true) : ∃ cA : ClassId, ArrOfT s cA ty ∧ s.vm.findClass ("[" ++ ty.toString) = some cA := by
  obtain ⟨c, k, comp, h1, h2, h3⟩ := Cond.arrayClass_spec (show (Cond.arrayClass ty).holds args s none s [] = true from h)
  exact ⟨c, fun n z => ⟨fun k h => (by cases h), k, h2, comp, h3⟩, h1⟩
theorem ar_ov {args : Array Value} {s : State} {C : String} (h : (Cond.arrayOver (.object C)).before args s = true) : ∃ cA : ClassId, ArrOfT s cA (.object C) ∧ va_RA s cA (.object C) := by
  obtain ⟨comp, c, k, h1, h2, h3, h4, h5⟩ := Cond.arrayOver_spec (show (Cond.arrayOver (.object C)).holds args s none s [] = true from h)
  exact ⟨c, fun n z => ⟨fun k h => (by cases h), k, h3, comp, h4⟩, k, comp, h3, h4, h1, h5⟩
theorem str_of {args : Array Value} {s : State} {own tx : String} {k cur : Nat} (hc : s.vm.findClass own = some cur) (h : (Cond.stringRef own k tx).before args s = true) : ∃ a, vk_R own k tx a s := by
  obtain ⟨_, _, _, a, _, _, _, _, _, h6⟩ := Cond.stringRef_spec hc (show (Cond.stringRef own k tx).holds args s none s [] = true from h)
  exact ⟨a, vk_R.of h h6⟩
theorem str_all {args : Array Value} {s : State} (hts : ∀ w ∈ lw_tbl, w.before args s = true) {cur : Nat} (hc : s.vm.findClass RX7 = some cur) : ∀ q ∈ jstrs, ∃ a, vk_R RX7 q.1 q.2 a s := by
  intro q hq
  simp only [jstrs, List.mem_cons, List.not_mem_nil, or_false] at hq
  rcases hq with rfl | rfl | rfl | rfl | rfl | rfl
  · exact str_of hc (hts _ (tbl 451 (by decide +kernel)))
  · exact str_of hc (hts _ (tbl 537 (by decide +kernel)))
  · exact str_of hc (hts _ (tbl 565 (by decide +kernel)))
  · exact str_of hc (hts _ (tbl 307 (by decide +kernel)))
  · exact str_of hc (hts _ (tbl 348 (by decide +kernel)))
  · exact str_of hc (hts _ (tbl 726 (by decide +kernel)))
theorem nest_all {args : Array Value} {s : State} (hts : ∀ w ∈ lw_tbl, w.before args s = true) : ∀ q ∈ jnest, va_Nw (.methodLinkNest q.1 q.2.1 q.2.2 RX7) s := by
  intro q hq
  simp only [jnest, List.mem_cons, List.not_mem_nil, or_false] at hq
  rcases hq with rfl | rfl | rfl | rfl | rfl | rfl | rfl | rfl | rfl | rfl | rfl | rfl | rfl | rfl | rfl
  · exact va_Nw.of rfl (hts _ (tbl 98 (by decide +kernel)))
  · exact va_Nw.of rfl (hts _ (tbl 124 (by decide +kernel)))
  · exact va_Nw.of rfl (hts _ (tbl 160 (by decide +kernel)))
  · exact va_Nw.of rfl (hts _ (tbl 231 (by decide +kernel)))
  · exact va_Nw.of rfl (hts _ (tbl 853 (by decide +kernel)))
  · exact va_Nw.of rfl (hts _ (tbl 403 (by decide +kernel)))
  · exact va_Nw.of rfl (hts _ (tbl 586 (by decide +kernel)))
  · exact va_Nw.of rfl (hts _ (tbl 871 (by decide +kernel)))
  · exact va_Nw.of rfl (hts _ (tbl 371 (by decide +kernel)))
  · exact va_Nw.of rfl (hts _ (tbl 376 (by decide +kernel)))
  · exact va_Nw.of rfl (hts _ (tbl 381 (by decide +kernel)))
  · exact va_Nw.of rfl (hts _ (tbl 386 (by decide +kernel)))
  · exact va_Nw.of rfl (hts _ (tbl 628 (by decide +kernel)))
  · exact va_Nw.of rfl (hts _ (tbl 635 (by decide +kernel)))
  · exact va_Nw.of rfl (hts _ (tbl 636 (by decide +kernel)))
theorem cast_all {args : Array Value} {s : State} (hts : ∀ w ∈ lw_tbl, w.before args s = true) : ∀ q ∈ jcast, va_Nw (.castable q q) s := by
  intro q hq
  simp only [jcast, List.mem_cons, List.not_mem_nil, or_false] at hq
  rcases hq with rfl | rfl | rfl
  · exact va_Nw.of rfl (hts _ (tbl 268 (by decide +kernel)))
  · exact va_Nw.of rfl (hts _ (tbl 341 (by decide +kernel)))
  · exact va_Nw.of rfl (hts _ (tbl 719 (by decide +kernel)))
theorem ncast_all {args : Array Value} {s : State} (hg : ∀ c ∈ flatC (Jvm.Cond.and given_1 narrow_1), c.before args s = true) : ∀ q ∈ jncast, va_Nc q.1 q.2 s := by
  intro q hq
  cases hq
/-- the world at the law's entry -/
theorem world {l : Launch} {s : State} {b L : Nat} {xs : Nat → Int32} (hL : L ≤ 260) (hts : ∀ w ∈ lw_tbl, w.before #[Value.ref b] s = true) (hX : va_X b L xs s s.heap) (hgv : (Jvm.Cond.and given_1 narrow_1).before #[Value.ref b] s = true) : ∃ G : GX, gL G = l ∧ gZ G = s.heap.size ∧ Lin G ∧ jSF G s ∧ HX G s ∧ (gE G 0).2.1 = 8 ∧ (∀ s, 0 ≤ s → s < 8 → (gE G 0).2.2 s = zI 64 (15 + s)) ∧ (gE G 1).2.1 = 8 ∧ (∀ s, 0 ≤ s → s < 8 → (gE G 1).2.2 s = zMost s) ∧ (gE G 2).2.1 ≤ 260 ∧ (gE G 2).1 = b := by
  have hg := flat_of_before _ hgv
  have ht : ∀ w ∈ jall, w.before #[Value.ref b] s = true := fun w hw => hts w (List.mem_filter.mp hw).1
  obtain ⟨dC, dI, hK⟩ := cl_all ht
  obtain ⟨cI, i1, i2⟩ := ar_of (ht _ jw_75)
  obtain ⟨cJ, j1, j2⟩ := ar_of (ht _ jw_75)
  have hover : (Cond.arrayOver (.object RX3)).before #[Value.ref b] s = true := hts _ (tbl 219 (by decide +kernel))
  obtain ⟨cP, p1, p2⟩ := ar_ov hover
  obtain ⟨tf, f1, f2⟩ := st_F hg
  obtain ⟨tm, m1, m2⟩ := st_M hg
  have hA : ∀ a : Nat, a < s.heap.size → ¬ s.heap.size ≤ a := fun a h => Nat.not_le.mpr h
  have hX2 : va_X b L (fun i => jI ((xs ((i : Int)).toNat).toInt)) s s.heap := by
    obtain ⟨scr, h1, h2, h3, h4, h5⟩ := hX
    refine ⟨scr, h1, h2, h3, h4, fun j hj => ?_⟩
    have e : jI ((xs ((j : Int)).toNat).toInt) = xs j := by
      show Int32.ofInt _ = _
      rw [show ((j : Int)).toNat = j by omega]
      exact Int32.ofInt_toInt _
    show scr.slots[j]? = some (.int (jI ((xs ((j : Int)).toNat).toInt)))
    rw [e]
    exact h5 j hj
  refine ⟨(l, (dC, dI), fun k => gv k cI cJ cP, s.heap.size, fun k => if k = 0 then (tf, 8, fun i => zI 64 (15 + i)) else if k = 1 then (tm, 8, fun i => zMost i) else (b, L, fun i => (xs i.toNat).toInt), fun k => s.heap.size + k), rfl, rfl, fun _ => rfl, ⟨⟨hK, fun k q hk => ?_⟩, ?_, ?_, ?_, ?_, ?_, str_all hts (hK 7 _ rfl).2.1, nest_all hts, va_Nw.of rfl (hts _ (tbl 158 (by decide +kernel))), cast_all hts, ncast_all hg, va_AO.of hover⟩, f2, rfl, fun _ _ _ => rfl, rfl, fun _ _ _ => rfl, hL, rfl⟩
  · match k, hk with
    | 0, hk => cases hk; exact ⟨i1, i2⟩
    | 1, hk => cases hk; exact ⟨j1, j2⟩
    | 2, hk => cases hk; exact ⟨p1, p2⟩
    | k + 3, hk => simp [jty] at hk
  · exact va_Zof (hts _ (tbl 159 (by decide +kernel))) (ht _ jw_1) f1 hA
  · exact va_Zof (hts _ (tbl 335 (by decide +kernel))) (ht _ jw_1) m1 hA
  · intro j hj
    match j, hj with
    | 0, _ => exact T_of f2 (hA _ (X_lt f2))
    | 1, _ => exact T_of m2 (hA _ (X_lt m2))
    | 2, _ => exact T_of hX2 (hA _ (X_lt hX2))
    | j + 3, hj => exact absurd hj (by omega)
  · exact vx_Zqof (hts _ (tbl 293 (by decide +kernel))) (hts _ (tbl 12 (by decide +kernel))) (hg _ (by decide +kernel)) hA
  · exact vx_Zqof (hts _ (tbl 295 (by decide +kernel))) (hts _ (tbl 12 (by decide +kernel))) (hg _ (by decide +kernel)) hA
theorem whole_start {p : Program} {e : Env} {s : State} {m : MethodId} {below : List Frame} {meth : Method} {c : Code} (l : Launch) (hflags : l.flags = flags0) {b L : Nat} {xs : Nat → Int32} (hL : L ≤ 260) (C0 : lw_At p s m meth c b L xs) : W p l e room_1 s m #[Value.ref b] below meth c s.heap [] 0 0 (lw_Z below #[Value.ref b] s) (entryFrame m ([Value.ref b] : List Value).toArray 14) := by
  obtain ⟨hx, hbd, hret, hml, hown, hts, hX, hbl, hlk, hgv⟩ := C0
  obtain ⟨G, rfl, hz, hl, hsf, hHX, h8, gf, g8, gm, hsc, gb⟩ := world (l := l) hL hts hX hgv
  have body := lw_body hl hflags h8 gf g8 gm hsc (b := b)
  have hv : ([Value.ref b] : List Value) = ([.inr (.retAddr 2)] : List PV).map (jv G) := by
    show _ = [Value.ref (gE G 2).1]
    rw [gb]
  have ee : entryFrame m ([Value.ref b] : List Value).toArray 14 = entryFrame m ((([.inr (.retAddr 2)] : List PV).map (jv G))).toArray 14 := by rw [hv]
  rw [ee, lg_entry_eq]
  refine W.imp (fun t h => h ⟨by rw [hz]; rfl, hHX⟩ ⟨rfl, hz.symm⟩) (body p e s m #[Value.ref b] below meth c room_1 ⟨hx, hbd, hret, hml, hown, hlk, fun w hw => hts w (List.mem_filter.mp hw).1, hsf, by rw [hz]; exact Nat.le_refl _, hl.ap, hflags, rfl⟩ s.heap [] _ (fun k q hk => by cases hk) va_S.rf ?_)
  rw [show ([some (.inr (.retAddr 2)), none, none, none, none, none, none, none, none, none, none, none, none, none] : List (Option PV)) = jent 14 [.inr (.retAddr 2)] from rfl, jent_jl]
  exact lv_entry _ (by rw [jent1_len]; exact Nat.le_of_ble_eq_true rfl)

/-! the law: sixteen cores against sixty-four; what is owed at a place -/
/-- what the law compares of dues -/
def DB (z : Z) : Prop := ∀ c, 0 ≤ c → c < 64 → (0 ≤ z (59 + 9 * c + 6) ∧ z (59 + 9 * c + 6) ≤ 100000) ∧ (0 < z (59 + 9 * c + 6) → 0 ≤ z (59 + 9 * c + 7) ∧ z (59 + 9 * c + 7) ≤ 2000000)
theorem IZ_DB {z : Z} {T B : Int} (h : IZ z T B) : DB z := fun c a b => by
  have h1 := h.du c a b
  have hT := h.tT
  refine ⟨by omega, fun q => ?_⟩
  have h2 := h.ow c a b q
  have h3 := h.sb
  have h4 := h.sB
  omega
def lAh (z : Z) (k e : Int) : Bool := decide (0 < z (59 + 9 * cr e + 6) ∧ (z (59 + 9 * cr e + 6) < z (59 + 9 * cr k + 6) ∨ z (59 + 9 * cr e + 6) = z (59 + 9 * cr k + 6) ∧ z (59 + 9 * cr e + 7) < z (59 + 9 * cr k + 7)))
def lRk (z : Z) (k : Int) : Int := cntF (lAh z k) 16 0 0
theorem lRk_b (z : Z) (k : Int) : 0 ≤ lRk z k ∧ lRk z k ≤ 16 := by
  have h := cnt_b (lAh z k) 16 0 0
  unfold lRk; omega
def lOwF (z : Z) (q : Int) : Nat → Int → Int
  | 0, _ => -1
  | d + 1, k => if 0 < z (59 + 9 * cr k + 6) ∧ lRk z k = q then k else lOwF z q d (k + 1)
def lOw (z : Z) (q : Int) : Int := lOwF z q 16 0
theorem lOwF_s {z : Z} {q : Int} : ∀ (d : Nat) (k : Int), (lOwF z q d k = -1 ∧ ∀ e, k ≤ e → e < k + d → ¬ (0 < z (59 + 9 * cr e + 6) ∧ lRk z e = q)) ∨ ((k ≤ lOwF z q d k ∧ lOwF z q d k < k + d) ∧ 0 < z (59 + 9 * cr (lOwF z q d k) + 6) ∧ lRk z (lOwF z q d k) = q) := by
  intro d
  induction d with
  | zero => intro k; exact Or.inl ⟨rfl, fun e h1 h2 => by omega⟩
  | succ d ih =>
    intro k
    rw [lOwF]
    by_cases h : 0 < z (59 + 9 * cr k + 6) ∧ lRk z k = q
    · rw [if_pos h]
      exact Or.inr ⟨⟨by omega, by omega⟩, h⟩
    · rw [if_neg h]
      rcases ih (k + 1) with ⟨h1, h2⟩ | ⟨h1, h2⟩
      · refine Or.inl ⟨h1, fun e h3 h4 => ?_⟩
        by_cases g : e = k
        · rw [g]; exact h
        · exact h2 e (by omega) (by omega)
      · exact Or.inr ⟨⟨by omega, by omega⟩, h2⟩
theorem lOw_b (z : Z) (q : Int) : -1 ≤ lOw z q ∧ lOw z q < 16 := by
  rcases lOwF_s (z := z) (q := q) 16 0 with ⟨h1, -⟩ | ⟨h1, -⟩
  · unfold lOw; omega
  · unfold lOw; omega
/-- as many as the list is long -/
theorem mem_cnt {z : Z} : ∀ (l : List Int), l.Pairwise (zB z) → (∀ c, c ∈ l → 0 ≤ c ∧ c < 64) → cntF (fun e => decide (e ∈ l)) 64 0 0 = l.length := by
  intro l
  induction l with
  | nil => intro _ _; rw [cnt_it, itF_z 64 0 0 (fun e _ _ => by show (0 : Int) + bI (decide (e ∈ ([] : List Int))) = 0; simp [bI])]; rfl
  | cons a l ih =>
    intro h1 h2
    obtain ⟨p1, p2⟩ := List.pairwise_cons.mp h1
    have hn : ¬ a ∈ l := fun q => zB_as (p1 a q) (p1 a q)
    have hb := h2 a List.mem_cons_self
    have i := ih p2 (fun c hc => h2 c (List.mem_cons_of_mem _ hc))
    have u := cnt_upd2 (p := fun e => decide (e ∈ l)) (q := fun e => decide (e ∈ a :: l)) hb (fun e _ _ hne => by
      show decide (e ∈ a :: l) = decide (e ∈ l)
      rw [decide_eq_decide, List.mem_cons]
      exact ⟨fun r => r.resolve_left hne, Or.inr⟩)
    have b1 : bI (decide (a ∈ l)) = 0 := (bI_f hn).symm
    have b2 : bI (decide (a ∈ a :: l)) = 1 := (bI_t List.mem_cons_self).symm
    rw [b1, b2, i] at u
    rw [List.length_cons]
    omega
theorem lRk_l {z : Z} {l l1 l2 : List Int} {k : Int} (hX : LX z) (ho : OL z l) (e : l = l1 ++ cr k :: l2) : lRk z k = l1.length := by
  obtain ⟨pw, hm⟩ := ho
  have hk := (hm (cr k)).mp (by rw [e]; exact List.mem_append_right _ List.mem_cons_self)
  rw [e] at pw
  obtain ⟨p1, p2, p3⟩ := List.pairwise_append.mp pw
  have p4 := (List.pairwise_cons.mp p2).1
  have h1 : ∀ x, x ∈ l1 → x ∈ l := fun x hx => by rw [e]; exact List.mem_append_left _ hx
  have c64 : lRk z k = cntF (fun c => decide (0 < z (59 + 9 * c + 6) ∧ (z (59 + 9 * c + 6) < z (59 + 9 * cr k + 6) ∨ z (59 + 9 * c + 6) = z (59 + 9 * cr k + 6) ∧ z (59 + 9 * c + 7) < z (59 + 9 * cr k + 7)))) 64 0 0 := by
    rw [cnt16 (fun c a b np => decide_eq_false (fun q => by have := ((hX.2.2 c a b).2.1 np).2.2.2; omega))]
    rfl
  rw [c64, ← mem_cnt (z := z) l1 p1 (fun c hc => ((hm c).mp (h1 c hc)).1)]
  refine cnt_cg 64 0 0 (fun c a b => ?_)
  show decide (0 < z (59 + 9 * c + 6) ∧ (z (59 + 9 * c + 6) < z (59 + 9 * cr k + 6) ∨ z (59 + 9 * c + 6) = z (59 + 9 * cr k + 6) ∧ z (59 + 9 * c + 7) < z (59 + 9 * cr k + 7))) = decide (c ∈ l1)
  rw [decide_eq_decide]
  constructor
  · rintro ⟨q1, q2⟩
    have hc : c ∈ l := (hm c).mpr ⟨⟨a, by omega⟩, q1⟩
    rw [e] at hc
    rcases List.mem_append.mp hc with q | q
    · exact q
    · rcases List.mem_cons.mp q with q | q
      · rw [q] at q2; exact (zB_as q2 q2).elim
      · exact (zB_as q2 (p4 c q)).elim
  · intro q
    exact ⟨((hm c).mp (h1 c q)).2, p3 c q (cr k) List.mem_cons_self⟩
theorem lOw_in {z : Z} {l : List Int} {q : Nat} (hX : LX z) (ho : OL z l) (h : q < l.length) : (0 ≤ lOw z q ∧ lOw z q < 16) ∧ l[q]? = some (cr (lOw z q)) := by
  have hc : l[q]? = some l[q] := List.getElem?_eq_getElem h
  have hm := (ho.2 l[q]).mp (List.getElem_mem h)
  have hp : pl l[q] := Classical.byContradiction (fun np => by have := ((hX.2.2 _ hm.1.1 hm.1.2).2.1 np).2.2.2; omega)
  obtain ⟨k, hk, ek⟩ := pl_cr hm.1.1 hp
  have e1 : l = l.take q ++ cr k :: l.drop (q + 1) := by
    rw [ek, List.getElem_cons_drop, List.take_append_drop]
  have r1 := lRk_l hX ho e1
  have t1 : (l.take q).length = q := by rw [List.length_take]; omega
  rw [t1] at r1
  rcases lOwF_s (z := z) (q := q) 16 0 with ⟨h1, h2⟩ | ⟨h1, h2, h3⟩
  · exact absurd ⟨by rw [ek]; exact hm.2, r1⟩ (h2 k hk.1 (by omega))
  · refine ⟨⟨h1.1, by have := h1.2; unfold lOw; omega⟩, ?_⟩
    have hb := cr_b (k := lOw z q) ⟨h1.1, by have := h1.2; unfold lOw; omega⟩
    obtain ⟨l1, l2, e2⟩ := List.append_of_mem ((ho.2 (cr (lOw z q))).mpr ⟨hb, h2⟩)
    have r2 := lRk_l hX ho e2
    have r3 : lRk z (lOw z q) = q := h3
    have r4 : l1.length = q := by omega
    rw [e2, ← r4, List.getElem?_append_right (Nat.le_refl _), Nat.sub_self]
    rfl
theorem lOw_out {z : Z} {l : List Int} {q : Int} (hX : LX z) (ho : OL z l) (h : (l.length : Int) ≤ q) : lOw z q = -1 := by
  rcases lOwF_s (z := z) (q := q) 16 0 with ⟨h1, -⟩ | ⟨h1, h2, h3⟩
  · exact h1
  · exfalso
    have hb := cr_b (k := lOwF z q 16 0) ⟨h1.1, by omega⟩
    obtain ⟨l1, l2, e2⟩ := List.append_of_mem ((ho.2 (cr (lOwF z q 16 0))).mpr ⟨hb, h2⟩)
    have r2 := lRk_l hX ho e2
    have hl := congrArg List.length e2
    rw [List.length_append, List.length_cons] at hl
    omega
theorem seg_at {f : Int → Int} : ∀ (n : Nat) (a : Int) (j : Nat), j < n → (seg f a n)[j]? = some (f (a + j)) := by
  intro n
  induction n with
  | zero => intro a j h; omega
  | succ n ih =>
    intro a j h
    rw [seg]
    cases j with
    | zero => rw [List.getElem?_cons_zero, show a + ((0 : Nat) : Int) = a by omega]
    | succ j => rw [List.getElem?_cons_succ, ih (a + 1) j (by omega), show a + 1 + (j : Int) = a + ((j + 1 : Nat) : Int) by omega]
theorem lOw_s {z : Z} {T B q : Int} (o : Int → Int) (hX : LX z) (hI : IZ z T B) (h : 0 ≤ q ∧ q < zOwN z) : (0 ≤ lOw z q ∧ lOw z q < 16) ∧ cr (lOw z q) = zOrd z o q := by
  have ho := zOrd_l hI o
  have hn := zOrN_n z o
  obtain ⟨n, rfl⟩ : ∃ n : Nat, q = n := ⟨q.toNat, by omega⟩
  have hl : n < (seg (zOrd z o) 0 (zOrN z o).toNat).length := by rw [seg_len]; omega
  obtain ⟨a, b⟩ := lOw_in hX ho hl
  refine ⟨a, ?_⟩
  rw [seg_at _ _ _ (by omega), show (0 : Int) + (n : Int) = n by omega] at b
  exact (Option.some.inj b).symm
theorem lOw_n {z : Z} {T B q : Int} (hX : LX z) (hI : IZ z T B) (h : zOwN z ≤ q) : lOw z q = -1 := by
  have ho := zOrd_l hI (fun _ => 0)
  have hn := zOrN_n z (fun _ => 0)
  have hb := zOw_b z
  exact lOw_out hX ho (by rw [seg_len]; omega)
theorem lOw_g {z : Z} {T B q : Int} (hX : LX z) (hI : IZ z T B) (hq : 0 ≤ q) : 0 ≤ lOw z q ↔ q < zOwN z := by
  constructor
  · intro h
    refine Decidable.byContradiction (fun w => ?_)
    have := lOw_n hX hI (q := q) (by omega)
    omega
  · intro h
    exact (lOw_s (fun _ => 0) hX hI ⟨hq, h⟩).1.1
/-- a due time written doesn't matter to losses and pulses -/
theorem zSh1_cm {q j v : Int} : ∀ (d : Nat) (k : Int) (z : Z), j < q + k → zSh1 q d k (u1 z j v) = u1 (zSh1 q d k z) j v := by
  intro d
  induction d with
  | zero => intro k z _; rfl
  | succ d ih =>
    intro k z h
    rw [zSh1, zSh1, u1_ne (by omega), u1_cm (by omega), ih _ _ (by omega)]
theorem zPa_cm {i j v : Int} {z : Z} (hi : 0 ≤ i ∧ i < 3) (ht : 0 ≤ z (635 + 520 * i) ∧ z (635 + 520 * i) < 6) (hj : 59 ≤ j ∧ j < 635) : zPa (u1 z j v) i = u1 (zPa z i) j v := by
  have e : u1 z j v (635 + 520 * i) = z (635 + 520 * i) := u1_ne (by omega)
  unfold zPa
  dsimp only
  rw [e]
  generalize z (635 + 520 * i) = t at *
  have c1 : ∀ (w : Z) (a b : Int), (a < 59) → u1 (u1 w j v) a b = u1 (u1 w a b) j v := fun w a b h => u1_cm (by omega)
  have c2 : ∀ (w : Z) (a : Int), a < 59 → u1 w j v a = w a := fun w a h => u1_ne (by omega)
  rw [c2 _ _ (by omega), c2 _ _ (by omega), c1 _ _ _ (by omega), c2 _ _ (by omega), c1 _ _ _ (by omega), c2 _ _ (by omega), c1 _ _ _ (by omega), c2 _ _ (by omega), c2 _ _ (by omega), c1 _ _ _ (by omega), c2 _ _ (by omega), c2 _ _ (by omega), c1 _ _ _ (by omega)]
theorem zPayF_cm {i j v : Int} (hi : 0 ≤ i ∧ i < 3) (hj : 59 ≤ j ∧ j < 635) : ∀ (d : Nat) (z : Z), (d : Int) < 513 → QT z → zPayF i d (u1 z j v) = u1 (zPayF i d z) j v := by
  intro d
  induction d with
  | zero => intro z _ _; rfl
  | succ d ih =>
    intro z hd h
    have ht := h (635 + 520 * i) (by omega) (by omega)
    rw [zPayF, zPayF, u1_ne (by omega), u1_ne (by omega)]
    split
    · rw [zPa_cm hi (by omega) hj, zSh1_cm _ _ _ (by omega), ih _ (by omega) (zSh1_qt hi (by omega) (zPa_qt hi (by omega) h))]
    · rfl
theorem zPay_cm {z : Z} {i j v : Int} (hi : 0 ≤ i ∧ i < 2) (hj : 59 ≤ j ∧ j < 635) (h : LX z) : zPay (u1 z j v) i = u1 (zPay z i) j v := by
  have hw := LX_wt h hi
  unfold zPay
  rw [u1_ne (by omega)]
  exact zPayF_cm ⟨hi.1, by omega⟩ hj _ _ (by omega) h.1
theorem zLo_cm {z : Z} {c e v : Int} (hc : 0 ≤ c ∧ c < 64) (he : 0 ≤ e ∧ e < 64) (h : LX z) : zLo (u1 z (59 + 9 * e + 6) v) c = u1 (zLo z c) (59 + 9 * e + 6) v := by
  have w1 := LX_1 hc h
  have r1 := w1.2.2 c hc.1 hc.2
  have e1 : zL1 (u1 z (59 + 9 * e + 6) v) c = u1 (zL1 z c) (59 + 9 * e + 6) v := by
    unfold zL1
    rw [u1_ne (by omega), u1_cm (by omega)]
  have e2 : ∀ w : Z, zLs (u1 w (59 + 9 * e + 6) v) c = zLs w c := fun w => by unfold zLs; rw [u1_ne (by omega)]
  unfold zLo
  rw [e1, e2]
  split
  · rename_i hl
    have hl := (zLs_p ⟨r1.2.2.1.1, by omega⟩).mp hl
    have w2 := LX_2 hc hl w1
    have r2 := w2.2.2 c hc.1 hc.2
    have e3 : zL2 (u1 (zL1 z c) (59 + 9 * e + 6) v) c = u1 (zL2 (zL1 z c) c) (59 + 9 * e + 6) v := by
      unfold zL2
      rw [u1_ne (j := 59 + 9 * c + 2) (by omega), u1_ne (by omega), u1_cm (by omega)]
    rw [e3, u1_ne (z := zL2 (zL1 z c) c) (by omega), u1_ne (z := zL1 z c) (by omega)]
    split
    · rfl
    · have hi : 0 ≤ zL2 (zL1 z c) c (59 + 9 * c + 4) - 1 ∧ zL2 (zL1 z c) c (59 + 9 * c + 4) - 1 < 2 := ⟨by omega, by omega⟩
      have ht : 0 ≤ zL1 z c (59 + 9 * c + 2) - 1 ∧ zL1 z c (59 + 9 * c + 2) - 1 < 3 := ⟨by omega, by omega⟩
      have w3 := LX_3 (t := zL1 z c (59 + 9 * c + 2) - 1) hc rfl hi ht w2
      have wt2 := LX_wt w2 hi
      rw [← zPay_cm hi (by omega) w3]
      congr 1
      generalize zL2 (zL1 z c) c (59 + 9 * c + 4) - 1 = i at *
      generalize zL1 z c (59 + 9 * c + 2) - 1 = t at *
      generalize zL2 (zL1 z c) c = y at *
      unfold zL3
      dsimp only
      rw [u1_cm (z := y) (i := 59 + 9 * e + 6) (j := 59 + 9 * c + 4) (by omega), u1_cm (z := u1 y (59 + 9 * c + 4) 0) (i := 59 + 9 * e + 6) (j := 59 + 9 * c + 5) (by omega)]
      have g : u1 (u1 (u1 y (59 + 9 * c + 4) 0) (59 + 9 * c + 5) 0) (59 + 9 * e + 6) v (41 + 6 * i + 5) = y (41 + 6 * i + 5) := by rw [u1_ne (by omega), u1_ne (by omega), u1_ne (by omega)]
      have g' : u1 (u1 y (59 + 9 * c + 4) 0) (59 + 9 * c + 5) 0 (41 + 6 * i + 5) = y (41 + 6 * i + 5) := by rw [u1_ne (by omega), u1_ne (by omega)]
      rw [g, g', u1_cm (i := 59 + 9 * e + 6) (j := 635 + 520 * i + y (41 + 6 * i + 5)) (by omega), u1_cm (i := 59 + 9 * e + 6) (j := 41 + 6 * i + 5) (by omega), u1_ne (i := 59 + 9 * e + 6) (j := 41 + 6 * i + 5) (by omega)]
  · rfl
theorem zPd_cm {z : Z} {c e v : Int} (hc : 0 ≤ c ∧ c < 64) (he : 0 ≤ e ∧ e < 64) : zPd (u1 z (59 + 9 * e + 6) v) c = u1 (zPd z c) (59 + 9 * e + 6) v := by
  unfold zPd
  rw [u1_cm (i := 59 + 9 * e + 6) (j := 59 + 9 * c + 0) (by omega), u1_ne (i := 59 + 9 * e + 6) (j := 9) (by omega), u1_cm (i := 59 + 9 * e + 6) (j := 9) (by omega)]
theorem zPuF_cm {k e v : Int} (he : 0 ≤ e ∧ e < 64) : ∀ (d : Nat) (c : Int) (z : Z), c + d = 64 → 0 ≤ c → LX z → zPuF k d c (u1 z (59 + 9 * e + 6) v) = u1 (zPuF k d c z) (59 + 9 * e + 6) v := by
  intro d
  induction d with
  | zero => intro c z _ _ _; rfl
  | succ d ih =>
    intro c z h1 h2 h
    have hc : 0 ≤ c ∧ c < 64 := ⟨h2, by omega⟩
    have hw : zWk (u1 z (59 + 9 * e + 6) v) c = zWk z c := by
      unfold zWk
      rw [u1_ne (by omega), u1_ne (by omega), u1_ne (by omega)]
    rw [zPuF, zPuF, hw]
    split
    · rw [zPd_cm hc he, zLo_cm hc he (LX_pd hc h), ih _ _ (by omega) (by omega) (LX_lo hc (LX_pd hc h))]
    · exact ih _ _ (by omega) (by omega) h
theorem zPul_cm {z : Z} {k e b v : Int} (hk : 0 ≤ k ∧ k < 64) (he : 0 ≤ e ∧ e < 64) (h : LX z) : zPul (u1 z (59 + 9 * e + 6) v) k b = u1 (zPul z k b) (59 + 9 * e + 6) v := by
  have hw : zWorn (u1 z (59 + 9 * e + 6) v) k = zWorn z k := by
    unfold zWorn
    rw [u1_ne (by omega), u1_ne (by omega)]
  unfold zPul
  rw [hw, u1_cm (i := 59 + 9 * e + 6) (j := 59 + 9 * k + 1) (by omega), zPuF_cm he 64 0 _ (by omega) (by omega) (LX_u1 (by unfold LN; omega) h)]
  unfold zHeat
  rw [u1_ne (i := 59 + 9 * e + 6) (j := 1) (by omega), u1_cm (i := 59 + 9 * e + 6) (j := 1) (by omega)]

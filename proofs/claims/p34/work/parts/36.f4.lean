/-! plain mathematics: claims -/
def seg (f : Int → Int) (a : Int) : Nat → List Int
  | 0 => []
  | n + 1 => f a :: seg f (a + 1) n
theorem seg_cg {f g : Int → Int} : ∀ (n : Nat) (a : Int), (∀ j, a ≤ j → j < a + n → f j = g j) → seg f a n = seg g a n := by
  intro n
  induction n with
  | zero => intro a h; rfl
  | succ n ih => intro a h; rw [seg, seg, h a (by omega) (by omega), ih (a + 1) (fun j h1 h2 => h j (by omega) (by omega))]
theorem seg_app {f : Int → Int} : ∀ (n : Nat) (a : Int), seg f a (n + 1) = seg f a n ++ [f (a + n)] := by
  intro n
  induction n with
  | zero => intro a; simp [seg]
  | succ n ih => intro a; rw [seg, ih (a + 1), seg, List.cons_append, show a + 1 + (n : Int) = a + ((n + 1 : Nat) : Int) by omega]
theorem seg_len {f : Int → Int} : ∀ (n : Nat) (a : Int), (seg f a n).length = n := by
  intro n
  induction n with
  | zero => intro a; rfl
  | succ n ih => intro a; rw [seg, List.length_cons, ih]
theorem seg_sh {f g : Int → Int} {b : Int} : ∀ (n : Nat) (a : Int), (∀ j, a ≤ j → j < a + n → g j = f (j + b)) → seg g a n = seg f (a + b) n := by
  intro n
  induction n with
  | zero => intro a h; rfl
  | succ n ih => intro a h; rw [seg, seg, h a (by omega) (by omega), ih (a + 1) (fun j h1 h2 => h j (by omega) (by omega)), show a + 1 + b = a + b + 1 by omega]
theorem seg_mem {f : Int → Int} {x : Int} : ∀ (n : Nat) (a : Int), x ∈ seg f a n ↔ ∃ j, a ≤ j ∧ j < a + n ∧ f j = x := by
  intro n
  induction n with
  | zero => intro a; simp [seg]; intro j h1 h2; omega
  | succ n ih =>
    intro a
    rw [seg, List.mem_cons, ih]
    constructor
    · rintro (h | ⟨j, h1, h2, h3⟩)
      · exact ⟨a, by omega, by omega, h.symm⟩
      · exact ⟨j, by omega, by omega, h3⟩
    · rintro ⟨j, h1, h2, h3⟩
      by_cases h : j = a
      · subst h; exact .inl h3.symm
      · exact .inr ⟨j, by omega, by omega, h3⟩
/-- the claims on one insurer, in their order, by the tenants -/
def clm (i : Int) (l : List Int) : List Int := (l.filter (fun x => decide (x / 6 = i))).map (fun x => x % 6)
theorem clm_app {i : Int} {l k : List Int} : clm i (l ++ k) = clm i l ++ clm i k := by unfold clm; rw [List.filter_append, List.map_append]
theorem clm_t {i x : Int} {l : List Int} (h : x / 6 = i) : clm i (x :: l) = x % 6 :: clm i l := by unfold clm; rw [List.filter_cons, if_pos (decide_eq_true h)]; rfl
theorem clm_f {i x : Int} {l : List Int} (h : ¬ x / 6 = i) : clm i (x :: l) = clm i l := by unfold clm; rw [List.filter_cons, if_neg (by simp [h])]
def qu (z : Z) (i : Int) : List Int := seg z (635 + 520 * i) (z (41 + 6 * i + 5)).toNat
def RQ (P : Mem) (z : Z) : Prop := ∀ i, 0 ≤ i → i < 3 → clm i (seg (P 23) 0 (P 0 10).toNat) = qu z i
theorem RQ_cg {P Q : Mem} {z y : Z} (h : RQ P z) (h1 : Q 23 = P 23) (h2 : Q 0 10 = P 0 10) (h3 : ∀ j, 635 ≤ j ∨ j = 46 ∨ j = 52 ∨ j = 58 → y j = z j) : RQ Q y := by
  intro i a b
  have := h i a b
  rw [h1, h2, this]
  unfold qu
  rw [h3 (41 + 6 * i + 5) (by omega)]
  exact seg_cg _ _ (fun j k1 k2 => (h3 j (by omega)).symm)
theorem cPcF_no {i s : Int} : ∀ (d : Nat) (j k : Int) (P : Mem), 0 ≤ k → k ≤ j → ¬ wr s ≤ wr (P 18 i) →
    (∀ a b, ¬ a = 23 → (cPcF i s d j k P).1 a b = P a b) ∧ 0 ≤ (cPcF i s d j k P).2 ∧ seg ((cPcF i s d j k P).1 23) 0 (cPcF i s d j k P).2.toNat = seg (P 23) 0 k.toNat ++ seg (P 23) j d := by
  intro d
  induction d with
  | zero => intro j k P h0 h1 h2; exact ⟨fun _ _ _ => rfl, h0, by simp [cPcF, seg]⟩
  | succ d ih =>
    intro j k P h0 h1 h2
    rw [cPcF, if_neg (fun q => h2 q.2)]
    obtain ⟨i1, i2, i3⟩ := ih (j + 1) (k + 1) (up P 23 k (P 23 j)) (by omega) (by omega) (by rw [up_ne (by omega)]; exact h2)
    refine ⟨fun a b h => by rw [i1 a b h, up_ne (by omega)], i2, ?_⟩
    rw [i3, show (k + 1).toNat = k.toNat + 1 by omega, seg_app, seg, show (0 : Int) + (k.toNat : Int) = k by omega, up_at, List.append_assoc, List.singleton_append]
    congr 1
    · exact seg_cg _ _ (fun a b c => up_ne (by omega))
    · congr 1
      exact seg_cg _ _ (fun a b c => up_ne (by omega))
theorem RC_pa {P : Mem} {z : Z} {dl : Int → Int} {i t : Int} (h : RC P z dl) (hi : 0 ≤ i ∧ i < 3) (ht : 0 ≤ t ∧ t < 6) (hz : z (635 + 520 * i) = t) : RC (cPa P i (P 20 i) t) (zPa z i) dl := by
  have e1 := h.co i hi.1 hi.2
  have e2 := h.fu i hi.1 hi.2
  have e3 := h.cp i hi.1 hi.2
  have e4 := h.mo t ht.1 ht.2
  have e5 := h.tp t ht.1 ht.2
  unfold cPa zPa
  simp only [hz]
  refine RC_cg (RC_tp (t := t) (v := P 16 t + P 20 i) (RC_mo (t := t) (v := P 14 t + P 20 i) (RC_zo (j := 41 + 6 * i + 5) (v := z (41 + 6 * i + 5) - 1) (RC_cp (i := i) (v := P 22 i + 1) (RC_fu (i := i) (v := P 18 i - P 20 i) h hi) hi) (by unfold ZO; omega)) ht) ht) rfl ?_
  rw [e1, e2, e3, e4, e5]
  funext j
  simp only [u1_e]
  grind
theorem RC_hi {P : Mem} {z y : Z} {dl : Int → Int} (h : RC P z dl) (hy : ∀ j, j < 635 → y j = z j) : RC P y dl := by
  refine ⟨?_, ?_, ?_, ?_, ?_, ?_, ?_, ?_, ?_, ?_, ?_, ?_, ?_, ?_, ?_, ?_, ?_, ?_, ?_, ?_, ?_, ?_, ?_⟩
  · rw [hy _ (by omega)]; exact h.t0
  · rw [hy _ (by omega)]; exact h.ht
  · rw [hy _ (by omega)]; exact h.hs
  · intro x a b; rw [hy _ (by omega)]; exact h.st x a b
  · intro x a b; rw [hy _ (by omega)]; exact h.ta x a b
  · rw [hy _ (by omega)]; exact h.t17
  · intro x a b; rw [hy _ (by omega)]; exact h.bit x a b
  · intro x a b; rw [hy _ (by omega)]; exact h.sg x a b
  · intro x a b; rw [hy _ (by omega)]; exact h.wh x a b
  · intro x a b c; rw [hy _ (by omega)] at c ⊢; exact h.le x a b c
  · intro x a b; rw [hy _ (by omega)]; exact h.by_ x a b
  · intro x a b c; rw [hy _ (by omega)] at c ⊢; exact h.po x a b c
  · intro x a b; rw [hy _ (by omega)]; exact h.ls x a b
  · rw [hy _ (by omega)]; exact h.tn
  · intro x a b; rw [hy _ (by omega)]; exact h.mo x a b
  · intro x a b; rw [hy _ (by omega)]; exact h.tl x a b
  · intro x a b; rw [hy _ (by omega)]; exact h.tp x a b
  · rw [hy _ (by omega)]; exact h.im
  · intro x a b; rw [hy _ (by omega)]; exact h.fu x a b
  · intro x a b; rw [hy _ (by omega)]; exact h.ra x a b
  · intro x a b; rw [hy _ (by omega)]; exact h.co x a b
  · intro x a b; rw [hy _ (by omega)]; exact h.pr x a b
  · intro x a b; rw [hy _ (by omega)]; exact h.cp x a b
theorem RC_23 {P Q : Mem} {z : Z} {dl : Int → Int} (h : RC P z dl) (hq : ∀ a b, ¬ a = 23 → Q a b = P a b) : RC Q z dl := by
  have e : ∀ a, ¬ a = 23 → Q a = P a := fun a ha => funext fun b => hq a b ha
  unfold RC cOne at *
  rw [e 0 (by decide), e 1 (by decide), e 2 (by decide), e 3 (by decide), e 4 (by decide), e 5 (by decide), e 6 (by decide), e 7 (by decide), e 8 (by decide), e 9 (by decide), e 13 (by decide), e 14 (by decide), e 15 (by decide), e 16 (by decide), e 17 (by decide), e 18 (by decide), e 19 (by decide), e 20 (by decide), e 21 (by decide), e 22 (by decide)]
  exact h
theorem qu_cons {z : Z} {i : Int} {n : Nat} (h : z (41 + 6 * i + 5) = ((n + 1 : Nat) : Int)) : qu z i = z (635 + 520 * i) :: seg z (635 + 520 * i + 1) n := by
  unfold qu; rw [h, show (((n + 1 : Nat) : Int)).toNat = n + 1 by omega, seg]
theorem qu_step {z : Z} {i : Int} {n : Nat} (hi : 0 ≤ i ∧ i < 3) (h : z (41 + 6 * i + 5) = ((n + 1 : Nat) : Int)) (hn : n < 512) (ht : 0 ≤ z (635 + 520 * i) ∧ z (635 + 520 * i) < 6) (hw : ∀ e, 0 ≤ e → e < 3 → 0 ≤ z (41 + 6 * e + 5) ∧ z (41 + 6 * e + 5) ≤ 512) : qu (zSh1 (635 + 520 * i) n 0 (zPa z i)) i = seg z (635 + 520 * i + 1) n ∧ (∀ e, 0 ≤ e → e < 3 → ¬ e = i → qu (zSh1 (635 + 520 * i) n 0 (zPa z i)) e = qu z e) ∧ zSh1 (635 + 520 * i) n 0 (zPa z i) (41 + 6 * i + 5) = n := by
  have eP : ∀ j, 59 ≤ j → zPa z i j = z j := fun j hj => zPa_o hi ht (by omega) (by omega)
  have e5 : zPa z i (41 + 6 * i + 5) = z (41 + 6 * i + 5) - 1 := by rw [zPa_i hi ht (by omega)]; rw [if_neg (by omega), if_neg (by omega), if_pos rfl]
  have eS : ∀ j, j < 635 → zSh1 (635 + 520 * i) n 0 (zPa z i) j = zPa z i j := fun j hj => by rw [zSh1_at, if_neg (by omega)]
  have e6 : zSh1 (635 + 520 * i) n 0 (zPa z i) (41 + 6 * i + 5) = n := by rw [eS _ (by omega), e5]; omega
  refine ⟨?_, ?_, e6⟩
  · unfold qu
    rw [e6, show ((n : Int)).toNat = n by omega]
    refine seg_sh n _ (fun j h1 h2 => ?_)
    rw [zSh1_at, if_pos (by omega), eP _ (by omega)]
  · intro e h1 h2 h3
    unfold qu
    rw [eS _ (by omega)]
    have e7 : zPa z i (41 + 6 * e + 5) = z (41 + 6 * e + 5) := zPa_o hi ht (by omega) (by omega)
    rw [e7]
    have hwe := hw e h1 h2
    refine seg_cg _ _ (fun j k1 k2 => ?_)
    rw [zSh1_at, if_neg (by omega), eP _ (by omega)]
theorem qu_nil {z : Z} {i : Int} (h : z (41 + 6 * i + 5) ≤ 0) : qu z i = [] := by
  unfold qu; rw [show (z (41 + 6 * i + 5)).toNat = 0 by omega]; rfl
theorem qu_len {z : Z} {i : Int} : (qu z i).length = (z (41 + 6 * i + 5)).toNat := seg_len _ _
def HW (z : Z) : Prop := ∀ e, 0 ≤ e → e < 3 → 0 ≤ z (41 + 6 * e + 5) ∧ z (41 + 6 * e + 5) ≤ 512
theorem HW_step {z : Z} {i : Int} {n : Nat} (hi : 0 ≤ i ∧ i < 3) (ht : 0 ≤ z (635 + 520 * i) ∧ z (635 + 520 * i) < 6) (h : HW z) (h5 : z (41 + 6 * i + 5) = ((n + 1 : Nat) : Int)) : HW (zSh1 (635 + 520 * i) n 0 (zPa z i)) := by
  intro e h1 h2
  have := h e h1 h2
  rw [zSh1_at, if_neg (by omega)]
  by_cases q : e = i
  · subst q
    rw [zPa_i hi ht (by omega), if_neg (by omega), if_neg (by omega), if_pos rfl]; omega
  · rw [zPa_o hi ht (by omega) (by omega)]; exact this
theorem QE_step {z : Z} {i : Int} {n : Nat} (hi : 0 ≤ i ∧ i < 3) (ht : 0 ≤ z (635 + 520 * i) ∧ z (635 + 520 * i) < 6) (hn : n < 512) (h : QE z) : QE (zSh1 (635 + 520 * i) n 0 (zPa z i)) := by
  intro j h1 h2
  have hp := zPa_q hi ht h
  rw [zSh1_at]
  split
  · exact hp (j + 1) (by omega) (by omega)
  · exact hp j h1 h2
theorem pay_ind {i s : Int} {dl : Int → Int} (hi : 0 ≤ i ∧ i < 3) : ∀ (d : Nat) (j k : Int) (P : Mem) (n : Nat) (z : Z), 0 ≤ k → k ≤ j → RC P z dl → s = P 20 i → QE z → HW z → z (41 + 6 * i + 5) = n →
    (∀ x, x ∈ seg (P 23) j d → 0 ≤ x ∧ x < 18) → clm i (seg (P 23) 0 k.toNat) = [] → (∀ e, 0 ≤ e → e < 3 → clm e (seg (P 23) 0 k.toNat ++ seg (P 23) j d) = qu z e) →
    RC (cPcF i s d j k P).1 (zPayF i n z) dl ∧ 0 ≤ (cPcF i s d j k P).2 ∧ (∀ e, 0 ≤ e → e < 3 → clm e (seg ((cPcF i s d j k P).1 23) 0 (cPcF i s d j k P).2.toNat) = qu (zPayF i n z) e) := by
  intro d
  induction d with
  | zero =>
    intro j k P n z h0 h1 h2 h3 h4 h5 h6 h7 h8 h9
    have hn := h9 i hi.1 hi.2
    rw [seg, List.append_nil, h8] at hn
    have hl := qu_len (z := z) (i := i)
    rw [← hn, h6] at hl
    have : n = 0 := by simp at hl; omega
    subst this
    refine ⟨h2, h0, fun e a b => ?_⟩
    have := h9 e a b
    rw [seg, List.append_nil] at this
    exact this
  | succ d ih =>
    intro j k P n z h0 h1 h2 h3 h4 h5 h6 h7 h8 h9
    have hx := h7 (P 23 j) (by rw [seg]; exact List.mem_cons_self)
    have h7' : ∀ x, x ∈ seg (P 23) (j + 1) d → 0 ≤ x ∧ x < 18 := fun x hx => h7 x (by rw [seg]; exact List.mem_cons_of_mem _ hx)
    by_cases q : P 23 j / 6 = i
    · have hn := h9 i hi.1 hi.2
      rw [clm_app, h8, List.nil_append, seg, clm_t q] at hn
      have hl := qu_len (z := z) (i := i)
      rw [← hn, h6, List.length_cons] at hl
      obtain ⟨n, rfl⟩ : ∃ n', n = n' + 1 := ⟨n - 1, by omega⟩
      have hq := qu_cons h6
      rw [← hn] at hq
      have hz : z (635 + 520 * i) = P 23 j % 6 := (List.cons.inj hq).1.symm
      have hw := h5 i hi.1 hi.2
      have ht : 0 ≤ z (635 + 520 * i) ∧ z (635 + 520 * i) < 6 := by omega
      have e2 : P 18 i = z (41 + 6 * i + 0) := by rw [Int.add_zero]; exact h2.fu i hi.1 hi.2
      have e1 := h2.co i hi.1 hi.2
      by_cases ha : wr s ≤ wr (P 18 i)
      · rw [cPcF, if_pos ⟨q, ha⟩, zPayF, if_pos (by rw [← e1, ← e2, ← h3]; exact ha)]
        obtain ⟨s1, s2, s3⟩ := qu_step hi h6 (by omega) ht h5
        have hp23 : cPa P i s (P 23 j % 6) 23 = P 23 := funext fun x => cPa_o (by omega)
        refine ih (j + 1) k _ n _ h0 (by omega) ?_ ?_ (QE_step hi ht (by omega) h4) (HW_step hi ht h5 h6) s3 (by rw [hp23]; exact h7') (by rw [hp23]; exact h8) (fun e a b => ?_)
        · refine RC_hi (z := zPa z i) ?_ (fun x hx => by rw [zSh1_at, if_neg (by omega)])
          rw [h3]
          exact RC_pa h2 hi (by omega) hz
        · rw [cPa_o (by omega)]; exact h3
        · rw [hp23]
          by_cases qe : e = i
          · subst qe
            rw [clm_app, h8, List.nil_append, s1]
            exact (List.cons.inj hq).2
          · rw [s2 e a b qe, ← h9 e a b, clm_app, clm_app, seg, clm_f (by omega)]
      · rw [zPayF, if_neg (by rw [← e1, ← e2, ← h3]; exact ha)]
        obtain ⟨i1, i2, i3⟩ := cPcF_no (s := s) (d + 1) j k P h0 h1 ha
        exact ⟨RC_23 h2 i1, i2, fun e a b => by rw [i3]; exact h9 e a b⟩
    · rw [cPcF, if_neg (fun w => q w.1)]
      have hk : (k + 1).toNat = k.toNat + 1 := by omega
      have c1 : seg (up P 23 k (P 23 j) 23) 0 (k + 1).toNat = seg (P 23) 0 k.toNat ++ [P 23 j] := by
        rw [hk, seg_app, show (0 : Int) + (k.toNat : Int) = k by omega, up_at]
        congr 1
        exact seg_cg _ _ (fun a b c => up_ne (by omega))
      have c2 : seg (up P 23 k (P 23 j) 23) (j + 1) d = seg (P 23) (j + 1) d := seg_cg _ _ (fun a b c => up_ne (by omega))
      refine ih (j + 1) (k + 1) _ n z (by omega) (by omega) (RC_po1 h2 (by omega)) (by rw [up_ne (by omega)]; exact h3) h4 h5 h6 (by rw [c2]; exact h7') ?_ (fun e a b => ?_)
      · rw [c1, clm_app, h8, clm_f q]; rfl
      · rw [c1, c2, List.append_assoc, List.singleton_append, ← seg]
        exact h9 e a b
theorem WI_HW {z : Z} {K : Int} (h : WI z K) : HW z := fun _ a b => WI_wt h ⟨a, b⟩
theorem R_pay {P : Mem} {z : Z} {dl : Int → Int} {i : Int} (hi : 0 ≤ i ∧ i < 3) (h : RC P z dl) (hq : RQ P z) (hV : CV P) (hQ : QE z) (hW : HW z) : RC (cPay P i) (zPay z i) dl ∧ RQ (cPay P i) (zPay z i) := by
  have hw := hW i hi.1 hi.2
  obtain ⟨⟨w0, w1⟩, w2⟩ := hV.2.2.1
  obtain ⟨r1, r2, r3⟩ := pay_ind (s := P 20 i) hi (P 0 10).toNat 0 0 P (z (41 + 6 * i + 5)).toNat z (by omega) (by omega) h rfl hQ hW (by omega)
    (fun x hx => by
      obtain ⟨j, j1, j2, j3⟩ := (seg_mem _ _).mp hx
      have := w2 j j1 (by omega)
      omega) (by simp [seg, clm]) (fun e a b => by simp only [Int.toNat_zero, seg, List.nil_append]; exact hq e a b)
  refine ⟨RC_po1 r1 (by omega), fun e a b => ?_⟩
  have e1 : cPay P i 23 = (cPcF i (P 20 i) (P 0 10).toNat 0 0 P).1 23 := funext fun x => up_ne (by omega)
  have e2 : cPay P i 0 10 = (cPcF i (P 20 i) (P 0 10).toNat 0 0 P).2 := up_at
  rw [e1, e2]
  exact r3 e a b

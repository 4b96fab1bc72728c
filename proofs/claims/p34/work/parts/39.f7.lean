/-! plain mathematics: what is owed, in its order -/
def zB (z : Z) (a b : Int) : Prop := z (59 + 9 * a + 6) < z (59 + 9 * b + 6) ∨ z (59 + 9 * a + 6) = z (59 + 9 * b + 6) ∧ z (59 + 9 * a + 7) < z (59 + 9 * b + 7)
theorem zB_tr {z : Z} {a b c : Int} (h1 : zB z a b) (h2 : zB z b c) : zB z a c := by unfold zB at *; omega
theorem zB_as {z : Z} {a b : Int} (h1 : zB z a b) (h2 : zB z b a) : False := by unfold zB at *; omega
/-- a list that holds what a row owes, in its order -/
def OL (z : Z) (l : List Int) : Prop := l.Pairwise (zB z) ∧ ∀ c, c ∈ l ↔ ((0 ≤ c ∧ c < 64) ∧ 0 < z (59 + 9 * c + 6))
theorem OL_uniq {R : Int → Int → Prop} (hr : ∀ a b, R a b → R b a → False) : ∀ (l k : List Int), l.Pairwise R → k.Pairwise R → (∀ c, c ∈ l ↔ c ∈ k) → l = k := by
  intro l
  induction l with
  | nil =>
    intro k _ _ h
    cases k with
    | nil => rfl
    | cons b k => have := (h b).mpr List.mem_cons_self; cases this
  | cons a l ih =>
    intro k h1 h2 h
    cases k with
    | nil => have := (h a).mp List.mem_cons_self; cases this
    | cons b k =>
      obtain ⟨p1, p2⟩ := List.pairwise_cons.mp h1
      obtain ⟨q1, q2⟩ := List.pairwise_cons.mp h2
      have e : a = b := by
        rcases List.mem_cons.mp ((h a).mp List.mem_cons_self) with e | e
        · exact e
        · rcases List.mem_cons.mp ((h b).mpr List.mem_cons_self) with f | f
          · exact f.symm
          · exact (hr _ _ (q1 a e) (p1 b f)).elim
      subst e
      congr 1
      refine ih k p2 q2 (fun c => ?_)
      have ha : ¬ a ∈ l := fun q => hr _ _ (p1 a q) (p1 a q)
      have hb : ¬ a ∈ k := fun q => hr _ _ (q1 a q) (q1 a q)
      constructor
      · intro q
        rcases List.mem_cons.mp ((h c).mp (List.mem_cons_of_mem _ q)) with e | e
        · subst e; exact (ha q).elim
        · exact e
      · intro q
        rcases List.mem_cons.mp ((h c).mpr (List.mem_cons_of_mem _ q)) with e | e
        · subst e; exact (hb q).elim
        · exact e
theorem zAhead_e {z : Z} {T B a b : Int} (ha : 0 ≤ a ∧ a < 64) (hb : 0 ≤ b ∧ b < 64) (oa : 0 < z (59 + 9 * a + 6)) (ob : 0 < z (59 + 9 * b + 6)) (h : IZ z T B) : zAhead z a b = true ↔ zB z a b := by
  have h1 := h.du a ha.1 ha.2
  have h2 := h.du b hb.1 hb.2
  have h3 := h.ow a ha.1 ha.2 oa
  have h4 := h.ow b hb.1 hb.2 ob
  have h5 := h.sb
  have h6 := h.sB
  have h7 := h.tT
  unfold zAhead zB
  rw [wr_id' (x := z (59 + 9 * a + 6)) (by omega) (by omega), wr_id' (x := z (59 + 9 * b + 6)) (by omega) (by omega), wr_id' (x := z (59 + 9 * a + 7)) (by omega) (by omega), wr_id' (x := z (59 + 9 * b + 7)) (by omega) (by omega), decide_eq_true_eq]
theorem zInF_o {z : Z} {c : Int} : ∀ (k : Nat) (o : Int → Int) (j : Int), (k : Int) < j → zInF z c k o j = o j := by
  intro k
  induction k with
  | zero => intro o j h; rw [zInF, u1_ne (by omega)]
  | succ k ih =>
    intro o j h
    rw [zInF]
    split
    · rw [ih _ _ (by omega), u1_ne (by omega)]
    · rw [u1_ne (by omega)]
theorem zInF_l {z : Z} {c : Int} : ∀ (k : Nat) (o : Int → Int), ∃ l1 l2, seg o 0 k = l1 ++ l2 ∧ seg (zInF z c k o) 0 (k + 1) = l1 ++ c :: l2 ∧ (∀ x, x ∈ l2 → zAhead z c x = true) ∧ (l1 = [] ∨ ∃ y l, l1 = l ++ [y] ∧ ¬ zAhead z c y = true) := by
  intro k
  induction k with
  | zero =>
    intro o
    refine ⟨[], [], rfl, ?_, fun x hx => absurd hx List.not_mem_nil, .inl rfl⟩
    rw [zInF, seg, seg, u1_at]; rfl
  | succ k ih =>
    intro o
    rw [zInF]
    by_cases h : zAhead z c (o (k : Int)) = true
    · rw [if_pos h]
      obtain ⟨l1, l2, a, b, d, e⟩ := ih (u1 o ((k + 1 : Nat) : Int) (o (k : Int)))
      have s1 : seg (u1 o ((k + 1 : Nat) : Int) (o (k : Int))) 0 k = seg o 0 k := seg_cg _ _ (fun j h1 h2 => u1_ne (by omega))
      refine ⟨l1, l2 ++ [o (k : Int)], ?_, ?_, fun x hx => ?_, e⟩
      · rw [seg_app, ← s1, a, List.append_assoc, show (0 : Int) + (k : Int) = k by omega]
      · rw [seg_app, b, zInF_o _ _ _ (by omega), show (0 : Int) + ((k + 1 : Nat) : Int) = ((k + 1 : Nat) : Int) by omega, u1_at]; simp
      · rcases List.mem_append.mp hx with q | q
        · exact d x q
        · rw [List.mem_singleton.mp q]; exact h
    · rw [if_neg h]
      refine ⟨seg o 0 (k + 1), [], by simp, ?_, fun x hx => absurd hx List.not_mem_nil, .inr ⟨o (k : Int), seg o 0 k, by rw [seg_app, show (0 : Int) + (k : Int) = k by omega], h⟩⟩
      rw [seg_app (k + 1), show (0 : Int) + ((k + 1 : Nat) : Int) = ((k + 1 : Nat) : Int) by omega, u1_at]
      congr 1
      exact seg_cg _ _ (fun j h1 h2 => u1_ne (by omega))
/-- an element put where it belongs -/
theorem ins_pw {R : Int → Int → Prop} (ht : ∀ a b c, R a b → R b c → R a c) {l1 l2 : List Int} {c : Int} (h : (l1 ++ l2).Pairwise R) (h2 : ∀ x, x ∈ l2 → R c x) (h1 : l1 = [] ∨ ∃ y l, l1 = l ++ [y] ∧ R y c) : (l1 ++ c :: l2).Pairwise R := by
  obtain ⟨p1, p2, p3⟩ := List.pairwise_append.mp h
  have h3 : ∀ x, x ∈ l1 → R x c := by
    intro x hx
    rcases h1 with e | ⟨y, l, e, q⟩
    · subst e; cases hx
    · subst e
      rcases List.mem_append.mp hx with r | r
      · exact ht _ _ _ ((List.pairwise_append.mp p1).2.2 x r y (List.mem_singleton.mpr rfl)) q
      · rw [List.mem_singleton.mp r]; exact q
  refine List.pairwise_append.mpr ⟨p1, List.pairwise_cons.mpr ⟨h2, p2⟩, fun a ha b hb => ?_⟩
  rcases List.mem_cons.mp hb with e | e
  · subst e; exact h3 a ha
  · exact p3 a ha b e
theorem zOw_e {z : Z} {T B c : Int} (hc : 0 ≤ c ∧ c < 64) (h : IZ z T B) : zOw z c = true ↔ 0 < z (59 + 9 * c + 6) := by
  have h1 := h.du c hc.1 hc.2
  have h7 := h.tT
  unfold zOw
  rw [wr_id' (by omega) (by omega), decide_eq_true_eq]
theorem zLaF_l {z : Z} {T B : Int} (h : IZ z T B) : ∀ (d : Nat) (c : Int) (n : Nat) (o : Int → Int), c + d = 64 → 0 ≤ c → (seg o 0 n).Pairwise (zB z) → (∀ e, e ∈ seg o 0 n ↔ ((0 ≤ e ∧ e < c) ∧ 0 < z (59 + 9 * e + 6))) →
    OL z (seg (zLaF z d c n o).1 0 (zLaF z d c n o).2) := by
  intro d
  induction d with
  | zero =>
    intro c n o h1 h2 h3 h4
    have e : c = 64 := by omega
    subst e
    exact ⟨h3, h4⟩
  | succ d ih =>
    intro c n o h1 h2 h3 h4
    have hc : 0 ≤ c ∧ c < 64 := by omega
    rw [zLaF]
    by_cases q : zOw z c = true
    · have oc := (zOw_e hc h).mp q
      rw [if_pos q]
      obtain ⟨l1, l2, a, b, e, f⟩ := zInF_l (z := z) (c := c) n o
      have mem : ∀ x, x ∈ l1 ++ l2 → (0 ≤ x ∧ x < c) ∧ 0 < z (59 + 9 * x + 6) := fun x hx => (h4 x).mp (by rw [a]; exact hx)
      refine ih (c + 1) (n + 1) _ (by omega) (by omega) ?_ (fun x => ?_)
      · rw [b]
        refine ins_pw (R := zB z) (fun _ _ _ => zB_tr) (by rw [← a]; exact h3) (fun x hx => ?_) ?_
        · have m := mem x (List.mem_append.mpr (.inr hx))
          exact (zAhead_e hc ⟨by omega, by omega⟩ oc m.2 h).mp (e x hx)
        · rcases f with f | ⟨y, l, f, g⟩
          · exact .inl f
          · right
            refine ⟨y, l, f, ?_⟩
            have m := mem y (List.mem_append.mpr (.inl (by rw [f]; simp)))
            have g' : ¬ zB z c y := fun w => g ((zAhead_e hc ⟨by omega, by omega⟩ oc m.2 h).mpr w)
            have ne := h.ds c y hc.1 hc.2 (by omega) (by omega) oc m.2
            unfold zB at g' ⊢
            omega
      · have e1 : x ∈ l1 ++ c :: l2 ↔ x = c ∨ x ∈ l1 ++ l2 := by simp only [List.mem_append, List.mem_cons]; grind
        rw [b, e1, ← a, h4 x]
        constructor
        · rintro (r | r)
          · subst r; exact ⟨by omega, oc⟩
          · exact ⟨by omega, r.2⟩
        · rintro ⟨r1, r2⟩
          by_cases r : x = c
          · exact .inl r
          · exact .inr ⟨by omega, r2⟩
    · rw [if_neg q]
      have oc : ¬ 0 < z (59 + 9 * c + 6) := fun w => q ((zOw_e hc h).mpr w)
      refine ih (c + 1) n o (by omega) (by omega) h3 (fun x => ?_)
      rw [h4 x]
      constructor
      · rintro ⟨r1, r2⟩; exact ⟨by omega, r2⟩
      · rintro ⟨r1, r2⟩
        by_cases r : x = c
        · subst r; exact (oc r2).elim
        · exact ⟨by omega, r2⟩
theorem zOrd_l {z : Z} {T B : Int} (h : IZ z T B) (o : Int → Int) : OL z (seg (zOrd z o) 0 (zOrN z o).toNat) := by
  have := zLaF_l h 64 0 0 o (by omega) (by omega) List.Pairwise.nil (fun e => by simp [seg]; intro a b; omega)
  unfold zOrd zOrN
  exact this
def dL (P : Mem) : List Int := seg (P 11) 0 (P 10 0).toNat
def RD (P : Mem) (z : Z) : Prop := OL z (dL P) ∧ ∀ c, 0 ≤ c → c < 64 → P 12 c + 1 = z (59 + 9 * c + 6)
theorem RD_cg {P Q : Mem} {z y : Z} (h : RD P z) (h1 : Q 10 0 = P 10 0) (h2 : Q 11 = P 11) (h3 : ∀ c, 0 ≤ c → c < 64 → Q 12 c = P 12 c) (h6 : ∀ c, 0 ≤ c → c < 64 → y (59 + 9 * c + 6) = z (59 + 9 * c + 6) ∧ y (59 + 9 * c + 7) = z (59 + 9 * c + 7)) : RD Q y := by
  obtain ⟨⟨a, b⟩, d⟩ := h
  have e : dL Q = dL P := by unfold dL; rw [h1, h2]
  refine ⟨⟨?_, fun c => ?_⟩, fun c k1 k2 => by rw [h3 c k1 k2, (h6 c k1 k2).1]; exact d c k1 k2⟩
  · rw [e]
    refine List.Pairwise.imp_of_mem (fun {x y'} hx hy r => ?_) a
    have m1 := ((b x).mp hx).1
    have m2 := ((b y').mp hy).1
    unfold zB at *
    rw [(h6 x m1.1 m1.2).1, (h6 x m1.1 m1.2).2, (h6 y' m2.1 m2.2).1, (h6 y' m2.1 m2.2).2]
    exact r
  · rw [e, b c]
    constructor
    · rintro ⟨r1, r2⟩; exact ⟨r1, by rw [(h6 c r1.1 r1.2).1]; exact r2⟩
    · rintro ⟨r1, r2⟩; exact ⟨r1, by rw [(h6 c r1.1 r1.2).1] at r2; exact r2⟩
theorem RD_ord {P : Mem} {z : Z} {T B : Int} (h : RD P z) (hI : IZ z T B) (hV : CV P) (o : Int → Int) : seg (zOrd z o) 0 (zOrN z o).toNat = dL P ∧ P 10 0 = zOwN z := by
  have h1 := zOrd_l hI o
  have e := OL_uniq (fun _ _ => zB_as) _ _ h1.1 h.1.1 (fun c => (h1.2 c).trans (h.1.2 c).symm)
  refine ⟨e, ?_⟩
  have e2 := congrArg List.length e
  unfold dL at e2
  rw [seg_len, seg_len] at e2
  have := (zOr_b z o).2
  have := hV.2.2.2.1.1
  rw [← zOrN_n z o]
  omega
theorem seg_get {f g : Int → Int} : ∀ (n : Nat) (a : Int), seg f a n = seg g a n → ∀ j, a ≤ j → j < a + n → f j = g j := by
  intro n
  induction n with
  | zero => intro a h j h1 h2; omega
  | succ n ih =>
    intro a h j h1 h2
    rw [seg, seg] at h
    have h3 := List.cons.inj h
    by_cases q : j = a
    · subst q; exact h3.1
    · exact ih (a + 1) h3.2 j (by omega) (by omega)
theorem RD_get {P : Mem} {z : Z} {T B : Int} (h : RD P z) (hI : IZ z T B) (hV : CV P) (o : Int → Int) {j : Int} (h1 : 0 ≤ j) (h2 : j < P 10 0) : zOrd z o j = P 11 j := by
  obtain ⟨e1, e2⟩ := RD_ord h hI hV o
  rw [zOrN_n, ← e2] at e1
  exact seg_get _ _ e1 j (by omega) (by omega)
theorem cOw_e {P : Mem} {z : Z} {T B c : Int} (hc : 0 ≤ c ∧ c < 64) (h : RD P z) (hI : IZ z T B) : cOw P c = true ↔ 0 < z (59 + 9 * c + 6) := by
  have h1 := h.2 c hc.1 hc.2
  have h2 := hI.du c hc.1 hc.2
  have h7 := hI.tT
  unfold cOw
  rw [wr_id' (by omega) (by omega), decide_eq_true_eq]
  omega
/-! striking -/
theorem up_ne' {m : Mem} {k a : Nat} {j v : Int} (h : ¬ a = k) : up m k j v a = m a := by funext b; exact up_ne (by omega)
theorem cStF_l {c : Int} (hc : 0 ≤ c ∧ c < 64) : ∀ (d : Nat) (i k : Int) (P : Mem), 0 ≤ k → k ≤ i → (∀ x, x ∈ seg (P 11) i d → 0 ≤ x ∧ x < 64) →
    (∀ a b, ¬ a = 11 → (cStF c d i k P).1 a b = P a b) ∧ 0 ≤ (cStF c d i k P).2 ∧ seg ((cStF c d i k P).1 11) 0 (cStF c d i k P).2.toNat = seg (P 11) 0 k.toNat ++ (seg (P 11) i d).filter (fun x => decide (¬ x = c)) := by
  intro d
  induction d with
  | zero => intro i k P h0 h1 h2; exact ⟨fun _ _ _ => rfl, h0, by simp [cStF, seg]⟩
  | succ d ih =>
    intro i k P h0 h1 h2
    have hx := h2 (P 11 i) (by rw [seg]; exact List.mem_cons_self)
    have h2' : ∀ x, x ∈ seg (P 11) (i + 1) d → 0 ≤ x ∧ x < 64 := fun x hx => h2 x (by rw [seg]; exact List.mem_cons_of_mem _ hx)
    have ew : wr (P 11 i) = wr c ↔ P 11 i = c := by rw [wr_id' (by omega) (by omega), wr_id' (by omega) (by omega)]
    rw [cStF]
    by_cases q : P 11 i = c
    · rw [if_pos (ew.mpr q)]
      obtain ⟨i1, i2, i3⟩ := ih (i + 1) k P h0 (by omega) h2'
      refine ⟨i1, i2, ?_⟩
      rw [i3, seg, List.filter_cons, if_neg (by simp [q])]
    · rw [if_neg (fun w => q (ew.mp w))]
      have c2 : seg (up P 11 k (P 11 i) 11) (i + 1) d = seg (P 11) (i + 1) d := seg_cg _ _ (fun a b c => up_ne (by omega))
      obtain ⟨i1, i2, i3⟩ := ih (i + 1) (k + 1) (up P 11 k (P 11 i)) (by omega) (by omega) (by rw [c2]; exact h2')
      refine ⟨fun a b h => by rw [i1 a b h, up_ne (by omega)], i2, ?_⟩
      rw [i3, c2, show (k + 1).toNat = k.toNat + 1 by omega, seg_app, show (0 : Int) + (k.toNat : Int) = k by omega, up_at, seg, List.filter_cons, if_pos (by simp [q]), List.append_assoc, List.singleton_append]
      congr 1
      exact seg_cg _ _ (fun a b c => up_ne (by omega))
theorem RC_dd {P Q : Mem} {z : Z} {dl : Int → Int} (h : RC P z dl) (hq : ∀ a b, ¬ (a = 10 ∨ a = 11 ∨ a = 12 ∨ a = 23 ∨ a = 0 ∧ b = 10) → Q a b = P a b) : RC Q z dl := by
  refine ⟨?_, ?_, ?_, ?_, ?_, ?_, ?_, ?_, ?_, ?_, ?_, ?_, ?_, ?_, ?_, ?_, ?_, ?_, ?_, ?_, ?_, ?_, ?_⟩
  · rw [hq _ _ (by omega)]; exact h.t0
  · rw [hq _ _ (by omega)]; exact h.ht
  · rw [hq _ _ (by omega)]; exact h.hs
  · intro x a b; rw [hq _ _ (by omega)]; exact h.st x a b
  · intro x a b; rw [hq _ _ (by omega)]; exact h.ta x a b
  · rw [hq _ _ (by omega)]; exact h.t17
  · intro x a b; rw [cOne_cg (hq 3 0 (by omega))]; exact h.bit x a b
  · intro x a b; rw [hq _ _ (by omega)]; exact h.sg x a b
  · intro x a b; rw [hq _ _ (by omega)]; exact h.wh x a b
  · intro x a b c; rw [hq _ _ (by omega), hq _ _ (by omega)]; exact h.le x a b c
  · intro x a b; rw [hq _ _ (by omega)]; exact h.by_ x a b
  · intro x a b c; rw [hq _ _ (by omega), hq _ _ (by omega)]; exact h.po x a b c
  · intro x a b; rw [hq _ _ (by omega)]; exact h.ls x a b
  · rw [hq _ _ (by omega)]; exact h.tn
  · intro x a b; rw [hq _ _ (by omega)]; exact h.mo x a b
  · intro x a b; rw [hq _ _ (by omega)]; exact h.tl x a b
  · intro x a b; rw [hq _ _ (by omega)]; exact h.tp x a b
  · rw [hq _ _ (by omega)]; exact h.im
  · intro x a b; rw [hq _ _ (by omega)]; exact h.fu x a b
  · intro x a b; rw [hq _ _ (by omega)]; exact h.ra x a b
  · intro x a b; rw [hq _ _ (by omega)]; exact h.co x a b
  · intro x a b; rw [hq _ _ (by omega)]; exact h.pr x a b
  · intro x a b; rw [hq _ _ (by omega)]; exact h.cp x a b
theorem RC_str' {P : Mem} {z : Z} {dl : Int → Int} {c : Int} (h : RC P z dl) : RC (cStr P c) z dl := RC_dd h (fun a b q => cStr_o (by omega))
theorem RD_str {P : Mem} {z y : Z} {T B c : Int} (hc : 0 ≤ c ∧ c < 64) (h : RD P z) (hI : IZ z T B) (hV : CV P) (hy : ∀ e, 0 ≤ e → e < 64 → y (59 + 9 * e + 6) = (if e = c then 0 else z (59 + 9 * e + 6)) ∧ y (59 + 9 * e + 7) = z (59 + 9 * e + 7)) : RD (cStr P c) y := by
  obtain ⟨⟨a, b⟩, d⟩ := h
  have hcd := hV.2.2.2.1
  have e : dL (cStr P c) = (dL P).filter (fun x => decide (¬ x = c)) ∧ ∀ x, 0 ≤ x → x < 64 → cStr P c 12 x = if x = c then -1 else P 12 x := by
    unfold cStr
    by_cases q : cOw P c = true
    · rw [if_pos q]
      obtain ⟨i1, i2, i3⟩ := cStF_l hc (P 10 0).toNat 0 0 P (by omega) (by omega) (fun x hx => ((b x).mp hx).1)
      refine ⟨?_, fun x k1 k2 => ?_⟩
      · unfold dL
        rw [up_at, up_ne' (by decide), up_ne' (by decide), i3]
        simp [seg]
      · rw [up_ne (by omega)]
        by_cases r : x = c
        · subst r; rw [up_at, if_pos rfl]
        · rw [up_ne (by omega), if_neg r, i1 _ _ (by omega)]
    · rw [if_neg q]
      have hz := d c hc.1 hc.2
      have oc : ¬ 0 < z (59 + 9 * c + 6) := fun w => q ((cOw_e hc ⟨⟨a, b⟩, d⟩ hI).mpr w)
      have hd := hI.du c hc.1 hc.2
      refine ⟨?_, fun x k1 k2 => ?_⟩
      · symm
        rw [List.filter_eq_self]
        intro x hx
        refine decide_eq_true (fun r => ?_)
        subst r
        exact oc ((b x).mp hx).2
      · by_cases r : x = c
        · subst r; rw [if_pos rfl]; omega
        · rw [if_neg r]
  refine ⟨⟨?_, fun x => ?_⟩, fun x k1 k2 => ?_⟩
  · rw [e.1]
    refine List.Pairwise.imp_of_mem (fun {x x'} hx hy' r => ?_) (List.Pairwise.filter _ a)
    have g1 := List.mem_filter.mp hx
    have g2 := List.mem_filter.mp hy'
    have m1 := ((b x).mp g1.1).1
    have m2 := ((b x').mp g2.1).1
    have n1 := of_decide_eq_true g1.2
    have n2 := of_decide_eq_true g2.2
    have y1 := hy x m1.1 m1.2
    have y2 := hy x' m2.1 m2.2
    rw [if_neg n1] at y1
    rw [if_neg n2] at y2
    unfold zB at *
    rw [y1.1, y1.2, y2.1, y2.2]
    exact r
  · rw [e.1, List.mem_filter, b x, decide_eq_true_eq]
    constructor
    · rintro ⟨⟨r1, r2⟩, r3⟩; exact ⟨r1, by rw [(hy x r1.1 r1.2).1, if_neg r3]; exact r2⟩
    · rintro ⟨r1, r2⟩
      rw [(hy x r1.1 r1.2).1] at r2
      by_cases q : x = c
      · rw [if_pos q] at r2; omega
      · rw [if_neg q] at r2; exact ⟨⟨r1, r2⟩, q⟩
  · have := d x k1 k2
    rw [e.2 x k1 k2, (hy x k1 k2).1]
    split <;> omega

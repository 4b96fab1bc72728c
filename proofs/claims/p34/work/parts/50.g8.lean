/-! plain mathematics: claims are on insurers there are; what waits for a tenant -/
def CX (P : Mem) : Prop := ∀ j, 0 ≤ j → j < P 0 10 → P 23 j / 6 < P 17 0
theorem CX_cg {P Q : Mem} (h : CX P) (h1 : Q 17 0 = P 17 0) (h2 : Q 0 10 = P 0 10) (h3 : ∀ j, Q 23 j = P 23 j) : CX Q := fun j a b => by
  rw [h1, h3]; exact h j a (by omega)
theorem cPcF_all {i s : Int} {p : Int → Prop} : ∀ (d : Nat) (j k : Int) (P : Mem), 0 ≤ k → k ≤ j → (∀ x, x ∈ seg (P 23) 0 k.toNat ++ seg (P 23) j d → p x) → 0 ≤ (cPcF i s d j k P).2 ∧ ∀ x, x ∈ seg ((cPcF i s d j k P).1 23) 0 (cPcF i s d j k P).2.toNat → p x := by
  intro d
  induction d with
  | zero => intro j k P h0 h1 h; exact ⟨h0, fun x hx => h x (by rw [seg, List.append_nil]; exact hx)⟩
  | succ d ih =>
    intro j k P h0 h1 h
    rw [cPcF]
    split
    · refine ih (j + 1) k _ h0 (by omega) (fun x hx => h x ?_)
      rw [show cPa P i s (P 23 j % 6) 23 = P 23 from funext fun x => cPa_o (by omega)] at hx
      rw [seg]
      rcases List.mem_append.mp hx with q | q
      · exact List.mem_append.mpr (.inl q)
      · exact List.mem_append.mpr (.inr (List.mem_cons_of_mem _ q))
    · refine ih (j + 1) (k + 1) _ (by omega) (by omega) (fun x hx => h x ?_)
      rw [show (k + 1).toNat = k.toNat + 1 by omega, seg_app, show (0 : Int) + (k.toNat : Int) = k by omega, up_at, seg_cg (g := P 23) k.toNat 0 (fun a b c => up_ne (by omega)), seg_cg (f := up P 23 k (P 23 j) 23) (g := P 23) d (j + 1) (fun a b c => up_ne (by omega))] at hx
      rw [seg]
      rcases List.mem_append.mp hx with q | q
      · rcases List.mem_append.mp q with r | r
        · exact List.mem_append.mpr (.inl r)
        · rw [List.mem_singleton.mp r]; exact List.mem_append.mpr (.inr List.mem_cons_self)
      · exact List.mem_append.mpr (.inr (List.mem_cons_of_mem _ q))
theorem CX_pay {P : Mem} {i : Int} (hw : 0 ≤ P 0 10) (h : CX P) : CX (cPay P i) := by
  obtain ⟨a, b⟩ := cPcF_all (i := i) (s := P 20 i) (p := fun x => x / 6 < P 17 0) (P 0 10).toNat 0 0 P (by omega) (by omega) (fun x hx => by
    rw [show (0 : Int).toNat = 0 from rfl, seg, List.nil_append] at hx
    obtain ⟨j, j1, j2, j3⟩ := (seg_mem _ _).mp hx
    rw [← j3]; exact h j j1 (by omega))
  intro j j1 j2
  have e17 : cPay P i 17 0 = P 17 0 := cPay_o (by omega)
  have e10 : cPay P i 0 10 = (cPcF i (P 20 i) (P 0 10).toNat 0 0 P).2 := up_at
  have e23 : cPay P i 23 j = (cPcF i (P 20 i) (P 0 10).toNat 0 0 P).1 23 j := up_ne (by omega)
  rw [e17, e23]
  exact b _ ((seg_mem _ _).mpr ⟨j, j1, by rw [e10] at j2; omega, rfl⟩)
theorem CX_enC {P : Mem} {i t : Int} (hi : i < P 17 0) (ht : 0 ≤ t ∧ t < 6) (h : CX P) : CX (cEnC P i t) := by
  unfold cEnC
  split
  · exact h
  · intro j j1 j2
    rw [up_at] at j2
    have e17 : up (up P 23 (P 0 10) (i * 6 + t)) 0 10 (P 0 10 + 1) 17 0 = P 17 0 := by rw [up_ne (by omega), up_ne (by omega)]
    have e23 : up (up P 23 (P 0 10) (i * 6 + t)) 0 10 (P 0 10 + 1) 23 j = up P 23 (P 0 10) (i * 6 + t) 23 j := up_ne (by omega)
    rw [e17, e23]
    by_cases q : j = P 0 10
    · rw [q, up_at]; omega
    · rw [up_ne (by omega)]; exact h j j1 (by omega)
theorem CX_lo {P : Mem} {c w : Int} (hV : CV P) (h : CX P) : CX (cLo P c w) := by
  have hA : CX (cLoA P c w) := CX_cg h (cLoA_o (by omega)) (cLoA_o (by omega)) (fun j => cLoA_o (by omega))
  have vA := CV_loA (c := c) (w := w) hV
  unfold cLo
  generalize cLoA P c w = Q at *
  split
  · rename_i q
    have q := of_decide_eq_true q
    have hB : CX (cLoB Q (Q 5 c)) := CX_cg hA (cLoB_o (by omega)) (cLoB_o (by omega)) (fun j => cLoB_o (by omega))
    have w1 := vA.2.2.1.1
    have w2 := vA.1
    split
    · rename_i r
      have r := of_decide_eq_true r
      have hE : CX (cEp (cLoB Q (Q 5 c)) c) := CX_cg hB (up_ne (by omega)) (up_ne (by omega)) (fun j => up_ne (by omega))
      refine CX_pay ?_ (CX_enC ?_ (by omega) hE)
      · have e10 : cEp (cLoB Q (Q 5 c)) c 0 10 = Q 0 10 := by unfold cEp; rw [up_ne (by omega), cLoB_o (by omega)]
        unfold cEnC
        split
        · rw [e10]; exact w1.1
        · rw [up_at, e10]; omega
      · have e17 : cEp (cLoB Q (Q 5 c)) c 17 0 = cLoB Q (Q 5 c) 17 0 := up_ne (by omega)
        rw [e17]; omega
    · exact hB
  · exact hA
theorem CX_puF {x : Int64} : ∀ (d : Nat) (c : Int) (P : Mem), c + d = 64 → 0 ≤ c → CV P → CX P → CX (cPuF x d c P) := by
  intro d
  induction d with
  | zero => intro c P _ _ _ h; exact h
  | succ d ih =>
    intro c P h1 h2 hV h
    rw [cPuF]
    split
    · exact h
    · split
      · exact ih _ _ (by omega) (by omega) (CV_lo ⟨h2, by omega⟩ hV) (CX_lo hV h)
      · exact ih _ _ (by omega) (by omega) hV h
theorem CX_pul {P : Mem} {c b : Int} (hV : CV P) (h : CX P) : CX (cPul P c b) := by
  have h1 : CX (cPul1 P c) := CX_cg h (up_ne (by omega)) (up_ne (by omega)) (fun j => up_ne (by omega))
  have v1 : CV (cPul1 P c) := CV_up (by unfold NV; omega) hV
  have h2 : CX (cPulL P c) := CX_puF 64 0 _ (by omega) (by omega) v1 h1
  exact CX_cg h2 (up_ne (by omega)) (up_ne (by omega)) (fun j => up_ne (by omega))
theorem CX_str {P : Mem} {c : Int} (h : CX P) : CX (cStr P c) := CX_cg h (cStr_o (by omega)) (cStr_o (by omega)) (fun j => cStr_o (by omega))
theorem CX_put {P : Mem} {c : Int} {b : Bool} (h : CX P) : CX (cPut P c b) := CX_cg h (up_ne (by omega)) (up_ne (by omega)) (fun j => up_ne (by omega))
theorem CX_2 {P : Mem} {w v : Int} (h : CX P) : CX (up P 2 w v) := CX_cg h (up_ne (by omega)) (up_ne (by omega)) (fun j => up_ne (by omega))
theorem CX_wb {P : Mem} {c : Int} {b : Bool} (hV : CV P) (h : CX P) : CX (cWb P c b) := by
  have h1 : CX (cWbA P c b) := CX_put (CX_pul hV h)
  unfold cWb
  split
  · exact CX_2 (CX_str h1)
  · exact h1
theorem CX_rd {P : Mem} {c : Int} (hV : CV P) (h : CX P) : CX (cRd P c) := by
  have h1 : CX (cRdA P c) := CX_2 (CX_pul hV h)
  unfold cRd
  split
  · have h2 : CX (cRdB (cRdA P c) c) := CX_put (CX_2 h1)
    exact CX_cg h2 (cEnt_o (by omega)) (cEnt_o (by omega)) (fun j => cEnt_o (by omega))
  · exact h1
theorem CX_fb {P : Mem} (hV : CV P) (h : CX P) : CX (cFb P) := by
  have h1 : CX (cFbA P (cFi P)) := CX_str (CX_pul hV h)
  have v1 : CV (cFbA P (cFi P)) := CV_str (CV_pul hV)
  unfold cFb
  split
  · split
    · exact CX_2 (CX_put h1)
    · exact CX_lo v1 h1
  · exact h
theorem CX_ltF : ∀ (d : Nat) (P : Mem), CV P → CX P → CX (cLtF d P) := by
  intro d
  induction d with
  | zero => intro P _ h; exact h
  | succ d ih =>
    intro P hV h
    rw [cLtF]
    split
    · rename_i q
      have q := of_decide_eq_true q.1
      exact ih _ (CV_lo ⟨q.1, by omega⟩ (CV_str hV)) (CX_lo (CV_str hV) (CX_str h))
    · exact h
theorem CX_tk {P : Mem} (hV : CV P) (h : CX P) : CX (cTk P) := by
  have h0 : CX (cTk0 P) := CX_cg h (by unfold cTk0; rw [up_ne (by omega), up_ne (by omega)]) (by unfold cTk0; rw [up_ne (by omega), up_ne (by omega)]) (fun j => by unfold cTk0; rw [up_ne (by omega), up_ne (by omega)])
  have h1 := CX_ltF 64 _ (CV_tk0 hV) h0
  exact CX_cg h1 (cTcF_o (by omega) 64 0 _) (cTcF_o (by omega) 64 0 _) (fun j => cTcF_o (by omega) 64 0 _)
theorem CX_tkN : ∀ (d : Nat) (P : Mem), CV P → CX P → CX (cTkN d P) := by
  intro d
  induction d with
  | zero => intro P _ h; exact h
  | succ d ih => intro P hV h; rw [cTkN]; exact ih _ (CV_tk hV) (CX_tk hV h)
/-! what waits for a tenant -/
theorem cnt_clm {t : Int} : ∀ (l : List Int), (∀ x, x ∈ l → 0 ≤ x ∧ x < 18) → l.countP (fun x => decide (x % 6 = t)) = (clm 0 l).countP (fun x => decide (x = t)) + (clm 1 l).countP (fun x => decide (x = t)) + (clm 2 l).countP (fun x => decide (x = t)) := by
  intro l
  induction l with
  | nil => intro _; rfl
  | cons x l ih =>
    intro h
    have h1 := ih (fun y hy => h y (List.mem_cons_of_mem _ hy))
    have h2 := h x List.mem_cons_self
    have h3 : x / 6 = 0 ∨ x / 6 = 1 ∨ x / 6 = 2 := by omega
    rcases h3 with h3 | h3 | h3
    · rw [clm_t h3, clm_f (i := 1) (by omega), clm_f (i := 2) (by omega), List.countP_cons, List.countP_cons]; omega
    · rw [clm_t h3, clm_f (i := 0) (by omega), clm_f (i := 2) (by omega), List.countP_cons, List.countP_cons]; omega
    · rw [clm_t h3, clm_f (i := 0) (by omega), clm_f (i := 1) (by omega), List.countP_cons, List.countP_cons]; omega
theorem cnt_segs {p : Int → Bool} {f : Int → Int} {b : Int} : ∀ (d : Nat) (a n : Int), cntF (fun k => p (f (b + k))) d a n = n + ((seg f (b + a) d).countP p : Int) := by
  intro d
  induction d with
  | zero => intro a n; simp [cntF, seg]
  | succ d ih =>
    intro a n
    rw [cntF, ih, seg, List.countP_cons, show b + (a + 1) = b + a + 1 by omega]
    cases p (f (b + a)) <;> simp [bI] <;> omega
theorem wq_i {z : Z} {t i : Int} (hi : 0 ≤ i ∧ i < 3) (hQ : QE z) (hH : HW z) (n : Int) : cntF (fun k => decide (wr (z (635 + 520 * i + k)) = t)) (wr (z (41 + 6 * i + 5))).toNat 0 n = n + ((qu z i).countP (fun x => decide (x = t)) : Int) := by
  have hw := hH i hi.1 hi.2
  rw [wr_id' (x := z (41 + 6 * i + 5)) (by omega) (by omega)]
  rw [cnt_cg (p := fun k => decide (z (635 + 520 * i + k) = t)) (z (41 + 6 * i + 5)).toNat 0 n (fun e a b => by
    have q := hQ (635 + 520 * i + e) (by omega) (by omega)
    rw [wr_id' (x := z (635 + 520 * i + e)) (by omega) (by omega)])]
  rw [cnt_segs (p := fun x => decide (x = t)) (f := z), Int.add_zero]
  rfl
theorem clm_nil {i : Int} {l : List Int} (h : ∀ x, x ∈ l → ¬ x / 6 = i) : clm i l = [] := by
  unfold clm
  rw [List.filter_eq_nil_iff.mpr (fun x hx => by simp [h x hx])]
  rfl
theorem q_wq {P : Mem} {z : Z} {T B K t : Int} (ht : 0 ≤ t ∧ t < 6) (h : RR P z T B K) (hX : CX P) : cWqT P t = zWq z t := by
  obtain ⟨hR, hQ, hD, hV, hW, hI⟩ := h
  have hH := WI_HW hW
  have hE := hW.2.2.1
  obtain ⟨⟨v0, v1⟩, v2⟩ := hV.2.2.1
  have e3 := hR.im
  have w3 := hW.2.1
  have mem : ∀ x, x ∈ seg (P 23) 0 (P 0 10).toNat → (0 ≤ x ∧ x < 18) ∧ x / 6 < z 3 := fun x hx => by
    obtain ⟨j, j1, j2, j3⟩ := (seg_mem _ _).mp hx
    have := v2 j j1 (by omega)
    have := hX j j1 (by omega)
    rw [j3] at *
    exact ⟨by omega, by omega⟩
  have tot := cnt_clm (t := t) _ (fun x hx => (mem x hx).1)
  have nil : ∀ i, 0 ≤ i → i < 3 → z 3 ≤ i → (qu z i).countP (fun x => decide (x = t)) = 0 := fun i a b c => by
    rw [← hQ i a b, clm_nil (fun x hx => by have := mem x hx; omega)]; rfl
  have l : cWqT P t = ((seg (P 23) 0 (P 0 10).toNat).countP (fun x => decide (x % 6 = t)) : Int) := by
    unfold cWqT
    rw [cnt_seg (p := fun x => decide (x % 6 = wr t)), wr_id' (x := t) (by omega) (by omega)]
    omega
  rw [l, tot, hQ 0 (by omega) (by omega), hQ 1 (by omega) (by omega), hQ 2 (by omega) (by omega)]
  have n0 := nil 0 (by omega) (by omega)
  have n1 := nil 1 (by omega) (by omega)
  have n2 := nil 2 (by omega) (by omega)
  have a0 := fun n => wq_i (z := z) (t := t) (i := 0) (by omega) hE hH n
  have a1 := fun n => wq_i (z := z) (t := t) (i := 1) (by omega) hE hH n
  have a2 := fun n => wq_i (z := z) (t := t) (i := 2) (by omega) hE hH n
  unfold zWq
  rw [wr_id' (x := z 3) (by omega) (by omega)]
  have hz : z 3 = 0 ∨ z 3 = 1 ∨ z 3 = 2 ∨ z 3 = 3 := by omega
  rcases hz with hz | hz | hz | hz
  · rw [hz, n0 (by omega), n1 (by omega), n2 (by omega)]; rfl
  · rw [hz, n1 (by omega), n2 (by omega)]
    show _ = zWqF z t 1 0 0
    rw [zWqF, zWqF, a0]; omega
  · rw [hz, n2 (by omega)]
    show _ = zWqF z t 2 0 0
    rw [zWqF, zWqF, zWqF, a0]
    show _ = cntF (fun k => decide (wr (z (635 + 520 * 1 + k)) = t)) (wr (z (41 + 6 * 1 + 5))).toNat 0 _
    rw [a1]; omega
  · rw [hz]
    show _ = zWqF z t 3 0 0
    rw [zWqF, zWqF, zWqF, zWqF, a0]
    show _ = cntF (fun k => decide (wr (z (635 + 520 * 2 + k)) = t)) (wr (z (41 + 6 * 2 + 5))).toNat 0 (cntF (fun k => decide (wr (z (635 + 520 * 1 + k)) = t)) (wr (z (41 + 6 * 1 + 5))).toNat 0 _)
    rw [a1, a2]; omega
theorem q_tenant {P : Mem} {z : Z} {T B K t w : Int} (ht : 0 ≤ t ∧ t < 6) (hw : 0 ≤ w ∧ w ≤ 5) (h : RR P z T B K) (hX : CX P) : cTN P t w = zTN z t w := by
  have h' := h
  obtain ⟨hR, hQ, hD, hV, hW, hI⟩ := h
  have hh : w = 0 ∨ w = 1 ∨ w = 2 ∨ w = 3 ∨ w = 4 ∨ w = 5 := by omega
  obtain ⟨c1, c2⟩ := q_cof ht hR hW
  unfold cTN zTN
  rcases hh with rfl | rfl | rfl | rfl | rfl | rfl
  · rw [if_pos rfl, if_pos rfl, Int.add_zero]; exact hR.mo t ht.1 ht.2
  · rw [if_neg (by omega), if_pos rfl, if_neg (by omega), if_pos rfl]; exact c1
  · rw [if_neg (by omega), if_neg (by omega), if_pos rfl, if_neg (by omega), if_neg (by omega), if_pos rfl]; exact c2
  · rw [if_neg (by omega), if_neg (by omega), if_neg (by omega), if_pos rfl, if_neg (by omega), if_neg (by omega), if_neg (by omega), if_pos rfl]; exact hR.tl t ht.1 ht.2
  · rw [if_neg (by omega), if_neg (by omega), if_neg (by omega), if_neg (by omega), if_pos rfl, if_neg (by omega), if_neg (by omega), if_neg (by omega), if_neg (by omega), if_pos rfl]; exact hR.tp t ht.1 ht.2
  · rw [if_neg (by omega), if_neg (by omega), if_neg (by omega), if_neg (by omega), if_neg (by omega), if_neg (by omega), if_neg (by omega), if_neg (by omega), if_neg (by omega), if_neg (by omega)]; exact q_wq ht h' hX

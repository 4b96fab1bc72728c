/-! the model: its changes -/
def zSh1 (q : Int) : Nat → Int → Z → Z
  | 0, _, z => z
  | d + 1, k, z => zSh1 q d (k + 1) (u1 z (q + k) (z (q + k + 1)))
def zPa (z : Z) (i : Int) : Z :=
  let t := z (635 + 520 * i)
  let z1 := u1 z (41 + 6 * i + 0) (z (41 + 6 * i + 0) - z (41 + 6 * i + 2))
  let z2 := u1 z1 (41 + 6 * i + 3) (z1 (41 + 6 * i + 3) + 1)
  let z3 := u1 z2 (41 + 6 * i + 5) (z2 (41 + 6 * i + 5) - 1)
  let z4 := u1 z3 (23 + 3 * t) (z3 (23 + 3 * t) + z3 (41 + 6 * i + 2))
  u1 z4 (23 + 3 * t + 2) (z4 (23 + 3 * t + 2) + z4 (41 + 6 * i + 2))
def zPayF (i : Int) : Nat → Z → Z
  | 0, z => z
  | d + 1, z => if wr (z (41 + 6 * i + 2)) ≤ wr (z (41 + 6 * i + 0)) then zPayF i d (zSh1 (635 + 520 * i) d 0 (zPa z i)) else z
def zPay (z : Z) (i : Int) : Z := zPayF i (z (41 + 6 * i + 5)).toNat z
def QE (z : Z) : Prop := ∀ j, 635 ≤ j → j < 2195 → 0 ≤ z j ∧ z j < 6
theorem u1_e {z : Z} {i v j : Int} : u1 z i v j = if j = i then v else z j := rfl
theorem zSh1_at (q : Int) : ∀ (d : Nat) (k : Int) (z : Z) (j : Int), zSh1 q d k z j = if q + k ≤ j ∧ j < q + k + d then z (j + 1) else z j := by
  intro d
  induction d with
  | zero => intro k z j; rw [zSh1, if_neg (by omega)]
  | succ d ih =>
    intro k z j
    rw [zSh1, ih]
    by_cases h1 : q + (k + 1) ≤ j ∧ j < q + (k + 1) + d
    · rw [if_pos h1, if_pos (by omega), u1_ne (by omega)]
    · rw [if_neg h1]
      by_cases h2 : j = q + k
      · subst h2; rw [u1_at, if_pos (by omega)]
      · rw [u1_ne h2, if_neg (by omega)]
theorem zPa_i {z : Z} {i j : Int} (hi : 0 ≤ i ∧ i < 3) (ht : 0 ≤ z (635 + 520 * i) ∧ z (635 + 520 * i) < 6) (hj : 41 + 6 * i ≤ j ∧ j < 41 + 6 * i + 6) : zPa z i j = if j = 41 + 6 * i then z j - z (41 + 6 * i + 2) else if j = 41 + 6 * i + 3 then z j + 1 else if j = 41 + 6 * i + 5 then z j - 1 else z j := by
  simp only [zPa, u1_e]
  repeat' split
  all_goals first | omega | rfl | (subst_vars; simp)
theorem zPa_o {z : Z} {i j : Int} (hi : 0 ≤ i ∧ i < 3) (ht : 0 ≤ z (635 + 520 * i) ∧ z (635 + 520 * i) < 6) (hj : ¬ (41 + 6 * i ≤ j ∧ j < 41 + 6 * i + 6)) (hk : j < 23 ∨ 41 ≤ j) : zPa z i j = z j := by
  simp only [zPa]
  rw [u1_ne (by omega), u1_ne (by omega), u1_ne (by omega), u1_ne (by omega), u1_ne (by omega)]
theorem zPa_q {z : Z} {i : Int} (hi : 0 ≤ i ∧ i < 3) (ht : 0 ≤ z (635 + 520 * i) ∧ z (635 + 520 * i) < 6) (h : QE z) : QE (zPa z i) := fun j h1 h2 => by
  rw [zPa_o hi ht (by omega) (by omega)]; exact h j h1 h2
theorem zSh1_q {z : Z} {i : Int} {d : Nat} (hi : 0 ≤ i ∧ i < 3) (hd : d < 520) (h : QE z) : QE (zSh1 (635 + 520 * i) d 0 z) := fun j h1 h2 => by
  rw [zSh1_at]; split
  · exact h _ (by omega) (by omega)
  · exact h _ (by omega) (by omega)
theorem cnt_up {p p' : Int → Bool} {e : Int} (h : ∀ c, ¬ c = e → p' c = p c) : ∀ (d : Nat) (c n n' : Int), cntF p' d c n' - n' = cntF p d c n - n + if c ≤ e ∧ e < c + d then bI (p' e) - bI (p e) else 0 := by
  intro d
  induction d with
  | zero => intro c n n'; rw [if_neg (by omega)]; simp only [cntF]; omega
  | succ d ih =>
    intro c n n'
    have := ih (c + 1) (n + bI (p c)) (n' + bI (p' c))
    simp only [cntF]
    by_cases hc : c = e
    · subst hc; rw [if_neg (by omega)] at this; rw [if_pos (by omega)]; omega
    · rw [h c hc] at this ⊢
      by_cases h2 : c + 1 ≤ e ∧ e < c + 1 + d
      · rw [if_pos h2] at this; rw [if_pos (by omega)]; omega
      · rw [if_neg h2] at this; rw [if_neg (by omega)]; omega
theorem cnt_cg {p p' : Int → Bool} : ∀ (d : Nat) (c n : Int), (∀ e, c ≤ e → e < c + d → p' e = p e) → cntF p' d c n = cntF p d c n := by
  intro d
  induction d with
  | zero => intro c n h; rfl
  | succ d ih =>
    intro c n h
    simp only [cntF]
    rw [h c (by omega) (by omega), ih _ _ (fun e h1 h2 => h e (by omega) (by omega))]
def WI (z : Z) (K : Int) : Prop := (0 ≤ z 2 ∧ z 2 ≤ 6) ∧ (0 ≤ z 3 ∧ z 3 ≤ 3) ∧ QE z ∧ (∀ c, 0 ≤ c → c < 64 → (0 ≤ z (59 + 9 * c + 2) ∧ z (59 + 9 * c + 2) ≤ 6) ∧ 0 ≤ z (59 + 9 * c + 4) ∧ z (59 + 9 * c + 4) ≤ 3) ∧ (0 ≤ z 46 ∧ 0 ≤ z 52 ∧ 0 ≤ z 58) ∧ z 46 + z 52 + z 58 + zCW z 4 ≤ K ∧ K ≤ 512
theorem zCW_b (z : Z) (w : Int) : 0 ≤ zCW z w ∧ zCW z w ≤ 64 := by
  have h := cnt_b (fun c => decide (0 < wr (z (59 + 9 * c + w)))) 64 0 0
  unfold zCW; omega
theorem WI_wt {z : Z} {K i : Int} (h : WI z K) (hi : 0 ≤ i ∧ i < 3) : 0 ≤ z (41 + 6 * i + 5) ∧ z (41 + 6 * i + 5) ≤ 512 := by
  obtain ⟨_, _, _, _, a, b, c⟩ := h
  have := zCW_b z 4
  have e : i = 0 ∨ i = 1 ∨ i = 2 := by omega
  rcases e with rfl | rfl | rfl
  · simp; omega
  · simp; omega
  · simp; omega
def NW (j : Int) : Prop := ¬ j = 2 ∧ ¬ j = 3 ∧ j < 635 ∧ ¬ j = 46 ∧ ¬ j = 52 ∧ ¬ j = 58 ∧ (59 ≤ j → ¬ (j - 59) % 9 = 2 ∧ ¬ (j - 59) % 9 = 4)
theorem WI_cg {z z' : Z} {K : Int} (h : WI z K) (e2 : z' 2 = z 2) (e3 : z' 3 = z 3) (hq : QE z') (hc : ∀ c, 0 ≤ c → c < 64 → z' (59 + 9 * c + 2) = z (59 + 9 * c + 2) ∧ z' (59 + 9 * c + 4) = z (59 + 9 * c + 4)) (hw : 0 ≤ z' 46 ∧ z' 46 ≤ z 46 ∧ 0 ≤ z' 52 ∧ z' 52 ≤ z 52 ∧ 0 ≤ z' 58 ∧ z' 58 ≤ z 58) : WI z' K := by
  obtain ⟨a, b, c, d, e, f, g⟩ := h
  refine ⟨by omega, by omega, hq, fun c h1 h2 => ?_, by omega, ?_, g⟩
  · rw [(hc c h1 h2).1, (hc c h1 h2).2]; exact d c h1 h2
  · have : zCW z' 4 = zCW z 4 := cnt_cg 64 0 0 (fun e h1 h2 => by rw [(hc e (by omega) (by omega)).2])
    omega
theorem WI_u1 {z : Z} {K j v : Int} (hj : NW j) (h : WI z K) : WI (u1 z j v) K := by
  unfold NW at hj
  have hw := h.2.2.2.2.1
  refine WI_cg h (u1_ne (by omega)) (u1_ne (by omega)) (fun k h1 h2 => by rw [u1_ne (by omega)]; exact h.2.2.1 k h1 h2) (fun c h1 h2 => ⟨u1_ne (by omega), u1_ne (by omega)⟩) ?_
  rw [u1_ne (by omega), u1_ne (by omega), u1_ne (by omega)]; omega
theorem zPayF_fr {i : Int} (hi : 0 ≤ i ∧ i < 3) : ∀ (d : Nat) (z : Z), z (41 + 6 * i + 5) = d → (d : Int) < 513 → QE z →
    (∀ j, (j < 23 ∨ 41 ≤ j) → ¬ (41 + 6 * i ≤ j ∧ j < 41 + 6 * i + 6) → j < 635 → zPayF i d z j = z j) ∧ 0 ≤ zPayF i d z (41 + 6 * i + 5) ∧ zPayF i d z (41 + 6 * i + 5) ≤ d ∧ QE (zPayF i d z) := by
  intro d
  induction d with
  | zero => intro z h1 h2 h3; exact ⟨fun j _ _ _ => rfl, by simp only [zPayF]; omega, by simp only [zPayF]; omega, h3⟩
  | succ d ih =>
    intro z h1 h2 h3
    have ht := h3 (635 + 520 * i) (by omega) (by omega)
    rw [zPayF]
    split
    · have q5 : zSh1 (635 + 520 * i) d 0 (zPa z i) (41 + 6 * i + 5) = d := by
        rw [zSh1_at, if_neg (by omega), zPa_i hi ht (by omega), if_neg (by omega), if_neg (by omega), if_pos rfl]; omega
      obtain ⟨a, b, c, e⟩ := ih _ q5 (by omega) (zSh1_q hi (by omega) (zPa_q hi ht h3))
      refine ⟨fun j h4 h5 h6 => ?_, b, by omega, e⟩
      rw [a j h4 h5 h6, zSh1_at, if_neg (by omega), zPa_o hi ht h5 h4]
    · exact ⟨fun j _ _ _ => rfl, by omega, by omega, h3⟩
theorem zPay_fr {z : Z} {i : Int} (hi : 0 ≤ i ∧ i < 3) (hw : 0 ≤ z (41 + 6 * i + 5) ∧ z (41 + 6 * i + 5) ≤ 512) (hq : QE z) :
    (∀ j, (j < 23 ∨ 41 ≤ j) → ¬ (41 + 6 * i ≤ j ∧ j < 41 + 6 * i + 6) → j < 635 → zPay z i j = z j) ∧ 0 ≤ zPay z i (41 + 6 * i + 5) ∧ zPay z i (41 + 6 * i + 5) ≤ z (41 + 6 * i + 5) ∧ QE (zPay z i) := by
  have h := zPayF_fr hi (z (41 + 6 * i + 5)).toNat z (by omega) (by omega) hq
  obtain ⟨a, b, c, d⟩ := h
  exact ⟨a, b, by unfold zPay; omega, d⟩
theorem WI_pay {z : Z} {K i : Int} (hi : 0 ≤ i ∧ i < 3) (h : WI z K) : WI (zPay z i) K := by
  obtain ⟨a, b, c, d⟩ := zPay_fr hi (WI_wt h hi) h.2.2.1
  have hw := h.2.2.2.2.1
  refine WI_cg h (a _ (by omega) (by omega) (by omega)) (a _ (by omega) (by omega) (by omega)) d (fun c h1 h2 => ⟨a _ (by omega) (by omega) (by omega), a _ (by omega) (by omega) (by omega)⟩) ?_
  have e : i = 0 ∨ i = 1 ∨ i = 2 := by omega
  rcases e with rfl | rfl | rfl
  · rw [a 52 (by omega) (by omega) (by omega), a 58 (by omega) (by omega) (by omega)]; simp at b c; omega
  · rw [a 46 (by omega) (by omega) (by omega), a 58 (by omega) (by omega) (by omega)]; simp at b c; omega
  · rw [a 46 (by omega) (by omega) (by omega), a 52 (by omega) (by omega) (by omega)]; simp at b c; omega
def zL1 (z : Z) (c : Int) : Z := u1 z (59 + 9 * c + 8) (z (59 + 9 * c + 8) + 1)
def zL2 (z : Z) (c : Int) : Z := u1 z (23 + 3 * (z (59 + 9 * c + 2) - 1) + 1) (z (23 + 3 * (z (59 + 9 * c + 2) - 1) + 1) + 1)
def zL3 (z : Z) (c i t : Int) : Z :=
  let z4 := u1 (u1 z (59 + 9 * c + 4) 0) (59 + 9 * c + 5) 0
  let z5 := u1 z4 (635 + 520 * i + z4 (41 + 6 * i + 5)) t
  u1 z5 (41 + 6 * i + 5) (z5 (41 + 6 * i + 5) + 1)
def zLo (z : Z) (c : Int) : Z :=
  if zLs (zL1 z c) c = true then
    if zL2 (zL1 z c) c (59 + 9 * c + 4) - 1 = -1 then zL2 (zL1 z c) c
    else zPay (zL3 (zL2 (zL1 z c) c) c (zL2 (zL1 z c) c (59 + 9 * c + 4) - 1) (zL1 z c (59 + 9 * c + 2) - 1)) (zL2 (zL1 z c) c (59 + 9 * c + 4) - 1)
  else zL1 z c
theorem zLs_p {z : Z} {c : Int} (h0 : 0 ≤ z (59 + 9 * c + 2) ∧ z (59 + 9 * c + 2) ≤ 6) : zLs z c = true ↔ 0 < z (59 + 9 * c + 2) := by
  unfold zLs; rw [wr_id' (by omega) (by omega)]; simp
theorem WI_1 {z : Z} {K c : Int} (hc : 0 ≤ c ∧ c < 64) (h : WI z K) : WI (zL1 z c) K := WI_u1 (by unfold NW; omega) h
theorem WI_2 {z : Z} {K c : Int} (hc : 0 ≤ c ∧ c < 64) (hl : 0 < z (59 + 9 * c + 2)) (h : WI z K) : WI (zL2 z c) K := by
  have hw := h.2.2.2.1 c hc.1 hc.2
  exact WI_u1 (by unfold NW; omega) h
theorem WI_3 {z : Z} {K c i t : Int} (hc : 0 ≤ c ∧ c < 64) (hi : i = z (59 + 9 * c + 4) - 1) (hi0 : 0 ≤ i ∧ i < 3) (ht : 0 ≤ t ∧ t < 6) (h : WI z K) : WI (zL3 z c i t) K := by
  have hwt := WI_wt h hi0
  obtain ⟨a, b, q, d, e, f, g⟩ := h
  have hp := cnt_up (p := fun c => decide (0 < wr (z (59 + 9 * c + 4)))) (p' := fun e => decide (0 < wr (u1 z (59 + 9 * c + 4) 0 (59 + 9 * e + 4)))) (e := c) (fun e he => by rw [u1_ne (by omega)]) 64 0 0 0
  rw [if_pos (by omega)] at hp
  have hp1 : bI (decide (0 < wr (u1 z (59 + 9 * c + 4) 0 (59 + 9 * c + 4)))) = 0 := by rw [u1_at]; rfl
  have hp2 : bI (decide (0 < wr (z (59 + 9 * c + 4)))) = 1 := by rw [wr_id' (by omega) (by omega), ← bI_t (by omega)]
  have e4 : u1 (u1 z (59 + 9 * c + 4) 0) (59 + 9 * c + 5) 0 (41 + 6 * i + 5) = z (41 + 6 * i + 5) := by rw [u1_ne (by omega), u1_ne (by omega)]
  have hcw : zCW (zL3 z c i t) 4 = cntF (fun e => decide (0 < wr (u1 z (59 + 9 * c + 4) 0 (59 + 9 * e + 4)))) 64 0 0 := cnt_cg 64 0 0 (fun e h1 h2 => by
    have hz : zL3 z c i t (59 + 9 * e + 4) = u1 z (59 + 9 * c + 4) 0 (59 + 9 * e + 4) := by simp only [zL3]; rw [e4, u1_ne (by omega), u1_ne (by omega), u1_ne (z := u1 z (59 + 9 * c + 4) 0) (by omega)]
    show decide (0 < wr (zL3 z c i t (59 + 9 * e + 4))) = decide (0 < wr (u1 z (59 + 9 * c + 4) 0 (59 + 9 * e + 4)))
    rw [hz])
  refine ⟨?_, ?_, ?_, ?_, ?_, ?_, g⟩
  · simp only [zL3]; rw [e4, u1_ne (by omega), u1_ne (by omega), u1_ne (by omega), u1_ne (by omega)]; exact a
  · simp only [zL3]; rw [e4, u1_ne (by omega), u1_ne (by omega), u1_ne (by omega), u1_ne (by omega)]; exact b
  · intro j h1 h2
    simp only [zL3]; rw [e4, u1_ne (by omega), u1_e]
    split
    · exact ht
    · rw [u1_ne (by omega), u1_ne (by omega)]; exact q j h1 h2
  · intro j h1 h2
    simp only [zL3]; rw [e4, u1_ne (by omega), u1_ne (by omega), u1_ne (by omega), u1_ne (by omega), u1_ne (by omega), u1_ne (by omega), u1_ne (by omega), u1_e]
    have := d j h1 h2
    split <;> omega
  · simp only [zL3]; rw [e4]; simp only [u1_e]; omega
  · have g : ∀ j, j = 46 ∨ j = 52 ∨ j = 58 → zL3 z c i t j = if j = 41 + 6 * i + 5 then z j + 1 else z j := fun j hj => by
      simp only [zL3]; rw [e4]
      by_cases q : j = 41 + 6 * i + 5
      · rw [if_pos q, q, u1_at, u1_ne (by omega), e4]
      · rw [if_neg q, u1_ne q, u1_ne (by omega), u1_ne (by omega), u1_ne (by omega)]
    have w : zL3 z c i t 46 + zL3 z c i t 52 + zL3 z c i t 58 = z 46 + z 52 + z 58 + 1 := by
      rw [g 46 (by omega), g 52 (by omega), g 58 (by omega)]
      have e : i = 0 ∨ i = 1 ∨ i = 2 := by omega
      rcases e with r | r | r
      · rw [if_pos (by omega), if_neg (by omega), if_neg (by omega)]; omega
      · rw [if_neg (by omega), if_pos (by omega), if_neg (by omega)]; omega
      · rw [if_neg (by omega), if_neg (by omega), if_pos (by omega)]; omega
    rw [hcw]
    unfold zCW at f
    rw [hp1, hp2] at hp
    omega
theorem WI_lo {z : Z} {K c : Int} (hc : 0 ≤ c ∧ c < 64) (h : WI z K) : WI (zLo z c) K := by
  have w1 := WI_1 hc h
  have r1 := w1.2.2.2.1 c hc.1 hc.2
  unfold zLo
  split
  · rename_i hl
    have hl := (zLs_p r1.1).mp hl
    have w2 := WI_2 hc hl w1
    have r2 := w2.2.2.2.1 c hc.1 hc.2
    split
    · exact w2
    · exact WI_pay ⟨by omega, by omega⟩ (WI_3 hc rfl ⟨by omega, by omega⟩ ⟨by omega, by omega⟩ w2)
  · exact w1

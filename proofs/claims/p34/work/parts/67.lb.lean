/-! what the law's own plane keeps -/
def pl (c : Int) : Prop := c < 32 ∧ c % 8 < 4
theorem cr_pl {k : Int} (h : 0 ≤ k ∧ k < 16) : pl (cr k) := by unfold pl cr; omega
theorem pl_cr {c : Int} (h : 0 ≤ c) (hp : pl c) : ∃ k, (0 ≤ k ∧ k < 16) ∧ cr k = c := by
  unfold pl at hp
  exact ⟨4 * (c / 8) + c % 8, by omega, by unfold cr; omega⟩
/-- the claims that wait are of three tenants -/
def QT (z : Z) : Prop := ∀ j, 635 ≤ j → j < 2195 → 0 ≤ z j ∧ z j < 3
/-- on each of two insurers no more claims than there is room for, with those to come -/
def SB (z : Z) : Prop := (0 ≤ z 46 ∧ z 46 + zPol z 0 ≤ 23) ∧ 0 ≤ z 52 ∧ z 52 + zPol z 1 ≤ 23
/-- bits; the other cores have nothing; few tenants and insurers -/
def XT (z : Z) : Prop := ∀ c, 0 ≤ c → c < 64 → (z (59 + 9 * c) = 0 ∨ z (59 + 9 * c) = 1) ∧ (¬ pl c → z (59 + 9 * c) = 0 ∧ z (59 + 9 * c + 2) = 0 ∧ z (59 + 9 * c + 4) = 0 ∧ z (59 + 9 * c + 6) = 0) ∧ (0 ≤ z (59 + 9 * c + 2) ∧ z (59 + 9 * c + 2) ≤ 3) ∧ (0 ≤ z (59 + 9 * c + 4) ∧ z (59 + 9 * c + 4) ≤ 2) ∧ 0 ≤ z (59 + 9 * c + 6)
def LX (z : Z) : Prop := QT z ∧ SB z ∧ XT z
theorem zPol_le {z y : Z} {i : Int} (h : ∀ c, 0 ≤ c → c < 64 → y (59 + 9 * c + 4) = z (59 + 9 * c + 4) ∨ y (59 + 9 * c + 4) = 0) (hi : 0 ≤ i) : zPol y i ≤ zPol z i := by
  have e1 : ∀ w : Z, zPol w i = cntF (fun c => decide (wr (w (59 + 9 * c + 4)) = i + 1) && decide (0 ≤ c ∧ c < 64)) 64 0 0 := fun w => cnt_cg 64 0 0 (fun e h1 h2 => by simp [show 0 ≤ e ∧ e < 64 by omega])
  rw [e1 y, e1 z]
  refine cnt_le (fun e he => ?_) 64 0 0 0 (Int.le_refl _)
  simp only [Bool.and_eq_true, decide_eq_true_eq] at he ⊢
  rcases h e he.2.1 he.2.2 with q | q
  · rw [q] at he; exact he
  · rw [q] at he
    have : wr 0 = 0 := rfl
    omega
theorem zPol_b (z : Z) (i : Int) : 0 ≤ zPol z i ∧ zPol z i ≤ 64 := by
  have h := cnt_b (fun c => decide (wr (z (59 + 9 * c + 4)) = i + 1)) 64 0 0
  unfold zPol; omega
/-- a step that takes away at most -/
theorem LX_mn {z y : Z} (h : LX z) (hq : QT y) (hw : 0 ≤ y 46 ∧ y 46 ≤ z 46 ∧ 0 ≤ y 52 ∧ y 52 ≤ z 52)
    (hc : ∀ c, 0 ≤ c → c < 64 → (y (59 + 9 * c) = z (59 + 9 * c) ∨ y (59 + 9 * c) = 0 ∨ pl c ∧ y (59 + 9 * c) = 1) ∧ (y (59 + 9 * c + 2) = z (59 + 9 * c + 2) ∨ y (59 + 9 * c + 2) = 0) ∧ (y (59 + 9 * c + 4) = z (59 + 9 * c + 4) ∨ y (59 + 9 * c + 4) = 0) ∧ (y (59 + 9 * c + 6) = z (59 + 9 * c + 6) ∨ y (59 + 9 * c + 6) = 0 ∨ pl c ∧ 0 ≤ y (59 + 9 * c + 6))) : LX y := by
  obtain ⟨a, b, c⟩ := h
  refine ⟨hq, ?_, fun e h1 h2 => ?_⟩
  · have p0 := zPol_le (z := z) (y := y) (i := 0) (fun e h1 h2 => (hc e h1 h2).2.2.1) (by decide)
    have p1 := zPol_le (z := z) (y := y) (i := 1) (fun e h1 h2 => (hc e h1 h2).2.2.1) (by decide)
    unfold SB at b ⊢
    omega
  · have d := c e h1 h2
    have k := hc e h1 h2
    by_cases p : pl e
    · refine ⟨by omega, fun q => absurd p q, by omega, by omega, by omega⟩
    · have d2 := d.2.1 p
      refine ⟨by omega, fun _ => ?_, by omega, by omega, by omega⟩
      obtain ⟨k1, k2, k3, k4⟩ := k
      refine ⟨?_, by omega, by omega, ?_⟩
      · rcases k1 with q | q | q
        · omega
        · exact q
        · exact absurd q.1 p
      · rcases k4 with q | q | q
        · omega
        · exact q
        · exact absurd q.1 p
def LN (j : Int) : Prop := j < 635 ∧ ¬ j = 46 ∧ ¬ j = 52 ∧ (59 ≤ j → ¬ (j - 59) % 9 = 0 ∧ ¬ (j - 59) % 9 = 2 ∧ ¬ (j - 59) % 9 = 4 ∧ ¬ (j - 59) % 9 = 6)
theorem LX_u1 {z : Z} {j v : Int} (hj : LN j) (h : LX z) : LX (u1 z j v) := by
  unfold LN at hj
  have hb := h.2.1
  unfold SB at hb
  refine LX_mn h (fun k h1 h2 => by rw [u1_ne (by omega)]; exact h.1 k h1 h2) (by rw [u1_ne (by omega), u1_ne (by omega)]; omega) (fun c h1 h2 => ⟨Or.inl (u1_ne (by omega)), Or.inl (u1_ne (by omega)), Or.inl (u1_ne (by omega)), Or.inl (u1_ne (by omega))⟩)
/-- a bit, a due time -/
theorem LX_bit {z : Z} {c b : Int} (hc : 0 ≤ c ∧ c < 64) (hb : b = 0 ∨ pl c ∧ b = 1) (h : LX z) : LX (u1 z (59 + 9 * c) b) := by
  have hs := h.2.1
  unfold SB at hs
  refine LX_mn h (fun k h1 h2 => by rw [u1_ne (by omega)]; exact h.1 k h1 h2) (by rw [u1_ne (by omega), u1_ne (by omega)]; omega) (fun e h1 h2 => ⟨?_, Or.inl (u1_ne (by omega)), Or.inl (u1_ne (by omega)), Or.inl (u1_ne (by omega))⟩)
  by_cases q : e = c
  · subst q; rw [u1_at]; exact Or.inr hb
  · exact Or.inl (u1_ne (by omega))
theorem LX_due {z : Z} {c b : Int} (hc : 0 ≤ c ∧ c < 64) (hb : b = 0 ∨ pl c ∧ 0 ≤ b) (h : LX z) : LX (u1 z (59 + 9 * c + 6) b) := by
  have hs := h.2.1
  unfold SB at hs
  refine LX_mn h (fun k h1 h2 => by rw [u1_ne (by omega)]; exact h.1 k h1 h2) (by rw [u1_ne (by omega), u1_ne (by omega)]; omega) (fun e h1 h2 => ⟨Or.inl (u1_ne (by omega)), Or.inl (u1_ne (by omega)), Or.inl (u1_ne (by omega)), ?_⟩)
  by_cases q : e = c
  · subst q; rw [u1_at]; exact Or.inr hb
  · exact Or.inl (u1_ne (by omega))
theorem LX_who {z : Z} {c : Int} (hc : 0 ≤ c ∧ c < 64) (h : LX z) : LX (u1 z (59 + 9 * c + 2) 0) := by
  have hs := h.2.1
  unfold SB at hs
  refine LX_mn h (fun k h1 h2 => by rw [u1_ne (by omega)]; exact h.1 k h1 h2) (by rw [u1_ne (by omega), u1_ne (by omega)]; omega) (fun e h1 h2 => ⟨Or.inl (u1_ne (by omega)), ?_, Or.inl (u1_ne (by omega)), Or.inl (u1_ne (by omega))⟩)
  by_cases q : e = c
  · subst q; rw [u1_at]; exact Or.inr rfl
  · exact Or.inl (u1_ne (by omega))
theorem LX_by {z : Z} {c : Int} (hc : 0 ≤ c ∧ c < 64) (h : LX z) : LX (u1 z (59 + 9 * c + 4) 0) := by
  have hs := h.2.1
  unfold SB at hs
  refine LX_mn h (fun k h1 h2 => by rw [u1_ne (by omega)]; exact h.1 k h1 h2) (by rw [u1_ne (by omega), u1_ne (by omega)]; omega) (fun e h1 h2 => ⟨Or.inl (u1_ne (by omega)), Or.inl (u1_ne (by omega)), ?_, Or.inl (u1_ne (by omega))⟩)
  by_cases q : e = c
  · subst q; rw [u1_at]; exact Or.inr rfl
  · exact Or.inl (u1_ne (by omega))
theorem QT_QE {z : Z} (h : QT z) : QE z := fun j a b => by have := h j a b; omega
theorem zPa_qt {z : Z} {i : Int} (hi : 0 ≤ i ∧ i < 3) (ht : 0 ≤ z (635 + 520 * i) ∧ z (635 + 520 * i) < 6) (h : QT z) : QT (zPa z i) := fun j h1 h2 => by
  rw [zPa_o hi ht (by omega) (by omega)]; exact h j h1 h2
theorem zSh1_qt {z : Z} {i : Int} {d : Nat} (hi : 0 ≤ i ∧ i < 3) (hd : d < 520) (h : QT z) : QT (zSh1 (635 + 520 * i) d 0 z) := fun j h1 h2 => by
  rw [zSh1_at]; split
  · exact h _ (by omega) (by omega)
  · exact h _ (by omega) (by omega)
theorem zPayF_qt {i : Int} (hi : 0 ≤ i ∧ i < 3) : ∀ (d : Nat) (z : Z), (d : Int) < 513 → QT z → QT (zPayF i d z) := by
  intro d
  induction d with
  | zero => intro z h1 h; exact h
  | succ d ih =>
    intro z h1 h
    have ht := h (635 + 520 * i) (by omega) (by omega)
    rw [zPayF]
    split
    · exact ih _ (by omega) (zSh1_qt hi (by omega) (zPa_qt hi (by omega) h))
    · exact h
theorem LX_pay {z : Z} {i : Int} (hi : 0 ≤ i ∧ i < 2) (h : LX z) : LX (zPay z i) := by
  have hs := h.2.1
  unfold SB at hs
  have b0 := zPol_b z 0
  have b1 := zPol_b z 1
  have hw : 0 ≤ z (41 + 6 * i + 5) ∧ z (41 + 6 * i + 5) ≤ 512 := by
    have e : i = 0 ∨ i = 1 := by omega
    rcases e with rfl | rfl
    · show 0 ≤ z 46 ∧ z 46 ≤ 512; omega
    · show 0 ≤ z 52 ∧ z 52 ≤ 512; omega
  obtain ⟨a, b, c, d⟩ := zPay_fr ⟨hi.1, by omega⟩ hw (QT_QE h.1)
  refine LX_mn h (zPayF_qt ⟨hi.1, by omega⟩ _ _ (by omega) h.1) ?_ (fun c h1 h2 => ⟨Or.inl (a _ (by omega) (by omega) (by omega)), Or.inl (a _ (by omega) (by omega) (by omega)), Or.inl (a _ (by omega) (by omega) (by omega)), Or.inl (a _ (by omega) (by omega) (by omega))⟩)
  have e : i = 0 ∨ i = 1 := by omega
  rcases e with rfl | rfl
  · rw [a 52 (by omega) (by omega) (by omega)]
    have b' : 0 ≤ zPay z 0 46 := b
    have c' : zPay z 0 46 ≤ z 46 := c
    omega
  · rw [a 46 (by omega) (by omega) (by omega)]
    have b' : 0 ≤ zPay z 1 52 := b
    have c' : zPay z 1 52 ≤ z 52 := c
    omega
theorem LX_1 {z : Z} {c : Int} (hc : 0 ≤ c ∧ c < 64) (h : LX z) : LX (zL1 z c) := LX_u1 (by unfold LN; omega) h
theorem LX_2 {z : Z} {c : Int} (hc : 0 ≤ c ∧ c < 64) (hl : 0 < z (59 + 9 * c + 2)) (h : LX z) : LX (zL2 z c) := by
  have hw := (h.2.2 c hc.1 hc.2).2.2.1
  exact LX_u1 (by unfold LN; omega) h
theorem zPol_0 {z : Z} {c i : Int} (hc : 0 ≤ c ∧ c < 64) (hb : 0 ≤ z (59 + 9 * c + 4) ∧ z (59 + 9 * c + 4) ≤ 3) (hi : i = z (59 + 9 * c + 4) - 1) (h0 : 0 ≤ i) : zPol (u1 z (59 + 9 * c + 4) 0) i = zPol z i - 1 := by
  have hp := cnt_up (p := fun e => decide (wr (z (59 + 9 * e + 4)) = i + 1)) (p' := fun e => decide (wr (u1 z (59 + 9 * c + 4) 0 (59 + 9 * e + 4)) = i + 1)) (e := c) (fun e he => by rw [u1_ne (by omega)]) 64 0 0 0
  rw [if_pos (by omega)] at hp
  have hp1 : bI (decide (wr (u1 z (59 + 9 * c + 4) 0 (59 + 9 * c + 4)) = i + 1)) = 0 := by rw [u1_at]; exact (bI_f (by show ¬ (0 : Int) = i + 1; omega)).symm
  have hp2 : bI (decide (wr (z (59 + 9 * c + 4)) = i + 1)) = 1 := by rw [wr_id' (by omega) (by omega)]; exact (bI_t (by omega)).symm
  rw [hp1, hp2] at hp
  unfold zPol
  omega
theorem LX_3 {z : Z} {c i t : Int} (hc : 0 ≤ c ∧ c < 64) (hi : i = z (59 + 9 * c + 4) - 1) (hi0 : 0 ≤ i ∧ i < 2) (ht : 0 ≤ t ∧ t < 3) (h : LX z) : LX (zL3 z c i t) := by
  have h4 := LX_by hc h
  have hx := (h.2.2 c hc.1 hc.2).2.2.2.1
  have s4 := h4.2.1
  have s := h.2.1
  have p0 := zPol_0 hc ⟨hx.1, by omega⟩ hi hi0.1
  have hb := zPol_b z i
  have q : ∀ w : Int, 0 ≤ w → zPol (u1 z (59 + 9 * c + 4) 0) w ≤ zPol z w := fun w hw => zPol_le (fun e h1 h2 => by
    by_cases q : e = c
    · subst q; exact Or.inr u1_at
    · exact Or.inl (u1_ne (by omega))) hw
  have q0 := q 0 (by decide)
  have q1 := q 1 (by decide)
  have e4 : u1 (u1 z (59 + 9 * c + 4) 0) (59 + 9 * c + 5) 0 (41 + 6 * i + 5) = z (41 + 6 * i + 5) := by rw [u1_ne (by omega), u1_ne (by omega)]
  have wt : 0 ≤ z (41 + 6 * i + 5) ∧ z (41 + 6 * i + 5) ≤ 23 := by
    unfold SB at s
    have b0 := zPol_b z 0
    have b1 := zPol_b z 1
    have e : i = 0 ∨ i = 1 := by omega
    rcases e with r | r
    · rw [r]; show 0 ≤ z 46 ∧ z 46 ≤ 23; omega
    · rw [r]; show 0 ≤ z 52 ∧ z 52 ≤ 23; omega
  have ev : ∀ j, zL3 z c i t j = if j = 41 + 6 * i + 5 then z j + 1 else if j = 635 + 520 * i + z (41 + 6 * i + 5) then t else if j = 59 + 9 * c + 5 then 0 else if j = 59 + 9 * c + 4 then 0 else z j := fun j => by
    simp only [zL3]
    rw [e4]
    by_cases a1 : j = 41 + 6 * i + 5
    · rw [if_pos a1, a1, u1_at, u1_ne (by omega), e4]
    · rw [if_neg a1, u1_ne a1]
      by_cases a2 : j = 635 + 520 * i + z (41 + 6 * i + 5)
      · rw [if_pos a2, a2, u1_at]
      · rw [if_neg a2, u1_ne a2]
        by_cases a3 : j = 59 + 9 * c + 5
        · rw [if_pos a3, a3, u1_at]
        · rw [if_neg a3, u1_ne a3]
          by_cases a5 : j = 59 + 9 * c + 4
          · rw [if_pos a5, a5, u1_at]
          · rw [if_neg a5, u1_ne a5]
  have ep : ∀ w, zPol (zL3 z c i t) w = zPol (u1 z (59 + 9 * c + 4) 0) w := fun w => cnt_cg 64 0 0 (fun e h1 h2 => by
    have hz : zL3 z c i t (59 + 9 * e + 4) = u1 z (59 + 9 * c + 4) 0 (59 + 9 * e + 4) := by
      rw [ev, if_neg (by omega), if_neg (by omega), if_neg (by omega)]; rfl
    show decide (wr (zL3 z c i t (59 + 9 * e + 4)) = w + 1) = decide (wr (u1 z (59 + 9 * c + 4) 0 (59 + 9 * e + 4)) = w + 1)
    rw [hz])
  refine ⟨fun j h1 h2 => ?_, ?_, fun e h1 h2 => ?_⟩
  · rw [ev, if_neg (by omega)]
    split
    · exact ht
    · rw [if_neg (by omega), if_neg (by omega)]; exact h.1 j h1 h2
  · unfold SB at s ⊢
    rw [ep 0, ep 1, ev 46, ev 52]
    have e : i = 0 ∨ i = 1 := by omega
    rcases e with r | r
    · rw [r] at p0 wt ⊢
      rw [if_pos (by omega), if_neg (by omega), if_neg (by omega), if_neg (by omega), if_neg (by omega)]
      omega
    · rw [r] at p0 wt ⊢
      rw [if_neg (by omega), if_neg (by omega), if_neg (by omega), if_neg (by omega), if_pos (by omega)]
      omega
  · have d := h4.2.2 e h1 h2
    have g : ∀ w, w = 0 ∨ w = 2 ∨ w = 4 ∨ w = 6 → zL3 z c i t (59 + 9 * e + w) = u1 z (59 + 9 * c + 4) 0 (59 + 9 * e + w) := fun w hw => by
      rw [ev, if_neg (by omega), if_neg (by omega), if_neg (by omega)]; rfl
    have g0 : zL3 z c i t (59 + 9 * e) = u1 z (59 + 9 * c + 4) 0 (59 + 9 * e) := by
      rw [ev, if_neg (by omega), if_neg (by omega), if_neg (by omega)]; rfl
    rw [g0, g 2 (by omega), g 4 (by omega), g 6 (by omega)]
    exact d
theorem LX_lo {z : Z} {c : Int} (hc : 0 ≤ c ∧ c < 64) (h : LX z) : LX (zLo z c) := by
  have w1 := LX_1 hc h
  have r1 := w1.2.2 c hc.1 hc.2
  unfold zLo
  split
  · rename_i hl
    have hl := (zLs_p ⟨r1.2.2.1.1, by omega⟩).mp hl
    have w2 := LX_2 hc hl w1
    have r2 := w2.2.2 c hc.1 hc.2
    split
    · exact w2
    · exact LX_pay ⟨by omega, by omega⟩ (LX_3 hc rfl ⟨by omega, by omega⟩ ⟨by omega, by omega⟩ w2)
  · exact w1
theorem LX_pd {z : Z} {c : Int} (hc : 0 ≤ c ∧ c < 64) (h : LX z) : LX (zPd z c) := by
  have h1 := LX_bit hc (Or.inl rfl) h
  unfold zPd
  rw [Int.add_zero]
  exact LX_u1 (by unfold LN; omega) h1
theorem LX_puF {k : Int} : ∀ (d : Nat) (c : Int) (z : Z), c + d = 64 → 0 ≤ c → LX z → LX (zPuF k d c z) := by
  intro d
  induction d with
  | zero => intro c z _ _ h; exact h
  | succ d ih =>
    intro c z h1 h2 h
    rw [zPuF]
    refine ih _ _ (by omega) (by omega) ?_
    split
    · exact LX_lo ⟨h2, by omega⟩ (LX_pd ⟨h2, by omega⟩ h)
    · exact h
theorem LX_pul {z : Z} {k b : Int} (hk : 0 ≤ k ∧ k < 64) (h : LX z) : LX (zPul z k b) := LX_u1 (by unfold LN; omega) (LX_puF 64 0 _ (by omega) (by omega) (LX_u1 (by unfold LN; omega) h))
theorem LX_wr {z : Z} {c b : Int} (hc : 0 ≤ c ∧ c < 64) (hp : pl c) (hb : b = 0 ∨ b = 1) (h : LX z) : LX (zWr z c b) := by
  have h1 : LX (zWr2 (zPul z c (z (15 + 1))) c b) := by
    unfold zWr2
    rw [Int.add_zero]
    refine LX_bit hc ?_ (LX_pul hc h)
    split
    · exact Or.inl rfl
    · rcases hb with q | q
      · exact Or.inl q
      · exact Or.inr ⟨hp, q⟩
  unfold zWr zWr3
  split
  · exact LX_u1 (by unfold LN; omega) (LX_due hc (Or.inl rfl) h1)
  · exact h1
theorem LX_rd {z : Z} {c : Int} (hc : 0 ≤ c ∧ c < 64) (hp : pl c) (hz : 0 ≤ zRd1 z c 0 ∧ 0 ≤ zRd1 z c 18) (h : LX z) : LX (zRd z c) := by
  have h1 : LX (zRd1 z c) := LX_u1 (by unfold LN; omega) (LX_pul hc h)
  unfold zRd
  split
  · unfold zRd2
    have h2 := LX_bit hc (Or.inl rfl) h1
    rw [Int.add_zero]
    exact LX_u1 (by unfold LN; omega) (LX_u1 (by unfold LN; omega) (LX_u1 (by unfold LN; omega) (LX_due hc (Or.inr ⟨hp, by show 0 ≤ u1 _ _ _ 0 + u1 _ _ _ 18 + 1; rw [u1_ne (by omega), u1_ne (by omega)]; omega⟩) h2)))
  · exact h1
theorem LX_wbA {z : Z} {c : Int} (hc : 0 ≤ c ∧ c < 64) (h : LX z) : LX (zWbA z c) := LX_pul hc (LX_due hc (Or.inl rfl) h)
theorem LX_wb {z : Z} {c : Int} (hc : 0 ≤ c ∧ c < 64) (hp : pl c) (h : LX z) : LX (zWb z c) := by
  have h1 := LX_wbA hc h
  unfold zWb
  split
  · have h2 := LX_bit hc (Or.inr ⟨hp, rfl⟩) h1
    rw [Int.add_zero]
    exact LX_u1 (by unfold LN; omega) h2
  · exact LX_lo hc (LX_u1 (by unfold LN; omega) h1)
theorem LX_ep {z : Z} {c : Int} (hc : 0 ≤ c ∧ c < 64) (h : LX z) : LX (zEp z c) := by
  unfold zEp
  split
  · have h1 : LX (u1 z (59 + 9 * c + 5) (z (59 + 9 * c + 5) - 1)) := LX_u1 (by unfold LN; omega) h
    unfold zEp1
    dsimp only
    split
    · exact LX_by hc h1
    · rw [u1_self]; exact h1
  · exact h
theorem LX_el {z : Z} {c : Int} (hc : 0 ≤ c ∧ c < 64) (h : LX z) : LX (zEl z c) := by
  unfold zEl
  split
  · have h1 : LX (zEl1 z c) := LX_u1 (by unfold LN; omega) h
    split
    · unfold zEl2
      exact LX_due hc (Or.inl rfl) (LX_u1 (by unfold LN; omega) (LX_who hc h1))
    · exact h1
  · exact h
theorem LX_epF : ∀ (d : Nat) (c : Int) (z : Z), c + d = 64 → 0 ≤ c → LX z → LX (zEpF d c z) := by
  intro d
  induction d with
  | zero => intro c z _ _ h; exact h
  | succ d ih => intro c z h1 h2 h; exact ih _ _ (by omega) (by omega) (LX_ep ⟨h2, by omega⟩ h)
theorem LX_elF : ∀ (d : Nat) (c : Int) (z : Z), c + d = 64 → 0 ≤ c → LX z → LX (zElF d c z) := by
  intro d
  induction d with
  | zero => intro c z _ _ h; exact h
  | succ d ih => intro c z h1 h2 h; exact ih _ _ (by omega) (by omega) (LX_el ⟨h2, by omega⟩ h)
theorem LX_ltF (o : Int → Int) (n : Nat) (ho : OE o n) : ∀ (d : Nat) (k : Int) (z : Z), k + d = n → 0 ≤ k → LX z → LX (zLtF o d k z) := by
  intro d
  induction d with
  | zero => intro c z _ _ h; exact h
  | succ d ih =>
    intro k z h1 h2 h
    have hb := ho k h2 (by omega)
    refine ih _ _ (by omega) (by omega) ?_
    split
    · exact LX_lo hb (LX_u1 (by unfold LN; omega) (LX_due hb (Or.inl rfl) h))
    · exact h
theorem LX_tk0 {z : Z} (h : LX z) : LX (zTk0 z) := LX_u1 (by unfold LN; omega) (LX_u1 (by unfold LN; omega) h)
theorem LX_tk1 {z : Z} {o : Int → Int} (h : LX z) : LX (zTk1 z o) := by
  have hb := zOr_b (zTk0 z) o
  exact LX_ltF _ (zOrN (zTk0 z) o).toNat hb.1 _ _ _ (by omega) (by omega) (LX_tk0 h)
theorem LX_tk {z : Z} {o : Int → Int} (h : LX z) : LX (zTk z o) := LX_elF 64 0 _ (by omega) (by omega) (LX_epF 64 0 _ (by omega) (by omega) (LX_tk1 h))
theorem LX_wt {z : Z} {i : Int} (h : LX z) (hi : 0 ≤ i ∧ i < 2) : 0 ≤ z (41 + 6 * i + 5) ∧ z (41 + 6 * i + 5) ≤ 23 := by
  have s := h.2.1
  unfold SB at s
  have b0 := zPol_b z 0
  have b1 := zPol_b z 1
  have e : i = 0 ∨ i = 1 := by omega
  rcases e with rfl | rfl
  · show 0 ≤ z 46 ∧ z 46 ≤ 23; omega
  · show 0 ≤ z 52 ∧ z 52 ≤ 23; omega
def itF {α : Type} (f : Int → α → α) : Nat → Int → α → α
  | 0, _, a => a
  | d + 1, c, a => itF f d (c + 1) (f c a)
theorem itF_z {α : Type} {f : Int → α → α} : ∀ (d : Nat) (c : Int) (a : α), (∀ e, c ≤ e → e < c + d → f e a = a) → itF f d c a = a := by
  intro d
  induction d with
  | zero => intro c a _; rfl
  | succ d ih =>
    intro c a h
    rw [itF, h c (by omega) (by omega)]
    exact ih _ _ (fun e h1 h2 => h e (by omega) (by omega))
theorem itF_app {α : Type} {f : Int → α → α} : ∀ (n d : Nat) (c : Int) (a : α), itF f (n + d) c a = itF f d (c + n) (itF f n c a) := by
  intro n
  induction n with
  | zero => intro d c a; rw [Nat.zero_add, itF, show c + ((0 : Nat) : Int) = c by omega]
  | succ n ih =>
    intro d c a
    rw [show n + 1 + d = (n + d) + 1 by omega, itF, itF, ih, show c + 1 + (n : Int) = c + ((n + 1 : Nat) : Int) by omega]
theorem itF_I {α : Type} {f : Int → α → α} {I : α → Prop} (N : Int) (hI : ∀ c a, 0 ≤ c → c < N → I a → I (f c a)) : ∀ (d : Nat) (c : Int) (a : α), 0 ≤ c → c + d ≤ N → I a → I (itF f d c a) := by
  intro d
  induction d with
  | zero => intro c a _ _ h; exact h
  | succ d ih => intro c a h1 h2 h; exact ih _ _ (by omega) (by omega) (hI c a h1 (by omega) h)
theorem it_row {α : Type} {f : Int → α → α} {I : α → Prop} (hI : ∀ c a, 0 ≤ c → c < 64 → I a → I (f c a)) (h0 : ∀ c a, 0 ≤ c → c < 64 → ¬ pl c → I a → f c a = a) {r : Int} (hr : 0 ≤ r ∧ r < 4) {a : α} (ha : I a) : itF f 8 (8 * r) a = itF (fun k => f (cr k)) 4 (4 * r) a := by
  have e0 : cr (4 * r) = 8 * r := by unfold cr; omega
  have e1 : cr (4 * r + 1) = 8 * r + 1 := by unfold cr; omega
  have e2 : cr (4 * r + 1 + 1) = 8 * r + 1 + 1 := by unfold cr; omega
  have e3 : cr (4 * r + 1 + 1 + 1) = 8 * r + 1 + 1 + 1 := by unfold cr; omega
  have a1 := hI (8 * r) a (by omega) (by omega) ha
  have a2 := hI (8 * r + 1) _ (by omega) (by omega) a1
  have a3 := hI (8 * r + 1 + 1) _ (by omega) (by omega) a2
  have a4 := hI (8 * r + 1 + 1 + 1) _ (by omega) (by omega) a3
  rw [show (8 : Nat) = 4 + 4 from rfl, itF_app]
  have e : itF f 4 (8 * r) a = f (8 * r + 1 + 1 + 1) (f (8 * r + 1 + 1) (f (8 * r + 1) (f (8 * r) a))) := rfl
  rw [e, itF_z 4 _ _ (fun c h1 h2 => h0 c _ (by omega) (by omega) (by unfold pl; omega) a4)]
  show _ = f (cr (4 * r + 1 + 1 + 1)) (f (cr (4 * r + 1 + 1)) (f (cr (4 * r + 1)) (f (cr (4 * r)) a)))
  rw [e0, e1, e2, e3]
theorem it16 {α : Type} {f : Int → α → α} (I : α → Prop) (hI : ∀ c a, 0 ≤ c → c < 64 → I a → I (f c a)) (h0 : ∀ c a, 0 ≤ c → c < 64 → ¬ pl c → I a → f c a = a) {a : α} (ha : I a) : itF f 64 0 a = itF (fun k => f (cr k)) 16 0 a := by
  have b1 := itF_I 64 hI 8 0 a (by omega) (by omega) ha
  have b2 := itF_I 64 hI 8 8 _ (by omega) (by omega) b1
  have b3 := itF_I 64 hI 8 16 _ (by omega) (by omega) b2
  have b4 := itF_I 64 hI 8 24 _ (by omega) (by omega) b3
  rw [show (64 : Nat) = 8 + (8 + (8 + (8 + 32))) from rfl, itF_app, itF_app, itF_app, itF_app]
  rw [show (16 : Nat) = 4 + (4 + (4 + 4)) from rfl, itF_app, itF_app, itF_app]
  rw [show (0 : Int) + ((8 : Nat) : Int) = 8 from rfl, show (8 : Int) + ((8 : Nat) : Int) = 16 from rfl, show (16 : Int) + ((8 : Nat) : Int) = 24 from rfl, show (24 : Int) + ((8 : Nat) : Int) = 32 from rfl]
  rw [show (0 : Int) + ((4 : Nat) : Int) = 4 from rfl, show (4 : Int) + ((4 : Nat) : Int) = 8 from rfl, show (8 : Int) + ((4 : Nat) : Int) = 12 from rfl]
  have r0 := it_row hI h0 (r := 0) (by decide) ha
  rw [show (8 : Int) * 0 = 0 from rfl, show (4 : Int) * 0 = 0 from rfl] at r0
  have r1 := it_row hI h0 (r := 1) (by decide) b1
  rw [show (8 : Int) * 1 = 8 from rfl, show (4 : Int) * 1 = 4 from rfl] at r1
  have r2 := it_row hI h0 (r := 2) (by decide) b2
  rw [show (8 : Int) * 2 = 16 from rfl, show (4 : Int) * 2 = 8 from rfl] at r2
  have r3 := it_row hI h0 (r := 3) (by decide) b3
  rw [show (8 : Int) * 3 = 24 from rfl, show (4 : Int) * 3 = 12 from rfl] at r3
  rw [← r0, ← r1, ← r2, ← r3]
  exact itF_z 32 _ _ (fun c h1 h2 => h0 c _ (by omega) (by omega) (by unfold pl; omega) b4)
theorem cnt_it {p : Int → Bool} : ∀ (d : Nat) (c n : Int), cntF p d c n = itF (fun c n => n + bI (p c)) d c n := by
  intro d
  induction d with
  | zero => intro c n; rfl
  | succ d ih => intro c n; rw [cntF, itF, ih]
theorem cnt16 {p : Int → Bool} (h : ∀ c, 0 ≤ c → c < 64 → ¬ pl c → p c = false) : cntF p 64 0 0 = cntF (fun k => p (cr k)) 16 0 0 := by
  rw [cnt_it, cnt_it]
  refine it16 (fun _ => True) (fun _ _ _ _ _ => trivial) (fun c n h1 h2 h3 _ => ?_) trivial
  show n + bI (p c) = n
  rw [h c h1 h2 h3]
  show n + 0 = n
  omega
theorem itF_cg {α : Type} {f g : Int → α → α} : ∀ (d : Nat) (c : Int) (a : α), (∀ e a, c ≤ e → e < c + d → f e a = g e a) → itF f d c a = itF g d c a := by
  intro d
  induction d with
  | zero => intro c a _; rfl
  | succ d ih =>
    intro c a h
    rw [itF, itF, h c a (by omega) (by omega)]
    exact ih _ _ (fun e a h1 h2 => h e a (by omega) (by omega))

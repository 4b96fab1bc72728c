/-! the model: pulses, write-backs, ticks -/
theorem cnt_le {p p' : Int → Bool} (h : ∀ e, p' e = true → p e = true) : ∀ (d : Nat) (c n n' : Int), n' ≤ n → cntF p' d c n' ≤ cntF p d c n := by
  intro d
  induction d with
  | zero => intro c n n' hn; exact hn
  | succ d ih =>
    intro c n n' hn
    simp only [cntF]
    refine ih _ _ _ ?_
    have h1 := bI_01 (p c)
    cases hp : p' c with
    | false => simp only [bI] at h1 ⊢; simp; split at h1 <;> simp_all <;> omega
    | true => rw [h c hp]; omega
theorem WI_mn {z z' : Z} {K : Int} (h : WI z K) (e2 : z' 2 = z 2) (e3 : z' 3 = z 3) (hq : QE z') (hc : ∀ c, 0 ≤ c → c < 64 → (0 ≤ z' (59 + 9 * c + 2) ∧ z' (59 + 9 * c + 2) ≤ 6) ∧ (z' (59 + 9 * c + 4) = z (59 + 9 * c + 4) ∨ z' (59 + 9 * c + 4) = 0)) (hw : 0 ≤ z' 46 ∧ z' 46 ≤ z 46 ∧ 0 ≤ z' 52 ∧ z' 52 ≤ z 52 ∧ 0 ≤ z' 58 ∧ z' 58 ≤ z 58) : WI z' K := by
  obtain ⟨a, b, c, d, e, f, g⟩ := h
  refine ⟨by omega, by omega, hq, fun c h1 h2 => ?_, by omega, ?_, g⟩
  · have := hc c h1 h2
    have := d c h1 h2
    omega
  · have : zCW z' 4 ≤ zCW z 4 := by
      have e1 : zCW z' 4 = cntF (fun c => decide (0 < wr (z' (59 + 9 * c + 4))) && decide (0 ≤ c ∧ c < 64)) 64 0 0 := cnt_cg 64 0 0 (fun e h1 h2 => by simp [show 0 ≤ e ∧ e < 64 by omega])
      rw [e1]
      refine cnt_le (fun e he => ?_) 64 0 0 0 (Int.le_refl _)
      simp only [Bool.and_eq_true, decide_eq_true_eq] at he
      rcases (hc e he.2.1 he.2.2).2 with q | q
      · rw [q] at he; simpa using he.1
      · rw [q] at he; exact absurd he.1 (by decide)
    omega
def zPd (z : Z) (c : Int) : Z := u1 (u1 z (59 + 9 * c + 0) 0) 9 (u1 z (59 + 9 * c + 0) 0 9 + 1)
def zPuF (k : Int) : Nat → Int → Z → Z
  | 0, _, z => z
  | d + 1, c, z => zPuF k d (c + 1) (if (zLin k c && zWk z c) = true then zLo (zPd z c) c else z)
theorem zPu_t {k : Int} {d : Nat} {c : Int} {z : Z} (h1 : zLin k c = true) (h2 : zWk z c = true) : zPuF k d (c + 1) (zLo (zPd z c) c) = zPuF k (d + 1) c z := by rw [zPuF, if_pos (by rw [h1, h2]; rfl)]
theorem zPu_f1 {k : Int} {d : Nat} {c : Int} {z : Z} (h1 : zLin k c = false) : zPuF k d (c + 1) z = zPuF k (d + 1) c z := by rw [zPuF, if_neg (by rw [h1]; simp)]
theorem zPu_f2 {k : Int} {d : Nat} {c : Int} {z : Z} (h1 : zWk z c = false) : zPuF k d (c + 1) z = zPuF k (d + 1) c z := by rw [zPuF, if_neg (by rw [h1]; simp)]
theorem WI_pd {z : Z} {K c : Int} (hc : 0 ≤ c ∧ c < 64) (h : WI z K) : WI (zPd z c) K := WI_u1 (by unfold NW; omega) (WI_u1 (by unfold NW; omega) h)
theorem WI_puF {K k : Int} : ∀ (d : Nat) (c : Int) (z : Z), c + d = 64 → 0 ≤ c → WI z K → WI (zPuF k d c z) K := by
  intro d
  induction d with
  | zero => intro c z _ _ h; exact h
  | succ d ih =>
    intro c z h1 h2 h
    rw [zPuF]
    refine ih _ _ (by omega) (by omega) ?_
    split
    · exact WI_lo ⟨h2, by omega⟩ (WI_pd ⟨h2, by omega⟩ h)
    · exact h
def zPul (z : Z) (k b : Int) : Z := u1 (zPuF k 64 0 (u1 z (59 + 9 * k + 1) (zWorn z k))) 1 (zHeat (zPuF k 64 0 (u1 z (59 + 9 * k + 1) (zWorn z k))) b)
theorem WI_pul {z : Z} {K k b : Int} (hk : 0 ≤ k ∧ k < 64) (h : WI z K) : WI (zPul z k b) K := WI_u1 (by unfold NW; omega) (WI_puF 64 0 _ (by omega) (by omega) (WI_u1 (by unfold NW; omega) h))
theorem nb {b : Bool} (h : b = false) : ¬ b = true := by rw [h]; simp
theorem bff {b : Bool} (h : ¬ b = true) : b = false := by cases b; rfl; exact absurd rfl h
theorem lp_X8_pulse {G : GX} (E : EV G) {m : Mem} {K : Int} {F : FinT} {k b : Int} (h1 : 0 ≤ k ∧ k < 64) : ∀ (d : Nat) (c : Int) (z : Z), c + d = 64 → 0 ≤ c → WI z K → (∀ (x : Z), x = zPuF k d c z → J G SHP iX8_pulse 0 0 F 64 [some (.inr (.ref 197)), some (.inl k), some (.inl b), none] [] (sz m x) 0 0) → J G SHP iX8_pulse 0 0 F 13 [some (.inr (.ref 197)), some (.inl k), some (.inl b), some (.inl c)] [] (sz m z) 0 0 := by
  intro d
  induction d with
  | zero =>
    intro c z g0 g1 g2 kk
    refine j_iload3 (q := 14) dX8_pulse_13 rfl ?_
    refine j_bipush (q := 16) dX8_pulse_14 rfl rfl ?_
    refine j_icmp_ge (tgt := 64) (q := 19) dX8_pulse_16 (by decide) rfl (by first | exact wr_id' (by omega) (by omega) | with_reducible exact wr_bI _ | exact rfl) (by first | exact wr_id' (by omega) (by omega) | with_reducible exact wr_bI _ | exact rfl) (fun h16 => ?_) (fun h16 => ?_)
    · refine j_fgt3 ?_
      exact kk _ rfl
    · omega
  | succ d ih =>
    intro c z g0 g1 g2 kk
    refine j_iload3 (q := 14) dX8_pulse_13 rfl ?_
    refine j_bipush (q := 16) dX8_pulse_14 rfl rfl ?_
    refine j_icmp_ge (tgt := 64) (q := 19) dX8_pulse_16 (by decide) rfl (by first | exact wr_id' (by omega) (by omega) | with_reducible exact wr_bI _ | exact rfl) (by first | exact wr_id' (by omega) (by omega) | with_reducible exact wr_bI _ | exact rfl) (fun h16 => ?_) (fun h16 => ?_)
    · omega
    · refine j_iload1 (q := 20) dX8_pulse_19 rfl ?_
      refine j_iload3 (q := 21) dX8_pulse_20 rfl ?_
      refine j_callS2 (Mc := iX8_areInLine) (q := 24) (c' := 0) (s' := 0) dX8_pulse_21 rfl kS_X8_areInLine jw_1134 ⟨by decide, by decide⟩ rfl (Nat.le_refl _) (Nat.le_refl _) (ct_X8_areInLine E (by omega) (by omega)) ?_
      refine j_ifeq_b (tgt := 58) (q := 27) dX8_pulse_24 (by decide) rfl (fun h24 => ?_) (fun h24 => ?_)
      · refine j_iinc3 (q := 61) dX8_pulse_58 rfl rfl (by decide) ?_
        refine j_goto (tgt := 13) dX8_pulse_61 (by decide) ?_
        exact ih _ _ (by omega) (by omega) (by first | assumption | exact WI_lo ⟨by omega, by omega⟩ (WI_pd ⟨by omega, by omega⟩ g2)) (fun x hx => kk x (hx.trans (by first | exact zPu_t (by assumption) (by assumption) | exact zPu_f1 (by assumption) | exact zPu_f2 (by assumption))))
      · refine j_aload0 (q := 28) dX8_pulse_27 rfl ?_
        refine j_iload3 (q := 29) dX8_pulse_28 rfl ?_
        refine j_callV1 (Mc := iX8_isWeak) (q := 32) (c' := 0) (s' := 0) dX8_pulse_29 rfl kV_X8_isWeak jw_1137 ⟨by decide, by decide⟩ sh_197 rfl rfl rfl (Nat.le_refl _) (Nat.le_refl _) (ct_X8_isWeak E (by omega)) ?_
        refine j_ifeq_b (tgt := 58) (q := 35) dX8_pulse_32 (by decide) rfl (fun h32 => ?_) (fun h32 => ?_)
        · refine j_iinc3 (q := 61) dX8_pulse_58 rfl rfl (by decide) ?_
          refine j_goto (tgt := 13) dX8_pulse_61 (by decide) ?_
          exact ih _ _ (by omega) (by omega) (by first | assumption | exact WI_lo ⟨by omega, by omega⟩ (WI_pd ⟨by omega, by omega⟩ g2)) (fun x hx => kk x (hx.trans (by first | exact zPu_t (by assumption) (by assumption) | exact zPu_f1 (by assumption) | exact zPu_f2 (by assumption))))
        · refine j_aload0 (q := 36) dX8_pulse_35 rfl ?_
          refine j_iload3 (q := 37) dX8_pulse_36 rfl ?_
          refine j_iconst (q := 38) dX8_pulse_37 rfl ?_
          refine j_iconst (q := 39) dX8_pulse_38 rfl ?_
          refine j_callV3v (Mc := iX8_lay) (q := 42) (c' := 0) (s' := 0) dX8_pulse_39 rfl kV_X8_lay jw_980 ⟨by decide, by decide⟩ sh_197 rfl rfl rfl (Nat.le_refl _) (Nat.le_refl _) (ct_X8_lay E (by omega) (by omega)) ?_
          refine j_aload0 (q := 43) dX8_pulse_42 rfl ?_
          refine j_getR 0 (q := 46) dX8_pulse_43 rfl fl_X8_7 sh_197 rfl ?_
          refine j_bipush (q := 48) dX8_pulse_46 rfl rfl ?_
          refine j_dup2 (q := 49) dX8_pulse_48 rfl rfl rfl ?_
          refine j_zload (q := 50) dX8_pulse_49 rfl (by first | exact wr_id' (by omega) (by omega) | with_reducible exact wr_bI _ | exact rfl) (by omega) (by omega) ?_
          refine j_iconst (q := 51) dX8_pulse_50 rfl ?_
          refine j_iadd (q := 52) dX8_pulse_51 rfl ?_
          refine j_zstore (q := 53) dX8_pulse_52 rfl (by first | exact wr_id' (by omega) (by omega) | with_reducible exact wr_bI _ | exact rfl) (by omega) (by omega) ?_
          refine j_mem (m' := sz m (zPd z c)) rfl ?_
          have wp := WI_pd (c := c) ⟨by omega, by omega⟩ g2
          refine j_aload0 (q := 54) dX8_pulse_53 rfl ?_
          refine j_iload3 (q := 55) dX8_pulse_54 rfl ?_
          refine j_callV1v (Mc := iX8_loses) (q := 58) (c' := 0) (s' := 0) dX8_pulse_55 rfl kV_X8_loses jw_1141 ⟨by decide, by decide⟩ sh_197 rfl rfl rfl (Nat.le_refl _) (Nat.le_refl _) (ct_X8_loses E (by omega) (by assumption)) ?_
          refine j_iinc3 (q := 61) dX8_pulse_58 rfl rfl (by decide) ?_
          refine j_goto (tgt := 13) dX8_pulse_61 (by decide) ?_
          exact ih _ _ (by omega) (by omega) (by first | assumption | exact WI_lo ⟨by omega, by omega⟩ (WI_pd ⟨by omega, by omega⟩ g2)) (fun x hx => kk x (hx.trans (by first | exact zPu_t (by assumption) (by assumption) | exact zPu_f1 (by assumption) | exact zPu_f2 (by assumption))))
theorem ct_X8_pulse {G : GX} (E : EV G) {m : Mem} {z : Z} {K : Int} {k : Int} {b : Int} (h1 : 0 ≤ k ∧ k < 64) (hW : WI z K) : CT G SHP iX8_pulse 0 0 [.inr (.ref 197), .inl k, .inl b] (sz m z) none (sz m (zPul z k b)) := by
  refine j_met (L0 := [some (.inr (.ref 197)), some (.inl k), some (.inl b), none]) (by decide) E.1 E.2 rfl (Nat.le_of_ble_eq_true rfl) ?_
  refine j_aload0 (q := 1) dX8_pulse_0 rfl ?_
  refine j_iload1 (q := 2) dX8_pulse_1 rfl ?_
  refine j_iconst (q := 3) dX8_pulse_2 rfl ?_
  refine j_aload0 (q := 4) dX8_pulse_3 rfl ?_
  refine j_iload1 (q := 5) dX8_pulse_4 rfl ?_
  refine j_callV1 (Mc := iX8_worn) (q := 8) (c' := 0) (s' := 0) dX8_pulse_5 rfl kV_X8_worn jw_1127 ⟨by decide, by decide⟩ sh_197 rfl rfl rfl (Nat.le_refl _) (Nat.le_refl _) (ct_X8_worn E (by omega)) ?_
  refine j_callV3v (Mc := iX8_lay) (q := 11) (c' := 0) (s' := 0) dX8_pulse_8 rfl kV_X8_lay jw_980 ⟨by decide, by decide⟩ sh_197 rfl rfl rfl (Nat.le_refl _) (Nat.le_refl _) (ct_X8_lay E (by omega) (by omega)) ?_
  refine j_iconst (q := 12) dX8_pulse_11 rfl ?_
  refine j_istore3 (q := 13) dX8_pulse_12 rfl rfl (by decide) ?_
  have w1 : WI (u1 z (59 + 9 * k + 1) (zWorn z k)) K := WI_u1 (by unfold NW; omega) hW
  refine lp_X8_pulse E h1 64 0 _ (by omega) (by omega) w1 ?_
  intro x hx
  refine j_aload0 (q := 65) dX8_pulse_64 rfl ?_
  refine j_getR 0 (q := 68) dX8_pulse_65 rfl fl_X8_7 sh_197 rfl ?_
  refine j_iconst (q := 69) dX8_pulse_68 rfl ?_
  refine j_aload0 (q := 70) dX8_pulse_69 rfl ?_
  refine j_iload2 (q := 71) dX8_pulse_70 rfl ?_
  refine j_callV1 (Mc := iX8_heated) (q := 74) (c' := 0) (s' := 0) dX8_pulse_71 rfl kV_X8_heated jw_1145 ⟨by decide, by decide⟩ sh_197 rfl rfl rfl (Nat.le_refl _) (Nat.le_refl _) (ct_X8_heated E) ?_
  refine j_zstore (q := 75) dX8_pulse_74 rfl (by first | exact wr_id' (by omega) (by omega) | with_reducible exact wr_bI _ | exact rfl) (by omega) (by omega) ?_
  exact j_return dX8_pulse_75 rfl (by rw [hx]; rfl)
def zWr2 (z : Z) (c b : Int) : Z := u1 z (59 + 9 * c + 0) (if wr (z (59 + 9 * c + 1)) < wr (z (15 + 4)) then 0 else b)
def zWr3 (z : Z) (c : Int) : Z := if zOw z c = true then u1 (u1 z (59 + 9 * c + 6) 0) 10 (u1 z (59 + 9 * c + 6) 0 10 + 1) else z
def zWr (z : Z) (c b : Int) : Z := zWr3 (zWr2 (zPul z c (z (15 + 1))) c b) c
def zRd1 (z : Z) (c : Int) : Z := u1 (zPul z c (z (15 + 2))) 4 (zPul z c (z (15 + 2)) 4 + 1)
def zRd2 (z : Z) (c : Int) : Z :=
  let z1 := u1 z (59 + 9 * c + 0) 0
  let z2 := u1 z1 (59 + 9 * c + 6) (z1 0 + z1 (15 + 3) + 1)
  let z3 := u1 z2 (59 + 9 * c + 7) (z2 14)
  let z4 := u1 z3 14 (z3 14 + 1)
  u1 z4 5 (z4 5 + 1)
def zRd (z : Z) (c : Int) : Z := if wr (zRd1 z c (59 + 9 * c + 0)) = 1 then zRd2 (zRd1 z c) c else zRd1 z c
theorem WI_wr {z : Z} {K c b : Int} (hc : 0 ≤ c ∧ c < 64) (h : WI z K) : WI (zWr z c b) K := by
  have h1 : WI (zWr2 (zPul z c (z (15 + 1))) c b) K := WI_u1 (by unfold NW; omega) (WI_pul hc h)
  unfold zWr zWr3
  split
  · exact WI_u1 (by unfold NW; omega) (WI_u1 (by unfold NW; omega) h1)
  · exact h1
theorem WI_rd {z : Z} {K c : Int} (hc : 0 ≤ c ∧ c < 64) (h : WI z K) : WI (zRd z c) K := by
  have h1 : WI (zRd1 z c) K := WI_u1 (by unfold NW; omega) (WI_pul hc h)
  unfold zRd
  split
  · exact WI_u1 (by unfold NW; omega) (WI_u1 (by unfold NW; omega) (WI_u1 (by unfold NW; omega) (WI_u1 (by unfold NW; omega) (WI_u1 (by unfold NW; omega) h1))))
  · exact h1
theorem ct_X8_writes {G : GX} (E : EV G) {m : Mem} {z : Z} {K : Int} {c : Int} {b : Int} (h1 : 0 ≤ c ∧ c < 64) (hW : WI z K) : CT G SHP iX8_writes 0 0 [.inr (.ref 197), .inl c, .inl b] (sz m z) (some (.inl (zWr z c b (59 + 9 * c + 0)))) (sz m (zWr z c b)) := by
  refine j_met (L0 := [some (.inr (.ref 197)), some (.inl c), some (.inl b)]) (by decide) E.1 E.2 rfl (Nat.le_of_ble_eq_true rfl) ?_
  refine j_aload0 (q := 1) dX8_writes_0 rfl ?_
  refine j_iload1 (q := 2) dX8_writes_1 rfl ?_
  refine j_aload0 (q := 3) dX8_writes_2 rfl ?_
  refine j_iconst (q := 4) dX8_writes_3 rfl ?_
  refine j_callV1 (Mc := iX8_rule) (q := 7) (c' := 0) (s' := 0) dX8_writes_4 rfl kV_X8_rule jw_1057 ⟨by decide, by decide⟩ sh_197 rfl rfl rfl (Nat.le_refl _) (Nat.le_refl _) (ct_X8_rule E (by omega)) ?_
  refine j_callV2v (Mc := iX8_pulse) (q := 10) (c' := 0) (s' := 0) dX8_writes_7 rfl kV_X8_pulse jw_1123 ⟨by decide, by decide⟩ sh_197 rfl rfl rfl (Nat.le_refl _) (Nat.le_refl _) (ct_X8_pulse E (by omega) (by assumption)) ?_
  have w1 := WI_pul (b := z (15 + 1)) h1 hW
  refine j_aload0 (q := 11) dX8_writes_10 rfl ?_
  refine j_iload1 (q := 12) dX8_writes_11 rfl ?_
  refine j_iconst (q := 13) dX8_writes_12 rfl ?_
  refine j_aload0 (q := 14) dX8_writes_13 rfl ?_
  refine j_iload1 (q := 15) dX8_writes_14 rfl ?_
  refine j_iconst (q := 16) dX8_writes_15 rfl ?_
  refine j_callV2 (Mc := iX8_of) (q := 19) (c' := 0) (s' := 0) dX8_writes_16 rfl kV_X8_of jw_1079 ⟨by decide, by decide⟩ sh_197 rfl rfl rfl (Nat.le_refl _) (Nat.le_refl _) (ct_X8_of E (by omega) (by omega)) ?_
  refine j_aload0 (q := 20) dX8_writes_19 rfl ?_
  refine j_iconst (q := 21) dX8_writes_20 rfl ?_
  refine j_callV1 (Mc := iX8_rule) (q := 24) (c' := 0) (s' := 0) dX8_writes_21 rfl kV_X8_rule jw_1057 ⟨by decide, by decide⟩ sh_197 rfl rfl rfl (Nat.le_refl _) (Nat.le_refl _) (ct_X8_rule E (by omega)) ?_
  refine j_icmp_ge (tgt := 31) (q := 27) dX8_writes_24 (by decide) rfl rfl rfl (fun h24 => ?_) (fun h24 => ?_)
  · refine j_iload2 (q := 32) dX8_writes_31 rfl ?_
    refine j_callV3v (Mc := iX8_lay) (q := 35) (c' := 0) (s' := 0) dX8_writes_32 rfl kV_X8_lay jw_980 ⟨by decide, by decide⟩ sh_197 rfl rfl rfl (Nat.le_refl _) (Nat.le_refl _) (ct_X8_lay E (by omega) (by omega)) ?_
    refine j_mem (m' := sz m (zWr2 (zPul z c (z (15 + 1))) c b)) (by first | rw [zWr2, if_neg (by omega)] | rw [zWr2, if_pos (by omega)]) ?_
    refine j_aload0 (q := 36) dX8_writes_35 rfl ?_
    refine j_iload1 (q := 37) dX8_writes_36 rfl ?_
    refine j_callV1 (Mc := iX8_isOwed) (q := 40) (c' := 0) (s' := 0) dX8_writes_37 rfl kV_X8_isOwed jw_1152 ⟨by decide, by decide⟩ sh_197 rfl rfl rfl (Nat.le_refl _) (Nat.le_refl _) (ct_X8_isOwed E (by omega)) ?_
    refine j_ifeq_b (tgt := 62) (q := 43) dX8_writes_40 (by decide) rfl (fun h40 => ?_) (fun h40 => ?_)
    · refine j_aload0 (q := 63) dX8_writes_62 rfl ?_
      refine j_iload1 (q := 64) dX8_writes_63 rfl ?_
      refine j_iconst (q := 65) dX8_writes_64 rfl ?_
      refine j_callV2 (Mc := iX8_of) (q := 68) (c' := 0) (s' := 0) dX8_writes_65 rfl kV_X8_of jw_1079 ⟨by decide, by decide⟩ sh_197 rfl rfl rfl (Nat.le_refl _) (Nat.le_refl _) (ct_X8_of E (by omega) (by omega)) ?_
      exact j_ireturn dX8_writes_68 rfl (by first | rw [zWr, zWr3, if_pos (by assumption)] | rw [zWr, zWr3, if_neg (nb (by assumption))]) (by first | rw [zWr, zWr3, if_pos (by assumption)] | rw [zWr, zWr3, if_neg (nb (by assumption))])
    · refine j_aload0 (q := 44) dX8_writes_43 rfl ?_
      refine j_iload1 (q := 45) dX8_writes_44 rfl ?_
      refine j_bipush (q := 47) dX8_writes_45 rfl rfl ?_
      refine j_iconst (q := 48) dX8_writes_47 rfl ?_
      refine j_callV3v (Mc := iX8_lay) (q := 51) (c' := 0) (s' := 0) dX8_writes_48 rfl kV_X8_lay jw_980 ⟨by decide, by decide⟩ sh_197 rfl rfl rfl (Nat.le_refl _) (Nat.le_refl _) (ct_X8_lay E (by omega) (by omega)) ?_
      refine j_aload0 (q := 52) dX8_writes_51 rfl ?_
      refine j_getR 0 (q := 55) dX8_writes_52 rfl fl_X8_7 sh_197 rfl ?_
      refine j_bipush (q := 57) dX8_writes_55 rfl rfl ?_
      refine j_dup2 (q := 58) dX8_writes_57 rfl rfl rfl ?_
      refine j_zload (q := 59) dX8_writes_58 rfl (by first | exact wr_id' (by omega) (by omega) | with_reducible exact wr_bI _ | exact rfl) (by omega) (by omega) ?_
      refine j_iconst (q := 60) dX8_writes_59 rfl ?_
      refine j_iadd (q := 61) dX8_writes_60 rfl ?_
      refine j_zstore (q := 62) dX8_writes_61 rfl (by first | exact wr_id' (by omega) (by omega) | with_reducible exact wr_bI _ | exact rfl) (by omega) (by omega) ?_
      refine j_aload0 (q := 63) dX8_writes_62 rfl ?_
      refine j_iload1 (q := 64) dX8_writes_63 rfl ?_
      refine j_iconst (q := 65) dX8_writes_64 rfl ?_
      refine j_callV2 (Mc := iX8_of) (q := 68) (c' := 0) (s' := 0) dX8_writes_65 rfl kV_X8_of jw_1079 ⟨by decide, by decide⟩ sh_197 rfl rfl rfl (Nat.le_refl _) (Nat.le_refl _) (ct_X8_of E (by omega) (by omega)) ?_
      exact j_ireturn dX8_writes_68 rfl (by first | rw [zWr, zWr3, if_pos (by assumption)] | rw [zWr, zWr3, if_neg (nb (by assumption))]) (by first | rw [zWr, zWr3, if_pos (by assumption)] | rw [zWr, zWr3, if_neg (nb (by assumption))])
  · refine j_iconst (q := 28) dX8_writes_27 rfl ?_
    refine j_goto (tgt := 32) dX8_writes_28 (by decide) ?_
    refine j_callV3v (Mc := iX8_lay) (q := 35) (c' := 0) (s' := 0) dX8_writes_32 rfl kV_X8_lay jw_980 ⟨by decide, by decide⟩ sh_197 rfl rfl rfl (Nat.le_refl _) (Nat.le_refl _) (ct_X8_lay E (by omega) (by omega)) ?_
    refine j_mem (m' := sz m (zWr2 (zPul z c (z (15 + 1))) c b)) (by first | rw [zWr2, if_neg (by omega)] | rw [zWr2, if_pos (by omega)]) ?_
    refine j_aload0 (q := 36) dX8_writes_35 rfl ?_
    refine j_iload1 (q := 37) dX8_writes_36 rfl ?_
    refine j_callV1 (Mc := iX8_isOwed) (q := 40) (c' := 0) (s' := 0) dX8_writes_37 rfl kV_X8_isOwed jw_1152 ⟨by decide, by decide⟩ sh_197 rfl rfl rfl (Nat.le_refl _) (Nat.le_refl _) (ct_X8_isOwed E (by omega)) ?_
    refine j_ifeq_b (tgt := 62) (q := 43) dX8_writes_40 (by decide) rfl (fun h40 => ?_) (fun h40 => ?_)
    · refine j_aload0 (q := 63) dX8_writes_62 rfl ?_
      refine j_iload1 (q := 64) dX8_writes_63 rfl ?_
      refine j_iconst (q := 65) dX8_writes_64 rfl ?_
      refine j_callV2 (Mc := iX8_of) (q := 68) (c' := 0) (s' := 0) dX8_writes_65 rfl kV_X8_of jw_1079 ⟨by decide, by decide⟩ sh_197 rfl rfl rfl (Nat.le_refl _) (Nat.le_refl _) (ct_X8_of E (by omega) (by omega)) ?_
      exact j_ireturn dX8_writes_68 rfl (by first | rw [zWr, zWr3, if_pos (by assumption)] | rw [zWr, zWr3, if_neg (nb (by assumption))]) (by first | rw [zWr, zWr3, if_pos (by assumption)] | rw [zWr, zWr3, if_neg (nb (by assumption))])
    · refine j_aload0 (q := 44) dX8_writes_43 rfl ?_
      refine j_iload1 (q := 45) dX8_writes_44 rfl ?_
      refine j_bipush (q := 47) dX8_writes_45 rfl rfl ?_
      refine j_iconst (q := 48) dX8_writes_47 rfl ?_
      refine j_callV3v (Mc := iX8_lay) (q := 51) (c' := 0) (s' := 0) dX8_writes_48 rfl kV_X8_lay jw_980 ⟨by decide, by decide⟩ sh_197 rfl rfl rfl (Nat.le_refl _) (Nat.le_refl _) (ct_X8_lay E (by omega) (by omega)) ?_
      refine j_aload0 (q := 52) dX8_writes_51 rfl ?_
      refine j_getR 0 (q := 55) dX8_writes_52 rfl fl_X8_7 sh_197 rfl ?_
      refine j_bipush (q := 57) dX8_writes_55 rfl rfl ?_
      refine j_dup2 (q := 58) dX8_writes_57 rfl rfl rfl ?_
      refine j_zload (q := 59) dX8_writes_58 rfl (by first | exact wr_id' (by omega) (by omega) | with_reducible exact wr_bI _ | exact rfl) (by omega) (by omega) ?_
      refine j_iconst (q := 60) dX8_writes_59 rfl ?_
      refine j_iadd (q := 61) dX8_writes_60 rfl ?_
      refine j_zstore (q := 62) dX8_writes_61 rfl (by first | exact wr_id' (by omega) (by omega) | with_reducible exact wr_bI _ | exact rfl) (by omega) (by omega) ?_
      refine j_aload0 (q := 63) dX8_writes_62 rfl ?_
      refine j_iload1 (q := 64) dX8_writes_63 rfl ?_
      refine j_iconst (q := 65) dX8_writes_64 rfl ?_
      refine j_callV2 (Mc := iX8_of) (q := 68) (c' := 0) (s' := 0) dX8_writes_65 rfl kV_X8_of jw_1079 ⟨by decide, by decide⟩ sh_197 rfl rfl rfl (Nat.le_refl _) (Nat.le_refl _) (ct_X8_of E (by omega) (by omega)) ?_
      exact j_ireturn dX8_writes_68 rfl (by first | rw [zWr, zWr3, if_pos (by assumption)] | rw [zWr, zWr3, if_neg (nb (by assumption))]) (by first | rw [zWr, zWr3, if_pos (by assumption)] | rw [zWr, zWr3, if_neg (nb (by assumption))])
theorem ct_X8_reads {G : GX} (E : EV G) {m : Mem} {z : Z} {K : Int} {c : Int} (h1 : 0 ≤ c ∧ c < 64) (hW : WI z K) : CT G SHP iX8_reads 0 0 [.inr (.ref 197), .inl c] (sz m z) (some (.inl (zRd1 z c (59 + 9 * c + 0)))) (sz m (zRd z c)) := by
  refine j_met (L0 := [some (.inr (.ref 197)), some (.inl c), none]) (by decide) E.1 E.2 rfl (Nat.le_of_ble_eq_true rfl) ?_
  refine j_aload0 (q := 1) dX8_reads_0 rfl ?_
  refine j_iload1 (q := 2) dX8_reads_1 rfl ?_
  refine j_aload0 (q := 3) dX8_reads_2 rfl ?_
  refine j_iconst (q := 4) dX8_reads_3 rfl ?_
  refine j_callV1 (Mc := iX8_rule) (q := 7) (c' := 0) (s' := 0) dX8_reads_4 rfl kV_X8_rule jw_1057 ⟨by decide, by decide⟩ sh_197 rfl rfl rfl (Nat.le_refl _) (Nat.le_refl _) (ct_X8_rule E (by omega)) ?_
  refine j_callV2v (Mc := iX8_pulse) (q := 10) (c' := 0) (s' := 0) dX8_reads_7 rfl kV_X8_pulse jw_1123 ⟨by decide, by decide⟩ sh_197 rfl rfl rfl (Nat.le_refl _) (Nat.le_refl _) (ct_X8_pulse E (by omega) (by assumption)) ?_
  refine j_aload0 (q := 11) dX8_reads_10 rfl ?_
  refine j_getR 0 (q := 14) dX8_reads_11 rfl fl_X8_7 sh_197 rfl ?_
  refine j_iconst (q := 15) dX8_reads_14 rfl ?_
  refine j_dup2 (q := 16) dX8_reads_15 rfl rfl rfl ?_
  refine j_zload (q := 17) dX8_reads_16 rfl (by first | exact wr_id' (by omega) (by omega) | with_reducible exact wr_bI _ | exact rfl) (by omega) (by omega) ?_
  refine j_iconst (q := 18) dX8_reads_17 rfl ?_
  refine j_iadd (q := 19) dX8_reads_18 rfl ?_
  refine j_zstore (q := 20) dX8_reads_19 rfl (by first | exact wr_id' (by omega) (by omega) | with_reducible exact wr_bI _ | exact rfl) (by omega) (by omega) ?_
  refine j_mem (m' := sz m (zRd1 z c)) rfl ?_
  refine j_aload0 (q := 21) dX8_reads_20 rfl ?_
  refine j_iload1 (q := 22) dX8_reads_21 rfl ?_
  refine j_iconst (q := 23) dX8_reads_22 rfl ?_
  refine j_callV2 (Mc := iX8_of) (q := 26) (c' := 0) (s' := 0) dX8_reads_23 rfl kV_X8_of jw_1079 ⟨by decide, by decide⟩ sh_197 rfl rfl rfl (Nat.le_refl _) (Nat.le_refl _) (ct_X8_of E (by omega) (by omega)) ?_
  refine j_istore2 (q := 27) dX8_reads_26 rfl rfl (by decide) ?_
  refine j_iload2 (q := 28) dX8_reads_27 rfl ?_
  refine j_iconst (q := 29) dX8_reads_28 rfl ?_
  refine j_icmp_ne (tgt := 95) (q := 32) dX8_reads_29 (by decide) rfl rfl (by first | exact wr_id' (by omega) (by omega) | with_reducible exact wr_bI _ | exact rfl) (fun h29 => ?_) (fun h29 => ?_)
  · refine j_iload2 (q := 96) dX8_reads_95 rfl ?_
    exact j_ireturn dX8_reads_96 rfl (rfl) (by first | (rw [zRd, if_pos (by omega)]; done) | (rw [zRd, if_pos (by omega)]; rfl) | rw [zRd, if_neg (by omega)])
  · refine j_aload0 (q := 33) dX8_reads_32 rfl ?_
    refine j_iload1 (q := 34) dX8_reads_33 rfl ?_
    refine j_iconst (q := 35) dX8_reads_34 rfl ?_
    refine j_iconst (q := 36) dX8_reads_35 rfl ?_
    refine j_callV3v (Mc := iX8_lay) (q := 39) (c' := 0) (s' := 0) dX8_reads_36 rfl kV_X8_lay jw_980 ⟨by decide, by decide⟩ sh_197 rfl rfl rfl (Nat.le_refl _) (Nat.le_refl _) (ct_X8_lay E (by omega) (by omega)) ?_
    refine j_aload0 (q := 40) dX8_reads_39 rfl ?_
    refine j_iload1 (q := 41) dX8_reads_40 rfl ?_
    refine j_bipush (q := 43) dX8_reads_41 rfl rfl ?_
    refine j_aload0 (q := 44) dX8_reads_43 rfl ?_
    refine j_getR 0 (q := 47) dX8_reads_44 rfl fl_X8_7 sh_197 rfl ?_
    refine j_iconst (q := 48) dX8_reads_47 rfl ?_
    refine j_zload (q := 49) dX8_reads_48 rfl (by first | exact wr_id' (by omega) (by omega) | with_reducible exact wr_bI _ | exact rfl) (by omega) (by omega) ?_
    refine j_aload0 (q := 50) dX8_reads_49 rfl ?_
    refine j_iconst (q := 51) dX8_reads_50 rfl ?_
    refine j_callV1 (Mc := iX8_rule) (q := 54) (c' := 0) (s' := 0) dX8_reads_51 rfl kV_X8_rule jw_1057 ⟨by decide, by decide⟩ sh_197 rfl rfl rfl (Nat.le_refl _) (Nat.le_refl _) (ct_X8_rule E (by omega)) ?_
    refine j_iadd (q := 55) dX8_reads_54 rfl ?_
    refine j_iconst (q := 56) dX8_reads_55 rfl ?_
    refine j_iadd (q := 57) dX8_reads_56 rfl ?_
    refine j_callV3v (Mc := iX8_lay) (q := 60) (c' := 0) (s' := 0) dX8_reads_57 rfl kV_X8_lay jw_980 ⟨by decide, by decide⟩ sh_197 rfl rfl rfl (Nat.le_refl _) (Nat.le_refl _) (ct_X8_lay E (by omega) (by omega)) ?_
    refine j_aload0 (q := 61) dX8_reads_60 rfl ?_
    refine j_iload1 (q := 62) dX8_reads_61 rfl ?_
    refine j_bipush (q := 64) dX8_reads_62 rfl rfl ?_
    refine j_aload0 (q := 65) dX8_reads_64 rfl ?_
    refine j_getR 0 (q := 68) dX8_reads_65 rfl fl_X8_7 sh_197 rfl ?_
    refine j_bipush (q := 70) dX8_reads_68 rfl rfl ?_
    refine j_zload (q := 71) dX8_reads_70 rfl (by first | exact wr_id' (by omega) (by omega) | with_reducible exact wr_bI _ | exact rfl) (by omega) (by omega) ?_
    refine j_callV3v (Mc := iX8_lay) (q := 74) (c' := 0) (s' := 0) dX8_reads_71 rfl kV_X8_lay jw_980 ⟨by decide, by decide⟩ sh_197 rfl rfl rfl (Nat.le_refl _) (Nat.le_refl _) (ct_X8_lay E (by omega) (by omega)) ?_
    refine j_aload0 (q := 75) dX8_reads_74 rfl ?_
    refine j_getR 0 (q := 78) dX8_reads_75 rfl fl_X8_7 sh_197 rfl ?_
    refine j_bipush (q := 80) dX8_reads_78 rfl rfl ?_
    refine j_dup2 (q := 81) dX8_reads_80 rfl rfl rfl ?_
    refine j_zload (q := 82) dX8_reads_81 rfl (by first | exact wr_id' (by omega) (by omega) | with_reducible exact wr_bI _ | exact rfl) (by omega) (by omega) ?_
    refine j_iconst (q := 83) dX8_reads_82 rfl ?_
    refine j_iadd (q := 84) dX8_reads_83 rfl ?_
    refine j_zstore (q := 85) dX8_reads_84 rfl (by first | exact wr_id' (by omega) (by omega) | with_reducible exact wr_bI _ | exact rfl) (by omega) (by omega) ?_
    refine j_aload0 (q := 86) dX8_reads_85 rfl ?_
    refine j_getR 0 (q := 89) dX8_reads_86 rfl fl_X8_7 sh_197 rfl ?_
    refine j_iconst (q := 90) dX8_reads_89 rfl ?_
    refine j_dup2 (q := 91) dX8_reads_90 rfl rfl rfl ?_
    refine j_zload (q := 92) dX8_reads_91 rfl (by first | exact wr_id' (by omega) (by omega) | with_reducible exact wr_bI _ | exact rfl) (by omega) (by omega) ?_
    refine j_iconst (q := 93) dX8_reads_92 rfl ?_
    refine j_iadd (q := 94) dX8_reads_93 rfl ?_
    refine j_zstore (q := 95) dX8_reads_94 rfl (by first | exact wr_id' (by omega) (by omega) | with_reducible exact wr_bI _ | exact rfl) (by omega) (by omega) ?_
    refine j_iload2 (q := 96) dX8_reads_95 rfl ?_
    exact j_ireturn dX8_reads_96 rfl (rfl) (by first | (rw [zRd, if_pos (by omega)]; done) | (rw [zRd, if_pos (by omega)]; rfl) | rw [zRd, if_neg (by omega)])
def so (m : Mem) (o : Int → Int) : Mem := fun k => if k = 205 then o else m k
theorem so_at {m : Mem} {o : Int → Int} : so m o 205 = o := rfl
theorem up_so {m : Mem} {o : Int → Int} {i v : Int} : up (so m o) 205 i v = so m (u1 o i v) := by
  funext k j
  unfold up so u1
  by_cases h : k = 205
  · subst h
    by_cases h2 : j = i <;> simp [h2]
  · simp [h]
theorem so_self {m : Mem} : so m (m 205) = m := by
  funext k
  unfold so
  by_cases h : k = 205
  · simp [h]
  · simp [h]
theorem so_so {m : Mem} {a b : Int → Int} : so (so m a) b = so m b := by
  funext k
  unfold so
  by_cases h : k = 205
  · simp [h]
  · simp [h]
/-- an owed core put into the order -/
def zInF (z : Z) (c : Int) : Nat → (Int → Int) → (Int → Int)
  | 0, o => u1 o 0 c
  | k + 1, o => if zAhead z c (o (k : Int)) = true then zInF z c k (u1 o ((k + 1 : Nat) : Int) (o (k : Int))) else u1 o ((k + 1 : Nat) : Int) c
def zLaF (z : Z) : Nat → Int → Nat → (Int → Int) → (Int → Int) × Nat
  | 0, _, n, o => (o, n)
  | d + 1, c, n, o => if zOw z c = true then zLaF z d (c + 1) (n + 1) (zInF z c n o) else zLaF z d (c + 1) n o
def zOrd (z : Z) (o : Int → Int) : Int → Int := (zLaF z 64 0 0 o).1
def zOrN (z : Z) (o : Int → Int) : Int := ((zLaF z 64 0 0 o).2 : Int)
/-- the first n of an order are cores -/
def OE (o : Int → Int) (n : Nat) : Prop := ∀ j : Int, 0 ≤ j → j < n → 0 ≤ o j ∧ o j < 64
theorem OE_in {z : Z} {c : Int} (hc : 0 ≤ c ∧ c < 64) : ∀ (k : Nat) (o : Int → Int), (∀ j : Int, 0 ≤ j → j < k → 0 ≤ o j ∧ o j < 64) → ∀ j : Int, 0 ≤ j → j < k + 1 → 0 ≤ zInF z c k o j ∧ zInF z c k o j < 64 := by
  intro k
  induction k with
  | zero => intro o h j h1 h2; rw [zInF, show j = 0 by omega, u1_at]; exact hc
  | succ k ih =>
    intro o h j h1 h2
    rw [zInF]
    split
    · by_cases hj : j < k + 1
      · refine ih _ (fun i h3 h4 => ?_) j h1 hj
        rw [u1_ne (by omega)]; exact h i h3 (by omega)
      · have : ∀ (k : Nat) (o : Int → Int) (j : Int), (k : Int) < j → zInF z c k o j = o j := by
          intro k
          induction k with
          | zero => intro o j hj; rw [zInF, u1_ne (by omega)]
          | succ k ih =>
            intro o j hj
            rw [zInF]
            split
            · rw [ih _ _ (by omega), u1_ne (by omega)]
            · rw [u1_ne (by omega)]
        rw [this k _ j (by omega), show j = ((k + 1 : Nat) : Int) by omega, u1_at]
        exact h _ (by omega) (by omega)
    · by_cases hj : j = ((k + 1 : Nat) : Int)
      · rw [hj, u1_at]; exact hc
      · rw [u1_ne hj]; exact h j h1 (by omega)
theorem zLa_b (z : Z) : ∀ (d : Nat) (c : Int) (n : Nat) (o : Int → Int), 0 ≤ c → c + d = 64 → (n : Int) ≤ c → OE o n → OE (zLaF z d c n o).1 (zLaF z d c n o).2 ∧ (zLaF z d c n o).2 ≤ 64 := by
  intro d
  induction d with
  | zero => intro c n o h0 h1 h2 h3; exact ⟨h3, by show n ≤ 64; omega⟩
  | succ d ih =>
    intro c n o h0 h1 h2 h3
    rw [zLaF]
    split
    · exact ih _ _ _ (by omega) (by omega) (by omega) (OE_in ⟨h0, by omega⟩ n o h3)
    · exact ih _ _ _ (by omega) (by omega) (by omega) h3
theorem zOr_b (z : Z) (o : Int → Int) : OE (zOrd z o) (zOrN z o).toNat ∧ 0 ≤ zOrN z o ∧ zOrN z o ≤ 64 := by
  have h := zLa_b z 64 0 0 o (by omega) (by omega) (by omega) (fun j h1 h2 => by omega)
  unfold zOrd zOrN
  exact ⟨by simpa using h.1, by omega, by omega⟩
theorem j_cg {G : GX} {sh : List SH} {M : MI} {mc ms : Nat} {F : FinT} {pc : Nat} {L L' : List (Option PV)} {S S' : List PV} {m m' : Mem} {k n : Nat} (hL : L = L') (hS : S = S') (hm : m = m') (kk : J G sh M mc ms F pc L' S' m' k n) : J G sh M mc ms F pc L S m k n := by subst hL; subst hS; subst hm; exact kk
def zInM (z : Z) (c : Int) : Nat → Mem → Mem
  | 0, m => up m 205 ((0 : Nat) : Int) c
  | k + 1, m => if zAhead z c (m 205 (k : Int)) = true then zInM z c k (up m 205 ((k + 1 : Nat) : Int) (m 205 (k : Int))) else up m 205 ((k + 1 : Nat) : Int) c
def zLaM (z : Z) : Nat → Int → Nat → Mem → Mem × Nat
  | 0, _, n, m => (m, n)
  | d + 1, c, n, m => if zOw z c = true then zLaM z d (c + 1) (n + 1) (zInM z c n m) else zLaM z d (c + 1) n m
theorem up_so' {m : Mem} {i v : Int} : up m 205 i v = so m (u1 (m 205) i v) := by rw [← up_so, so_self]
theorem zInM_so (z : Z) (c : Int) : ∀ (k : Nat) (m : Mem), zInM z c k m = so m (zInF z c k (m 205)) := by
  intro k
  induction k with
  | zero => intro m; rw [zInM, zInF, up_so']; rfl
  | succ k ih =>
    intro m
    rw [zInM, zInF]
    split
    · rw [ih, up_so', so_so]; rfl
    · rw [up_so']
theorem zLaM_so (z : Z) : ∀ (d : Nat) (c : Int) (n : Nat) (m : Mem), (zLaM z d c n m).1 = so m (zLaF z d c n (m 205)).1 ∧ (zLaM z d c n m).2 = (zLaF z d c n (m 205)).2 := by
  intro d
  induction d with
  | zero => intro c n m; exact ⟨so_self.symm, rfl⟩
  | succ d ih =>
    intro c n m
    rw [zLaM, zLaF]
    split
    · have h := ih (c + 1) (n + 1) (zInM z c n m)
      rw [zInM_so] at h ⊢
      rw [so_so] at h
      exact h
    · exact ih _ _ _
theorem zInM_o {z : Z} {c : Int} {k : Nat} {m : Mem} : zInM z c k m 205 = zInF z c k (m 205) := by rw [zInM_so]; rfl
theorem lp_X8_layOwed_in {G : GX} (E : EV G) {z : Z} {F : FinT} {n c : Int} (h1 : 0 ≤ c ∧ c < 64) : ∀ (d : Nat) (m : Mem), d < 64 → OE (m 205) d → (∀ (x : Mem), x = zInM z c d m → J G SHP iX8_layOwed 0 0 F 67 [some (.inr (.ref 197)), some (.inl n), some (.inl c), none] [] (sz x z) 0 0) → J G SHP iX8_layOwed 0 0 F 20 [some (.inr (.ref 197)), some (.inl n), some (.inl c), some (.inl (d : Int))] [] (sz m z) 0 0 := by
  intro d
  induction d with
  | zero =>
    intro m g0 g1 kk
    refine j_iload3 (q := 21) dX8_layOwed_20 rfl ?_
    refine j_if_le (tgt := 60) (q := 24) dX8_layOwed_21 (by decide) rfl (by first | exact wr_id' (by omega) (by omega) | with_reducible exact wr_bI _ | exact rfl) (fun h21 => ?_) (fun h21 => ?_)
    · refine j_aload0 (q := 61) dX8_layOwed_60 rfl ?_
      refine j_getR 7 (q := 64) dX8_layOwed_61 rfl fl_X8_31 sh_197 rfl ?_
      refine j_iload3 (q := 65) dX8_layOwed_64 rfl ?_
      refine j_iload2 (q := 66) dX8_layOwed_65 rfl ?_
      refine j_nstore (q := 67) (by decide) dX8_layOwed_66 rfl sh_205 (by first | exact wr_id' (by omega) (by omega) | with_reducible exact wr_bI _ | exact rfl) (by omega) (by omega) ?_
      refine j_fgt3 ?_
      exact kk _ rfl
    · omega
  | succ d ih =>
    intro m g0 g1 kk
    refine j_iload3 (q := 21) dX8_layOwed_20 rfl ?_
    refine j_if_le (tgt := 60) (q := 24) dX8_layOwed_21 (by decide) rfl (by first | exact wr_id' (by omega) (by omega) | with_reducible exact wr_bI _ | exact rfl) (fun h21 => ?_) (fun h21 => ?_)
    · omega
    · refine j_aload0 (q := 25) dX8_layOwed_24 rfl ?_
      refine j_iload2 (q := 26) dX8_layOwed_25 rfl ?_
      refine j_aload0 (q := 27) dX8_layOwed_26 rfl ?_
      refine j_getR 7 (q := 30) dX8_layOwed_27 rfl fl_X8_31 sh_197 rfl ?_
      refine j_iload3 (q := 31) dX8_layOwed_30 rfl ?_
      refine j_iconst (q := 32) dX8_layOwed_31 rfl ?_
      refine j_isub (q := 33) dX8_layOwed_32 rfl ?_
      refine j_nload (q := 34) (by decide) dX8_layOwed_33 rfl sh_205 (i' := (d : Int)) (by rw [wr_id' (by omega) (by omega)]; omega) (by omega) (by omega) ?_
      have hb := g1 (d : Int) (by omega) (by omega)
      refine j_callV2 (Mc := iX8_comesAhead) (q := 37) (c' := 0) (s' := 0) dX8_layOwed_34 rfl kV_X8_comesAhead jw_1184 ⟨by decide, by decide⟩ sh_197 rfl rfl rfl (Nat.le_refl _) (Nat.le_refl _) (ct_X8_comesAhead E (by omega) (by omega)) ?_
      refine j_ifeq_b (tgt := 60) (q := 40) dX8_layOwed_37 (by decide) rfl (fun h37 => ?_) (fun h37 => ?_)
      · refine j_aload0 (q := 61) dX8_layOwed_60 rfl ?_
        refine j_getR 7 (q := 64) dX8_layOwed_61 rfl fl_X8_31 sh_197 rfl ?_
        refine j_iload3 (q := 65) dX8_layOwed_64 rfl ?_
        refine j_iload2 (q := 66) dX8_layOwed_65 rfl ?_
        refine j_nstore (q := 67) (by decide) dX8_layOwed_66 rfl sh_205 (by first | exact wr_id' (by omega) (by omega) | with_reducible exact wr_bI _ | exact rfl) (by omega) (by omega) ?_
        refine j_mem (m' := sz (zInM z c (d + 1) m) z) (by rw [zInM, if_neg (nb (by assumption))]) ?_
        refine j_fgt3 ?_
        exact kk _ rfl
      · refine j_aload0 (q := 41) dX8_layOwed_40 rfl ?_
        refine j_getR 7 (q := 44) dX8_layOwed_41 rfl fl_X8_31 sh_197 rfl ?_
        refine j_iload3 (q := 45) dX8_layOwed_44 rfl ?_
        refine j_aload0 (q := 46) dX8_layOwed_45 rfl ?_
        refine j_getR 7 (q := 49) dX8_layOwed_46 rfl fl_X8_31 sh_197 rfl ?_
        refine j_iload3 (q := 50) dX8_layOwed_49 rfl ?_
        refine j_iconst (q := 51) dX8_layOwed_50 rfl ?_
        refine j_isub (q := 52) dX8_layOwed_51 rfl ?_
        refine j_nload (q := 53) (by decide) dX8_layOwed_52 rfl sh_205 (i' := (d : Int)) (by rw [wr_id' (by omega) (by omega)]; omega) (by omega) (by omega) ?_
        refine j_nstore (q := 54) (by decide) dX8_layOwed_53 rfl sh_205 (by first | exact wr_id' (by omega) (by omega) | with_reducible exact wr_bI _ | exact rfl) (by omega) (by omega) ?_
        refine j_iinc3 (q := 57) dX8_layOwed_54 rfl rfl (by decide) ?_
        refine j_cg (L' := [some (.inr (.ref 197)), some (.inl n), some (.inl c), some (.inl (d : Int))]) (by rw [show ((d + 1 : Nat) : Int) + -1 = (d : Int) by omega]) rfl rfl ?_
        refine j_goto (tgt := 20) dX8_layOwed_57 (by decide) ?_
        exact ih _ (by omega) (fun j q1 q2 => by show 0 ≤ up m 205 ((d + 1 : Nat) : Int) (m 205 (d : Int)) 205 j ∧ _ < 64; rw [up_so', so_at, u1_ne (by omega)]; exact g1 j q1 (by omega)) (fun x hx => kk x (hx.trans (by rw [zInM, if_pos (by assumption)])))
theorem lp_X8_layOwed {G : GX} (E : EV G) {z : Z} : ∀ (d : Nat) (c : Int) (n : Nat) (m : Mem), c + d = 64 → 0 ≤ c → n ≤ c → OE (m 205) n → J G SHP iX8_layOwed 0 0 (FN G SHP 0 0 (some (.inl ((zLaM z d c n m).2 : Int))) (sz (zLaM z d c n m).1 z)) 4 [some (.inr (.ref 197)), some (.inl (n : Int)), some (.inl c), none] [] (sz m z) 0 0 := by
  intro d
  induction d with
  | zero =>
    intro c n m g0 g1 g2 g3
    refine j_iload2 (q := 5) dX8_layOwed_4 rfl ?_
    refine j_bipush (q := 7) dX8_layOwed_5 rfl rfl ?_
    refine j_icmp_ge (tgt := 76) (q := 10) dX8_layOwed_7 (by decide) rfl (by first | exact wr_id' (by omega) (by omega) | with_reducible exact wr_bI _ | exact rfl) (by first | exact wr_id' (by omega) (by omega) | with_reducible exact wr_bI _ | exact rfl) (fun h7 => ?_) (fun h7 => ?_)
    · refine j_iload1 (q := 77) dX8_layOwed_76 rfl ?_
      exact j_ireturn dX8_layOwed_77 rfl (rfl) (rfl)
    · omega
  | succ d ih =>
    intro c n m g0 g1 g2 g3
    refine j_iload2 (q := 5) dX8_layOwed_4 rfl ?_
    refine j_bipush (q := 7) dX8_layOwed_5 rfl rfl ?_
    refine j_icmp_ge (tgt := 76) (q := 10) dX8_layOwed_7 (by decide) rfl (by first | exact wr_id' (by omega) (by omega) | with_reducible exact wr_bI _ | exact rfl) (by first | exact wr_id' (by omega) (by omega) | with_reducible exact wr_bI _ | exact rfl) (fun h7 => ?_) (fun h7 => ?_)
    · omega
    · refine j_aload0 (q := 11) dX8_layOwed_10 rfl ?_
      refine j_iload2 (q := 12) dX8_layOwed_11 rfl ?_
      refine j_callV1 (Mc := iX8_isOwed) (q := 15) (c' := 0) (s' := 0) dX8_layOwed_12 rfl kV_X8_isOwed jw_1152 ⟨by decide, by decide⟩ sh_197 rfl rfl rfl (Nat.le_refl _) (Nat.le_refl _) (ct_X8_isOwed E (by omega)) ?_
      refine j_ifeq_b (tgt := 70) (q := 18) dX8_layOwed_15 (by decide) rfl (fun h15 => ?_) (fun h15 => ?_)
      · refine j_iinc2 (q := 73) dX8_layOwed_70 rfl rfl (by decide) ?_
        refine j_goto (tgt := 4) dX8_layOwed_73 (by decide) ?_
        exact j_fin (by first | rw [zLaM, if_pos (by assumption)] | rw [zLaM, if_neg (nb (by assumption))]) (by first | rw [zLaM, if_pos (by assumption)] | rw [zLaM, if_neg (nb (by assumption))]) (ih _ _ _ (by omega) (by omega) (by omega) (by first | assumption | (rw [zInM_o]; exact OE_in ⟨by omega, by omega⟩ n _ g3)))
      · refine j_iload1 (q := 19) dX8_layOwed_18 rfl ?_
        refine j_istore3 (q := 20) dX8_layOwed_19 rfl rfl (by decide) ?_
        refine lp_X8_layOwed_in E (c := c) ⟨by omega, by omega⟩ n m (by omega) g3 ?_
        intro x hx
        subst hx
        refine j_iinc1 (q := 70) dX8_layOwed_67 rfl rfl (by decide) ?_
        refine j_cg (L' := [some (.inr (.ref 197)), some (.inl ((n + 1 : Nat) : Int)), some (.inl c), none]) (by rw [show ((n + 1 : Nat) : Int) = (n : Int) + 1 by omega]) rfl rfl ?_
        refine j_iinc2 (q := 73) dX8_layOwed_70 rfl rfl (by decide) ?_
        refine j_goto (tgt := 4) dX8_layOwed_73 (by decide) ?_
        exact j_fin (by first | rw [zLaM, if_pos (by assumption)] | rw [zLaM, if_neg (nb (by assumption))]) (by first | rw [zLaM, if_pos (by assumption)] | rw [zLaM, if_neg (nb (by assumption))]) (ih _ _ _ (by omega) (by omega) (by omega) (by first | assumption | (rw [zInM_o]; exact OE_in ⟨by omega, by omega⟩ n _ g3)))
theorem ct_X8_layOwed {G : GX} (E : EV G) {m : Mem} {z : Z} : CT G SHP iX8_layOwed 0 0 [.inr (.ref 197)] (sz m z) (some (.inl (zOrN z (m 205)))) (sz (so m (zOrd z (m 205))) z) := by
  refine j_met (L0 := [some (.inr (.ref 197)), none, none, none]) (by decide) E.1 E.2 rfl (Nat.le_of_ble_eq_true rfl) ?_
  refine j_iconst (q := 1) dX8_layOwed_0 rfl ?_
  refine j_istore1 (q := 2) dX8_layOwed_1 rfl rfl (by decide) ?_
  refine j_iconst (q := 3) dX8_layOwed_2 rfl ?_
  refine j_istore2 (q := 4) dX8_layOwed_3 rfl rfl (by decide) ?_
  exact j_fin (by show _ = some (Sum.inl (((zLaF z 64 0 0 (m 205)).2 : Nat) : Int)); rw [← (zLaM_so z 64 0 0 m).2]) (by show _ = sz (so m (zLaF z 64 0 0 (m 205)).1) z; rw [← (zLaM_so z 64 0 0 m).1]) (lp_X8_layOwed E 64 0 0 m (by omega) (by omega) (by omega) (fun j q1 q2 => by omega))
def zWbA (z : Z) (c : Int) : Z := zPul (u1 z (59 + 9 * c + 6) 0) c (u1 z (59 + 9 * c + 6) 0 (15 + 1))
def zWb (z : Z) (c : Int) : Z :=
  if wr (zWbA z c (15 + 4)) ≤ wr (zWbA z c (59 + 9 * c + 1)) then u1 (u1 (zWbA z c) (59 + 9 * c + 0) 1) 6 (u1 (zWbA z c) (59 + 9 * c + 0) 1 6 + 1)
  else zLo (u1 (zWbA z c) 7 (zWbA z c 7 + 1)) c
theorem WI_wbA {z : Z} {K c : Int} (hc : 0 ≤ c ∧ c < 64) (h : WI z K) : WI (zWbA z c) K := WI_pul hc (WI_u1 (by unfold NW; omega) h)
theorem WI_wb {z : Z} {K c : Int} (hc : 0 ≤ c ∧ c < 64) (h : WI z K) : WI (zWb z c) K := by
  have h1 := WI_wbA hc h
  unfold zWb
  split
  · exact WI_u1 (by unfold NW; omega) (WI_u1 (by unfold NW; omega) h1)
  · exact WI_lo hc (WI_u1 (by unfold NW; omega) h1)
theorem ct_X8_writesBack {G : GX} (E : EV G) {m : Mem} {z : Z} {K : Int} (hW : WI z K) (hn : 0 < zOrN z (m 205)) : CT G SHP iX8_writesBack 0 0 [.inr (.ref 197)] (sz m z) (some (.inl (zOrd z (m 205) 0))) (sz (so m (zOrd z (m 205))) (zWb z (zOrd z (m 205) 0))) := by
  refine j_met (L0 := [some (.inr (.ref 197)), none]) (by decide) E.1 E.2 rfl (Nat.le_of_ble_eq_true rfl) ?_
  refine j_aload0 (q := 1) dX8_writesBack_0 rfl ?_
  refine j_callV0 (Mc := iX8_layOwed) (q := 4) (c' := 0) (s' := 0) dX8_writesBack_1 rfl kV_X8_layOwed jw_1180 ⟨by decide, by decide⟩ sh_197 rfl rfl rfl (Nat.le_refl _) (Nat.le_refl _) (ct_X8_layOwed E) ?_
  refine j_pop (q := 5) dX8_writesBack_4 rfl rfl ?_
  refine j_aload0 (q := 6) dX8_writesBack_5 rfl ?_
  refine j_getR 7 (q := 9) dX8_writesBack_6 rfl fl_X8_31 sh_197 rfl ?_
  refine j_iconst (q := 10) dX8_writesBack_9 rfl ?_
  refine j_nload (q := 11) (by decide) dX8_writesBack_10 rfl sh_205 (by first | exact wr_id' (by omega) (by omega) | with_reducible exact wr_bI _ | exact rfl) (by omega) (by omega) ?_
  refine j_istore1 (q := 12) dX8_writesBack_11 rfl rfl (by decide) ?_
  have hb := (zOr_b z (m 205)).1 0 (by omega) (by omega)
  have hc0 : 0 ≤ zOrd z (m 205) 0 ∧ zOrd z (m 205) 0 < 64 := hb
  refine j_cg (L' := [some (.inr (.ref 197)), some (.inl (zOrd z (m 205) 0))]) rfl rfl rfl ?_
  refine j_aload0 (q := 13) dX8_writesBack_12 rfl ?_
  refine j_iload1 (q := 14) dX8_writesBack_13 rfl ?_
  refine j_bipush (q := 16) dX8_writesBack_14 rfl rfl ?_
  refine j_iconst (q := 17) dX8_writesBack_16 rfl ?_
  refine j_callV3v (Mc := iX8_lay) (q := 20) (c' := 0) (s' := 0) dX8_writesBack_17 rfl kV_X8_lay jw_980 ⟨by decide, by decide⟩ sh_197 rfl rfl rfl (Nat.le_refl _) (Nat.le_refl _) (ct_X8_lay E (by omega) (by omega)) ?_
  have w0 : WI (u1 z (59 + 9 * zOrd z (m 205) 0 + 6) 0) K := WI_u1 (by unfold NW; omega) hW
  refine j_aload0 (q := 21) dX8_writesBack_20 rfl ?_
  refine j_iload1 (q := 22) dX8_writesBack_21 rfl ?_
  refine j_aload0 (q := 23) dX8_writesBack_22 rfl ?_
  refine j_iconst (q := 24) dX8_writesBack_23 rfl ?_
  refine j_callV1 (Mc := iX8_rule) (q := 27) (c' := 0) (s' := 0) dX8_writesBack_24 rfl kV_X8_rule jw_1057 ⟨by decide, by decide⟩ sh_197 rfl rfl rfl (Nat.le_refl _) (Nat.le_refl _) (ct_X8_rule E (by omega)) ?_
  refine j_callV2v (Mc := iX8_pulse) (q := 30) (c' := 0) (s' := 0) dX8_writesBack_27 rfl kV_X8_pulse jw_1123 ⟨by decide, by decide⟩ sh_197 rfl rfl rfl (Nat.le_refl _) (Nat.le_refl _) (ct_X8_pulse E (by omega) (by assumption)) ?_
  refine j_mem (m' := sz (so m (zOrd z (m 205))) (zWbA z (zOrd z (m 205) 0))) rfl ?_
  have w1 := WI_wbA hc0 hW
  refine j_aload0 (q := 31) dX8_writesBack_30 rfl ?_
  refine j_iload1 (q := 32) dX8_writesBack_31 rfl ?_
  refine j_iconst (q := 33) dX8_writesBack_32 rfl ?_
  refine j_callV2 (Mc := iX8_of) (q := 36) (c' := 0) (s' := 0) dX8_writesBack_33 rfl kV_X8_of jw_1079 ⟨by decide, by decide⟩ sh_197 rfl rfl rfl (Nat.le_refl _) (Nat.le_refl _) (ct_X8_of E (by omega) (by omega)) ?_
  refine j_aload0 (q := 37) dX8_writesBack_36 rfl ?_
  refine j_iconst (q := 38) dX8_writesBack_37 rfl ?_
  refine j_callV1 (Mc := iX8_rule) (q := 41) (c' := 0) (s' := 0) dX8_writesBack_38 rfl kV_X8_rule jw_1057 ⟨by decide, by decide⟩ sh_197 rfl rfl rfl (Nat.le_refl _) (Nat.le_refl _) (ct_X8_rule E (by omega)) ?_
  refine j_icmp_lt (tgt := 65) (q := 44) dX8_writesBack_41 (by decide) rfl rfl rfl (fun h41 => ?_) (fun h41 => ?_)
  · refine j_aload0 (q := 66) dX8_writesBack_65 rfl ?_
    refine j_getR 0 (q := 69) dX8_writesBack_66 rfl fl_X8_7 sh_197 rfl ?_
    refine j_bipush (q := 71) dX8_writesBack_69 rfl rfl ?_
    refine j_dup2 (q := 72) dX8_writesBack_71 rfl rfl rfl ?_
    refine j_zload (q := 73) dX8_writesBack_72 rfl (by first | exact wr_id' (by omega) (by omega) | with_reducible exact wr_bI _ | exact rfl) (by omega) (by omega) ?_
    refine j_iconst (q := 74) dX8_writesBack_73 rfl ?_
    refine j_iadd (q := 75) dX8_writesBack_74 rfl ?_
    refine j_zstore (q := 76) dX8_writesBack_75 rfl (by first | exact wr_id' (by omega) (by omega) | with_reducible exact wr_bI _ | exact rfl) (by omega) (by omega) ?_
    have w2 : WI (u1 (zWbA z (zOrd z (m 205) 0)) 7 (zWbA z (zOrd z (m 205) 0) 7 + 1)) K := WI_u1 (by unfold NW; omega) w1
    refine j_aload0 (q := 77) dX8_writesBack_76 rfl ?_
    refine j_iload1 (q := 78) dX8_writesBack_77 rfl ?_
    refine j_callV1v (Mc := iX8_loses) (q := 81) (c' := 0) (s' := 0) dX8_writesBack_78 rfl kV_X8_loses jw_1141 ⟨by decide, by decide⟩ sh_197 rfl rfl rfl (Nat.le_refl _) (Nat.le_refl _) (ct_X8_loses E (by omega) (by assumption)) ?_
    refine j_iload1 (q := 82) dX8_writesBack_81 rfl ?_
    exact j_ireturn dX8_writesBack_82 rfl (rfl) (by first | (rw [zWb, if_pos (by omega)]; done) | rw [zWb, if_neg (by omega)])
  · refine j_aload0 (q := 45) dX8_writesBack_44 rfl ?_
    refine j_iload1 (q := 46) dX8_writesBack_45 rfl ?_
    refine j_iconst (q := 47) dX8_writesBack_46 rfl ?_
    refine j_iconst (q := 48) dX8_writesBack_47 rfl ?_
    refine j_callV3v (Mc := iX8_lay) (q := 51) (c' := 0) (s' := 0) dX8_writesBack_48 rfl kV_X8_lay jw_980 ⟨by decide, by decide⟩ sh_197 rfl rfl rfl (Nat.le_refl _) (Nat.le_refl _) (ct_X8_lay E (by omega) (by omega)) ?_
    refine j_aload0 (q := 52) dX8_writesBack_51 rfl ?_
    refine j_getR 0 (q := 55) dX8_writesBack_52 rfl fl_X8_7 sh_197 rfl ?_
    refine j_bipush (q := 57) dX8_writesBack_55 rfl rfl ?_
    refine j_dup2 (q := 58) dX8_writesBack_57 rfl rfl rfl ?_
    refine j_zload (q := 59) dX8_writesBack_58 rfl (by first | exact wr_id' (by omega) (by omega) | with_reducible exact wr_bI _ | exact rfl) (by omega) (by omega) ?_
    refine j_iconst (q := 60) dX8_writesBack_59 rfl ?_
    refine j_iadd (q := 61) dX8_writesBack_60 rfl ?_
    refine j_zstore (q := 62) dX8_writesBack_61 rfl (by first | exact wr_id' (by omega) (by omega) | with_reducible exact wr_bI _ | exact rfl) (by omega) (by omega) ?_
    refine j_goto (tgt := 81) dX8_writesBack_62 (by decide) ?_
    refine j_iload1 (q := 82) dX8_writesBack_81 rfl ?_
    exact j_ireturn dX8_writesBack_82 rfl (rfl) (by first | (rw [zWb, if_pos (by omega)]; done) | rw [zWb, if_neg (by omega)])
def zEp1 (z : Z) (c : Int) : Z :=
  let z1 := u1 z (59 + 9 * c + 5) (z (59 + 9 * c + 5) - 1)
  u1 z1 (59 + 9 * c + 4) (if wr (z1 (59 + 9 * c + 5)) = 0 then 0 else z1 (59 + 9 * c + 4))
def zEp (z : Z) (c : Int) : Z := if 0 < wr (z (59 + 9 * c + 4)) then zEp1 z c else z
def zEpF : Nat → Int → Z → Z
  | 0, _, z => z
  | d + 1, c, z => zEpF d (c + 1) (zEp z c)
def zEl1 (z : Z) (c : Int) : Z := u1 z (59 + 9 * c + 3) (z (59 + 9 * c + 3) - 1)
def zEl2 (z : Z) (c : Int) : Z :=
  let z2 := u1 z (59 + 9 * c + 2) 0
  u1 (u1 z2 11 (z2 11 + bI (zOw z2 c))) (59 + 9 * c + 6) 0
def zEl (z : Z) (c : Int) : Z := if zLs z c = true then (if wr (zEl1 z c (59 + 9 * c + 3)) = 0 then zEl2 (zEl1 z c) c else zEl1 z c) else z
def zElF : Nat → Int → Z → Z
  | 0, _, z => z
  | d + 1, c, z => zElF d (c + 1) (zEl z c)
theorem WI_ep {z : Z} {K c : Int} (hc : 0 ≤ c ∧ c < 64) (h : WI z K) : WI (zEp z c) K := by
  unfold zEp
  split
  · have h1 : WI (u1 z (59 + 9 * c + 5) (z (59 + 9 * c + 5) - 1)) K := WI_u1 (by unfold NW; omega) h
    have hw := h1.2.2.2.2.1
    refine WI_mn h1 (u1_ne (by omega)) (u1_ne (by omega)) (fun k q1 q2 => by rw [zEp1, u1_ne (by omega)]; exact h1.2.2.1 k q1 q2) (fun e q1 q2 => ?_) ?_
    · have hd := h1.2.2.2.1 e q1 q2
      have e1 : zEp1 z c (59 + 9 * e + 2) = u1 z (59 + 9 * c + 5) (z (59 + 9 * c + 5) - 1) (59 + 9 * e + 2) := u1_ne (by omega)
      refine ⟨by rw [e1]; exact hd.1, ?_⟩
      by_cases he : e = c
      · subst he
        rw [zEp1, u1_at]
        split
        · exact Or.inr rfl
        · exact Or.inl rfl
      · exact Or.inl (u1_ne (by omega))
    · have e0 : ∀ j, j < 59 → zEp1 z c j = u1 z (59 + 9 * c + 5) (z (59 + 9 * c + 5) - 1) j := fun j hj => by rw [zEp1, u1_ne (by omega)]
      rw [e0 46 (by omega), e0 52 (by omega), e0 58 (by omega)]; omega
  · exact h
theorem WI_el {z : Z} {K c : Int} (hc : 0 ≤ c ∧ c < 64) (h : WI z K) : WI (zEl z c) K := by
  unfold zEl
  split
  · have h1 : WI (zEl1 z c) K := WI_u1 (by unfold NW; omega) h
    split
    · have hw := h1.2.2.2.2.1
      have e0 : ∀ j, ¬ j = 11 → ¬ j = 59 + 9 * c + 2 → ¬ j = 59 + 9 * c + 6 → zEl2 (zEl1 z c) c j = zEl1 z c j := fun j a b d => by
        rw [zEl2, u1_ne (by omega), u1_ne (by omega), u1_ne (by omega)]
      refine WI_mn h1 (e0 _ (by omega) (by omega) (by omega)) (e0 _ (by omega) (by omega) (by omega)) (fun k q1 q2 => by rw [e0 _ (by omega) (by omega) (by omega)]; exact h1.2.2.1 k q1 q2) (fun e q1 q2 => ⟨?_, Or.inl (e0 _ (by omega) (by omega) (by omega))⟩) ?_
      · have hd := h1.2.2.2.1 e q1 q2
        by_cases he : e = c
        · subst he
          rw [zEl2, u1_ne (by omega), u1_ne (by omega), u1_at]; omega
        · rw [e0 _ (by omega) (by omega) (by omega)]; exact hd.1
      · rw [e0 _ (by omega) (by omega) (by omega), e0 _ (by omega) (by omega) (by omega), e0 _ (by omega) (by omega) (by omega)]; omega
    · exact h1
  · exact h
theorem WI_epF {K : Int} : ∀ (d : Nat) (c : Int) (z : Z), c + d = 64 → 0 ≤ c → WI z K → WI (zEpF d c z) K := by
  intro d
  induction d with
  | zero => intro c z _ _ h; exact h
  | succ d ih => intro c z h1 h2 h; exact ih _ _ (by omega) (by omega) (WI_ep ⟨h2, by omega⟩ h)
theorem WI_elF {K : Int} : ∀ (d : Nat) (c : Int) (z : Z), c + d = 64 → 0 ≤ c → WI z K → WI (zElF d c z) K := by
  intro d
  induction d with
  | zero => intro c z _ _ h; exact h
  | succ d ih => intro c z h1 h2 h; exact ih _ _ (by omega) (by omega) (WI_el ⟨h2, by omega⟩ h)
def zLtF (o : Int → Int) : Nat → Int → Z → Z
  | 0, _, z => z
  | d + 1, k, z => zLtF o d (k + 1) (if wr (z (59 + 9 * o k + 6) - 1) < wr (z 0) then zLo (u1 (u1 z (59 + 9 * o k + 6) 0) 8 (u1 z (59 + 9 * o k + 6) 0 8 + 1)) (o k) else z)
theorem WI_ltF {K : Int} (o : Int → Int) (n : Nat) (ho : OE o n) : ∀ (d : Nat) (k : Int) (z : Z), k + d = n → 0 ≤ k → WI z K → WI (zLtF o d k z) K := by
  intro d
  induction d with
  | zero => intro c z _ _ h; exact h
  | succ d ih =>
    intro k z h1 h2 h
    have hb := ho k h2 (by omega)
    refine ih _ _ (by omega) (by omega) ?_
    split
    · exact WI_lo hb (WI_u1 (by unfold NW; omega) (WI_u1 (by unfold NW; omega) h))
    · exact h
def zTk0 (z : Z) : Z := u1 (u1 z 0 (z 0 + 1)) 1 (zNB (u1 z 0 (z 0 + 1) 1 - u1 z 0 (z 0 + 1) (15 + 6)))
def zTk1 (z : Z) (o : Int → Int) : Z := zLtF (zOrd (zTk0 z) o) (zOrN (zTk0 z) o).toNat 0 (zTk0 z)
def zTk (z : Z) (o : Int → Int) : Z := zElF 64 0 (zEpF 64 0 (zTk1 z o))
theorem WI_tk0 {z : Z} {K : Int} (h : WI z K) : WI (zTk0 z) K := WI_u1 (by unfold NW; omega) (WI_u1 (by unfold NW; omega) h)
theorem WI_tk1 {z : Z} {K : Int} {o : Int → Int} (h : WI z K) : WI (zTk1 z o) K := by
  have hb := zOr_b (zTk0 z) o
  exact WI_ltF _ (zOrN (zTk0 z) o).toNat hb.1 _ _ _ (by omega) (by omega) (WI_tk0 h)
theorem WI_tk {z : Z} {K : Int} {o : Int → Int} (h : WI z K) : WI (zTk z o) K := WI_elF 64 0 _ (by omega) (by omega) (WI_epF 64 0 _ (by omega) (by omega) (WI_tk1 h))
theorem lp_X8_endPolicies {G : GX} (E : EV G) {m : Mem} {F : FinT} : ∀ (d : Nat) (c : Int) (z : Z), c + d = 64 → 0 ≤ c → (∀ (x : Z), x = zEpF d c z → J G SHP iX8_endPolicies 0 0 F 62 [some (.inr (.ref 197)), none] [] (sz m x) 0 0) → J G SHP iX8_endPolicies 0 0 F 2 [some (.inr (.ref 197)), some (.inl c)] [] (sz m z) 0 0 := by
  intro d
  induction d with
  | zero =>
    intro c z g0 g1 kk
    refine j_iload1 (q := 3) dX8_endPolicies_2 rfl ?_
    refine j_bipush (q := 5) dX8_endPolicies_3 rfl rfl ?_
    refine j_icmp_ge (tgt := 62) (q := 8) dX8_endPolicies_5 (by decide) rfl (by first | exact wr_id' (by omega) (by omega) | with_reducible exact wr_bI _ | exact rfl) (by first | exact wr_id' (by omega) (by omega) | with_reducible exact wr_bI _ | exact rfl) (fun h5 => ?_) (fun h5 => ?_)
    · refine j_fgt1 ?_
      exact kk _ rfl
    · omega
  | succ d ih =>
    intro c z g0 g1 kk
    refine j_iload1 (q := 3) dX8_endPolicies_2 rfl ?_
    refine j_bipush (q := 5) dX8_endPolicies_3 rfl rfl ?_
    refine j_icmp_ge (tgt := 62) (q := 8) dX8_endPolicies_5 (by decide) rfl (by first | exact wr_id' (by omega) (by omega) | with_reducible exact wr_bI _ | exact rfl) (by first | exact wr_id' (by omega) (by omega) | with_reducible exact wr_bI _ | exact rfl) (fun h5 => ?_) (fun h5 => ?_)
    · omega
    · refine j_aload0 (q := 9) dX8_endPolicies_8 rfl ?_
      refine j_iload1 (q := 10) dX8_endPolicies_9 rfl ?_
      refine j_iconst (q := 11) dX8_endPolicies_10 rfl ?_
      refine j_callV2 (Mc := iX8_of) (q := 14) (c' := 0) (s' := 0) dX8_endPolicies_11 rfl kV_X8_of jw_1079 ⟨by decide, by decide⟩ sh_197 rfl rfl rfl (Nat.le_refl _) (Nat.le_refl _) (ct_X8_of E (by omega) (by omega)) ?_
      refine j_if_le (tgt := 56) (q := 17) dX8_endPolicies_14 (by decide) rfl rfl (fun h14 => ?_) (fun h14 => ?_)
      · first | refine j_mem (m' := sz m (zEp1 z c)) (by simp only [zEp1]; first | rw [if_pos (by omega)] | rw [if_neg (by omega)]) ?_ | skip
        refine j_iinc1 (q := 59) dX8_endPolicies_56 rfl rfl (by decide) ?_
        refine j_goto (tgt := 2) dX8_endPolicies_59 (by decide) ?_
        exact ih _ _ (by omega) (by omega) (fun x hx => kk x (hx.trans (by first | (rw [zEpF, zEp, if_pos (by omega)]; done) | (rw [zEpF, zEp, if_neg (by omega)]; done))))
      · refine j_aload0 (q := 18) dX8_endPolicies_17 rfl ?_
        refine j_iload1 (q := 19) dX8_endPolicies_18 rfl ?_
        refine j_iconst (q := 20) dX8_endPolicies_19 rfl ?_
        refine j_aload0 (q := 21) dX8_endPolicies_20 rfl ?_
        refine j_iload1 (q := 22) dX8_endPolicies_21 rfl ?_
        refine j_iconst (q := 23) dX8_endPolicies_22 rfl ?_
        refine j_callV2 (Mc := iX8_of) (q := 26) (c' := 0) (s' := 0) dX8_endPolicies_23 rfl kV_X8_of jw_1079 ⟨by decide, by decide⟩ sh_197 rfl rfl rfl (Nat.le_refl _) (Nat.le_refl _) (ct_X8_of E (by omega) (by omega)) ?_
        refine j_iconst (q := 27) dX8_endPolicies_26 rfl ?_
        refine j_isub (q := 28) dX8_endPolicies_27 rfl ?_
        refine j_callV3v (Mc := iX8_lay) (q := 31) (c' := 0) (s' := 0) dX8_endPolicies_28 rfl kV_X8_lay jw_980 ⟨by decide, by decide⟩ sh_197 rfl rfl rfl (Nat.le_refl _) (Nat.le_refl _) (ct_X8_lay E (by omega) (by omega)) ?_
        refine j_aload0 (q := 32) dX8_endPolicies_31 rfl ?_
        refine j_iload1 (q := 33) dX8_endPolicies_32 rfl ?_
        refine j_iconst (q := 34) dX8_endPolicies_33 rfl ?_
        refine j_aload0 (q := 35) dX8_endPolicies_34 rfl ?_
        refine j_iload1 (q := 36) dX8_endPolicies_35 rfl ?_
        refine j_iconst (q := 37) dX8_endPolicies_36 rfl ?_
        refine j_callV2 (Mc := iX8_of) (q := 40) (c' := 0) (s' := 0) dX8_endPolicies_37 rfl kV_X8_of jw_1079 ⟨by decide, by decide⟩ sh_197 rfl rfl rfl (Nat.le_refl _) (Nat.le_refl _) (ct_X8_of E (by omega) (by omega)) ?_
        refine j_if_ne (tgt := 47) (q := 43) dX8_endPolicies_40 (by decide) rfl rfl (fun h40 => ?_) (fun h40 => ?_)
        · refine j_aload0 (q := 48) dX8_endPolicies_47 rfl ?_
          refine j_iload1 (q := 49) dX8_endPolicies_48 rfl ?_
          refine j_iconst (q := 50) dX8_endPolicies_49 rfl ?_
          refine j_callV2 (Mc := iX8_of) (q := 53) (c' := 0) (s' := 0) dX8_endPolicies_50 rfl kV_X8_of jw_1079 ⟨by decide, by decide⟩ sh_197 rfl rfl rfl (Nat.le_refl _) (Nat.le_refl _) (ct_X8_of E (by omega) (by omega)) ?_
          refine j_callV3v (Mc := iX8_lay) (q := 56) (c' := 0) (s' := 0) dX8_endPolicies_53 rfl kV_X8_lay jw_980 ⟨by decide, by decide⟩ sh_197 rfl rfl rfl (Nat.le_refl _) (Nat.le_refl _) (ct_X8_lay E (by omega) (by omega)) ?_
          first | refine j_mem (m' := sz m (zEp1 z c)) (by simp only [zEp1]; first | rw [if_pos (by omega)] | rw [if_neg (by omega)]) ?_ | skip
          refine j_iinc1 (q := 59) dX8_endPolicies_56 rfl rfl (by decide) ?_
          refine j_goto (tgt := 2) dX8_endPolicies_59 (by decide) ?_
          exact ih _ _ (by omega) (by omega) (fun x hx => kk x (hx.trans (by first | (rw [zEpF, zEp, if_pos (by omega)]; done) | (rw [zEpF, zEp, if_neg (by omega)]; done))))
        · refine j_iconst (q := 44) dX8_endPolicies_43 rfl ?_
          refine j_goto (tgt := 53) dX8_endPolicies_44 (by decide) ?_
          refine j_callV3v (Mc := iX8_lay) (q := 56) (c' := 0) (s' := 0) dX8_endPolicies_53 rfl kV_X8_lay jw_980 ⟨by decide, by decide⟩ sh_197 rfl rfl rfl (Nat.le_refl _) (Nat.le_refl _) (ct_X8_lay E (by omega) (by omega)) ?_
          first | refine j_mem (m' := sz m (zEp1 z c)) (by simp only [zEp1]; first | rw [if_pos (by omega)] | rw [if_neg (by omega)]) ?_ | skip
          refine j_iinc1 (q := 59) dX8_endPolicies_56 rfl rfl (by decide) ?_
          refine j_goto (tgt := 2) dX8_endPolicies_59 (by decide) ?_
          exact ih _ _ (by omega) (by omega) (fun x hx => kk x (hx.trans (by first | (rw [zEpF, zEp, if_pos (by omega)]; done) | (rw [zEpF, zEp, if_neg (by omega)]; done))))
theorem ct_X8_endPolicies {G : GX} (E : EV G) {m : Mem} {z : Z} : CT G SHP iX8_endPolicies 0 0 [.inr (.ref 197)] (sz m z) none (sz m (zEpF 64 0 z)) := by
  refine j_met (L0 := [some (.inr (.ref 197)), none]) (by decide) E.1 E.2 rfl (Nat.le_of_ble_eq_true rfl) ?_
  refine j_iconst (q := 1) dX8_endPolicies_0 rfl ?_
  refine j_istore1 (q := 2) dX8_endPolicies_1 rfl rfl (by decide) ?_
  refine lp_X8_endPolicies E 64 0 z (by omega) (by omega) ?_
  intro x hx
  exact j_return dX8_endPolicies_62 rfl (by rw [hx])
theorem lp_X8_endLeases {G : GX} (E : EV G) {m : Mem} {F : FinT} : ∀ (d : Nat) (c : Int) (z : Z), c + d = 64 → 0 ≤ c → (∀ (x : Z), x = zElF d c z → J G SHP iX8_endLeases 0 0 F 83 [some (.inr (.ref 197)), none] [] (sz m x) 0 0) → J G SHP iX8_endLeases 0 0 F 2 [some (.inr (.ref 197)), some (.inl c)] [] (sz m z) 0 0 := by
  intro d
  induction d with
  | zero =>
    intro c z g0 g1 kk
    refine j_iload1 (q := 3) dX8_endLeases_2 rfl ?_
    refine j_bipush (q := 5) dX8_endLeases_3 rfl rfl ?_
    refine j_icmp_ge (tgt := 83) (q := 8) dX8_endLeases_5 (by decide) rfl (by first | exact wr_id' (by omega) (by omega) | with_reducible exact wr_bI _ | exact rfl) (by first | exact wr_id' (by omega) (by omega) | with_reducible exact wr_bI _ | exact rfl) (fun h5 => ?_) (fun h5 => ?_)
    · refine j_fgt1 ?_
      exact kk _ rfl
    · omega
  | succ d ih =>
    intro c z g0 g1 kk
    refine j_iload1 (q := 3) dX8_endLeases_2 rfl ?_
    refine j_bipush (q := 5) dX8_endLeases_3 rfl rfl ?_
    refine j_icmp_ge (tgt := 83) (q := 8) dX8_endLeases_5 (by decide) rfl (by first | exact wr_id' (by omega) (by omega) | with_reducible exact wr_bI _ | exact rfl) (by first | exact wr_id' (by omega) (by omega) | with_reducible exact wr_bI _ | exact rfl) (fun h5 => ?_) (fun h5 => ?_)
    · omega
    · refine j_aload0 (q := 9) dX8_endLeases_8 rfl ?_
      refine j_iload1 (q := 10) dX8_endLeases_9 rfl ?_
      refine j_callV1 (Mc := iX8_isLeased) (q := 13) (c' := 0) (s' := 0) dX8_endLeases_10 rfl kV_X8_isLeased jw_1075 ⟨by decide, by decide⟩ sh_197 rfl rfl rfl (Nat.le_refl _) (Nat.le_refl _) (ct_X8_isLeased E (by omega)) ?_
      refine j_ifeq_b (tgt := 77) (q := 16) dX8_endLeases_13 (by decide) rfl (fun h13 => ?_) (fun h13 => ?_)
      · first | refine j_mem (m' := sz m (zEl2 (zEl1 z c) c)) (by simp only [zEl2]; (first | rw [show zOw (u1 (zEl1 z c) (59 + 9 * c + 2) 0) c = true by assumption] | rw [show zOw (u1 (zEl1 z c) (59 + 9 * c + 2) 0) c = false by assumption]) <;> rfl) ?_ | skip
        refine j_iinc1 (q := 80) dX8_endLeases_77 rfl rfl (by decide) ?_
        refine j_goto (tgt := 2) dX8_endLeases_80 (by decide) ?_
        exact ih _ _ (by omega) (by omega) (fun x hx => kk x (hx.trans (by first | (rw [zElF, zEl, if_pos (by assumption), if_pos (by omega)]; done) | (rw [zElF, zEl, if_pos (by assumption), if_neg (by omega)]; done) | (rw [zElF, zEl, if_neg (nb (by assumption))]; done))))
      · refine j_aload0 (q := 17) dX8_endLeases_16 rfl ?_
        refine j_iload1 (q := 18) dX8_endLeases_17 rfl ?_
        refine j_iconst (q := 19) dX8_endLeases_18 rfl ?_
        refine j_aload0 (q := 20) dX8_endLeases_19 rfl ?_
        refine j_iload1 (q := 21) dX8_endLeases_20 rfl ?_
        refine j_iconst (q := 22) dX8_endLeases_21 rfl ?_
        refine j_callV2 (Mc := iX8_of) (q := 25) (c' := 0) (s' := 0) dX8_endLeases_22 rfl kV_X8_of jw_1079 ⟨by decide, by decide⟩ sh_197 rfl rfl rfl (Nat.le_refl _) (Nat.le_refl _) (ct_X8_of E (by omega) (by omega)) ?_
        refine j_iconst (q := 26) dX8_endLeases_25 rfl ?_
        refine j_isub (q := 27) dX8_endLeases_26 rfl ?_
        refine j_callV3v (Mc := iX8_lay) (q := 30) (c' := 0) (s' := 0) dX8_endLeases_27 rfl kV_X8_lay jw_980 ⟨by decide, by decide⟩ sh_197 rfl rfl rfl (Nat.le_refl _) (Nat.le_refl _) (ct_X8_lay E (by omega) (by omega)) ?_
        refine j_mem (m' := sz m (zEl1 z c)) rfl ?_
        refine j_aload0 (q := 31) dX8_endLeases_30 rfl ?_
        refine j_iload1 (q := 32) dX8_endLeases_31 rfl ?_
        refine j_iconst (q := 33) dX8_endLeases_32 rfl ?_
        refine j_callV2 (Mc := iX8_of) (q := 36) (c' := 0) (s' := 0) dX8_endLeases_33 rfl kV_X8_of jw_1079 ⟨by decide, by decide⟩ sh_197 rfl rfl rfl (Nat.le_refl _) (Nat.le_refl _) (ct_X8_of E (by omega) (by omega)) ?_
        refine j_if_ne (tgt := 77) (q := 39) dX8_endLeases_36 (by decide) rfl rfl (fun h36 => ?_) (fun h36 => ?_)
        · first | refine j_mem (m' := sz m (zEl2 (zEl1 z c) c)) (by simp only [zEl2]; (first | rw [show zOw (u1 (zEl1 z c) (59 + 9 * c + 2) 0) c = true by assumption] | rw [show zOw (u1 (zEl1 z c) (59 + 9 * c + 2) 0) c = false by assumption]) <;> rfl) ?_ | skip
          refine j_iinc1 (q := 80) dX8_endLeases_77 rfl rfl (by decide) ?_
          refine j_goto (tgt := 2) dX8_endLeases_80 (by decide) ?_
          exact ih _ _ (by omega) (by omega) (fun x hx => kk x (hx.trans (by first | (rw [zElF, zEl, if_pos (by assumption), if_pos (by omega)]; done) | (rw [zElF, zEl, if_pos (by assumption), if_neg (by omega)]; done) | (rw [zElF, zEl, if_neg (nb (by assumption))]; done))))
        · refine j_aload0 (q := 40) dX8_endLeases_39 rfl ?_
          refine j_iload1 (q := 41) dX8_endLeases_40 rfl ?_
          refine j_iconst (q := 42) dX8_endLeases_41 rfl ?_
          refine j_iconst (q := 43) dX8_endLeases_42 rfl ?_
          refine j_callV3v (Mc := iX8_lay) (q := 46) (c' := 0) (s' := 0) dX8_endLeases_43 rfl kV_X8_lay jw_980 ⟨by decide, by decide⟩ sh_197 rfl rfl rfl (Nat.le_refl _) (Nat.le_refl _) (ct_X8_lay E (by omega) (by omega)) ?_
          refine j_aload0 (q := 47) dX8_endLeases_46 rfl ?_
          refine j_getR 0 (q := 50) dX8_endLeases_47 rfl fl_X8_7 sh_197 rfl ?_
          refine j_bipush (q := 52) dX8_endLeases_50 rfl rfl ?_
          refine j_dup2 (q := 53) dX8_endLeases_52 rfl rfl rfl ?_
          refine j_zload (q := 54) dX8_endLeases_53 rfl (by first | exact wr_id' (by omega) (by omega) | with_reducible exact wr_bI _ | exact rfl) (by omega) (by omega) ?_
          refine j_aload0 (q := 55) dX8_endLeases_54 rfl ?_
          refine j_iload1 (q := 56) dX8_endLeases_55 rfl ?_
          refine j_callV1 (Mc := iX8_isOwed) (q := 59) (c' := 0) (s' := 0) dX8_endLeases_56 rfl kV_X8_isOwed jw_1152 ⟨by decide, by decide⟩ sh_197 rfl rfl rfl (Nat.le_refl _) (Nat.le_refl _) (ct_X8_isOwed E (by omega)) ?_
          refine j_ifeq_b (tgt := 66) (q := 62) dX8_endLeases_59 (by decide) rfl (fun h59 => ?_) (fun h59 => ?_)
          · refine j_iconst (q := 67) dX8_endLeases_66 rfl ?_
            refine j_iadd (q := 68) dX8_endLeases_67 rfl ?_
            refine j_zstore (q := 69) dX8_endLeases_68 rfl (by first | exact wr_id' (by omega) (by omega) | with_reducible exact wr_bI _ | exact rfl) (by omega) (by omega) ?_
            refine j_aload0 (q := 70) dX8_endLeases_69 rfl ?_
            refine j_iload1 (q := 71) dX8_endLeases_70 rfl ?_
            refine j_bipush (q := 73) dX8_endLeases_71 rfl rfl ?_
            refine j_iconst (q := 74) dX8_endLeases_73 rfl ?_
            refine j_callV3v (Mc := iX8_lay) (q := 77) (c' := 0) (s' := 0) dX8_endLeases_74 rfl kV_X8_lay jw_980 ⟨by decide, by decide⟩ sh_197 rfl rfl rfl (Nat.le_refl _) (Nat.le_refl _) (ct_X8_lay E (by omega) (by omega)) ?_
            first | refine j_mem (m' := sz m (zEl2 (zEl1 z c) c)) (by simp only [zEl2]; (first | rw [show zOw (u1 (zEl1 z c) (59 + 9 * c + 2) 0) c = true by assumption] | rw [show zOw (u1 (zEl1 z c) (59 + 9 * c + 2) 0) c = false by assumption]) <;> rfl) ?_ | skip
            refine j_iinc1 (q := 80) dX8_endLeases_77 rfl rfl (by decide) ?_
            refine j_goto (tgt := 2) dX8_endLeases_80 (by decide) ?_
            exact ih _ _ (by omega) (by omega) (fun x hx => kk x (hx.trans (by first | (rw [zElF, zEl, if_pos (by assumption), if_pos (by omega)]; done) | (rw [zElF, zEl, if_pos (by assumption), if_neg (by omega)]; done) | (rw [zElF, zEl, if_neg (nb (by assumption))]; done))))
          · refine j_iconst (q := 63) dX8_endLeases_62 rfl ?_
            refine j_goto (tgt := 67) dX8_endLeases_63 (by decide) ?_
            refine j_iadd (q := 68) dX8_endLeases_67 rfl ?_
            refine j_zstore (q := 69) dX8_endLeases_68 rfl (by first | exact wr_id' (by omega) (by omega) | with_reducible exact wr_bI _ | exact rfl) (by omega) (by omega) ?_
            refine j_aload0 (q := 70) dX8_endLeases_69 rfl ?_
            refine j_iload1 (q := 71) dX8_endLeases_70 rfl ?_
            refine j_bipush (q := 73) dX8_endLeases_71 rfl rfl ?_
            refine j_iconst (q := 74) dX8_endLeases_73 rfl ?_
            refine j_callV3v (Mc := iX8_lay) (q := 77) (c' := 0) (s' := 0) dX8_endLeases_74 rfl kV_X8_lay jw_980 ⟨by decide, by decide⟩ sh_197 rfl rfl rfl (Nat.le_refl _) (Nat.le_refl _) (ct_X8_lay E (by omega) (by omega)) ?_
            first | refine j_mem (m' := sz m (zEl2 (zEl1 z c) c)) (by simp only [zEl2]; (first | rw [show zOw (u1 (zEl1 z c) (59 + 9 * c + 2) 0) c = true by assumption] | rw [show zOw (u1 (zEl1 z c) (59 + 9 * c + 2) 0) c = false by assumption]) <;> rfl) ?_ | skip
            refine j_iinc1 (q := 80) dX8_endLeases_77 rfl rfl (by decide) ?_
            refine j_goto (tgt := 2) dX8_endLeases_80 (by decide) ?_
            exact ih _ _ (by omega) (by omega) (fun x hx => kk x (hx.trans (by first | (rw [zElF, zEl, if_pos (by assumption), if_pos (by omega)]; done) | (rw [zElF, zEl, if_pos (by assumption), if_neg (by omega)]; done) | (rw [zElF, zEl, if_neg (nb (by assumption))]; done))))
theorem ct_X8_endLeases {G : GX} (E : EV G) {m : Mem} {z : Z} : CT G SHP iX8_endLeases 0 0 [.inr (.ref 197)] (sz m z) none (sz m (zElF 64 0 z)) := by
  refine j_met (L0 := [some (.inr (.ref 197)), none]) (by decide) E.1 E.2 rfl (Nat.le_of_ble_eq_true rfl) ?_
  refine j_iconst (q := 1) dX8_endLeases_0 rfl ?_
  refine j_istore1 (q := 2) dX8_endLeases_1 rfl rfl (by decide) ?_
  refine lp_X8_endLeases E 64 0 z (by omega) (by omega) ?_
  intro x hx
  exact j_return dX8_endLeases_83 rfl (by rw [hx])
theorem lp_X8_tick {G : GX} (E : EV G) {m : Mem} {K : Int} {F : FinT} {n : Int} (h1 : 0 ≤ n ∧ n ≤ 64) (h2 : OE (m 205) n.toNat) : ∀ (d : Nat) (k : Int) (z : Z), k + d = n → 0 ≤ k → WI z K → (∀ (x : Z), x = zLtF (m 205) d k z → J G SHP iX8_tick 0 0 F 99 [some (.inr (.ref 197)), none, none, none] [] (sz m x) 0 0) → J G SHP iX8_tick 0 0 F 39 [some (.inr (.ref 197)), some (.inl n), some (.inl k), none] [] (sz m z) 0 0 := by
  intro d
  induction d with
  | zero =>
    intro k z g0 g1 g2 kk
    refine j_iload2 (q := 40) dX8_tick_39 rfl ?_
    refine j_iload1 (q := 41) dX8_tick_40 rfl ?_
    refine j_icmp_ge (tgt := 99) (q := 44) dX8_tick_41 (by decide) rfl (by first | exact wr_id' (by omega) (by omega) | with_reducible exact wr_bI _ | exact rfl) (by first | exact wr_id' (by omega) (by omega) | with_reducible exact wr_bI _ | exact rfl) (fun h41 => ?_) (fun h41 => ?_)
    · refine j_fgt1 ?_
      refine j_fgt2 ?_
      exact kk _ rfl
    · omega
  | succ d ih =>
    intro k z g0 g1 g2 kk
    refine j_iload2 (q := 40) dX8_tick_39 rfl ?_
    refine j_iload1 (q := 41) dX8_tick_40 rfl ?_
    refine j_icmp_ge (tgt := 99) (q := 44) dX8_tick_41 (by decide) rfl (by first | exact wr_id' (by omega) (by omega) | with_reducible exact wr_bI _ | exact rfl) (by first | exact wr_id' (by omega) (by omega) | with_reducible exact wr_bI _ | exact rfl) (fun h41 => ?_) (fun h41 => ?_)
    · omega
    · refine j_aload0 (q := 45) dX8_tick_44 rfl ?_
      refine j_getR 7 (q := 48) dX8_tick_45 rfl fl_X8_31 sh_197 rfl ?_
      refine j_iload2 (q := 49) dX8_tick_48 rfl ?_
      refine j_nload (q := 50) (by decide) dX8_tick_49 rfl sh_205 (by first | exact wr_id' (by omega) (by omega) | with_reducible exact wr_bI _ | exact rfl) (by omega) (by omega) ?_
      have hb := h2 k (by omega) (by omega)
      refine j_istore3 (q := 51) dX8_tick_50 rfl rfl (by decide) ?_
      refine j_aload0 (q := 52) dX8_tick_51 rfl ?_
      refine j_iload3 (q := 53) dX8_tick_52 rfl ?_
      refine j_bipush (q := 55) dX8_tick_53 rfl rfl ?_
      refine j_callV2 (Mc := iX8_of) (q := 58) (c' := 0) (s' := 0) dX8_tick_55 rfl kV_X8_of jw_1079 ⟨by decide, by decide⟩ sh_197 rfl rfl rfl (Nat.le_refl _) (Nat.le_refl _) (ct_X8_of E (by omega) (by omega)) ?_
      refine j_iconst (q := 59) dX8_tick_58 rfl ?_
      refine j_isub (q := 60) dX8_tick_59 rfl ?_
      refine j_aload0 (q := 61) dX8_tick_60 rfl ?_
      refine j_getR 0 (q := 64) dX8_tick_61 rfl fl_X8_7 sh_197 rfl ?_
      refine j_iconst (q := 65) dX8_tick_64 rfl ?_
      refine j_zload (q := 66) dX8_tick_65 rfl (by first | exact wr_id' (by omega) (by omega) | with_reducible exact wr_bI _ | exact rfl) (by omega) (by omega) ?_
      refine j_icmp_ge (tgt := 93) (q := 69) dX8_tick_66 (by decide) rfl rfl rfl (fun h66 => ?_) (fun h66 => ?_)
      · refine j_iinc2 (q := 96) dX8_tick_93 rfl rfl (by decide) ?_
        refine j_goto (tgt := 39) dX8_tick_96 (by decide) ?_
        refine j_fgt3 ?_
        exact ih _ _ (by omega) (by omega) (by first | assumption | exact WI_lo hb (WI_u1 (by unfold NW; omega) (WI_u1 (by unfold NW; omega) g2))) (fun x hx => kk x (hx.trans (by rw [zLtF]; first | (rw [if_pos (by omega)]; done) | (rw [if_neg (by omega)]; done))))
      · refine j_aload0 (q := 70) dX8_tick_69 rfl ?_
        refine j_iload3 (q := 71) dX8_tick_70 rfl ?_
        refine j_bipush (q := 73) dX8_tick_71 rfl rfl ?_
        refine j_iconst (q := 74) dX8_tick_73 rfl ?_
        refine j_callV3v (Mc := iX8_lay) (q := 77) (c' := 0) (s' := 0) dX8_tick_74 rfl kV_X8_lay jw_980 ⟨by decide, by decide⟩ sh_197 rfl rfl rfl (Nat.le_refl _) (Nat.le_refl _) (ct_X8_lay E (by omega) (by omega)) ?_
        refine j_aload0 (q := 78) dX8_tick_77 rfl ?_
        refine j_getR 0 (q := 81) dX8_tick_78 rfl fl_X8_7 sh_197 rfl ?_
        refine j_bipush (q := 83) dX8_tick_81 rfl rfl ?_
        refine j_dup2 (q := 84) dX8_tick_83 rfl rfl rfl ?_
        refine j_zload (q := 85) dX8_tick_84 rfl (by first | exact wr_id' (by omega) (by omega) | with_reducible exact wr_bI _ | exact rfl) (by omega) (by omega) ?_
        refine j_iconst (q := 86) dX8_tick_85 rfl ?_
        refine j_iadd (q := 87) dX8_tick_86 rfl ?_
        refine j_zstore (q := 88) dX8_tick_87 rfl (by first | exact wr_id' (by omega) (by omega) | with_reducible exact wr_bI _ | exact rfl) (by omega) (by omega) ?_
        have wl : WI (u1 (u1 z (59 + 9 * m 205 k + 6) 0) 8 (u1 z (59 + 9 * m 205 k + 6) 0 8 + 1)) K := WI_u1 (by unfold NW; omega) (WI_u1 (by unfold NW; omega) g2)
        refine j_aload0 (q := 89) dX8_tick_88 rfl ?_
        refine j_iload3 (q := 90) dX8_tick_89 rfl ?_
        refine j_callV1v (Mc := iX8_loses) (q := 93) (c' := 0) (s' := 0) dX8_tick_90 rfl kV_X8_loses jw_1141 ⟨by decide, by decide⟩ sh_197 rfl rfl rfl (Nat.le_refl _) (Nat.le_refl _) (ct_X8_loses E (by omega) (by assumption)) ?_
        refine j_iinc2 (q := 96) dX8_tick_93 rfl rfl (by decide) ?_
        refine j_goto (tgt := 39) dX8_tick_96 (by decide) ?_
        refine j_fgt3 ?_
        exact ih _ _ (by omega) (by omega) (by first | assumption | exact WI_lo hb (WI_u1 (by unfold NW; omega) (WI_u1 (by unfold NW; omega) g2))) (fun x hx => kk x (hx.trans (by rw [zLtF]; first | (rw [if_pos (by omega)]; done) | (rw [if_neg (by omega)]; done))))
theorem ct_X8_tick {G : GX} (E : EV G) {m : Mem} {z : Z} {K : Int} (hW : WI z K) : CT G SHP iX8_tick 0 0 [.inr (.ref 197)] (sz m z) none (sz (so m (zOrd (zTk0 z) (m 205))) (zTk z (m 205))) := by
  refine j_met (L0 := [some (.inr (.ref 197)), none, none, none]) (by decide) E.1 E.2 rfl (Nat.le_of_ble_eq_true rfl) ?_
  refine j_aload0 (q := 1) dX8_tick_0 rfl ?_
  refine j_getR 0 (q := 4) dX8_tick_1 rfl fl_X8_7 sh_197 rfl ?_
  refine j_iconst (q := 5) dX8_tick_4 rfl ?_
  refine j_dup2 (q := 6) dX8_tick_5 rfl rfl rfl ?_
  refine j_zload (q := 7) dX8_tick_6 rfl (by first | exact wr_id' (by omega) (by omega) | with_reducible exact wr_bI _ | exact rfl) (by omega) (by omega) ?_
  refine j_iconst (q := 8) dX8_tick_7 rfl ?_
  refine j_iadd (q := 9) dX8_tick_8 rfl ?_
  refine j_zstore (q := 10) dX8_tick_9 rfl (by first | exact wr_id' (by omega) (by omega) | with_reducible exact wr_bI _ | exact rfl) (by omega) (by omega) ?_
  refine j_aload0 (q := 11) dX8_tick_10 rfl ?_
  refine j_getR 0 (q := 14) dX8_tick_11 rfl fl_X8_7 sh_197 rfl ?_
  refine j_iconst (q := 15) dX8_tick_14 rfl ?_
  refine j_aload0 (q := 16) dX8_tick_15 rfl ?_
  refine j_getR 0 (q := 19) dX8_tick_16 rfl fl_X8_7 sh_197 rfl ?_
  refine j_iconst (q := 20) dX8_tick_19 rfl ?_
  refine j_zload (q := 21) dX8_tick_20 rfl (by first | exact wr_id' (by omega) (by omega) | with_reducible exact wr_bI _ | exact rfl) (by omega) (by omega) ?_
  refine j_aload0 (q := 22) dX8_tick_21 rfl ?_
  refine j_bipush (q := 24) dX8_tick_22 rfl rfl ?_
  refine j_callV1 (Mc := iX8_rule) (q := 27) (c' := 0) (s' := 0) dX8_tick_24 rfl kV_X8_rule jw_1057 ⟨by decide, by decide⟩ sh_197 rfl rfl rfl (Nat.le_refl _) (Nat.le_refl _) (ct_X8_rule E (by omega)) ?_
  refine j_isub (q := 28) dX8_tick_27 rfl ?_
  refine j_callS1 (Mc := iX8_notBelow) (q := 31) (c' := 0) (s' := 0) dX8_tick_28 rfl kS_X8_notBelow jw_1131 ⟨by decide, by decide⟩ rfl (Nat.le_refl _) (Nat.le_refl _) (ct_X8_notBelow E) ?_
  refine j_zstore (q := 32) dX8_tick_31 rfl (by first | exact wr_id' (by omega) (by omega) | with_reducible exact wr_bI _ | exact rfl) (by omega) (by omega) ?_
  refine j_mem (m' := sz m (zTk0 z)) rfl ?_
  refine j_aload0 (q := 33) dX8_tick_32 rfl ?_
  refine j_callV0 (Mc := iX8_layOwed) (q := 36) (c' := 0) (s' := 0) dX8_tick_33 rfl kV_X8_layOwed jw_1180 ⟨by decide, by decide⟩ sh_197 rfl rfl rfl (Nat.le_refl _) (Nat.le_refl _) (ct_X8_layOwed E) ?_
  refine j_istore1 (q := 37) dX8_tick_36 rfl rfl (by decide) ?_
  refine j_iconst (q := 38) dX8_tick_37 rfl ?_
  refine j_istore2 (q := 39) dX8_tick_38 rfl rfl (by decide) ?_
  have hb := zOr_b (zTk0 z) (m 205)
  refine lp_X8_tick E (K := K) (m := so m (zOrd (zTk0 z) (m 205))) ⟨hb.2.1, hb.2.2⟩ hb.1 (zOrN (zTk0 z) (m 205)).toNat 0 (zTk0 z) (by omega) (by omega) (WI_tk0 hW) ?_
  intro x hx
  have hx' : x = zTk1 z (m 205) := hx
  subst hx'
  refine j_aload0 (q := 100) dX8_tick_99 rfl ?_
  refine j_callV0v (Mc := iX8_endPolicies) (q := 103) (c' := 0) (s' := 0) dX8_tick_100 rfl kV_X8_endPolicies jw_1196 ⟨by decide, by decide⟩ sh_197 rfl rfl rfl (Nat.le_refl _) (Nat.le_refl _) (ct_X8_endPolicies E) ?_
  refine j_aload0 (q := 104) dX8_tick_103 rfl ?_
  refine j_callV0v (Mc := iX8_endLeases) (q := 107) (c' := 0) (s' := 0) dX8_tick_104 rfl kV_X8_endLeases jw_1200 ⟨by decide, by decide⟩ sh_197 rfl rfl rfl (Nat.le_refl _) (Nat.le_refl _) (ct_X8_endLeases E) ?_
  exact j_return dX8_tick_107 rfl (rfl)

/-! the model: its queries -/
def cntF (p : Int → Bool) : Nat → Int → Int → Int
  | 0, _, n => n
  | d + 1, c, n => cntF p d (c + 1) (n + bI (p c))
theorem cnt_t {p : Int → Bool} {d : Nat} {c n : Int} (h : p c = true) : cntF p d (c + 1) (n + 1) = cntF p (d + 1) c n := by rw [cntF, h]; rfl
theorem cnt_f {p : Int → Bool} {d : Nat} {c n : Int} (h : p c = false) : cntF p d (c + 1) (n + 0) = cntF p (d + 1) c n := by rw [cntF, h]; rfl
def zIs (z : Z) (w c : Int) : Bool := decide (w = 0 ∨ w = 1 ∧ 0 < wr (z (59 + 9 * c + 4)) ∨ 1 < w ∧ wr (z (59 + 9 * c + 2)) = w - 1)
def zDis (z : Z) (k w : Int) : Int := cntF (fun c => zIs z w c && zLin k c && zWk z c) 64 0 0
def zOwN (z : Z) : Int := cntF (zOw z) 64 0 0
def zCof (z : Z) (t : Int) (b : Bool) : Int := cntF (fun c => decide (wr (z (59 + 9 * c + 2)) = t + 1) && (!b || decide (0 < wr (z (59 + 9 * c + 4))))) 64 0 0
def zPol (z : Z) (i : Int) : Int := cntF (fun c => decide (wr (z (59 + 9 * c + 4)) = i + 1)) 64 0 0
def zCW (z : Z) (w : Int) : Int := cntF (fun c => decide (0 < wr (z (59 + 9 * c + w)))) 64 0 0
def zAh (z : Z) (c : Int) : Int := cntF (fun e => decide (wr (z (59 + 9 * e + 1)) < wr (z (59 + 9 * c + 1)) ∨ wr (z (59 + 9 * e + 1)) = wr (z (59 + 9 * c + 1)) ∧ e < c)) 64 0 0
theorem cnt_b (p : Int → Bool) : ∀ (d : Nat) (c n : Int), n ≤ cntF p d c n ∧ cntF p d c n ≤ n + d := by
  intro d
  induction d with
  | zero => intro c n; simp [cntF]
  | succ d ih =>
    intro c n
    have h1 := ih (c + 1) (n + bI (p c))
    have h2 := bI_01 (p c)
    rw [cntF]
    omega
theorem zAh_b (z : Z) (c : Int) : 0 ≤ zAh z c ∧ zAh z c ≤ 64 := by
  have h := cnt_b (fun e => decide (wr (z (59 + 9 * e + 1)) < wr (z (59 + 9 * c + 1)) ∨ wr (z (59 + 9 * e + 1)) = wr (z (59 + 9 * c + 1)) ∧ e < c)) 64 0 0
  unfold zAh; omega
def zWstF (z : Z) (p : Int) : Nat → Int → Int
  | 0, _ => -1
  | d + 1, c => if zAh z c = p then c else zWstF z p d (c + 1)
def zWst (z : Z) (p : Int) : Int := zWstF z p 64 0
def zWqF (z : Z) (t : Int) : Nat → Int → Int → Int
  | 0, _, n => n
  | d + 1, i, n => zWqF z t d (i + 1) (cntF (fun k => decide (wr (z (635 + 520 * i + k)) = t)) (wr (z (41 + 6 * i + 5))).toNat 0 n)
def zWq (z : Z) (t : Int) : Int := zWqF z t (wr (z 3)).toNat 0 0
def zChF (z : Z) (c v t : Int) : Nat → Int → Int → Int
  | 0, _, b => b
  | d + 1, i, b => zChF z c v t d (i + 1) (if v ≤ wr (z (41 + 6 * i + 2)) ∧ (b = -1 ∨ wr (zPrem z c i t (z 1)) < wr (zPrem z c b t (z 1))) then i else b)
def zCh (z : Z) (c v t : Int) : Int := zChF z c v t (wr (z 3)).toNat 0 (-1)
def zWtF (z : Z) (c i t x : Int) : Nat → Int → Int
  | 0, _ => -1
  | d + 1, n => if wr (zPrem z c i t (zNB (z 1 - n * z (15 + 6)))) ≤ x then n else zWtF z c i t x d (n + 1)
def zWt (z : Z) (c i t x : Int) : Int := zWtF z c i t x 201 0
def zGen (z : Z) (a b : Int) : Bool := decide (wr (zDis z a 0) < wr (zDis z b 0) ∨ wr (zDis z a 0) = wr (zDis z b 0) ∧ wr (z (59 + 9 * b + 1)) < wr (z (59 + 9 * a + 1)))
def zGF (z : Z) : Nat → Int → Int → Int
  | 0, _, b => b
  | d + 1, c, b => zGF z d (c + 1) (if (zCR z c && decide (wr (z (59 + 9 * c + 0)) = 1)) = true ∧ (b = -1 ∨ zGen z c b = true) then c else b)
def zG (z : Z) : Int := zGF z 64 0 (-1)
def zRkF (z : Z) (t : Int) : Nat → Int → Int → Int
  | 0, _, b => b
  | d + 1, c, b => zRkF z t d (c + 1) (if wr b < wr (if zCR z c then zDis z c (t + 2) else 0) then (if zCR z c then zDis z c (t + 2) else 0) else b)
def zRk (z : Z) (t : Int) : Int := zRkF z t 64 0 0
theorem ct_X8_premiumBy {G : GX} (E : EV G) {m : Mem} {z : Z} {c : Int} {i : Int} {t : Int} {h : Int} (h1 : 0 ≤ c ∧ c < 64) (h2 : 0 ≤ i ∧ i < 3) : CT G SHP iX8_premiumBy 0 0 [.inr (.ref 197), .inl c, .inl i, .inl t, .inl h] (sz m z) (some (.inl (zPrem z c i t h))) (sz m z) := by
  refine j_met (L0 := [some (.inr (.ref 197)), some (.inl c), some (.inl i), some (.inl t), some (.inl h)]) (by decide) E.1 E.2 rfl (Nat.le_of_ble_eq_true rfl) ?_
  refine j_bipush (q := 2) dX8_premiumBy_0 rfl rfl ?_
  refine j_iload4 (q := 4) dX8_premiumBy_2 rfl ?_
  refine j_iadd (q := 5) dX8_premiumBy_4 rfl ?_
  refine j_bipush (q := 7) dX8_premiumBy_5 rfl rfl ?_
  refine j_iadd (q := 8) dX8_premiumBy_7 rfl ?_
  refine j_aload0 (q := 9) dX8_premiumBy_8 rfl ?_
  refine j_iload1 (q := 10) dX8_premiumBy_9 rfl ?_
  refine j_iconst (q := 11) dX8_premiumBy_10 rfl ?_
  refine j_callV2 (Mc := iX8_of) (q := 14) (c' := 0) (s' := 0) dX8_premiumBy_11 rfl kV_X8_of jw_1079 ⟨by decide, by decide⟩ sh_197 rfl rfl rfl (Nat.le_refl _) (Nat.le_refl _) (ct_X8_of E (by omega) (by omega)) ?_
  refine j_isub (q := 15) dX8_premiumBy_14 rfl ?_
  refine j_iload3 (q := 16) dX8_premiumBy_15 rfl ?_
  refine j_imul (q := 17) dX8_premiumBy_16 rfl ?_
  refine j_aload0 (q := 18) dX8_premiumBy_17 rfl ?_
  refine j_iload2 (q := 19) dX8_premiumBy_18 rfl ?_
  refine j_iconst (q := 20) dX8_premiumBy_19 rfl ?_
  refine j_callV2 (Mc := iX8_ofInsurer) (q := 23) (c' := 0) (s' := 0) dX8_premiumBy_20 rfl kV_X8_ofInsurer jw_1103 ⟨by decide, by decide⟩ sh_197 rfl rfl rfl (Nat.le_refl _) (Nat.le_refl _) (ct_X8_ofInsurer E (by omega) (by omega)) ?_
  refine j_imul (q := 24) dX8_premiumBy_23 rfl ?_
  refine j_sipush (q := 27) dX8_premiumBy_24 rfl rfl ?_
  refine j_idiv (q := 28) dX8_premiumBy_27 rfl (by first | exact wr_id' (by omega) (by omega) | with_reducible exact wr_bI _ | exact rfl) (by first | exact wr_id' (by omega) (by omega) | with_reducible exact wr_bI _ | exact rfl) (by omega) (by omega) ?_
  refine j_iconst (q := 29) dX8_premiumBy_28 rfl ?_
  refine j_iadd (q := 30) dX8_premiumBy_29 rfl ?_
  exact j_ireturn dX8_premiumBy_30 rfl (rfl) (rfl)
theorem ct_X8_premiumNow {G : GX} (E : EV G) {m : Mem} {z : Z} {c : Int} {i : Int} {t : Int} (h1 : 0 ≤ c ∧ c < 64) (h2 : 0 ≤ i ∧ i < 3) : CT G SHP iX8_premiumNow 0 0 [.inr (.ref 197), .inl c, .inl i, .inl t] (sz m z) (some (.inl (zPrem z c i t (z 1)))) (sz m z) := by
  refine j_met (L0 := [some (.inr (.ref 197)), some (.inl c), some (.inl i), some (.inl t)]) (by decide) E.1 E.2 rfl (Nat.le_of_ble_eq_true rfl) ?_
  refine j_aload0 (q := 1) dX8_premiumNow_0 rfl ?_
  refine j_iload1 (q := 2) dX8_premiumNow_1 rfl ?_
  refine j_iload2 (q := 3) dX8_premiumNow_2 rfl ?_
  refine j_iload3 (q := 4) dX8_premiumNow_3 rfl ?_
  refine j_aload0 (q := 5) dX8_premiumNow_4 rfl ?_
  refine j_getR 0 (q := 8) dX8_premiumNow_5 rfl fl_X8_7 sh_197 rfl ?_
  refine j_iconst (q := 9) dX8_premiumNow_8 rfl ?_
  refine j_zload (q := 10) dX8_premiumNow_9 rfl (by first | exact wr_id' (by omega) (by omega) | with_reducible exact wr_bI _ | exact rfl) (by omega) (by omega) ?_
  refine j_callV4 (Mc := iX8_premiumBy) (q := 13) (c' := 0) (s' := 0) dX8_premiumNow_10 rfl kV_X8_premiumBy jw_1099 ⟨by decide, by decide⟩ sh_197 rfl rfl rfl (Nat.le_refl _) (Nat.le_refl _) (ct_X8_premiumBy E (by omega) (by omega)) ?_
  exact j_ireturn dX8_premiumNow_13 rfl (rfl) (rfl)
theorem ct_X8_areInLine {G : GX} (E : EV G) {m : Mem} {a : Int} {b : Int} (h1 : 0 ≤ a ∧ a < 64) (h2 : 0 ≤ b ∧ b < 64) : CT G SHP iX8_areInLine 0 0 [.inl a, .inl b] (m) (some (.inl (bI (zLin a b)))) (m) := by
  refine j_met (L0 := [some (.inl a), some (.inl b)]) (by decide) E.1 E.2 rfl (Nat.le_of_ble_eq_true rfl) ?_
  refine j_iload0 (q := 1) dX8_areInLine_0 rfl ?_
  refine j_iload1 (q := 2) dX8_areInLine_1 rfl ?_
  refine j_icmp_eq (tgt := 31) (q := 5) dX8_areInLine_2 (by decide) rfl (by first | exact wr_id' (by omega) (by omega) | with_reducible exact wr_bI _ | exact rfl) (by first | exact wr_id' (by omega) (by omega) | with_reducible exact wr_bI _ | exact rfl) (fun h2 => ?_) (fun h2 => ?_)
  · refine j_iconst (q := 32) dX8_areInLine_31 rfl ?_
    exact j_zreturn dX8_areInLine_32 rfl (by decide) (by first | exact bI_t (by omega) | exact bI_f (by omega) | simp [bI, *]) (rfl)
  · refine j_iload0 (q := 6) dX8_areInLine_5 rfl ?_
    refine j_bipush (q := 8) dX8_areInLine_6 rfl rfl ?_
    refine j_idivP (q := 9) dX8_areInLine_8 rfl (by first | exact wr_id' (by omega) (by omega) | with_reducible exact wr_bI _ | exact rfl) (by first | exact wr_id' (by omega) (by omega) | with_reducible exact wr_bI _ | exact rfl) (by omega) (by omega) ?_
    refine j_iload1 (q := 10) dX8_areInLine_9 rfl ?_
    refine j_bipush (q := 12) dX8_areInLine_10 rfl rfl ?_
    refine j_idivP (q := 13) dX8_areInLine_12 rfl (by first | exact wr_id' (by omega) (by omega) | with_reducible exact wr_bI _ | exact rfl) (by first | exact wr_id' (by omega) (by omega) | with_reducible exact wr_bI _ | exact rfl) (by omega) (by omega) ?_
    refine j_icmp_eq (tgt := 27) (q := 16) dX8_areInLine_13 (by decide) rfl (by first | exact wr_id' (by omega) (by omega) | with_reducible exact wr_bI _ | exact rfl) (by first | exact wr_id' (by omega) (by omega) | with_reducible exact wr_bI _ | exact rfl) (fun h13 => ?_) (fun h13 => ?_)
    · refine j_iconst (q := 28) dX8_areInLine_27 rfl ?_
      refine j_goto (tgt := 32) dX8_areInLine_28 (by decide) ?_
      exact j_zreturn dX8_areInLine_32 rfl (by decide) (by first | exact bI_t (by omega) | exact bI_f (by omega) | simp [bI, *]) (rfl)
    · refine j_iload0 (q := 17) dX8_areInLine_16 rfl ?_
      refine j_bipush (q := 19) dX8_areInLine_17 rfl rfl ?_
      refine j_iremP (q := 20) dX8_areInLine_19 rfl (by first | exact wr_id' (by omega) (by omega) | with_reducible exact wr_bI _ | exact rfl) (by first | exact wr_id' (by omega) (by omega) | with_reducible exact wr_bI _ | exact rfl) (by omega) (by omega) ?_
      refine j_iload1 (q := 21) dX8_areInLine_20 rfl ?_
      refine j_bipush (q := 23) dX8_areInLine_21 rfl rfl ?_
      refine j_iremP (q := 24) dX8_areInLine_23 rfl (by first | exact wr_id' (by omega) (by omega) | with_reducible exact wr_bI _ | exact rfl) (by first | exact wr_id' (by omega) (by omega) | with_reducible exact wr_bI _ | exact rfl) (by omega) (by omega) ?_
      refine j_icmp_ne (tgt := 31) (q := 27) dX8_areInLine_24 (by decide) rfl (by first | exact wr_id' (by omega) (by omega) | with_reducible exact wr_bI _ | exact rfl) (by first | exact wr_id' (by omega) (by omega) | with_reducible exact wr_bI _ | exact rfl) (fun h24 => ?_) (fun h24 => ?_)
      · refine j_iconst (q := 32) dX8_areInLine_31 rfl ?_
        exact j_zreturn dX8_areInLine_32 rfl (by decide) (by first | exact bI_t (by omega) | exact bI_f (by omega) | simp [bI, *]) (rfl)
      · refine j_iconst (q := 28) dX8_areInLine_27 rfl ?_
        refine j_goto (tgt := 32) dX8_areInLine_28 (by decide) ?_
        exact j_zreturn dX8_areInLine_32 rfl (by decide) (by first | exact bI_t (by omega) | exact bI_f (by omega) | simp [bI, *]) (rfl)
theorem ct_X8_isWeak {G : GX} (E : EV G) {m : Mem} {z : Z} {c : Int} (h1 : 0 ≤ c ∧ c < 64) : CT G SHP iX8_isWeak 0 0 [.inr (.ref 197), .inl c] (sz m z) (some (.inl (bI (zWk z c)))) (sz m z) := by
  refine j_met (L0 := [some (.inr (.ref 197)), some (.inl c)]) (by decide) E.1 E.2 rfl (Nat.le_of_ble_eq_true rfl) ?_
  refine j_aload0 (q := 1) dX8_isWeak_0 rfl ?_
  refine j_iload1 (q := 2) dX8_isWeak_1 rfl ?_
  refine j_iconst (q := 3) dX8_isWeak_2 rfl ?_
  refine j_callV2 (Mc := iX8_of) (q := 6) (c' := 0) (s' := 0) dX8_isWeak_3 rfl kV_X8_of jw_1079 ⟨by decide, by decide⟩ sh_197 rfl rfl rfl (Nat.le_refl _) (Nat.le_refl _) (ct_X8_of E (by omega) (by omega)) ?_
  refine j_iconst (q := 7) dX8_isWeak_6 rfl ?_
  refine j_icmp_ne (tgt := 28) (q := 10) dX8_isWeak_7 (by decide) rfl (by first | exact wr_id' (by omega) (by omega) | with_reducible exact wr_bI _ | exact rfl) (by first | exact wr_id' (by omega) (by omega) | with_reducible exact wr_bI _ | exact rfl) (fun h7 => ?_) (fun h7 => ?_)
  · refine j_iconst (q := 29) dX8_isWeak_28 rfl ?_
    exact j_zreturn dX8_isWeak_29 rfl (by decide) (by first | exact bI_t (by omega) | exact bI_f (by omega) | simp [bI, *]) (rfl)
  · refine j_aload0 (q := 11) dX8_isWeak_10 rfl ?_
    refine j_iload1 (q := 12) dX8_isWeak_11 rfl ?_
    refine j_iconst (q := 13) dX8_isWeak_12 rfl ?_
    refine j_callV2 (Mc := iX8_of) (q := 16) (c' := 0) (s' := 0) dX8_isWeak_13 rfl kV_X8_of jw_1079 ⟨by decide, by decide⟩ sh_197 rfl rfl rfl (Nat.le_refl _) (Nat.le_refl _) (ct_X8_of E (by omega) (by omega)) ?_
    refine j_aload0 (q := 17) dX8_isWeak_16 rfl ?_
    refine j_iconst (q := 18) dX8_isWeak_17 rfl ?_
    refine j_callV1 (Mc := iX8_rule) (q := 21) (c' := 0) (s' := 0) dX8_isWeak_18 rfl kV_X8_rule jw_1057 ⟨by decide, by decide⟩ sh_197 rfl rfl rfl (Nat.le_refl _) (Nat.le_refl _) (ct_X8_rule E (by omega)) ?_
    refine j_icmp_ge (tgt := 28) (q := 24) dX8_isWeak_21 (by decide) rfl (by first | exact wr_id' (by omega) (by omega) | with_reducible exact wr_bI _ | exact rfl) (by first | exact wr_id' (by omega) (by omega) | with_reducible exact wr_bI _ | exact rfl) (fun h21 => ?_) (fun h21 => ?_)
    · refine j_iconst (q := 29) dX8_isWeak_28 rfl ?_
      exact j_zreturn dX8_isWeak_29 rfl (by decide) (by first | exact bI_t (by omega) | exact bI_f (by omega) | simp [bI, *]) (rfl)
    · refine j_iconst (q := 25) dX8_isWeak_24 rfl ?_
      refine j_goto (tgt := 29) dX8_isWeak_25 (by decide) ?_
      exact j_zreturn dX8_isWeak_29 rfl (by decide) (by first | exact bI_t (by omega) | exact bI_f (by omega) | simp [bI, *]) (rfl)
theorem ct_X8_worn {G : GX} (E : EV G) {m : Mem} {z : Z} {c : Int} (h1 : 0 ≤ c ∧ c < 64) : CT G SHP iX8_worn 0 0 [.inr (.ref 197), .inl c] (sz m z) (some (.inl (zWorn z c))) (sz m z) := by
  refine j_met (L0 := [some (.inr (.ref 197)), some (.inl c)]) (by decide) E.1 E.2 rfl (Nat.le_of_ble_eq_true rfl) ?_
  refine j_aload0 (q := 1) dX8_worn_0 rfl ?_
  refine j_iload1 (q := 2) dX8_worn_1 rfl ?_
  refine j_iconst (q := 3) dX8_worn_2 rfl ?_
  refine j_callV2 (Mc := iX8_of) (q := 6) (c' := 0) (s' := 0) dX8_worn_3 rfl kV_X8_of jw_1079 ⟨by decide, by decide⟩ sh_197 rfl rfl rfl (Nat.le_refl _) (Nat.le_refl _) (ct_X8_of E (by omega) (by omega)) ?_
  refine j_iconst (q := 7) dX8_worn_6 rfl ?_
  refine j_isub (q := 8) dX8_worn_7 rfl ?_
  refine j_aload0 (q := 9) dX8_worn_8 rfl ?_
  refine j_getR 0 (q := 12) dX8_worn_9 rfl fl_X8_7 sh_197 rfl ?_
  refine j_iconst (q := 13) dX8_worn_12 rfl ?_
  refine j_zload (q := 14) dX8_worn_13 rfl (by first | exact wr_id' (by omega) (by omega) | with_reducible exact wr_bI _ | exact rfl) (by omega) (by omega) ?_
  refine j_bipush (q := 16) dX8_worn_14 rfl rfl ?_
  refine j_idiv (q := 17) dX8_worn_16 rfl (by first | exact wr_id' (by omega) (by omega) | with_reducible exact wr_bI _ | exact rfl) (by first | exact wr_id' (by omega) (by omega) | with_reducible exact wr_bI _ | exact rfl) (by omega) (by omega) ?_
  refine j_isub (q := 18) dX8_worn_17 rfl ?_
  refine j_callS1 (Mc := iX8_notBelow) (q := 21) (c' := 0) (s' := 0) dX8_worn_18 rfl kS_X8_notBelow jw_1131 ⟨by decide, by decide⟩ rfl (Nat.le_refl _) (Nat.le_refl _) (ct_X8_notBelow E) ?_
  exact j_ireturn dX8_worn_21 rfl (rfl) (rfl)
theorem ct_X8_heated {G : GX} (E : EV G) {m : Mem} {z : Z} {b : Int} : CT G SHP iX8_heated 0 0 [.inr (.ref 197), .inl b] (sz m z) (some (.inl (zHeat z b))) (sz m z) := by
  refine j_met (L0 := [some (.inr (.ref 197)), some (.inl b)]) (by decide) E.1 E.2 rfl (Nat.le_of_ble_eq_true rfl) ?_
  refine j_bipush (q := 2) dX8_heated_0 rfl rfl ?_
  refine j_aload0 (q := 3) dX8_heated_2 rfl ?_
  refine j_getR 0 (q := 6) dX8_heated_3 rfl fl_X8_7 sh_197 rfl ?_
  refine j_iconst (q := 7) dX8_heated_6 rfl ?_
  refine j_zload (q := 8) dX8_heated_7 rfl (by first | exact wr_id' (by omega) (by omega) | with_reducible exact wr_bI _ | exact rfl) (by omega) (by omega) ?_
  refine j_iload1 (q := 9) dX8_heated_8 rfl ?_
  refine j_iadd (q := 10) dX8_heated_9 rfl ?_
  refine j_callS2 (Mc := iX8_less) (q := 13) (c' := 0) (s' := 0) dX8_heated_10 rfl kS_X8_less jw_1149 ⟨by decide, by decide⟩ rfl (Nat.le_refl _) (Nat.le_refl _) (ct_X8_less E) ?_
  exact j_ireturn dX8_heated_13 rfl (rfl) (rfl)
theorem ct_X8_areTicks {G : GX} (E : EV G) {m : Mem} {t : Int} (h1 : -2147483648 ≤ t ∧ t < 2147483648) : CT G SHP iX8_areTicks 0 0 [.inl t] (m) (some (.inl (bI (wi t 1 200)))) (m) := by
  refine j_met (L0 := [some (.inl t)]) (by decide) E.1 E.2 rfl (Nat.le_of_ble_eq_true rfl) ?_
  refine j_iload0 (q := 1) dX8_areTicks_0 rfl ?_
  refine j_iconst (q := 2) dX8_areTicks_1 rfl ?_
  refine j_sipush (q := 5) dX8_areTicks_2 rfl rfl ?_
  refine j_callS3 (Mc := iX8_within) (q := 8) (c' := 0) (s' := 0) dX8_areTicks_5 rfl kS_X8_within jw_1035 ⟨by decide, by decide⟩ rfl (Nat.le_refl _) (Nat.le_refl _) (ct_X8_within E (by omega) (by omega) (by omega)) ?_
  exact j_zreturn dX8_areTicks_8 rfl (bI_01 _) (rfl) (rfl)
theorem ct_X8_comesAhead {G : GX} (E : EV G) {m : Mem} {z : Z} {a : Int} {b : Int} (h1 : 0 ≤ a ∧ a < 64) (h2 : 0 ≤ b ∧ b < 64) : CT G SHP iX8_comesAhead 0 0 [.inr (.ref 197), .inl a, .inl b] (sz m z) (some (.inl (bI (zAhead z a b)))) (sz m z) := by
  refine j_met (L0 := [some (.inr (.ref 197)), some (.inl a), some (.inl b)]) (by decide) E.1 E.2 rfl (Nat.le_of_ble_eq_true rfl) ?_
  refine j_aload0 (q := 1) dX8_comesAhead_0 rfl ?_
  refine j_iload1 (q := 2) dX8_comesAhead_1 rfl ?_
  refine j_bipush (q := 4) dX8_comesAhead_2 rfl rfl ?_
  refine j_callV2 (Mc := iX8_of) (q := 7) (c' := 0) (s' := 0) dX8_comesAhead_4 rfl kV_X8_of jw_1079 ⟨by decide, by decide⟩ sh_197 rfl rfl rfl (Nat.le_refl _) (Nat.le_refl _) (ct_X8_of E (by omega) (by omega)) ?_
  refine j_aload0 (q := 8) dX8_comesAhead_7 rfl ?_
  refine j_iload2 (q := 9) dX8_comesAhead_8 rfl ?_
  refine j_bipush (q := 11) dX8_comesAhead_9 rfl rfl ?_
  refine j_callV2 (Mc := iX8_of) (q := 14) (c' := 0) (s' := 0) dX8_comesAhead_11 rfl kV_X8_of jw_1079 ⟨by decide, by decide⟩ sh_197 rfl rfl rfl (Nat.le_refl _) (Nat.le_refl _) (ct_X8_of E (by omega) (by omega)) ?_
  refine j_icmp_lt (tgt := 51) (q := 17) dX8_comesAhead_14 (by decide) rfl (by first | exact wr_id' (by omega) (by omega) | with_reducible exact wr_bI _ | exact rfl) (by first | exact wr_id' (by omega) (by omega) | with_reducible exact wr_bI _ | exact rfl) (fun h14 => ?_) (fun h14 => ?_)
  · refine j_iconst (q := 52) dX8_comesAhead_51 rfl ?_
    refine j_goto (tgt := 56) dX8_comesAhead_52 (by decide) ?_
    exact j_zreturn dX8_comesAhead_56 rfl (by decide) (by first | exact bI_t (by omega) | exact bI_f (by omega) | simp [bI, *]) (rfl)
  · refine j_aload0 (q := 18) dX8_comesAhead_17 rfl ?_
    refine j_iload1 (q := 19) dX8_comesAhead_18 rfl ?_
    refine j_bipush (q := 21) dX8_comesAhead_19 rfl rfl ?_
    refine j_callV2 (Mc := iX8_of) (q := 24) (c' := 0) (s' := 0) dX8_comesAhead_21 rfl kV_X8_of jw_1079 ⟨by decide, by decide⟩ sh_197 rfl rfl rfl (Nat.le_refl _) (Nat.le_refl _) (ct_X8_of E (by omega) (by omega)) ?_
    refine j_aload0 (q := 25) dX8_comesAhead_24 rfl ?_
    refine j_iload2 (q := 26) dX8_comesAhead_25 rfl ?_
    refine j_bipush (q := 28) dX8_comesAhead_26 rfl rfl ?_
    refine j_callV2 (Mc := iX8_of) (q := 31) (c' := 0) (s' := 0) dX8_comesAhead_28 rfl kV_X8_of jw_1079 ⟨by decide, by decide⟩ sh_197 rfl rfl rfl (Nat.le_refl _) (Nat.le_refl _) (ct_X8_of E (by omega) (by omega)) ?_
    refine j_icmp_ne (tgt := 55) (q := 34) dX8_comesAhead_31 (by decide) rfl (by first | exact wr_id' (by omega) (by omega) | with_reducible exact wr_bI _ | exact rfl) (by first | exact wr_id' (by omega) (by omega) | with_reducible exact wr_bI _ | exact rfl) (fun h31 => ?_) (fun h31 => ?_)
    · refine j_iconst (q := 56) dX8_comesAhead_55 rfl ?_
      exact j_zreturn dX8_comesAhead_56 rfl (by decide) (by first | exact bI_t (by omega) | exact bI_f (by omega) | simp [bI, *]) (rfl)
    · refine j_aload0 (q := 35) dX8_comesAhead_34 rfl ?_
      refine j_iload1 (q := 36) dX8_comesAhead_35 rfl ?_
      refine j_bipush (q := 38) dX8_comesAhead_36 rfl rfl ?_
      refine j_callV2 (Mc := iX8_of) (q := 41) (c' := 0) (s' := 0) dX8_comesAhead_38 rfl kV_X8_of jw_1079 ⟨by decide, by decide⟩ sh_197 rfl rfl rfl (Nat.le_refl _) (Nat.le_refl _) (ct_X8_of E (by omega) (by omega)) ?_
      refine j_aload0 (q := 42) dX8_comesAhead_41 rfl ?_
      refine j_iload2 (q := 43) dX8_comesAhead_42 rfl ?_
      refine j_bipush (q := 45) dX8_comesAhead_43 rfl rfl ?_
      refine j_callV2 (Mc := iX8_of) (q := 48) (c' := 0) (s' := 0) dX8_comesAhead_45 rfl kV_X8_of jw_1079 ⟨by decide, by decide⟩ sh_197 rfl rfl rfl (Nat.le_refl _) (Nat.le_refl _) (ct_X8_of E (by omega) (by omega)) ?_
      refine j_icmp_ge (tgt := 55) (q := 51) dX8_comesAhead_48 (by decide) rfl (by first | exact wr_id' (by omega) (by omega) | with_reducible exact wr_bI _ | exact rfl) (by first | exact wr_id' (by omega) (by omega) | with_reducible exact wr_bI _ | exact rfl) (fun h48 => ?_) (fun h48 => ?_)
      · refine j_iconst (q := 56) dX8_comesAhead_55 rfl ?_
        exact j_zreturn dX8_comesAhead_56 rfl (by decide) (by first | exact bI_t (by omega) | exact bI_f (by omega) | simp [bI, *]) (rfl)
      · refine j_iconst (q := 52) dX8_comesAhead_51 rfl ?_
        refine j_goto (tgt := 56) dX8_comesAhead_52 (by decide) ?_
        exact j_zreturn dX8_comesAhead_56 rfl (by decide) (by first | exact bI_t (by omega) | exact bI_f (by omega) | simp [bI, *]) (rfl)
theorem ct_X8_mostOf {G : GX} (E : EV G) {m : Mem} {s : Int} (h1 : 0 ≤ s ∧ s < 8) : CT G SHP iX8_mostOf 0 0 [.inl s] (m) (some (.inl (zMost s))) (m) := by
  refine j_met (L0 := [some (.inl s)]) (by decide) E.1 E.2 rfl (Nat.le_of_ble_eq_true rfl) ?_
  refine j_iload0 (q := 1) dX8_mostOf_0 rfl ?_
  by_cases h1_0 : s = 0
  · refine j_tableIn (x' := s) (tgt := 48) 0 dX8_mostOf_1 (by first | exact wr_id' (by omega) (by omega) | with_reducible exact wr_bI _ | exact rfl) (by omega) (by decide) rfl (by decide) ?_
    refine j_bipush (q := 50) dX8_mostOf_48 rfl rfl ?_
    exact j_ireturn dX8_mostOf_50 rfl (by unfold zMost; split <;> (try split) <;> (try split) <;> first | rfl | omega) (rfl)
  by_cases h1_1 : s = 1
  · refine j_tableIn (x' := s) (tgt := 48) 1 dX8_mostOf_1 (by first | exact wr_id' (by omega) (by omega) | with_reducible exact wr_bI _ | exact rfl) (by omega) (by decide) rfl (by decide) ?_
    refine j_bipush (q := 50) dX8_mostOf_48 rfl rfl ?_
    exact j_ireturn dX8_mostOf_50 rfl (by unfold zMost; split <;> (try split) <;> (try split) <;> first | rfl | omega) (rfl)
  by_cases h1_2 : s = 2
  · refine j_tableIn (x' := s) (tgt := 48) 2 dX8_mostOf_1 (by first | exact wr_id' (by omega) (by omega) | with_reducible exact wr_bI _ | exact rfl) (by omega) (by decide) rfl (by decide) ?_
    refine j_bipush (q := 50) dX8_mostOf_48 rfl rfl ?_
    exact j_ireturn dX8_mostOf_50 rfl (by unfold zMost; split <;> (try split) <;> (try split) <;> first | rfl | omega) (rfl)
  by_cases h1_3 : s = 3
  · refine j_tableIn (x' := s) (tgt := 51) 3 dX8_mostOf_1 (by first | exact wr_id' (by omega) (by omega) | with_reducible exact wr_bI _ | exact rfl) (by omega) (by decide) rfl (by decide) ?_
    refine j_bipush (q := 53) dX8_mostOf_51 rfl rfl ?_
    exact j_ireturn dX8_mostOf_53 rfl (by unfold zMost; split <;> (try split) <;> (try split) <;> first | rfl | omega) (rfl)
  by_cases h1_4 : s = 4
  · refine j_tableIn (x' := s) (tgt := 57) 4 dX8_mostOf_1 (by first | exact wr_id' (by omega) (by omega) | with_reducible exact wr_bI _ | exact rfl) (by omega) (by decide) rfl (by decide) ?_
    refine j_bipush (q := 59) dX8_mostOf_57 rfl rfl ?_
    exact j_ireturn dX8_mostOf_59 rfl (by unfold zMost; split <;> (try split) <;> (try split) <;> first | rfl | omega) (rfl)
  by_cases h1_5 : s = 5
  · refine j_tableIn (x' := s) (tgt := 57) 5 dX8_mostOf_1 (by first | exact wr_id' (by omega) (by omega) | with_reducible exact wr_bI _ | exact rfl) (by omega) (by decide) rfl (by decide) ?_
    refine j_bipush (q := 59) dX8_mostOf_57 rfl rfl ?_
    exact j_ireturn dX8_mostOf_59 rfl (by unfold zMost; split <;> (try split) <;> (try split) <;> first | rfl | omega) (rfl)
  by_cases h1_6 : s = 6
  · refine j_tableIn (x' := s) (tgt := 54) 6 dX8_mostOf_1 (by first | exact wr_id' (by omega) (by omega) | with_reducible exact wr_bI _ | exact rfl) (by omega) (by decide) rfl (by decide) ?_
    refine j_bipush (q := 56) dX8_mostOf_54 rfl rfl ?_
    exact j_ireturn dX8_mostOf_56 rfl (by unfold zMost; split <;> (try split) <;> (try split) <;> first | rfl | omega) (rfl)
  by_cases h1_7 : s = 7
  · refine j_tableIn (x' := s) (tgt := 51) 7 dX8_mostOf_1 (by first | exact wr_id' (by omega) (by omega) | with_reducible exact wr_bI _ | exact rfl) (by omega) (by decide) rfl (by decide) ?_
    refine j_bipush (q := 53) dX8_mostOf_51 rfl rfl ?_
    exact j_ireturn dX8_mostOf_53 rfl (by unfold zMost; split <;> (try split) <;> (try split) <;> first | rfl | omega) (rfl)
  refine j_tableOut (x' := s) (tgt := 57) dX8_mostOf_1 (by first | exact wr_id' (by omega) (by omega) | with_reducible exact wr_bI _ | exact rfl) (by omega) (by decide) ?_
  refine j_bipush (q := 59) dX8_mostOf_57 rfl rfl ?_
  exact j_ireturn dX8_mostOf_59 rfl (by unfold zMost; split <;> (try split) <;> (try split) <;> first | rfl | omega) (rfl)
theorem lp_X8_owedMany {G : GX} (E : EV G) {m : Mem} {z : Z} : ∀ (d : Nat) (c : Int) (n : Int), c + d = 64 → 0 ≤ c → J G SHP iX8_owedMany 0 0 (FN G SHP 0 0 (some (.inl (cntF (zOw z) d c n))) (sz m z)) 4 [some (.inr (.ref 197)), some (.inl n), some (.inl c)] [] (sz m z) 0 0 := by
  intro d
  induction d with
  | zero =>
    intro c n g0 g1
    refine j_iload2 (q := 5) dX8_owedMany_4 rfl ?_
    refine j_bipush (q := 7) dX8_owedMany_5 rfl rfl ?_
    refine j_icmp_ge (tgt := 32) (q := 10) dX8_owedMany_7 (by decide) rfl (by first | exact wr_id' (by omega) (by omega) | with_reducible exact wr_bI _ | exact rfl) (by first | exact wr_id' (by omega) (by omega) | with_reducible exact wr_bI _ | exact rfl) (fun h7 => ?_) (fun h7 => ?_)
    · refine j_iload1 (q := 33) dX8_owedMany_32 rfl ?_
      exact j_ireturn dX8_owedMany_33 rfl (rfl) (rfl)
    · omega
  | succ d ih =>
    intro c n g0 g1
    refine j_iload2 (q := 5) dX8_owedMany_4 rfl ?_
    refine j_bipush (q := 7) dX8_owedMany_5 rfl rfl ?_
    refine j_icmp_ge (tgt := 32) (q := 10) dX8_owedMany_7 (by decide) rfl (by first | exact wr_id' (by omega) (by omega) | with_reducible exact wr_bI _ | exact rfl) (by first | exact wr_id' (by omega) (by omega) | with_reducible exact wr_bI _ | exact rfl) (fun h7 => ?_) (fun h7 => ?_)
    · omega
    · refine j_iload1 (q := 11) dX8_owedMany_10 rfl ?_
      refine j_aload0 (q := 12) dX8_owedMany_11 rfl ?_
      refine j_iload2 (q := 13) dX8_owedMany_12 rfl ?_
      refine j_callV1 (Mc := iX8_isOwed) (q := 16) (c' := 0) (s' := 0) dX8_owedMany_13 rfl kV_X8_isOwed jw_1152 ⟨by decide, by decide⟩ sh_197 rfl rfl rfl (Nat.le_refl _) (Nat.le_refl _) (ct_X8_isOwed E (by omega)) ?_
      refine j_ifeq_b (tgt := 23) (q := 19) dX8_owedMany_16 (by decide) rfl (fun h16 => ?_) (fun h16 => ?_)
      · refine j_iconst (q := 24) dX8_owedMany_23 rfl ?_
        refine j_iadd (q := 25) dX8_owedMany_24 rfl ?_
        refine j_istore1 (q := 26) dX8_owedMany_25 rfl rfl (by decide) ?_
        refine j_iinc2 (q := 29) dX8_owedMany_26 rfl rfl (by decide) ?_
        refine j_goto (tgt := 4) dX8_owedMany_29 (by decide) ?_
        exact j_fin (by first | exact congrArg (fun x => some (Sum.inl x)) (cnt_t (by assumption)) | exact congrArg (fun x => some (Sum.inl x)) (cnt_f (by assumption))) (rfl) (ih _ _ (by omega) (by omega))
      · refine j_iconst (q := 20) dX8_owedMany_19 rfl ?_
        refine j_goto (tgt := 24) dX8_owedMany_20 (by decide) ?_
        refine j_iadd (q := 25) dX8_owedMany_24 rfl ?_
        refine j_istore1 (q := 26) dX8_owedMany_25 rfl rfl (by decide) ?_
        refine j_iinc2 (q := 29) dX8_owedMany_26 rfl rfl (by decide) ?_
        refine j_goto (tgt := 4) dX8_owedMany_29 (by decide) ?_
        exact j_fin (by first | exact congrArg (fun x => some (Sum.inl x)) (cnt_t (by assumption)) | exact congrArg (fun x => some (Sum.inl x)) (cnt_f (by assumption))) (rfl) (ih _ _ (by omega) (by omega))
theorem ct_X8_owedMany {G : GX} (E : EV G) {m : Mem} {z : Z} : CT G SHP iX8_owedMany 0 0 [.inr (.ref 197)] (sz m z) (some (.inl (zOwN z))) (sz m z) := by
  refine j_met (L0 := [some (.inr (.ref 197)), none, none]) (by decide) E.1 E.2 rfl (Nat.le_of_ble_eq_true rfl) ?_
  refine j_iconst (q := 1) dX8_owedMany_0 rfl ?_
  refine j_istore1 (q := 2) dX8_owedMany_1 rfl rfl (by decide) ?_
  refine j_iconst (q := 3) dX8_owedMany_2 rfl ?_
  refine j_istore2 (q := 4) dX8_owedMany_3 rfl rfl (by decide) ?_
  exact lp_X8_owedMany E 64 0 0 (by omega) (by omega)
theorem lp_X8_disturbs {G : GX} (E : EV G) {m : Mem} {z : Z} {k w : Int} (h1 : 0 ≤ k ∧ k < 64) (h2 : 0 ≤ w ∧ w < 10) : ∀ (d : Nat) (c : Int) (n : Int), c + d = 64 → 0 ≤ c → J G SHP iX8_disturbs 0 0 (FN G SHP 0 0 (some (.inl (cntF (fun c => zIs z w c && zLin k c && zWk z c) d c n))) (sz m z)) 5 [some (.inr (.ref 197)), some (.inl k), some (.inl w), some (.inl n), some (.inl c), none] [] (sz m z) 0 0 := by
  intro d
  induction d with
  | zero =>
    intro c n g0 g1
    refine j_iload4 (q := 7) dX8_disturbs_5 rfl ?_
    refine j_bipush (q := 9) dX8_disturbs_7 rfl rfl ?_
    refine j_icmp_ge (tgt := 93) (q := 12) dX8_disturbs_9 (by decide) rfl (by first | exact wr_id' (by omega) (by omega) | with_reducible exact wr_bI _ | exact rfl) (by first | exact wr_id' (by omega) (by omega) | with_reducible exact wr_bI _ | exact rfl) (fun h9 => ?_) (fun h9 => ?_)
    · refine j_iload3 (q := 94) dX8_disturbs_93 rfl ?_
      exact j_ireturn dX8_disturbs_94 rfl (rfl) (rfl)
    · omega
  | succ d ih =>
    intro c n g0 g1
    refine j_iload4 (q := 7) dX8_disturbs_5 rfl ?_
    refine j_bipush (q := 9) dX8_disturbs_7 rfl rfl ?_
    refine j_icmp_ge (tgt := 93) (q := 12) dX8_disturbs_9 (by decide) rfl (by first | exact wr_id' (by omega) (by omega) | with_reducible exact wr_bI _ | exact rfl) (by first | exact wr_id' (by omega) (by omega) | with_reducible exact wr_bI _ | exact rfl) (fun h9 => ?_) (fun h9 => ?_)
    · omega
    · refine j_iload2 (q := 13) dX8_disturbs_12 rfl ?_
      refine j_if_eq (tgt := 49) (q := 16) dX8_disturbs_13 (by decide) rfl (by first | exact wr_id' (by omega) (by omega) | with_reducible exact wr_bI _ | exact rfl) (fun h13 => ?_) (fun h13 => ?_)
      · refine j_iconst (q := 50) dX8_disturbs_49 rfl ?_
        refine j_goto (tgt := 54) dX8_disturbs_50 (by decide) ?_
        refine j_istore5 (q := 56) dX8_disturbs_54 rfl rfl (by decide) ?_
        refine j_iload3 (q := 57) dX8_disturbs_56 rfl ?_
        refine j_iload5 (q := 59) dX8_disturbs_57 rfl ?_
        refine j_if_eq (tgt := 84) (q := 62) dX8_disturbs_59 (by decide) rfl (by first | exact wr_id' (by omega) (by omega) | with_reducible exact wr_bI _ | exact rfl) (fun h59 => ?_) (fun h59 => ?_)
        · omega
        · refine j_iload1 (q := 63) dX8_disturbs_62 rfl ?_
          refine j_iload4 (q := 65) dX8_disturbs_63 rfl ?_
          refine j_callS2 (Mc := iX8_areInLine) (q := 68) (c' := 0) (s' := 0) dX8_disturbs_65 rfl kS_X8_areInLine jw_1134 ⟨by decide, by decide⟩ rfl (Nat.le_refl _) (Nat.le_refl _) (ct_X8_areInLine E (by omega) (by omega)) ?_
          refine j_ifeq_b (tgt := 84) (q := 71) dX8_disturbs_68 (by decide) rfl (fun h68 => ?_) (fun h68 => ?_)
          · refine j_iconst (q := 85) dX8_disturbs_84 rfl ?_
            refine j_iadd (q := 86) dX8_disturbs_85 rfl ?_
            refine j_istore3 (q := 87) dX8_disturbs_86 rfl rfl (by decide) ?_
            refine j_iinc4 (q := 90) dX8_disturbs_87 rfl rfl (by decide) ?_
            refine j_goto (tgt := 5) dX8_disturbs_90 (by decide) ?_
            refine j_fgt5 ?_
            exact j_fin (by first | exact congrArg (fun x => some (Sum.inl x)) (cnt_t (by grind [zIs])) | exact congrArg (fun x => some (Sum.inl x)) (cnt_f (by grind [zIs]))) (rfl) (ih _ _ (by omega) (by omega))
          · refine j_aload0 (q := 72) dX8_disturbs_71 rfl ?_
            refine j_iload4 (q := 74) dX8_disturbs_72 rfl ?_
            refine j_callV1 (Mc := iX8_isWeak) (q := 77) (c' := 0) (s' := 0) dX8_disturbs_74 rfl kV_X8_isWeak jw_1137 ⟨by decide, by decide⟩ sh_197 rfl rfl rfl (Nat.le_refl _) (Nat.le_refl _) (ct_X8_isWeak E (by omega)) ?_
            refine j_ifeq_b (tgt := 84) (q := 80) dX8_disturbs_77 (by decide) rfl (fun h77 => ?_) (fun h77 => ?_)
            · refine j_iconst (q := 85) dX8_disturbs_84 rfl ?_
              refine j_iadd (q := 86) dX8_disturbs_85 rfl ?_
              refine j_istore3 (q := 87) dX8_disturbs_86 rfl rfl (by decide) ?_
              refine j_iinc4 (q := 90) dX8_disturbs_87 rfl rfl (by decide) ?_
              refine j_goto (tgt := 5) dX8_disturbs_90 (by decide) ?_
              refine j_fgt5 ?_
              exact j_fin (by first | exact congrArg (fun x => some (Sum.inl x)) (cnt_t (by grind [zIs])) | exact congrArg (fun x => some (Sum.inl x)) (cnt_f (by grind [zIs]))) (rfl) (ih _ _ (by omega) (by omega))
            · refine j_iconst (q := 81) dX8_disturbs_80 rfl ?_
              refine j_goto (tgt := 85) dX8_disturbs_81 (by decide) ?_
              refine j_iadd (q := 86) dX8_disturbs_85 rfl ?_
              refine j_istore3 (q := 87) dX8_disturbs_86 rfl rfl (by decide) ?_
              refine j_iinc4 (q := 90) dX8_disturbs_87 rfl rfl (by decide) ?_
              refine j_goto (tgt := 5) dX8_disturbs_90 (by decide) ?_
              refine j_fgt5 ?_
              exact j_fin (by first | exact congrArg (fun x => some (Sum.inl x)) (cnt_t (by grind [zIs])) | exact congrArg (fun x => some (Sum.inl x)) (cnt_f (by grind [zIs]))) (rfl) (ih _ _ (by omega) (by omega))
      · refine j_iload2 (q := 17) dX8_disturbs_16 rfl ?_
        refine j_iconst (q := 18) dX8_disturbs_17 rfl ?_
        refine j_icmp_ne (tgt := 31) (q := 21) dX8_disturbs_18 (by decide) rfl (by first | exact wr_id' (by omega) (by omega) | with_reducible exact wr_bI _ | exact rfl) (by first | exact wr_id' (by omega) (by omega) | with_reducible exact wr_bI _ | exact rfl) (fun h18 => ?_) (fun h18 => ?_)
        · refine j_iload2 (q := 32) dX8_disturbs_31 rfl ?_
          refine j_iconst (q := 33) dX8_disturbs_32 rfl ?_
          refine j_icmp_le (tgt := 53) (q := 36) dX8_disturbs_33 (by decide) rfl (by first | exact wr_id' (by omega) (by omega) | with_reducible exact wr_bI _ | exact rfl) (by first | exact wr_id' (by omega) (by omega) | with_reducible exact wr_bI _ | exact rfl) (fun h33 => ?_) (fun h33 => ?_)
          · refine j_iconst (q := 54) dX8_disturbs_53 rfl ?_
            refine j_istore5 (q := 56) dX8_disturbs_54 rfl rfl (by decide) ?_
            refine j_iload3 (q := 57) dX8_disturbs_56 rfl ?_
            refine j_iload5 (q := 59) dX8_disturbs_57 rfl ?_
            refine j_if_eq (tgt := 84) (q := 62) dX8_disturbs_59 (by decide) rfl (by first | exact wr_id' (by omega) (by omega) | with_reducible exact wr_bI _ | exact rfl) (fun h59 => ?_) (fun h59 => ?_)
            · refine j_iconst (q := 85) dX8_disturbs_84 rfl ?_
              refine j_iadd (q := 86) dX8_disturbs_85 rfl ?_
              refine j_istore3 (q := 87) dX8_disturbs_86 rfl rfl (by decide) ?_
              refine j_iinc4 (q := 90) dX8_disturbs_87 rfl rfl (by decide) ?_
              refine j_goto (tgt := 5) dX8_disturbs_90 (by decide) ?_
              refine j_fgt5 ?_
              exact j_fin (by first | exact congrArg (fun x => some (Sum.inl x)) (cnt_t (by grind [zIs])) | exact congrArg (fun x => some (Sum.inl x)) (cnt_f (by grind [zIs]))) (rfl) (ih _ _ (by omega) (by omega))
            · omega
          · refine j_aload0 (q := 37) dX8_disturbs_36 rfl ?_
            refine j_iload4 (q := 39) dX8_disturbs_37 rfl ?_
            refine j_iconst (q := 40) dX8_disturbs_39 rfl ?_
            refine j_callV2 (Mc := iX8_of) (q := 43) (c' := 0) (s' := 0) dX8_disturbs_40 rfl kV_X8_of jw_1079 ⟨by decide, by decide⟩ sh_197 rfl rfl rfl (Nat.le_refl _) (Nat.le_refl _) (ct_X8_of E (by omega) (by omega)) ?_
            refine j_iload2 (q := 44) dX8_disturbs_43 rfl ?_
            refine j_iconst (q := 45) dX8_disturbs_44 rfl ?_
            refine j_isub (q := 46) dX8_disturbs_45 rfl ?_
            refine j_icmp_ne (tgt := 53) (q := 49) dX8_disturbs_46 (by decide) rfl (by first | exact wr_id' (by omega) (by omega) | with_reducible exact wr_bI _ | exact rfl) (by first | exact wr_id' (by omega) (by omega) | with_reducible exact wr_bI _ | exact rfl) (fun h46 => ?_) (fun h46 => ?_)
            · refine j_iconst (q := 54) dX8_disturbs_53 rfl ?_
              refine j_istore5 (q := 56) dX8_disturbs_54 rfl rfl (by decide) ?_
              refine j_iload3 (q := 57) dX8_disturbs_56 rfl ?_
              refine j_iload5 (q := 59) dX8_disturbs_57 rfl ?_
              refine j_if_eq (tgt := 84) (q := 62) dX8_disturbs_59 (by decide) rfl (by first | exact wr_id' (by omega) (by omega) | with_reducible exact wr_bI _ | exact rfl) (fun h59 => ?_) (fun h59 => ?_)
              · refine j_iconst (q := 85) dX8_disturbs_84 rfl ?_
                refine j_iadd (q := 86) dX8_disturbs_85 rfl ?_
                refine j_istore3 (q := 87) dX8_disturbs_86 rfl rfl (by decide) ?_
                refine j_iinc4 (q := 90) dX8_disturbs_87 rfl rfl (by decide) ?_
                refine j_goto (tgt := 5) dX8_disturbs_90 (by decide) ?_
                refine j_fgt5 ?_
                exact j_fin (by first | exact congrArg (fun x => some (Sum.inl x)) (cnt_t (by grind [zIs])) | exact congrArg (fun x => some (Sum.inl x)) (cnt_f (by grind [zIs]))) (rfl) (ih _ _ (by omega) (by omega))
              · omega
            · refine j_iconst (q := 50) dX8_disturbs_49 rfl ?_
              refine j_goto (tgt := 54) dX8_disturbs_50 (by decide) ?_
              refine j_istore5 (q := 56) dX8_disturbs_54 rfl rfl (by decide) ?_
              refine j_iload3 (q := 57) dX8_disturbs_56 rfl ?_
              refine j_iload5 (q := 59) dX8_disturbs_57 rfl ?_
              refine j_if_eq (tgt := 84) (q := 62) dX8_disturbs_59 (by decide) rfl (by first | exact wr_id' (by omega) (by omega) | with_reducible exact wr_bI _ | exact rfl) (fun h59 => ?_) (fun h59 => ?_)
              · omega
              · refine j_iload1 (q := 63) dX8_disturbs_62 rfl ?_
                refine j_iload4 (q := 65) dX8_disturbs_63 rfl ?_
                refine j_callS2 (Mc := iX8_areInLine) (q := 68) (c' := 0) (s' := 0) dX8_disturbs_65 rfl kS_X8_areInLine jw_1134 ⟨by decide, by decide⟩ rfl (Nat.le_refl _) (Nat.le_refl _) (ct_X8_areInLine E (by omega) (by omega)) ?_
                refine j_ifeq_b (tgt := 84) (q := 71) dX8_disturbs_68 (by decide) rfl (fun h68 => ?_) (fun h68 => ?_)
                · refine j_iconst (q := 85) dX8_disturbs_84 rfl ?_
                  refine j_iadd (q := 86) dX8_disturbs_85 rfl ?_
                  refine j_istore3 (q := 87) dX8_disturbs_86 rfl rfl (by decide) ?_
                  refine j_iinc4 (q := 90) dX8_disturbs_87 rfl rfl (by decide) ?_
                  refine j_goto (tgt := 5) dX8_disturbs_90 (by decide) ?_
                  refine j_fgt5 ?_
                  exact j_fin (by first | exact congrArg (fun x => some (Sum.inl x)) (cnt_t (by grind [zIs])) | exact congrArg (fun x => some (Sum.inl x)) (cnt_f (by grind [zIs]))) (rfl) (ih _ _ (by omega) (by omega))
                · refine j_aload0 (q := 72) dX8_disturbs_71 rfl ?_
                  refine j_iload4 (q := 74) dX8_disturbs_72 rfl ?_
                  refine j_callV1 (Mc := iX8_isWeak) (q := 77) (c' := 0) (s' := 0) dX8_disturbs_74 rfl kV_X8_isWeak jw_1137 ⟨by decide, by decide⟩ sh_197 rfl rfl rfl (Nat.le_refl _) (Nat.le_refl _) (ct_X8_isWeak E (by omega)) ?_
                  refine j_ifeq_b (tgt := 84) (q := 80) dX8_disturbs_77 (by decide) rfl (fun h77 => ?_) (fun h77 => ?_)
                  · refine j_iconst (q := 85) dX8_disturbs_84 rfl ?_
                    refine j_iadd (q := 86) dX8_disturbs_85 rfl ?_
                    refine j_istore3 (q := 87) dX8_disturbs_86 rfl rfl (by decide) ?_
                    refine j_iinc4 (q := 90) dX8_disturbs_87 rfl rfl (by decide) ?_
                    refine j_goto (tgt := 5) dX8_disturbs_90 (by decide) ?_
                    refine j_fgt5 ?_
                    exact j_fin (by first | exact congrArg (fun x => some (Sum.inl x)) (cnt_t (by grind [zIs])) | exact congrArg (fun x => some (Sum.inl x)) (cnt_f (by grind [zIs]))) (rfl) (ih _ _ (by omega) (by omega))
                  · refine j_iconst (q := 81) dX8_disturbs_80 rfl ?_
                    refine j_goto (tgt := 85) dX8_disturbs_81 (by decide) ?_
                    refine j_iadd (q := 86) dX8_disturbs_85 rfl ?_
                    refine j_istore3 (q := 87) dX8_disturbs_86 rfl rfl (by decide) ?_
                    refine j_iinc4 (q := 90) dX8_disturbs_87 rfl rfl (by decide) ?_
                    refine j_goto (tgt := 5) dX8_disturbs_90 (by decide) ?_
                    refine j_fgt5 ?_
                    exact j_fin (by first | exact congrArg (fun x => some (Sum.inl x)) (cnt_t (by grind [zIs])) | exact congrArg (fun x => some (Sum.inl x)) (cnt_f (by grind [zIs]))) (rfl) (ih _ _ (by omega) (by omega))
        · refine j_aload0 (q := 22) dX8_disturbs_21 rfl ?_
          refine j_iload4 (q := 24) dX8_disturbs_22 rfl ?_
          refine j_iconst (q := 25) dX8_disturbs_24 rfl ?_
          refine j_callV2 (Mc := iX8_of) (q := 28) (c' := 0) (s' := 0) dX8_disturbs_25 rfl kV_X8_of jw_1079 ⟨by decide, by decide⟩ sh_197 rfl rfl rfl (Nat.le_refl _) (Nat.le_refl _) (ct_X8_of E (by omega) (by omega)) ?_
          refine j_if_gt (tgt := 49) (q := 31) dX8_disturbs_28 (by decide) rfl (by first | exact wr_id' (by omega) (by omega) | with_reducible exact wr_bI _ | exact rfl) (fun h28 => ?_) (fun h28 => ?_)
          · refine j_iconst (q := 50) dX8_disturbs_49 rfl ?_
            refine j_goto (tgt := 54) dX8_disturbs_50 (by decide) ?_
            refine j_istore5 (q := 56) dX8_disturbs_54 rfl rfl (by decide) ?_
            refine j_iload3 (q := 57) dX8_disturbs_56 rfl ?_
            refine j_iload5 (q := 59) dX8_disturbs_57 rfl ?_
            refine j_if_eq (tgt := 84) (q := 62) dX8_disturbs_59 (by decide) rfl (by first | exact wr_id' (by omega) (by omega) | with_reducible exact wr_bI _ | exact rfl) (fun h59 => ?_) (fun h59 => ?_)
            · omega
            · refine j_iload1 (q := 63) dX8_disturbs_62 rfl ?_
              refine j_iload4 (q := 65) dX8_disturbs_63 rfl ?_
              refine j_callS2 (Mc := iX8_areInLine) (q := 68) (c' := 0) (s' := 0) dX8_disturbs_65 rfl kS_X8_areInLine jw_1134 ⟨by decide, by decide⟩ rfl (Nat.le_refl _) (Nat.le_refl _) (ct_X8_areInLine E (by omega) (by omega)) ?_
              refine j_ifeq_b (tgt := 84) (q := 71) dX8_disturbs_68 (by decide) rfl (fun h68 => ?_) (fun h68 => ?_)
              · refine j_iconst (q := 85) dX8_disturbs_84 rfl ?_
                refine j_iadd (q := 86) dX8_disturbs_85 rfl ?_
                refine j_istore3 (q := 87) dX8_disturbs_86 rfl rfl (by decide) ?_
                refine j_iinc4 (q := 90) dX8_disturbs_87 rfl rfl (by decide) ?_
                refine j_goto (tgt := 5) dX8_disturbs_90 (by decide) ?_
                refine j_fgt5 ?_
                exact j_fin (by first | exact congrArg (fun x => some (Sum.inl x)) (cnt_t (by grind [zIs])) | exact congrArg (fun x => some (Sum.inl x)) (cnt_f (by grind [zIs]))) (rfl) (ih _ _ (by omega) (by omega))
              · refine j_aload0 (q := 72) dX8_disturbs_71 rfl ?_
                refine j_iload4 (q := 74) dX8_disturbs_72 rfl ?_
                refine j_callV1 (Mc := iX8_isWeak) (q := 77) (c' := 0) (s' := 0) dX8_disturbs_74 rfl kV_X8_isWeak jw_1137 ⟨by decide, by decide⟩ sh_197 rfl rfl rfl (Nat.le_refl _) (Nat.le_refl _) (ct_X8_isWeak E (by omega)) ?_
                refine j_ifeq_b (tgt := 84) (q := 80) dX8_disturbs_77 (by decide) rfl (fun h77 => ?_) (fun h77 => ?_)
                · refine j_iconst (q := 85) dX8_disturbs_84 rfl ?_
                  refine j_iadd (q := 86) dX8_disturbs_85 rfl ?_
                  refine j_istore3 (q := 87) dX8_disturbs_86 rfl rfl (by decide) ?_
                  refine j_iinc4 (q := 90) dX8_disturbs_87 rfl rfl (by decide) ?_
                  refine j_goto (tgt := 5) dX8_disturbs_90 (by decide) ?_
                  refine j_fgt5 ?_
                  exact j_fin (by first | exact congrArg (fun x => some (Sum.inl x)) (cnt_t (by grind [zIs])) | exact congrArg (fun x => some (Sum.inl x)) (cnt_f (by grind [zIs]))) (rfl) (ih _ _ (by omega) (by omega))
                · refine j_iconst (q := 81) dX8_disturbs_80 rfl ?_
                  refine j_goto (tgt := 85) dX8_disturbs_81 (by decide) ?_
                  refine j_iadd (q := 86) dX8_disturbs_85 rfl ?_
                  refine j_istore3 (q := 87) dX8_disturbs_86 rfl rfl (by decide) ?_
                  refine j_iinc4 (q := 90) dX8_disturbs_87 rfl rfl (by decide) ?_
                  refine j_goto (tgt := 5) dX8_disturbs_90 (by decide) ?_
                  refine j_fgt5 ?_
                  exact j_fin (by first | exact congrArg (fun x => some (Sum.inl x)) (cnt_t (by grind [zIs])) | exact congrArg (fun x => some (Sum.inl x)) (cnt_f (by grind [zIs]))) (rfl) (ih _ _ (by omega) (by omega))
          · refine j_iload2 (q := 32) dX8_disturbs_31 rfl ?_
            refine j_iconst (q := 33) dX8_disturbs_32 rfl ?_
            refine j_icmp_le (tgt := 53) (q := 36) dX8_disturbs_33 (by decide) rfl (by first | exact wr_id' (by omega) (by omega) | with_reducible exact wr_bI _ | exact rfl) (by first | exact wr_id' (by omega) (by omega) | with_reducible exact wr_bI _ | exact rfl) (fun h33 => ?_) (fun h33 => ?_)
            · refine j_iconst (q := 54) dX8_disturbs_53 rfl ?_
              refine j_istore5 (q := 56) dX8_disturbs_54 rfl rfl (by decide) ?_
              refine j_iload3 (q := 57) dX8_disturbs_56 rfl ?_
              refine j_iload5 (q := 59) dX8_disturbs_57 rfl ?_
              refine j_if_eq (tgt := 84) (q := 62) dX8_disturbs_59 (by decide) rfl (by first | exact wr_id' (by omega) (by omega) | with_reducible exact wr_bI _ | exact rfl) (fun h59 => ?_) (fun h59 => ?_)
              · refine j_iconst (q := 85) dX8_disturbs_84 rfl ?_
                refine j_iadd (q := 86) dX8_disturbs_85 rfl ?_
                refine j_istore3 (q := 87) dX8_disturbs_86 rfl rfl (by decide) ?_
                refine j_iinc4 (q := 90) dX8_disturbs_87 rfl rfl (by decide) ?_
                refine j_goto (tgt := 5) dX8_disturbs_90 (by decide) ?_
                refine j_fgt5 ?_
                exact j_fin (by first | exact congrArg (fun x => some (Sum.inl x)) (cnt_t (by grind [zIs])) | exact congrArg (fun x => some (Sum.inl x)) (cnt_f (by grind [zIs]))) (rfl) (ih _ _ (by omega) (by omega))
              · omega
            · refine j_aload0 (q := 37) dX8_disturbs_36 rfl ?_
              refine j_iload4 (q := 39) dX8_disturbs_37 rfl ?_
              refine j_iconst (q := 40) dX8_disturbs_39 rfl ?_
              refine j_callV2 (Mc := iX8_of) (q := 43) (c' := 0) (s' := 0) dX8_disturbs_40 rfl kV_X8_of jw_1079 ⟨by decide, by decide⟩ sh_197 rfl rfl rfl (Nat.le_refl _) (Nat.le_refl _) (ct_X8_of E (by omega) (by omega)) ?_
              refine j_iload2 (q := 44) dX8_disturbs_43 rfl ?_
              refine j_iconst (q := 45) dX8_disturbs_44 rfl ?_
              refine j_isub (q := 46) dX8_disturbs_45 rfl ?_
              refine j_icmp_ne (tgt := 53) (q := 49) dX8_disturbs_46 (by decide) rfl (by first | exact wr_id' (by omega) (by omega) | with_reducible exact wr_bI _ | exact rfl) (by first | exact wr_id' (by omega) (by omega) | with_reducible exact wr_bI _ | exact rfl) (fun h46 => ?_) (fun h46 => ?_)
              · refine j_iconst (q := 54) dX8_disturbs_53 rfl ?_
                refine j_istore5 (q := 56) dX8_disturbs_54 rfl rfl (by decide) ?_
                refine j_iload3 (q := 57) dX8_disturbs_56 rfl ?_
                refine j_iload5 (q := 59) dX8_disturbs_57 rfl ?_
                refine j_if_eq (tgt := 84) (q := 62) dX8_disturbs_59 (by decide) rfl (by first | exact wr_id' (by omega) (by omega) | with_reducible exact wr_bI _ | exact rfl) (fun h59 => ?_) (fun h59 => ?_)
                · refine j_iconst (q := 85) dX8_disturbs_84 rfl ?_
                  refine j_iadd (q := 86) dX8_disturbs_85 rfl ?_
                  refine j_istore3 (q := 87) dX8_disturbs_86 rfl rfl (by decide) ?_
                  refine j_iinc4 (q := 90) dX8_disturbs_87 rfl rfl (by decide) ?_
                  refine j_goto (tgt := 5) dX8_disturbs_90 (by decide) ?_
                  refine j_fgt5 ?_
                  exact j_fin (by first | exact congrArg (fun x => some (Sum.inl x)) (cnt_t (by grind [zIs])) | exact congrArg (fun x => some (Sum.inl x)) (cnt_f (by grind [zIs]))) (rfl) (ih _ _ (by omega) (by omega))
                · omega
              · refine j_iconst (q := 50) dX8_disturbs_49 rfl ?_
                refine j_goto (tgt := 54) dX8_disturbs_50 (by decide) ?_
                refine j_istore5 (q := 56) dX8_disturbs_54 rfl rfl (by decide) ?_
                refine j_iload3 (q := 57) dX8_disturbs_56 rfl ?_
                refine j_iload5 (q := 59) dX8_disturbs_57 rfl ?_
                refine j_if_eq (tgt := 84) (q := 62) dX8_disturbs_59 (by decide) rfl (by first | exact wr_id' (by omega) (by omega) | with_reducible exact wr_bI _ | exact rfl) (fun h59 => ?_) (fun h59 => ?_)
                · omega
                · refine j_iload1 (q := 63) dX8_disturbs_62 rfl ?_
                  refine j_iload4 (q := 65) dX8_disturbs_63 rfl ?_
                  refine j_callS2 (Mc := iX8_areInLine) (q := 68) (c' := 0) (s' := 0) dX8_disturbs_65 rfl kS_X8_areInLine jw_1134 ⟨by decide, by decide⟩ rfl (Nat.le_refl _) (Nat.le_refl _) (ct_X8_areInLine E (by omega) (by omega)) ?_
                  refine j_ifeq_b (tgt := 84) (q := 71) dX8_disturbs_68 (by decide) rfl (fun h68 => ?_) (fun h68 => ?_)
                  · refine j_iconst (q := 85) dX8_disturbs_84 rfl ?_
                    refine j_iadd (q := 86) dX8_disturbs_85 rfl ?_
                    refine j_istore3 (q := 87) dX8_disturbs_86 rfl rfl (by decide) ?_
                    refine j_iinc4 (q := 90) dX8_disturbs_87 rfl rfl (by decide) ?_
                    refine j_goto (tgt := 5) dX8_disturbs_90 (by decide) ?_
                    refine j_fgt5 ?_
                    exact j_fin (by first | exact congrArg (fun x => some (Sum.inl x)) (cnt_t (by grind [zIs])) | exact congrArg (fun x => some (Sum.inl x)) (cnt_f (by grind [zIs]))) (rfl) (ih _ _ (by omega) (by omega))
                  · refine j_aload0 (q := 72) dX8_disturbs_71 rfl ?_
                    refine j_iload4 (q := 74) dX8_disturbs_72 rfl ?_
                    refine j_callV1 (Mc := iX8_isWeak) (q := 77) (c' := 0) (s' := 0) dX8_disturbs_74 rfl kV_X8_isWeak jw_1137 ⟨by decide, by decide⟩ sh_197 rfl rfl rfl (Nat.le_refl _) (Nat.le_refl _) (ct_X8_isWeak E (by omega)) ?_
                    refine j_ifeq_b (tgt := 84) (q := 80) dX8_disturbs_77 (by decide) rfl (fun h77 => ?_) (fun h77 => ?_)
                    · refine j_iconst (q := 85) dX8_disturbs_84 rfl ?_
                      refine j_iadd (q := 86) dX8_disturbs_85 rfl ?_
                      refine j_istore3 (q := 87) dX8_disturbs_86 rfl rfl (by decide) ?_
                      refine j_iinc4 (q := 90) dX8_disturbs_87 rfl rfl (by decide) ?_
                      refine j_goto (tgt := 5) dX8_disturbs_90 (by decide) ?_
                      refine j_fgt5 ?_
                      exact j_fin (by first | exact congrArg (fun x => some (Sum.inl x)) (cnt_t (by grind [zIs])) | exact congrArg (fun x => some (Sum.inl x)) (cnt_f (by grind [zIs]))) (rfl) (ih _ _ (by omega) (by omega))
                    · refine j_iconst (q := 81) dX8_disturbs_80 rfl ?_
                      refine j_goto (tgt := 85) dX8_disturbs_81 (by decide) ?_
                      refine j_iadd (q := 86) dX8_disturbs_85 rfl ?_
                      refine j_istore3 (q := 87) dX8_disturbs_86 rfl rfl (by decide) ?_
                      refine j_iinc4 (q := 90) dX8_disturbs_87 rfl rfl (by decide) ?_
                      refine j_goto (tgt := 5) dX8_disturbs_90 (by decide) ?_
                      refine j_fgt5 ?_
                      exact j_fin (by first | exact congrArg (fun x => some (Sum.inl x)) (cnt_t (by grind [zIs])) | exact congrArg (fun x => some (Sum.inl x)) (cnt_f (by grind [zIs]))) (rfl) (ih _ _ (by omega) (by omega))
theorem ct_X8_disturbs {G : GX} (E : EV G) {m : Mem} {z : Z} {k : Int} {w : Int} (h1 : 0 ≤ k ∧ k < 64) (h2 : 0 ≤ w ∧ w < 10) : CT G SHP iX8_disturbs 0 0 [.inr (.ref 197), .inl k, .inl w] (sz m z) (some (.inl (zDis z k w))) (sz m z) := by
  refine j_met (L0 := [some (.inr (.ref 197)), some (.inl k), some (.inl w), none, none, none]) (by decide) E.1 E.2 rfl (Nat.le_of_ble_eq_true rfl) ?_
  refine j_iconst (q := 1) dX8_disturbs_0 rfl ?_
  refine j_istore3 (q := 2) dX8_disturbs_1 rfl rfl (by decide) ?_
  refine j_iconst (q := 3) dX8_disturbs_2 rfl ?_
  refine j_istore4 (q := 5) dX8_disturbs_3 rfl rfl (by decide) ?_
  exact lp_X8_disturbs E h1 h2 64 0 0 (by omega) (by omega)
theorem lp_X8_coresOf {G : GX} (E : EV G) {m : Mem} {z : Z} {t : Int} {b : Bool} (h1 : 0 ≤ t ∧ t < 6) : ∀ (d : Nat) (c : Int) (n : Int), c + d = 64 → 0 ≤ c → J G SHP iX8_coresOf 0 0 (FN G SHP 0 0 (some (.inl (cntF (fun c => decide (wr (z (59 + 9 * c + 2)) = t + 1) && (!b || decide (0 < wr (z (59 + 9 * c + 4))))) d c n))) (sz m z)) 5 [some (.inr (.ref 197)), some (.inl t), some (.inl (bI b)), some (.inl n), some (.inl c)] [] (sz m z) 0 0 := by
  intro d
  induction d with
  | zero =>
    intro c n g0 g1
    refine j_iload4 (q := 7) dX8_coresOf_5 rfl ?_
    refine j_bipush (q := 9) dX8_coresOf_7 rfl rfl ?_
    refine j_icmp_ge (tgt := 53) (q := 12) dX8_coresOf_9 (by decide) rfl (by first | exact wr_id' (by omega) (by omega) | with_reducible exact wr_bI _ | exact rfl) (by first | exact wr_id' (by omega) (by omega) | with_reducible exact wr_bI _ | exact rfl) (fun h9 => ?_) (fun h9 => ?_)
    · refine j_iload3 (q := 54) dX8_coresOf_53 rfl ?_
      exact j_ireturn dX8_coresOf_54 rfl (rfl) (rfl)
    · omega
  | succ d ih =>
    intro c n g0 g1
    refine j_iload4 (q := 7) dX8_coresOf_5 rfl ?_
    refine j_bipush (q := 9) dX8_coresOf_7 rfl rfl ?_
    refine j_icmp_ge (tgt := 53) (q := 12) dX8_coresOf_9 (by decide) rfl (by first | exact wr_id' (by omega) (by omega) | with_reducible exact wr_bI _ | exact rfl) (by first | exact wr_id' (by omega) (by omega) | with_reducible exact wr_bI _ | exact rfl) (fun h9 => ?_) (fun h9 => ?_)
    · omega
    · refine j_iload3 (q := 13) dX8_coresOf_12 rfl ?_
      refine j_aload0 (q := 14) dX8_coresOf_13 rfl ?_
      refine j_iload4 (q := 16) dX8_coresOf_14 rfl ?_
      refine j_iconst (q := 17) dX8_coresOf_16 rfl ?_
      refine j_callV2 (Mc := iX8_of) (q := 20) (c' := 0) (s' := 0) dX8_coresOf_17 rfl kV_X8_of jw_1079 ⟨by decide, by decide⟩ sh_197 rfl rfl rfl (Nat.le_refl _) (Nat.le_refl _) (ct_X8_of E (by omega) (by omega)) ?_
      refine j_iload1 (q := 21) dX8_coresOf_20 rfl ?_
      refine j_iconst (q := 22) dX8_coresOf_21 rfl ?_
      refine j_iadd (q := 23) dX8_coresOf_22 rfl ?_
      refine j_icmp_ne (tgt := 44) (q := 26) dX8_coresOf_23 (by decide) rfl (by first | exact wr_id' (by omega) (by omega) | with_reducible exact wr_bI _ | exact rfl) (by first | exact wr_id' (by omega) (by omega) | with_reducible exact wr_bI _ | exact rfl) (fun h23 => ?_) (fun h23 => ?_)
      · refine j_iconst (q := 45) dX8_coresOf_44 rfl ?_
        refine j_iadd (q := 46) dX8_coresOf_45 rfl ?_
        refine j_istore3 (q := 47) dX8_coresOf_46 rfl rfl (by decide) ?_
        refine j_iinc4 (q := 50) dX8_coresOf_47 rfl rfl (by decide) ?_
        refine j_goto (tgt := 5) dX8_coresOf_50 (by decide) ?_
        exact j_fin (by first | exact congrArg (fun x => some (Sum.inl x)) (cnt_t (by grind)) | exact congrArg (fun x => some (Sum.inl x)) (cnt_f (by grind))) (rfl) (ih _ _ (by omega) (by omega))
      · refine j_iload2 (q := 27) dX8_coresOf_26 rfl ?_
        refine j_ifeq_b (tgt := 40) (q := 30) dX8_coresOf_27 (by decide) rfl (fun h27 => ?_) (fun h27 => ?_)
        · refine j_iconst (q := 41) dX8_coresOf_40 rfl ?_
          refine j_goto (tgt := 45) dX8_coresOf_41 (by decide) ?_
          refine j_iadd (q := 46) dX8_coresOf_45 rfl ?_
          refine j_istore3 (q := 47) dX8_coresOf_46 rfl rfl (by decide) ?_
          refine j_iinc4 (q := 50) dX8_coresOf_47 rfl rfl (by decide) ?_
          refine j_goto (tgt := 5) dX8_coresOf_50 (by decide) ?_
          exact j_fin (by first | exact congrArg (fun x => some (Sum.inl x)) (cnt_t (by grind)) | exact congrArg (fun x => some (Sum.inl x)) (cnt_f (by grind))) (rfl) (ih _ _ (by omega) (by omega))
        · refine j_aload0 (q := 31) dX8_coresOf_30 rfl ?_
          refine j_iload4 (q := 33) dX8_coresOf_31 rfl ?_
          refine j_iconst (q := 34) dX8_coresOf_33 rfl ?_
          refine j_callV2 (Mc := iX8_of) (q := 37) (c' := 0) (s' := 0) dX8_coresOf_34 rfl kV_X8_of jw_1079 ⟨by decide, by decide⟩ sh_197 rfl rfl rfl (Nat.le_refl _) (Nat.le_refl _) (ct_X8_of E (by omega) (by omega)) ?_
          refine j_if_le (tgt := 44) (q := 40) dX8_coresOf_37 (by decide) rfl (by first | exact wr_id' (by omega) (by omega) | with_reducible exact wr_bI _ | exact rfl) (fun h37 => ?_) (fun h37 => ?_)
          · refine j_iconst (q := 45) dX8_coresOf_44 rfl ?_
            refine j_iadd (q := 46) dX8_coresOf_45 rfl ?_
            refine j_istore3 (q := 47) dX8_coresOf_46 rfl rfl (by decide) ?_
            refine j_iinc4 (q := 50) dX8_coresOf_47 rfl rfl (by decide) ?_
            refine j_goto (tgt := 5) dX8_coresOf_50 (by decide) ?_
            exact j_fin (by first | exact congrArg (fun x => some (Sum.inl x)) (cnt_t (by grind)) | exact congrArg (fun x => some (Sum.inl x)) (cnt_f (by grind))) (rfl) (ih _ _ (by omega) (by omega))
          · refine j_iconst (q := 41) dX8_coresOf_40 rfl ?_
            refine j_goto (tgt := 45) dX8_coresOf_41 (by decide) ?_
            refine j_iadd (q := 46) dX8_coresOf_45 rfl ?_
            refine j_istore3 (q := 47) dX8_coresOf_46 rfl rfl (by decide) ?_
            refine j_iinc4 (q := 50) dX8_coresOf_47 rfl rfl (by decide) ?_
            refine j_goto (tgt := 5) dX8_coresOf_50 (by decide) ?_
            exact j_fin (by first | exact congrArg (fun x => some (Sum.inl x)) (cnt_t (by grind)) | exact congrArg (fun x => some (Sum.inl x)) (cnt_f (by grind))) (rfl) (ih _ _ (by omega) (by omega))
theorem ct_X8_coresOf {G : GX} (E : EV G) {m : Mem} {z : Z} {t : Int} {b : Bool} (h1 : 0 ≤ t ∧ t < 6) : CT G SHP iX8_coresOf 0 0 [.inr (.ref 197), .inl t, .inl (bI b)] (sz m z) (some (.inl (zCof z t b))) (sz m z) := by
  refine j_met (L0 := [some (.inr (.ref 197)), some (.inl t), some (.inl (bI b)), none, none]) (by decide) E.1 E.2 rfl (Nat.le_of_ble_eq_true rfl) ?_
  refine j_iconst (q := 1) dX8_coresOf_0 rfl ?_
  refine j_istore3 (q := 2) dX8_coresOf_1 rfl rfl (by decide) ?_
  refine j_iconst (q := 3) dX8_coresOf_2 rfl ?_
  refine j_istore4 (q := 5) dX8_coresOf_3 rfl rfl (by decide) ?_
  exact lp_X8_coresOf E h1 64 0 0 (by omega) (by omega)
theorem lp_X8_policiesOf {G : GX} (E : EV G) {m : Mem} {z : Z} {i : Int} (h1 : 0 ≤ i ∧ i < 3) : ∀ (d : Nat) (c : Int) (n : Int), c + d = 64 → 0 ≤ c → J G SHP iX8_policiesOf 0 0 (FN G SHP 0 0 (some (.inl (cntF (fun c => decide (wr (z (59 + 9 * c + 4)) = i + 1)) d c n))) (sz m z)) 4 [some (.inr (.ref 197)), some (.inl i), some (.inl n), some (.inl c)] [] (sz m z) 0 0 := by
  intro d
  induction d with
  | zero =>
    intro c n g0 g1
    refine j_iload3 (q := 5) dX8_policiesOf_4 rfl ?_
    refine j_bipush (q := 7) dX8_policiesOf_5 rfl rfl ?_
    refine j_icmp_ge (tgt := 36) (q := 10) dX8_policiesOf_7 (by decide) rfl (by first | exact wr_id' (by omega) (by omega) | with_reducible exact wr_bI _ | exact rfl) (by first | exact wr_id' (by omega) (by omega) | with_reducible exact wr_bI _ | exact rfl) (fun h7 => ?_) (fun h7 => ?_)
    · refine j_iload2 (q := 37) dX8_policiesOf_36 rfl ?_
      exact j_ireturn dX8_policiesOf_37 rfl (rfl) (rfl)
    · omega
  | succ d ih =>
    intro c n g0 g1
    refine j_iload3 (q := 5) dX8_policiesOf_4 rfl ?_
    refine j_bipush (q := 7) dX8_policiesOf_5 rfl rfl ?_
    refine j_icmp_ge (tgt := 36) (q := 10) dX8_policiesOf_7 (by decide) rfl (by first | exact wr_id' (by omega) (by omega) | with_reducible exact wr_bI _ | exact rfl) (by first | exact wr_id' (by omega) (by omega) | with_reducible exact wr_bI _ | exact rfl) (fun h7 => ?_) (fun h7 => ?_)
    · omega
    · refine j_iload2 (q := 11) dX8_policiesOf_10 rfl ?_
      refine j_aload0 (q := 12) dX8_policiesOf_11 rfl ?_
      refine j_iload3 (q := 13) dX8_policiesOf_12 rfl ?_
      refine j_iconst (q := 14) dX8_policiesOf_13 rfl ?_
      refine j_callV2 (Mc := iX8_of) (q := 17) (c' := 0) (s' := 0) dX8_policiesOf_14 rfl kV_X8_of jw_1079 ⟨by decide, by decide⟩ sh_197 rfl rfl rfl (Nat.le_refl _) (Nat.le_refl _) (ct_X8_of E (by omega) (by omega)) ?_
      refine j_iload1 (q := 18) dX8_policiesOf_17 rfl ?_
      refine j_iconst (q := 19) dX8_policiesOf_18 rfl ?_
      refine j_iadd (q := 20) dX8_policiesOf_19 rfl ?_
      refine j_icmp_ne (tgt := 27) (q := 23) dX8_policiesOf_20 (by decide) rfl (by first | exact wr_id' (by omega) (by omega) | with_reducible exact wr_bI _ | exact rfl) (by first | exact wr_id' (by omega) (by omega) | with_reducible exact wr_bI _ | exact rfl) (fun h20 => ?_) (fun h20 => ?_)
      · refine j_iconst (q := 28) dX8_policiesOf_27 rfl ?_
        refine j_iadd (q := 29) dX8_policiesOf_28 rfl ?_
        refine j_istore2 (q := 30) dX8_policiesOf_29 rfl rfl (by decide) ?_
        refine j_iinc3 (q := 33) dX8_policiesOf_30 rfl rfl (by decide) ?_
        refine j_goto (tgt := 4) dX8_policiesOf_33 (by decide) ?_
        exact j_fin (by first | exact congrArg (fun x => some (Sum.inl x)) (cnt_t (by grind)) | exact congrArg (fun x => some (Sum.inl x)) (cnt_f (by grind))) (rfl) (ih _ _ (by omega) (by omega))
      · refine j_iconst (q := 24) dX8_policiesOf_23 rfl ?_
        refine j_goto (tgt := 28) dX8_policiesOf_24 (by decide) ?_
        refine j_iadd (q := 29) dX8_policiesOf_28 rfl ?_
        refine j_istore2 (q := 30) dX8_policiesOf_29 rfl rfl (by decide) ?_
        refine j_iinc3 (q := 33) dX8_policiesOf_30 rfl rfl (by decide) ?_
        refine j_goto (tgt := 4) dX8_policiesOf_33 (by decide) ?_
        exact j_fin (by first | exact congrArg (fun x => some (Sum.inl x)) (cnt_t (by grind)) | exact congrArg (fun x => some (Sum.inl x)) (cnt_f (by grind))) (rfl) (ih _ _ (by omega) (by omega))
theorem ct_X8_policiesOf {G : GX} (E : EV G) {m : Mem} {z : Z} {i : Int} (h1 : 0 ≤ i ∧ i < 3) : CT G SHP iX8_policiesOf 0 0 [.inr (.ref 197), .inl i] (sz m z) (some (.inl (zPol z i))) (sz m z) := by
  refine j_met (L0 := [some (.inr (.ref 197)), some (.inl i), none, none]) (by decide) E.1 E.2 rfl (Nat.le_of_ble_eq_true rfl) ?_
  refine j_iconst (q := 1) dX8_policiesOf_0 rfl ?_
  refine j_istore2 (q := 2) dX8_policiesOf_1 rfl rfl (by decide) ?_
  refine j_iconst (q := 3) dX8_policiesOf_2 rfl ?_
  refine j_istore3 (q := 4) dX8_policiesOf_3 rfl rfl (by decide) ?_
  exact lp_X8_policiesOf E h1 64 0 0 (by omega) (by omega)
theorem lp_X8_coresWith {G : GX} (E : EV G) {m : Mem} {z : Z} {w : Int} (h1 : 0 ≤ w ∧ w < 9) : ∀ (d : Nat) (c : Int) (n : Int), c + d = 64 → 0 ≤ c → J G SHP iX8_coresWith 0 0 (FN G SHP 0 0 (some (.inl (cntF (fun c => decide (0 < wr (z (59 + 9 * c + w)))) d c n))) (sz m z)) 4 [some (.inr (.ref 197)), some (.inl w), some (.inl n), some (.inl c)] [] (sz m z) 0 0 := by
  intro d
  induction d with
  | zero =>
    intro c n g0 g1
    refine j_iload3 (q := 5) dX8_coresWith_4 rfl ?_
    refine j_bipush (q := 7) dX8_coresWith_5 rfl rfl ?_
    refine j_icmp_ge (tgt := 33) (q := 10) dX8_coresWith_7 (by decide) rfl (by first | exact wr_id' (by omega) (by omega) | with_reducible exact wr_bI _ | exact rfl) (by first | exact wr_id' (by omega) (by omega) | with_reducible exact wr_bI _ | exact rfl) (fun h7 => ?_) (fun h7 => ?_)
    · refine j_iload2 (q := 34) dX8_coresWith_33 rfl ?_
      exact j_ireturn dX8_coresWith_34 rfl (rfl) (rfl)
    · omega
  | succ d ih =>
    intro c n g0 g1
    refine j_iload3 (q := 5) dX8_coresWith_4 rfl ?_
    refine j_bipush (q := 7) dX8_coresWith_5 rfl rfl ?_
    refine j_icmp_ge (tgt := 33) (q := 10) dX8_coresWith_7 (by decide) rfl (by first | exact wr_id' (by omega) (by omega) | with_reducible exact wr_bI _ | exact rfl) (by first | exact wr_id' (by omega) (by omega) | with_reducible exact wr_bI _ | exact rfl) (fun h7 => ?_) (fun h7 => ?_)
    · omega
    · refine j_iload2 (q := 11) dX8_coresWith_10 rfl ?_
      refine j_aload0 (q := 12) dX8_coresWith_11 rfl ?_
      refine j_iload3 (q := 13) dX8_coresWith_12 rfl ?_
      refine j_iload1 (q := 14) dX8_coresWith_13 rfl ?_
      refine j_callV2 (Mc := iX8_of) (q := 17) (c' := 0) (s' := 0) dX8_coresWith_14 rfl kV_X8_of jw_1079 ⟨by decide, by decide⟩ sh_197 rfl rfl rfl (Nat.le_refl _) (Nat.le_refl _) (ct_X8_of E (by omega) (by omega)) ?_
      refine j_if_le (tgt := 24) (q := 20) dX8_coresWith_17 (by decide) rfl (by first | exact wr_id' (by omega) (by omega) | with_reducible exact wr_bI _ | exact rfl) (fun h17 => ?_) (fun h17 => ?_)
      · refine j_iconst (q := 25) dX8_coresWith_24 rfl ?_
        refine j_iadd (q := 26) dX8_coresWith_25 rfl ?_
        refine j_istore2 (q := 27) dX8_coresWith_26 rfl rfl (by decide) ?_
        refine j_iinc3 (q := 30) dX8_coresWith_27 rfl rfl (by decide) ?_
        refine j_goto (tgt := 4) dX8_coresWith_30 (by decide) ?_
        exact j_fin (by first | exact congrArg (fun x => some (Sum.inl x)) (cnt_t (by grind)) | exact congrArg (fun x => some (Sum.inl x)) (cnt_f (by grind))) (rfl) (ih _ _ (by omega) (by omega))
      · refine j_iconst (q := 21) dX8_coresWith_20 rfl ?_
        refine j_goto (tgt := 25) dX8_coresWith_21 (by decide) ?_
        refine j_iadd (q := 26) dX8_coresWith_25 rfl ?_
        refine j_istore2 (q := 27) dX8_coresWith_26 rfl rfl (by decide) ?_
        refine j_iinc3 (q := 30) dX8_coresWith_27 rfl rfl (by decide) ?_
        refine j_goto (tgt := 4) dX8_coresWith_30 (by decide) ?_
        exact j_fin (by first | exact congrArg (fun x => some (Sum.inl x)) (cnt_t (by grind)) | exact congrArg (fun x => some (Sum.inl x)) (cnt_f (by grind))) (rfl) (ih _ _ (by omega) (by omega))
theorem ct_X8_coresWith {G : GX} (E : EV G) {m : Mem} {z : Z} {w : Int} (h1 : 0 ≤ w ∧ w < 9) : CT G SHP iX8_coresWith 0 0 [.inr (.ref 197), .inl w] (sz m z) (some (.inl (zCW z w))) (sz m z) := by
  refine j_met (L0 := [some (.inr (.ref 197)), some (.inl w), none, none]) (by decide) E.1 E.2 rfl (Nat.le_of_ble_eq_true rfl) ?_
  refine j_iconst (q := 1) dX8_coresWith_0 rfl ?_
  refine j_istore2 (q := 2) dX8_coresWith_1 rfl rfl (by decide) ?_
  refine j_iconst (q := 3) dX8_coresWith_2 rfl ?_
  refine j_istore3 (q := 4) dX8_coresWith_3 rfl rfl (by decide) ?_
  exact lp_X8_coresWith E h1 64 0 0 (by omega) (by omega)
theorem lp_X8_weakestAt_in {G : GX} (E : EV G) {m : Mem} {z : Z} {F : FinT} {p c : Int} (h1 : 0 ≤ c ∧ c < 64) : ∀ (d : Nat) (e : Int) (n : Int), e + d = 64 → 0 ≤ e → (∀ (x : Int), x = cntF (fun e => decide (wr (z (59 + 9 * e + 1)) < wr (z (59 + 9 * c + 1)) ∨ wr (z (59 + 9 * e + 1)) = wr (z (59 + 9 * c + 1)) ∧ e < c)) d e n → J G SHP iX8_weakestAt 0 0 F 84 [some (.inr (.ref 197)), some (.inl p), some (.inl c), some (.inl x), none, none] [] (sz m z) 0 0) → J G SHP iX8_weakestAt 0 0 F 13 [some (.inr (.ref 197)), some (.inl p), some (.inl c), some (.inl n), some (.inl e), none] [] (sz m z) 0 0 := by
  intro d
  induction d with
  | zero =>
    intro e n g0 g1 kk
    refine j_iload4 (q := 15) dX8_weakestAt_13 rfl ?_
    refine j_bipush (q := 17) dX8_weakestAt_15 rfl rfl ?_
    refine j_icmp_ge (tgt := 84) (q := 20) dX8_weakestAt_17 (by decide) rfl (by first | exact wr_id' (by omega) (by omega) | with_reducible exact wr_bI _ | exact rfl) (by first | exact wr_id' (by omega) (by omega) | with_reducible exact wr_bI _ | exact rfl) (fun h17 => ?_) (fun h17 => ?_)
    · refine j_fgt4 ?_
      exact kk _ rfl
    · omega
  | succ d ih =>
    intro e n g0 g1 kk
    refine j_iload4 (q := 15) dX8_weakestAt_13 rfl ?_
    refine j_bipush (q := 17) dX8_weakestAt_15 rfl rfl ?_
    refine j_icmp_ge (tgt := 84) (q := 20) dX8_weakestAt_17 (by decide) rfl (by first | exact wr_id' (by omega) (by omega) | with_reducible exact wr_bI _ | exact rfl) (by first | exact wr_id' (by omega) (by omega) | with_reducible exact wr_bI _ | exact rfl) (fun h17 => ?_) (fun h17 => ?_)
    · omega
    · refine j_aload0 (q := 21) dX8_weakestAt_20 rfl ?_
      refine j_iload4 (q := 23) dX8_weakestAt_21 rfl ?_
      refine j_iconst (q := 24) dX8_weakestAt_23 rfl ?_
      refine j_callV2 (Mc := iX8_of) (q := 27) (c' := 0) (s' := 0) dX8_weakestAt_24 rfl kV_X8_of jw_1079 ⟨by decide, by decide⟩ sh_197 rfl rfl rfl (Nat.le_refl _) (Nat.le_refl _) (ct_X8_of E (by omega) (by omega)) ?_
      refine j_aload0 (q := 28) dX8_weakestAt_27 rfl ?_
      refine j_iload2 (q := 29) dX8_weakestAt_28 rfl ?_
      refine j_iconst (q := 30) dX8_weakestAt_29 rfl ?_
      refine j_callV2 (Mc := iX8_of) (q := 33) (c' := 0) (s' := 0) dX8_weakestAt_30 rfl kV_X8_of jw_1079 ⟨by decide, by decide⟩ sh_197 rfl rfl rfl (Nat.le_refl _) (Nat.le_refl _) (ct_X8_of E (by omega) (by omega)) ?_
      refine j_icmp_ge (tgt := 40) (q := 36) dX8_weakestAt_33 (by decide) rfl (by first | exact wr_id' (by omega) (by omega) | with_reducible exact wr_bI _ | exact rfl) (by first | exact wr_id' (by omega) (by omega) | with_reducible exact wr_bI _ | exact rfl) (fun h33 => ?_) (fun h33 => ?_)
      · refine j_iconst (q := 41) dX8_weakestAt_40 rfl ?_
        refine j_istore5 (q := 43) dX8_weakestAt_41 rfl rfl (by decide) ?_
        refine j_iload3 (q := 44) dX8_weakestAt_43 rfl ?_
        refine j_iload5 (q := 46) dX8_weakestAt_44 rfl ?_
        refine j_if_ne (tgt := 71) (q := 49) dX8_weakestAt_46 (by decide) rfl (by first | exact wr_id' (by omega) (by omega) | with_reducible exact wr_bI _ | exact rfl) (fun h46 => ?_) (fun h46 => ?_)
        · omega
        · refine j_aload0 (q := 50) dX8_weakestAt_49 rfl ?_
          refine j_iload4 (q := 52) dX8_weakestAt_50 rfl ?_
          refine j_iconst (q := 53) dX8_weakestAt_52 rfl ?_
          refine j_callV2 (Mc := iX8_of) (q := 56) (c' := 0) (s' := 0) dX8_weakestAt_53 rfl kV_X8_of jw_1079 ⟨by decide, by decide⟩ sh_197 rfl rfl rfl (Nat.le_refl _) (Nat.le_refl _) (ct_X8_of E (by omega) (by omega)) ?_
          refine j_aload0 (q := 57) dX8_weakestAt_56 rfl ?_
          refine j_iload2 (q := 58) dX8_weakestAt_57 rfl ?_
          refine j_iconst (q := 59) dX8_weakestAt_58 rfl ?_
          refine j_callV2 (Mc := iX8_of) (q := 62) (c' := 0) (s' := 0) dX8_weakestAt_59 rfl kV_X8_of jw_1079 ⟨by decide, by decide⟩ sh_197 rfl rfl rfl (Nat.le_refl _) (Nat.le_refl _) (ct_X8_of E (by omega) (by omega)) ?_
          refine j_icmp_ne (tgt := 75) (q := 65) dX8_weakestAt_62 (by decide) rfl (by first | exact wr_id' (by omega) (by omega) | with_reducible exact wr_bI _ | exact rfl) (by first | exact wr_id' (by omega) (by omega) | with_reducible exact wr_bI _ | exact rfl) (fun h62 => ?_) (fun h62 => ?_)
          · refine j_iconst (q := 76) dX8_weakestAt_75 rfl ?_
            refine j_iadd (q := 77) dX8_weakestAt_76 rfl ?_
            refine j_istore3 (q := 78) dX8_weakestAt_77 rfl rfl (by decide) ?_
            refine j_iinc4 (q := 81) dX8_weakestAt_78 rfl rfl (by decide) ?_
            refine j_goto (tgt := 13) dX8_weakestAt_81 (by decide) ?_
            refine j_fgt5 ?_
            exact ih _ _ (by omega) (by omega) (fun x hx => kk x (hx.trans (by first | exact (cnt_t (by grind)) | exact (cnt_f (by grind)))))
          · refine j_iload4 (q := 67) dX8_weakestAt_65 rfl ?_
            refine j_iload2 (q := 68) dX8_weakestAt_67 rfl ?_
            refine j_icmp_ge (tgt := 75) (q := 71) dX8_weakestAt_68 (by decide) rfl (by first | exact wr_id' (by omega) (by omega) | with_reducible exact wr_bI _ | exact rfl) (by first | exact wr_id' (by omega) (by omega) | with_reducible exact wr_bI _ | exact rfl) (fun h68 => ?_) (fun h68 => ?_)
            · refine j_iconst (q := 76) dX8_weakestAt_75 rfl ?_
              refine j_iadd (q := 77) dX8_weakestAt_76 rfl ?_
              refine j_istore3 (q := 78) dX8_weakestAt_77 rfl rfl (by decide) ?_
              refine j_iinc4 (q := 81) dX8_weakestAt_78 rfl rfl (by decide) ?_
              refine j_goto (tgt := 13) dX8_weakestAt_81 (by decide) ?_
              refine j_fgt5 ?_
              exact ih _ _ (by omega) (by omega) (fun x hx => kk x (hx.trans (by first | exact (cnt_t (by grind)) | exact (cnt_f (by grind)))))
            · refine j_iconst (q := 72) dX8_weakestAt_71 rfl ?_
              refine j_goto (tgt := 76) dX8_weakestAt_72 (by decide) ?_
              refine j_iadd (q := 77) dX8_weakestAt_76 rfl ?_
              refine j_istore3 (q := 78) dX8_weakestAt_77 rfl rfl (by decide) ?_
              refine j_iinc4 (q := 81) dX8_weakestAt_78 rfl rfl (by decide) ?_
              refine j_goto (tgt := 13) dX8_weakestAt_81 (by decide) ?_
              refine j_fgt5 ?_
              exact ih _ _ (by omega) (by omega) (fun x hx => kk x (hx.trans (by first | exact (cnt_t (by grind)) | exact (cnt_f (by grind)))))
      · refine j_iconst (q := 37) dX8_weakestAt_36 rfl ?_
        refine j_goto (tgt := 41) dX8_weakestAt_37 (by decide) ?_
        refine j_istore5 (q := 43) dX8_weakestAt_41 rfl rfl (by decide) ?_
        refine j_iload3 (q := 44) dX8_weakestAt_43 rfl ?_
        refine j_iload5 (q := 46) dX8_weakestAt_44 rfl ?_
        refine j_if_ne (tgt := 71) (q := 49) dX8_weakestAt_46 (by decide) rfl (by first | exact wr_id' (by omega) (by omega) | with_reducible exact wr_bI _ | exact rfl) (fun h46 => ?_) (fun h46 => ?_)
        · refine j_iconst (q := 72) dX8_weakestAt_71 rfl ?_
          refine j_goto (tgt := 76) dX8_weakestAt_72 (by decide) ?_
          refine j_iadd (q := 77) dX8_weakestAt_76 rfl ?_
          refine j_istore3 (q := 78) dX8_weakestAt_77 rfl rfl (by decide) ?_
          refine j_iinc4 (q := 81) dX8_weakestAt_78 rfl rfl (by decide) ?_
          refine j_goto (tgt := 13) dX8_weakestAt_81 (by decide) ?_
          refine j_fgt5 ?_
          exact ih _ _ (by omega) (by omega) (fun x hx => kk x (hx.trans (by first | exact (cnt_t (by grind)) | exact (cnt_f (by grind)))))
        · omega
theorem lp_X8_weakestAt {G : GX} (E : EV G) {m : Mem} {z : Z} {p : Int} (h0 : 0 ≤ p ∧ p < 64) : ∀ (d : Nat) (c : Int), c + d = 64 → 0 ≤ c → J G SHP iX8_weakestAt 0 0 (FN G SHP 0 0 (some (.inl (zWstF z p d c))) (sz m z)) 2 [some (.inr (.ref 197)), some (.inl p), some (.inl c), none, none, none] [] (sz m z) 0 0 := by
  intro d
  induction d with
  | zero =>
    intro c g0 g1
    refine j_iload2 (q := 3) dX8_weakestAt_2 rfl ?_
    refine j_bipush (q := 5) dX8_weakestAt_3 rfl rfl ?_
    refine j_icmp_ge (tgt := 97) (q := 8) dX8_weakestAt_5 (by decide) rfl (by first | exact wr_id' (by omega) (by omega) | with_reducible exact wr_bI _ | exact rfl) (by first | exact wr_id' (by omega) (by omega) | with_reducible exact wr_bI _ | exact rfl) (fun h5 => ?_) (fun h5 => ?_)
    · refine j_iconst (q := 98) dX8_weakestAt_97 rfl ?_
      exact j_ireturn dX8_weakestAt_98 rfl (rfl) (rfl)
    · omega
  | succ d ih =>
    intro c g0 g1
    refine j_iload2 (q := 3) dX8_weakestAt_2 rfl ?_
    refine j_bipush (q := 5) dX8_weakestAt_3 rfl rfl ?_
    refine j_icmp_ge (tgt := 97) (q := 8) dX8_weakestAt_5 (by decide) rfl (by first | exact wr_id' (by omega) (by omega) | with_reducible exact wr_bI _ | exact rfl) (by first | exact wr_id' (by omega) (by omega) | with_reducible exact wr_bI _ | exact rfl) (fun h5 => ?_) (fun h5 => ?_)
    · omega
    · refine j_iconst (q := 9) dX8_weakestAt_8 rfl ?_
      refine j_istore3 (q := 10) dX8_weakestAt_9 rfl rfl (by decide) ?_
      refine j_iconst (q := 11) dX8_weakestAt_10 rfl ?_
      refine j_istore4 (q := 13) dX8_weakestAt_11 rfl rfl (by decide) ?_
      refine lp_X8_weakestAt_in E (c := c) ⟨by omega, by omega⟩ 64 0 0 (by omega) (by omega) ?_
      intro x hx
      have hx' : x = zAh z c := hx
      have hx2 := zAh_b z c
      refine j_iload3 (q := 85) dX8_weakestAt_84 rfl ?_
      refine j_iload1 (q := 86) dX8_weakestAt_85 rfl ?_
      refine j_icmp_ne (tgt := 91) (q := 89) dX8_weakestAt_86 (by decide) rfl (by first | exact wr_id' (by omega) (by omega) | with_reducible exact wr_bI _ | exact rfl) (by first | exact wr_id' (by omega) (by omega) | with_reducible exact wr_bI _ | exact rfl) (fun h86 => ?_) (fun h86 => ?_)
      · refine j_iinc2 (q := 94) dX8_weakestAt_91 rfl rfl (by decide) ?_
        refine j_goto (tgt := 2) dX8_weakestAt_94 (by decide) ?_
        refine j_fgt3 ?_
        exact j_fin (by rw [zWstF, if_neg (by unfold zAh; omega)]) (rfl) (ih _ (by omega) (by omega))
      · refine j_iload2 (q := 90) dX8_weakestAt_89 rfl ?_
        exact j_ireturn dX8_weakestAt_90 rfl (by rw [zWstF, if_pos (by omega)]) (rfl)
theorem ct_X8_weakestAt {G : GX} (E : EV G) {m : Mem} {z : Z} {p : Int} (h0 : 0 ≤ p ∧ p < 64) : CT G SHP iX8_weakestAt 0 0 [.inr (.ref 197), .inl p] (sz m z) (some (.inl (zWst z p))) (sz m z) := by
  refine j_met (L0 := [some (.inr (.ref 197)), some (.inl p), none, none, none, none]) (by decide) E.1 E.2 rfl (Nat.le_of_ble_eq_true rfl) ?_
  refine j_iconst (q := 1) dX8_weakestAt_0 rfl ?_
  refine j_istore2 (q := 2) dX8_weakestAt_1 rfl rfl (by decide) ?_
  exact lp_X8_weakestAt E h0 64 0 (by omega) (by omega)
theorem lp_X8_waitsOf_in {G : GX} (E : EV G) {m : Mem} {z : Z} {F : FinT} {t i : Int} (h1 : 0 ≤ t ∧ t < 6) (h2 : 0 ≤ i ∧ i < 3) (h3 : 0 ≤ z (41 + 6 * i + 5) ∧ z (41 + 6 * i + 5) ≤ 512) : ∀ (d : Nat) (k : Int) (n : Int), k + d = z (41 + 6 * i + 5) → 0 ≤ k → (∀ (x : Int), x = cntF (fun k => decide (wr (z (635 + 520 * i + k)) = t)) d k n → J G SHP iX8_waitsOf 0 0 F 63 [some (.inr (.ref 197)), some (.inl t), some (.inl x), some (.inl i), none] [] (sz m z) 0 0) → J G SHP iX8_waitsOf 0 0 F 17 [some (.inr (.ref 197)), some (.inl t), some (.inl n), some (.inl i), some (.inl k)] [] (sz m z) 0 0 := by
  intro d
  induction d with
  | zero =>
    intro k n g0 g1 kk
    refine j_iload4 (q := 19) dX8_waitsOf_17 rfl ?_
    refine j_aload0 (q := 20) dX8_waitsOf_19 rfl ?_
    refine j_iload3 (q := 21) dX8_waitsOf_20 rfl ?_
    refine j_iconst (q := 22) dX8_waitsOf_21 rfl ?_
    refine j_callV2 (Mc := iX8_ofInsurer) (q := 25) (c' := 0) (s' := 0) dX8_waitsOf_22 rfl kV_X8_ofInsurer jw_1103 ⟨by decide, by decide⟩ sh_197 rfl rfl rfl (Nat.le_refl _) (Nat.le_refl _) (ct_X8_ofInsurer E (by omega) (by omega)) ?_
    refine j_icmp_ge (tgt := 63) (q := 28) dX8_waitsOf_25 (by decide) rfl (by first | exact wr_id' (by omega) (by omega) | with_reducible exact wr_bI _ | exact rfl) (by first | exact wr_id' (by omega) (by omega) | with_reducible exact wr_bI _ | exact rfl) (fun h25 => ?_) (fun h25 => ?_)
    · refine j_fgt4 ?_
      exact kk _ rfl
    · omega
  | succ d ih =>
    intro k n g0 g1 kk
    refine j_iload4 (q := 19) dX8_waitsOf_17 rfl ?_
    refine j_aload0 (q := 20) dX8_waitsOf_19 rfl ?_
    refine j_iload3 (q := 21) dX8_waitsOf_20 rfl ?_
    refine j_iconst (q := 22) dX8_waitsOf_21 rfl ?_
    refine j_callV2 (Mc := iX8_ofInsurer) (q := 25) (c' := 0) (s' := 0) dX8_waitsOf_22 rfl kV_X8_ofInsurer jw_1103 ⟨by decide, by decide⟩ sh_197 rfl rfl rfl (Nat.le_refl _) (Nat.le_refl _) (ct_X8_ofInsurer E (by omega) (by omega)) ?_
    refine j_icmp_ge (tgt := 63) (q := 28) dX8_waitsOf_25 (by decide) rfl (by first | exact wr_id' (by omega) (by omega) | with_reducible exact wr_bI _ | exact rfl) (by first | exact wr_id' (by omega) (by omega) | with_reducible exact wr_bI _ | exact rfl) (fun h25 => ?_) (fun h25 => ?_)
    · omega
    · refine j_iload2 (q := 29) dX8_waitsOf_28 rfl ?_
      refine j_aload0 (q := 30) dX8_waitsOf_29 rfl ?_
      refine j_getR 0 (q := 33) dX8_waitsOf_30 rfl fl_X8_7 sh_197 rfl ?_
      refine j_sipush (q := 36) dX8_waitsOf_33 rfl rfl ?_
      refine j_sipush (q := 39) dX8_waitsOf_36 rfl rfl ?_
      refine j_iload3 (q := 40) dX8_waitsOf_39 rfl ?_
      refine j_imul (q := 41) dX8_waitsOf_40 rfl ?_
      refine j_iadd (q := 42) dX8_waitsOf_41 rfl ?_
      refine j_iload4 (q := 44) dX8_waitsOf_42 rfl ?_
      refine j_iadd (q := 45) dX8_waitsOf_44 rfl ?_
      refine j_zload (q := 46) dX8_waitsOf_45 rfl (by first | exact wr_id' (by omega) (by omega) | with_reducible exact wr_bI _ | exact rfl) (by omega) (by omega) ?_
      refine j_iload1 (q := 47) dX8_waitsOf_46 rfl ?_
      refine j_icmp_ne (tgt := 54) (q := 50) dX8_waitsOf_47 (by decide) rfl (by first | exact wr_id' (by omega) (by omega) | with_reducible exact wr_bI _ | exact rfl) (by first | exact wr_id' (by omega) (by omega) | with_reducible exact wr_bI _ | exact rfl) (fun h47 => ?_) (fun h47 => ?_)
      · refine j_iconst (q := 55) dX8_waitsOf_54 rfl ?_
        refine j_iadd (q := 56) dX8_waitsOf_55 rfl ?_
        refine j_istore2 (q := 57) dX8_waitsOf_56 rfl rfl (by decide) ?_
        refine j_iinc4 (q := 60) dX8_waitsOf_57 rfl rfl (by decide) ?_
        refine j_goto (tgt := 17) dX8_waitsOf_60 (by decide) ?_
        exact ih _ _ (by omega) (by omega) (fun x hx => kk x (hx.trans (by first | exact (cnt_t (by grind)) | exact (cnt_f (by grind)))))
      · refine j_iconst (q := 51) dX8_waitsOf_50 rfl ?_
        refine j_goto (tgt := 55) dX8_waitsOf_51 (by decide) ?_
        refine j_iadd (q := 56) dX8_waitsOf_55 rfl ?_
        refine j_istore2 (q := 57) dX8_waitsOf_56 rfl rfl (by decide) ?_
        refine j_iinc4 (q := 60) dX8_waitsOf_57 rfl rfl (by decide) ?_
        refine j_goto (tgt := 17) dX8_waitsOf_60 (by decide) ?_
        exact ih _ _ (by omega) (by omega) (fun x hx => kk x (hx.trans (by first | exact (cnt_t (by grind)) | exact (cnt_f (by grind)))))
theorem lp_X8_waitsOf {G : GX} (E : EV G) {m : Mem} {z : Z} {t : Int} (h1 : 0 ≤ t ∧ t < 6) (h2 : 0 ≤ z 3 ∧ z 3 ≤ 3) (h3 : ∀ i, 0 ≤ i → i < 3 → 0 ≤ z (41 + 6 * i + 5) ∧ z (41 + 6 * i + 5) ≤ 512) : ∀ (d : Nat) (i : Int) (n : Int), i + d = z 3 → 0 ≤ i → J G SHP iX8_waitsOf 0 0 (FN G SHP 0 0 (some (.inl (zWqF z t d i n))) (sz m z)) 4 [some (.inr (.ref 197)), some (.inl t), some (.inl n), some (.inl i), none] [] (sz m z) 0 0 := by
  intro d
  induction d with
  | zero =>
    intro i n g0 g1
    refine j_iload3 (q := 5) dX8_waitsOf_4 rfl ?_
    refine j_aload0 (q := 6) dX8_waitsOf_5 rfl ?_
    refine j_getR 0 (q := 9) dX8_waitsOf_6 rfl fl_X8_7 sh_197 rfl ?_
    refine j_iconst (q := 10) dX8_waitsOf_9 rfl ?_
    refine j_zload (q := 11) dX8_waitsOf_10 rfl (by first | exact wr_id' (by omega) (by omega) | with_reducible exact wr_bI _ | exact rfl) (by omega) (by omega) ?_
    refine j_icmp_ge (tgt := 69) (q := 14) dX8_waitsOf_11 (by decide) rfl (by first | exact wr_id' (by omega) (by omega) | with_reducible exact wr_bI _ | exact rfl) (by first | exact wr_id' (by omega) (by omega) | with_reducible exact wr_bI _ | exact rfl) (fun h11 => ?_) (fun h11 => ?_)
    · refine j_iload2 (q := 70) dX8_waitsOf_69 rfl ?_
      exact j_ireturn dX8_waitsOf_70 rfl (rfl) (rfl)
    · omega
  | succ d ih =>
    intro i n g0 g1
    refine j_iload3 (q := 5) dX8_waitsOf_4 rfl ?_
    refine j_aload0 (q := 6) dX8_waitsOf_5 rfl ?_
    refine j_getR 0 (q := 9) dX8_waitsOf_6 rfl fl_X8_7 sh_197 rfl ?_
    refine j_iconst (q := 10) dX8_waitsOf_9 rfl ?_
    refine j_zload (q := 11) dX8_waitsOf_10 rfl (by first | exact wr_id' (by omega) (by omega) | with_reducible exact wr_bI _ | exact rfl) (by omega) (by omega) ?_
    refine j_icmp_ge (tgt := 69) (q := 14) dX8_waitsOf_11 (by decide) rfl (by first | exact wr_id' (by omega) (by omega) | with_reducible exact wr_bI _ | exact rfl) (by first | exact wr_id' (by omega) (by omega) | with_reducible exact wr_bI _ | exact rfl) (fun h11 => ?_) (fun h11 => ?_)
    · omega
    · refine j_iconst (q := 15) dX8_waitsOf_14 rfl ?_
      refine j_istore4 (q := 17) dX8_waitsOf_15 rfl rfl (by decide) ?_
      have h3i := h3 i (by omega) (by omega)
      refine lp_X8_waitsOf_in E h1 (i := i) ⟨by omega, by omega⟩ h3i (z (41 + 6 * i + 5)).toNat 0 _ (by omega) (by omega) ?_
      intro x hx
      refine j_iinc3 (q := 66) dX8_waitsOf_63 rfl rfl (by decide) ?_
      refine j_goto (tgt := 4) dX8_waitsOf_66 (by decide) ?_
      exact j_fin (by rw [hx, zWqF]; have := h3 i (by omega) (by omega); rw [wr_id' (by omega) (by omega)]) (rfl) (ih _ _ (by omega) (by omega))
theorem ct_X8_waitsOf {G : GX} (E : EV G) {m : Mem} {z : Z} {t : Int} (h1 : 0 ≤ t ∧ t < 6) (h2 : 0 ≤ z 3 ∧ z 3 ≤ 3) (h3 : ∀ i, 0 ≤ i → i < 3 → 0 ≤ z (41 + 6 * i + 5) ∧ z (41 + 6 * i + 5) ≤ 512) : CT G SHP iX8_waitsOf 0 0 [.inr (.ref 197), .inl t] (sz m z) (some (.inl (zWq z t))) (sz m z) := by
  refine j_met (L0 := [some (.inr (.ref 197)), some (.inl t), none, none, none]) (by decide) E.1 E.2 rfl (Nat.le_of_ble_eq_true rfl) ?_
  refine j_iconst (q := 1) dX8_waitsOf_0 rfl ?_
  refine j_istore2 (q := 2) dX8_waitsOf_1 rfl rfl (by decide) ?_
  refine j_iconst (q := 3) dX8_waitsOf_2 rfl ?_
  refine j_istore3 (q := 4) dX8_waitsOf_3 rfl rfl (by decide) ?_
  unfold zWq; rw [wr_id' (by omega) (by omega)]
  exact lp_X8_waitsOf E h1 h2 h3 (z 3).toNat 0 0 (by omega) (by omega)
theorem lp_X8_cheapestNow {G : GX} (E : EV G) {m : Mem} {z : Z} {c v t : Int} (h1 : 0 ≤ c ∧ c < 64) (h2 : 0 ≤ v ∧ v ≤ 500) (h3 : 0 ≤ z 3 ∧ z 3 ≤ 3) : ∀ (d : Nat) (i : Int) (b : Int), i + d = z 3 → 0 ≤ i → -1 ≤ b → b < 3 → J G SHP iX8_cheapestNow 0 0 (FN G SHP 0 0 (some (.inl (zChF z c v t d i b))) (sz m z)) 6 [some (.inr (.ref 197)), some (.inl c), some (.inl v), some (.inl t), some (.inl b), some (.inl i), none] [] (sz m z) 0 0 := by
  intro d
  induction d with
  | zero =>
    intro i b g0 g1 g2 g3
    refine j_iload5 (q := 8) dX8_cheapestNow_6 rfl ?_
    refine j_aload0 (q := 9) dX8_cheapestNow_8 rfl ?_
    refine j_getR 0 (q := 12) dX8_cheapestNow_9 rfl fl_X8_7 sh_197 rfl ?_
    refine j_iconst (q := 13) dX8_cheapestNow_12 rfl ?_
    refine j_zload (q := 14) dX8_cheapestNow_13 rfl (by first | exact wr_id' (by omega) (by omega) | with_reducible exact wr_bI _ | exact rfl) (by omega) (by omega) ?_
    refine j_icmp_ge (tgt := 80) (q := 17) dX8_cheapestNow_14 (by decide) rfl (by first | exact wr_id' (by omega) (by omega) | with_reducible exact wr_bI _ | exact rfl) (by first | exact wr_id' (by omega) (by omega) | with_reducible exact wr_bI _ | exact rfl) (fun h14 => ?_) (fun h14 => ?_)
    · refine j_iload4 (q := 82) dX8_cheapestNow_80 rfl ?_
      exact j_ireturn dX8_cheapestNow_82 rfl (rfl) (rfl)
    · omega
  | succ d ih =>
    intro i b g0 g1 g2 g3
    refine j_iload5 (q := 8) dX8_cheapestNow_6 rfl ?_
    refine j_aload0 (q := 9) dX8_cheapestNow_8 rfl ?_
    refine j_getR 0 (q := 12) dX8_cheapestNow_9 rfl fl_X8_7 sh_197 rfl ?_
    refine j_iconst (q := 13) dX8_cheapestNow_12 rfl ?_
    refine j_zload (q := 14) dX8_cheapestNow_13 rfl (by first | exact wr_id' (by omega) (by omega) | with_reducible exact wr_bI _ | exact rfl) (by omega) (by omega) ?_
    refine j_icmp_ge (tgt := 80) (q := 17) dX8_cheapestNow_14 (by decide) rfl (by first | exact wr_id' (by omega) (by omega) | with_reducible exact wr_bI _ | exact rfl) (by first | exact wr_id' (by omega) (by omega) | with_reducible exact wr_bI _ | exact rfl) (fun h14 => ?_) (fun h14 => ?_)
    · omega
    · refine j_aload0 (q := 18) dX8_cheapestNow_17 rfl ?_
      refine j_iload5 (q := 20) dX8_cheapestNow_18 rfl ?_
      refine j_iconst (q := 21) dX8_cheapestNow_20 rfl ?_
      refine j_callV2 (Mc := iX8_ofInsurer) (q := 24) (c' := 0) (s' := 0) dX8_cheapestNow_21 rfl kV_X8_ofInsurer jw_1103 ⟨by decide, by decide⟩ sh_197 rfl rfl rfl (Nat.le_refl _) (Nat.le_refl _) (ct_X8_ofInsurer E (by omega) (by omega)) ?_
      refine j_iload2 (q := 25) dX8_cheapestNow_24 rfl ?_
      refine j_icmp_lt (tgt := 32) (q := 28) dX8_cheapestNow_25 (by decide) rfl (by first | exact wr_id' (by omega) (by omega) | with_reducible exact wr_bI _ | exact rfl) (by first | exact wr_id' (by omega) (by omega) | with_reducible exact wr_bI _ | exact rfl) (fun h25 => ?_) (fun h25 => ?_)
      · refine j_iconst (q := 33) dX8_cheapestNow_32 rfl ?_
        refine j_istore6 (q := 35) dX8_cheapestNow_33 rfl rfl (by decide) ?_
        refine j_iload6 (q := 37) dX8_cheapestNow_35 rfl ?_
        refine j_if_eq (tgt := 70) (q := 40) dX8_cheapestNow_37 (by decide) rfl (by first | exact wr_id' (by omega) (by omega) | with_reducible exact wr_bI _ | exact rfl) (fun h37 => ?_) (fun h37 => ?_)
        · refine j_iload4 (q := 72) dX8_cheapestNow_70 rfl ?_
          refine j_istore4 (q := 74) dX8_cheapestNow_72 rfl rfl (by decide) ?_
          refine j_iinc5 (q := 77) dX8_cheapestNow_74 rfl rfl (by decide) ?_
          refine j_goto (tgt := 6) dX8_cheapestNow_77 (by decide) ?_
          refine j_fgt6 ?_
          exact j_fin (by simp only [zChF]; first | rw [if_pos (by omega)] | rw [if_neg (by omega)]) (rfl) (ih _ _ (by omega) (by omega) (by omega) (by omega))
        · omega
      · refine j_iconst (q := 29) dX8_cheapestNow_28 rfl ?_
        refine j_goto (tgt := 33) dX8_cheapestNow_29 (by decide) ?_
        refine j_istore6 (q := 35) dX8_cheapestNow_33 rfl rfl (by decide) ?_
        refine j_iload6 (q := 37) dX8_cheapestNow_35 rfl ?_
        refine j_if_eq (tgt := 70) (q := 40) dX8_cheapestNow_37 (by decide) rfl (by first | exact wr_id' (by omega) (by omega) | with_reducible exact wr_bI _ | exact rfl) (fun h37 => ?_) (fun h37 => ?_)
        · omega
        · refine j_iload4 (q := 42) dX8_cheapestNow_40 rfl ?_
          refine j_iconst (q := 43) dX8_cheapestNow_42 rfl ?_
          refine j_icmp_eq (tgt := 65) (q := 46) dX8_cheapestNow_43 (by decide) rfl (by first | exact wr_id' (by omega) (by omega) | with_reducible exact wr_bI _ | exact rfl) (by first | exact wr_id' (by omega) (by omega) | with_reducible exact wr_bI _ | exact rfl) (fun h43 => ?_) (fun h43 => ?_)
          · refine j_iload5 (q := 67) dX8_cheapestNow_65 rfl ?_
            refine j_goto (tgt := 72) dX8_cheapestNow_67 (by decide) ?_
            refine j_istore4 (q := 74) dX8_cheapestNow_72 rfl rfl (by decide) ?_
            refine j_iinc5 (q := 77) dX8_cheapestNow_74 rfl rfl (by decide) ?_
            refine j_goto (tgt := 6) dX8_cheapestNow_77 (by decide) ?_
            refine j_fgt6 ?_
            exact j_fin (by simp only [zChF]; first | rw [if_pos (by omega)] | rw [if_neg (by omega)]) (rfl) (ih _ _ (by omega) (by omega) (by omega) (by omega))
          · refine j_aload0 (q := 47) dX8_cheapestNow_46 rfl ?_
            refine j_iload1 (q := 48) dX8_cheapestNow_47 rfl ?_
            refine j_iload5 (q := 50) dX8_cheapestNow_48 rfl ?_
            refine j_iload3 (q := 51) dX8_cheapestNow_50 rfl ?_
            refine j_callV3 (Mc := iX8_premiumNow) (q := 54) (c' := 0) (s' := 0) dX8_cheapestNow_51 rfl kV_X8_premiumNow jw_1095 ⟨by decide, by decide⟩ sh_197 rfl rfl rfl (Nat.le_refl _) (Nat.le_refl _) (ct_X8_premiumNow E (by omega) (by omega)) ?_
            refine j_aload0 (q := 55) dX8_cheapestNow_54 rfl ?_
            refine j_iload1 (q := 56) dX8_cheapestNow_55 rfl ?_
            refine j_iload4 (q := 58) dX8_cheapestNow_56 rfl ?_
            refine j_iload3 (q := 59) dX8_cheapestNow_58 rfl ?_
            refine j_callV3 (Mc := iX8_premiumNow) (q := 62) (c' := 0) (s' := 0) dX8_cheapestNow_59 rfl kV_X8_premiumNow jw_1095 ⟨by decide, by decide⟩ sh_197 rfl rfl rfl (Nat.le_refl _) (Nat.le_refl _) (ct_X8_premiumNow E (by omega) (by omega)) ?_
            refine j_icmp_ge (tgt := 70) (q := 65) dX8_cheapestNow_62 (by decide) rfl rfl rfl (fun h62 => ?_) (fun h62 => ?_)
            · refine j_iload4 (q := 72) dX8_cheapestNow_70 rfl ?_
              refine j_istore4 (q := 74) dX8_cheapestNow_72 rfl rfl (by decide) ?_
              refine j_iinc5 (q := 77) dX8_cheapestNow_74 rfl rfl (by decide) ?_
              refine j_goto (tgt := 6) dX8_cheapestNow_77 (by decide) ?_
              refine j_fgt6 ?_
              exact j_fin (by simp only [zChF]; first | rw [if_pos (by omega)] | rw [if_neg (by omega)]) (rfl) (ih _ _ (by omega) (by omega) (by omega) (by omega))
            · refine j_iload5 (q := 67) dX8_cheapestNow_65 rfl ?_
              refine j_goto (tgt := 72) dX8_cheapestNow_67 (by decide) ?_
              refine j_istore4 (q := 74) dX8_cheapestNow_72 rfl rfl (by decide) ?_
              refine j_iinc5 (q := 77) dX8_cheapestNow_74 rfl rfl (by decide) ?_
              refine j_goto (tgt := 6) dX8_cheapestNow_77 (by decide) ?_
              refine j_fgt6 ?_
              exact j_fin (by simp only [zChF]; first | rw [if_pos (by omega)] | rw [if_neg (by omega)]) (rfl) (ih _ _ (by omega) (by omega) (by omega) (by omega))
theorem ct_X8_cheapestNow {G : GX} (E : EV G) {m : Mem} {z : Z} {c : Int} {v : Int} {t : Int} (h1 : 0 ≤ c ∧ c < 64) (h2 : 0 ≤ v ∧ v ≤ 500) (h3 : 0 ≤ z 3 ∧ z 3 ≤ 3) : CT G SHP iX8_cheapestNow 0 0 [.inr (.ref 197), .inl c, .inl v, .inl t] (sz m z) (some (.inl (zCh z c v t))) (sz m z) := by
  refine j_met (L0 := [some (.inr (.ref 197)), some (.inl c), some (.inl v), some (.inl t), none, none, none]) (by decide) E.1 E.2 rfl (Nat.le_of_ble_eq_true rfl) ?_
  refine j_iconst (q := 1) dX8_cheapestNow_0 rfl ?_
  refine j_istore4 (q := 3) dX8_cheapestNow_1 rfl rfl (by decide) ?_
  refine j_iconst (q := 4) dX8_cheapestNow_3 rfl ?_
  refine j_istore5 (q := 6) dX8_cheapestNow_4 rfl rfl (by decide) ?_
  unfold zCh; rw [wr_id' (by omega) (by omega)]
  exact lp_X8_cheapestNow E h1 h2 h3 (z 3).toNat 0 (-1) (by omega) (by omega) (by omega) (by omega)
theorem lp_X8_waitNow {G : GX} (E : EV G) {m : Mem} {z : Z} {c i t x : Int} (h1 : 0 ≤ c ∧ c < 64) (h2 : 0 ≤ i ∧ i < 3) (h3 : 0 ≤ x ∧ x ≤ 10000) : ∀ (d : Nat) (n : Int), n + d = 201 → 0 ≤ n → J G SHP iX8_waitNow 0 0 (FN G SHP 0 0 (some (.inl (zWtF z c i t x d n))) (sz m z)) 3 [some (.inr (.ref 197)), some (.inl c), some (.inl i), some (.inl t), some (.inl x), some (.inl n)] [] (sz m z) 0 0 := by
  intro d
  induction d with
  | zero =>
    intro n g0 g1
    refine j_iload5 (q := 5) dX8_waitNow_3 rfl ?_
    refine j_sipush (q := 8) dX8_waitNow_5 rfl rfl ?_
    refine j_icmp_gt (tgt := 51) (q := 11) dX8_waitNow_8 (by decide) rfl (by first | exact wr_id' (by omega) (by omega) | with_reducible exact wr_bI _ | exact rfl) (by first | exact wr_id' (by omega) (by omega) | with_reducible exact wr_bI _ | exact rfl) (fun h8 => ?_) (fun h8 => ?_)
    · refine j_iconst (q := 52) dX8_waitNow_51 rfl ?_
      exact j_ireturn dX8_waitNow_52 rfl (rfl) (rfl)
    · omega
  | succ d ih =>
    intro n g0 g1
    refine j_iload5 (q := 5) dX8_waitNow_3 rfl ?_
    refine j_sipush (q := 8) dX8_waitNow_5 rfl rfl ?_
    refine j_icmp_gt (tgt := 51) (q := 11) dX8_waitNow_8 (by decide) rfl (by first | exact wr_id' (by omega) (by omega) | with_reducible exact wr_bI _ | exact rfl) (by first | exact wr_id' (by omega) (by omega) | with_reducible exact wr_bI _ | exact rfl) (fun h8 => ?_) (fun h8 => ?_)
    · omega
    · refine j_aload0 (q := 12) dX8_waitNow_11 rfl ?_
      refine j_iload1 (q := 13) dX8_waitNow_12 rfl ?_
      refine j_iload2 (q := 14) dX8_waitNow_13 rfl ?_
      refine j_iload3 (q := 15) dX8_waitNow_14 rfl ?_
      refine j_aload0 (q := 16) dX8_waitNow_15 rfl ?_
      refine j_getR 0 (q := 19) dX8_waitNow_16 rfl fl_X8_7 sh_197 rfl ?_
      refine j_iconst (q := 20) dX8_waitNow_19 rfl ?_
      refine j_zload (q := 21) dX8_waitNow_20 rfl (by first | exact wr_id' (by omega) (by omega) | with_reducible exact wr_bI _ | exact rfl) (by omega) (by omega) ?_
      refine j_iload5 (q := 23) dX8_waitNow_21 rfl ?_
      refine j_aload0 (q := 24) dX8_waitNow_23 rfl ?_
      refine j_bipush (q := 26) dX8_waitNow_24 rfl rfl ?_
      refine j_callV1 (Mc := iX8_rule) (q := 29) (c' := 0) (s' := 0) dX8_waitNow_26 rfl kV_X8_rule jw_1057 ⟨by decide, by decide⟩ sh_197 rfl rfl rfl (Nat.le_refl _) (Nat.le_refl _) (ct_X8_rule E (by omega)) ?_
      refine j_imul (q := 30) dX8_waitNow_29 rfl ?_
      refine j_isub (q := 31) dX8_waitNow_30 rfl ?_
      refine j_callS1 (Mc := iX8_notBelow) (q := 34) (c' := 0) (s' := 0) dX8_waitNow_31 rfl kS_X8_notBelow jw_1131 ⟨by decide, by decide⟩ rfl (Nat.le_refl _) (Nat.le_refl _) (ct_X8_notBelow E) ?_
      refine j_callV4 (Mc := iX8_premiumBy) (q := 37) (c' := 0) (s' := 0) dX8_waitNow_34 rfl kV_X8_premiumBy jw_1099 ⟨by decide, by decide⟩ sh_197 rfl rfl rfl (Nat.le_refl _) (Nat.le_refl _) (ct_X8_premiumBy E (by omega) (by omega)) ?_
      refine j_iload4 (q := 39) dX8_waitNow_37 rfl ?_
      refine j_icmp_gt (tgt := 45) (q := 42) dX8_waitNow_39 (by decide) rfl (by first | exact wr_id' (by omega) (by omega) | with_reducible exact wr_bI _ | exact rfl) (by first | exact wr_id' (by omega) (by omega) | with_reducible exact wr_bI _ | exact rfl) (fun h39 => ?_) (fun h39 => ?_)
      · refine j_iinc5 (q := 48) dX8_waitNow_45 rfl rfl (by decide) ?_
        refine j_goto (tgt := 3) dX8_waitNow_48 (by decide) ?_
        exact j_fin (by rw [zWtF, if_neg (by omega)]) (rfl) (ih _ (by omega) (by omega))
      · refine j_iload5 (q := 44) dX8_waitNow_42 rfl ?_
        exact j_ireturn dX8_waitNow_44 rfl (by rw [zWtF, if_pos (by omega)]) (rfl)
theorem ct_X8_waitNow {G : GX} (E : EV G) {m : Mem} {z : Z} {c : Int} {i : Int} {t : Int} {x : Int} (h1 : 0 ≤ c ∧ c < 64) (h2 : 0 ≤ i ∧ i < 3) (h3 : 0 ≤ x ∧ x ≤ 10000) : CT G SHP iX8_waitNow 0 0 [.inr (.ref 197), .inl c, .inl i, .inl t, .inl x] (sz m z) (some (.inl (zWt z c i t x))) (sz m z) := by
  refine j_met (L0 := [some (.inr (.ref 197)), some (.inl c), some (.inl i), some (.inl t), some (.inl x), none]) (by decide) E.1 E.2 rfl (Nat.le_of_ble_eq_true rfl) ?_
  refine j_iconst (q := 1) dX8_waitNow_0 rfl ?_
  refine j_istore5 (q := 3) dX8_waitNow_1 rfl rfl (by decide) ?_
  exact lp_X8_waitNow E h1 h2 h3 201 0 (by omega) (by omega)
theorem ct_X8_isGentler {G : GX} (E : EV G) {m : Mem} {z : Z} {a : Int} {b : Int} (h1 : 0 ≤ a ∧ a < 64) (h2 : 0 ≤ b ∧ b < 64) : CT G SHP iX8_isGentler 0 0 [.inr (.ref 197), .inl a, .inl b] (sz m z) (some (.inl (bI (zGen z a b)))) (sz m z) := by
  refine j_met (L0 := [some (.inr (.ref 197)), some (.inl a), some (.inl b), none, none]) (by decide) E.1 E.2 rfl (Nat.le_of_ble_eq_true rfl) ?_
  refine j_aload0 (q := 1) dX8_isGentler_0 rfl ?_
  refine j_iload1 (q := 2) dX8_isGentler_1 rfl ?_
  refine j_iconst (q := 3) dX8_isGentler_2 rfl ?_
  refine j_callV2 (Mc := iX8_disturbs) (q := 6) (c' := 0) (s' := 0) dX8_isGentler_3 rfl kV_X8_disturbs jw_1344 ⟨by decide, by decide⟩ sh_197 rfl rfl rfl (Nat.le_refl _) (Nat.le_refl _) (ct_X8_disturbs E (by omega) (by omega)) ?_
  refine j_istore3 (q := 7) dX8_isGentler_6 rfl rfl (by decide) ?_
  refine j_aload0 (q := 8) dX8_isGentler_7 rfl ?_
  refine j_iload2 (q := 9) dX8_isGentler_8 rfl ?_
  refine j_iconst (q := 10) dX8_isGentler_9 rfl ?_
  refine j_callV2 (Mc := iX8_disturbs) (q := 13) (c' := 0) (s' := 0) dX8_isGentler_10 rfl kV_X8_disturbs jw_1344 ⟨by decide, by decide⟩ sh_197 rfl rfl rfl (Nat.le_refl _) (Nat.le_refl _) (ct_X8_disturbs E (by omega) (by omega)) ?_
  refine j_istore4 (q := 15) dX8_isGentler_13 rfl rfl (by decide) ?_
  refine j_iload3 (q := 16) dX8_isGentler_15 rfl ?_
  refine j_iload4 (q := 18) dX8_isGentler_16 rfl ?_
  refine j_icmp_lt (tgt := 42) (q := 21) dX8_isGentler_18 (by decide) rfl rfl rfl (fun h18 => ?_) (fun h18 => ?_)
  · refine j_iconst (q := 43) dX8_isGentler_42 rfl ?_
    refine j_goto (tgt := 47) dX8_isGentler_43 (by decide) ?_
    exact j_zreturn dX8_isGentler_47 rfl (by decide) (by first | exact bI_t (by omega) | exact bI_f (by omega)) (rfl)
  · refine j_iload3 (q := 22) dX8_isGentler_21 rfl ?_
    refine j_iload4 (q := 24) dX8_isGentler_22 rfl ?_
    refine j_icmp_ne (tgt := 46) (q := 27) dX8_isGentler_24 (by decide) rfl rfl rfl (fun h24 => ?_) (fun h24 => ?_)
    · refine j_iconst (q := 47) dX8_isGentler_46 rfl ?_
      exact j_zreturn dX8_isGentler_47 rfl (by decide) (by first | exact bI_t (by omega) | exact bI_f (by omega)) (rfl)
    · refine j_aload0 (q := 28) dX8_isGentler_27 rfl ?_
      refine j_iload1 (q := 29) dX8_isGentler_28 rfl ?_
      refine j_iconst (q := 30) dX8_isGentler_29 rfl ?_
      refine j_callV2 (Mc := iX8_of) (q := 33) (c' := 0) (s' := 0) dX8_isGentler_30 rfl kV_X8_of jw_1079 ⟨by decide, by decide⟩ sh_197 rfl rfl rfl (Nat.le_refl _) (Nat.le_refl _) (ct_X8_of E (by omega) (by omega)) ?_
      refine j_aload0 (q := 34) dX8_isGentler_33 rfl ?_
      refine j_iload2 (q := 35) dX8_isGentler_34 rfl ?_
      refine j_iconst (q := 36) dX8_isGentler_35 rfl ?_
      refine j_callV2 (Mc := iX8_of) (q := 39) (c' := 0) (s' := 0) dX8_isGentler_36 rfl kV_X8_of jw_1079 ⟨by decide, by decide⟩ sh_197 rfl rfl rfl (Nat.le_refl _) (Nat.le_refl _) (ct_X8_of E (by omega) (by omega)) ?_
      refine j_icmp_le (tgt := 46) (q := 42) dX8_isGentler_39 (by decide) rfl rfl rfl (fun h39 => ?_) (fun h39 => ?_)
      · refine j_iconst (q := 47) dX8_isGentler_46 rfl ?_
        exact j_zreturn dX8_isGentler_47 rfl (by decide) (by first | exact bI_t (by omega) | exact bI_f (by omega)) (rfl)
      · refine j_iconst (q := 43) dX8_isGentler_42 rfl ?_
        refine j_goto (tgt := 47) dX8_isGentler_43 (by decide) ?_
        exact j_zreturn dX8_isGentler_47 rfl (by decide) (by first | exact bI_t (by omega) | exact bI_f (by omega)) (rfl)
theorem lp_X8_gentlestNow {G : GX} (E : EV G) {m : Mem} {z : Z} : ∀ (d : Nat) (c : Int) (b : Int), c + d = 64 → 0 ≤ c → -1 ≤ b → b < 64 → J G SHP iX8_gentlestNow 0 0 (FN G SHP 0 0 (some (.inl (zGF z d c b))) (sz m z)) 4 [some (.inr (.ref 197)), some (.inl b), some (.inl c), none] [] (sz m z) 0 0 := by
  intro d
  induction d with
  | zero =>
    intro c b g0 g1 g2 g3
    refine j_iload2 (q := 5) dX8_gentlestNow_4 rfl ?_
    refine j_bipush (q := 7) dX8_gentlestNow_5 rfl rfl ?_
    refine j_icmp_ge (tgt := 64) (q := 10) dX8_gentlestNow_7 (by decide) rfl (by first | exact wr_id' (by omega) (by omega) | with_reducible exact wr_bI _ | exact rfl) (by first | exact wr_id' (by omega) (by omega) | with_reducible exact wr_bI _ | exact rfl) (fun h7 => ?_) (fun h7 => ?_)
    · refine j_iload1 (q := 65) dX8_gentlestNow_64 rfl ?_
      exact j_ireturn dX8_gentlestNow_65 rfl (rfl) (rfl)
    · omega
  | succ d ih =>
    intro c b g0 g1 g2 g3
    refine j_iload2 (q := 5) dX8_gentlestNow_4 rfl ?_
    refine j_bipush (q := 7) dX8_gentlestNow_5 rfl rfl ?_
    refine j_icmp_ge (tgt := 64) (q := 10) dX8_gentlestNow_7 (by decide) rfl (by first | exact wr_id' (by omega) (by omega) | with_reducible exact wr_bI _ | exact rfl) (by first | exact wr_id' (by omega) (by omega) | with_reducible exact wr_bI _ | exact rfl) (fun h7 => ?_) (fun h7 => ?_)
    · omega
    · refine j_aload0 (q := 11) dX8_gentlestNow_10 rfl ?_
      refine j_iload2 (q := 12) dX8_gentlestNow_11 rfl ?_
      refine j_callV1 (Mc := iX8_canRead) (q := 15) (c' := 0) (s' := 0) dX8_gentlestNow_12 rfl kV_X8_canRead jw_1160 ⟨by decide, by decide⟩ sh_197 rfl rfl rfl (Nat.le_refl _) (Nat.le_refl _) (ct_X8_canRead E (by omega)) ?_
      refine j_ifeq_b (tgt := 32) (q := 18) dX8_gentlestNow_15 (by decide) rfl (fun h15 => ?_) (fun h15 => ?_)
      · refine j_iconst (q := 33) dX8_gentlestNow_32 rfl ?_
        refine j_istore3 (q := 34) dX8_gentlestNow_33 rfl rfl (by decide) ?_
        refine j_iload3 (q := 35) dX8_gentlestNow_34 rfl ?_
        refine j_if_eq (tgt := 56) (q := 38) dX8_gentlestNow_35 (by decide) rfl (by first | exact wr_id' (by omega) (by omega) | with_reducible exact wr_bI _ | exact rfl) (fun h35 => ?_) (fun h35 => ?_)
        · refine j_iload1 (q := 57) dX8_gentlestNow_56 rfl ?_
          refine j_istore1 (q := 58) dX8_gentlestNow_57 rfl rfl (by decide) ?_
          refine j_iinc2 (q := 61) dX8_gentlestNow_58 rfl rfl (by decide) ?_
          refine j_goto (tgt := 4) dX8_gentlestNow_61 (by decide) ?_
          refine j_fgt3 ?_
          exact j_fin (by simp only [zGF]; grind) (rfl) (ih _ _ (by omega) (by omega) (by omega) (by omega))
        · omega
      · refine j_aload0 (q := 19) dX8_gentlestNow_18 rfl ?_
        refine j_iload2 (q := 20) dX8_gentlestNow_19 rfl ?_
        refine j_iconst (q := 21) dX8_gentlestNow_20 rfl ?_
        refine j_callV2 (Mc := iX8_of) (q := 24) (c' := 0) (s' := 0) dX8_gentlestNow_21 rfl kV_X8_of jw_1079 ⟨by decide, by decide⟩ sh_197 rfl rfl rfl (Nat.le_refl _) (Nat.le_refl _) (ct_X8_of E (by omega) (by omega)) ?_
        refine j_iconst (q := 25) dX8_gentlestNow_24 rfl ?_
        refine j_icmp_ne (tgt := 32) (q := 28) dX8_gentlestNow_25 (by decide) rfl (by first | exact wr_id' (by omega) (by omega) | with_reducible exact wr_bI _ | exact rfl) (by first | exact wr_id' (by omega) (by omega) | with_reducible exact wr_bI _ | exact rfl) (fun h25 => ?_) (fun h25 => ?_)
        · refine j_iconst (q := 33) dX8_gentlestNow_32 rfl ?_
          refine j_istore3 (q := 34) dX8_gentlestNow_33 rfl rfl (by decide) ?_
          refine j_iload3 (q := 35) dX8_gentlestNow_34 rfl ?_
          refine j_if_eq (tgt := 56) (q := 38) dX8_gentlestNow_35 (by decide) rfl (by first | exact wr_id' (by omega) (by omega) | with_reducible exact wr_bI _ | exact rfl) (fun h35 => ?_) (fun h35 => ?_)
          · refine j_iload1 (q := 57) dX8_gentlestNow_56 rfl ?_
            refine j_istore1 (q := 58) dX8_gentlestNow_57 rfl rfl (by decide) ?_
            refine j_iinc2 (q := 61) dX8_gentlestNow_58 rfl rfl (by decide) ?_
            refine j_goto (tgt := 4) dX8_gentlestNow_61 (by decide) ?_
            refine j_fgt3 ?_
            exact j_fin (by simp only [zGF]; grind) (rfl) (ih _ _ (by omega) (by omega) (by omega) (by omega))
          · omega
        · refine j_iconst (q := 29) dX8_gentlestNow_28 rfl ?_
          refine j_goto (tgt := 33) dX8_gentlestNow_29 (by decide) ?_
          refine j_istore3 (q := 34) dX8_gentlestNow_33 rfl rfl (by decide) ?_
          refine j_iload3 (q := 35) dX8_gentlestNow_34 rfl ?_
          refine j_if_eq (tgt := 56) (q := 38) dX8_gentlestNow_35 (by decide) rfl (by first | exact wr_id' (by omega) (by omega) | with_reducible exact wr_bI _ | exact rfl) (fun h35 => ?_) (fun h35 => ?_)
          · omega
          · refine j_iload1 (q := 39) dX8_gentlestNow_38 rfl ?_
            refine j_iconst (q := 40) dX8_gentlestNow_39 rfl ?_
            refine j_icmp_eq (tgt := 52) (q := 43) dX8_gentlestNow_40 (by decide) rfl (by first | exact wr_id' (by omega) (by omega) | with_reducible exact wr_bI _ | exact rfl) (by first | exact wr_id' (by omega) (by omega) | with_reducible exact wr_bI _ | exact rfl) (fun h40 => ?_) (fun h40 => ?_)
            · refine j_iload2 (q := 53) dX8_gentlestNow_52 rfl ?_
              refine j_goto (tgt := 57) dX8_gentlestNow_53 (by decide) ?_
              refine j_istore1 (q := 58) dX8_gentlestNow_57 rfl rfl (by decide) ?_
              refine j_iinc2 (q := 61) dX8_gentlestNow_58 rfl rfl (by decide) ?_
              refine j_goto (tgt := 4) dX8_gentlestNow_61 (by decide) ?_
              refine j_fgt3 ?_
              exact j_fin (by simp only [zGF]; grind) (rfl) (ih _ _ (by omega) (by omega) (by omega) (by omega))
            · refine j_aload0 (q := 44) dX8_gentlestNow_43 rfl ?_
              refine j_iload2 (q := 45) dX8_gentlestNow_44 rfl ?_
              refine j_iload1 (q := 46) dX8_gentlestNow_45 rfl ?_
              refine j_callV2 (Mc := iX8_isGentler) (q := 49) (c' := 0) (s' := 0) dX8_gentlestNow_46 rfl kV_X8_isGentler jw_1356 ⟨by decide, by decide⟩ sh_197 rfl rfl rfl (Nat.le_refl _) (Nat.le_refl _) (ct_X8_isGentler E (by omega) (by omega)) ?_
              refine j_ifeq_b (tgt := 56) (q := 52) dX8_gentlestNow_49 (by decide) rfl (fun h49 => ?_) (fun h49 => ?_)
              · refine j_iload1 (q := 57) dX8_gentlestNow_56 rfl ?_
                refine j_istore1 (q := 58) dX8_gentlestNow_57 rfl rfl (by decide) ?_
                refine j_iinc2 (q := 61) dX8_gentlestNow_58 rfl rfl (by decide) ?_
                refine j_goto (tgt := 4) dX8_gentlestNow_61 (by decide) ?_
                refine j_fgt3 ?_
                exact j_fin (by simp only [zGF]; grind) (rfl) (ih _ _ (by omega) (by omega) (by omega) (by omega))
              · refine j_iload2 (q := 53) dX8_gentlestNow_52 rfl ?_
                refine j_goto (tgt := 57) dX8_gentlestNow_53 (by decide) ?_
                refine j_istore1 (q := 58) dX8_gentlestNow_57 rfl rfl (by decide) ?_
                refine j_iinc2 (q := 61) dX8_gentlestNow_58 rfl rfl (by decide) ?_
                refine j_goto (tgt := 4) dX8_gentlestNow_61 (by decide) ?_
                refine j_fgt3 ?_
                exact j_fin (by simp only [zGF]; grind) (rfl) (ih _ _ (by omega) (by omega) (by omega) (by omega))
theorem ct_X8_gentlestNow {G : GX} (E : EV G) {m : Mem} {z : Z} : CT G SHP iX8_gentlestNow 0 0 [.inr (.ref 197)] (sz m z) (some (.inl (zG z))) (sz m z) := by
  refine j_met (L0 := [some (.inr (.ref 197)), none, none, none]) (by decide) E.1 E.2 rfl (Nat.le_of_ble_eq_true rfl) ?_
  refine j_iconst (q := 1) dX8_gentlestNow_0 rfl ?_
  refine j_istore1 (q := 2) dX8_gentlestNow_1 rfl rfl (by decide) ?_
  refine j_iconst (q := 3) dX8_gentlestNow_2 rfl ?_
  refine j_istore2 (q := 4) dX8_gentlestNow_3 rfl rfl (by decide) ?_
  exact lp_X8_gentlestNow E 64 0 (-1) (by omega) (by omega) (by omega) (by omega)
theorem lp_X8_riskNow {G : GX} (E : EV G) {m : Mem} {z : Z} {t : Int} (h1 : 0 ≤ t ∧ t < 6) : ∀ (d : Nat) (c : Int) (b : Int), c + d = 64 → 0 ≤ c → J G SHP iX8_riskNow 0 0 (FN G SHP 0 0 (some (.inl (zRkF z t d c b))) (sz m z)) 4 [some (.inr (.ref 197)), some (.inl t), some (.inl b), some (.inl c), none] [] (sz m z) 0 0 := by
  intro d
  induction d with
  | zero =>
    intro c b g0 g1
    refine j_iload3 (q := 5) dX8_riskNow_4 rfl ?_
    refine j_bipush (q := 7) dX8_riskNow_5 rfl rfl ?_
    refine j_icmp_ge (tgt := 51) (q := 10) dX8_riskNow_7 (by decide) rfl (by first | exact wr_id' (by omega) (by omega) | with_reducible exact wr_bI _ | exact rfl) (by first | exact wr_id' (by omega) (by omega) | with_reducible exact wr_bI _ | exact rfl) (fun h7 => ?_) (fun h7 => ?_)
    · refine j_iload2 (q := 52) dX8_riskNow_51 rfl ?_
      exact j_ireturn dX8_riskNow_52 rfl (rfl) (rfl)
    · omega
  | succ d ih =>
    intro c b g0 g1
    refine j_iload3 (q := 5) dX8_riskNow_4 rfl ?_
    refine j_bipush (q := 7) dX8_riskNow_5 rfl rfl ?_
    refine j_icmp_ge (tgt := 51) (q := 10) dX8_riskNow_7 (by decide) rfl (by first | exact wr_id' (by omega) (by omega) | with_reducible exact wr_bI _ | exact rfl) (by first | exact wr_id' (by omega) (by omega) | with_reducible exact wr_bI _ | exact rfl) (fun h7 => ?_) (fun h7 => ?_)
    · omega
    · refine j_aload0 (q := 11) dX8_riskNow_10 rfl ?_
      refine j_iload3 (q := 12) dX8_riskNow_11 rfl ?_
      refine j_callV1 (Mc := iX8_canRead) (q := 15) (c' := 0) (s' := 0) dX8_riskNow_12 rfl kV_X8_canRead jw_1160 ⟨by decide, by decide⟩ sh_197 rfl rfl rfl (Nat.le_refl _) (Nat.le_refl _) (ct_X8_canRead E (by omega)) ?_
      refine j_ifeq_b (tgt := 29) (q := 18) dX8_riskNow_15 (by decide) rfl (fun h15 => ?_) (fun h15 => ?_)
      · refine j_iconst (q := 30) dX8_riskNow_29 rfl ?_
        refine j_istore4 (q := 32) dX8_riskNow_30 rfl rfl (by decide) ?_
        refine j_iload4 (q := 34) dX8_riskNow_32 rfl ?_
        refine j_iload2 (q := 35) dX8_riskNow_34 rfl ?_
        refine j_icmp_le (tgt := 43) (q := 38) dX8_riskNow_35 (by decide) rfl rfl rfl (fun h35 => ?_) (fun h35 => ?_)
        · refine j_iload2 (q := 44) dX8_riskNow_43 rfl ?_
          refine j_istore2 (q := 45) dX8_riskNow_44 rfl rfl (by decide) ?_
          refine j_iinc3 (q := 48) dX8_riskNow_45 rfl rfl (by decide) ?_
          refine j_goto (tgt := 4) dX8_riskNow_48 (by decide) ?_
          refine j_fgt4 ?_
          exact j_fin (by simp only [zRkF]; grind) (rfl) (ih _ _ (by omega) (by omega))
        · refine j_iload4 (q := 40) dX8_riskNow_38 rfl ?_
          refine j_goto (tgt := 44) dX8_riskNow_40 (by decide) ?_
          refine j_istore2 (q := 45) dX8_riskNow_44 rfl rfl (by decide) ?_
          refine j_iinc3 (q := 48) dX8_riskNow_45 rfl rfl (by decide) ?_
          refine j_goto (tgt := 4) dX8_riskNow_48 (by decide) ?_
          refine j_fgt4 ?_
          exact j_fin (by simp only [zRkF]; grind) (rfl) (ih _ _ (by omega) (by omega))
      · refine j_aload0 (q := 19) dX8_riskNow_18 rfl ?_
        refine j_iload3 (q := 20) dX8_riskNow_19 rfl ?_
        refine j_iload1 (q := 21) dX8_riskNow_20 rfl ?_
        refine j_iconst (q := 22) dX8_riskNow_21 rfl ?_
        refine j_iadd (q := 23) dX8_riskNow_22 rfl ?_
        refine j_callV2 (Mc := iX8_disturbs) (q := 26) (c' := 0) (s' := 0) dX8_riskNow_23 rfl kV_X8_disturbs jw_1344 ⟨by decide, by decide⟩ sh_197 rfl rfl rfl (Nat.le_refl _) (Nat.le_refl _) (ct_X8_disturbs E (by omega) (by omega)) ?_
        refine j_goto (tgt := 30) dX8_riskNow_26 (by decide) ?_
        refine j_istore4 (q := 32) dX8_riskNow_30 rfl rfl (by decide) ?_
        refine j_iload4 (q := 34) dX8_riskNow_32 rfl ?_
        refine j_iload2 (q := 35) dX8_riskNow_34 rfl ?_
        refine j_icmp_le (tgt := 43) (q := 38) dX8_riskNow_35 (by decide) rfl rfl rfl (fun h35 => ?_) (fun h35 => ?_)
        · refine j_iload2 (q := 44) dX8_riskNow_43 rfl ?_
          refine j_istore2 (q := 45) dX8_riskNow_44 rfl rfl (by decide) ?_
          refine j_iinc3 (q := 48) dX8_riskNow_45 rfl rfl (by decide) ?_
          refine j_goto (tgt := 4) dX8_riskNow_48 (by decide) ?_
          refine j_fgt4 ?_
          exact j_fin (by simp only [zRkF]; grind) (rfl) (ih _ _ (by omega) (by omega))
        · refine j_iload4 (q := 40) dX8_riskNow_38 rfl ?_
          refine j_goto (tgt := 44) dX8_riskNow_40 (by decide) ?_
          refine j_istore2 (q := 45) dX8_riskNow_44 rfl rfl (by decide) ?_
          refine j_iinc3 (q := 48) dX8_riskNow_45 rfl rfl (by decide) ?_
          refine j_goto (tgt := 4) dX8_riskNow_48 (by decide) ?_
          refine j_fgt4 ?_
          exact j_fin (by simp only [zRkF]; grind) (rfl) (ih _ _ (by omega) (by omega))
theorem ct_X8_riskNow {G : GX} (E : EV G) {m : Mem} {z : Z} {t : Int} (h1 : 0 ≤ t ∧ t < 6) : CT G SHP iX8_riskNow 0 0 [.inr (.ref 197), .inl t] (sz m z) (some (.inl (zRk z t))) (sz m z) := by
  refine j_met (L0 := [some (.inr (.ref 197)), some (.inl t), none, none, none]) (by decide) E.1 E.2 rfl (Nat.le_of_ble_eq_true rfl) ?_
  refine j_iconst (q := 1) dX8_riskNow_0 rfl ?_
  refine j_istore2 (q := 2) dX8_riskNow_1 rfl rfl (by decide) ?_
  refine j_iconst (q := 3) dX8_riskNow_2 rfl ?_
  refine j_istore3 (q := 4) dX8_riskNow_3 rfl rfl (by decide) ?_
  exact lp_X8_riskNow E h1 64 0 0 (by omega) (by omega)

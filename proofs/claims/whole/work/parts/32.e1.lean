/-! the model: run, undo -/
def zRnF (m : Mem) (t : Int) : Nat → Int → Z × (Int → Int) → (Z × (Int → Int)) × Int
  | 0, n, s => (s, n)
  | d + 1, n, s => if n < m 197 8 ∧ zMay m s.1 n t = true then zRnF m t d (n + 1) (zDo m n s) else (s, n)
def zRnM (z : Z) (m : Mem) : Mem := zSv z (pScn (th0 m))
def zRun (z : Z) (m : Mem) (t : Int) : (Z × (Int → Int)) × Int := zRnF (zRnM z m) t 32 0 (z, m 205)
theorem zSv_o {z : Z} {m : Mem} {k : Nat} {j : Int} (h : ¬ k = 200) (h2 : ¬ (k = 197 ∧ j = 10)) : zSv z m k j = m k j := by
  have hA : zSvA m k j = m k j := by
    unfold zSvA
    split
    · rw [up_ne (by omega)]; unfold shA; rw [if_neg (by omega)]
    · rfl
  unfold zSv
  rw [up_ne (by omega)]
  unfold shB
  rw [if_neg (by omega)]
  exact hA
theorem pSc_o {k : Nat} {j : Int} (h : ¬ k = 202 ∧ ¬ k = 203 ∧ ¬ k = 204 ∧ ¬ (k = 197 ∧ (j = 8 ∨ j = 9))) : ∀ (d : Nat) (i : Int) (m : Mem), pSc d i m k j = m k j := by
  intro d
  induction d with
  | zero => intro i m; rfl
  | succ d ih =>
    intro i m
    have e : pT m (m 201 i) k j = m k j := pT_o (by omega)
    rw [pSc]
    split
    · rw [ih, e]
    · exact e
theorem pScn_o {m : Mem} {k : Nat} {j : Int} (h : ¬ k = 202 ∧ ¬ k = 203 ∧ ¬ k = 204 ∧ ¬ (k = 197 ∧ (j = 8 ∨ j = 9))) : pScn m k j = m k j := by
  unfold pScn
  rw [pSc_o h]
  unfold pS0
  rw [up_ne (by omega), up_ne (by omega)]
theorem pSk_b : ∀ (d : Nat) (k : Int) (m : Mem), k ≤ pSk d k m ∧ pSk d k m ≤ k + d := by
  intro d
  induction d with
  | zero => intro k m; simp [pSk]
  | succ d ih =>
    intro k m
    rw [pSk]
    split
    · have := ih (k + 1) (pT m (m 201 k)); omega
    · omega
theorem pScK_b {m : Mem} (h : TX m) : 0 ≤ pScK m ∧ pScK m ≤ 60 := by
  have := pSk_b (m 197 11).toNat 0 (pS0 m)
  have := h.1
  unfold pScK
  omega
/-- the state behind a scan -/
theorem pSc_9 : ∀ (d : Nat) (k : Int) (m : Mem), k + d = m 197 11 → 0 ≤ k → pI m k → 0 ≤ pSc d k m 197 9 ∧ pSc d k m 197 9 ≤ 20 := by
  intro d
  induction d with
  | zero => intro k m h1 h2 h3; exact h3.2.1
  | succ d ih =>
    intro k m h1 h2 h3
    rw [pSc]
    split
    · rename_i hb; exact ih _ _ (by rw [pT_o (by omega)]; omega) (by omega) (pT_I h3 hb)
    · have hg : ∀ (x : Mem) (b : Bool) (n : Int), 0 ≤ n → n ≤ 20 → x 197 9 = m 197 9 → 0 ≤ pG x b n 197 9 ∧ pG x b n 197 9 ≤ 20 := by
        intro x b n a1 a2 a3
        have := h3.2.1
        unfold pG
        rw [up_at]
        split <;> omega
      have he : ∀ (x : Mem) (b : Bool), x 197 9 = m 197 9 → 0 ≤ pE x b 197 9 ∧ pE x b 197 9 ≤ 20 := by
        intro x b a1
        unfold pE
        exact hg _ _ _ (by decide) (by decide) (by rw [up_ne (by omega)]; exact a1)
      unfold pT pB pT2 pBK pB0
      repeat' split
      all_goals first | (refine hg _ _ _ (by decide) (by decide) ?_; simp [up]; done) | (refine he _ _ ?_; simp [up]; done)
theorem pScn_9 {m : Mem} (h : TX m) : 0 ≤ pScn m 197 9 ∧ pScn m 197 9 ≤ 20 := by
  have e11 : pS0 m 197 11 = m 197 11 := by unfold pS0; rw [up_ne (by omega), up_ne (by omega)]
  exact pSc_9 _ _ _ (by have := h.1; omega) (by omega) (pI_0 h)
theorem lp_X8_run {G : GX} (E : EV G) {m : Mem} {K : Int} {F : FinT} {t : Int} (hp : (∀ n, 0 ≤ n → n < m 197 8 → (0 ≤ m 203 n ∧ m 203 n < 64) ∧ (0 ≤ m 202 n ∧ m 202 n ≤ 3) ∧ 0 ≤ m 204 n ∧ m 204 n ≤ 9)) (he : 0 ≤ m 197 8 ∧ m 197 8 ≤ 32) (ht : 0 ≤ t ∧ t < 6) : ∀ (d : Nat) (n : Int) (s : Z × (Int → Int)), m 197 8 ≤ n + d → 0 ≤ n → n ≤ 32 → WI s.1 K → (∀ (x : (Z × (Int → Int)) × Int), x = zRnF m t d n s → J G SHP iX8_run 0 0 F 79 [some (.inr (.ref 197)), some (.inl t), some (.inl x.2)] [] (sz (so m x.1.2) x.1.1) 0 0) → J G SHP iX8_run 0 0 F 51 [some (.inr (.ref 197)), some (.inl t), some (.inl n)] [] (sz (so m s.2) s.1) 0 0 := by
  intro d
  induction d with
  | zero =>
    intro n s g0 g1 g2 g3 kk
    have e8 : so m s.2 197 8 = m 197 8 := rfl
    refine j_iload2 (q := 52) dX8_run_51 rfl ?_
    refine j_aload0 (q := 53) dX8_run_52 rfl ?_
    refine j_ngetI (by decide) 8 (j' := 8) (q := 56) dX8_run_53 rfl fl_X8_166 sh_197 rfl rfl ?_
    refine j_icmp_ge (tgt := 79) (q := 59) dX8_run_56 (by decide) rfl (by first | exact wr_id' (by omega) (by omega) | with_reducible exact wr_bI _ | exact rfl) (by first | exact wr_id' (by omega) (by omega) | with_reducible exact wr_bI _ | exact rfl) (fun h56 => ?_) (fun h56 => ?_)
    · refine j_cg (L' := [some (.inr (.ref 197)), some (.inl t), some (.inl (zRnF m t 0 n s).2)]) (m' := sz (so m (zRnF m t 0 n s).1.2) (zRnF m t 0 n s).1.1) (by simp only [zRnF]) rfl (by simp only [zRnF]) ?_
      exact kk _ rfl
    · omega
  | succ d ih =>
    intro n s g0 g1 g2 g3 kk
    have e8 : so m s.2 197 8 = m 197 8 := rfl
    refine j_iload2 (q := 52) dX8_run_51 rfl ?_
    refine j_aload0 (q := 53) dX8_run_52 rfl ?_
    refine j_ngetI (by decide) 8 (j' := 8) (q := 56) dX8_run_53 rfl fl_X8_166 sh_197 rfl rfl ?_
    refine j_icmp_ge (tgt := 79) (q := 59) dX8_run_56 (by decide) rfl (by first | exact wr_id' (by omega) (by omega) | with_reducible exact wr_bI _ | exact rfl) (by first | exact wr_id' (by omega) (by omega) | with_reducible exact wr_bI _ | exact rfl) (fun h56 => ?_) (fun h56 => ?_)
    · obtain ⟨hx0⟩ : Nonempty (zRnF m t (d + 1) n s = (s, n)) := ⟨by rw [zRnF, if_neg (by first | (intro z; omega) | (intro z; have := z.2; simp_all))]⟩
      refine j_cg (L' := [some (.inr (.ref 197)), some (.inl t), some (.inl (zRnF m t (d + 1) n s).2)]) (m' := sz (so m (zRnF m t (d + 1) n s).1.2) (zRnF m t (d + 1) n s).1.1) (by rw [hx0]) rfl (by rw [hx0]) ?_
      exact kk _ rfl
    · refine j_aload0 (q := 60) dX8_run_59 rfl ?_
      refine j_iload2 (q := 61) dX8_run_60 rfl ?_
      refine j_iload1 (q := 62) dX8_run_61 rfl ?_
      refine j_callV2 (Mc := iX8_mayDo) (q := 65) (c' := 0) (s' := 0) dX8_run_62 rfl kV_X8_mayDo jw_1240 ⟨by decide, by decide⟩ sh_197 rfl rfl rfl (Nat.le_refl _) (Nat.le_refl _) (show CT G SHP iX8_mayDo 0 0 [.inr (.ref 197), .inl n, .inl t] (sz (so m s.2) s.1) (some (.inl (bI (zMay m s.1 n t)))) (sz (so m s.2) s.1) from ct_X8_mayDo (m := so m s.2) E hp he ⟨by omega, by omega⟩ ht) ?_
      refine j_ifeq_b (tgt := 79) (q := 68) dX8_run_65 (by decide) rfl (fun h65 => ?_) (fun h65 => ?_)
      · obtain ⟨hx0⟩ : Nonempty (zRnF m t (d + 1) n s = (s, n)) := ⟨by rw [zRnF, if_neg (by first | (intro z; omega) | (intro z; have := z.2; simp_all))]⟩
        refine j_cg (L' := [some (.inr (.ref 197)), some (.inl t), some (.inl (zRnF m t (d + 1) n s).2)]) (m' := sz (so m (zRnF m t (d + 1) n s).1.2) (zRnF m t (d + 1) n s).1.1) (by rw [hx0]) rfl (by rw [hx0]) ?_
        exact kk _ rfl
      · refine j_aload0 (q := 69) dX8_run_68 rfl ?_
        refine j_iload2 (q := 70) dX8_run_69 rfl ?_
        refine j_callV1v (Mc := iX8_does) (q := 73) (c' := 0) (s' := 0) dX8_run_70 rfl kV_X8_does jw_1244 ⟨by decide, by decide⟩ sh_197 rfl rfl rfl (Nat.le_refl _) (Nat.le_refl _) (ct_X8_does (t := t) E hp he ⟨by omega, by omega⟩ h65 g3) ?_
        refine j_iinc2 (q := 76) dX8_run_73 rfl rfl (by decide) ?_
        refine j_goto (tgt := 51) dX8_run_76 (by decide) ?_
        exact ih _ _ (by omega) (by omega) (by omega) (WI_do (hp n (by omega) (by omega)).1 h65 g3) (fun x hx => kk x (hx.trans (by rw [zRnF, if_pos ⟨by omega, h65⟩])))
theorem ct_X8_run_e1 {G : GX} (E : EV G) {m : Mem} {z : Z} {K : Int} {t : Int} (r_t : -2147483648 ≤ t ∧ t < 2147483648) (hT : TX m) (h2 : 0 ≤ z 2 ∧ z 2 ≤ 6) (hx : ¬ (0 ≤ t ∧ t < z 2)) : CT G SHP iX8_run 0 0 [.inr (.ref 197), .inl t] (sz m z) (some (.inl 0)) (sz (up m 197 12 1) z) := by
  refine j_met (L0 := [some (.inr (.ref 197)), some (.inl t), none]) (by decide) E.1 E.2 rfl (Nat.le_of_ble_eq_true rfl) ?_
  refine j_aload0 (q := 1) dX8_run_0 rfl ?_
  refine j_iconst (q := 2) dX8_run_1 rfl ?_
  refine j_nputI (by decide) 12 (j' := 12) (q := 5) dX8_run_2 rfl fw_X8_38 sh_197 rfl rfl ?_
  refine j_mem (m' := sz (th0 m) z) rfl ?_
  have e10 : th0 m 197 10 = m 197 10 := up_ne (by omega)
  have e11 : th0 m 197 11 = m 197 11 := up_ne (by omega)
  have hT2 := TX_th hT
  have hl := hT.1
  have hb := pScK_b hT2
  have f10 : pScn (th0 m) 197 10 = m 197 10 := (pScn_o (by omega)).trans e10
  have f11 : pScn (th0 m) 197 11 = m 197 11 := (pScn_o (by omega)).trans e11
  have f9 := pScn_9 hT2
  refine j_aload0 (q := 6) dX8_run_5 rfl ?_
  refine j_iload1 (q := 7) dX8_run_6 rfl ?_
  refine j_callV1 (Mc := iX8_isTenant) (q := 10) (c' := 0) (s' := 0) dX8_run_7 rfl kV_X8_isTenant jw_1068 ⟨by decide, by decide⟩ sh_197 rfl rfl rfl (Nat.le_refl _) (Nat.le_refl _) (ct_X8_isTenant E (by omega) (by omega)) ?_
  refine j_ifne_b (tgt := 19) (q := 13) dX8_run_10 (by decide) rfl (fun h10 => ?_) (fun h10 => ?_)
  · exfalso
    first | omega | (simp only [wi, decide_eq_true_eq, decide_eq_false_iff_not] at *; omega) | (simp_all [wi]; done) | (simp_all [wi]; omega)
  · refine j_aload0 (q := 14) dX8_run_13 rfl ?_
    refine j_iconst (q := 15) dX8_run_14 rfl ?_
    refine j_callV1 (Mc := iX8_fails) (q := 18) (c' := 0) (s' := 0) dX8_run_15 rfl kV_X8_fails jw_1038 ⟨by decide, by decide⟩ sh_197 rfl rfl rfl (Nat.le_refl _) (Nat.le_refl _) (ct_X8_fails E) ?_
    exact j_ireturn dX8_run_18 rfl (rfl) (by rw [th0, up_up])
theorem ct_X8_run_e2 {G : GX} (E : EV G) {m : Mem} {z : Z} {K : Int} {t : Int} (r_t : -2147483648 ≤ t ∧ t < 2147483648) (hT : TX m) (h2 : 0 ≤ z 2 ∧ z 2 ≤ 6) (ht : 0 ≤ t ∧ t < z 2) (hx : pScK (th0 m) < m 197 11 ∨ ¬ pScn (th0 m) 197 9 = 20) : CT G SHP iX8_run 0 0 [.inr (.ref 197), .inl t] (sz m z) (some (.inl 0)) (sz (up (pScn (th0 m)) 197 12 2) z) := by
  refine j_met (L0 := [some (.inr (.ref 197)), some (.inl t), none]) (by decide) E.1 E.2 rfl (Nat.le_of_ble_eq_true rfl) ?_
  refine j_aload0 (q := 1) dX8_run_0 rfl ?_
  refine j_iconst (q := 2) dX8_run_1 rfl ?_
  refine j_nputI (by decide) 12 (j' := 12) (q := 5) dX8_run_2 rfl fw_X8_38 sh_197 rfl rfl ?_
  refine j_mem (m' := sz (th0 m) z) rfl ?_
  have e10 : th0 m 197 10 = m 197 10 := up_ne (by omega)
  have e11 : th0 m 197 11 = m 197 11 := up_ne (by omega)
  have hT2 := TX_th hT
  have hl := hT.1
  have hb := pScK_b hT2
  have f10 : pScn (th0 m) 197 10 = m 197 10 := (pScn_o (by omega)).trans e10
  have f11 : pScn (th0 m) 197 11 = m 197 11 := (pScn_o (by omega)).trans e11
  have f9 := pScn_9 hT2
  refine j_aload0 (q := 6) dX8_run_5 rfl ?_
  refine j_iload1 (q := 7) dX8_run_6 rfl ?_
  refine j_callV1 (Mc := iX8_isTenant) (q := 10) (c' := 0) (s' := 0) dX8_run_7 rfl kV_X8_isTenant jw_1068 ⟨by decide, by decide⟩ sh_197 rfl rfl rfl (Nat.le_refl _) (Nat.le_refl _) (ct_X8_isTenant E (by omega) (by omega)) ?_
  refine j_ifne_b (tgt := 19) (q := 13) dX8_run_10 (by decide) rfl (fun h10 => ?_) (fun h10 => ?_)
  · refine j_aload0 (q := 20) dX8_run_19 rfl ?_
    refine j_callV0 (Mc := iX8_scan) (q := 23) (c' := 0) (s' := 0) dX8_run_20 rfl kV_X8_scan jw_1216 ⟨by decide, by decide⟩ sh_197 rfl rfl rfl (Nat.le_refl _) (Nat.le_refl _) (ct_X8_scan E hT2) ?_
    refine j_aload0 (q := 24) dX8_run_23 rfl ?_
    refine j_ngetI (by decide) 11 (j' := 11) (q := 27) dX8_run_24 rfl fl_X8_160 sh_197 rfl rfl ?_
    refine j_icmp_lt (tgt := 39) (q := 30) dX8_run_27 (by decide) rfl (by first | exact wr_id' (by omega) (by omega) | with_reducible exact wr_bI _ | exact rfl) (by first | exact wr_id' (by omega) (by omega) | with_reducible exact wr_bI _ | exact rfl) (fun h27 => ?_) (fun h27 => ?_)
    · refine j_aload0 (q := 40) dX8_run_39 rfl ?_
      refine j_iconst (q := 41) dX8_run_40 rfl ?_
      refine j_callV1 (Mc := iX8_fails) (q := 44) (c' := 0) (s' := 0) dX8_run_41 rfl kV_X8_fails jw_1038 ⟨by decide, by decide⟩ sh_197 rfl rfl rfl (Nat.le_refl _) (Nat.le_refl _) (ct_X8_fails E) ?_
      exact j_ireturn dX8_run_44 rfl (rfl) (rfl)
    · refine j_aload0 (q := 31) dX8_run_30 rfl ?_
      refine j_ngetI (by decide) 9 (j' := 9) (q := 34) dX8_run_31 rfl fl_X8_163 sh_197 rfl rfl ?_
      refine j_bipush (q := 36) dX8_run_34 rfl rfl ?_
      refine j_icmp_eq (tgt := 45) (q := 39) dX8_run_36 (by decide) rfl (by first | exact wr_id' (by omega) (by omega) | with_reducible exact wr_bI _ | exact rfl) (by first | exact wr_id' (by omega) (by omega) | with_reducible exact wr_bI _ | exact rfl) (fun h36 => ?_) (fun h36 => ?_)
      · exfalso
        first | omega | (simp only [wi, decide_eq_true_eq, decide_eq_false_iff_not] at *; omega) | (simp_all [wi]; done) | (simp_all [wi]; omega)
      · refine j_aload0 (q := 40) dX8_run_39 rfl ?_
        refine j_iconst (q := 41) dX8_run_40 rfl ?_
        refine j_callV1 (Mc := iX8_fails) (q := 44) (c' := 0) (s' := 0) dX8_run_41 rfl kV_X8_fails jw_1038 ⟨by decide, by decide⟩ sh_197 rfl rfl rfl (Nat.le_refl _) (Nat.le_refl _) (ct_X8_fails E) ?_
        exact j_ireturn dX8_run_44 rfl (rfl) (rfl)
  · exfalso
    first | omega | (simp only [wi, decide_eq_true_eq, decide_eq_false_iff_not] at *; omega) | (simp_all [wi]; done) | (simp_all [wi]; omega)
theorem ct_X8_run_ok {G : GX} (E : EV G) {m : Mem} {z : Z} {K : Int} {t : Int} (r_t : -2147483648 ≤ t ∧ t < 2147483648) (hT : TX m) (h2 : 0 ≤ z 2 ∧ z 2 ≤ 6) (ht : 0 ≤ t ∧ t < z 2) (hs : 0 ≤ m 197 10 ∧ m 197 10 ≤ 6) (hk : m 197 11 ≤ pScK (th0 m)) (hq : pScn (th0 m) 197 9 = 20) (hp : (∀ n, 0 ≤ n → n < zRnM z m 197 8 → (0 ≤ zRnM z m 203 n ∧ zRnM z m 203 n < 64) ∧ (0 ≤ zRnM z m 202 n ∧ zRnM z m 202 n ≤ 3) ∧ 0 ≤ zRnM z m 204 n ∧ zRnM z m 204 n ≤ 9)) (he : 0 ≤ zRnM z m 197 8 ∧ zRnM z m 197 8 ≤ 32) (hW : WI z K) : CT G SHP iX8_run 0 0 [.inr (.ref 197), .inl t] (sz m z) (some (.inl (zRun z m t).2)) (sz (up (so (zRnM z m) (zRun z m t).1.2) 197 11 0) (zRun z m t).1.1) := by
  refine j_met (L0 := [some (.inr (.ref 197)), some (.inl t), none]) (by decide) E.1 E.2 rfl (Nat.le_of_ble_eq_true rfl) ?_
  refine j_aload0 (q := 1) dX8_run_0 rfl ?_
  refine j_iconst (q := 2) dX8_run_1 rfl ?_
  refine j_nputI (by decide) 12 (j' := 12) (q := 5) dX8_run_2 rfl fw_X8_38 sh_197 rfl rfl ?_
  refine j_mem (m' := sz (th0 m) z) rfl ?_
  have e10 : th0 m 197 10 = m 197 10 := up_ne (by omega)
  have e11 : th0 m 197 11 = m 197 11 := up_ne (by omega)
  have hT2 := TX_th hT
  have hl := hT.1
  have hb := pScK_b hT2
  have f10 : pScn (th0 m) 197 10 = m 197 10 := (pScn_o (by omega)).trans e10
  have f11 : pScn (th0 m) 197 11 = m 197 11 := (pScn_o (by omega)).trans e11
  have f9 := pScn_9 hT2
  refine j_aload0 (q := 6) dX8_run_5 rfl ?_
  refine j_iload1 (q := 7) dX8_run_6 rfl ?_
  refine j_callV1 (Mc := iX8_isTenant) (q := 10) (c' := 0) (s' := 0) dX8_run_7 rfl kV_X8_isTenant jw_1068 ⟨by decide, by decide⟩ sh_197 rfl rfl rfl (Nat.le_refl _) (Nat.le_refl _) (ct_X8_isTenant E (by omega) (by omega)) ?_
  refine j_ifne_b (tgt := 19) (q := 13) dX8_run_10 (by decide) rfl (fun h10 => ?_) (fun h10 => ?_)
  · refine j_aload0 (q := 20) dX8_run_19 rfl ?_
    refine j_callV0 (Mc := iX8_scan) (q := 23) (c' := 0) (s' := 0) dX8_run_20 rfl kV_X8_scan jw_1216 ⟨by decide, by decide⟩ sh_197 rfl rfl rfl (Nat.le_refl _) (Nat.le_refl _) (ct_X8_scan E hT2) ?_
    refine j_aload0 (q := 24) dX8_run_23 rfl ?_
    refine j_ngetI (by decide) 11 (j' := 11) (q := 27) dX8_run_24 rfl fl_X8_160 sh_197 rfl rfl ?_
    refine j_icmp_lt (tgt := 39) (q := 30) dX8_run_27 (by decide) rfl (by first | exact wr_id' (by omega) (by omega) | with_reducible exact wr_bI _ | exact rfl) (by first | exact wr_id' (by omega) (by omega) | with_reducible exact wr_bI _ | exact rfl) (fun h27 => ?_) (fun h27 => ?_)
    · exfalso
      first | omega | (simp only [wi, decide_eq_true_eq, decide_eq_false_iff_not] at *; omega) | (simp_all [wi]; done) | (simp_all [wi]; omega)
    · refine j_aload0 (q := 31) dX8_run_30 rfl ?_
      refine j_ngetI (by decide) 9 (j' := 9) (q := 34) dX8_run_31 rfl fl_X8_163 sh_197 rfl rfl ?_
      refine j_bipush (q := 36) dX8_run_34 rfl rfl ?_
      refine j_icmp_eq (tgt := 45) (q := 39) dX8_run_36 (by decide) rfl (by first | exact wr_id' (by omega) (by omega) | with_reducible exact wr_bI _ | exact rfl) (by first | exact wr_id' (by omega) (by omega) | with_reducible exact wr_bI _ | exact rfl) (fun h36 => ?_) (fun h36 => ?_)
      · refine j_aload0 (q := 46) dX8_run_45 rfl ?_
        refine j_callV0v (Mc := iX8_save) (q := 49) (c' := 0) (s' := 0) dX8_run_46 rfl kV_X8_save jw_1042 ⟨by decide, by decide⟩ sh_197 rfl rfl rfl (Nat.le_refl _) (Nat.le_refl _) (ct_X8_save E (by omega)) ?_
        refine j_iconst (q := 50) dX8_run_49 rfl ?_
        refine j_istore2 (q := 51) dX8_run_50 rfl rfl (by decide) ?_
        refine j_mem (m' := sz (so (zRnM z m) (m 205)) z) (by rw [show m 205 = zRnM z m 205 from funext fun j => ((zSv_o (by omega) (by omega)).trans ((pScn_o (by omega)).trans (up_ne (by omega)))).symm, so_self]; rfl) ?_
        refine lp_X8_run E hp he (t := t) ⟨by omega, by omega⟩ 32 0 (z, m 205) (by omega) (by omega) (by omega) hW ?_
        intro x hx
        have hx2 : x = zRun z m t := hx
        subst hx2
        refine j_aload0 (q := 80) dX8_run_79 rfl ?_
        refine j_iconst (q := 81) dX8_run_80 rfl ?_
        refine j_nputI (by decide) 11 (j' := 11) (q := 84) dX8_run_81 rfl fw_X8_160 sh_197 rfl rfl ?_
        refine j_iload2 (q := 85) dX8_run_84 rfl ?_
        exact j_ireturn dX8_run_85 rfl (rfl) (rfl)
      · exfalso
        first | omega | (simp only [wi, decide_eq_true_eq, decide_eq_false_iff_not] at *; omega) | (simp_all [wi]; done) | (simp_all [wi]; omega)
  · exfalso
    first | omega | (simp only [wi, decide_eq_true_eq, decide_eq_false_iff_not] at *; omega) | (simp_all [wi]; done) | (simp_all [wi]; omega)
def zUn (m : Mem) (z : Z) : Z := brZ (fun j => m 200 (2195 * (m 197 10 - 1) + j)) z 2195
theorem lp_X8_undo {G : GX} (E : EV G) {m : Mem} {z : Z} {F : FinT} (hs : 0 ≤ m 197 10 ∧ m 197 10 < 6) (kk : J G SHP iX8_undo 0 0 F 64 [some (.inr (.ref 197)), none] [] (sz m (brZ (fun j => m 200 (2195 * m 197 10 + j)) z 2195)) 0 0) : ∀ (d : Nat) (k : Int), k + d = 2195 → 0 ≤ k → J G SHP iX8_undo 0 0 F 30 [some (.inr (.ref 197)), some (.inl k)] [] (sz m (brZ (fun j => m 200 (2195 * m 197 10 + j)) z k)) 0 0 := by
  intro d
  induction d with
  | zero =>
    intro k g0 g1
    refine j_iload1 (q := 31) dX8_undo_30 rfl ?_
    refine j_sipush (q := 34) dX8_undo_31 rfl rfl ?_
    refine j_icmp_ge (tgt := 64) (q := 37) dX8_undo_34 (by decide) rfl (by first | exact wr_id' (by omega) (by omega) | with_reducible exact wr_bI _ | exact rfl) (by first | exact wr_id' (by omega) (by omega) | with_reducible exact wr_bI _ | exact rfl) (fun h34 => ?_) (fun h34 => ?_)
    · obtain rfl : k = 2195 := by omega
      refine j_fgt1 ?_
      exact kk
    · omega
  | succ d ih =>
    intro k g0 g1
    refine j_iload1 (q := 31) dX8_undo_30 rfl ?_
    refine j_sipush (q := 34) dX8_undo_31 rfl rfl ?_
    refine j_icmp_ge (tgt := 64) (q := 37) dX8_undo_34 (by decide) rfl (by first | exact wr_id' (by omega) (by omega) | with_reducible exact wr_bI _ | exact rfl) (by first | exact wr_id' (by omega) (by omega) | with_reducible exact wr_bI _ | exact rfl) (fun h34 => ?_) (fun h34 => ?_)
    · omega
    · refine j_aload0 (q := 38) dX8_undo_37 rfl ?_
      refine j_getR 0 (q := 41) dX8_undo_38 rfl fl_X8_7 sh_197 rfl ?_
      refine j_iload1 (q := 42) dX8_undo_41 rfl ?_
      refine j_aload0 (q := 43) dX8_undo_42 rfl ?_
      refine j_getR 2 (q := 46) dX8_undo_43 rfl fl_X8_16 sh_197 rfl ?_
      refine j_sipush (q := 49) dX8_undo_46 rfl rfl ?_
      refine j_aload0 (q := 50) dX8_undo_49 rfl ?_
      refine j_ngetI (by decide) 10 (j' := 10) (q := 53) dX8_undo_50 rfl fl_X8_46 sh_197 rfl rfl ?_
      refine j_imul (q := 54) dX8_undo_53 rfl ?_
      refine j_iload1 (q := 55) dX8_undo_54 rfl ?_
      refine j_iadd (q := 56) dX8_undo_55 rfl ?_
      refine j_nload (q := 57) (by decide) dX8_undo_56 rfl sh_200 (by first | exact wr_id' (by omega) (by omega) | with_reducible exact wr_bI _ | exact rfl) (by omega) (by omega) ?_
      refine j_zstore (q := 58) dX8_undo_57 rfl (by first | exact wr_id' (by omega) (by omega) | with_reducible exact wr_bI _ | exact rfl) (by omega) (by omega) ?_
      refine j_iinc1 (q := 61) dX8_undo_58 rfl rfl (by decide) ?_
      refine j_goto (tgt := 30) dX8_undo_61 (by decide) ?_
      rw [show m 200 (2195 * m 197 10 + k) = (fun j => m 200 (2195 * m 197 10 + j)) k from rfl, brZ_s (by omega)]
      exact ih _ (by omega) (by omega)
theorem ct_X8_undo_e1 {G : GX} (E : EV G) {m : Mem} {z : Z} {K : Int} (hs : 0 ≤ m 197 10 ∧ m 197 10 ≤ 6) (hx : m 197 10 = 0) : CT G SHP iX8_undo 0 0 [.inr (.ref 197)] (sz m z) (some (.inl 0)) (sz (up m 197 12 1) z) := by
  refine j_met (L0 := [some (.inr (.ref 197)), none]) (by decide) E.1 E.2 rfl (Nat.le_of_ble_eq_true rfl) ?_
  refine j_aload0 (q := 1) dX8_undo_0 rfl ?_
  refine j_iconst (q := 2) dX8_undo_1 rfl ?_
  refine j_nputI (by decide) 12 (j' := 12) (q := 5) dX8_undo_2 rfl fw_X8_38 sh_197 rfl rfl ?_
  refine j_mem (m' := sz (th0 m) z) rfl ?_
  have e10 : th0 m 197 10 = m 197 10 := up_ne (by omega)
  refine j_aload0 (q := 6) dX8_undo_5 rfl ?_
  refine j_ngetI (by decide) 10 (j' := 10) (q := 9) dX8_undo_6 rfl fl_X8_46 sh_197 rfl rfl ?_
  refine j_if_ne (tgt := 18) (q := 12) dX8_undo_9 (by decide) rfl (by first | exact wr_id' (by omega) (by omega) | with_reducible exact wr_bI _ | exact rfl) (fun h9 => ?_) (fun h9 => ?_)
  · exfalso
    first | omega | (simp only [wi, decide_eq_true_eq, decide_eq_false_iff_not] at *; omega) | (simp_all [wi]; done) | (simp_all [wi]; omega)
  · refine j_aload0 (q := 13) dX8_undo_12 rfl ?_
    refine j_iconst (q := 14) dX8_undo_13 rfl ?_
    refine j_callV1 (Mc := iX8_fails) (q := 17) (c' := 0) (s' := 0) dX8_undo_14 rfl kV_X8_fails jw_1038 ⟨by decide, by decide⟩ sh_197 rfl rfl rfl (Nat.le_refl _) (Nat.le_refl _) (ct_X8_fails E) ?_
    exact j_ireturn dX8_undo_17 rfl (rfl) (by rw [th0, up_up])
theorem ct_X8_undo_ok {G : GX} (E : EV G) {m : Mem} {z : Z} {K : Int} (hs : 0 ≤ m 197 10 ∧ m 197 10 ≤ 6) (hx : 0 < m 197 10) : CT G SHP iX8_undo 0 0 [.inr (.ref 197)] (sz m z) (some (.inl (m 197 10 - 1))) (sz (up (th0 m) 197 10 (m 197 10 - 1)) (zUn m z)) := by
  refine j_met (L0 := [some (.inr (.ref 197)), none]) (by decide) E.1 E.2 rfl (Nat.le_of_ble_eq_true rfl) ?_
  refine j_aload0 (q := 1) dX8_undo_0 rfl ?_
  refine j_iconst (q := 2) dX8_undo_1 rfl ?_
  refine j_nputI (by decide) 12 (j' := 12) (q := 5) dX8_undo_2 rfl fw_X8_38 sh_197 rfl rfl ?_
  refine j_mem (m' := sz (th0 m) z) rfl ?_
  have e10 : th0 m 197 10 = m 197 10 := up_ne (by omega)
  refine j_aload0 (q := 6) dX8_undo_5 rfl ?_
  refine j_ngetI (by decide) 10 (j' := 10) (q := 9) dX8_undo_6 rfl fl_X8_46 sh_197 rfl rfl ?_
  refine j_if_ne (tgt := 18) (q := 12) dX8_undo_9 (by decide) rfl (by first | exact wr_id' (by omega) (by omega) | with_reducible exact wr_bI _ | exact rfl) (fun h9 => ?_) (fun h9 => ?_)
  · refine j_aload0 (q := 19) dX8_undo_18 rfl ?_
    refine j_dup (q := 20) dX8_undo_19 rfl rfl ?_
    refine j_ngetI (by decide) 10 (j' := 10) (q := 23) dX8_undo_20 rfl fl_X8_46 sh_197 rfl rfl ?_
    refine j_iconst (q := 24) dX8_undo_23 rfl ?_
    refine j_isub (q := 25) dX8_undo_24 rfl ?_
    refine j_nputI (by decide) 10 (j' := 10) (q := 28) dX8_undo_25 rfl fw_X8_46 sh_197 rfl rfl ?_
    refine j_iconst (q := 29) dX8_undo_28 rfl ?_
    refine j_istore1 (q := 30) dX8_undo_29 rfl rfl (by decide) ?_
    rw [e10]
    have f10 : up (th0 m) 197 10 (m 197 10 - 1) 197 10 = m 197 10 - 1 := up_at
    refine j_mem (m' := sz (up (th0 m) 197 10 (m 197 10 - 1)) (brZ (fun j => up (th0 m) 197 10 (m 197 10 - 1) 200 (2195 * up (th0 m) 197 10 (m 197 10 - 1) 197 10 + j)) z 0)) (by rw [← brZ_0]) ?_
    refine lp_X8_undo E ⟨by omega, by omega⟩ ?_ 2195 0 (by omega) (by omega)
    refine j_aload0 (q := 65) dX8_undo_64 rfl ?_
    refine j_ngetI (by decide) 10 (j' := 10) (q := 68) dX8_undo_65 rfl fl_X8_46 sh_197 rfl rfl ?_
    exact j_ireturn dX8_undo_68 rfl (by rw [f10]) (by rw [f10]; congr 1)
  · exfalso
    first | omega | (simp only [wi, decide_eq_true_eq, decide_eq_false_iff_not] at *; omega) | (simp_all [wi]; done) | (simp_all [wi]; omega)

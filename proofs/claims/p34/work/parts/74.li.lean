/-! the law: cores -/
section
variable {G : GX} {sh : List SH} {p : Bool} {m : Mem} {z : Z}
theorem ct_L_risk0 (E : EW G sh) (hs : LA sh p) {k : Int} (h1 : 0 ≤ k ∧ k < 16) (hX : LX z) : CT G sh iL_risk 0 0 [.inl k, .inl (-1), .inr (.ref (ix p 0)), .inr (.ref (ix p 1)), .inr (.ref (ix p 7))] (lz m p z) (some (.inl (zDis z (cr k) 0))) (lz m p z) := ct_L_risk E hs (w := -1) h1 (by decide) hX
theorem ct_L_risk1 (E : EW G sh) (hs : LA sh p) {k : Int} (h1 : 0 ≤ k ∧ k < 16) (hX : LX z) : CT G sh iL_risk 0 0 [.inl k, .inl (-2), .inr (.ref (ix p 0)), .inr (.ref (ix p 1)), .inr (.ref (ix p 7))] (lz m p z) (some (.inl (zDis z (cr k) 1))) (lz m p z) := ct_L_risk E hs (w := -2) h1 (by decide) hX
theorem ct_L_riskt (E : EW G sh) (hs : LA sh p) {k t : Int} (h1 : 0 ≤ k ∧ k < 16) (ht : 0 ≤ t ∧ t < 6) (hX : LX z) : CT G sh iL_risk 0 0 [.inl k, .inl t, .inr (.ref (ix p 0)), .inr (.ref (ix p 1)), .inr (.ref (ix p 7))] (lz m p z) (some (.inl (zDis z (cr k) (t + 2)))) (lz m p z) := by
  have h := ct_L_risk (m := m) E hs (w := t) h1 (by omega) hX
  rcases lW_c (w := t) (by omega) with ⟨a, -⟩ | ⟨a, -⟩ | ⟨-, a⟩
  · omega
  · omega
  · rw [a] at h; exact h
end
theorem v_core0 {z : Z} {c : Int} : zCN z c 0 = z (59 + 9 * c + 0) := by unfold zCN; rw [if_pos (by decide)]
theorem v_core1 {z : Z} {c : Int} : zCN z c 1 = z (59 + 9 * c + 1) := by unfold zCN; rw [if_pos (by decide)]
theorem v_core8 {z : Z} {c : Int} : zCN z c 8 = z (59 + 9 * c + 8) := by unfold zCN; rw [if_pos (by decide)]
theorem v_core2 {z : Z} {c : Int} : zCN z c 2 = z (59 + 9 * c + 2) - 1 := by unfold zCN; rw [if_neg (by decide), if_pos rfl]
theorem v_core4 {z : Z} {c : Int} : zCN z c 4 = z (59 + 9 * c + 4) - 1 := by unfold zCN; rw [if_neg (by decide), if_neg (by decide), if_neg (by decide), if_pos rfl]
theorem v_core7 {z : Z} {c : Int} : zCN z c 7 = z (59 + 9 * c + 6) - 1 := by unfold zCN; rw [if_neg (by decide), if_neg (by decide), if_neg (by decide), if_neg (by decide), if_neg (by decide), if_neg (by decide)]
theorem v_ifr0 {z : Z} {c : Int} : zRN z c 0 = z (59 + 9 * c + 0) := by unfold zRN; rw [if_pos rfl]
theorem v_ifr1 {z : Z} {c : Int} : zRN z c 1 = zDis z c 0 := by unfold zRN; rw [if_neg (by decide), if_pos rfl]
theorem v_ifr4 {z : Z} {c : Int} : zRN z c 4 = zDis z c 1 := by unfold zRN; rw [if_neg (by decide), if_neg (by decide), if_neg (by decide), if_neg (by decide)]
/-- the gentlest so far -/
def lBs (z : Z) (k g : Int) : Int := if 0 ≤ z (59 + 9 * cr k + 2) - 1 ∧ ¬ 0 ≤ z (59 + 9 * cr k + 6) - 1 ∧ ¬ z (59 + 9 * cr k + 0) = 0 ∧ (g < 0 ∨ zDis z (cr k) 0 < zDis z (cr g) 0 ∨ zDis z (cr k) 0 = zDis z (cr g) 0 ∧ z (59 + 9 * cr g + 1) < z (59 + 9 * cr k + 1)) then k else g
theorem lBs_t {z : Z} {k g : Int} (h : 0 ≤ z (59 + 9 * cr k + 2) - 1 ∧ ¬ 0 ≤ z (59 + 9 * cr k + 6) - 1 ∧ ¬ z (59 + 9 * cr k + 0) = 0 ∧ (g < 0 ∨ zDis z (cr k) 0 < zDis z (cr g) 0 ∨ zDis z (cr k) 0 = zDis z (cr g) 0 ∧ z (59 + 9 * cr g + 1) < z (59 + 9 * cr k + 1))) : lBs z k g = k := by unfold lBs; rw [if_pos h]
theorem lBs_f {z : Z} {k g : Int} (h : ¬ (0 ≤ z (59 + 9 * cr k + 2) - 1 ∧ ¬ 0 ≤ z (59 + 9 * cr k + 6) - 1 ∧ ¬ z (59 + 9 * cr k + 0) = 0 ∧ (g < 0 ∨ zDis z (cr k) 0 < zDis z (cr g) 0 ∨ zDis z (cr k) 0 = zDis z (cr g) 0 ∧ z (59 + 9 * cr g + 1) < z (59 + 9 * cr k + 1)))) : lBs z k g = g := by unfold lBs; rw [if_neg h]
theorem lBs_b {z : Z} : ∀ (d : Nat) (k g : Int), k + d = 16 → 0 ≤ k → -1 ≤ g → g < 16 → -1 ≤ itF (lBs z) d k g ∧ itF (lBs z) d k g < 16 := by
  intro d
  induction d with
  | zero => intro k g _ _ h1 h2; exact ⟨h1, h2⟩
  | succ d ih =>
    intro k g h1 h2 h3 h4
    rw [itF]
    unfold lBs
    split
    · exact ih _ _ (by omega) (by omega) (by omega) (by omega)
    · exact ih _ _ (by omega) (by omega) h3 h4
/-- as the class's number -/
def lPs (g : Int) : Int := if g < 0 then -1 else cr g
def zBs (z : Z) (c b : Int) : Int := if (zCR z c && decide (wr (z (59 + 9 * c + 0)) = 1)) = true ∧ (b = -1 ∨ zGen z c b = true) then c else b
theorem zGF_it {z : Z} : ∀ (d : Nat) (c b : Int), zGF z d c b = itF (zBs z) d c b := by
  intro d
  induction d with
  | zero => intro c b; rfl
  | succ d ih => intro c b; rw [zGF, itF, ih]; rfl
theorem zCR_e {z : Z} {T B c : Int} (hc : 0 ≤ c ∧ c < 64) (hX : LX z) (hI : IZ z T B) : zCR z c = true ↔ 0 ≤ z (59 + 9 * c + 2) - 1 ∧ ¬ 0 ≤ z (59 + 9 * c + 6) - 1 := by
  have b := (hX.2.2 c hc.1 hc.2).2.2.1
  have e1 := zLs_p (z := z) (c := c) ⟨b.1, by omega⟩
  have e2 := zOw_e hc hI
  unfold zCR
  rw [Bool.and_eq_true, e1]
  constructor
  · rintro ⟨q1, q2⟩
    refine ⟨by omega, fun w => ?_⟩
    have : zOw z c = true := e2.mpr (by omega)
    rw [this] at q2; cases q2
  · rintro ⟨q1, q2⟩
    refine ⟨by omega, ?_⟩
    cases h : zOw z c
    · rfl
    · have := e2.mp h; omega
theorem lBs_s {z : Z} {T B k g : Int} (hX : LX z) (hI : IZ z T B) (hk : 0 ≤ k ∧ k < 16) (hg : -1 ≤ g ∧ g < 16) : zBs z (cr k) (lPs g) = lPs (lBs z k g) := by
  have hc := cr_b hk
  have b := hX.2.2 (cr k) hc.1 hc.2
  have h0 := b.1
  rw [← Int.add_zero (59 + 9 * cr k)] at h0
  have s := hI.sg (cr k) hc.1 hc.2
  have e0 : wr (z (59 + 9 * cr k + 0)) = z (59 + 9 * cr k + 0) := wr_id' (by omega) (by omega)
  have dk := lRi_b (k := k) (w := 0) hX
  have ec := zCR_e hc hX hI
  have hq : (zCR z (cr k) && decide (wr (z (59 + 9 * cr k + 0)) = 1)) = true ↔ (0 ≤ z (59 + 9 * cr k + 2) - 1 ∧ ¬ 0 ≤ z (59 + 9 * cr k + 6) - 1) ∧ z (59 + 9 * cr k + 0) = 1 := by rw [Bool.and_eq_true, ec, decide_eq_true_eq, e0]
  by_cases q : g < 0
  · have e1 : lPs g = -1 := by unfold lPs; rw [if_pos q]
    by_cases w : 0 ≤ z (59 + 9 * cr k + 2) - 1 ∧ ¬ 0 ≤ z (59 + 9 * cr k + 6) - 1 ∧ ¬ z (59 + 9 * cr k + 0) = 0
    · rw [zBs, lBs, if_pos ⟨hq.mpr ⟨⟨w.1, w.2.1⟩, by omega⟩, Or.inl e1⟩, if_pos ⟨w.1, w.2.1, w.2.2, Or.inl q⟩]
      unfold lPs; rw [if_neg (by omega)]
    · rw [zBs, lBs, if_neg (fun u => w (by have := hq.mp u.1; omega)), if_neg (fun u => w ⟨u.1, u.2.1, u.2.2.1⟩)]
  · have hd := cr_b (k := g) ⟨by omega, hg.2⟩
    have e1 : lPs g = cr g := by unfold lPs; rw [if_neg q]
    have sg := hI.sg (cr g) hd.1 hd.2
    have dg := lRi_b (k := g) (w := 0) hX
    have eg : zGen z (cr k) (lPs g) = true ↔ zDis z (cr k) 0 < zDis z (cr g) 0 ∨ zDis z (cr k) 0 = zDis z (cr g) 0 ∧ z (59 + 9 * cr g + 1) < z (59 + 9 * cr k + 1) := by
      rw [e1]
      unfold zGen
      rw [decide_eq_true_eq, wr_id' (x := zDis z (cr k) 0) (by omega) (by omega), wr_id' (x := zDis z (cr g) 0) (by omega) (by omega), wr_id' (x := z (59 + 9 * cr g + 1)) (by omega) (by omega), wr_id' (x := z (59 + 9 * cr k + 1)) (by omega) (by omega)]
    by_cases w : 0 ≤ z (59 + 9 * cr k + 2) - 1 ∧ ¬ 0 ≤ z (59 + 9 * cr k + 6) - 1 ∧ ¬ z (59 + 9 * cr k + 0) = 0 ∧ (zDis z (cr k) 0 < zDis z (cr g) 0 ∨ zDis z (cr k) 0 = zDis z (cr g) 0 ∧ z (59 + 9 * cr g + 1) < z (59 + 9 * cr k + 1))
    · rw [zBs, lBs, if_pos ⟨hq.mpr ⟨⟨w.1, w.2.1⟩, by have := w.2.2.1; omega⟩, Or.inr (eg.mpr w.2.2.2)⟩, if_pos ⟨w.1, w.2.1, w.2.2.1, Or.inr w.2.2.2⟩]
      unfold lPs; rw [if_neg (by omega)]
    · rw [zBs, lBs, if_neg (fun u => w (by
        have u1 := hq.mp u.1
        exact ⟨u1.1.1, u1.1.2, by have := u1.2; omega, eg.mp (u.2.resolve_left (by omega))⟩)), if_neg (fun u => w ⟨u.1, u.2.1, u.2.2.1, u.2.2.2.resolve_left (by omega)⟩)]
theorem lBs_r {z : Z} {T B : Int} (hX : LX z) (hI : IZ z T B) : ∀ (d : Nat) (k g : Int), k + d = 16 → 0 ≤ k → -1 ≤ g → g < 16 → itF (fun k => zBs z (cr k)) d k (lPs g) = lPs (itF (lBs z) d k g) := by
  intro d
  induction d with
  | zero => intro k g _ _ _ _; rfl
  | succ d ih =>
    intro k g h1 h2 h3 h4
    rw [itF, itF, lBs_s hX hI ⟨h2, by omega⟩ ⟨h3, h4⟩]
    have b : -1 ≤ lBs z k g ∧ lBs z k g < 16 := by unfold lBs; split <;> omega
    exact ih _ _ (by omega) (by omega) b.1 b.2
theorem lBs_g {z : Z} {T B : Int} (hX : LX z) (hI : IZ z T B) : zG z = lPs (itF (lBs z) 16 0 (-1)) := by
  unfold zG
  rw [zGF_it, it16 (fun _ => True) (fun _ _ _ _ _ => trivial) (fun c b h1 h2 np _ => ?_) trivial]
  · have h := lBs_r hX hI 16 0 (-1) (by omega) (by omega) (by omega) (by omega)
    rw [show lPs (-1) = -1 from rfl] at h
    exact h
  · have e := LX_b0 hX h1 h2 np
    unfold zBs
    rw [Int.add_zero, e, if_neg (fun q => by
      have := (Bool.and_eq_true_iff.mp q.1).2
      exact absurd (of_decide_eq_true this) (by decide))]
theorem lp_L_cores {G : GX} {sh : List SH} {p : Bool} (V : EV G sh) (E : EW G sh) (hs : LA sh p) {m P : Mem} {z : Z} {T B K : Int} {F : FinT} {x : Int} (Q : QP (lz m p z) P z T B K) : ∀ (d : Nat) (k : Int) (g : Int), k + d = 16 → 0 ≤ k → -1 ≤ g → g < 16 → (∀ (y : Int), y = itF (lBs z) d k g → J G sh iL_cores 0 0 F 303 [some (.inr (.ref 0)), some (.inl x), some (.inr (.ref (ix p 0))), some (.inr (.ref (ix p 1))), some (.inr (.ref (ix p 2))), some (.inr (.ref (ix p 7))), some (.inr (.ref (ix p 6))), some (.inl y), none, none, none, none, none] [] (lz m p z) 0 0) → J G sh iL_cores 0 0 F 6 [some (.inr (.ref 0)), some (.inl x), some (.inr (.ref (ix p 0))), some (.inr (.ref (ix p 1))), some (.inr (.ref (ix p 2))), some (.inr (.ref (ix p 7))), some (.inr (.ref (ix p 6))), some (.inl g), some (.inl k), none, none, none, none] [] (lz m p z) 0 0 := by
  intro d
  induction d with
  | zero =>
    intro k g g0 g1 g2 g3 kk
    have hX := Q.2.2.2.1
    have hI := Q.2.1.2.2.2.2.2
    refine j_iload8 (q := 8) dL_cores_6 rfl ?_
    refine j_bipush (q := 10) dL_cores_8 rfl rfl ?_
    refine j_icmp_ge (tgt := 303) (q := 13) dL_cores_10 (by decide) rfl (by first | exact wr_id' (by omega) (by omega) | with_reducible exact wr_bI _ | exact rfl) (by first | exact wr_id' (by omega) (by omega) | with_reducible exact wr_bI _ | exact rfl) (fun h10 => ?_) (fun h10 => ?_)
    · refine j_fgt8 ?_
      exact kk _ rfl
    · omega
  | succ d ih =>
    intro k g g0 g1 g2 g3 kk
    have hX := Q.2.2.2.1
    have hI := Q.2.1.2.2.2.2.2
    refine j_iload8 (q := 8) dL_cores_6 rfl ?_
    refine j_bipush (q := 10) dL_cores_8 rfl rfl ?_
    refine j_icmp_ge (tgt := 303) (q := 13) dL_cores_10 (by decide) rfl (by first | exact wr_id' (by omega) (by omega) | with_reducible exact wr_bI _ | exact rfl) (by first | exact wr_id' (by omega) (by omega) | with_reducible exact wr_bI _ | exact rfl) (fun h10 => ?_) (fun h10 => ?_)
    · omega
    · have hc := cr_b (k := k) ⟨by omega, by omega⟩
      have hb := hX.2.2 (cr k) hc.1 hc.2
      have hb0 := hb.1
      rw [← Int.add_zero (59 + 9 * cr k)] at hb0
      have hu := hI.du (cr k) hc.1 hc.2
      have hT := hI.tT
      have hg := hI.sg (cr k) hc.1 hc.2
      refine j_iload8 (q := 15) dL_cores_13 rfl ?_
      refine j_callS1 (Mc := iL_core) (q := 18) (c' := 0) (s' := 0) dL_cores_15 rfl kS_L_core jw_438 ⟨by decide, by decide⟩ rfl (Nat.le_refl _) (Nat.le_refl _) (ct_L_core E hs (by omega)) ?_
      refine j_istore9 (q := 20) dL_cores_18 rfl rfl (by decide) ?_
      refine j_iconst (q := 21) dL_cores_20 rfl ?_
      refine j_iload8 (q := 23) dL_cores_21 rfl ?_
      refine j_imul (q := 24) dL_cores_23 rfl ?_
      refine j_istore10 (q := 26) dL_cores_24 rfl rfl (by decide) ?_
      refine j_aload0 (q := 27) dL_cores_26 rfl ?_
      refine j_iload9 (q := 29) dL_cores_27 rfl ?_
      refine j_iconst (q := 30) dL_cores_29 rfl ?_
      refine j_callV2 (Mc := iX7_core) (q := 33) (c' := 0) (s' := 0) dL_cores_30 rfl kV_X7_core jw_441 ⟨by decide, by decide⟩ (V.2.2 _ _ sh_0) rfl rfl rfl (Nat.le_refl _) (Nat.le_refl _) (ct_r (qc_core V Q (by omega) (by decide)) v_core0) ?_
      refine j_aload2 (q := 34) dL_cores_33 rfl ?_
      refine j_iload10 (q := 36) dL_cores_34 rfl ?_
      refine j_l0_0 (q := 37) dL_cores_36 rfl hs (by omega) ?_
      refine j_icmp_ne (tgt := 118) (q := 40) dL_cores_37 (by decide) rfl rfl rfl (fun h37 => ?_) (fun h37 => ?_)
      · exact absurd rfl h37
      · refine j_aload0 (q := 41) dL_cores_40 rfl ?_
        refine j_iload9 (q := 43) dL_cores_41 rfl ?_
        refine j_iconst (q := 44) dL_cores_43 rfl ?_
        refine j_callV2 (Mc := iX7_core) (q := 47) (c' := 0) (s' := 0) dL_cores_44 rfl kV_X7_core jw_441 ⟨by decide, by decide⟩ (V.2.2 _ _ sh_0) rfl rfl rfl (Nat.le_refl _) (Nat.le_refl _) (ct_r (qc_core V Q (by omega) (by decide)) v_core1) ?_
        refine j_aload2 (q := 48) dL_cores_47 rfl ?_
        refine j_iload10 (q := 50) dL_cores_48 rfl ?_
        refine j_iconst (q := 51) dL_cores_50 rfl ?_
        refine j_iadd (q := 52) dL_cores_51 rfl ?_
        refine j_l0_1 (q := 53) dL_cores_52 rfl hs (by omega) ?_
        refine j_icmp_ne (tgt := 118) (q := 56) dL_cores_53 (by decide) rfl rfl rfl (fun h53 => ?_) (fun h53 => ?_)
        · exact absurd rfl h53
        · refine j_aload0 (q := 57) dL_cores_56 rfl ?_
          refine j_iload9 (q := 59) dL_cores_57 rfl ?_
          refine j_iconst (q := 60) dL_cores_59 rfl ?_
          refine j_callV2 (Mc := iX7_core) (q := 63) (c' := 0) (s' := 0) dL_cores_60 rfl kV_X7_core jw_441 ⟨by decide, by decide⟩ (V.2.2 _ _ sh_0) rfl rfl rfl (Nat.le_refl _) (Nat.le_refl _) (ct_r (qc_core V Q (by omega) (by decide)) v_core2) ?_
          refine j_aload2 (q := 64) dL_cores_63 rfl ?_
          refine j_iload10 (q := 66) dL_cores_64 rfl ?_
          refine j_iconst (q := 67) dL_cores_66 rfl ?_
          refine j_iadd (q := 68) dL_cores_67 rfl ?_
          refine j_l0_2 (q := 69) dL_cores_68 rfl hs (by omega) ?_
          refine j_icmp_ne (tgt := 118) (q := 72) dL_cores_69 (by decide) rfl rfl rfl (fun h69 => ?_) (fun h69 => ?_)
          · exact absurd rfl h69
          · refine j_aload0 (q := 73) dL_cores_72 rfl ?_
            refine j_iload9 (q := 75) dL_cores_73 rfl ?_
            refine j_iconst (q := 76) dL_cores_75 rfl ?_
            refine j_callV2 (Mc := iX7_core) (q := 79) (c' := 0) (s' := 0) dL_cores_76 rfl kV_X7_core jw_441 ⟨by decide, by decide⟩ (V.2.2 _ _ sh_0) rfl rfl rfl (Nat.le_refl _) (Nat.le_refl _) (qc_core V Q (by omega) (by decide)) ?_
            refine j_aload2 (q := 80) dL_cores_79 rfl ?_
            refine j_iload10 (q := 82) dL_cores_80 rfl ?_
            refine j_iconst (q := 83) dL_cores_82 rfl ?_
            refine j_iadd (q := 84) dL_cores_83 rfl ?_
            refine j_l0_3 (q := 85) dL_cores_84 rfl hs (by omega) ?_
            refine j_icmp_ne (tgt := 118) (q := 88) dL_cores_85 (by decide) rfl rfl rfl (fun h85 => ?_) (fun h85 => ?_)
            · exact absurd (v_core3 hc Q) h85
            · refine j_aload0 (q := 89) dL_cores_88 rfl ?_
              refine j_iload9 (q := 91) dL_cores_89 rfl ?_
              refine j_iconst (q := 92) dL_cores_91 rfl ?_
              refine j_callV2 (Mc := iX7_core) (q := 95) (c' := 0) (s' := 0) dL_cores_92 rfl kV_X7_core jw_441 ⟨by decide, by decide⟩ (V.2.2 _ _ sh_0) rfl rfl rfl (Nat.le_refl _) (Nat.le_refl _) (ct_r (qc_core V Q (by omega) (by decide)) v_core4) ?_
              refine j_aload3 (q := 96) dL_cores_95 rfl ?_
              refine j_iload10 (q := 98) dL_cores_96 rfl ?_
              refine j_l1_0 (q := 99) dL_cores_98 rfl hs (by omega) ?_
              refine j_icmp_ne (tgt := 118) (q := 102) dL_cores_99 (by decide) rfl rfl rfl (fun h99 => ?_) (fun h99 => ?_)
              · exact absurd rfl h99
              · refine j_aload0 (q := 103) dL_cores_102 rfl ?_
                refine j_iload9 (q := 105) dL_cores_103 rfl ?_
                refine j_iconst (q := 106) dL_cores_105 rfl ?_
                refine j_callV2 (Mc := iX7_core) (q := 109) (c' := 0) (s' := 0) dL_cores_106 rfl kV_X7_core jw_441 ⟨by decide, by decide⟩ (V.2.2 _ _ sh_0) rfl rfl rfl (Nat.le_refl _) (Nat.le_refl _) (qc_core V Q (by omega) (by decide)) ?_
                refine j_aload3 (q := 110) dL_cores_109 rfl ?_
                refine j_iload10 (q := 112) dL_cores_110 rfl ?_
                refine j_iconst (q := 113) dL_cores_112 rfl ?_
                refine j_iadd (q := 114) dL_cores_113 rfl ?_
                refine j_l1_1 (q := 115) dL_cores_114 rfl hs (by omega) ?_
                refine j_icmp_eq (tgt := 120) (q := 118) dL_cores_115 (by decide) rfl rfl rfl (fun h115 => ?_) (fun h115 => ?_)
                · refine j_aload0 (q := 121) dL_cores_120 rfl ?_
                  refine j_iload9 (q := 123) dL_cores_121 rfl ?_
                  refine j_bipush (q := 125) dL_cores_123 rfl rfl ?_
                  refine j_callV2 (Mc := iX7_core) (q := 128) (c' := 0) (s' := 0) dL_cores_125 rfl kV_X7_core jw_441 ⟨by decide, by decide⟩ (V.2.2 _ _ sh_0) rfl rfl rfl (Nat.le_refl _) (Nat.le_refl _) (ct_r (qc_core V Q (by omega) (by decide)) (v_core6 hc Q)) ?_
                  refine j_aload3 (q := 129) dL_cores_128 rfl ?_
                  refine j_iload10 (q := 131) dL_cores_129 rfl ?_
                  refine j_iconst (q := 132) dL_cores_131 rfl ?_
                  refine j_iadd (q := 133) dL_cores_132 rfl ?_
                  refine j_l1_2 (q := 134) dL_cores_133 rfl hs (by omega) ?_
                  refine j_if_ge (tgt := 141) (q := 137) dL_cores_134 (by decide) rfl (by first | exact wr_id' (by omega) (by omega) | with_reducible exact wr_bI _ | exact rfl) (fun h134 => ?_) (fun h134 => ?_)
                  · refine j_iconst (q := 142) dL_cores_141 rfl ?_
                    refine j_icmp_ne (tgt := 198) (q := 145) dL_cores_142 (by decide) rfl rfl rfl (fun h142 => ?_) (fun h142 => ?_)
                    · exact absurd (by first | rw [if_pos (by omega)] | rw [if_neg (by omega)]) h142
                    · refine j_aload0 (q := 146) dL_cores_145 rfl ?_
                      refine j_iload9 (q := 148) dL_cores_146 rfl ?_
                      refine j_bipush (q := 150) dL_cores_148 rfl rfl ?_
                      refine j_callV2 (Mc := iX7_core) (q := 153) (c' := 0) (s' := 0) dL_cores_150 rfl kV_X7_core jw_441 ⟨by decide, by decide⟩ (V.2.2 _ _ sh_0) rfl rfl rfl (Nat.le_refl _) (Nat.le_refl _) (ct_r (qc_core V Q (by omega) (by decide)) v_core7) ?_
                      refine j_aload3 (q := 154) dL_cores_153 rfl ?_
                      refine j_iload10 (q := 156) dL_cores_154 rfl ?_
                      refine j_iconst (q := 157) dL_cores_156 rfl ?_
                      refine j_iadd (q := 158) dL_cores_157 rfl ?_
                      refine j_l1_2 (q := 159) dL_cores_158 rfl hs (by omega) ?_
                      refine j_icmp_ne (tgt := 198) (q := 162) dL_cores_159 (by decide) rfl rfl rfl (fun h159 => ?_) (fun h159 => ?_)
                      · exact absurd rfl h159
                      · refine j_aload0 (q := 163) dL_cores_162 rfl ?_
                        refine j_iload9 (q := 165) dL_cores_163 rfl ?_
                        refine j_bipush (q := 167) dL_cores_165 rfl rfl ?_
                        refine j_callV2 (Mc := iX7_core) (q := 170) (c' := 0) (s' := 0) dL_cores_167 rfl kV_X7_core jw_441 ⟨by decide, by decide⟩ (V.2.2 _ _ sh_0) rfl rfl rfl (Nat.le_refl _) (Nat.le_refl _) (ct_r (qc_core V Q (by omega) (by decide)) v_core8) ?_
                        refine j_aload4 (q := 172) dL_cores_170 rfl ?_
                        refine j_iload8 (q := 174) dL_cores_172 rfl ?_
                        refine j_l2_0 (q := 175) dL_cores_174 rfl hs (by omega) ?_
                        refine j_icmp_ne (tgt := 198) (q := 178) dL_cores_175 (by decide) rfl rfl rfl (fun h175 => ?_) (fun h175 => ?_)
                        · exact absurd rfl h175
                        · refine j_aload0 (q := 179) dL_cores_178 rfl ?_
                          refine j_iload9 (q := 181) dL_cores_179 rfl ?_
                          refine j_iconst (q := 182) dL_cores_181 rfl ?_
                          refine j_callV2 (Mc := iX7_ifRead) (q := 185) (c' := 0) (s' := 0) dL_cores_182 rfl kV_X7_ifRead jw_477 ⟨by decide, by decide⟩ (V.2.2 _ _ sh_0) rfl rfl rfl (Nat.le_refl _) (Nat.le_refl _) (ct_r (qc_ifRead V Q (by omega) (by decide)) v_ifr1) ?_
                          refine j_iload8 (q := 187) dL_cores_185 rfl ?_
                          refine j_iconst (q := 188) dL_cores_187 rfl ?_
                          refine j_aload2 (q := 189) dL_cores_188 rfl ?_
                          refine j_aload3 (q := 190) dL_cores_189 rfl ?_
                          refine j_aload5 (q := 192) dL_cores_190 rfl ?_
                          refine j_callS5 (Mc := iL_risk) (q := 195) (c' := 0) (s' := 0) dL_cores_192 rfl kS_L_risk jw_509 ⟨by decide, by decide⟩ rfl (Nat.le_refl _) (Nat.le_refl _) (ct_L_risk0 E hs (by omega) hX) ?_
                          refine j_icmp_eq (tgt := 200) (q := 198) dL_cores_195 (by decide) rfl rfl rfl (fun h195 => ?_) (fun h195 => ?_)
                          · refine j_aload2 (q := 201) dL_cores_200 rfl ?_
                            refine j_iload10 (q := 203) dL_cores_201 rfl ?_
                            refine j_iconst (q := 204) dL_cores_203 rfl ?_
                            refine j_iadd (q := 205) dL_cores_204 rfl ?_
                            refine j_l0_2 (q := 206) dL_cores_205 rfl hs (by omega) ?_
                            refine j_if_lt (tgt := 297) (q := 209) dL_cores_206 (by decide) rfl (by first | exact wr_id' (by omega) (by omega) | with_reducible exact wr_bI _ | exact rfl) (fun h206 => ?_) (fun h206 => ?_)
                            · refine j_iinc8 (q := 300) dL_cores_297 rfl rfl (by decide) ?_
                              refine j_goto (tgt := 6) dL_cores_300 (by decide) ?_
                              refine j_fgt9 ?_
                              refine j_fgt10 ?_
                              exact ih _ _ (by omega) (by omega) (by omega) (by omega) (fun y hy => kk y (hy.trans (by rw [itF]; exact congrArg (itF (lBs z) d (k + 1)) (by first | exact (lBs_t (by omega)).symm | exact (lBs_f (by omega)).symm))))
                            · refine j_aload3 (q := 210) dL_cores_209 rfl ?_
                              refine j_iload10 (q := 212) dL_cores_210 rfl ?_
                              refine j_iconst (q := 213) dL_cores_212 rfl ?_
                              refine j_iadd (q := 214) dL_cores_213 rfl ?_
                              refine j_l1_2 (q := 215) dL_cores_214 rfl hs (by omega) ?_
                              refine j_if_ge (tgt := 297) (q := 218) dL_cores_215 (by decide) rfl (by first | exact wr_id' (by omega) (by omega) | with_reducible exact wr_bI _ | exact rfl) (fun h215 => ?_) (fun h215 => ?_)
                              · refine j_iinc8 (q := 300) dL_cores_297 rfl rfl (by decide) ?_
                                refine j_goto (tgt := 6) dL_cores_300 (by decide) ?_
                                refine j_fgt9 ?_
                                refine j_fgt10 ?_
                                exact ih _ _ (by omega) (by omega) (by omega) (by omega) (fun y hy => kk y (hy.trans (by rw [itF]; exact congrArg (itF (lBs z) d (k + 1)) (by first | exact (lBs_t (by omega)).symm | exact (lBs_f (by omega)).symm))))
                              · refine j_aload2 (q := 219) dL_cores_218 rfl ?_
                                refine j_iload10 (q := 221) dL_cores_219 rfl ?_
                                refine j_l0_0 (q := 222) dL_cores_221 rfl hs (by omega) ?_
                                refine j_if_ne (tgt := 228) (q := 225) dL_cores_222 (by decide) rfl (by first | exact wr_id' (by omega) (by omega) | with_reducible exact wr_bI _ | exact rfl) (fun h222 => ?_) (fun h222 => ?_)
                                · refine j_iload8 (q := 230) dL_cores_228 rfl ?_
                                  refine j_iconst (q := 231) dL_cores_230 rfl ?_
                                  refine j_aload2 (q := 232) dL_cores_231 rfl ?_
                                  refine j_aload3 (q := 233) dL_cores_232 rfl ?_
                                  refine j_aload5 (q := 235) dL_cores_233 rfl ?_
                                  refine j_callS5 (Mc := iL_risk) (q := 238) (c' := 0) (s' := 0) dL_cores_235 rfl kS_L_risk jw_509 ⟨by decide, by decide⟩ rfl (Nat.le_refl _) (Nat.le_refl _) (ct_L_risk0 E hs (by omega) hX) ?_
                                  refine j_istore11 (q := 240) dL_cores_238 rfl rfl (by decide) ?_
                                  have dk := lRi_b (k := k) (w := 0) hX
                                  have dg := lRi_b (k := g) (w := 0) hX
                                  refine j_iload7 (q := 242) dL_cores_240 rfl ?_
                                  refine j_if_ge (tgt := 250) (q := 245) dL_cores_242 (by decide) rfl (by first | exact wr_id' (by omega) (by omega) | with_reducible exact wr_bI _ | exact rfl) (fun h242 => ?_) (fun h242 => ?_)
                                  · refine j_iload7 (q := 252) dL_cores_250 rfl ?_
                                    refine j_iconst (q := 253) dL_cores_252 rfl ?_
                                    refine j_aload2 (q := 254) dL_cores_253 rfl ?_
                                    refine j_aload3 (q := 255) dL_cores_254 rfl ?_
                                    refine j_aload5 (q := 257) dL_cores_255 rfl ?_
                                    refine j_callS5 (Mc := iL_risk) (q := 260) (c' := 0) (s' := 0) dL_cores_257 rfl kS_L_risk jw_509 ⟨by decide, by decide⟩ rfl (Nat.le_refl _) (Nat.le_refl _) (ct_L_risk0 E hs (by omega) hX) ?_
                                    refine j_istore12 (q := 262) dL_cores_260 rfl rfl (by decide) ?_
                                    refine j_iload11 (q := 264) dL_cores_262 rfl ?_
                                    refine j_iload12 (q := 266) dL_cores_264 rfl ?_
                                    refine j_icmp_lt (tgt := 293) (q := 269) dL_cores_266 (by decide) rfl (by first | exact wr_id' (by omega) (by omega) | with_reducible exact wr_bI _ | exact rfl) (by first | exact wr_id' (by omega) (by omega) | with_reducible exact wr_bI _ | exact rfl) (fun h266 => ?_) (fun h266 => ?_)
                                    · refine j_iload8 (q := 295) dL_cores_293 rfl ?_
                                      refine j_istore7 (q := 297) dL_cores_295 rfl rfl (by decide) ?_
                                      refine j_iinc8 (q := 300) dL_cores_297 rfl rfl (by decide) ?_
                                      refine j_goto (tgt := 6) dL_cores_300 (by decide) ?_
                                      refine j_fgt9 ?_
                                      refine j_fgt10 ?_
                                      refine j_fgt11 ?_
                                      refine j_fgt12 ?_
                                      exact ih _ _ (by omega) (by omega) (by omega) (by omega) (fun y hy => kk y (hy.trans (by rw [itF]; exact congrArg (itF (lBs z) d (k + 1)) (by first | exact (lBs_t (by omega)).symm | exact (lBs_f (by omega)).symm))))
                                    · refine j_iload11 (q := 271) dL_cores_269 rfl ?_
                                      refine j_iload12 (q := 273) dL_cores_271 rfl ?_
                                      refine j_icmp_ne (tgt := 297) (q := 276) dL_cores_273 (by decide) rfl (by first | exact wr_id' (by omega) (by omega) | with_reducible exact wr_bI _ | exact rfl) (by first | exact wr_id' (by omega) (by omega) | with_reducible exact wr_bI _ | exact rfl) (fun h273 => ?_) (fun h273 => ?_)
                                      · refine j_iinc8 (q := 300) dL_cores_297 rfl rfl (by decide) ?_
                                        refine j_goto (tgt := 6) dL_cores_300 (by decide) ?_
                                        refine j_fgt9 ?_
                                        refine j_fgt10 ?_
                                        refine j_fgt11 ?_
                                        refine j_fgt12 ?_
                                        exact ih _ _ (by omega) (by omega) (by omega) (by omega) (fun y hy => kk y (hy.trans (by rw [itF]; exact congrArg (itF (lBs z) d (k + 1)) (by first | exact (lBs_t (by omega)).symm | exact (lBs_f (by omega)).symm))))
                                      · have hd := cr_b (k := g) ⟨by omega, by omega⟩
                                        have hgg := hI.sg (cr g) hd.1 hd.2
                                        refine j_aload2 (q := 277) dL_cores_276 rfl ?_
                                        refine j_iload10 (q := 279) dL_cores_277 rfl ?_
                                        refine j_iconst (q := 280) dL_cores_279 rfl ?_
                                        refine j_iadd (q := 281) dL_cores_280 rfl ?_
                                        refine j_l0_1 (q := 282) dL_cores_281 rfl hs (by omega) ?_
                                        refine j_aload2 (q := 283) dL_cores_282 rfl ?_
                                        refine j_iconst (q := 284) dL_cores_283 rfl ?_
                                        refine j_iload7 (q := 286) dL_cores_284 rfl ?_
                                        refine j_imul (q := 287) dL_cores_286 rfl ?_
                                        refine j_iconst (q := 288) dL_cores_287 rfl ?_
                                        refine j_iadd (q := 289) dL_cores_288 rfl ?_
                                        refine j_l0_1 (q := 290) dL_cores_289 rfl hs (by omega) ?_
                                        refine j_icmp_le (tgt := 297) (q := 293) dL_cores_290 (by decide) rfl (by first | exact wr_id' (by omega) (by omega) | with_reducible exact wr_bI _ | exact rfl) (by first | exact wr_id' (by omega) (by omega) | with_reducible exact wr_bI _ | exact rfl) (fun h290 => ?_) (fun h290 => ?_)
                                        · refine j_iinc8 (q := 300) dL_cores_297 rfl rfl (by decide) ?_
                                          refine j_goto (tgt := 6) dL_cores_300 (by decide) ?_
                                          refine j_fgt9 ?_
                                          refine j_fgt10 ?_
                                          refine j_fgt11 ?_
                                          refine j_fgt12 ?_
                                          exact ih _ _ (by omega) (by omega) (by omega) (by omega) (fun y hy => kk y (hy.trans (by rw [itF]; exact congrArg (itF (lBs z) d (k + 1)) (by first | exact (lBs_t (by omega)).symm | exact (lBs_f (by omega)).symm))))
                                        · refine j_iload8 (q := 295) dL_cores_293 rfl ?_
                                          refine j_istore7 (q := 297) dL_cores_295 rfl rfl (by decide) ?_
                                          refine j_iinc8 (q := 300) dL_cores_297 rfl rfl (by decide) ?_
                                          refine j_goto (tgt := 6) dL_cores_300 (by decide) ?_
                                          refine j_fgt9 ?_
                                          refine j_fgt10 ?_
                                          refine j_fgt11 ?_
                                          refine j_fgt12 ?_
                                          exact ih _ _ (by omega) (by omega) (by omega) (by omega) (fun y hy => kk y (hy.trans (by rw [itF]; exact congrArg (itF (lBs z) d (k + 1)) (by first | exact (lBs_t (by omega)).symm | exact (lBs_f (by omega)).symm))))
                                  · refine j_bipush (q := 247) dL_cores_245 rfl rfl ?_
                                    refine j_goto (tgt := 260) dL_cores_247 (by decide) ?_
                                    refine j_istore12 (q := 262) dL_cores_260 rfl rfl (by decide) ?_
                                    refine j_iload11 (q := 264) dL_cores_262 rfl ?_
                                    refine j_iload12 (q := 266) dL_cores_264 rfl ?_
                                    refine j_icmp_lt (tgt := 293) (q := 269) dL_cores_266 (by decide) rfl (by first | exact wr_id' (by omega) (by omega) | with_reducible exact wr_bI _ | exact rfl) (by first | exact wr_id' (by omega) (by omega) | with_reducible exact wr_bI _ | exact rfl) (fun h266 => ?_) (fun h266 => ?_)
                                    · refine j_iload8 (q := 295) dL_cores_293 rfl ?_
                                      refine j_istore7 (q := 297) dL_cores_295 rfl rfl (by decide) ?_
                                      refine j_iinc8 (q := 300) dL_cores_297 rfl rfl (by decide) ?_
                                      refine j_goto (tgt := 6) dL_cores_300 (by decide) ?_
                                      refine j_fgt9 ?_
                                      refine j_fgt10 ?_
                                      refine j_fgt11 ?_
                                      refine j_fgt12 ?_
                                      exact ih _ _ (by omega) (by omega) (by omega) (by omega) (fun y hy => kk y (hy.trans (by rw [itF]; exact congrArg (itF (lBs z) d (k + 1)) (by first | exact (lBs_t (by omega)).symm | exact (lBs_f (by omega)).symm))))
                                    · refine j_iload11 (q := 271) dL_cores_269 rfl ?_
                                      refine j_iload12 (q := 273) dL_cores_271 rfl ?_
                                      refine j_icmp_ne (tgt := 297) (q := 276) dL_cores_273 (by decide) rfl (by first | exact wr_id' (by omega) (by omega) | with_reducible exact wr_bI _ | exact rfl) (by first | exact wr_id' (by omega) (by omega) | with_reducible exact wr_bI _ | exact rfl) (fun h273 => ?_) (fun h273 => ?_)
                                      · refine j_iinc8 (q := 300) dL_cores_297 rfl rfl (by decide) ?_
                                        refine j_goto (tgt := 6) dL_cores_300 (by decide) ?_
                                        refine j_fgt9 ?_
                                        refine j_fgt10 ?_
                                        refine j_fgt11 ?_
                                        refine j_fgt12 ?_
                                        exact ih _ _ (by omega) (by omega) (by omega) (by omega) (fun y hy => kk y (hy.trans (by rw [itF]; exact congrArg (itF (lBs z) d (k + 1)) (by first | exact (lBs_t (by omega)).symm | exact (lBs_f (by omega)).symm))))
                                      · have hd := cr_b (k := g) ⟨by omega, by omega⟩
                                        have hgg := hI.sg (cr g) hd.1 hd.2
                                        refine j_aload2 (q := 277) dL_cores_276 rfl ?_
                                        refine j_iload10 (q := 279) dL_cores_277 rfl ?_
                                        refine j_iconst (q := 280) dL_cores_279 rfl ?_
                                        refine j_iadd (q := 281) dL_cores_280 rfl ?_
                                        refine j_l0_1 (q := 282) dL_cores_281 rfl hs (by omega) ?_
                                        refine j_aload2 (q := 283) dL_cores_282 rfl ?_
                                        refine j_iconst (q := 284) dL_cores_283 rfl ?_
                                        refine j_iload7 (q := 286) dL_cores_284 rfl ?_
                                        refine j_imul (q := 287) dL_cores_286 rfl ?_
                                        refine j_iconst (q := 288) dL_cores_287 rfl ?_
                                        refine j_iadd (q := 289) dL_cores_288 rfl ?_
                                        refine j_l0_1 (q := 290) dL_cores_289 rfl hs (by omega) ?_
                                        refine j_icmp_le (tgt := 297) (q := 293) dL_cores_290 (by decide) rfl (by first | exact wr_id' (by omega) (by omega) | with_reducible exact wr_bI _ | exact rfl) (by first | exact wr_id' (by omega) (by omega) | with_reducible exact wr_bI _ | exact rfl) (fun h290 => ?_) (fun h290 => ?_)
                                        · refine j_iinc8 (q := 300) dL_cores_297 rfl rfl (by decide) ?_
                                          refine j_goto (tgt := 6) dL_cores_300 (by decide) ?_
                                          refine j_fgt9 ?_
                                          refine j_fgt10 ?_
                                          refine j_fgt11 ?_
                                          refine j_fgt12 ?_
                                          exact ih _ _ (by omega) (by omega) (by omega) (by omega) (fun y hy => kk y (hy.trans (by rw [itF]; exact congrArg (itF (lBs z) d (k + 1)) (by first | exact (lBs_t (by omega)).symm | exact (lBs_f (by omega)).symm))))
                                        · refine j_iload8 (q := 295) dL_cores_293 rfl ?_
                                          refine j_istore7 (q := 297) dL_cores_295 rfl rfl (by decide) ?_
                                          refine j_iinc8 (q := 300) dL_cores_297 rfl rfl (by decide) ?_
                                          refine j_goto (tgt := 6) dL_cores_300 (by decide) ?_
                                          refine j_fgt9 ?_
                                          refine j_fgt10 ?_
                                          refine j_fgt11 ?_
                                          refine j_fgt12 ?_
                                          exact ih _ _ (by omega) (by omega) (by omega) (by omega) (fun y hy => kk y (hy.trans (by rw [itF]; exact congrArg (itF (lBs z) d (k + 1)) (by first | exact (lBs_t (by omega)).symm | exact (lBs_f (by omega)).symm))))
                                · refine j_goto (tgt := 297) dL_cores_225 (by decide) ?_
                                  refine j_iinc8 (q := 300) dL_cores_297 rfl rfl (by decide) ?_
                                  refine j_goto (tgt := 6) dL_cores_300 (by decide) ?_
                                  refine j_fgt9 ?_
                                  refine j_fgt10 ?_
                                  exact ih _ _ (by omega) (by omega) (by omega) (by omega) (fun y hy => kk y (hy.trans (by rw [itF]; exact congrArg (itF (lBs z) d (k + 1)) (by first | exact (lBs_t (by omega)).symm | exact (lBs_f (by omega)).symm))))
                          · exact absurd rfl h195
                  · refine j_iconst (q := 138) dL_cores_137 rfl ?_
                    refine j_goto (tgt := 142) dL_cores_138 (by decide) ?_
                    refine j_icmp_ne (tgt := 198) (q := 145) dL_cores_142 (by decide) rfl rfl rfl (fun h142 => ?_) (fun h142 => ?_)
                    · exact absurd (by first | rw [if_pos (by omega)] | rw [if_neg (by omega)]) h142
                    · refine j_aload0 (q := 146) dL_cores_145 rfl ?_
                      refine j_iload9 (q := 148) dL_cores_146 rfl ?_
                      refine j_bipush (q := 150) dL_cores_148 rfl rfl ?_
                      refine j_callV2 (Mc := iX7_core) (q := 153) (c' := 0) (s' := 0) dL_cores_150 rfl kV_X7_core jw_441 ⟨by decide, by decide⟩ (V.2.2 _ _ sh_0) rfl rfl rfl (Nat.le_refl _) (Nat.le_refl _) (ct_r (qc_core V Q (by omega) (by decide)) v_core7) ?_
                      refine j_aload3 (q := 154) dL_cores_153 rfl ?_
                      refine j_iload10 (q := 156) dL_cores_154 rfl ?_
                      refine j_iconst (q := 157) dL_cores_156 rfl ?_
                      refine j_iadd (q := 158) dL_cores_157 rfl ?_
                      refine j_l1_2 (q := 159) dL_cores_158 rfl hs (by omega) ?_
                      refine j_icmp_ne (tgt := 198) (q := 162) dL_cores_159 (by decide) rfl rfl rfl (fun h159 => ?_) (fun h159 => ?_)
                      · exact absurd rfl h159
                      · refine j_aload0 (q := 163) dL_cores_162 rfl ?_
                        refine j_iload9 (q := 165) dL_cores_163 rfl ?_
                        refine j_bipush (q := 167) dL_cores_165 rfl rfl ?_
                        refine j_callV2 (Mc := iX7_core) (q := 170) (c' := 0) (s' := 0) dL_cores_167 rfl kV_X7_core jw_441 ⟨by decide, by decide⟩ (V.2.2 _ _ sh_0) rfl rfl rfl (Nat.le_refl _) (Nat.le_refl _) (ct_r (qc_core V Q (by omega) (by decide)) v_core8) ?_
                        refine j_aload4 (q := 172) dL_cores_170 rfl ?_
                        refine j_iload8 (q := 174) dL_cores_172 rfl ?_
                        refine j_l2_0 (q := 175) dL_cores_174 rfl hs (by omega) ?_
                        refine j_icmp_ne (tgt := 198) (q := 178) dL_cores_175 (by decide) rfl rfl rfl (fun h175 => ?_) (fun h175 => ?_)
                        · exact absurd rfl h175
                        · refine j_aload0 (q := 179) dL_cores_178 rfl ?_
                          refine j_iload9 (q := 181) dL_cores_179 rfl ?_
                          refine j_iconst (q := 182) dL_cores_181 rfl ?_
                          refine j_callV2 (Mc := iX7_ifRead) (q := 185) (c' := 0) (s' := 0) dL_cores_182 rfl kV_X7_ifRead jw_477 ⟨by decide, by decide⟩ (V.2.2 _ _ sh_0) rfl rfl rfl (Nat.le_refl _) (Nat.le_refl _) (ct_r (qc_ifRead V Q (by omega) (by decide)) v_ifr1) ?_
                          refine j_iload8 (q := 187) dL_cores_185 rfl ?_
                          refine j_iconst (q := 188) dL_cores_187 rfl ?_
                          refine j_aload2 (q := 189) dL_cores_188 rfl ?_
                          refine j_aload3 (q := 190) dL_cores_189 rfl ?_
                          refine j_aload5 (q := 192) dL_cores_190 rfl ?_
                          refine j_callS5 (Mc := iL_risk) (q := 195) (c' := 0) (s' := 0) dL_cores_192 rfl kS_L_risk jw_509 ⟨by decide, by decide⟩ rfl (Nat.le_refl _) (Nat.le_refl _) (ct_L_risk0 E hs (by omega) hX) ?_
                          refine j_icmp_eq (tgt := 200) (q := 198) dL_cores_195 (by decide) rfl rfl rfl (fun h195 => ?_) (fun h195 => ?_)
                          · refine j_aload2 (q := 201) dL_cores_200 rfl ?_
                            refine j_iload10 (q := 203) dL_cores_201 rfl ?_
                            refine j_iconst (q := 204) dL_cores_203 rfl ?_
                            refine j_iadd (q := 205) dL_cores_204 rfl ?_
                            refine j_l0_2 (q := 206) dL_cores_205 rfl hs (by omega) ?_
                            refine j_if_lt (tgt := 297) (q := 209) dL_cores_206 (by decide) rfl (by first | exact wr_id' (by omega) (by omega) | with_reducible exact wr_bI _ | exact rfl) (fun h206 => ?_) (fun h206 => ?_)
                            · refine j_iinc8 (q := 300) dL_cores_297 rfl rfl (by decide) ?_
                              refine j_goto (tgt := 6) dL_cores_300 (by decide) ?_
                              refine j_fgt9 ?_
                              refine j_fgt10 ?_
                              exact ih _ _ (by omega) (by omega) (by omega) (by omega) (fun y hy => kk y (hy.trans (by rw [itF]; exact congrArg (itF (lBs z) d (k + 1)) (by first | exact (lBs_t (by omega)).symm | exact (lBs_f (by omega)).symm))))
                            · refine j_aload3 (q := 210) dL_cores_209 rfl ?_
                              refine j_iload10 (q := 212) dL_cores_210 rfl ?_
                              refine j_iconst (q := 213) dL_cores_212 rfl ?_
                              refine j_iadd (q := 214) dL_cores_213 rfl ?_
                              refine j_l1_2 (q := 215) dL_cores_214 rfl hs (by omega) ?_
                              refine j_if_ge (tgt := 297) (q := 218) dL_cores_215 (by decide) rfl (by first | exact wr_id' (by omega) (by omega) | with_reducible exact wr_bI _ | exact rfl) (fun h215 => ?_) (fun h215 => ?_)
                              · refine j_iinc8 (q := 300) dL_cores_297 rfl rfl (by decide) ?_
                                refine j_goto (tgt := 6) dL_cores_300 (by decide) ?_
                                refine j_fgt9 ?_
                                refine j_fgt10 ?_
                                exact ih _ _ (by omega) (by omega) (by omega) (by omega) (fun y hy => kk y (hy.trans (by rw [itF]; exact congrArg (itF (lBs z) d (k + 1)) (by first | exact (lBs_t (by omega)).symm | exact (lBs_f (by omega)).symm))))
                              · refine j_aload2 (q := 219) dL_cores_218 rfl ?_
                                refine j_iload10 (q := 221) dL_cores_219 rfl ?_
                                refine j_l0_0 (q := 222) dL_cores_221 rfl hs (by omega) ?_
                                refine j_if_ne (tgt := 228) (q := 225) dL_cores_222 (by decide) rfl (by first | exact wr_id' (by omega) (by omega) | with_reducible exact wr_bI _ | exact rfl) (fun h222 => ?_) (fun h222 => ?_)
                                · refine j_iload8 (q := 230) dL_cores_228 rfl ?_
                                  refine j_iconst (q := 231) dL_cores_230 rfl ?_
                                  refine j_aload2 (q := 232) dL_cores_231 rfl ?_
                                  refine j_aload3 (q := 233) dL_cores_232 rfl ?_
                                  refine j_aload5 (q := 235) dL_cores_233 rfl ?_
                                  refine j_callS5 (Mc := iL_risk) (q := 238) (c' := 0) (s' := 0) dL_cores_235 rfl kS_L_risk jw_509 ⟨by decide, by decide⟩ rfl (Nat.le_refl _) (Nat.le_refl _) (ct_L_risk0 E hs (by omega) hX) ?_
                                  refine j_istore11 (q := 240) dL_cores_238 rfl rfl (by decide) ?_
                                  have dk := lRi_b (k := k) (w := 0) hX
                                  have dg := lRi_b (k := g) (w := 0) hX
                                  refine j_iload7 (q := 242) dL_cores_240 rfl ?_
                                  refine j_if_ge (tgt := 250) (q := 245) dL_cores_242 (by decide) rfl (by first | exact wr_id' (by omega) (by omega) | with_reducible exact wr_bI _ | exact rfl) (fun h242 => ?_) (fun h242 => ?_)
                                  · refine j_iload7 (q := 252) dL_cores_250 rfl ?_
                                    refine j_iconst (q := 253) dL_cores_252 rfl ?_
                                    refine j_aload2 (q := 254) dL_cores_253 rfl ?_
                                    refine j_aload3 (q := 255) dL_cores_254 rfl ?_
                                    refine j_aload5 (q := 257) dL_cores_255 rfl ?_
                                    refine j_callS5 (Mc := iL_risk) (q := 260) (c' := 0) (s' := 0) dL_cores_257 rfl kS_L_risk jw_509 ⟨by decide, by decide⟩ rfl (Nat.le_refl _) (Nat.le_refl _) (ct_L_risk0 E hs (by omega) hX) ?_
                                    refine j_istore12 (q := 262) dL_cores_260 rfl rfl (by decide) ?_
                                    refine j_iload11 (q := 264) dL_cores_262 rfl ?_
                                    refine j_iload12 (q := 266) dL_cores_264 rfl ?_
                                    refine j_icmp_lt (tgt := 293) (q := 269) dL_cores_266 (by decide) rfl (by first | exact wr_id' (by omega) (by omega) | with_reducible exact wr_bI _ | exact rfl) (by first | exact wr_id' (by omega) (by omega) | with_reducible exact wr_bI _ | exact rfl) (fun h266 => ?_) (fun h266 => ?_)
                                    · refine j_iload8 (q := 295) dL_cores_293 rfl ?_
                                      refine j_istore7 (q := 297) dL_cores_295 rfl rfl (by decide) ?_
                                      refine j_iinc8 (q := 300) dL_cores_297 rfl rfl (by decide) ?_
                                      refine j_goto (tgt := 6) dL_cores_300 (by decide) ?_
                                      refine j_fgt9 ?_
                                      refine j_fgt10 ?_
                                      refine j_fgt11 ?_
                                      refine j_fgt12 ?_
                                      exact ih _ _ (by omega) (by omega) (by omega) (by omega) (fun y hy => kk y (hy.trans (by rw [itF]; exact congrArg (itF (lBs z) d (k + 1)) (by first | exact (lBs_t (by omega)).symm | exact (lBs_f (by omega)).symm))))
                                    · refine j_iload11 (q := 271) dL_cores_269 rfl ?_
                                      refine j_iload12 (q := 273) dL_cores_271 rfl ?_
                                      refine j_icmp_ne (tgt := 297) (q := 276) dL_cores_273 (by decide) rfl (by first | exact wr_id' (by omega) (by omega) | with_reducible exact wr_bI _ | exact rfl) (by first | exact wr_id' (by omega) (by omega) | with_reducible exact wr_bI _ | exact rfl) (fun h273 => ?_) (fun h273 => ?_)
                                      · refine j_iinc8 (q := 300) dL_cores_297 rfl rfl (by decide) ?_
                                        refine j_goto (tgt := 6) dL_cores_300 (by decide) ?_
                                        refine j_fgt9 ?_
                                        refine j_fgt10 ?_
                                        refine j_fgt11 ?_
                                        refine j_fgt12 ?_
                                        exact ih _ _ (by omega) (by omega) (by omega) (by omega) (fun y hy => kk y (hy.trans (by rw [itF]; exact congrArg (itF (lBs z) d (k + 1)) (by first | exact (lBs_t (by omega)).symm | exact (lBs_f (by omega)).symm))))
                                      · have hd := cr_b (k := g) ⟨by omega, by omega⟩
                                        have hgg := hI.sg (cr g) hd.1 hd.2
                                        refine j_aload2 (q := 277) dL_cores_276 rfl ?_
                                        refine j_iload10 (q := 279) dL_cores_277 rfl ?_
                                        refine j_iconst (q := 280) dL_cores_279 rfl ?_
                                        refine j_iadd (q := 281) dL_cores_280 rfl ?_
                                        refine j_l0_1 (q := 282) dL_cores_281 rfl hs (by omega) ?_
                                        refine j_aload2 (q := 283) dL_cores_282 rfl ?_
                                        refine j_iconst (q := 284) dL_cores_283 rfl ?_
                                        refine j_iload7 (q := 286) dL_cores_284 rfl ?_
                                        refine j_imul (q := 287) dL_cores_286 rfl ?_
                                        refine j_iconst (q := 288) dL_cores_287 rfl ?_
                                        refine j_iadd (q := 289) dL_cores_288 rfl ?_
                                        refine j_l0_1 (q := 290) dL_cores_289 rfl hs (by omega) ?_
                                        refine j_icmp_le (tgt := 297) (q := 293) dL_cores_290 (by decide) rfl (by first | exact wr_id' (by omega) (by omega) | with_reducible exact wr_bI _ | exact rfl) (by first | exact wr_id' (by omega) (by omega) | with_reducible exact wr_bI _ | exact rfl) (fun h290 => ?_) (fun h290 => ?_)
                                        · refine j_iinc8 (q := 300) dL_cores_297 rfl rfl (by decide) ?_
                                          refine j_goto (tgt := 6) dL_cores_300 (by decide) ?_
                                          refine j_fgt9 ?_
                                          refine j_fgt10 ?_
                                          refine j_fgt11 ?_
                                          refine j_fgt12 ?_
                                          exact ih _ _ (by omega) (by omega) (by omega) (by omega) (fun y hy => kk y (hy.trans (by rw [itF]; exact congrArg (itF (lBs z) d (k + 1)) (by first | exact (lBs_t (by omega)).symm | exact (lBs_f (by omega)).symm))))
                                        · refine j_iload8 (q := 295) dL_cores_293 rfl ?_
                                          refine j_istore7 (q := 297) dL_cores_295 rfl rfl (by decide) ?_
                                          refine j_iinc8 (q := 300) dL_cores_297 rfl rfl (by decide) ?_
                                          refine j_goto (tgt := 6) dL_cores_300 (by decide) ?_
                                          refine j_fgt9 ?_
                                          refine j_fgt10 ?_
                                          refine j_fgt11 ?_
                                          refine j_fgt12 ?_
                                          exact ih _ _ (by omega) (by omega) (by omega) (by omega) (fun y hy => kk y (hy.trans (by rw [itF]; exact congrArg (itF (lBs z) d (k + 1)) (by first | exact (lBs_t (by omega)).symm | exact (lBs_f (by omega)).symm))))
                                  · refine j_bipush (q := 247) dL_cores_245 rfl rfl ?_
                                    refine j_goto (tgt := 260) dL_cores_247 (by decide) ?_
                                    refine j_istore12 (q := 262) dL_cores_260 rfl rfl (by decide) ?_
                                    refine j_iload11 (q := 264) dL_cores_262 rfl ?_
                                    refine j_iload12 (q := 266) dL_cores_264 rfl ?_
                                    refine j_icmp_lt (tgt := 293) (q := 269) dL_cores_266 (by decide) rfl (by first | exact wr_id' (by omega) (by omega) | with_reducible exact wr_bI _ | exact rfl) (by first | exact wr_id' (by omega) (by omega) | with_reducible exact wr_bI _ | exact rfl) (fun h266 => ?_) (fun h266 => ?_)
                                    · refine j_iload8 (q := 295) dL_cores_293 rfl ?_
                                      refine j_istore7 (q := 297) dL_cores_295 rfl rfl (by decide) ?_
                                      refine j_iinc8 (q := 300) dL_cores_297 rfl rfl (by decide) ?_
                                      refine j_goto (tgt := 6) dL_cores_300 (by decide) ?_
                                      refine j_fgt9 ?_
                                      refine j_fgt10 ?_
                                      refine j_fgt11 ?_
                                      refine j_fgt12 ?_
                                      exact ih _ _ (by omega) (by omega) (by omega) (by omega) (fun y hy => kk y (hy.trans (by rw [itF]; exact congrArg (itF (lBs z) d (k + 1)) (by first | exact (lBs_t (by omega)).symm | exact (lBs_f (by omega)).symm))))
                                    · refine j_iload11 (q := 271) dL_cores_269 rfl ?_
                                      refine j_iload12 (q := 273) dL_cores_271 rfl ?_
                                      refine j_icmp_ne (tgt := 297) (q := 276) dL_cores_273 (by decide) rfl (by first | exact wr_id' (by omega) (by omega) | with_reducible exact wr_bI _ | exact rfl) (by first | exact wr_id' (by omega) (by omega) | with_reducible exact wr_bI _ | exact rfl) (fun h273 => ?_) (fun h273 => ?_)
                                      · refine j_iinc8 (q := 300) dL_cores_297 rfl rfl (by decide) ?_
                                        refine j_goto (tgt := 6) dL_cores_300 (by decide) ?_
                                        refine j_fgt9 ?_
                                        refine j_fgt10 ?_
                                        refine j_fgt11 ?_
                                        refine j_fgt12 ?_
                                        exact ih _ _ (by omega) (by omega) (by omega) (by omega) (fun y hy => kk y (hy.trans (by rw [itF]; exact congrArg (itF (lBs z) d (k + 1)) (by first | exact (lBs_t (by omega)).symm | exact (lBs_f (by omega)).symm))))
                                      · have hd := cr_b (k := g) ⟨by omega, by omega⟩
                                        have hgg := hI.sg (cr g) hd.1 hd.2
                                        refine j_aload2 (q := 277) dL_cores_276 rfl ?_
                                        refine j_iload10 (q := 279) dL_cores_277 rfl ?_
                                        refine j_iconst (q := 280) dL_cores_279 rfl ?_
                                        refine j_iadd (q := 281) dL_cores_280 rfl ?_
                                        refine j_l0_1 (q := 282) dL_cores_281 rfl hs (by omega) ?_
                                        refine j_aload2 (q := 283) dL_cores_282 rfl ?_
                                        refine j_iconst (q := 284) dL_cores_283 rfl ?_
                                        refine j_iload7 (q := 286) dL_cores_284 rfl ?_
                                        refine j_imul (q := 287) dL_cores_286 rfl ?_
                                        refine j_iconst (q := 288) dL_cores_287 rfl ?_
                                        refine j_iadd (q := 289) dL_cores_288 rfl ?_
                                        refine j_l0_1 (q := 290) dL_cores_289 rfl hs (by omega) ?_
                                        refine j_icmp_le (tgt := 297) (q := 293) dL_cores_290 (by decide) rfl (by first | exact wr_id' (by omega) (by omega) | with_reducible exact wr_bI _ | exact rfl) (by first | exact wr_id' (by omega) (by omega) | with_reducible exact wr_bI _ | exact rfl) (fun h290 => ?_) (fun h290 => ?_)
                                        · refine j_iinc8 (q := 300) dL_cores_297 rfl rfl (by decide) ?_
                                          refine j_goto (tgt := 6) dL_cores_300 (by decide) ?_
                                          refine j_fgt9 ?_
                                          refine j_fgt10 ?_
                                          refine j_fgt11 ?_
                                          refine j_fgt12 ?_
                                          exact ih _ _ (by omega) (by omega) (by omega) (by omega) (fun y hy => kk y (hy.trans (by rw [itF]; exact congrArg (itF (lBs z) d (k + 1)) (by first | exact (lBs_t (by omega)).symm | exact (lBs_f (by omega)).symm))))
                                        · refine j_iload8 (q := 295) dL_cores_293 rfl ?_
                                          refine j_istore7 (q := 297) dL_cores_295 rfl rfl (by decide) ?_
                                          refine j_iinc8 (q := 300) dL_cores_297 rfl rfl (by decide) ?_
                                          refine j_goto (tgt := 6) dL_cores_300 (by decide) ?_
                                          refine j_fgt9 ?_
                                          refine j_fgt10 ?_
                                          refine j_fgt11 ?_
                                          refine j_fgt12 ?_
                                          exact ih _ _ (by omega) (by omega) (by omega) (by omega) (fun y hy => kk y (hy.trans (by rw [itF]; exact congrArg (itF (lBs z) d (k + 1)) (by first | exact (lBs_t (by omega)).symm | exact (lBs_f (by omega)).symm))))
                                · refine j_goto (tgt := 297) dL_cores_225 (by decide) ?_
                                  refine j_iinc8 (q := 300) dL_cores_297 rfl rfl (by decide) ?_
                                  refine j_goto (tgt := 6) dL_cores_300 (by decide) ?_
                                  refine j_fgt9 ?_
                                  refine j_fgt10 ?_
                                  exact ih _ _ (by omega) (by omega) (by omega) (by omega) (fun y hy => kk y (hy.trans (by rw [itF]; exact congrArg (itF (lBs z) d (k + 1)) (by first | exact (lBs_t (by omega)).symm | exact (lBs_f (by omega)).symm))))
                          · exact absurd rfl h195
                · exact absurd (v_core5 hc Q) h115
theorem ct_L_cores {G : GX} {sh : List SH} {p : Bool} (V : EV G sh) (E : EW G sh) (hs : LA sh p) {m P : Mem} {z : Z} {T B K : Int} {x : Int} (Q : QP (lz m p z) P z T B K) : CT G sh iL_cores 0 0 [.inr (.ref 0), .inl x, .inr (.ref (ix p 0)), .inr (.ref (ix p 1)), .inr (.ref (ix p 2)), .inr (.ref (ix p 7)), .inr (.ref (ix p 6))] (lz m p z) (some (.inl (bI true))) (lz m p z) := by
  have hX := Q.2.2.2.1
  have hI := Q.2.1.2.2.2.2.2
  have a1 := hI.ht
  have a2 := hI.st 2 (by decide) (by decide)
  have a3 := tdiv_b a1
  have ha := aT_b x (n := 16) (by decide)
  have hc := cr_b ha
  have a4 := hI.sg _ hc.1 hc.2
  refine j_met (L0 := [some (.inr (.ref 0)), some (.inl x), some (.inr (.ref (ix p 0))), some (.inr (.ref (ix p 1))), some (.inr (.ref (ix p 2))), some (.inr (.ref (ix p 7))), some (.inr (.ref (ix p 6))), none, none, none, none, none, none]) (by decide) E.1 E.2 rfl (Nat.le_of_ble_eq_true rfl) ?_
  refine j_iconst (q := 1) dL_cores_0 rfl ?_
  refine j_istore7 (q := 3) dL_cores_1 rfl rfl (by decide) ?_
  refine j_iconst (q := 4) dL_cores_3 rfl ?_
  refine j_istore8 (q := 6) dL_cores_4 rfl rfl (by decide) ?_
  refine lp_L_cores V E hs Q 16 0 (-1) (by omega) (by omega) (by omega) (by omega) ?_
  intro y hy
  have hyb := lBs_b (z := z) 16 0 (-1) (by omega) (by omega) (by omega) (by omega)
  rw [← hy] at hyb
  refine j_iload1 (q := 304) dL_cores_303 rfl ?_
  refine j_bipush (q := 306) dL_cores_304 rfl rfl ?_
  refine j_callS2 (Mc := iL_at) (q := 309) (c' := 0) (s' := 0) dL_cores_306 rfl kS_L_at jw_429 ⟨by decide, by decide⟩ rfl (Nat.le_refl _) (Nat.le_refl _) (ct_L_at E hs (by omega)) ?_
  refine j_istore8 (q := 311) dL_cores_309 rfl rfl (by decide) ?_
  refine j_aload2 (q := 312) dL_cores_311 rfl ?_
  refine j_iconst (q := 313) dL_cores_312 rfl ?_
  refine j_iload8 (q := 315) dL_cores_313 rfl ?_
  refine j_imul (q := 316) dL_cores_315 rfl ?_
  refine j_iconst (q := 317) dL_cores_316 rfl ?_
  refine j_iadd (q := 318) dL_cores_317 rfl ?_
  refine j_l0_1 (q := 319) dL_cores_318 rfl hs (by omega) ?_
  refine j_iconst (q := 320) dL_cores_319 rfl ?_
  refine j_isub (q := 321) dL_cores_320 rfl ?_
  refine j_aload6 (q := 323) dL_cores_321 rfl ?_
  refine j_iconst (q := 324) dL_cores_323 rfl ?_
  refine j_l6_0 (q := 325) dL_cores_324 rfl hs (by omega) ?_
  refine j_bipush (q := 327) dL_cores_325 rfl rfl ?_
  refine j_idiv (q := 328) dL_cores_327 rfl (by first | exact wr_id' (by omega) (by omega) | with_reducible exact wr_bI _ | exact rfl) (by first | exact wr_id' (by omega) (by omega) | with_reducible exact wr_bI _ | exact rfl) (by omega) (by omega) ?_
  refine j_isub (q := 329) dL_cores_328 rfl ?_
  refine j_istore9 (q := 331) dL_cores_329 rfl rfl (by decide) ?_
  refine j_aload0 (q := 332) dL_cores_331 rfl ?_
  refine j_iload8 (q := 334) dL_cores_332 rfl ?_
  refine j_callS1 (Mc := iL_core) (q := 337) (c' := 0) (s' := 0) dL_cores_334 rfl kS_L_core jw_438 ⟨by decide, by decide⟩ rfl (Nat.le_refl _) (Nat.le_refl _) (ct_L_core E hs (by omega)) ?_
  refine j_iconst (q := 338) dL_cores_337 rfl ?_
  refine j_callV2 (Mc := iX7_ifRead) (q := 341) (c' := 0) (s' := 0) dL_cores_338 rfl kV_X7_ifRead jw_477 ⟨by decide, by decide⟩ (V.2.2 _ _ sh_0) rfl rfl rfl (Nat.le_refl _) (Nat.le_refl _) (ct_r (qc_ifRead V Q (by omega) (by decide)) v_ifr0) ?_
  refine j_aload2 (q := 342) dL_cores_341 rfl ?_
  refine j_iconst (q := 343) dL_cores_342 rfl ?_
  refine j_iload8 (q := 345) dL_cores_343 rfl ?_
  refine j_imul (q := 346) dL_cores_345 rfl ?_
  refine j_l0_0 (q := 347) dL_cores_346 rfl hs (by omega) ?_
  refine j_icmp_ne (tgt := 439) (q := 350) dL_cores_347 (by decide) rfl rfl rfl (fun h347 => ?_) (fun h347 => ?_)
  · exact absurd rfl h347
  · refine j_aload0 (q := 351) dL_cores_350 rfl ?_
    refine j_iload8 (q := 353) dL_cores_351 rfl ?_
    refine j_callS1 (Mc := iL_core) (q := 356) (c' := 0) (s' := 0) dL_cores_353 rfl kS_L_core jw_438 ⟨by decide, by decide⟩ rfl (Nat.le_refl _) (Nat.le_refl _) (ct_L_core E hs (by omega)) ?_
    refine j_iconst (q := 357) dL_cores_356 rfl ?_
    refine j_callV2 (Mc := iX7_ifRead) (q := 360) (c' := 0) (s' := 0) dL_cores_357 rfl kV_X7_ifRead jw_477 ⟨by decide, by decide⟩ (V.2.2 _ _ sh_0) rfl rfl rfl (Nat.le_refl _) (Nat.le_refl _) (ct_r (qc_ifRead V Q (by omega) (by decide)) (v_heat Q)) ?_
    refine j_aload6 (q := 362) dL_cores_360 rfl ?_
    refine j_iconst (q := 363) dL_cores_362 rfl ?_
    refine j_l6_0 (q := 364) dL_cores_363 rfl hs (by omega) ?_
    refine j_aload5 (q := 366) dL_cores_364 rfl ?_
    refine j_iconst (q := 367) dL_cores_366 rfl ?_
    refine j_l7_0 (q := 368) dL_cores_367 rfl hs (by omega) ?_
    refine j_iadd (q := 369) dL_cores_368 rfl ?_
    refine j_bipush (q := 371) dL_cores_369 rfl rfl ?_
    refine j_icmp_le (tgt := 379) (q := 374) dL_cores_371 (by decide) rfl (by first | exact wr_id' (by omega) (by omega) | with_reducible exact wr_bI _ | exact rfl) (by first | exact wr_id' (by omega) (by omega) | with_reducible exact wr_bI _ | exact rfl) (fun h371 => ?_) (fun h371 => ?_)
    · refine j_aload6 (q := 381) dL_cores_379 rfl ?_
      refine j_iconst (q := 382) dL_cores_381 rfl ?_
      refine j_l6_0 (q := 383) dL_cores_382 rfl hs (by omega) ?_
      refine j_aload5 (q := 385) dL_cores_383 rfl ?_
      refine j_iconst (q := 386) dL_cores_385 rfl ?_
      refine j_l7_0 (q := 387) dL_cores_386 rfl hs (by omega) ?_
      refine j_iadd (q := 388) dL_cores_387 rfl ?_
      refine j_icmp_ne (tgt := 439) (q := 391) dL_cores_388 (by decide) rfl rfl rfl (fun h388 => ?_) (fun h388 => ?_)
      · exact absurd (by first | rw [if_pos (by omega)] | rw [if_neg (by omega)]) h388
      · refine j_aload0 (q := 392) dL_cores_391 rfl ?_
        refine j_iload8 (q := 394) dL_cores_392 rfl ?_
        refine j_callS1 (Mc := iL_core) (q := 397) (c' := 0) (s' := 0) dL_cores_394 rfl kS_L_core jw_438 ⟨by decide, by decide⟩ rfl (Nat.le_refl _) (Nat.le_refl _) (ct_L_core E hs (by omega)) ?_
        refine j_iconst (q := 398) dL_cores_397 rfl ?_
        refine j_callV2 (Mc := iX7_ifRead) (q := 401) (c' := 0) (s' := 0) dL_cores_398 rfl kV_X7_ifRead jw_477 ⟨by decide, by decide⟩ (V.2.2 _ _ sh_0) rfl rfl rfl (Nat.le_refl _) (Nat.le_refl _) (ct_r (qc_ifRead V Q (by omega) (by decide)) (v_worn Q ⟨by omega, by omega⟩)) ?_
        refine j_iload9 (q := 403) dL_cores_401 rfl ?_
        refine j_if_ge (tgt := 410) (q := 406) dL_cores_403 (by decide) rfl (by first | exact wr_id' (by omega) (by omega) | with_reducible exact wr_bI _ | exact rfl) (fun h403 => ?_) (fun h403 => ?_)
        · refine j_iload9 (q := 412) dL_cores_410 rfl ?_
          refine j_icmp_ne (tgt := 439) (q := 415) dL_cores_412 (by decide) rfl rfl rfl (fun h412 => ?_) (fun h412 => ?_)
          · exact absurd (by first | rw [if_pos (by omega)] | rw [if_neg (by omega)]) h412
          · refine j_aload0 (q := 416) dL_cores_415 rfl ?_
            refine j_iload8 (q := 418) dL_cores_416 rfl ?_
            refine j_callS1 (Mc := iL_core) (q := 421) (c' := 0) (s' := 0) dL_cores_418 rfl kS_L_core jw_438 ⟨by decide, by decide⟩ rfl (Nat.le_refl _) (Nat.le_refl _) (ct_L_core E hs (by omega)) ?_
            refine j_iconst (q := 422) dL_cores_421 rfl ?_
            refine j_callV2 (Mc := iX7_ifRead) (q := 425) (c' := 0) (s' := 0) dL_cores_422 rfl kV_X7_ifRead jw_477 ⟨by decide, by decide⟩ (V.2.2 _ _ sh_0) rfl rfl rfl (Nat.le_refl _) (Nat.le_refl _) (ct_r (qc_ifRead V Q (by omega) (by decide)) v_ifr4) ?_
            refine j_iload8 (q := 427) dL_cores_425 rfl ?_
            refine j_bipush (q := 429) dL_cores_427 rfl rfl ?_
            refine j_aload2 (q := 430) dL_cores_429 rfl ?_
            refine j_aload3 (q := 431) dL_cores_430 rfl ?_
            refine j_aload5 (q := 433) dL_cores_431 rfl ?_
            refine j_callS5 (Mc := iL_risk) (q := 436) (c' := 0) (s' := 0) dL_cores_433 rfl kS_L_risk jw_509 ⟨by decide, by decide⟩ rfl (Nat.le_refl _) (Nat.le_refl _) (ct_L_risk1 E hs (by omega) hX) ?_
            refine j_icmp_eq (tgt := 441) (q := 439) dL_cores_436 (by decide) rfl rfl rfl (fun h436 => ?_) (fun h436 => ?_)
            · refine j_aload0 (q := 442) dL_cores_441 rfl ?_
              refine j_callV0 (Mc := iX7_gentlest) (q := 445) (c' := 0) (s' := 0) dL_cores_442 rfl kV_X7_gentlest jw_515 ⟨by decide, by decide⟩ (V.2.2 _ _ sh_0) rfl rfl rfl (Nat.le_refl _) (Nat.le_refl _) (qc_gentlest V Q) ?_
              refine j_iload7 (q := 447) dL_cores_445 rfl ?_
              refine j_if_ge (tgt := 454) (q := 450) dL_cores_447 (by decide) rfl (by first | exact wr_id' (by omega) (by omega) | with_reducible exact wr_bI _ | exact rfl) (fun h447 => ?_) (fun h447 => ?_)
              · refine j_iload7 (q := 456) dL_cores_454 rfl ?_
                refine j_callS1 (Mc := iL_core) (q := 459) (c' := 0) (s' := 0) dL_cores_456 rfl kS_L_core jw_438 ⟨by decide, by decide⟩ rfl (Nat.le_refl _) (Nat.le_refl _) (ct_L_core E hs (by omega)) ?_
                refine j_icmp_ne (tgt := 466) (q := 462) dL_cores_459 (by decide) rfl rfl rfl (fun h459 => ?_) (fun h459 => ?_)
                · exact absurd (by rw [lBs_g hX hI, ← hy]; unfold lPs; first | rw [if_pos (by omega)] | rw [if_neg (by omega)]) h459
                · refine j_iconst (q := 463) dL_cores_462 rfl ?_
                  refine j_goto (tgt := 467) dL_cores_463 (by decide) ?_
                  exact j_zreturn dL_cores_467 rfl (by decide) (rfl) (rfl)
              · refine j_iconst (q := 451) dL_cores_450 rfl ?_
                refine j_goto (tgt := 459) dL_cores_451 (by decide) ?_
                refine j_icmp_ne (tgt := 466) (q := 462) dL_cores_459 (by decide) rfl rfl rfl (fun h459 => ?_) (fun h459 => ?_)
                · exact absurd (by rw [lBs_g hX hI, ← hy]; unfold lPs; first | rw [if_pos (by omega)] | rw [if_neg (by omega)]) h459
                · refine j_iconst (q := 463) dL_cores_462 rfl ?_
                  refine j_goto (tgt := 467) dL_cores_463 (by decide) ?_
                  exact j_zreturn dL_cores_467 rfl (by decide) (rfl) (rfl)
            · exact absurd rfl h436
        · refine j_iconst (q := 407) dL_cores_406 rfl ?_
          refine j_goto (tgt := 412) dL_cores_407 (by decide) ?_
          refine j_icmp_ne (tgt := 439) (q := 415) dL_cores_412 (by decide) rfl rfl rfl (fun h412 => ?_) (fun h412 => ?_)
          · exact absurd (by first | rw [if_pos (by omega)] | rw [if_neg (by omega)]) h412
          · refine j_aload0 (q := 416) dL_cores_415 rfl ?_
            refine j_iload8 (q := 418) dL_cores_416 rfl ?_
            refine j_callS1 (Mc := iL_core) (q := 421) (c' := 0) (s' := 0) dL_cores_418 rfl kS_L_core jw_438 ⟨by decide, by decide⟩ rfl (Nat.le_refl _) (Nat.le_refl _) (ct_L_core E hs (by omega)) ?_
            refine j_iconst (q := 422) dL_cores_421 rfl ?_
            refine j_callV2 (Mc := iX7_ifRead) (q := 425) (c' := 0) (s' := 0) dL_cores_422 rfl kV_X7_ifRead jw_477 ⟨by decide, by decide⟩ (V.2.2 _ _ sh_0) rfl rfl rfl (Nat.le_refl _) (Nat.le_refl _) (ct_r (qc_ifRead V Q (by omega) (by decide)) v_ifr4) ?_
            refine j_iload8 (q := 427) dL_cores_425 rfl ?_
            refine j_bipush (q := 429) dL_cores_427 rfl rfl ?_
            refine j_aload2 (q := 430) dL_cores_429 rfl ?_
            refine j_aload3 (q := 431) dL_cores_430 rfl ?_
            refine j_aload5 (q := 433) dL_cores_431 rfl ?_
            refine j_callS5 (Mc := iL_risk) (q := 436) (c' := 0) (s' := 0) dL_cores_433 rfl kS_L_risk jw_509 ⟨by decide, by decide⟩ rfl (Nat.le_refl _) (Nat.le_refl _) (ct_L_risk1 E hs (by omega) hX) ?_
            refine j_icmp_eq (tgt := 441) (q := 439) dL_cores_436 (by decide) rfl rfl rfl (fun h436 => ?_) (fun h436 => ?_)
            · refine j_aload0 (q := 442) dL_cores_441 rfl ?_
              refine j_callV0 (Mc := iX7_gentlest) (q := 445) (c' := 0) (s' := 0) dL_cores_442 rfl kV_X7_gentlest jw_515 ⟨by decide, by decide⟩ (V.2.2 _ _ sh_0) rfl rfl rfl (Nat.le_refl _) (Nat.le_refl _) (qc_gentlest V Q) ?_
              refine j_iload7 (q := 447) dL_cores_445 rfl ?_
              refine j_if_ge (tgt := 454) (q := 450) dL_cores_447 (by decide) rfl (by first | exact wr_id' (by omega) (by omega) | with_reducible exact wr_bI _ | exact rfl) (fun h447 => ?_) (fun h447 => ?_)
              · refine j_iload7 (q := 456) dL_cores_454 rfl ?_
                refine j_callS1 (Mc := iL_core) (q := 459) (c' := 0) (s' := 0) dL_cores_456 rfl kS_L_core jw_438 ⟨by decide, by decide⟩ rfl (Nat.le_refl _) (Nat.le_refl _) (ct_L_core E hs (by omega)) ?_
                refine j_icmp_ne (tgt := 466) (q := 462) dL_cores_459 (by decide) rfl rfl rfl (fun h459 => ?_) (fun h459 => ?_)
                · exact absurd (by rw [lBs_g hX hI, ← hy]; unfold lPs; first | rw [if_pos (by omega)] | rw [if_neg (by omega)]) h459
                · refine j_iconst (q := 463) dL_cores_462 rfl ?_
                  refine j_goto (tgt := 467) dL_cores_463 (by decide) ?_
                  exact j_zreturn dL_cores_467 rfl (by decide) (rfl) (rfl)
              · refine j_iconst (q := 451) dL_cores_450 rfl ?_
                refine j_goto (tgt := 459) dL_cores_451 (by decide) ?_
                refine j_icmp_ne (tgt := 466) (q := 462) dL_cores_459 (by decide) rfl rfl rfl (fun h459 => ?_) (fun h459 => ?_)
                · exact absurd (by rw [lBs_g hX hI, ← hy]; unfold lPs; first | rw [if_pos (by omega)] | rw [if_neg (by omega)]) h459
                · refine j_iconst (q := 463) dL_cores_462 rfl ?_
                  refine j_goto (tgt := 467) dL_cores_463 (by decide) ?_
                  exact j_zreturn dL_cores_467 rfl (by decide) (rfl) (rfl)
            · exact absurd rfl h436
    · refine j_bipush (q := 376) dL_cores_374 rfl rfl ?_
      refine j_goto (tgt := 388) dL_cores_376 (by decide) ?_
      refine j_icmp_ne (tgt := 439) (q := 391) dL_cores_388 (by decide) rfl rfl rfl (fun h388 => ?_) (fun h388 => ?_)
      · exact absurd (by first | rw [if_pos (by omega)] | rw [if_neg (by omega)]) h388
      · refine j_aload0 (q := 392) dL_cores_391 rfl ?_
        refine j_iload8 (q := 394) dL_cores_392 rfl ?_
        refine j_callS1 (Mc := iL_core) (q := 397) (c' := 0) (s' := 0) dL_cores_394 rfl kS_L_core jw_438 ⟨by decide, by decide⟩ rfl (Nat.le_refl _) (Nat.le_refl _) (ct_L_core E hs (by omega)) ?_
        refine j_iconst (q := 398) dL_cores_397 rfl ?_
        refine j_callV2 (Mc := iX7_ifRead) (q := 401) (c' := 0) (s' := 0) dL_cores_398 rfl kV_X7_ifRead jw_477 ⟨by decide, by decide⟩ (V.2.2 _ _ sh_0) rfl rfl rfl (Nat.le_refl _) (Nat.le_refl _) (ct_r (qc_ifRead V Q (by omega) (by decide)) (v_worn Q ⟨by omega, by omega⟩)) ?_
        refine j_iload9 (q := 403) dL_cores_401 rfl ?_
        refine j_if_ge (tgt := 410) (q := 406) dL_cores_403 (by decide) rfl (by first | exact wr_id' (by omega) (by omega) | with_reducible exact wr_bI _ | exact rfl) (fun h403 => ?_) (fun h403 => ?_)
        · refine j_iload9 (q := 412) dL_cores_410 rfl ?_
          refine j_icmp_ne (tgt := 439) (q := 415) dL_cores_412 (by decide) rfl rfl rfl (fun h412 => ?_) (fun h412 => ?_)
          · exact absurd (by first | rw [if_pos (by omega)] | rw [if_neg (by omega)]) h412
          · refine j_aload0 (q := 416) dL_cores_415 rfl ?_
            refine j_iload8 (q := 418) dL_cores_416 rfl ?_
            refine j_callS1 (Mc := iL_core) (q := 421) (c' := 0) (s' := 0) dL_cores_418 rfl kS_L_core jw_438 ⟨by decide, by decide⟩ rfl (Nat.le_refl _) (Nat.le_refl _) (ct_L_core E hs (by omega)) ?_
            refine j_iconst (q := 422) dL_cores_421 rfl ?_
            refine j_callV2 (Mc := iX7_ifRead) (q := 425) (c' := 0) (s' := 0) dL_cores_422 rfl kV_X7_ifRead jw_477 ⟨by decide, by decide⟩ (V.2.2 _ _ sh_0) rfl rfl rfl (Nat.le_refl _) (Nat.le_refl _) (ct_r (qc_ifRead V Q (by omega) (by decide)) v_ifr4) ?_
            refine j_iload8 (q := 427) dL_cores_425 rfl ?_
            refine j_bipush (q := 429) dL_cores_427 rfl rfl ?_
            refine j_aload2 (q := 430) dL_cores_429 rfl ?_
            refine j_aload3 (q := 431) dL_cores_430 rfl ?_
            refine j_aload5 (q := 433) dL_cores_431 rfl ?_
            refine j_callS5 (Mc := iL_risk) (q := 436) (c' := 0) (s' := 0) dL_cores_433 rfl kS_L_risk jw_509 ⟨by decide, by decide⟩ rfl (Nat.le_refl _) (Nat.le_refl _) (ct_L_risk1 E hs (by omega) hX) ?_
            refine j_icmp_eq (tgt := 441) (q := 439) dL_cores_436 (by decide) rfl rfl rfl (fun h436 => ?_) (fun h436 => ?_)
            · refine j_aload0 (q := 442) dL_cores_441 rfl ?_
              refine j_callV0 (Mc := iX7_gentlest) (q := 445) (c' := 0) (s' := 0) dL_cores_442 rfl kV_X7_gentlest jw_515 ⟨by decide, by decide⟩ (V.2.2 _ _ sh_0) rfl rfl rfl (Nat.le_refl _) (Nat.le_refl _) (qc_gentlest V Q) ?_
              refine j_iload7 (q := 447) dL_cores_445 rfl ?_
              refine j_if_ge (tgt := 454) (q := 450) dL_cores_447 (by decide) rfl (by first | exact wr_id' (by omega) (by omega) | with_reducible exact wr_bI _ | exact rfl) (fun h447 => ?_) (fun h447 => ?_)
              · refine j_iload7 (q := 456) dL_cores_454 rfl ?_
                refine j_callS1 (Mc := iL_core) (q := 459) (c' := 0) (s' := 0) dL_cores_456 rfl kS_L_core jw_438 ⟨by decide, by decide⟩ rfl (Nat.le_refl _) (Nat.le_refl _) (ct_L_core E hs (by omega)) ?_
                refine j_icmp_ne (tgt := 466) (q := 462) dL_cores_459 (by decide) rfl rfl rfl (fun h459 => ?_) (fun h459 => ?_)
                · exact absurd (by rw [lBs_g hX hI, ← hy]; unfold lPs; first | rw [if_pos (by omega)] | rw [if_neg (by omega)]) h459
                · refine j_iconst (q := 463) dL_cores_462 rfl ?_
                  refine j_goto (tgt := 467) dL_cores_463 (by decide) ?_
                  exact j_zreturn dL_cores_467 rfl (by decide) (rfl) (rfl)
              · refine j_iconst (q := 451) dL_cores_450 rfl ?_
                refine j_goto (tgt := 459) dL_cores_451 (by decide) ?_
                refine j_icmp_ne (tgt := 466) (q := 462) dL_cores_459 (by decide) rfl rfl rfl (fun h459 => ?_) (fun h459 => ?_)
                · exact absurd (by rw [lBs_g hX hI, ← hy]; unfold lPs; first | rw [if_pos (by omega)] | rw [if_neg (by omega)]) h459
                · refine j_iconst (q := 463) dL_cores_462 rfl ?_
                  refine j_goto (tgt := 467) dL_cores_463 (by decide) ?_
                  exact j_zreturn dL_cores_467 rfl (by decide) (rfl) (rfl)
            · exact absurd rfl h436
        · refine j_iconst (q := 407) dL_cores_406 rfl ?_
          refine j_goto (tgt := 412) dL_cores_407 (by decide) ?_
          refine j_icmp_ne (tgt := 439) (q := 415) dL_cores_412 (by decide) rfl rfl rfl (fun h412 => ?_) (fun h412 => ?_)
          · exact absurd (by first | rw [if_pos (by omega)] | rw [if_neg (by omega)]) h412
          · refine j_aload0 (q := 416) dL_cores_415 rfl ?_
            refine j_iload8 (q := 418) dL_cores_416 rfl ?_
            refine j_callS1 (Mc := iL_core) (q := 421) (c' := 0) (s' := 0) dL_cores_418 rfl kS_L_core jw_438 ⟨by decide, by decide⟩ rfl (Nat.le_refl _) (Nat.le_refl _) (ct_L_core E hs (by omega)) ?_
            refine j_iconst (q := 422) dL_cores_421 rfl ?_
            refine j_callV2 (Mc := iX7_ifRead) (q := 425) (c' := 0) (s' := 0) dL_cores_422 rfl kV_X7_ifRead jw_477 ⟨by decide, by decide⟩ (V.2.2 _ _ sh_0) rfl rfl rfl (Nat.le_refl _) (Nat.le_refl _) (ct_r (qc_ifRead V Q (by omega) (by decide)) v_ifr4) ?_
            refine j_iload8 (q := 427) dL_cores_425 rfl ?_
            refine j_bipush (q := 429) dL_cores_427 rfl rfl ?_
            refine j_aload2 (q := 430) dL_cores_429 rfl ?_
            refine j_aload3 (q := 431) dL_cores_430 rfl ?_
            refine j_aload5 (q := 433) dL_cores_431 rfl ?_
            refine j_callS5 (Mc := iL_risk) (q := 436) (c' := 0) (s' := 0) dL_cores_433 rfl kS_L_risk jw_509 ⟨by decide, by decide⟩ rfl (Nat.le_refl _) (Nat.le_refl _) (ct_L_risk1 E hs (by omega) hX) ?_
            refine j_icmp_eq (tgt := 441) (q := 439) dL_cores_436 (by decide) rfl rfl rfl (fun h436 => ?_) (fun h436 => ?_)
            · refine j_aload0 (q := 442) dL_cores_441 rfl ?_
              refine j_callV0 (Mc := iX7_gentlest) (q := 445) (c' := 0) (s' := 0) dL_cores_442 rfl kV_X7_gentlest jw_515 ⟨by decide, by decide⟩ (V.2.2 _ _ sh_0) rfl rfl rfl (Nat.le_refl _) (Nat.le_refl _) (qc_gentlest V Q) ?_
              refine j_iload7 (q := 447) dL_cores_445 rfl ?_
              refine j_if_ge (tgt := 454) (q := 450) dL_cores_447 (by decide) rfl (by first | exact wr_id' (by omega) (by omega) | with_reducible exact wr_bI _ | exact rfl) (fun h447 => ?_) (fun h447 => ?_)
              · refine j_iload7 (q := 456) dL_cores_454 rfl ?_
                refine j_callS1 (Mc := iL_core) (q := 459) (c' := 0) (s' := 0) dL_cores_456 rfl kS_L_core jw_438 ⟨by decide, by decide⟩ rfl (Nat.le_refl _) (Nat.le_refl _) (ct_L_core E hs (by omega)) ?_
                refine j_icmp_ne (tgt := 466) (q := 462) dL_cores_459 (by decide) rfl rfl rfl (fun h459 => ?_) (fun h459 => ?_)
                · exact absurd (by rw [lBs_g hX hI, ← hy]; unfold lPs; first | rw [if_pos (by omega)] | rw [if_neg (by omega)]) h459
                · refine j_iconst (q := 463) dL_cores_462 rfl ?_
                  refine j_goto (tgt := 467) dL_cores_463 (by decide) ?_
                  exact j_zreturn dL_cores_467 rfl (by decide) (rfl) (rfl)
              · refine j_iconst (q := 451) dL_cores_450 rfl ?_
                refine j_goto (tgt := 459) dL_cores_451 (by decide) ?_
                refine j_icmp_ne (tgt := 466) (q := 462) dL_cores_459 (by decide) rfl rfl rfl (fun h459 => ?_) (fun h459 => ?_)
                · exact absurd (by rw [lBs_g hX hI, ← hy]; unfold lPs; first | rw [if_pos (by omega)] | rw [if_neg (by omega)]) h459
                · refine j_iconst (q := 463) dL_cores_462 rfl ?_
                  refine j_goto (tgt := 467) dL_cores_463 (by decide) ?_
                  exact j_zreturn dL_cores_467 rfl (by decide) (rfl) (rfl)
            · exact absurd rfl h436

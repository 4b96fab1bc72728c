/-! the law: its loop -/
theorem bk_all {G : GX} (E : EV G) (hsc : SC G) (g8 : (gE G 1).2.1 = 8) (gm : ∀ s, 0 ≤ s → s < 8 → (gE G 1).2.2 s = zMost s) {F : FinT} {i : Int} (hi : 0 ≤ i ∧ i + 5 ≤ ((gE G 2).2.1 : Int)) {X : Mem} {B K : Int} (h0 : LW X B K) (hB : B + 32 ≤ 1000000) (hK : K + 1 ≤ 512) {k n : Nat} (hk : k + 1 ≤ 601024) (hn : n + 6 ≤ 7293034) (kk : ∀ X' : Mem, LW X' (B + 32) (K + 1) → J G SHP iLw 601024 7293034 F 1958 [some (.inr (.retAddr 2)), some (.inr (.ref 0)), some (.inr (.ref 197)), some (.inr (.ref 206)), some (.inl i), none, none, none, none] [] X' (k + 1) (n + 6)) {x : Int} : J G SHP iLw 601024 7293034 F 39 [some (.inr (.retAddr 2)), some (.inr (.ref 0)), some (.inr (.ref 197)), some (.inr (.ref 206)), some (.inl i), none, none, none, none] [.inl x] X k n := by
  by_cases g0 : wr x = 0
  · exact j_tableIn (x' := wr x) (tgt := 176) 0 dL_law_39 rfl (by omega) (by decide) rfl (by decide) (bk_addTenant E hsc hi h0 hB hK hk hn kk)
  by_cases g1 : wr x = 1
  · exact j_tableIn (x' := wr x) (tgt := 232) 1 dL_law_39 rfl (by omega) (by decide) rfl (by decide) (bk_addInsurer E hsc hi h0 hB hK hk hn kk)
  by_cases g2 : wr x = 2
  · exact j_tableIn (x' := wr x) (tgt := 312) 2 dL_law_39 rfl (by omega) (by decide) rfl (by decide) (bk_set E hsc g8 gm hi h0 hB hK hk hn kk)
  by_cases g3 : wr x = 3
  · exact j_tableIn (x' := wr x) (tgt := 380) 3 dL_law_39 rfl (by omega) (by decide) rfl (by decide) (bk_lease E hsc hi h0 hB hK hk hn kk)
  by_cases g4 : wr x = 4
  · exact j_tableIn (x' := wr x) (tgt := 460) 4 dL_law_39 rfl (by omega) (by decide) rfl (by decide) (bk_insure E hsc hi h0 hB hK hk hn kk)
  by_cases g5 : wr x = 5
  · exact j_tableIn (x' := wr x) (tgt := 540) 5 dL_law_39 rfl (by omega) (by decide) rfl (by decide) (bk_renew E hsc hi h0 hB hK hk hn kk)
  by_cases g6 : wr x = 6
  · exact j_tableIn (x' := wr x) (tgt := 596) 6 dL_law_39 rfl (by omega) (by decide) rfl (by decide) (bk_write E hsc hi h0 hB hK hk hn kk)
  by_cases g7 : wr x = 7
  · exact j_tableIn (x' := wr x) (tgt := 680) 7 dL_law_39 rfl (by omega) (by decide) rfl (by decide) (bk_read E hsc hi h0 hB hK hk hn kk)
  by_cases g8 : wr x = 8
  · exact j_tableIn (x' := wr x) (tgt := 736) 8 dL_law_39 rfl (by omega) (by decide) rfl (by decide) (bk_writeBack E hsc hi h0 hB hK hk hn kk)
  by_cases g9 : wr x = 9
  · exact j_tableIn (x' := wr x) (tgt := 780) 9 dL_law_39 rfl (by omega) (by decide) rfl (by decide) (bk_pass E hsc hi h0 hB hK hk hn kk)
  by_cases g10 : wr x = 10
  · exact j_tableIn (x' := wr x) (tgt := 836) 10 dL_law_39 rfl (by omega) (by decide) rfl (by decide) (bk_append E hsc hi h0 hB hK hk hn kk)
  by_cases g11 : wr x = 11
  · exact j_tableIn (x' := wr x) (tgt := 892) 11 dL_law_39 rfl (by omega) (by decide) rfl (by decide) (bk_clearBuffer E hsc hi h0 hB hK hk hn kk)
  by_cases g12 : wr x = 12
  · exact j_tableIn (x' := wr x) (tgt := 905) 12 dL_law_39 rfl (by omega) (by decide) rfl (by decide) (bk_firstError E hsc hi h0 hB hK hk hn kk)
  by_cases g13 : wr x = 13
  · exact j_tableIn (x' := wr x) (tgt := 918) 13 dL_law_39 rfl (by omega) (by decide) rfl (by decide) (bk_run E hsc hi h0 hB hK hk hn kk)
  by_cases g14 : wr x = 14
  · exact j_tableIn (x' := wr x) (tgt := 974) 14 dL_law_39 rfl (by omega) (by decide) rfl (by decide) (bk_undo E hsc hi h0 hB hK hk hn kk)
  by_cases g15 : wr x = 15
  · exact j_tableIn (x' := wr x) (tgt := 1018) 15 dL_law_39 rfl (by omega) (by decide) rfl (by decide) (bk_core E hsc hi h0 hB hK hk hn kk)
  by_cases g16 : wr x = 16
  · exact j_tableIn (x' := wr x) (tgt := 1086) 16 dL_law_39 rfl (by omega) (by decide) rfl (by decide) (bk_tenant E hsc hi h0 hB hK hk hn kk)
  by_cases g17 : wr x = 17
  · exact j_tableIn (x' := wr x) (tgt := 1154) 17 dL_law_39 rfl (by omega) (by decide) rfl (by decide) (bk_insurer E hsc hi h0 hB hK hk hn kk)
  by_cases g18 : wr x = 18
  · exact j_tableIn (x' := wr x) (tgt := 1222) 18 dL_law_39 rfl (by omega) (by decide) rfl (by decide) (bk_owed E hsc hi h0 hB hK hk hn kk)
  by_cases g19 : wr x = 19
  · exact j_tableIn (x' := wr x) (tgt := 1290) 19 dL_law_39 rfl (by omega) (by decide) rfl (by decide) (bk_weakest E hsc hi h0 hB hK hk hn kk)
  by_cases g20 : wr x = 20
  · exact j_tableIn (x' := wr x) (tgt := 1346) 20 dL_law_39 rfl (by omega) (by decide) rfl (by decide) (bk_count E hsc hi h0 hB hK hk hn kk)
  by_cases g21 : wr x = 21
  · exact j_tableIn (x' := wr x) (tgt := 1402) 21 dL_law_39 rfl (by omega) (by decide) rfl (by decide) (bk_setting E hsc hi h0 hB hK hk hn kk)
  by_cases g22 : wr x = 22
  · exact j_tableIn (x' := wr x) (tgt := 1458) 22 dL_law_39 rfl (by omega) (by decide) rfl (by decide) (bk_premium E hsc hi h0 hB hK hk hn kk)
  by_cases g23 : wr x = 23
  · exact j_tableIn (x' := wr x) (tgt := 1538) 23 dL_law_39 rfl (by omega) (by decide) rfl (by decide) (bk_cheapest E hsc hi h0 hB hK hk hn kk)
  by_cases g24 : wr x = 24
  · exact j_tableIn (x' := wr x) (tgt := 1618) 24 dL_law_39 rfl (by omega) (by decide) rfl (by decide) (bk_waitFor E hsc hi h0 hB hK hk hn kk)
  by_cases g25 : wr x = 25
  · exact j_tableIn (x' := wr x) (tgt := 1710) 25 dL_law_39 rfl (by omega) (by decide) rfl (by decide) (bk_ifRead E hsc hi h0 hB hK hk hn kk)
  by_cases g26 : wr x = 26
  · exact j_tableIn (x' := wr x) (tgt := 1778) 26 dL_law_39 rfl (by omega) (by decide) rfl (by decide) (bk_gentlest E hsc hi h0 hB hK hk hn kk)
  by_cases g27 : wr x = 27
  · exact j_tableIn (x' := wr x) (tgt := 1791) 27 dL_law_39 rfl (by omega) (by decide) rfl (by decide) (bk_savable E hsc hi h0 hB hK hk hn kk)
  by_cases g28 : wr x = 28
  · exact j_tableIn (x' := wr x) (tgt := 1847) 28 dL_law_39 rfl (by omega) (by decide) rfl (by decide) (bk_atRisk E hsc hi h0 hB hK hk hn kk)
  by_cases g29 : wr x = 29
  · exact j_tableIn (x' := wr x) (tgt := 1903) 29 dL_law_39 rfl (by omega) (by decide) rfl (by decide) (bk_backShare E hsc hi h0 hB hK hk hn kk)
  by_cases g30 : wr x = 30
  · exact j_tableIn (x' := wr x) (tgt := 1944) 30 dL_law_39 rfl (by omega) (by decide) rfl (by decide) (bk_digest E hsc hi h0 hB hK hk hn kk)
  refine j_tableOut (x' := wr x) (tgt := 1958) dL_law_39 rfl (by omega) (by decide) ?_
  obtain ⟨P, z, q1, q2, q3⟩ := h0
  exact j_wid (by omega) (by omega) (kk X ⟨P, z, q1, q2, LI_mono (by omega) hB (by omega) hK q3⟩)
theorem lp_law {G : GX} (E : EV G) (hsc : SC G) (g8 : (gE G 1).2.1 = 8) (gm : ∀ s, 0 ≤ s → s < 8 → (gE G 1).2.2 s = zMost s) {n0 b : Nat} : ∀ (d : Nat) (i : Int) (X : Mem) (B K : Int) (k n : Nat), 0 ≤ i → i ≤ 2560 → ((gE G 2).2.1 : Int) ≤ i + 5 * d + 4 → LW X B K → B + 32 * d ≤ 1000000 → K + d ≤ 512 → k + d ≤ 601024 → n + 6 * d ≤ 7293034 → J G SHP iLw 601024 7293034 (FH G n0 (FLw G b)) 23 [some (.inr (.retAddr 2)), some (.inr (.ref 0)), some (.inr (.ref 197)), some (.inr (.ref 206)), some (.inl i), none, none, none, none] [] X k n := by
  intro d
  have hL := hsc.2
  induction d with
  | zero =>
    intro i X B K k n hi hj hd h0 hB hK hk hn
    refine j_iload4 (q := 25) dL_law_23 rfl ?_
    refine j_oload0 (q := 26) dL_law_25 rfl ?_
    refine j_olen (j := 2) (q := 27) (by decide) dL_law_26 rfl ?_
    refine j_iconst (q := 28) dL_law_27 rfl ?_
    refine j_isub (q := 29) dL_law_28 rfl ?_
    refine j_icmp_gt (tgt := 1964) (q := 32) dL_law_29 (by decide) rfl (wr_id' (by omega) (by omega)) (wr_id' (by omega) (by omega)) (fun _ => ?_) (fun h => ?_)
    · refine j_iconst (q := 1965) dL_law_1964 rfl ?_
      exact j_lawret dL_law_1965 (by omega) (by omega)
    · omega
  | succ d ih =>
    intro i X B K k n hi hj hd h0 hB hK hk hn
    refine j_iload4 (q := 25) dL_law_23 rfl ?_
    refine j_oload0 (q := 26) dL_law_25 rfl ?_
    refine j_olen (j := 2) (q := 27) (by decide) dL_law_26 rfl ?_
    refine j_iconst (q := 28) dL_law_27 rfl ?_
    refine j_isub (q := 29) dL_law_28 rfl ?_
    refine j_icmp_gt (tgt := 1964) (q := 32) dL_law_29 (by decide) rfl (wr_id' (by omega) (by omega)) (wr_id' (by omega) (by omega)) (fun _ => ?_) (fun h => ?_)
    · refine j_iconst (q := 1965) dL_law_1964 rfl ?_
      exact j_lawret dL_law_1965 (by omega) (by omega)
    · refine j_oload0 (q := 33) dL_law_32 rfl ?_
      refine j_iload4 (q := 35) dL_law_33 rfl ?_
      refine j_oload (j := 2) (q := 36) (i' := i) (by decide) dL_law_35 rfl (wr_id' (by omega) (by omega)) (by omega) (by omega) ?_
      refine j_bipush (q := 38) dL_law_36 rfl rfl ?_
      refine j_iand (q := 39) dL_law_38 rfl ?_
      refine bk_all E hsc g8 gm ⟨hi, by omega⟩ h0 (by omega) (by omega) (by omega) (by omega) (fun X' h' => ?_)
      refine j_iinc4 (q := 1961) dL_law_1958 rfl rfl (by decide) ?_
      refine j_goto (tgt := 23) dL_law_1961 (by decide) ?_
      exact ih (i + 5) X' (B + 32) (K + 1) (k + 1) (n + 6) (by omega) (by omega) (by omega) h' (by omega) (by omega) (by omega) (by omega)

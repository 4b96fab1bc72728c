/-! the model: its hash -/
def i2 (v : Int) : Int64 := (jI v).toInt64
def mxM (m : Mem) (v : Int64) : Mem := up m 197 13 (31 * lo (m 197 13) + v).toInt
def dFM (f : Mem → Int → Int64) : Nat → Int → Mem → Mem
  | 0, _, m => m
  | d + 1, k, m => dFM f d (k + 1) (mxM m (f m k))
def dCM (z : Z) : Nat → Int → Mem → Mem
  | 0, _, m => m
  | d + 1, c, m => dCM z d (c + 1) (mxM (dFM (fun _ w => i2 (zCN z c w)) 9 0 m) (i2 (zDis z c 0)))
def dTM (z : Z) : Nat → Int → Mem → Mem
  | 0, _, m => m
  | d + 1, t, m => dTM z d (t + 1) (mxM (dFM (fun _ w => i2 (zTN z t w)) 6 0 m) (i2 (zRk z t)))
def dOM (z : Z) : Nat → Int → Mem → Mem
  | 0, _, m => m
  | d + 1, k, m => dOM z d (k + 1) (mxM (mxM m (i2 (m 205 k))) (i2 (z (59 + 9 * m 205 k + 6) - 1)))
def zBk (z : Z) : UInt64 := if wr (z 5) = 0 then FP.dconst0 else FP.ddiv (FP.i2d (jI (z 6))) (FP.i2d (jI (z 5)))
theorem mxM_o {m : Mem} {v : Int64} {k : Nat} {j : Int} (h : ¬ (k = 197 ∧ j = 13)) : mxM m v k j = m k j := up_ne h
theorem dFM_o {f : Mem → Int → Int64} {q : Nat} {j : Int} (h : ¬ (q = 197 ∧ j = 13)) : ∀ (d : Nat) (k : Int) (m : Mem), dFM f d k m q j = m q j := by
  intro d
  induction d with
  | zero => intro k m; rfl
  | succ d ih => intro k m; rw [dFM, ih, mxM_o h]
theorem dCM_o {z : Z} {q : Nat} {j : Int} (h : ¬ (q = 197 ∧ j = 13)) : ∀ (d : Nat) (k : Int) (m : Mem), dCM z d k m q j = m q j := by
  intro d
  induction d with
  | zero => intro k m; rfl
  | succ d ih => intro k m; rw [dCM, ih, mxM_o h, dFM_o h]
theorem dTM_o {z : Z} {q : Nat} {j : Int} (h : ¬ (q = 197 ∧ j = 13)) : ∀ (d : Nat) (k : Int) (m : Mem), dTM z d k m q j = m q j := by
  intro d
  induction d with
  | zero => intro k m; rfl
  | succ d ih => intro k m; rw [dTM, ih, mxM_o h, dFM_o h]
theorem dOM_o {z : Z} {q : Nat} {j : Int} (h : ¬ (q = 197 ∧ j = 13)) : ∀ (d : Nat) (k : Int) (m : Mem), dOM z d k m q j = m q j := by
  intro d
  induction d with
  | zero => intro k m; rfl
  | succ d ih => intro k m; rw [dOM, ih, mxM_o h, mxM_o h]
theorem n64_of {x : UInt64} (h : Jvm.FP.Core.dIsNaN x = false) : vf_n64 x := by
  have h1 := (Jvm.FP.Core.ne_nan x).mp ((Jvm.FP.Core.notNaN_iff x).mp h)
  unfold vf_n64
  rw [UInt64.le_iff_toNat_le, Jvm.FP.Core.mask_toNat]
  exact h1
theorem div_nan {a b : Int32} (h : b ≠ 0) : Jvm.FP.Core.dIsNaN (FP.ddiv (FP.i2d a) (FP.i2d b)) = false :=
  Jvm.FP.Core.ddiv_out ((Jvm.FP.Core.notNaN_iff _).mpr (Jvm.FP.Core.i2d_fin a).ne_nan) (Jvm.FP.Core.i2d_fin b) (fun q => Jvm.FP.Core.i2d_ne_zero h ((Jvm.FP.Core.zero_bits2 _).mp q))
theorem div_n64 {a b : Int32} (h : b ≠ 0) : vf_n64 (FP.ddiv (FP.i2d a) (FP.i2d b)) := n64_of (div_nan h)
theorem zBk_nan (z : Z) : Jvm.FP.Core.dIsNaN (zBk z) = false := by
  unfold zBk
  split
  · decide +kernel
  · rename_i h
    exact div_nan (fun q => h (by unfold wr; rw [q]; rfl))
theorem jI_nz {x : Int} (h : ¬ wr x = 0) : jI x ≠ 0 := fun q => h (by unfold wr; rw [q]; rfl)
theorem ct_X8_backNow {G : GX} (E : EV G) {m : Mem} {z : Z} : CT G SHP iX8_backNow 0 0 [.inr (.ref 197)] (sz m z) (some (.inr (.double (zBk z)))) (sz m z) := by
  refine j_met (L0 := [some (.inr (.ref 197))]) (by decide) E.1 E.2 rfl (Nat.le_of_ble_eq_true rfl) ?_
  refine j_aload0 (q := 1) dX8_backNow_0 rfl ?_
  refine j_getR 0 (q := 4) dX8_backNow_1 rfl fl_X8_7 sh_197 rfl ?_
  refine j_iconst (q := 5) dX8_backNow_4 rfl ?_
  refine j_zload (q := 6) dX8_backNow_5 rfl (by first | exact wr_id' (by omega) (by omega) | with_reducible exact wr_bI _ | exact rfl) (by omega) (by omega) ?_
  refine j_if_ne (tgt := 13) (q := 9) dX8_backNow_6 (by decide) rfl rfl (fun h6 => ?_) (fun h6 => ?_)
  · refine j_aload0 (q := 14) dX8_backNow_13 rfl ?_
    refine j_getR 0 (q := 17) dX8_backNow_14 rfl fl_X8_7 sh_197 rfl ?_
    refine j_bipush (q := 19) dX8_backNow_17 rfl rfl ?_
    refine j_zload (q := 20) dX8_backNow_19 rfl (by first | exact wr_id' (by omega) (by omega) | with_reducible exact wr_bI _ | exact rfl) (by omega) (by omega) ?_
    refine j_i2d (q := 21) dX8_backNow_20 rfl ?_
    refine j_aload0 (q := 22) dX8_backNow_21 rfl ?_
    refine j_getR 0 (q := 25) dX8_backNow_22 rfl fl_X8_7 sh_197 rfl ?_
    refine j_iconst (q := 26) dX8_backNow_25 rfl ?_
    refine j_zload (q := 27) dX8_backNow_26 rfl (by first | exact wr_id' (by omega) (by omega) | with_reducible exact wr_bI _ | exact rfl) (by omega) (by omega) ?_
    refine j_i2d (q := 28) dX8_backNow_27 rfl ?_
    refine j_ddiv (q := 29) dX8_backNow_28 rfl (div_n64 (jI_nz (by assumption))) ?_
    exact j_dreturn dX8_backNow_29 rfl (by first | (rw [zBk, if_pos (by assumption)]; done) | (rw [zBk, if_neg (by assumption)]; done)) (rfl)
  · refine j_dconst0 (q := 10) dX8_backNow_9 rfl ?_
    refine j_goto (tgt := 29) dX8_backNow_10 (by decide) ?_
    exact j_dreturn dX8_backNow_29 rfl (by first | (rw [zBk, if_pos (by assumption)]; done) | (rw [zBk, if_neg (by assumption)]; done)) (rfl)
theorem ct_X8_mix {G : GX} (E : EV G) {m : Mem} {z : Z} {v : Int64} : CT G SHP iX8_mix 0 0 [.inr (.ref 197), .inr (.long v)] (sz m z) none (sz (mxM m v) z) := by
  refine j_met (L0 := [some (.inr (.ref 197)), some (.inr (.long v)), none]) (by decide) E.1 E.2 rfl (Nat.le_of_ble_eq_true rfl) ?_
  refine j_aload0 (q := 1) dX8_mix_0 rfl ?_
  refine j_ldc2 (q := 4) dX8_mix_1 rfl jw_1401 ?_
  refine j_aload0 (q := 5) dX8_mix_4 rfl ?_
  refine j_ngetL (by decide) 13 (j' := 13) (q := 8) dX8_mix_5 rfl fl_X8_256 sh_197 rfl rfl ?_
  refine j_lmul (q := 9) dX8_mix_8 rfl ?_
  refine j_lload1 (q := 10) dX8_mix_9 rfl ?_
  refine j_ladd (q := 11) dX8_mix_10 rfl ?_
  refine j_nputL (by decide) 13 (j' := 13) (q := 14) dX8_mix_11 rfl fw_X8_256 sh_197 rfl rfl ?_
  exact j_return dX8_mix_14 rfl (rfl)
def dC (o : Option Ordering) (op : CmpOp) : Int := (Op.cmpValue o op).toInt
section
variable {G : GX} {sh : List SH} {M : MI} {mc ms : Nat} {F : FinT} {pc : Nat} {L : List (Option PV)} {S : List PV} {m : Mem} {k n : Nat}
theorem j_dcmp {x y : UInt64} {op : CmpOp} {q : Nat} (hd : decode (mB M) pc = .ok (.dcmp op, 1)) (hq : pc + 1 = q) (kk : J G sh M mc ms F q L (.inl (dC (FP.dcmp x y) op) :: S) m k n) : J G sh M mc ms F pc L (.inr (.double y) :: .inr (.double x) :: S) m k n := by
  intro p e s mm args below meth c R C H locs ls hP hS hL
  subst hq
  have h := kk p e s mm args below meth c R C H locs ls hP hS hL
  have e1 : jv G (.inl (dC (FP.dcmp x y) op)) = .int (Op.cmpValue (FP.dcmp x y) op) := by show Value.int (jI (Op.cmpValue (FP.dcmp x y) op).toInt) = _; unfold jI; rw [Int32.ofInt_toInt]
  rw [List.map_cons, e1] at h
  exact lv_dcmp C.x C.b hd h
theorem j_raw {x : UInt64} {idx q : Nat} (hd : decode (mB M) pc = .ok (.invokestatic idx, 3)) (hq : pc + 3 = q) (hl : Cond.methodLink (mY M).cls idx ⟨"java/lang/Double", "doubleToRawLongBits", "(D)J"⟩ ∈ jall) (hroom : 1 ≤ mF M ∧ jcats S + 15 ≤ mW M) (kk : J G sh M mc ms F q L (.inr (.long x.toInt64) :: S) m k n) : J G sh M mc ms F pc L (.inr (.double x) :: S) m k n := by
  intro p e s mm args below meth c0 R C H locs ls hP hS hL
  subst hq
  exact vn_d2l C.x C.b (C.ml.trans hL.1.symm) C.own (C.ts _ hl) (C.ts _ jw_1418) (C.ts _ jw_1417) (C.ts _ jw_21) (by rw [C.room]; exact hroom.1) (by rw [jcats_eq, C.room]; exact hroom.2) hd (kk p e s mm args below meth c0 R C H locs ls hP hS hL)
end
theorem ct_Jxe99ae_isNaN_b9ae7 {G : GX} (E : EV G) {m : Mem} {x : UInt64} (hx : Jvm.FP.Core.dIsNaN x = false) : CT G SHP iJxe99ae_isNaN_b9ae7 0 0 [.inr (.double x)] (m) (some (.inl (bI false))) (m) := by
  refine j_met (L0 := [some (.inr (.double x)), none]) (by decide) E.1 E.2 rfl (Nat.le_of_ble_eq_true rfl) ?_
  refine j_dload0 (q := 1) dJxe99ae_isNaN_b9ae7_0 rfl ?_
  refine j_dload0 (q := 2) dJxe99ae_isNaN_b9ae7_1 rfl ?_
  refine j_dcmp (q := 3) dJxe99ae_isNaN_b9ae7_2 rfl ?_
  refine j_if_eq (tgt := 10) (q := 6) dJxe99ae_isNaN_b9ae7_3 (by decide) rfl (x' := 0) (by rw [show FP.dcmp x x = some .eq from Jvm.FP.Core.dcmp_refl hx]; rfl) (fun h3 => ?_) (fun h3 => ?_)
  · refine j_iconst (q := 11) dJxe99ae_isNaN_b9ae7_10 rfl ?_
    exact j_zreturn dJxe99ae_isNaN_b9ae7_11 rfl (by decide) (rfl) (rfl)
  · omega
theorem ct_Jxe99ae_doubleToLongBits_ccdee {G : GX} (E : EV G) {m : Mem} {x : UInt64} (hx : Jvm.FP.Core.dIsNaN x = false) : CT G SHP iJxe99ae_doubleToLongBits_ccdee 0 0 [.inr (.double x)] (m) (some (.inr (.long x.toInt64))) (m) := by
  refine j_met (L0 := [some (.inr (.double x)), none]) (by decide) E.1 E.2 rfl (Nat.le_of_ble_eq_true rfl) ?_
  refine j_dload0 (q := 1) dJxe99ae_doubleToLongBits_ccdee_0 rfl ?_
  refine j_callS1 (Mc := iJxe99ae_isNaN_b9ae7) (q := 4) (c' := 0) (s' := 0) dJxe99ae_doubleToLongBits_ccdee_1 rfl kS_Jxe99ae_isNaN_b9ae7 jw_1413 ⟨by decide, by decide⟩ rfl (Nat.le_refl _) (Nat.le_refl _) (ct_Jxe99ae_isNaN_b9ae7 E (by assumption)) ?_
  refine j_ifne_b (tgt := 12) (q := 7) dJxe99ae_doubleToLongBits_ccdee_4 (by decide) rfl (fun h4 => ?_) (fun h4 => ?_)
  · (exact absurd h4 (by simp))
  · refine j_dload0 (q := 8) dJxe99ae_doubleToLongBits_ccdee_7 rfl ?_
    refine j_raw (q := 11) dJxe99ae_doubleToLongBits_ccdee_8 rfl jw_1416 ⟨by decide, by decide⟩ ?_
    exact j_lreturn dJxe99ae_doubleToLongBits_ccdee_11 rfl (rfl) (rfl)
theorem lp_X8_digest_1 {G : GX} (E : EV G) {z : Z} {F : FinT} : ∀ (d : Nat) (k : Int) (m : Mem), k + d = 19 → 0 ≤ k → (∀ (x : Mem), x = dFM (fun m k => i2 (zCnt z (m 197 10) k)) d k m → J G SHP iX8_digest 0 0 F 36 [some (.inr (.ref 197)), none, none] [] (sz x z) 0 0) → J G SHP iX8_digest 0 0 F 14 [some (.inr (.ref 197)), some (.inl k), none] [] (sz m z) 0 0 := by
  intro d
  induction d with
  | zero =>
    intro k m g0 g1 kk
    refine j_iload1 (q := 15) dX8_digest_14 rfl ?_
    refine j_bipush (q := 17) dX8_digest_15 rfl rfl ?_
    refine j_icmp_ge (tgt := 36) (q := 20) dX8_digest_17 (by decide) rfl (by first | exact wr_id' (by omega) (by omega) | with_reducible exact wr_bI _ | exact rfl) (by first | exact wr_id' (by omega) (by omega) | with_reducible exact wr_bI _ | exact rfl) (fun h17 => ?_) (fun h17 => ?_)
    · refine j_fgt1 ?_
      exact kk _ rfl
    · omega
  | succ d ih =>
    intro k m g0 g1 kk
    refine j_iload1 (q := 15) dX8_digest_14 rfl ?_
    refine j_bipush (q := 17) dX8_digest_15 rfl rfl ?_
    refine j_icmp_ge (tgt := 36) (q := 20) dX8_digest_17 (by decide) rfl (by first | exact wr_id' (by omega) (by omega) | with_reducible exact wr_bI _ | exact rfl) (by first | exact wr_id' (by omega) (by omega) | with_reducible exact wr_bI _ | exact rfl) (fun h17 => ?_) (fun h17 => ?_)
    · omega
    · refine j_aload0 (q := 21) dX8_digest_20 rfl ?_
      refine j_aload0 (q := 22) dX8_digest_21 rfl ?_
      refine j_iload1 (q := 23) dX8_digest_22 rfl ?_
      refine j_callV1 (Mc := iX8_counted) (q := 26) (c' := 0) (s' := 0) dX8_digest_23 rfl kV_X8_counted jw_1304 ⟨by decide, by decide⟩ sh_197 rfl rfl rfl (Nat.le_refl _) (Nat.le_refl _) (ct_X8_counted E (by omega)) ?_
      refine j_i2l (q := 27) dX8_digest_26 rfl ?_
      refine j_callV1v (Mc := iX8_mix) (q := 30) (c' := 0) (s' := 0) dX8_digest_27 rfl kV_X8_mix jw_1397 ⟨by decide, by decide⟩ sh_197 rfl rfl rfl (Nat.le_refl _) (Nat.le_refl _) (ct_X8_mix E) ?_
      refine j_iinc1 (q := 33) dX8_digest_30 rfl rfl (by decide) ?_
      refine j_goto (tgt := 14) dX8_digest_33 (by decide) ?_
      exact ih _ _ (by omega) (by omega) (fun x hx => kk x (hx.trans (rfl)))
theorem lp_X8_digest_2 {G : GX} (E : EV G) {z : Z} {F : FinT} : ∀ (d : Nat) (k : Int) (m : Mem), k + d = 8 → 0 ≤ k → (∀ (x : Mem), x = dFM (fun _ k => i2 (z (15 + k))) d k m → J G SHP iX8_digest 0 0 F 60 [some (.inr (.ref 197)), none, none] [] (sz x z) 0 0) → J G SHP iX8_digest 0 0 F 38 [some (.inr (.ref 197)), some (.inl k), none] [] (sz m z) 0 0 := by
  intro d
  induction d with
  | zero =>
    intro k m g0 g1 kk
    refine j_iload1 (q := 39) dX8_digest_38 rfl ?_
    refine j_bipush (q := 41) dX8_digest_39 rfl rfl ?_
    refine j_icmp_ge (tgt := 60) (q := 44) dX8_digest_41 (by decide) rfl (by first | exact wr_id' (by omega) (by omega) | with_reducible exact wr_bI _ | exact rfl) (by first | exact wr_id' (by omega) (by omega) | with_reducible exact wr_bI _ | exact rfl) (fun h41 => ?_) (fun h41 => ?_)
    · refine j_fgt1 ?_
      exact kk _ rfl
    · omega
  | succ d ih =>
    intro k m g0 g1 kk
    refine j_iload1 (q := 39) dX8_digest_38 rfl ?_
    refine j_bipush (q := 41) dX8_digest_39 rfl rfl ?_
    refine j_icmp_ge (tgt := 60) (q := 44) dX8_digest_41 (by decide) rfl (by first | exact wr_id' (by omega) (by omega) | with_reducible exact wr_bI _ | exact rfl) (by first | exact wr_id' (by omega) (by omega) | with_reducible exact wr_bI _ | exact rfl) (fun h41 => ?_) (fun h41 => ?_)
    · omega
    · refine j_aload0 (q := 45) dX8_digest_44 rfl ?_
      refine j_aload0 (q := 46) dX8_digest_45 rfl ?_
      refine j_iload1 (q := 47) dX8_digest_46 rfl ?_
      refine j_callV1 (Mc := iX8_rule) (q := 50) (c' := 0) (s' := 0) dX8_digest_47 rfl kV_X8_rule jw_1057 ⟨by decide, by decide⟩ sh_197 rfl rfl rfl (Nat.le_refl _) (Nat.le_refl _) (ct_X8_rule E (by omega)) ?_
      refine j_i2l (q := 51) dX8_digest_50 rfl ?_
      refine j_callV1v (Mc := iX8_mix) (q := 54) (c' := 0) (s' := 0) dX8_digest_51 rfl kV_X8_mix jw_1397 ⟨by decide, by decide⟩ sh_197 rfl rfl rfl (Nat.le_refl _) (Nat.le_refl _) (ct_X8_mix E) ?_
      refine j_iinc1 (q := 57) dX8_digest_54 rfl rfl (by decide) ?_
      refine j_goto (tgt := 38) dX8_digest_57 (by decide) ?_
      exact ih _ _ (by omega) (by omega) (fun x hx => kk x (hx.trans (rfl)))
theorem lp_X8_digest_3i {G : GX} (E : EV G) {z : Z} {F : FinT} {c : Int} (h1 : 0 ≤ c ∧ c < 64) : ∀ (d : Nat) (k : Int) (m : Mem), k + d = 9 → 0 ≤ k → (∀ (x : Mem), x = dFM (fun _ k => i2 (zCN z c k)) d k m → J G SHP iX8_digest 0 0 F 93 [some (.inr (.ref 197)), some (.inl c), none] [] (sz x z) 0 0) → J G SHP iX8_digest 0 0 F 70 [some (.inr (.ref 197)), some (.inl c), some (.inl k)] [] (sz m z) 0 0 := by
  intro d
  induction d with
  | zero =>
    intro k m g0 g1 kk
    refine j_iload2 (q := 71) dX8_digest_70 rfl ?_
    refine j_bipush (q := 73) dX8_digest_71 rfl rfl ?_
    refine j_icmp_ge (tgt := 93) (q := 76) dX8_digest_73 (by decide) rfl (by first | exact wr_id' (by omega) (by omega) | with_reducible exact wr_bI _ | exact rfl) (by first | exact wr_id' (by omega) (by omega) | with_reducible exact wr_bI _ | exact rfl) (fun h73 => ?_) (fun h73 => ?_)
    · refine j_fgt2 ?_
      exact kk _ rfl
    · omega
  | succ d ih =>
    intro k m g0 g1 kk
    refine j_iload2 (q := 71) dX8_digest_70 rfl ?_
    refine j_bipush (q := 73) dX8_digest_71 rfl rfl ?_
    refine j_icmp_ge (tgt := 93) (q := 76) dX8_digest_73 (by decide) rfl (by first | exact wr_id' (by omega) (by omega) | with_reducible exact wr_bI _ | exact rfl) (by first | exact wr_id' (by omega) (by omega) | with_reducible exact wr_bI _ | exact rfl) (fun h73 => ?_) (fun h73 => ?_)
    · omega
    · refine j_aload0 (q := 77) dX8_digest_76 rfl ?_
      refine j_aload0 (q := 78) dX8_digest_77 rfl ?_
      refine j_iload1 (q := 79) dX8_digest_78 rfl ?_
      refine j_iload2 (q := 80) dX8_digest_79 rfl ?_
      refine j_callV2 (Mc := iX8_coreNow) (q := 83) (c' := 0) (s' := 0) dX8_digest_80 rfl kV_X8_coreNow jw_1256 ⟨by decide, by decide⟩ sh_197 rfl rfl rfl (Nat.le_refl _) (Nat.le_refl _) (ct_X8_coreNow E (by omega) (by omega)) ?_
      refine j_i2l (q := 84) dX8_digest_83 rfl ?_
      refine j_callV1v (Mc := iX8_mix) (q := 87) (c' := 0) (s' := 0) dX8_digest_84 rfl kV_X8_mix jw_1397 ⟨by decide, by decide⟩ sh_197 rfl rfl rfl (Nat.le_refl _) (Nat.le_refl _) (ct_X8_mix E) ?_
      refine j_iinc2 (q := 90) dX8_digest_87 rfl rfl (by decide) ?_
      refine j_goto (tgt := 70) dX8_digest_90 (by decide) ?_
      exact ih _ _ (by omega) (by omega) (fun x hx => kk x (hx.trans (rfl)))
theorem lp_X8_digest_3 {G : GX} (E : EV G) {z : Z} {F : FinT} : ∀ (d : Nat) (c : Int) (m : Mem), c + d = 64 → 0 ≤ c → (∀ (x : Mem), x = dCM z d c m → J G SHP iX8_digest 0 0 F 110 [some (.inr (.ref 197)), none, none] [] (sz x z) 0 0) → J G SHP iX8_digest 0 0 F 62 [some (.inr (.ref 197)), some (.inl c), none] [] (sz m z) 0 0 := by
  intro d
  induction d with
  | zero =>
    intro c m g0 g1 kk
    refine j_iload1 (q := 63) dX8_digest_62 rfl ?_
    refine j_bipush (q := 65) dX8_digest_63 rfl rfl ?_
    refine j_icmp_ge (tgt := 110) (q := 68) dX8_digest_65 (by decide) rfl (by first | exact wr_id' (by omega) (by omega) | with_reducible exact wr_bI _ | exact rfl) (by first | exact wr_id' (by omega) (by omega) | with_reducible exact wr_bI _ | exact rfl) (fun h65 => ?_) (fun h65 => ?_)
    · refine j_fgt1 ?_
      exact kk _ rfl
    · omega
  | succ d ih =>
    intro c m g0 g1 kk
    refine j_iload1 (q := 63) dX8_digest_62 rfl ?_
    refine j_bipush (q := 65) dX8_digest_63 rfl rfl ?_
    refine j_icmp_ge (tgt := 110) (q := 68) dX8_digest_65 (by decide) rfl (by first | exact wr_id' (by omega) (by omega) | with_reducible exact wr_bI _ | exact rfl) (by first | exact wr_id' (by omega) (by omega) | with_reducible exact wr_bI _ | exact rfl) (fun h65 => ?_) (fun h65 => ?_)
    · omega
    · refine j_iconst (q := 69) dX8_digest_68 rfl ?_
      refine j_istore2 (q := 70) dX8_digest_69 rfl rfl (by decide) ?_
      refine lp_X8_digest_3i E (c := c) ⟨by omega, by omega⟩ 9 0 m (by omega) (by omega) ?_
      intro x hx
      subst hx
      refine j_aload0 (q := 94) dX8_digest_93 rfl ?_
      refine j_aload0 (q := 95) dX8_digest_94 rfl ?_
      refine j_iload1 (q := 96) dX8_digest_95 rfl ?_
      refine j_iconst (q := 97) dX8_digest_96 rfl ?_
      refine j_callV2 (Mc := iX8_disturbs) (q := 100) (c' := 0) (s' := 0) dX8_digest_97 rfl kV_X8_disturbs jw_1344 ⟨by decide, by decide⟩ sh_197 rfl rfl rfl (Nat.le_refl _) (Nat.le_refl _) (ct_X8_disturbs E (by omega) (by omega)) ?_
      refine j_i2l (q := 101) dX8_digest_100 rfl ?_
      refine j_callV1v (Mc := iX8_mix) (q := 104) (c' := 0) (s' := 0) dX8_digest_101 rfl kV_X8_mix jw_1397 ⟨by decide, by decide⟩ sh_197 rfl rfl rfl (Nat.le_refl _) (Nat.le_refl _) (ct_X8_mix E) ?_
      refine j_iinc1 (q := 107) dX8_digest_104 rfl rfl (by decide) ?_
      refine j_goto (tgt := 62) dX8_digest_107 (by decide) ?_
      exact ih _ _ (by omega) (by omega) (fun x hx => kk x (hx.trans (rfl)))
theorem lp_X8_mixPeople_1i {G : GX} (E : EV G) {z : Z} {F : FinT} {t : Int} (h1 : 0 ≤ t ∧ t < 6) (h3 : 0 ≤ z 2 ∧ z 2 ≤ 6) (h4 : 0 ≤ z 3 ∧ z 3 ≤ 3) (h5 : ∀ i, 0 ≤ i → i < 3 → 0 ≤ z (41 + 6 * i + 5) ∧ z (41 + 6 * i + 5) ≤ 512) : ∀ (d : Nat) (k : Int) (m : Mem), k + d = 6 → 0 ≤ k → (∀ (x : Mem), x = dFM (fun _ k => i2 (zTN z t k)) d k m → J G SHP iX8_mixPeople 0 0 F 37 [some (.inr (.ref 197)), some (.inl t), none] [] (sz x z) 0 0) → J G SHP iX8_mixPeople 0 0 F 14 [some (.inr (.ref 197)), some (.inl t), some (.inl k)] [] (sz m z) 0 0 := by
  intro d
  induction d with
  | zero =>
    intro k m g0 g1 kk
    refine j_iload2 (q := 15) dX8_mixPeople_14 rfl ?_
    refine j_bipush (q := 17) dX8_mixPeople_15 rfl rfl ?_
    refine j_icmp_ge (tgt := 37) (q := 20) dX8_mixPeople_17 (by decide) rfl (by first | exact wr_id' (by omega) (by omega) | with_reducible exact wr_bI _ | exact rfl) (by first | exact wr_id' (by omega) (by omega) | with_reducible exact wr_bI _ | exact rfl) (fun h17 => ?_) (fun h17 => ?_)
    · refine j_fgt2 ?_
      exact kk _ rfl
    · omega
  | succ d ih =>
    intro k m g0 g1 kk
    refine j_iload2 (q := 15) dX8_mixPeople_14 rfl ?_
    refine j_bipush (q := 17) dX8_mixPeople_15 rfl rfl ?_
    refine j_icmp_ge (tgt := 37) (q := 20) dX8_mixPeople_17 (by decide) rfl (by first | exact wr_id' (by omega) (by omega) | with_reducible exact wr_bI _ | exact rfl) (by first | exact wr_id' (by omega) (by omega) | with_reducible exact wr_bI _ | exact rfl) (fun h17 => ?_) (fun h17 => ?_)
    · omega
    · refine j_aload0 (q := 21) dX8_mixPeople_20 rfl ?_
      refine j_aload0 (q := 22) dX8_mixPeople_21 rfl ?_
      refine j_iload1 (q := 23) dX8_mixPeople_22 rfl ?_
      refine j_iload2 (q := 24) dX8_mixPeople_23 rfl ?_
      refine j_callV2 (Mc := iX8_tenantNow) (q := 27) (c' := 0) (s' := 0) dX8_mixPeople_24 rfl kV_X8_tenantNow jw_1264 ⟨by decide, by decide⟩ sh_197 rfl rfl rfl (Nat.le_refl _) (Nat.le_refl _) (ct_X8_tenantNow E (by omega) (by omega) (by omega) (by omega) h5) ?_
      refine j_i2l (q := 28) dX8_mixPeople_27 rfl ?_
      refine j_callV1v (Mc := iX8_mix) (q := 31) (c' := 0) (s' := 0) dX8_mixPeople_28 rfl kV_X8_mix jw_1397 ⟨by decide, by decide⟩ sh_197 rfl rfl rfl (Nat.le_refl _) (Nat.le_refl _) (ct_X8_mix E) ?_
      refine j_iinc2 (q := 34) dX8_mixPeople_31 rfl rfl (by decide) ?_
      refine j_goto (tgt := 14) dX8_mixPeople_34 (by decide) ?_
      exact ih _ _ (by omega) (by omega) (fun x hx => kk x (hx.trans (rfl)))
theorem lp_X8_mixPeople_1 {G : GX} (E : EV G) {z : Z} {F : FinT} (h3 : 0 ≤ z 2 ∧ z 2 ≤ 6) (h4 : 0 ≤ z 3 ∧ z 3 ≤ 3) (h5 : ∀ i, 0 ≤ i → i < 3 → 0 ≤ z (41 + 6 * i + 5) ∧ z (41 + 6 * i + 5) ≤ 512) : ∀ (d : Nat) (t : Int) (m : Mem), t + d = z 2 → 0 ≤ t → (∀ (x : Mem), x = dTM z d t m → J G SHP iX8_mixPeople 0 0 F 53 [some (.inr (.ref 197)), none, none] [] (sz x z) 0 0) → J G SHP iX8_mixPeople 0 0 F 2 [some (.inr (.ref 197)), some (.inl t), none] [] (sz m z) 0 0 := by
  intro d
  induction d with
  | zero =>
    intro t m g0 g1 kk
    refine j_iload1 (q := 3) dX8_mixPeople_2 rfl ?_
    refine j_aload0 (q := 4) dX8_mixPeople_3 rfl ?_
    refine j_getR 0 (q := 7) dX8_mixPeople_4 rfl fl_X8_7 sh_197 rfl ?_
    refine j_iconst (q := 8) dX8_mixPeople_7 rfl ?_
    refine j_zload (q := 9) dX8_mixPeople_8 rfl (by first | exact wr_id' (by omega) (by omega) | with_reducible exact wr_bI _ | exact rfl) (by omega) (by omega) ?_
    refine j_icmp_ge (tgt := 53) (q := 12) dX8_mixPeople_9 (by decide) rfl (by first | exact wr_id' (by omega) (by omega) | with_reducible exact wr_bI _ | exact rfl) (by first | exact wr_id' (by omega) (by omega) | with_reducible exact wr_bI _ | exact rfl) (fun h9 => ?_) (fun h9 => ?_)
    · refine j_fgt1 ?_
      exact kk _ rfl
    · omega
  | succ d ih =>
    intro t m g0 g1 kk
    refine j_iload1 (q := 3) dX8_mixPeople_2 rfl ?_
    refine j_aload0 (q := 4) dX8_mixPeople_3 rfl ?_
    refine j_getR 0 (q := 7) dX8_mixPeople_4 rfl fl_X8_7 sh_197 rfl ?_
    refine j_iconst (q := 8) dX8_mixPeople_7 rfl ?_
    refine j_zload (q := 9) dX8_mixPeople_8 rfl (by first | exact wr_id' (by omega) (by omega) | with_reducible exact wr_bI _ | exact rfl) (by omega) (by omega) ?_
    refine j_icmp_ge (tgt := 53) (q := 12) dX8_mixPeople_9 (by decide) rfl (by first | exact wr_id' (by omega) (by omega) | with_reducible exact wr_bI _ | exact rfl) (by first | exact wr_id' (by omega) (by omega) | with_reducible exact wr_bI _ | exact rfl) (fun h9 => ?_) (fun h9 => ?_)
    · omega
    · refine j_iconst (q := 13) dX8_mixPeople_12 rfl ?_
      refine j_istore2 (q := 14) dX8_mixPeople_13 rfl rfl (by decide) ?_
      refine lp_X8_mixPeople_1i E (t := t) ⟨by omega, by omega⟩ h3 h4 h5 6 0 m (by omega) (by omega) ?_
      intro x hx
      subst hx
      refine j_aload0 (q := 38) dX8_mixPeople_37 rfl ?_
      refine j_aload0 (q := 39) dX8_mixPeople_38 rfl ?_
      refine j_iload1 (q := 40) dX8_mixPeople_39 rfl ?_
      refine j_callV1 (Mc := iX8_riskNow) (q := 43) (c' := 0) (s' := 0) dX8_mixPeople_40 rfl kV_X8_riskNow jw_1380 ⟨by decide, by decide⟩ sh_197 rfl rfl rfl (Nat.le_refl _) (Nat.le_refl _) (ct_X8_riskNow E (by omega)) ?_
      refine j_i2l (q := 44) dX8_mixPeople_43 rfl ?_
      refine j_callV1v (Mc := iX8_mix) (q := 47) (c' := 0) (s' := 0) dX8_mixPeople_44 rfl kV_X8_mix jw_1397 ⟨by decide, by decide⟩ sh_197 rfl rfl rfl (Nat.le_refl _) (Nat.le_refl _) (ct_X8_mix E) ?_
      refine j_iinc1 (q := 50) dX8_mixPeople_47 rfl rfl (by decide) ?_
      refine j_goto (tgt := 2) dX8_mixPeople_50 (by decide) ?_
      exact ih _ _ (by omega) (by omega) (fun x hx => kk x (hx.trans (rfl)))
theorem lp_X8_mixPeople_2 {G : GX} (E : EV G) {z : Z} {F : FinT} (h4 : 0 ≤ z 3 ∧ z 3 ≤ 3) : ∀ (d : Nat) (k : Int) (m : Mem), k + d = 7 * z 3 → 0 ≤ k → (∀ (x : Mem), x = dFM (fun _ k => i2 (zIN z (k / 7) (k % 7))) d k m → J G SHP iX8_mixPeople 0 0 F 91 [some (.inr (.ref 197)), none, none] [] (sz x z) 0 0) → J G SHP iX8_mixPeople 0 0 F 55 [some (.inr (.ref 197)), some (.inl k), none] [] (sz m z) 0 0 := by
  intro d
  induction d with
  | zero =>
    intro k m g0 g1 kk
    refine j_iload1 (q := 56) dX8_mixPeople_55 rfl ?_
    refine j_bipush (q := 58) dX8_mixPeople_56 rfl rfl ?_
    refine j_aload0 (q := 59) dX8_mixPeople_58 rfl ?_
    refine j_getR 0 (q := 62) dX8_mixPeople_59 rfl fl_X8_7 sh_197 rfl ?_
    refine j_iconst (q := 63) dX8_mixPeople_62 rfl ?_
    refine j_zload (q := 64) dX8_mixPeople_63 rfl (by first | exact wr_id' (by omega) (by omega) | with_reducible exact wr_bI _ | exact rfl) (by omega) (by omega) ?_
    refine j_imul (q := 65) dX8_mixPeople_64 rfl ?_
    refine j_icmp_ge (tgt := 91) (q := 68) dX8_mixPeople_65 (by decide) rfl (by first | exact wr_id' (by omega) (by omega) | with_reducible exact wr_bI _ | exact rfl) (by first | exact wr_id' (by omega) (by omega) | with_reducible exact wr_bI _ | exact rfl) (fun h65 => ?_) (fun h65 => ?_)
    · refine j_fgt1 ?_
      exact kk _ rfl
    · omega
  | succ d ih =>
    intro k m g0 g1 kk
    refine j_iload1 (q := 56) dX8_mixPeople_55 rfl ?_
    refine j_bipush (q := 58) dX8_mixPeople_56 rfl rfl ?_
    refine j_aload0 (q := 59) dX8_mixPeople_58 rfl ?_
    refine j_getR 0 (q := 62) dX8_mixPeople_59 rfl fl_X8_7 sh_197 rfl ?_
    refine j_iconst (q := 63) dX8_mixPeople_62 rfl ?_
    refine j_zload (q := 64) dX8_mixPeople_63 rfl (by first | exact wr_id' (by omega) (by omega) | with_reducible exact wr_bI _ | exact rfl) (by omega) (by omega) ?_
    refine j_imul (q := 65) dX8_mixPeople_64 rfl ?_
    refine j_icmp_ge (tgt := 91) (q := 68) dX8_mixPeople_65 (by decide) rfl (by first | exact wr_id' (by omega) (by omega) | with_reducible exact wr_bI _ | exact rfl) (by first | exact wr_id' (by omega) (by omega) | with_reducible exact wr_bI _ | exact rfl) (fun h65 => ?_) (fun h65 => ?_)
    · omega
    · refine j_aload0 (q := 69) dX8_mixPeople_68 rfl ?_
      refine j_aload0 (q := 70) dX8_mixPeople_69 rfl ?_
      refine j_iload1 (q := 71) dX8_mixPeople_70 rfl ?_
      refine j_bipush (q := 73) dX8_mixPeople_71 rfl rfl ?_
      refine j_idivP (q := 74) dX8_mixPeople_73 rfl (by first | exact wr_id' (by omega) (by omega) | with_reducible exact wr_bI _ | exact rfl) (by first | exact wr_id' (by omega) (by omega) | with_reducible exact wr_bI _ | exact rfl) (by omega) (by omega) ?_
      refine j_iload1 (q := 75) dX8_mixPeople_74 rfl ?_
      refine j_bipush (q := 77) dX8_mixPeople_75 rfl rfl ?_
      refine j_iremP (q := 78) dX8_mixPeople_77 rfl (by first | exact wr_id' (by omega) (by omega) | with_reducible exact wr_bI _ | exact rfl) (by first | exact wr_id' (by omega) (by omega) | with_reducible exact wr_bI _ | exact rfl) (by omega) (by omega) ?_
      refine j_callV2 (Mc := iX8_insurerNow) (q := 81) (c' := 0) (s' := 0) dX8_mixPeople_78 rfl kV_X8_insurerNow jw_1280 ⟨by decide, by decide⟩ sh_197 rfl rfl rfl (Nat.le_refl _) (Nat.le_refl _) (ct_X8_insurerNow E (by omega) (by omega)) ?_
      refine j_i2l (q := 82) dX8_mixPeople_81 rfl ?_
      refine j_callV1v (Mc := iX8_mix) (q := 85) (c' := 0) (s' := 0) dX8_mixPeople_82 rfl kV_X8_mix jw_1397 ⟨by decide, by decide⟩ sh_197 rfl rfl rfl (Nat.le_refl _) (Nat.le_refl _) (ct_X8_mix E) ?_
      refine j_iinc1 (q := 88) dX8_mixPeople_85 rfl rfl (by decide) ?_
      refine j_goto (tgt := 55) dX8_mixPeople_88 (by decide) ?_
      exact ih _ _ (by omega) (by omega) (fun x hx => kk x (hx.trans (rfl)))
def dPM (z : Z) (m : Mem) : Mem := dFM (fun _ k => i2 (zIN z (k / 7) (k % 7))) (7 * z 3).toNat 0 (dTM z (z 2).toNat 0 m)
def dAM1 (z : Z) (m : Mem) : Mem := mxM (dFM (fun _ p => i2 (zWst z p)) 8 0 (dOM z (zOrN z (m 205)).toNat 0 (so m (zOrd z (m 205))))) (i2 (zG z))
def sbM (z : Z) (p : Int) (m : Mem) : Mem := mxM (so (kpM z m 2195) (zSbE z p (m 205)).2) (i2 (zSvb z p (m 205)))
def sbZ (z : Z) (p : Int) (m : Mem) : Z := brZ (kpM z m 2195 199) (zSbE z p (m 205)).1 2195
def dAM2 (z : Z) (m : Mem) : Mem := sbM z 1 (dAM1 z m)
def dAZ2 (z : Z) (m : Mem) : Z := sbZ z 1 (dAM1 z m)
def dAM3 (z : Z) (m : Mem) : Mem := sbM (dAZ2 z m) 3 (dAM2 z m)
def dAZ3 (z : Z) (m : Mem) : Z := sbZ (dAZ2 z m) 3 (dAM2 z m)
def dAM (z : Z) (m : Mem) : Mem := mxM (dAM3 z m) (zBk (dAZ3 z m)).toInt64
theorem sbZ_j {z : Z} {p : Int} {m : Mem} {j : Int} (h : 0 ≤ j ∧ j < 2195) : sbZ z p m j = z j := by
  unfold sbZ brZ
  rw [if_pos h]
  unfold kpM
  rw [if_pos ⟨rfl, h⟩]
theorem WI_sbZ {z : Z} {K p : Int} {m : Mem} (h : WI z K) : WI (sbZ z p m) K := by
  have hw := h.2.2.2.2.1
  refine WI_cg h (sbZ_j (by omega)) (sbZ_j (by omega)) (fun j h1 h2 => by rw [sbZ_j (by omega)]; exact h.2.2.1 j h1 h2) (fun c h1 h2 => ⟨sbZ_j (by omega), sbZ_j (by omega)⟩) ?_
  rw [sbZ_j (by omega), sbZ_j (by omega), sbZ_j (by omega)]; omega
theorem ct_X8_mixPeople {G : GX} (E : EV G) {m : Mem} {z : Z} {K : Int} (hW : WI z K) : CT G SHP iX8_mixPeople 0 0 [.inr (.ref 197)] (sz m z) none (sz (dPM z m) z) := by
  refine j_met (L0 := [some (.inr (.ref 197)), none, none]) (by decide) E.1 E.2 rfl (Nat.le_of_ble_eq_true rfl) ?_
  have h3 := hW.1
  have h4 := hW.2.1
  have h5 : ∀ i, 0 ≤ i → i < 3 → 0 ≤ z (41 + 6 * i + 5) ∧ z (41 + 6 * i + 5) ≤ 512 := fun i a b => WI_wt hW ⟨a, b⟩
  refine j_iconst (q := 1) dX8_mixPeople_0 rfl ?_
  refine j_istore1 (q := 2) dX8_mixPeople_1 rfl rfl (by decide) ?_
  refine lp_X8_mixPeople_1 E h3 h4 h5 (z 2).toNat 0 m (by omega) (by omega) ?_
  intro x hx
  subst hx
  refine j_iconst (q := 54) dX8_mixPeople_53 rfl ?_
  refine j_istore1 (q := 55) dX8_mixPeople_54 rfl rfl (by decide) ?_
  refine lp_X8_mixPeople_2 E h4 (7 * z 3).toNat 0 _ (by omega) (by omega) ?_
  intro x hx
  exact j_return dX8_mixPeople_91 rfl (by rw [hx]; rfl)
theorem lp_X8_mixAhead_1 {G : GX} (E : EV G) {z : Z} {F : FinT} {n : Int} (h1 : 0 ≤ n ∧ n ≤ 64) : ∀ (d : Nat) (k : Int) (m : Mem), k + d = n → 0 ≤ k → OE (m 205) n.toNat → (∀ (x : Mem), x = dOM z d k m → J G SHP iX8_mixAhead 0 0 F 48 [some (.inr (.ref 197)), none, none] [] (sz x z) 0 0) → J G SHP iX8_mixAhead 0 0 F 7 [some (.inr (.ref 197)), some (.inl n), some (.inl k)] [] (sz m z) 0 0 := by
  intro d
  induction d with
  | zero =>
    intro k m g0 g1 g2 kk
    refine j_iload2 (q := 8) dX8_mixAhead_7 rfl ?_
    refine j_iload1 (q := 9) dX8_mixAhead_8 rfl ?_
    refine j_icmp_ge (tgt := 48) (q := 12) dX8_mixAhead_9 (by decide) rfl (by first | exact wr_id' (by omega) (by omega) | with_reducible exact wr_bI _ | exact rfl) (by first | exact wr_id' (by omega) (by omega) | with_reducible exact wr_bI _ | exact rfl) (fun h9 => ?_) (fun h9 => ?_)
    · refine j_fgt1 ?_
      refine j_fgt2 ?_
      exact kk _ rfl
    · omega
  | succ d ih =>
    intro k m g0 g1 g2 kk
    refine j_iload2 (q := 8) dX8_mixAhead_7 rfl ?_
    refine j_iload1 (q := 9) dX8_mixAhead_8 rfl ?_
    refine j_icmp_ge (tgt := 48) (q := 12) dX8_mixAhead_9 (by decide) rfl (by first | exact wr_id' (by omega) (by omega) | with_reducible exact wr_bI _ | exact rfl) (by first | exact wr_id' (by omega) (by omega) | with_reducible exact wr_bI _ | exact rfl) (fun h9 => ?_) (fun h9 => ?_)
    · omega
    · refine j_aload0 (q := 13) dX8_mixAhead_12 rfl ?_
      refine j_aload0 (q := 14) dX8_mixAhead_13 rfl ?_
      refine j_getR 7 (q := 17) dX8_mixAhead_14 rfl fl_X8_31 sh_197 rfl ?_
      refine j_iload2 (q := 18) dX8_mixAhead_17 rfl ?_
      refine j_nload (q := 19) (by decide) dX8_mixAhead_18 rfl sh_205 (by first | exact wr_id' (by omega) (by omega) | with_reducible exact wr_bI _ | exact rfl) (by omega) (by omega) ?_
      refine j_i2l (q := 20) dX8_mixAhead_19 rfl ?_
      refine j_callV1v (Mc := iX8_mix) (q := 23) (c' := 0) (s' := 0) dX8_mixAhead_20 rfl kV_X8_mix jw_1397 ⟨by decide, by decide⟩ sh_197 rfl rfl rfl (Nat.le_refl _) (Nat.le_refl _) (ct_X8_mix E) ?_
      refine j_mem (m' := sz (mxM m (i2 (m 205 k))) z) rfl ?_
      have e5 : mxM m (i2 (m 205 k)) 205 k = m 205 k := rfl
      have hb := g2 k (by omega) (by omega)
      have hb2 : 0 ≤ mxM m (i2 (m 205 k)) 205 k ∧ mxM m (i2 (m 205 k)) 205 k < 64 := hb
      refine j_aload0 (q := 24) dX8_mixAhead_23 rfl ?_
      refine j_aload0 (q := 25) dX8_mixAhead_24 rfl ?_
      refine j_aload0 (q := 26) dX8_mixAhead_25 rfl ?_
      refine j_getR 7 (q := 29) dX8_mixAhead_26 rfl fl_X8_31 sh_197 rfl ?_
      refine j_iload2 (q := 30) dX8_mixAhead_29 rfl ?_
      refine j_nload (q := 31) (by decide) dX8_mixAhead_30 rfl sh_205 (by first | exact wr_id' (by omega) (by omega) | with_reducible exact wr_bI _ | exact rfl) (by omega) (by omega) ?_
      refine j_bipush (q := 33) dX8_mixAhead_31 rfl rfl ?_
      refine j_callV2 (Mc := iX8_of) (q := 36) (c' := 0) (s' := 0) dX8_mixAhead_33 rfl kV_X8_of jw_1079 ⟨by decide, by decide⟩ sh_197 rfl rfl rfl (Nat.le_refl _) (Nat.le_refl _) (ct_X8_of E (by omega) (by omega)) ?_
      refine j_iconst (q := 37) dX8_mixAhead_36 rfl ?_
      refine j_isub (q := 38) dX8_mixAhead_37 rfl ?_
      refine j_i2l (q := 39) dX8_mixAhead_38 rfl ?_
      refine j_callV1v (Mc := iX8_mix) (q := 42) (c' := 0) (s' := 0) dX8_mixAhead_39 rfl kV_X8_mix jw_1397 ⟨by decide, by decide⟩ sh_197 rfl rfl rfl (Nat.le_refl _) (Nat.le_refl _) (ct_X8_mix E) ?_
      refine j_iinc2 (q := 45) dX8_mixAhead_42 rfl rfl (by decide) ?_
      refine j_goto (tgt := 7) dX8_mixAhead_45 (by decide) ?_
      exact ih _ _ (by omega) (by omega) (fun j a b => by rw [mxM_o (by omega), mxM_o (by omega)]; exact g2 j a b) (fun x hx => kk x (hx.trans (rfl)))
theorem lp_X8_mixAhead_2 {G : GX} (E : EV G) {z : Z} {F : FinT} : ∀ (d : Nat) (k : Int) (m : Mem), k + d = 8 → 0 ≤ k → (∀ (x : Mem), x = dFM (fun _ p => i2 (zWst z p)) d k m → J G SHP iX8_mixAhead 0 0 F 72 [some (.inr (.ref 197)), none, none] [] (sz x z) 0 0) → J G SHP iX8_mixAhead 0 0 F 50 [some (.inr (.ref 197)), none, some (.inl k)] [] (sz m z) 0 0 := by
  intro d
  induction d with
  | zero =>
    intro k m g0 g1 kk
    refine j_iload2 (q := 51) dX8_mixAhead_50 rfl ?_
    refine j_bipush (q := 53) dX8_mixAhead_51 rfl rfl ?_
    refine j_icmp_ge (tgt := 72) (q := 56) dX8_mixAhead_53 (by decide) rfl (by first | exact wr_id' (by omega) (by omega) | with_reducible exact wr_bI _ | exact rfl) (by first | exact wr_id' (by omega) (by omega) | with_reducible exact wr_bI _ | exact rfl) (fun h53 => ?_) (fun h53 => ?_)
    · refine j_fgt2 ?_
      exact kk _ rfl
    · omega
  | succ d ih =>
    intro k m g0 g1 kk
    refine j_iload2 (q := 51) dX8_mixAhead_50 rfl ?_
    refine j_bipush (q := 53) dX8_mixAhead_51 rfl rfl ?_
    refine j_icmp_ge (tgt := 72) (q := 56) dX8_mixAhead_53 (by decide) rfl (by first | exact wr_id' (by omega) (by omega) | with_reducible exact wr_bI _ | exact rfl) (by first | exact wr_id' (by omega) (by omega) | with_reducible exact wr_bI _ | exact rfl) (fun h53 => ?_) (fun h53 => ?_)
    · omega
    · refine j_aload0 (q := 57) dX8_mixAhead_56 rfl ?_
      refine j_aload0 (q := 58) dX8_mixAhead_57 rfl ?_
      refine j_iload2 (q := 59) dX8_mixAhead_58 rfl ?_
      refine j_callV1 (Mc := iX8_weakestAt) (q := 62) (c' := 0) (s' := 0) dX8_mixAhead_59 rfl kV_X8_weakestAt jw_1296 ⟨by decide, by decide⟩ sh_197 rfl rfl rfl (Nat.le_refl _) (Nat.le_refl _) (ct_X8_weakestAt E (by omega)) ?_
      refine j_i2l (q := 63) dX8_mixAhead_62 rfl ?_
      refine j_callV1v (Mc := iX8_mix) (q := 66) (c' := 0) (s' := 0) dX8_mixAhead_63 rfl kV_X8_mix jw_1397 ⟨by decide, by decide⟩ sh_197 rfl rfl rfl (Nat.le_refl _) (Nat.le_refl _) (ct_X8_mix E) ?_
      refine j_iinc2 (q := 69) dX8_mixAhead_66 rfl rfl (by decide) ?_
      refine j_goto (tgt := 50) dX8_mixAhead_69 (by decide) ?_
      exact ih _ _ (by omega) (by omega) (fun x hx => kk x (hx.trans (rfl)))
theorem ct_X8_mixAhead {G : GX} (E : EV G) {m : Mem} {z : Z} {K : Int} (hW : WI z K) : CT G SHP iX8_mixAhead 0 0 [.inr (.ref 197)] (sz m z) none (sz (dAM z m) (dAZ3 z m)) := by
  refine j_met (L0 := [some (.inr (.ref 197)), none, none]) (by decide) E.1 E.2 rfl (Nat.le_of_ble_eq_true rfl) ?_
  refine j_aload0 (q := 1) dX8_mixAhead_0 rfl ?_
  refine j_callV0 (Mc := iX8_layOwed) (q := 4) (c' := 0) (s' := 0) dX8_mixAhead_1 rfl kV_X8_layOwed jw_1180 ⟨by decide, by decide⟩ sh_197 rfl rfl rfl (Nat.le_refl _) (Nat.le_refl _) (ct_X8_layOwed E) ?_
  refine j_istore1 (q := 5) dX8_mixAhead_4 rfl rfl (by decide) ?_
  refine j_iconst (q := 6) dX8_mixAhead_5 rfl ?_
  refine j_istore2 (q := 7) dX8_mixAhead_6 rfl rfl (by decide) ?_
  have hb := zOr_b z (m 205)
  refine lp_X8_mixAhead_1 E ⟨hb.2.1, hb.2.2⟩ (zOrN z (m 205)).toNat 0 (so m (zOrd z (m 205))) (by omega) (by omega) hb.1 ?_
  intro x hx
  subst hx
  refine j_iconst (q := 49) dX8_mixAhead_48 rfl ?_
  refine j_istore2 (q := 50) dX8_mixAhead_49 rfl rfl (by decide) ?_
  refine lp_X8_mixAhead_2 E 8 0 _ (by omega) (by omega) ?_
  intro x hx
  subst hx
  refine j_aload0 (q := 73) dX8_mixAhead_72 rfl ?_
  refine j_aload0 (q := 74) dX8_mixAhead_73 rfl ?_
  refine j_callV0 (Mc := iX8_gentlestNow) (q := 77) (c' := 0) (s' := 0) dX8_mixAhead_74 rfl kV_X8_gentlestNow jw_1352 ⟨by decide, by decide⟩ sh_197 rfl rfl rfl (Nat.le_refl _) (Nat.le_refl _) (ct_X8_gentlestNow E) ?_
  refine j_i2l (q := 78) dX8_mixAhead_77 rfl ?_
  refine j_callV1v (Mc := iX8_mix) (q := 81) (c' := 0) (s' := 0) dX8_mixAhead_78 rfl kV_X8_mix jw_1397 ⟨by decide, by decide⟩ sh_197 rfl rfl rfl (Nat.le_refl _) (Nat.le_refl _) (ct_X8_mix E) ?_
  refine j_mem (m' := sz (dAM1 z m) z) rfl ?_
  refine j_aload0 (q := 82) dX8_mixAhead_81 rfl ?_
  refine j_aload0 (q := 83) dX8_mixAhead_82 rfl ?_
  refine j_iconst (q := 84) dX8_mixAhead_83 rfl ?_
  refine j_callV1 (Mc := iX8_savableNow) (q := 87) (c' := 0) (s' := 0) dX8_mixAhead_84 rfl kV_X8_savableNow jw_1364 ⟨by decide, by decide⟩ sh_197 rfl rfl rfl (Nat.le_refl _) (Nat.le_refl _) (ct_X8_savableNow (K := K) E (by omega) hW) ?_
  refine j_i2l (q := 88) dX8_mixAhead_87 rfl ?_
  refine j_callV1v (Mc := iX8_mix) (q := 91) (c' := 0) (s' := 0) dX8_mixAhead_88 rfl kV_X8_mix jw_1397 ⟨by decide, by decide⟩ sh_197 rfl rfl rfl (Nat.le_refl _) (Nat.le_refl _) (ct_X8_mix E) ?_
  refine j_mem (m' := sz (dAM2 z m) (dAZ2 z m)) rfl ?_
  have w2 : WI (dAZ2 z m) K := WI_sbZ hW
  refine j_aload0 (q := 92) dX8_mixAhead_91 rfl ?_
  refine j_aload0 (q := 93) dX8_mixAhead_92 rfl ?_
  refine j_iconst (q := 94) dX8_mixAhead_93 rfl ?_
  refine j_callV1 (Mc := iX8_savableNow) (q := 97) (c' := 0) (s' := 0) dX8_mixAhead_94 rfl kV_X8_savableNow jw_1364 ⟨by decide, by decide⟩ sh_197 rfl rfl rfl (Nat.le_refl _) (Nat.le_refl _) (ct_X8_savableNow (K := K) E (by omega) w2) ?_
  refine j_i2l (q := 98) dX8_mixAhead_97 rfl ?_
  refine j_callV1v (Mc := iX8_mix) (q := 101) (c' := 0) (s' := 0) dX8_mixAhead_98 rfl kV_X8_mix jw_1397 ⟨by decide, by decide⟩ sh_197 rfl rfl rfl (Nat.le_refl _) (Nat.le_refl _) (ct_X8_mix E) ?_
  refine j_mem (m' := sz (dAM3 z m) (dAZ3 z m)) rfl ?_
  refine j_aload0 (q := 102) dX8_mixAhead_101 rfl ?_
  refine j_aload0 (q := 103) dX8_mixAhead_102 rfl ?_
  refine j_callV0 (Mc := iX8_backNow) (q := 106) (c' := 0) (s' := 0) dX8_mixAhead_103 rfl kV_X8_backNow jw_1388 ⟨by decide, by decide⟩ sh_197 rfl rfl rfl (Nat.le_refl _) (Nat.le_refl _) (ct_X8_backNow E) ?_
  refine j_callS1 (Mc := iJxe99ae_doubleToLongBits_ccdee) (q := 109) (c' := 0) (s' := 0) dX8_mixAhead_106 rfl kS_Jxe99ae_doubleToLongBits_ccdee jw_1410 ⟨by decide, by decide⟩ rfl (Nat.le_refl _) (Nat.le_refl _) (ct_Jxe99ae_doubleToLongBits_ccdee E (zBk_nan _)) ?_
  refine j_callV1v (Mc := iX8_mix) (q := 112) (c' := 0) (s' := 0) dX8_mixAhead_109 rfl kV_X8_mix jw_1397 ⟨by decide, by decide⟩ sh_197 rfl rfl rfl (Nat.le_refl _) (Nat.le_refl _) (ct_X8_mix E) ?_
  exact j_return dX8_mixAhead_112 rfl (rfl)
def th0 (m : Mem) : Mem := up m 197 12 0
def dgM0 (m : Mem) : Mem := up (th0 m) 197 13 2351
def dgM1 (z : Z) (m : Mem) : Mem := dCM z 64 0 (dFM (fun _ k => i2 (z (15 + k))) 8 0 (dFM (fun m k => i2 (zCnt z (m 197 10) k)) 19 0 (dgM0 m)))
def dgM2 (z : Z) (m : Mem) : Mem := dAM z (dPM z (dgM1 z m))
def dgZ (z : Z) (m : Mem) : Z := dAZ3 z (dPM z (dgM1 z m))
def dgM (z : Z) (m : Mem) : Mem := dFM (fun m k => i2 (m 201 k)) (m 197 11).toNat 0 (mxM (dgM2 z m) (i2 (dgM2 z m 197 11)))
theorem so_o {m : Mem} {o : Int → Int} {k : Nat} {j : Int} (h : ¬ k = 205) : so m o k j = m k j := by rw [so_lo h]
theorem kpM_o {m : Mem} {z : Z} {n : Int} {k : Nat} {j : Int} (h : ¬ k = 199) : kpM z m n k j = m k j := if_neg (by omega)
theorem sbM_o {z : Z} {p : Int} {m : Mem} {k : Nat} {j : Int} (h : ¬ (k = 197 ∧ j = 13)) (h1 : ¬ k = 205) (h2 : ¬ k = 199) : sbM z p m k j = m k j := by rw [sbM, mxM_o h, so_o h1, kpM_o h2]
theorem dAM_o {z : Z} {m : Mem} {k : Nat} {j : Int} (h : ¬ (k = 197 ∧ j = 13)) (h1 : ¬ k = 205) (h2 : ¬ k = 199) : dAM z m k j = m k j := by
  rw [dAM, mxM_o h, dAM3, sbM_o h h1 h2, dAM2, sbM_o h h1 h2, dAM1, mxM_o h, dFM_o h, dOM_o h, so_o h1]
theorem dPM_o {z : Z} {m : Mem} {k : Nat} {j : Int} (h : ¬ (k = 197 ∧ j = 13)) : dPM z m k j = m k j := by rw [dPM, dFM_o h, dTM_o h]
theorem dgM2_o {z : Z} {m : Mem} {k : Nat} {j : Int} (h : ¬ (k = 197 ∧ (j = 13 ∨ j = 12))) (h1 : ¬ k = 205) (h2 : ¬ k = 199) : dgM2 z m k j = m k j := by
  rw [dgM2, dAM_o (by omega) h1 h2, dPM_o (by omega), dgM1, dCM_o (by omega), dFM_o (by omega), dFM_o (by omega), dgM0, up_ne (by omega), th0, up_ne (by omega)]
theorem lp_X8_digest_4 {G : GX} (E : EV G) {z : Z} {F : FinT} {l : Int} (hl : 0 ≤ l ∧ l ≤ 60) : ∀ (d : Nat) (k : Int) (m : Mem), k + d = l → 0 ≤ k → m 197 11 = l → (∀ (x : Mem), x = dFM (fun m k => i2 (m 201 k)) d k m → J G SHP iX8_digest 0 0 F 154 [some (.inr (.ref 197)), none, none] [] (sz x z) 0 0) → J G SHP iX8_digest 0 0 F 129 [some (.inr (.ref 197)), some (.inl k), none] [] (sz m z) 0 0 := by
  intro d
  induction d with
  | zero =>
    intro k m g0 g1 g2 kk
    refine j_iload1 (q := 130) dX8_digest_129 rfl ?_
    refine j_aload0 (q := 131) dX8_digest_130 rfl ?_
    refine j_ngetI (by decide) 11 (j' := 11) (q := 134) dX8_digest_131 rfl fl_X8_160 sh_197 rfl rfl ?_
    refine j_icmp_ge (tgt := 154) (q := 137) dX8_digest_134 (by decide) rfl (by first | exact wr_id' (by omega) (by omega) | with_reducible exact wr_bI _ | exact rfl) (by first | exact wr_id' (by omega) (by omega) | with_reducible exact wr_bI _ | exact rfl) (fun h134 => ?_) (fun h134 => ?_)
    · refine j_fgt1 ?_
      exact kk _ rfl
    · omega
  | succ d ih =>
    intro k m g0 g1 g2 kk
    refine j_iload1 (q := 130) dX8_digest_129 rfl ?_
    refine j_aload0 (q := 131) dX8_digest_130 rfl ?_
    refine j_ngetI (by decide) 11 (j' := 11) (q := 134) dX8_digest_131 rfl fl_X8_160 sh_197 rfl rfl ?_
    refine j_icmp_ge (tgt := 154) (q := 137) dX8_digest_134 (by decide) rfl (by first | exact wr_id' (by omega) (by omega) | with_reducible exact wr_bI _ | exact rfl) (by first | exact wr_id' (by omega) (by omega) | with_reducible exact wr_bI _ | exact rfl) (fun h134 => ?_) (fun h134 => ?_)
    · omega
    · refine j_aload0 (q := 138) dX8_digest_137 rfl ?_
      refine j_aload0 (q := 139) dX8_digest_138 rfl ?_
      refine j_getR 3 (q := 142) dX8_digest_139 rfl fl_X8_19 sh_197 rfl ?_
      refine j_iload1 (q := 143) dX8_digest_142 rfl ?_
      refine j_nload (q := 144) (by decide) dX8_digest_143 rfl sh_201 (by first | exact wr_id' (by omega) (by omega) | with_reducible exact wr_bI _ | exact rfl) (by omega) (by omega) ?_
      refine j_i2l (q := 145) dX8_digest_144 rfl ?_
      refine j_callV1v (Mc := iX8_mix) (q := 148) (c' := 0) (s' := 0) dX8_digest_145 rfl kV_X8_mix jw_1397 ⟨by decide, by decide⟩ sh_197 rfl rfl rfl (Nat.le_refl _) (Nat.le_refl _) (ct_X8_mix E) ?_
      refine j_iinc1 (q := 151) dX8_digest_148 rfl rfl (by decide) ?_
      refine j_goto (tgt := 129) dX8_digest_151 (by decide) ?_
      exact ih _ _ (by omega) (by omega) (by rw [mxM_o (by omega)]; exact g2) (fun x hx => kk x (hx.trans (rfl)))
theorem ct_X8_digest {G : GX} (E : EV G) {m : Mem} {z : Z} {K : Int} (hW : WI z K) (hl : 0 ≤ m 197 11 ∧ m 197 11 ≤ 60) : CT G SHP iX8_digest 0 0 [.inr (.ref 197)] (sz m z) (some (.inr (.long (lo (dgM z m 197 13))))) (sz (dgM z m) (dgZ z m)) := by
  refine j_met (L0 := [some (.inr (.ref 197)), none, none]) (by decide) E.1 E.2 rfl (Nat.le_of_ble_eq_true rfl) ?_
  refine j_aload0 (q := 1) dX8_digest_0 rfl ?_
  refine j_iconst (q := 2) dX8_digest_1 rfl ?_
  refine j_nputI (by decide) 12 (j' := 12) (q := 5) dX8_digest_2 rfl fw_X8_38 sh_197 rfl rfl ?_
  refine j_aload0 (q := 6) dX8_digest_5 rfl ?_
  refine j_ldc2 (q := 9) dX8_digest_6 rfl jw_1396 ?_
  refine j_nputL (by decide) 13 (j' := 13) (q := 12) dX8_digest_9 rfl fw_X8_256 sh_197 rfl rfl ?_
  refine j_mem (m' := sz (dgM0 m) z) rfl ?_
  refine j_iconst (q := 13) dX8_digest_12 rfl ?_
  refine j_istore1 (q := 14) dX8_digest_13 rfl rfl (by decide) ?_
  refine lp_X8_digest_1 E 19 0 _ (by omega) (by omega) ?_
  intro x hx
  subst hx
  refine j_iconst (q := 37) dX8_digest_36 rfl ?_
  refine j_istore1 (q := 38) dX8_digest_37 rfl rfl (by decide) ?_
  refine lp_X8_digest_2 E 8 0 _ (by omega) (by omega) ?_
  intro x hx
  subst hx
  refine j_iconst (q := 61) dX8_digest_60 rfl ?_
  refine j_istore1 (q := 62) dX8_digest_61 rfl rfl (by decide) ?_
  refine lp_X8_digest_3 E 64 0 _ (by omega) (by omega) ?_
  intro x hx
  subst hx
  refine j_mem (m' := sz (dgM1 z m) z) rfl ?_
  refine j_aload0 (q := 111) dX8_digest_110 rfl ?_
  refine j_callV0v (Mc := iX8_mixPeople) (q := 114) (c' := 0) (s' := 0) dX8_digest_111 rfl kV_X8_mixPeople jw_1402 ⟨by decide, by decide⟩ sh_197 rfl rfl rfl (Nat.le_refl _) (Nat.le_refl _) (ct_X8_mixPeople E (by assumption)) ?_
  refine j_aload0 (q := 115) dX8_digest_114 rfl ?_
  refine j_callV0v (Mc := iX8_mixAhead) (q := 118) (c' := 0) (s' := 0) dX8_digest_115 rfl kV_X8_mixAhead jw_1406 ⟨by decide, by decide⟩ sh_197 rfl rfl rfl (Nat.le_refl _) (Nat.le_refl _) (ct_X8_mixAhead E (by assumption)) ?_
  refine j_mem (m' := sz (dgM2 z m) (dgZ z m)) rfl ?_
  have e11 : dgM2 z m 197 11 = m 197 11 := dgM2_o (by omega) (by omega) (by omega)
  refine j_aload0 (q := 119) dX8_digest_118 rfl ?_
  refine j_aload0 (q := 120) dX8_digest_119 rfl ?_
  refine j_ngetI (by decide) 11 (j' := 11) (q := 123) dX8_digest_120 rfl fl_X8_160 sh_197 rfl rfl ?_
  refine j_i2l (q := 124) dX8_digest_123 rfl ?_
  refine j_callV1v (Mc := iX8_mix) (q := 127) (c' := 0) (s' := 0) dX8_digest_124 rfl kV_X8_mix jw_1397 ⟨by decide, by decide⟩ sh_197 rfl rfl rfl (Nat.le_refl _) (Nat.le_refl _) (ct_X8_mix E) ?_
  refine j_iconst (q := 128) dX8_digest_127 rfl ?_
  refine j_istore1 (q := 129) dX8_digest_128 rfl rfl (by decide) ?_
  refine lp_X8_digest_4 E hl (m 197 11).toNat 0 _ (by omega) (by omega) (by rw [mxM_o (by omega)]; exact e11) ?_
  intro x hx
  refine j_aload0 (q := 155) dX8_digest_154 rfl ?_
  refine j_ngetL (by decide) 13 (j' := 13) (q := 158) dX8_digest_155 rfl fl_X8_256 sh_197 rfl rfl ?_
  exact j_lreturn dX8_digest_158 rfl (by rw [hx]; rfl) (by rw [hx]; rfl)

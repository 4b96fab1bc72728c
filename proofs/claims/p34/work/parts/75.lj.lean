/-! the law: told -/
def NI (z : Z) : Prop := (0 ≤ z 2 ∧ z 2 ≤ 3) ∧ 0 ≤ z 3 ∧ z 3 ≤ 2
def lLsd (z : Z) (k : Int) : Bool := decide (0 ≤ z (59 + 9 * cr k + 2) - 1)
def lIns (z : Z) (k : Int) : Bool := decide (0 ≤ z (59 + 9 * cr k + 4) - 1)
def lOne (z : Z) (k : Int) : Bool := decide (z (59 + 9 * cr k + 0) = 1)
def lOwd (z : Z) (k : Int) : Bool := decide (0 ≤ z (59 + 9 * cr k + 6) - 1)
def lOwn (z : Z) (t k : Int) : Bool := decide (z (59 + 9 * cr k + 2) - 1 = t)
def lWit (z : Z) (t k : Int) : Bool := decide (z (59 + 9 * cr k + 2) - 1 = t ∧ 0 ≤ z (59 + 9 * cr k + 4) - 1)
def lPol (z : Z) (i k : Int) : Bool := decide (z (59 + 9 * cr k + 4) - 1 = i)
def lMo (z : Z) (t k b : Int) : Int := if 0 ≤ z (59 + 9 * cr k + 2) - 1 ∧ ¬ 0 ≤ z (59 + 9 * cr k + 6) - 1 ∧ b < zDis z (cr k) (t + 2) then zDis z (cr k) (t + 2) else b
theorem lMo_t {z : Z} {t k b : Int} (h : 0 ≤ z (59 + 9 * cr k + 2) - 1 ∧ ¬ 0 ≤ z (59 + 9 * cr k + 6) - 1 ∧ b < zDis z (cr k) (t + 2)) : lMo z t k b = zDis z (cr k) (t + 2) := by unfold lMo; rw [if_pos h]
theorem lMo_f {z : Z} {t k b : Int} (h : ¬ (0 ≤ z (59 + 9 * cr k + 2) - 1 ∧ ¬ 0 ≤ z (59 + 9 * cr k + 6) - 1 ∧ b < zDis z (cr k) (t + 2))) : lMo z t k b = b := by unfold lMo; rw [if_neg h]
theorem one_s {z : Z} {d : Nat} {k n : Int} (hb : z (59 + 9 * cr k + 0) = 0 ∨ z (59 + 9 * cr k + 0) = 1) : cntF (lOne z) d (k + 1) (n + z (59 + 9 * cr k + 0)) = cntF (lOne z) (d + 1) k n := by
  rcases hb with q | q
  · have e : lOne z k = false := by unfold lOne; exact decide_eq_false (by omega)
    rw [cntF, e, q]; rfl
  · have e : lOne z k = true := by unfold lOne; exact decide_eq_true (by omega)
    rw [cntF, e, q]; rfl
section
variable {z : Z} {T B : Int}
theorem cnt_cr {p : Int → Bool} {q : Int → Bool} (h : ∀ c, 0 ≤ c → c < 64 → ¬ pl c → p c = false) (e : ∀ k, 0 ≤ k → k < 16 → p (cr k) = q k) : cntF p 64 0 0 = cntF q 16 0 0 := by
  rw [cnt16 h]
  exact cnt_cg 16 0 0 (fun k a b => (e k a (by omega)).symm) |>.symm
theorem v_cnt4 (hX : LX z) {s : Int} : zCnt z s 4 = cntF (lLsd z) 16 0 0 := by
  have e : zCnt z s 4 = zCW z 2 := by unfold zCnt; rw [if_pos rfl]
  rw [e]
  unfold zCW
  refine cnt_cr (fun c a b np => ?_) (fun k a b => ?_)
  · rw [((hX.2.2 c a b).2.1 np).2.1]; rfl
  · have hc := cr_b ⟨a, b⟩
    have g := (hX.2.2 (cr k) hc.1 hc.2).2.2.1
    unfold lLsd
    rw [wr_id' (by omega) (by omega)]
    exact decide_eq_decide.mpr (by omega)
theorem v_cnt5 (hX : LX z) {s : Int} : zCnt z s 5 = cntF (lIns z) 16 0 0 := by
  have e : zCnt z s 5 = zCW z 4 := by unfold zCnt; rw [if_neg (by decide), if_pos rfl]
  rw [e]
  unfold zCW
  refine cnt_cr (fun c a b np => ?_) (fun k a b => ?_)
  · rw [((hX.2.2 c a b).2.1 np).2.2.1]; rfl
  · have hc := cr_b ⟨a, b⟩
    have g := (hX.2.2 (cr k) hc.1 hc.2).2.2.2.1
    unfold lIns
    rw [wr_id' (by omega) (by omega)]
    exact decide_eq_decide.mpr (by omega)
theorem v_cnt7 (hX : LX z) {s : Int} : zCnt z s 7 = cntF (lOne z) 16 0 0 := by
  have e : zCnt z s 7 = zCW z 0 := by unfold zCnt; rw [if_neg (by decide), if_neg (by decide), if_neg (by decide), if_pos rfl]
  rw [e]
  unfold zCW
  refine cnt_cr (fun c a b np => ?_) (fun k a b => ?_)
  · rw [Int.add_zero, ((hX.2.2 c a b).2.1 np).1]; rfl
  · have hc := cr_b ⟨a, b⟩
    have g := (hX.2.2 (cr k) hc.1 hc.2).1
    rw [← Int.add_zero (59 + 9 * cr k)] at g
    unfold lOne
    rw [wr_id' (by omega) (by omega)]
    exact decide_eq_decide.mpr (by omega)
theorem v_cnt6 (hX : LX z) (hI : IZ z T B) {s : Int} : zCnt z s 6 = cntF (lOwd z) 16 0 0 := by
  have e : zCnt z s 6 = zOwN z := by unfold zCnt; rw [if_neg (by decide), if_neg (by decide), if_pos rfl]
  rw [e]
  unfold zOwN
  refine cnt_cr (fun c a b np => ?_) (fun k a b => ?_)
  · unfold zOw
    rw [((hX.2.2 c a b).2.1 np).2.2.2]; rfl
  · have hc := cr_b ⟨a, b⟩
    have g := hI.du (cr k) hc.1 hc.2
    have t := hI.tT
    unfold lOwd zOw
    rw [wr_id' (by omega) (by omega)]
    exact decide_eq_decide.mpr (by omega)
theorem v_cntl {s w : Int} (h : 0 ≤ w ∧ w < 4) : zCnt z s w = z w := by
  unfold zCnt
  rw [if_neg (by omega), if_neg (by omega), if_neg (by omega), if_neg (by omega), if_neg (by omega), if_pos h.2]
theorem v_cnth {s w : Int} (h : 8 ≤ w ∧ w < 18) : zCnt z s w = z (w - 4) := by
  unfold zCnt
  rw [if_neg (by omega), if_neg (by omega), if_neg (by omega), if_neg (by omega), if_neg (by omega), if_neg (by omega)]
theorem v_ten0 {t : Int} : zTN z t 0 = z (23 + 3 * t) := by unfold zTN; rw [if_pos rfl, Int.add_zero]
theorem v_ten3 {t : Int} : zTN z t 3 = z (23 + 3 * t + 1) := by unfold zTN; rw [if_neg (by decide), if_neg (by decide), if_neg (by decide), if_pos rfl]
theorem v_ten4 {t : Int} : zTN z t 4 = z (23 + 3 * t + 2) := by unfold zTN; rw [if_neg (by decide), if_neg (by decide), if_neg (by decide), if_neg (by decide), if_pos rfl]
theorem v_ten5 {t : Int} : zTN z t 5 = zWq z t := by unfold zTN; rw [if_neg (by decide), if_neg (by decide), if_neg (by decide), if_neg (by decide), if_neg (by decide)]
theorem v_ten1 (hX : LX z) {t : Int} (ht : 0 ≤ t := by omega) : zTN z t 1 = cntF (lOwn z t) 16 0 0 := by
  have e : zTN z t 1 = zCof z t false := by unfold zTN; rw [if_neg (by decide), if_pos rfl]
  rw [e]
  unfold zCof
  refine cnt_cr (fun c a b np => ?_) (fun k a b => ?_)
  · rw [((hX.2.2 c a b).2.1 np).2.1, decide_eq_false (by show ¬ (0 : Int) = t + 1; omega), Bool.false_and]
  · have hc := cr_b ⟨a, b⟩
    have g := (hX.2.2 (cr k) hc.1 hc.2).2.2.1
    unfold lOwn
    rw [wr_id' (by omega) (by omega), Bool.not_false, Bool.true_or, Bool.and_true]
    exact decide_eq_decide.mpr (by omega)
theorem v_ten2 (hX : LX z) {t : Int} (ht : 0 ≤ t := by omega) : zTN z t 2 = cntF (lWit z t) 16 0 0 := by
  have e : zTN z t 2 = zCof z t true := by unfold zTN; rw [if_neg (by decide), if_neg (by decide), if_pos rfl]
  rw [e]
  unfold zCof
  refine cnt_cr (fun c a b np => ?_) (fun k a b => ?_)
  · rw [((hX.2.2 c a b).2.1 np).2.1, decide_eq_false (by show ¬ (0 : Int) = t + 1; omega), Bool.false_and]
  · have hc := cr_b ⟨a, b⟩
    have g := hX.2.2 (cr k) hc.1 hc.2
    unfold lWit
    rw [wr_id' (x := z (59 + 9 * cr k + 2)) (by omega) (by omega), wr_id' (x := z (59 + 9 * cr k + 4)) (by omega) (by omega), Bool.not_true, Bool.false_or, ← Bool.decide_and]
    exact decide_eq_decide.mpr (by omega)
theorem v_ins3 (hX : LX z) {i : Int} (hi : 0 ≤ i ∧ i < 2) : zIN z i 3 = cntF (lPol z i) 16 0 0 := by
  have e : zIN z i 3 = zPol z i := by unfold zIN; rw [if_neg (by decide), if_pos rfl]
  rw [e]
  unfold zPol
  refine cnt_cr (fun c a b np => ?_) (fun k a b => ?_)
  · rw [((hX.2.2 c a b).2.1 np).2.2.1, decide_eq_false (by show ¬ (0 : Int) = i + 1; omega)]
  · have hc := cr_b ⟨a, b⟩
    have g := (hX.2.2 (cr k) hc.1 hc.2).2.2.2.1
    unfold lPol
    rw [wr_id' (by omega) (by omega)]
    exact decide_eq_decide.mpr (by omega)
theorem v_insl {i w : Int} (h : 0 ≤ w ∧ w < 3) : zIN z i w = z (41 + 6 * i + w) := by unfold zIN; rw [if_pos (by omega)]
theorem v_ins4 {i : Int} : zIN z i 4 = z (41 + 6 * i + 3) := by unfold zIN; rw [if_neg (by decide), if_neg (by decide), if_pos rfl]
theorem v_ins5 {i : Int} : zIN z i 5 = z (41 + 6 * i + 5) := by unfold zIN; rw [if_neg (by decide), if_neg (by decide), if_neg (by decide), if_pos rfl]
theorem v_ins6 {i : Int} : zIN z i 6 = z (41 + 6 * i + 4) := by unfold zIN; rw [if_neg (by decide), if_neg (by decide), if_neg (by decide), if_neg (by decide)]
theorem zRkF_it {t : Int} : ∀ (d : Nat) (c b : Int), zRkF z t d c b = itF (fun c b => if wr b < wr (if zCR z c then zDis z c (t + 2) else 0) then (if zCR z c then zDis z c (t + 2) else 0) else b) d c b := by
  intro d
  induction d with
  | zero => intro c b; rfl
  | succ d ih => intro c b; rw [zRkF, itF, ih]
theorem v_risk (hX : LX z) (hI : IZ z T B) {t : Int} (ht : 0 ≤ t ∧ t < 6) : zRk z t = itF (lMo z t) 16 0 0 := by
  have bd : ∀ c, 0 ≤ zDis z c (t + 2) ∧ zDis z c (t + 2) ≤ 64 := fun c => zDis_b z c _
  unfold zRk
  rw [zRkF_it, it16 (fun b => 0 ≤ b ∧ b ≤ 64) (fun c b h1 h2 hb => ?_) (fun c b h1 h2 np hb => ?_) ⟨by omega, by omega⟩]
  · have key : ∀ (d : Nat) (k b : Int), k + d = 16 → 0 ≤ k → 0 ≤ b ∧ b ≤ 64 → itF (fun k b => if wr b < wr (if zCR z (cr k) then zDis z (cr k) (t + 2) else 0) then (if zCR z (cr k) then zDis z (cr k) (t + 2) else 0) else b) d k b = itF (lMo z t) d k b := by
      intro d
      induction d with
      | zero => intro k b _ _ _; rfl
      | succ d ih =>
        intro k b h1 h2 hb
        have hc := cr_b (k := k) ⟨h2, by omega⟩
        have ec := zCR_e hc hX hI
        have bk := bd (cr k)
        have e : (if wr b < wr (if zCR z (cr k) then zDis z (cr k) (t + 2) else 0) then (if zCR z (cr k) then zDis z (cr k) (t + 2) else 0) else b) = lMo z t k b := by
          unfold lMo
          by_cases q : zCR z (cr k) = true
          · rw [if_pos q, wr_id' (x := b) (by omega) (by omega), wr_id' (x := zDis z (cr k) (t + 2)) (by omega) (by omega)]
            have w := ec.mp q
            by_cases r : b < zDis z (cr k) (t + 2)
            · rw [if_pos r, if_pos ⟨w.1, w.2, r⟩]
            · rw [if_neg r, if_neg (fun u => r u.2.2)]
          · rw [if_neg q, wr_id' (x := b) (by omega) (by omega), if_neg (by show ¬ b < 0; omega), if_neg (fun u => q (ec.mpr ⟨u.1, u.2.1⟩))]
        rw [itF, itF, e]
        have b2 : 0 ≤ lMo z t k b ∧ lMo z t k b ≤ 64 := by unfold lMo; split <;> omega
        exact ih _ _ (by omega) (by omega) b2
    exact key 16 0 0 (by omega) (by omega) ⟨by omega, by omega⟩
  · have bk := bd c
    show 0 ≤ (if wr b < wr (if zCR z c then zDis z c (t + 2) else 0) then (if zCR z c then zDis z c (t + 2) else 0) else b) ∧ (if wr b < wr (if zCR z c then zDis z c (t + 2) else 0) then (if zCR z c then zDis z c (t + 2) else 0) else b) ≤ 64
    have hv : 0 ≤ (if zCR z c then zDis z c (t + 2) else 0) ∧ (if zCR z c then zDis z c (t + 2) else 0) ≤ 64 := by split <;> omega
    generalize (if zCR z c then zDis z c (t + 2) else 0) = v at *
    split <;> omega
  · have e2 := ((hX.2.2 c h1 h2).2.1 np).2.1
    have ec := zCR_e ⟨h1, h2⟩ hX hI
    have q : ¬ zCR z c = true := fun w => by have := (ec.mp w).1; omega
    show (if wr b < wr (if zCR z c then zDis z c (t + 2) else 0) then (if zCR z c then zDis z c (t + 2) else 0) else b) = b
    rw [if_neg q, wr_id' (x := b) (by omega) (by omega), if_neg (by show ¬ b < 0; omega)]
theorem v_owd0 (hX : LX z) (hI : IZ z T B) {k : Int} (hk : 0 ≤ k) : zOwd z (fun _ => 0) k 0 = if lOw z k < 0 then -1 else cr (lOw z k) := by
  have g := lOw_g hX hI hk
  have n := zOrN_n z (fun _ => 0)
  unfold zOwd
  by_cases q : k < zOwN z
  · rw [if_neg (by omega), if_pos rfl, if_neg (by have := g.mpr q; omega), (lOw_s (fun _ => 0) hX hI ⟨hk, q⟩).2]
  · rw [if_pos (by omega), if_pos (Decidable.not_not.mp (fun w => q (g.mp (by omega))))]
theorem v_owd1 (hX : LX z) (hI : IZ z T B) {k : Int} (hk : 0 ≤ k) : zOwd z (fun _ => 0) k 1 = if lOw z k < 0 then -1 else z (59 + 9 * cr (lOw z k) + 6) - 1 := by
  have g := lOw_g hX hI hk
  have n := zOrN_n z (fun _ => 0)
  unfold zOwd
  by_cases q : k < zOwN z
  · rw [if_neg (by omega), if_neg (by decide), if_neg (by have := g.mpr q; omega), (lOw_s (fun _ => 0) hX hI ⟨hk, q⟩).2]
  · rw [if_pos (by omega), if_pos (Decidable.not_not.mp (fun w => q (g.mp (by omega))))]
end
theorem i2d_nn (a : Int32) : Jvm.FP.Core.dIsNaN (FP.i2d a) = false := (Jvm.FP.Core.notNaN_iff _).mpr (Jvm.FP.Core.i2d_fin a).ne_nan
theorem d_one (a : Int32) : FP.dmul FP.dconst1 (FP.i2d a) = FP.i2d a := Jvm.FP.Core.one_dmul (i2d_nn a)
theorem dC_self {x : UInt64} (h : Jvm.FP.Core.dIsNaN x = false) : wr (dC (FP.dcmp x x) .l) = 0 := by
  have e : FP.dcmp x x = some .eq := Jvm.FP.Core.dcmp_self ((Jvm.FP.Core.notNaN_iff _).mp h)
  rw [e]
  decide +kernel
theorem bk_d {z : Z} (h : ¬ wr (z 5) = 0) : zBk z = FP.ddiv (FP.i2d (jI (z 6))) (FP.i2d (jI (z 5))) := by unfold zBk; rw [if_neg h]
theorem bk_0 {z : Z} (h : wr (z 5) = 0) : zBk z = FP.dconst0 := by unfold zBk; rw [if_pos h]
theorem lp_L_told_1 {G : GX} {sh : List SH} {p : Bool} (V : EV G sh) (E : EW G sh) (hs : LA sh p) {m P : Mem} {z : Z} {T B K : Int} {F : FinT} {x : Int} (Q : QP (lz m p z) P z T B K) : ∀ (d : Nat) (k : Int) (u : Int) (v : Int) (w : Int) (y : Int), k + d = 16 → 0 ≤ k → (∀ (x1 : Int) (x2 : Int) (x3 : Int) (x4 : Int), x1 = cntF (lLsd z) d k u → x2 = cntF (lIns z) d k v → x3 = cntF (lOne z) d k w → x4 = cntF (lOwd z) d k y → J G sh iL_told 0 0 F 118 [some (.inr (.ref 0)), some (.inl x), some (.inr (.ref (ix p 0))), some (.inr (.ref (ix p 1))), some (.inr (.ref (ix p 2))), some (.inr (.ref (ix p 3))), some (.inr (.ref (ix p 4))), some (.inr (.ref (ix p 5))), some (.inr (.ref (ix p 7))), some (.inr (.ref (ix p 6))), some (.inl x1), some (.inl x2), some (.inl x3), some (.inl x4), none, none, none, none, none, none, none] [] (lz m p z) 0 0) → J G sh iL_told 0 0 F 33 [some (.inr (.ref 0)), some (.inl x), some (.inr (.ref (ix p 0))), some (.inr (.ref (ix p 1))), some (.inr (.ref (ix p 2))), some (.inr (.ref (ix p 3))), some (.inr (.ref (ix p 4))), some (.inr (.ref (ix p 5))), some (.inr (.ref (ix p 7))), some (.inr (.ref (ix p 6))), some (.inl u), some (.inl v), some (.inl w), some (.inl y), some (.inl k), none, none, none, none, none, none] [] (lz m p z) 0 0 := by
  intro d
  induction d with
  | zero =>
    intro k u v w y g0 g1 kk
    have hX := Q.2.2.2.1
    have hI := Q.2.1.2.2.2.2.2
    refine j_iload14 (q := 35) dL_told_33 rfl ?_
    refine j_bipush (q := 37) dL_told_35 rfl rfl ?_
    refine j_icmp_ge (tgt := 118) (q := 40) dL_told_37 (by decide) rfl (by first | exact wr_id' (by omega) (by omega) | with_reducible exact wr_bI _ | exact rfl) (by first | exact wr_id' (by omega) (by omega) | with_reducible exact wr_bI _ | exact rfl) (fun h37 => ?_) (fun h37 => ?_)
    · refine j_fgt14 ?_
      exact kk _ _ _ _ rfl rfl rfl rfl
    · omega
  | succ d ih =>
    intro k u v w y g0 g1 kk
    have hX := Q.2.2.2.1
    have hI := Q.2.1.2.2.2.2.2
    refine j_iload14 (q := 35) dL_told_33 rfl ?_
    refine j_bipush (q := 37) dL_told_35 rfl rfl ?_
    refine j_icmp_ge (tgt := 118) (q := 40) dL_told_37 (by decide) rfl (by first | exact wr_id' (by omega) (by omega) | with_reducible exact wr_bI _ | exact rfl) (by first | exact wr_id' (by omega) (by omega) | with_reducible exact wr_bI _ | exact rfl) (fun h37 => ?_) (fun h37 => ?_)
    · omega
    · have hc := cr_b (k := k) ⟨by omega, by omega⟩
      have hb := hX.2.2 (cr k) hc.1 hc.2
      have hb0 := hb.1
      rw [← Int.add_zero (59 + 9 * cr k)] at hb0
      have hu := hI.du (cr k) hc.1 hc.2
      have hT := hI.tT
      refine j_iload10 (q := 42) dL_told_40 rfl ?_
      refine j_aload2 (q := 43) dL_told_42 rfl ?_
      refine j_iconst (q := 44) dL_told_43 rfl ?_
      refine j_iload14 (q := 46) dL_told_44 rfl ?_
      refine j_imul (q := 47) dL_told_46 rfl ?_
      refine j_iconst (q := 48) dL_told_47 rfl ?_
      refine j_iadd (q := 49) dL_told_48 rfl ?_
      refine j_l0_2 (q := 50) dL_told_49 rfl hs (by omega) ?_
      refine j_if_ge (tgt := 57) (q := 53) dL_told_50 (by decide) rfl (by first | exact wr_id' (by omega) (by omega) | with_reducible exact wr_bI _ | exact rfl) (fun h50 => ?_) (fun h50 => ?_)
      · refine j_iconst (q := 58) dL_told_57 rfl ?_
        refine j_iadd (q := 59) dL_told_58 rfl ?_
        refine j_istore10 (q := 61) dL_told_59 rfl rfl (by decide) ?_
        refine j_iload11 (q := 63) dL_told_61 rfl ?_
        refine j_aload3 (q := 64) dL_told_63 rfl ?_
        refine j_iconst (q := 65) dL_told_64 rfl ?_
        refine j_iload14 (q := 67) dL_told_65 rfl ?_
        refine j_imul (q := 68) dL_told_67 rfl ?_
        refine j_l1_0 (q := 69) dL_told_68 rfl hs (by omega) ?_
        refine j_if_ge (tgt := 76) (q := 72) dL_told_69 (by decide) rfl (by first | exact wr_id' (by omega) (by omega) | with_reducible exact wr_bI _ | exact rfl) (fun h69 => ?_) (fun h69 => ?_)
        · refine j_iconst (q := 77) dL_told_76 rfl ?_
          refine j_iadd (q := 78) dL_told_77 rfl ?_
          refine j_istore11 (q := 80) dL_told_78 rfl rfl (by decide) ?_
          refine j_iload12 (q := 82) dL_told_80 rfl ?_
          refine j_aload2 (q := 83) dL_told_82 rfl ?_
          refine j_iconst (q := 84) dL_told_83 rfl ?_
          refine j_iload14 (q := 86) dL_told_84 rfl ?_
          refine j_imul (q := 87) dL_told_86 rfl ?_
          refine j_l0_0 (q := 88) dL_told_87 rfl hs (by omega) ?_
          refine j_iadd (q := 89) dL_told_88 rfl ?_
          refine j_istore12 (q := 91) dL_told_89 rfl rfl (by decide) ?_
          refine j_iload13 (q := 93) dL_told_91 rfl ?_
          refine j_aload3 (q := 94) dL_told_93 rfl ?_
          refine j_iconst (q := 95) dL_told_94 rfl ?_
          refine j_iload14 (q := 97) dL_told_95 rfl ?_
          refine j_imul (q := 98) dL_told_97 rfl ?_
          refine j_iconst (q := 99) dL_told_98 rfl ?_
          refine j_iadd (q := 100) dL_told_99 rfl ?_
          refine j_l1_2 (q := 101) dL_told_100 rfl hs (by omega) ?_
          refine j_if_ge (tgt := 108) (q := 104) dL_told_101 (by decide) rfl (by first | exact wr_id' (by omega) (by omega) | with_reducible exact wr_bI _ | exact rfl) (fun h101 => ?_) (fun h101 => ?_)
          · refine j_iconst (q := 109) dL_told_108 rfl ?_
            refine j_iadd (q := 110) dL_told_109 rfl ?_
            refine j_istore13 (q := 112) dL_told_110 rfl rfl (by decide) ?_
            refine j_iinc14 (q := 115) dL_told_112 rfl rfl (by decide) ?_
            refine j_goto (tgt := 33) dL_told_115 (by decide) ?_
            exact ih _ _ _ _ _ (by omega) (by omega) (fun x1 x2 x3 x4 hx1 hx2 hx3 hx4 => kk x1 x2 x3 x4 (hx1.trans (by first | exact (cnt_t (by unfold lLsd; first | exact decide_eq_true (by omega) | exact decide_eq_false (by omega))) | exact (cnt_f (by unfold lLsd; first | exact decide_eq_true (by omega) | exact decide_eq_false (by omega))))) (hx2.trans (by first | exact (cnt_t (by unfold lIns; first | exact decide_eq_true (by omega) | exact decide_eq_false (by omega))) | exact (cnt_f (by unfold lIns; first | exact decide_eq_true (by omega) | exact decide_eq_false (by omega))))) (hx3.trans (one_s hb0)) (hx4.trans (by first | exact (cnt_t (by unfold lOwd; first | exact decide_eq_true (by omega) | exact decide_eq_false (by omega))) | exact (cnt_f (by unfold lOwd; first | exact decide_eq_true (by omega) | exact decide_eq_false (by omega))))))
          · refine j_iconst (q := 105) dL_told_104 rfl ?_
            refine j_goto (tgt := 109) dL_told_105 (by decide) ?_
            refine j_iadd (q := 110) dL_told_109 rfl ?_
            refine j_istore13 (q := 112) dL_told_110 rfl rfl (by decide) ?_
            refine j_iinc14 (q := 115) dL_told_112 rfl rfl (by decide) ?_
            refine j_goto (tgt := 33) dL_told_115 (by decide) ?_
            exact ih _ _ _ _ _ (by omega) (by omega) (fun x1 x2 x3 x4 hx1 hx2 hx3 hx4 => kk x1 x2 x3 x4 (hx1.trans (by first | exact (cnt_t (by unfold lLsd; first | exact decide_eq_true (by omega) | exact decide_eq_false (by omega))) | exact (cnt_f (by unfold lLsd; first | exact decide_eq_true (by omega) | exact decide_eq_false (by omega))))) (hx2.trans (by first | exact (cnt_t (by unfold lIns; first | exact decide_eq_true (by omega) | exact decide_eq_false (by omega))) | exact (cnt_f (by unfold lIns; first | exact decide_eq_true (by omega) | exact decide_eq_false (by omega))))) (hx3.trans (one_s hb0)) (hx4.trans (by first | exact (cnt_t (by unfold lOwd; first | exact decide_eq_true (by omega) | exact decide_eq_false (by omega))) | exact (cnt_f (by unfold lOwd; first | exact decide_eq_true (by omega) | exact decide_eq_false (by omega))))))
        · refine j_iconst (q := 73) dL_told_72 rfl ?_
          refine j_goto (tgt := 77) dL_told_73 (by decide) ?_
          refine j_iadd (q := 78) dL_told_77 rfl ?_
          refine j_istore11 (q := 80) dL_told_78 rfl rfl (by decide) ?_
          refine j_iload12 (q := 82) dL_told_80 rfl ?_
          refine j_aload2 (q := 83) dL_told_82 rfl ?_
          refine j_iconst (q := 84) dL_told_83 rfl ?_
          refine j_iload14 (q := 86) dL_told_84 rfl ?_
          refine j_imul (q := 87) dL_told_86 rfl ?_
          refine j_l0_0 (q := 88) dL_told_87 rfl hs (by omega) ?_
          refine j_iadd (q := 89) dL_told_88 rfl ?_
          refine j_istore12 (q := 91) dL_told_89 rfl rfl (by decide) ?_
          refine j_iload13 (q := 93) dL_told_91 rfl ?_
          refine j_aload3 (q := 94) dL_told_93 rfl ?_
          refine j_iconst (q := 95) dL_told_94 rfl ?_
          refine j_iload14 (q := 97) dL_told_95 rfl ?_
          refine j_imul (q := 98) dL_told_97 rfl ?_
          refine j_iconst (q := 99) dL_told_98 rfl ?_
          refine j_iadd (q := 100) dL_told_99 rfl ?_
          refine j_l1_2 (q := 101) dL_told_100 rfl hs (by omega) ?_
          refine j_if_ge (tgt := 108) (q := 104) dL_told_101 (by decide) rfl (by first | exact wr_id' (by omega) (by omega) | with_reducible exact wr_bI _ | exact rfl) (fun h101 => ?_) (fun h101 => ?_)
          · refine j_iconst (q := 109) dL_told_108 rfl ?_
            refine j_iadd (q := 110) dL_told_109 rfl ?_
            refine j_istore13 (q := 112) dL_told_110 rfl rfl (by decide) ?_
            refine j_iinc14 (q := 115) dL_told_112 rfl rfl (by decide) ?_
            refine j_goto (tgt := 33) dL_told_115 (by decide) ?_
            exact ih _ _ _ _ _ (by omega) (by omega) (fun x1 x2 x3 x4 hx1 hx2 hx3 hx4 => kk x1 x2 x3 x4 (hx1.trans (by first | exact (cnt_t (by unfold lLsd; first | exact decide_eq_true (by omega) | exact decide_eq_false (by omega))) | exact (cnt_f (by unfold lLsd; first | exact decide_eq_true (by omega) | exact decide_eq_false (by omega))))) (hx2.trans (by first | exact (cnt_t (by unfold lIns; first | exact decide_eq_true (by omega) | exact decide_eq_false (by omega))) | exact (cnt_f (by unfold lIns; first | exact decide_eq_true (by omega) | exact decide_eq_false (by omega))))) (hx3.trans (one_s hb0)) (hx4.trans (by first | exact (cnt_t (by unfold lOwd; first | exact decide_eq_true (by omega) | exact decide_eq_false (by omega))) | exact (cnt_f (by unfold lOwd; first | exact decide_eq_true (by omega) | exact decide_eq_false (by omega))))))
          · refine j_iconst (q := 105) dL_told_104 rfl ?_
            refine j_goto (tgt := 109) dL_told_105 (by decide) ?_
            refine j_iadd (q := 110) dL_told_109 rfl ?_
            refine j_istore13 (q := 112) dL_told_110 rfl rfl (by decide) ?_
            refine j_iinc14 (q := 115) dL_told_112 rfl rfl (by decide) ?_
            refine j_goto (tgt := 33) dL_told_115 (by decide) ?_
            exact ih _ _ _ _ _ (by omega) (by omega) (fun x1 x2 x3 x4 hx1 hx2 hx3 hx4 => kk x1 x2 x3 x4 (hx1.trans (by first | exact (cnt_t (by unfold lLsd; first | exact decide_eq_true (by omega) | exact decide_eq_false (by omega))) | exact (cnt_f (by unfold lLsd; first | exact decide_eq_true (by omega) | exact decide_eq_false (by omega))))) (hx2.trans (by first | exact (cnt_t (by unfold lIns; first | exact decide_eq_true (by omega) | exact decide_eq_false (by omega))) | exact (cnt_f (by unfold lIns; first | exact decide_eq_true (by omega) | exact decide_eq_false (by omega))))) (hx3.trans (one_s hb0)) (hx4.trans (by first | exact (cnt_t (by unfold lOwd; first | exact decide_eq_true (by omega) | exact decide_eq_false (by omega))) | exact (cnt_f (by unfold lOwd; first | exact decide_eq_true (by omega) | exact decide_eq_false (by omega))))))
      · refine j_iconst (q := 54) dL_told_53 rfl ?_
        refine j_goto (tgt := 58) dL_told_54 (by decide) ?_
        refine j_iadd (q := 59) dL_told_58 rfl ?_
        refine j_istore10 (q := 61) dL_told_59 rfl rfl (by decide) ?_
        refine j_iload11 (q := 63) dL_told_61 rfl ?_
        refine j_aload3 (q := 64) dL_told_63 rfl ?_
        refine j_iconst (q := 65) dL_told_64 rfl ?_
        refine j_iload14 (q := 67) dL_told_65 rfl ?_
        refine j_imul (q := 68) dL_told_67 rfl ?_
        refine j_l1_0 (q := 69) dL_told_68 rfl hs (by omega) ?_
        refine j_if_ge (tgt := 76) (q := 72) dL_told_69 (by decide) rfl (by first | exact wr_id' (by omega) (by omega) | with_reducible exact wr_bI _ | exact rfl) (fun h69 => ?_) (fun h69 => ?_)
        · refine j_iconst (q := 77) dL_told_76 rfl ?_
          refine j_iadd (q := 78) dL_told_77 rfl ?_
          refine j_istore11 (q := 80) dL_told_78 rfl rfl (by decide) ?_
          refine j_iload12 (q := 82) dL_told_80 rfl ?_
          refine j_aload2 (q := 83) dL_told_82 rfl ?_
          refine j_iconst (q := 84) dL_told_83 rfl ?_
          refine j_iload14 (q := 86) dL_told_84 rfl ?_
          refine j_imul (q := 87) dL_told_86 rfl ?_
          refine j_l0_0 (q := 88) dL_told_87 rfl hs (by omega) ?_
          refine j_iadd (q := 89) dL_told_88 rfl ?_
          refine j_istore12 (q := 91) dL_told_89 rfl rfl (by decide) ?_
          refine j_iload13 (q := 93) dL_told_91 rfl ?_
          refine j_aload3 (q := 94) dL_told_93 rfl ?_
          refine j_iconst (q := 95) dL_told_94 rfl ?_
          refine j_iload14 (q := 97) dL_told_95 rfl ?_
          refine j_imul (q := 98) dL_told_97 rfl ?_
          refine j_iconst (q := 99) dL_told_98 rfl ?_
          refine j_iadd (q := 100) dL_told_99 rfl ?_
          refine j_l1_2 (q := 101) dL_told_100 rfl hs (by omega) ?_
          refine j_if_ge (tgt := 108) (q := 104) dL_told_101 (by decide) rfl (by first | exact wr_id' (by omega) (by omega) | with_reducible exact wr_bI _ | exact rfl) (fun h101 => ?_) (fun h101 => ?_)
          · refine j_iconst (q := 109) dL_told_108 rfl ?_
            refine j_iadd (q := 110) dL_told_109 rfl ?_
            refine j_istore13 (q := 112) dL_told_110 rfl rfl (by decide) ?_
            refine j_iinc14 (q := 115) dL_told_112 rfl rfl (by decide) ?_
            refine j_goto (tgt := 33) dL_told_115 (by decide) ?_
            exact ih _ _ _ _ _ (by omega) (by omega) (fun x1 x2 x3 x4 hx1 hx2 hx3 hx4 => kk x1 x2 x3 x4 (hx1.trans (by first | exact (cnt_t (by unfold lLsd; first | exact decide_eq_true (by omega) | exact decide_eq_false (by omega))) | exact (cnt_f (by unfold lLsd; first | exact decide_eq_true (by omega) | exact decide_eq_false (by omega))))) (hx2.trans (by first | exact (cnt_t (by unfold lIns; first | exact decide_eq_true (by omega) | exact decide_eq_false (by omega))) | exact (cnt_f (by unfold lIns; first | exact decide_eq_true (by omega) | exact decide_eq_false (by omega))))) (hx3.trans (one_s hb0)) (hx4.trans (by first | exact (cnt_t (by unfold lOwd; first | exact decide_eq_true (by omega) | exact decide_eq_false (by omega))) | exact (cnt_f (by unfold lOwd; first | exact decide_eq_true (by omega) | exact decide_eq_false (by omega))))))
          · refine j_iconst (q := 105) dL_told_104 rfl ?_
            refine j_goto (tgt := 109) dL_told_105 (by decide) ?_
            refine j_iadd (q := 110) dL_told_109 rfl ?_
            refine j_istore13 (q := 112) dL_told_110 rfl rfl (by decide) ?_
            refine j_iinc14 (q := 115) dL_told_112 rfl rfl (by decide) ?_
            refine j_goto (tgt := 33) dL_told_115 (by decide) ?_
            exact ih _ _ _ _ _ (by omega) (by omega) (fun x1 x2 x3 x4 hx1 hx2 hx3 hx4 => kk x1 x2 x3 x4 (hx1.trans (by first | exact (cnt_t (by unfold lLsd; first | exact decide_eq_true (by omega) | exact decide_eq_false (by omega))) | exact (cnt_f (by unfold lLsd; first | exact decide_eq_true (by omega) | exact decide_eq_false (by omega))))) (hx2.trans (by first | exact (cnt_t (by unfold lIns; first | exact decide_eq_true (by omega) | exact decide_eq_false (by omega))) | exact (cnt_f (by unfold lIns; first | exact decide_eq_true (by omega) | exact decide_eq_false (by omega))))) (hx3.trans (one_s hb0)) (hx4.trans (by first | exact (cnt_t (by unfold lOwd; first | exact decide_eq_true (by omega) | exact decide_eq_false (by omega))) | exact (cnt_f (by unfold lOwd; first | exact decide_eq_true (by omega) | exact decide_eq_false (by omega))))))
        · refine j_iconst (q := 73) dL_told_72 rfl ?_
          refine j_goto (tgt := 77) dL_told_73 (by decide) ?_
          refine j_iadd (q := 78) dL_told_77 rfl ?_
          refine j_istore11 (q := 80) dL_told_78 rfl rfl (by decide) ?_
          refine j_iload12 (q := 82) dL_told_80 rfl ?_
          refine j_aload2 (q := 83) dL_told_82 rfl ?_
          refine j_iconst (q := 84) dL_told_83 rfl ?_
          refine j_iload14 (q := 86) dL_told_84 rfl ?_
          refine j_imul (q := 87) dL_told_86 rfl ?_
          refine j_l0_0 (q := 88) dL_told_87 rfl hs (by omega) ?_
          refine j_iadd (q := 89) dL_told_88 rfl ?_
          refine j_istore12 (q := 91) dL_told_89 rfl rfl (by decide) ?_
          refine j_iload13 (q := 93) dL_told_91 rfl ?_
          refine j_aload3 (q := 94) dL_told_93 rfl ?_
          refine j_iconst (q := 95) dL_told_94 rfl ?_
          refine j_iload14 (q := 97) dL_told_95 rfl ?_
          refine j_imul (q := 98) dL_told_97 rfl ?_
          refine j_iconst (q := 99) dL_told_98 rfl ?_
          refine j_iadd (q := 100) dL_told_99 rfl ?_
          refine j_l1_2 (q := 101) dL_told_100 rfl hs (by omega) ?_
          refine j_if_ge (tgt := 108) (q := 104) dL_told_101 (by decide) rfl (by first | exact wr_id' (by omega) (by omega) | with_reducible exact wr_bI _ | exact rfl) (fun h101 => ?_) (fun h101 => ?_)
          · refine j_iconst (q := 109) dL_told_108 rfl ?_
            refine j_iadd (q := 110) dL_told_109 rfl ?_
            refine j_istore13 (q := 112) dL_told_110 rfl rfl (by decide) ?_
            refine j_iinc14 (q := 115) dL_told_112 rfl rfl (by decide) ?_
            refine j_goto (tgt := 33) dL_told_115 (by decide) ?_
            exact ih _ _ _ _ _ (by omega) (by omega) (fun x1 x2 x3 x4 hx1 hx2 hx3 hx4 => kk x1 x2 x3 x4 (hx1.trans (by first | exact (cnt_t (by unfold lLsd; first | exact decide_eq_true (by omega) | exact decide_eq_false (by omega))) | exact (cnt_f (by unfold lLsd; first | exact decide_eq_true (by omega) | exact decide_eq_false (by omega))))) (hx2.trans (by first | exact (cnt_t (by unfold lIns; first | exact decide_eq_true (by omega) | exact decide_eq_false (by omega))) | exact (cnt_f (by unfold lIns; first | exact decide_eq_true (by omega) | exact decide_eq_false (by omega))))) (hx3.trans (one_s hb0)) (hx4.trans (by first | exact (cnt_t (by unfold lOwd; first | exact decide_eq_true (by omega) | exact decide_eq_false (by omega))) | exact (cnt_f (by unfold lOwd; first | exact decide_eq_true (by omega) | exact decide_eq_false (by omega))))))
          · refine j_iconst (q := 105) dL_told_104 rfl ?_
            refine j_goto (tgt := 109) dL_told_105 (by decide) ?_
            refine j_iadd (q := 110) dL_told_109 rfl ?_
            refine j_istore13 (q := 112) dL_told_110 rfl rfl (by decide) ?_
            refine j_iinc14 (q := 115) dL_told_112 rfl rfl (by decide) ?_
            refine j_goto (tgt := 33) dL_told_115 (by decide) ?_
            exact ih _ _ _ _ _ (by omega) (by omega) (fun x1 x2 x3 x4 hx1 hx2 hx3 hx4 => kk x1 x2 x3 x4 (hx1.trans (by first | exact (cnt_t (by unfold lLsd; first | exact decide_eq_true (by omega) | exact decide_eq_false (by omega))) | exact (cnt_f (by unfold lLsd; first | exact decide_eq_true (by omega) | exact decide_eq_false (by omega))))) (hx2.trans (by first | exact (cnt_t (by unfold lIns; first | exact decide_eq_true (by omega) | exact decide_eq_false (by omega))) | exact (cnt_f (by unfold lIns; first | exact decide_eq_true (by omega) | exact decide_eq_false (by omega))))) (hx3.trans (one_s hb0)) (hx4.trans (by first | exact (cnt_t (by unfold lOwd; first | exact decide_eq_true (by omega) | exact decide_eq_false (by omega))) | exact (cnt_f (by unfold lOwd; first | exact decide_eq_true (by omega) | exact decide_eq_false (by omega))))))
theorem lp_L_told_2a {G : GX} {sh : List SH} {p : Bool} (V : EV G sh) (E : EW G sh) (hs : LA sh p) {m P : Mem} {z : Z} {T B K : Int} {F : FinT} {x c4 c5 c7 c6 t wa : Int} (Q : QP (lz m p z) P z T B K) (ht : 0 ≤ t ∧ t < 3) : ∀ (d : Nat) (k : Int) (u : Int) (v : Int) (mo : Int), k + d = 16 → 0 ≤ k → 0 ≤ mo → mo ≤ 16 → (∀ (x1 : Int) (x2 : Int) (x3 : Int), x1 = cntF (lOwn z t) d k u → x2 = cntF (lWit z t) d k v → x3 = itF (lMo z t) d k mo → J G sh iL_told 0 0 F 264 [some (.inr (.ref 0)), some (.inl x), some (.inr (.ref (ix p 0))), some (.inr (.ref (ix p 1))), some (.inr (.ref (ix p 2))), some (.inr (.ref (ix p 3))), some (.inr (.ref (ix p 4))), some (.inr (.ref (ix p 5))), some (.inr (.ref (ix p 7))), some (.inr (.ref (ix p 6))), some (.inl c4), some (.inl c5), some (.inl c7), some (.inl c6), some (.inl t), some (.inl x1), some (.inl x2), some (.inl wa), some (.inl x3), none, none] [] (lz m p z) 0 0) → J G sh iL_told 0 0 F 145 [some (.inr (.ref 0)), some (.inl x), some (.inr (.ref (ix p 0))), some (.inr (.ref (ix p 1))), some (.inr (.ref (ix p 2))), some (.inr (.ref (ix p 3))), some (.inr (.ref (ix p 4))), some (.inr (.ref (ix p 5))), some (.inr (.ref (ix p 7))), some (.inr (.ref (ix p 6))), some (.inl c4), some (.inl c5), some (.inl c7), some (.inl c6), some (.inl t), some (.inl u), some (.inl v), some (.inl wa), some (.inl mo), some (.inl k), none] [] (lz m p z) 0 0 := by
  intro d
  induction d with
  | zero =>
    intro k u v mo g0 g1 g2 g3 kk
    have hX := Q.2.2.2.1
    have hI := Q.2.1.2.2.2.2.2
    refine j_iload19 (q := 147) dL_told_145 rfl ?_
    refine j_bipush (q := 149) dL_told_147 rfl rfl ?_
    refine j_icmp_ge (tgt := 264) (q := 152) dL_told_149 (by decide) rfl (by first | exact wr_id' (by omega) (by omega) | with_reducible exact wr_bI _ | exact rfl) (by first | exact wr_id' (by omega) (by omega) | with_reducible exact wr_bI _ | exact rfl) (fun h149 => ?_) (fun h149 => ?_)
    · refine j_fgt19 ?_
      exact kk _ _ _ rfl rfl rfl
    · omega
  | succ d ih =>
    intro k u v mo g0 g1 g2 g3 kk
    have hX := Q.2.2.2.1
    have hI := Q.2.1.2.2.2.2.2
    refine j_iload19 (q := 147) dL_told_145 rfl ?_
    refine j_bipush (q := 149) dL_told_147 rfl rfl ?_
    refine j_icmp_ge (tgt := 264) (q := 152) dL_told_149 (by decide) rfl (by first | exact wr_id' (by omega) (by omega) | with_reducible exact wr_bI _ | exact rfl) (by first | exact wr_id' (by omega) (by omega) | with_reducible exact wr_bI _ | exact rfl) (fun h149 => ?_) (fun h149 => ?_)
    · omega
    · have hc := cr_b (k := k) ⟨by omega, by omega⟩
      have hb := hX.2.2 (cr k) hc.1 hc.2
      have hb0 := hb.1
      rw [← Int.add_zero (59 + 9 * cr k)] at hb0
      have hu := hI.du (cr k) hc.1 hc.2
      have hT := hI.tT
      have dk := lRi_b (k := k) (w := t + 2) hX
      refine j_iload15 (q := 154) dL_told_152 rfl ?_
      refine j_aload2 (q := 155) dL_told_154 rfl ?_
      refine j_iconst (q := 156) dL_told_155 rfl ?_
      refine j_iload19 (q := 158) dL_told_156 rfl ?_
      refine j_imul (q := 159) dL_told_158 rfl ?_
      refine j_iconst (q := 160) dL_told_159 rfl ?_
      refine j_iadd (q := 161) dL_told_160 rfl ?_
      refine j_l0_2 (q := 162) dL_told_161 rfl hs (by omega) ?_
      refine j_iload14 (q := 164) dL_told_162 rfl ?_
      refine j_icmp_ne (tgt := 171) (q := 167) dL_told_164 (by decide) rfl (by first | exact wr_id' (by omega) (by omega) | with_reducible exact wr_bI _ | exact rfl) (by first | exact wr_id' (by omega) (by omega) | with_reducible exact wr_bI _ | exact rfl) (fun h164 => ?_) (fun h164 => ?_)
      · refine j_iconst (q := 172) dL_told_171 rfl ?_
        refine j_iadd (q := 173) dL_told_172 rfl ?_
        refine j_istore15 (q := 175) dL_told_173 rfl rfl (by decide) ?_
        refine j_iload16 (q := 177) dL_told_175 rfl ?_
        refine j_aload2 (q := 178) dL_told_177 rfl ?_
        refine j_iconst (q := 179) dL_told_178 rfl ?_
        refine j_iload19 (q := 181) dL_told_179 rfl ?_
        refine j_imul (q := 182) dL_told_181 rfl ?_
        refine j_iconst (q := 183) dL_told_182 rfl ?_
        refine j_iadd (q := 184) dL_told_183 rfl ?_
        refine j_l0_2 (q := 185) dL_told_184 rfl hs (by omega) ?_
        refine j_iload14 (q := 187) dL_told_185 rfl ?_
        refine j_icmp_ne (tgt := 203) (q := 190) dL_told_187 (by decide) rfl (by first | exact wr_id' (by omega) (by omega) | with_reducible exact wr_bI _ | exact rfl) (by first | exact wr_id' (by omega) (by omega) | with_reducible exact wr_bI _ | exact rfl) (fun h187 => ?_) (fun h187 => ?_)
        · refine j_iconst (q := 204) dL_told_203 rfl ?_
          refine j_iadd (q := 205) dL_told_204 rfl ?_
          refine j_istore16 (q := 207) dL_told_205 rfl rfl (by decide) ?_
          refine j_aload2 (q := 208) dL_told_207 rfl ?_
          refine j_iconst (q := 209) dL_told_208 rfl ?_
          refine j_iload19 (q := 211) dL_told_209 rfl ?_
          refine j_imul (q := 212) dL_told_211 rfl ?_
          refine j_iconst (q := 213) dL_told_212 rfl ?_
          refine j_iadd (q := 214) dL_told_213 rfl ?_
          refine j_l0_2 (q := 215) dL_told_214 rfl hs (by omega) ?_
          refine j_if_lt (tgt := 258) (q := 218) dL_told_215 (by decide) rfl (by first | exact wr_id' (by omega) (by omega) | with_reducible exact wr_bI _ | exact rfl) (fun h215 => ?_) (fun h215 => ?_)
          · refine j_iinc19 (q := 261) dL_told_258 rfl rfl (by decide) ?_
            refine j_goto (tgt := 145) dL_told_261 (by decide) ?_
            exact ih _ _ _ _ (by omega) (by omega) (by omega) (by omega) (fun x1 x2 x3 hx1 hx2 hx3 => kk x1 x2 x3 (hx1.trans (by first | exact (cnt_t (by unfold lOwn; first | exact decide_eq_true (by omega) | exact decide_eq_false (by omega))) | exact (cnt_f (by unfold lOwn; first | exact decide_eq_true (by omega) | exact decide_eq_false (by omega))))) (hx2.trans (by first | exact (cnt_t (by unfold lWit; first | exact decide_eq_true (by omega) | exact decide_eq_false (by omega))) | exact (cnt_f (by unfold lWit; first | exact decide_eq_true (by omega) | exact decide_eq_false (by omega))))) (hx3.trans (by rw [itF]; exact congrArg (itF (lMo z t) d (k + 1)) (by first | exact (lMo_t (by omega)).symm | exact (lMo_f (by omega)).symm))))
          · refine j_aload3 (q := 219) dL_told_218 rfl ?_
            refine j_iconst (q := 220) dL_told_219 rfl ?_
            refine j_iload19 (q := 222) dL_told_220 rfl ?_
            refine j_imul (q := 223) dL_told_222 rfl ?_
            refine j_iconst (q := 224) dL_told_223 rfl ?_
            refine j_iadd (q := 225) dL_told_224 rfl ?_
            refine j_l1_2 (q := 226) dL_told_225 rfl hs (by omega) ?_
            refine j_if_ge (tgt := 258) (q := 229) dL_told_226 (by decide) rfl (by first | exact wr_id' (by omega) (by omega) | with_reducible exact wr_bI _ | exact rfl) (fun h226 => ?_) (fun h226 => ?_)
            · refine j_iinc19 (q := 261) dL_told_258 rfl rfl (by decide) ?_
              refine j_goto (tgt := 145) dL_told_261 (by decide) ?_
              exact ih _ _ _ _ (by omega) (by omega) (by omega) (by omega) (fun x1 x2 x3 hx1 hx2 hx3 => kk x1 x2 x3 (hx1.trans (by first | exact (cnt_t (by unfold lOwn; first | exact decide_eq_true (by omega) | exact decide_eq_false (by omega))) | exact (cnt_f (by unfold lOwn; first | exact decide_eq_true (by omega) | exact decide_eq_false (by omega))))) (hx2.trans (by first | exact (cnt_t (by unfold lWit; first | exact decide_eq_true (by omega) | exact decide_eq_false (by omega))) | exact (cnt_f (by unfold lWit; first | exact decide_eq_true (by omega) | exact decide_eq_false (by omega))))) (hx3.trans (by rw [itF]; exact congrArg (itF (lMo z t) d (k + 1)) (by first | exact (lMo_t (by omega)).symm | exact (lMo_f (by omega)).symm))))
            · refine j_iload19 (q := 231) dL_told_229 rfl ?_
              refine j_iload14 (q := 233) dL_told_231 rfl ?_
              refine j_aload2 (q := 234) dL_told_233 rfl ?_
              refine j_aload3 (q := 235) dL_told_234 rfl ?_
              refine j_aload8 (q := 237) dL_told_235 rfl ?_
              refine j_callS5 (Mc := iL_risk) (q := 240) (c' := 0) (s' := 0) dL_told_237 rfl kS_L_risk jw_509 ⟨by decide, by decide⟩ rfl (Nat.le_refl _) (Nat.le_refl _) (ct_L_riskt E hs ⟨by omega, by omega⟩ (by omega) hX) ?_
              refine j_iload18 (q := 242) dL_told_240 rfl ?_
              refine j_icmp_le (tgt := 258) (q := 245) dL_told_242 (by decide) rfl (by first | exact wr_id' (by omega) (by omega) | with_reducible exact wr_bI _ | exact rfl) (by first | exact wr_id' (by omega) (by omega) | with_reducible exact wr_bI _ | exact rfl) (fun h242 => ?_) (fun h242 => ?_)
              · refine j_iinc19 (q := 261) dL_told_258 rfl rfl (by decide) ?_
                refine j_goto (tgt := 145) dL_told_261 (by decide) ?_
                exact ih _ _ _ _ (by omega) (by omega) (by omega) (by omega) (fun x1 x2 x3 hx1 hx2 hx3 => kk x1 x2 x3 (hx1.trans (by first | exact (cnt_t (by unfold lOwn; first | exact decide_eq_true (by omega) | exact decide_eq_false (by omega))) | exact (cnt_f (by unfold lOwn; first | exact decide_eq_true (by omega) | exact decide_eq_false (by omega))))) (hx2.trans (by first | exact (cnt_t (by unfold lWit; first | exact decide_eq_true (by omega) | exact decide_eq_false (by omega))) | exact (cnt_f (by unfold lWit; first | exact decide_eq_true (by omega) | exact decide_eq_false (by omega))))) (hx3.trans (by rw [itF]; exact congrArg (itF (lMo z t) d (k + 1)) (by first | exact (lMo_t (by omega)).symm | exact (lMo_f (by omega)).symm))))
              · refine j_iload19 (q := 247) dL_told_245 rfl ?_
                refine j_iload14 (q := 249) dL_told_247 rfl ?_
                refine j_aload2 (q := 250) dL_told_249 rfl ?_
                refine j_aload3 (q := 251) dL_told_250 rfl ?_
                refine j_aload8 (q := 253) dL_told_251 rfl ?_
                refine j_callS5 (Mc := iL_risk) (q := 256) (c' := 0) (s' := 0) dL_told_253 rfl kS_L_risk jw_509 ⟨by decide, by decide⟩ rfl (Nat.le_refl _) (Nat.le_refl _) (ct_L_riskt E hs ⟨by omega, by omega⟩ (by omega) hX) ?_
                refine j_istore18 (q := 258) dL_told_256 rfl rfl (by decide) ?_
                refine j_iinc19 (q := 261) dL_told_258 rfl rfl (by decide) ?_
                refine j_goto (tgt := 145) dL_told_261 (by decide) ?_
                exact ih _ _ _ _ (by omega) (by omega) (by omega) (by omega) (fun x1 x2 x3 hx1 hx2 hx3 => kk x1 x2 x3 (hx1.trans (by first | exact (cnt_t (by unfold lOwn; first | exact decide_eq_true (by omega) | exact decide_eq_false (by omega))) | exact (cnt_f (by unfold lOwn; first | exact decide_eq_true (by omega) | exact decide_eq_false (by omega))))) (hx2.trans (by first | exact (cnt_t (by unfold lWit; first | exact decide_eq_true (by omega) | exact decide_eq_false (by omega))) | exact (cnt_f (by unfold lWit; first | exact decide_eq_true (by omega) | exact decide_eq_false (by omega))))) (hx3.trans (by rw [itF]; exact congrArg (itF (lMo z t) d (k + 1)) (by first | exact (lMo_t (by omega)).symm | exact (lMo_f (by omega)).symm))))
        · refine j_aload3 (q := 191) dL_told_190 rfl ?_
          refine j_iconst (q := 192) dL_told_191 rfl ?_
          refine j_iload19 (q := 194) dL_told_192 rfl ?_
          refine j_imul (q := 195) dL_told_194 rfl ?_
          refine j_l1_0 (q := 196) dL_told_195 rfl hs (by omega) ?_
          refine j_if_lt (tgt := 203) (q := 199) dL_told_196 (by decide) rfl (by first | exact wr_id' (by omega) (by omega) | with_reducible exact wr_bI _ | exact rfl) (fun h196 => ?_) (fun h196 => ?_)
          · refine j_iconst (q := 204) dL_told_203 rfl ?_
            refine j_iadd (q := 205) dL_told_204 rfl ?_
            refine j_istore16 (q := 207) dL_told_205 rfl rfl (by decide) ?_
            refine j_aload2 (q := 208) dL_told_207 rfl ?_
            refine j_iconst (q := 209) dL_told_208 rfl ?_
            refine j_iload19 (q := 211) dL_told_209 rfl ?_
            refine j_imul (q := 212) dL_told_211 rfl ?_
            refine j_iconst (q := 213) dL_told_212 rfl ?_
            refine j_iadd (q := 214) dL_told_213 rfl ?_
            refine j_l0_2 (q := 215) dL_told_214 rfl hs (by omega) ?_
            refine j_if_lt (tgt := 258) (q := 218) dL_told_215 (by decide) rfl (by first | exact wr_id' (by omega) (by omega) | with_reducible exact wr_bI _ | exact rfl) (fun h215 => ?_) (fun h215 => ?_)
            · refine j_iinc19 (q := 261) dL_told_258 rfl rfl (by decide) ?_
              refine j_goto (tgt := 145) dL_told_261 (by decide) ?_
              exact ih _ _ _ _ (by omega) (by omega) (by omega) (by omega) (fun x1 x2 x3 hx1 hx2 hx3 => kk x1 x2 x3 (hx1.trans (by first | exact (cnt_t (by unfold lOwn; first | exact decide_eq_true (by omega) | exact decide_eq_false (by omega))) | exact (cnt_f (by unfold lOwn; first | exact decide_eq_true (by omega) | exact decide_eq_false (by omega))))) (hx2.trans (by first | exact (cnt_t (by unfold lWit; first | exact decide_eq_true (by omega) | exact decide_eq_false (by omega))) | exact (cnt_f (by unfold lWit; first | exact decide_eq_true (by omega) | exact decide_eq_false (by omega))))) (hx3.trans (by rw [itF]; exact congrArg (itF (lMo z t) d (k + 1)) (by first | exact (lMo_t (by omega)).symm | exact (lMo_f (by omega)).symm))))
            · refine j_aload3 (q := 219) dL_told_218 rfl ?_
              refine j_iconst (q := 220) dL_told_219 rfl ?_
              refine j_iload19 (q := 222) dL_told_220 rfl ?_
              refine j_imul (q := 223) dL_told_222 rfl ?_
              refine j_iconst (q := 224) dL_told_223 rfl ?_
              refine j_iadd (q := 225) dL_told_224 rfl ?_
              refine j_l1_2 (q := 226) dL_told_225 rfl hs (by omega) ?_
              refine j_if_ge (tgt := 258) (q := 229) dL_told_226 (by decide) rfl (by first | exact wr_id' (by omega) (by omega) | with_reducible exact wr_bI _ | exact rfl) (fun h226 => ?_) (fun h226 => ?_)
              · refine j_iinc19 (q := 261) dL_told_258 rfl rfl (by decide) ?_
                refine j_goto (tgt := 145) dL_told_261 (by decide) ?_
                exact ih _ _ _ _ (by omega) (by omega) (by omega) (by omega) (fun x1 x2 x3 hx1 hx2 hx3 => kk x1 x2 x3 (hx1.trans (by first | exact (cnt_t (by unfold lOwn; first | exact decide_eq_true (by omega) | exact decide_eq_false (by omega))) | exact (cnt_f (by unfold lOwn; first | exact decide_eq_true (by omega) | exact decide_eq_false (by omega))))) (hx2.trans (by first | exact (cnt_t (by unfold lWit; first | exact decide_eq_true (by omega) | exact decide_eq_false (by omega))) | exact (cnt_f (by unfold lWit; first | exact decide_eq_true (by omega) | exact decide_eq_false (by omega))))) (hx3.trans (by rw [itF]; exact congrArg (itF (lMo z t) d (k + 1)) (by first | exact (lMo_t (by omega)).symm | exact (lMo_f (by omega)).symm))))
              · refine j_iload19 (q := 231) dL_told_229 rfl ?_
                refine j_iload14 (q := 233) dL_told_231 rfl ?_
                refine j_aload2 (q := 234) dL_told_233 rfl ?_
                refine j_aload3 (q := 235) dL_told_234 rfl ?_
                refine j_aload8 (q := 237) dL_told_235 rfl ?_
                refine j_callS5 (Mc := iL_risk) (q := 240) (c' := 0) (s' := 0) dL_told_237 rfl kS_L_risk jw_509 ⟨by decide, by decide⟩ rfl (Nat.le_refl _) (Nat.le_refl _) (ct_L_riskt E hs ⟨by omega, by omega⟩ (by omega) hX) ?_
                refine j_iload18 (q := 242) dL_told_240 rfl ?_
                refine j_icmp_le (tgt := 258) (q := 245) dL_told_242 (by decide) rfl (by first | exact wr_id' (by omega) (by omega) | with_reducible exact wr_bI _ | exact rfl) (by first | exact wr_id' (by omega) (by omega) | with_reducible exact wr_bI _ | exact rfl) (fun h242 => ?_) (fun h242 => ?_)
                · refine j_iinc19 (q := 261) dL_told_258 rfl rfl (by decide) ?_
                  refine j_goto (tgt := 145) dL_told_261 (by decide) ?_
                  exact ih _ _ _ _ (by omega) (by omega) (by omega) (by omega) (fun x1 x2 x3 hx1 hx2 hx3 => kk x1 x2 x3 (hx1.trans (by first | exact (cnt_t (by unfold lOwn; first | exact decide_eq_true (by omega) | exact decide_eq_false (by omega))) | exact (cnt_f (by unfold lOwn; first | exact decide_eq_true (by omega) | exact decide_eq_false (by omega))))) (hx2.trans (by first | exact (cnt_t (by unfold lWit; first | exact decide_eq_true (by omega) | exact decide_eq_false (by omega))) | exact (cnt_f (by unfold lWit; first | exact decide_eq_true (by omega) | exact decide_eq_false (by omega))))) (hx3.trans (by rw [itF]; exact congrArg (itF (lMo z t) d (k + 1)) (by first | exact (lMo_t (by omega)).symm | exact (lMo_f (by omega)).symm))))
                · refine j_iload19 (q := 247) dL_told_245 rfl ?_
                  refine j_iload14 (q := 249) dL_told_247 rfl ?_
                  refine j_aload2 (q := 250) dL_told_249 rfl ?_
                  refine j_aload3 (q := 251) dL_told_250 rfl ?_
                  refine j_aload8 (q := 253) dL_told_251 rfl ?_
                  refine j_callS5 (Mc := iL_risk) (q := 256) (c' := 0) (s' := 0) dL_told_253 rfl kS_L_risk jw_509 ⟨by decide, by decide⟩ rfl (Nat.le_refl _) (Nat.le_refl _) (ct_L_riskt E hs ⟨by omega, by omega⟩ (by omega) hX) ?_
                  refine j_istore18 (q := 258) dL_told_256 rfl rfl (by decide) ?_
                  refine j_iinc19 (q := 261) dL_told_258 rfl rfl (by decide) ?_
                  refine j_goto (tgt := 145) dL_told_261 (by decide) ?_
                  exact ih _ _ _ _ (by omega) (by omega) (by omega) (by omega) (fun x1 x2 x3 hx1 hx2 hx3 => kk x1 x2 x3 (hx1.trans (by first | exact (cnt_t (by unfold lOwn; first | exact decide_eq_true (by omega) | exact decide_eq_false (by omega))) | exact (cnt_f (by unfold lOwn; first | exact decide_eq_true (by omega) | exact decide_eq_false (by omega))))) (hx2.trans (by first | exact (cnt_t (by unfold lWit; first | exact decide_eq_true (by omega) | exact decide_eq_false (by omega))) | exact (cnt_f (by unfold lWit; first | exact decide_eq_true (by omega) | exact decide_eq_false (by omega))))) (hx3.trans (by rw [itF]; exact congrArg (itF (lMo z t) d (k + 1)) (by first | exact (lMo_t (by omega)).symm | exact (lMo_f (by omega)).symm))))
          · refine j_iconst (q := 200) dL_told_199 rfl ?_
            refine j_goto (tgt := 204) dL_told_200 (by decide) ?_
            refine j_iadd (q := 205) dL_told_204 rfl ?_
            refine j_istore16 (q := 207) dL_told_205 rfl rfl (by decide) ?_
            refine j_aload2 (q := 208) dL_told_207 rfl ?_
            refine j_iconst (q := 209) dL_told_208 rfl ?_
            refine j_iload19 (q := 211) dL_told_209 rfl ?_
            refine j_imul (q := 212) dL_told_211 rfl ?_
            refine j_iconst (q := 213) dL_told_212 rfl ?_
            refine j_iadd (q := 214) dL_told_213 rfl ?_
            refine j_l0_2 (q := 215) dL_told_214 rfl hs (by omega) ?_
            refine j_if_lt (tgt := 258) (q := 218) dL_told_215 (by decide) rfl (by first | exact wr_id' (by omega) (by omega) | with_reducible exact wr_bI _ | exact rfl) (fun h215 => ?_) (fun h215 => ?_)
            · refine j_iinc19 (q := 261) dL_told_258 rfl rfl (by decide) ?_
              refine j_goto (tgt := 145) dL_told_261 (by decide) ?_
              exact ih _ _ _ _ (by omega) (by omega) (by omega) (by omega) (fun x1 x2 x3 hx1 hx2 hx3 => kk x1 x2 x3 (hx1.trans (by first | exact (cnt_t (by unfold lOwn; first | exact decide_eq_true (by omega) | exact decide_eq_false (by omega))) | exact (cnt_f (by unfold lOwn; first | exact decide_eq_true (by omega) | exact decide_eq_false (by omega))))) (hx2.trans (by first | exact (cnt_t (by unfold lWit; first | exact decide_eq_true (by omega) | exact decide_eq_false (by omega))) | exact (cnt_f (by unfold lWit; first | exact decide_eq_true (by omega) | exact decide_eq_false (by omega))))) (hx3.trans (by rw [itF]; exact congrArg (itF (lMo z t) d (k + 1)) (by first | exact (lMo_t (by omega)).symm | exact (lMo_f (by omega)).symm))))
            · refine j_aload3 (q := 219) dL_told_218 rfl ?_
              refine j_iconst (q := 220) dL_told_219 rfl ?_
              refine j_iload19 (q := 222) dL_told_220 rfl ?_
              refine j_imul (q := 223) dL_told_222 rfl ?_
              refine j_iconst (q := 224) dL_told_223 rfl ?_
              refine j_iadd (q := 225) dL_told_224 rfl ?_
              refine j_l1_2 (q := 226) dL_told_225 rfl hs (by omega) ?_
              refine j_if_ge (tgt := 258) (q := 229) dL_told_226 (by decide) rfl (by first | exact wr_id' (by omega) (by omega) | with_reducible exact wr_bI _ | exact rfl) (fun h226 => ?_) (fun h226 => ?_)
              · refine j_iinc19 (q := 261) dL_told_258 rfl rfl (by decide) ?_
                refine j_goto (tgt := 145) dL_told_261 (by decide) ?_
                exact ih _ _ _ _ (by omega) (by omega) (by omega) (by omega) (fun x1 x2 x3 hx1 hx2 hx3 => kk x1 x2 x3 (hx1.trans (by first | exact (cnt_t (by unfold lOwn; first | exact decide_eq_true (by omega) | exact decide_eq_false (by omega))) | exact (cnt_f (by unfold lOwn; first | exact decide_eq_true (by omega) | exact decide_eq_false (by omega))))) (hx2.trans (by first | exact (cnt_t (by unfold lWit; first | exact decide_eq_true (by omega) | exact decide_eq_false (by omega))) | exact (cnt_f (by unfold lWit; first | exact decide_eq_true (by omega) | exact decide_eq_false (by omega))))) (hx3.trans (by rw [itF]; exact congrArg (itF (lMo z t) d (k + 1)) (by first | exact (lMo_t (by omega)).symm | exact (lMo_f (by omega)).symm))))
              · refine j_iload19 (q := 231) dL_told_229 rfl ?_
                refine j_iload14 (q := 233) dL_told_231 rfl ?_
                refine j_aload2 (q := 234) dL_told_233 rfl ?_
                refine j_aload3 (q := 235) dL_told_234 rfl ?_
                refine j_aload8 (q := 237) dL_told_235 rfl ?_
                refine j_callS5 (Mc := iL_risk) (q := 240) (c' := 0) (s' := 0) dL_told_237 rfl kS_L_risk jw_509 ⟨by decide, by decide⟩ rfl (Nat.le_refl _) (Nat.le_refl _) (ct_L_riskt E hs ⟨by omega, by omega⟩ (by omega) hX) ?_
                refine j_iload18 (q := 242) dL_told_240 rfl ?_
                refine j_icmp_le (tgt := 258) (q := 245) dL_told_242 (by decide) rfl (by first | exact wr_id' (by omega) (by omega) | with_reducible exact wr_bI _ | exact rfl) (by first | exact wr_id' (by omega) (by omega) | with_reducible exact wr_bI _ | exact rfl) (fun h242 => ?_) (fun h242 => ?_)
                · refine j_iinc19 (q := 261) dL_told_258 rfl rfl (by decide) ?_
                  refine j_goto (tgt := 145) dL_told_261 (by decide) ?_
                  exact ih _ _ _ _ (by omega) (by omega) (by omega) (by omega) (fun x1 x2 x3 hx1 hx2 hx3 => kk x1 x2 x3 (hx1.trans (by first | exact (cnt_t (by unfold lOwn; first | exact decide_eq_true (by omega) | exact decide_eq_false (by omega))) | exact (cnt_f (by unfold lOwn; first | exact decide_eq_true (by omega) | exact decide_eq_false (by omega))))) (hx2.trans (by first | exact (cnt_t (by unfold lWit; first | exact decide_eq_true (by omega) | exact decide_eq_false (by omega))) | exact (cnt_f (by unfold lWit; first | exact decide_eq_true (by omega) | exact decide_eq_false (by omega))))) (hx3.trans (by rw [itF]; exact congrArg (itF (lMo z t) d (k + 1)) (by first | exact (lMo_t (by omega)).symm | exact (lMo_f (by omega)).symm))))
                · refine j_iload19 (q := 247) dL_told_245 rfl ?_
                  refine j_iload14 (q := 249) dL_told_247 rfl ?_
                  refine j_aload2 (q := 250) dL_told_249 rfl ?_
                  refine j_aload3 (q := 251) dL_told_250 rfl ?_
                  refine j_aload8 (q := 253) dL_told_251 rfl ?_
                  refine j_callS5 (Mc := iL_risk) (q := 256) (c' := 0) (s' := 0) dL_told_253 rfl kS_L_risk jw_509 ⟨by decide, by decide⟩ rfl (Nat.le_refl _) (Nat.le_refl _) (ct_L_riskt E hs ⟨by omega, by omega⟩ (by omega) hX) ?_
                  refine j_istore18 (q := 258) dL_told_256 rfl rfl (by decide) ?_
                  refine j_iinc19 (q := 261) dL_told_258 rfl rfl (by decide) ?_
                  refine j_goto (tgt := 145) dL_told_261 (by decide) ?_
                  exact ih _ _ _ _ (by omega) (by omega) (by omega) (by omega) (fun x1 x2 x3 hx1 hx2 hx3 => kk x1 x2 x3 (hx1.trans (by first | exact (cnt_t (by unfold lOwn; first | exact decide_eq_true (by omega) | exact decide_eq_false (by omega))) | exact (cnt_f (by unfold lOwn; first | exact decide_eq_true (by omega) | exact decide_eq_false (by omega))))) (hx2.trans (by first | exact (cnt_t (by unfold lWit; first | exact decide_eq_true (by omega) | exact decide_eq_false (by omega))) | exact (cnt_f (by unfold lWit; first | exact decide_eq_true (by omega) | exact decide_eq_false (by omega))))) (hx3.trans (by rw [itF]; exact congrArg (itF (lMo z t) d (k + 1)) (by first | exact (lMo_t (by omega)).symm | exact (lMo_f (by omega)).symm))))
      · refine j_iconst (q := 168) dL_told_167 rfl ?_
        refine j_goto (tgt := 172) dL_told_168 (by decide) ?_
        refine j_iadd (q := 173) dL_told_172 rfl ?_
        refine j_istore15 (q := 175) dL_told_173 rfl rfl (by decide) ?_
        refine j_iload16 (q := 177) dL_told_175 rfl ?_
        refine j_aload2 (q := 178) dL_told_177 rfl ?_
        refine j_iconst (q := 179) dL_told_178 rfl ?_
        refine j_iload19 (q := 181) dL_told_179 rfl ?_
        refine j_imul (q := 182) dL_told_181 rfl ?_
        refine j_iconst (q := 183) dL_told_182 rfl ?_
        refine j_iadd (q := 184) dL_told_183 rfl ?_
        refine j_l0_2 (q := 185) dL_told_184 rfl hs (by omega) ?_
        refine j_iload14 (q := 187) dL_told_185 rfl ?_
        refine j_icmp_ne (tgt := 203) (q := 190) dL_told_187 (by decide) rfl (by first | exact wr_id' (by omega) (by omega) | with_reducible exact wr_bI _ | exact rfl) (by first | exact wr_id' (by omega) (by omega) | with_reducible exact wr_bI _ | exact rfl) (fun h187 => ?_) (fun h187 => ?_)
        · refine j_iconst (q := 204) dL_told_203 rfl ?_
          refine j_iadd (q := 205) dL_told_204 rfl ?_
          refine j_istore16 (q := 207) dL_told_205 rfl rfl (by decide) ?_
          refine j_aload2 (q := 208) dL_told_207 rfl ?_
          refine j_iconst (q := 209) dL_told_208 rfl ?_
          refine j_iload19 (q := 211) dL_told_209 rfl ?_
          refine j_imul (q := 212) dL_told_211 rfl ?_
          refine j_iconst (q := 213) dL_told_212 rfl ?_
          refine j_iadd (q := 214) dL_told_213 rfl ?_
          refine j_l0_2 (q := 215) dL_told_214 rfl hs (by omega) ?_
          refine j_if_lt (tgt := 258) (q := 218) dL_told_215 (by decide) rfl (by first | exact wr_id' (by omega) (by omega) | with_reducible exact wr_bI _ | exact rfl) (fun h215 => ?_) (fun h215 => ?_)
          · refine j_iinc19 (q := 261) dL_told_258 rfl rfl (by decide) ?_
            refine j_goto (tgt := 145) dL_told_261 (by decide) ?_
            exact ih _ _ _ _ (by omega) (by omega) (by omega) (by omega) (fun x1 x2 x3 hx1 hx2 hx3 => kk x1 x2 x3 (hx1.trans (by first | exact (cnt_t (by unfold lOwn; first | exact decide_eq_true (by omega) | exact decide_eq_false (by omega))) | exact (cnt_f (by unfold lOwn; first | exact decide_eq_true (by omega) | exact decide_eq_false (by omega))))) (hx2.trans (by first | exact (cnt_t (by unfold lWit; first | exact decide_eq_true (by omega) | exact decide_eq_false (by omega))) | exact (cnt_f (by unfold lWit; first | exact decide_eq_true (by omega) | exact decide_eq_false (by omega))))) (hx3.trans (by rw [itF]; exact congrArg (itF (lMo z t) d (k + 1)) (by first | exact (lMo_t (by omega)).symm | exact (lMo_f (by omega)).symm))))
          · refine j_aload3 (q := 219) dL_told_218 rfl ?_
            refine j_iconst (q := 220) dL_told_219 rfl ?_
            refine j_iload19 (q := 222) dL_told_220 rfl ?_
            refine j_imul (q := 223) dL_told_222 rfl ?_
            refine j_iconst (q := 224) dL_told_223 rfl ?_
            refine j_iadd (q := 225) dL_told_224 rfl ?_
            refine j_l1_2 (q := 226) dL_told_225 rfl hs (by omega) ?_
            refine j_if_ge (tgt := 258) (q := 229) dL_told_226 (by decide) rfl (by first | exact wr_id' (by omega) (by omega) | with_reducible exact wr_bI _ | exact rfl) (fun h226 => ?_) (fun h226 => ?_)
            · refine j_iinc19 (q := 261) dL_told_258 rfl rfl (by decide) ?_
              refine j_goto (tgt := 145) dL_told_261 (by decide) ?_
              exact ih _ _ _ _ (by omega) (by omega) (by omega) (by omega) (fun x1 x2 x3 hx1 hx2 hx3 => kk x1 x2 x3 (hx1.trans (by first | exact (cnt_t (by unfold lOwn; first | exact decide_eq_true (by omega) | exact decide_eq_false (by omega))) | exact (cnt_f (by unfold lOwn; first | exact decide_eq_true (by omega) | exact decide_eq_false (by omega))))) (hx2.trans (by first | exact (cnt_t (by unfold lWit; first | exact decide_eq_true (by omega) | exact decide_eq_false (by omega))) | exact (cnt_f (by unfold lWit; first | exact decide_eq_true (by omega) | exact decide_eq_false (by omega))))) (hx3.trans (by rw [itF]; exact congrArg (itF (lMo z t) d (k + 1)) (by first | exact (lMo_t (by omega)).symm | exact (lMo_f (by omega)).symm))))
            · refine j_iload19 (q := 231) dL_told_229 rfl ?_
              refine j_iload14 (q := 233) dL_told_231 rfl ?_
              refine j_aload2 (q := 234) dL_told_233 rfl ?_
              refine j_aload3 (q := 235) dL_told_234 rfl ?_
              refine j_aload8 (q := 237) dL_told_235 rfl ?_
              refine j_callS5 (Mc := iL_risk) (q := 240) (c' := 0) (s' := 0) dL_told_237 rfl kS_L_risk jw_509 ⟨by decide, by decide⟩ rfl (Nat.le_refl _) (Nat.le_refl _) (ct_L_riskt E hs ⟨by omega, by omega⟩ (by omega) hX) ?_
              refine j_iload18 (q := 242) dL_told_240 rfl ?_
              refine j_icmp_le (tgt := 258) (q := 245) dL_told_242 (by decide) rfl (by first | exact wr_id' (by omega) (by omega) | with_reducible exact wr_bI _ | exact rfl) (by first | exact wr_id' (by omega) (by omega) | with_reducible exact wr_bI _ | exact rfl) (fun h242 => ?_) (fun h242 => ?_)
              · refine j_iinc19 (q := 261) dL_told_258 rfl rfl (by decide) ?_
                refine j_goto (tgt := 145) dL_told_261 (by decide) ?_
                exact ih _ _ _ _ (by omega) (by omega) (by omega) (by omega) (fun x1 x2 x3 hx1 hx2 hx3 => kk x1 x2 x3 (hx1.trans (by first | exact (cnt_t (by unfold lOwn; first | exact decide_eq_true (by omega) | exact decide_eq_false (by omega))) | exact (cnt_f (by unfold lOwn; first | exact decide_eq_true (by omega) | exact decide_eq_false (by omega))))) (hx2.trans (by first | exact (cnt_t (by unfold lWit; first | exact decide_eq_true (by omega) | exact decide_eq_false (by omega))) | exact (cnt_f (by unfold lWit; first | exact decide_eq_true (by omega) | exact decide_eq_false (by omega))))) (hx3.trans (by rw [itF]; exact congrArg (itF (lMo z t) d (k + 1)) (by first | exact (lMo_t (by omega)).symm | exact (lMo_f (by omega)).symm))))
              · refine j_iload19 (q := 247) dL_told_245 rfl ?_
                refine j_iload14 (q := 249) dL_told_247 rfl ?_
                refine j_aload2 (q := 250) dL_told_249 rfl ?_
                refine j_aload3 (q := 251) dL_told_250 rfl ?_
                refine j_aload8 (q := 253) dL_told_251 rfl ?_
                refine j_callS5 (Mc := iL_risk) (q := 256) (c' := 0) (s' := 0) dL_told_253 rfl kS_L_risk jw_509 ⟨by decide, by decide⟩ rfl (Nat.le_refl _) (Nat.le_refl _) (ct_L_riskt E hs ⟨by omega, by omega⟩ (by omega) hX) ?_
                refine j_istore18 (q := 258) dL_told_256 rfl rfl (by decide) ?_
                refine j_iinc19 (q := 261) dL_told_258 rfl rfl (by decide) ?_
                refine j_goto (tgt := 145) dL_told_261 (by decide) ?_
                exact ih _ _ _ _ (by omega) (by omega) (by omega) (by omega) (fun x1 x2 x3 hx1 hx2 hx3 => kk x1 x2 x3 (hx1.trans (by first | exact (cnt_t (by unfold lOwn; first | exact decide_eq_true (by omega) | exact decide_eq_false (by omega))) | exact (cnt_f (by unfold lOwn; first | exact decide_eq_true (by omega) | exact decide_eq_false (by omega))))) (hx2.trans (by first | exact (cnt_t (by unfold lWit; first | exact decide_eq_true (by omega) | exact decide_eq_false (by omega))) | exact (cnt_f (by unfold lWit; first | exact decide_eq_true (by omega) | exact decide_eq_false (by omega))))) (hx3.trans (by rw [itF]; exact congrArg (itF (lMo z t) d (k + 1)) (by first | exact (lMo_t (by omega)).symm | exact (lMo_f (by omega)).symm))))
        · refine j_aload3 (q := 191) dL_told_190 rfl ?_
          refine j_iconst (q := 192) dL_told_191 rfl ?_
          refine j_iload19 (q := 194) dL_told_192 rfl ?_
          refine j_imul (q := 195) dL_told_194 rfl ?_
          refine j_l1_0 (q := 196) dL_told_195 rfl hs (by omega) ?_
          refine j_if_lt (tgt := 203) (q := 199) dL_told_196 (by decide) rfl (by first | exact wr_id' (by omega) (by omega) | with_reducible exact wr_bI _ | exact rfl) (fun h196 => ?_) (fun h196 => ?_)
          · refine j_iconst (q := 204) dL_told_203 rfl ?_
            refine j_iadd (q := 205) dL_told_204 rfl ?_
            refine j_istore16 (q := 207) dL_told_205 rfl rfl (by decide) ?_
            refine j_aload2 (q := 208) dL_told_207 rfl ?_
            refine j_iconst (q := 209) dL_told_208 rfl ?_
            refine j_iload19 (q := 211) dL_told_209 rfl ?_
            refine j_imul (q := 212) dL_told_211 rfl ?_
            refine j_iconst (q := 213) dL_told_212 rfl ?_
            refine j_iadd (q := 214) dL_told_213 rfl ?_
            refine j_l0_2 (q := 215) dL_told_214 rfl hs (by omega) ?_
            refine j_if_lt (tgt := 258) (q := 218) dL_told_215 (by decide) rfl (by first | exact wr_id' (by omega) (by omega) | with_reducible exact wr_bI _ | exact rfl) (fun h215 => ?_) (fun h215 => ?_)
            · refine j_iinc19 (q := 261) dL_told_258 rfl rfl (by decide) ?_
              refine j_goto (tgt := 145) dL_told_261 (by decide) ?_
              exact ih _ _ _ _ (by omega) (by omega) (by omega) (by omega) (fun x1 x2 x3 hx1 hx2 hx3 => kk x1 x2 x3 (hx1.trans (by first | exact (cnt_t (by unfold lOwn; first | exact decide_eq_true (by omega) | exact decide_eq_false (by omega))) | exact (cnt_f (by unfold lOwn; first | exact decide_eq_true (by omega) | exact decide_eq_false (by omega))))) (hx2.trans (by first | exact (cnt_t (by unfold lWit; first | exact decide_eq_true (by omega) | exact decide_eq_false (by omega))) | exact (cnt_f (by unfold lWit; first | exact decide_eq_true (by omega) | exact decide_eq_false (by omega))))) (hx3.trans (by rw [itF]; exact congrArg (itF (lMo z t) d (k + 1)) (by first | exact (lMo_t (by omega)).symm | exact (lMo_f (by omega)).symm))))
            · refine j_aload3 (q := 219) dL_told_218 rfl ?_
              refine j_iconst (q := 220) dL_told_219 rfl ?_
              refine j_iload19 (q := 222) dL_told_220 rfl ?_
              refine j_imul (q := 223) dL_told_222 rfl ?_
              refine j_iconst (q := 224) dL_told_223 rfl ?_
              refine j_iadd (q := 225) dL_told_224 rfl ?_
              refine j_l1_2 (q := 226) dL_told_225 rfl hs (by omega) ?_
              refine j_if_ge (tgt := 258) (q := 229) dL_told_226 (by decide) rfl (by first | exact wr_id' (by omega) (by omega) | with_reducible exact wr_bI _ | exact rfl) (fun h226 => ?_) (fun h226 => ?_)
              · refine j_iinc19 (q := 261) dL_told_258 rfl rfl (by decide) ?_
                refine j_goto (tgt := 145) dL_told_261 (by decide) ?_
                exact ih _ _ _ _ (by omega) (by omega) (by omega) (by omega) (fun x1 x2 x3 hx1 hx2 hx3 => kk x1 x2 x3 (hx1.trans (by first | exact (cnt_t (by unfold lOwn; first | exact decide_eq_true (by omega) | exact decide_eq_false (by omega))) | exact (cnt_f (by unfold lOwn; first | exact decide_eq_true (by omega) | exact decide_eq_false (by omega))))) (hx2.trans (by first | exact (cnt_t (by unfold lWit; first | exact decide_eq_true (by omega) | exact decide_eq_false (by omega))) | exact (cnt_f (by unfold lWit; first | exact decide_eq_true (by omega) | exact decide_eq_false (by omega))))) (hx3.trans (by rw [itF]; exact congrArg (itF (lMo z t) d (k + 1)) (by first | exact (lMo_t (by omega)).symm | exact (lMo_f (by omega)).symm))))
              · refine j_iload19 (q := 231) dL_told_229 rfl ?_
                refine j_iload14 (q := 233) dL_told_231 rfl ?_
                refine j_aload2 (q := 234) dL_told_233 rfl ?_
                refine j_aload3 (q := 235) dL_told_234 rfl ?_
                refine j_aload8 (q := 237) dL_told_235 rfl ?_
                refine j_callS5 (Mc := iL_risk) (q := 240) (c' := 0) (s' := 0) dL_told_237 rfl kS_L_risk jw_509 ⟨by decide, by decide⟩ rfl (Nat.le_refl _) (Nat.le_refl _) (ct_L_riskt E hs ⟨by omega, by omega⟩ (by omega) hX) ?_
                refine j_iload18 (q := 242) dL_told_240 rfl ?_
                refine j_icmp_le (tgt := 258) (q := 245) dL_told_242 (by decide) rfl (by first | exact wr_id' (by omega) (by omega) | with_reducible exact wr_bI _ | exact rfl) (by first | exact wr_id' (by omega) (by omega) | with_reducible exact wr_bI _ | exact rfl) (fun h242 => ?_) (fun h242 => ?_)
                · refine j_iinc19 (q := 261) dL_told_258 rfl rfl (by decide) ?_
                  refine j_goto (tgt := 145) dL_told_261 (by decide) ?_
                  exact ih _ _ _ _ (by omega) (by omega) (by omega) (by omega) (fun x1 x2 x3 hx1 hx2 hx3 => kk x1 x2 x3 (hx1.trans (by first | exact (cnt_t (by unfold lOwn; first | exact decide_eq_true (by omega) | exact decide_eq_false (by omega))) | exact (cnt_f (by unfold lOwn; first | exact decide_eq_true (by omega) | exact decide_eq_false (by omega))))) (hx2.trans (by first | exact (cnt_t (by unfold lWit; first | exact decide_eq_true (by omega) | exact decide_eq_false (by omega))) | exact (cnt_f (by unfold lWit; first | exact decide_eq_true (by omega) | exact decide_eq_false (by omega))))) (hx3.trans (by rw [itF]; exact congrArg (itF (lMo z t) d (k + 1)) (by first | exact (lMo_t (by omega)).symm | exact (lMo_f (by omega)).symm))))
                · refine j_iload19 (q := 247) dL_told_245 rfl ?_
                  refine j_iload14 (q := 249) dL_told_247 rfl ?_
                  refine j_aload2 (q := 250) dL_told_249 rfl ?_
                  refine j_aload3 (q := 251) dL_told_250 rfl ?_
                  refine j_aload8 (q := 253) dL_told_251 rfl ?_
                  refine j_callS5 (Mc := iL_risk) (q := 256) (c' := 0) (s' := 0) dL_told_253 rfl kS_L_risk jw_509 ⟨by decide, by decide⟩ rfl (Nat.le_refl _) (Nat.le_refl _) (ct_L_riskt E hs ⟨by omega, by omega⟩ (by omega) hX) ?_
                  refine j_istore18 (q := 258) dL_told_256 rfl rfl (by decide) ?_
                  refine j_iinc19 (q := 261) dL_told_258 rfl rfl (by decide) ?_
                  refine j_goto (tgt := 145) dL_told_261 (by decide) ?_
                  exact ih _ _ _ _ (by omega) (by omega) (by omega) (by omega) (fun x1 x2 x3 hx1 hx2 hx3 => kk x1 x2 x3 (hx1.trans (by first | exact (cnt_t (by unfold lOwn; first | exact decide_eq_true (by omega) | exact decide_eq_false (by omega))) | exact (cnt_f (by unfold lOwn; first | exact decide_eq_true (by omega) | exact decide_eq_false (by omega))))) (hx2.trans (by first | exact (cnt_t (by unfold lWit; first | exact decide_eq_true (by omega) | exact decide_eq_false (by omega))) | exact (cnt_f (by unfold lWit; first | exact decide_eq_true (by omega) | exact decide_eq_false (by omega))))) (hx3.trans (by rw [itF]; exact congrArg (itF (lMo z t) d (k + 1)) (by first | exact (lMo_t (by omega)).symm | exact (lMo_f (by omega)).symm))))
          · refine j_iconst (q := 200) dL_told_199 rfl ?_
            refine j_goto (tgt := 204) dL_told_200 (by decide) ?_
            refine j_iadd (q := 205) dL_told_204 rfl ?_
            refine j_istore16 (q := 207) dL_told_205 rfl rfl (by decide) ?_
            refine j_aload2 (q := 208) dL_told_207 rfl ?_
            refine j_iconst (q := 209) dL_told_208 rfl ?_
            refine j_iload19 (q := 211) dL_told_209 rfl ?_
            refine j_imul (q := 212) dL_told_211 rfl ?_
            refine j_iconst (q := 213) dL_told_212 rfl ?_
            refine j_iadd (q := 214) dL_told_213 rfl ?_
            refine j_l0_2 (q := 215) dL_told_214 rfl hs (by omega) ?_
            refine j_if_lt (tgt := 258) (q := 218) dL_told_215 (by decide) rfl (by first | exact wr_id' (by omega) (by omega) | with_reducible exact wr_bI _ | exact rfl) (fun h215 => ?_) (fun h215 => ?_)
            · refine j_iinc19 (q := 261) dL_told_258 rfl rfl (by decide) ?_
              refine j_goto (tgt := 145) dL_told_261 (by decide) ?_
              exact ih _ _ _ _ (by omega) (by omega) (by omega) (by omega) (fun x1 x2 x3 hx1 hx2 hx3 => kk x1 x2 x3 (hx1.trans (by first | exact (cnt_t (by unfold lOwn; first | exact decide_eq_true (by omega) | exact decide_eq_false (by omega))) | exact (cnt_f (by unfold lOwn; first | exact decide_eq_true (by omega) | exact decide_eq_false (by omega))))) (hx2.trans (by first | exact (cnt_t (by unfold lWit; first | exact decide_eq_true (by omega) | exact decide_eq_false (by omega))) | exact (cnt_f (by unfold lWit; first | exact decide_eq_true (by omega) | exact decide_eq_false (by omega))))) (hx3.trans (by rw [itF]; exact congrArg (itF (lMo z t) d (k + 1)) (by first | exact (lMo_t (by omega)).symm | exact (lMo_f (by omega)).symm))))
            · refine j_aload3 (q := 219) dL_told_218 rfl ?_
              refine j_iconst (q := 220) dL_told_219 rfl ?_
              refine j_iload19 (q := 222) dL_told_220 rfl ?_
              refine j_imul (q := 223) dL_told_222 rfl ?_
              refine j_iconst (q := 224) dL_told_223 rfl ?_
              refine j_iadd (q := 225) dL_told_224 rfl ?_
              refine j_l1_2 (q := 226) dL_told_225 rfl hs (by omega) ?_
              refine j_if_ge (tgt := 258) (q := 229) dL_told_226 (by decide) rfl (by first | exact wr_id' (by omega) (by omega) | with_reducible exact wr_bI _ | exact rfl) (fun h226 => ?_) (fun h226 => ?_)
              · refine j_iinc19 (q := 261) dL_told_258 rfl rfl (by decide) ?_
                refine j_goto (tgt := 145) dL_told_261 (by decide) ?_
                exact ih _ _ _ _ (by omega) (by omega) (by omega) (by omega) (fun x1 x2 x3 hx1 hx2 hx3 => kk x1 x2 x3 (hx1.trans (by first | exact (cnt_t (by unfold lOwn; first | exact decide_eq_true (by omega) | exact decide_eq_false (by omega))) | exact (cnt_f (by unfold lOwn; first | exact decide_eq_true (by omega) | exact decide_eq_false (by omega))))) (hx2.trans (by first | exact (cnt_t (by unfold lWit; first | exact decide_eq_true (by omega) | exact decide_eq_false (by omega))) | exact (cnt_f (by unfold lWit; first | exact decide_eq_true (by omega) | exact decide_eq_false (by omega))))) (hx3.trans (by rw [itF]; exact congrArg (itF (lMo z t) d (k + 1)) (by first | exact (lMo_t (by omega)).symm | exact (lMo_f (by omega)).symm))))
              · refine j_iload19 (q := 231) dL_told_229 rfl ?_
                refine j_iload14 (q := 233) dL_told_231 rfl ?_
                refine j_aload2 (q := 234) dL_told_233 rfl ?_
                refine j_aload3 (q := 235) dL_told_234 rfl ?_
                refine j_aload8 (q := 237) dL_told_235 rfl ?_
                refine j_callS5 (Mc := iL_risk) (q := 240) (c' := 0) (s' := 0) dL_told_237 rfl kS_L_risk jw_509 ⟨by decide, by decide⟩ rfl (Nat.le_refl _) (Nat.le_refl _) (ct_L_riskt E hs ⟨by omega, by omega⟩ (by omega) hX) ?_
                refine j_iload18 (q := 242) dL_told_240 rfl ?_
                refine j_icmp_le (tgt := 258) (q := 245) dL_told_242 (by decide) rfl (by first | exact wr_id' (by omega) (by omega) | with_reducible exact wr_bI _ | exact rfl) (by first | exact wr_id' (by omega) (by omega) | with_reducible exact wr_bI _ | exact rfl) (fun h242 => ?_) (fun h242 => ?_)
                · refine j_iinc19 (q := 261) dL_told_258 rfl rfl (by decide) ?_
                  refine j_goto (tgt := 145) dL_told_261 (by decide) ?_
                  exact ih _ _ _ _ (by omega) (by omega) (by omega) (by omega) (fun x1 x2 x3 hx1 hx2 hx3 => kk x1 x2 x3 (hx1.trans (by first | exact (cnt_t (by unfold lOwn; first | exact decide_eq_true (by omega) | exact decide_eq_false (by omega))) | exact (cnt_f (by unfold lOwn; first | exact decide_eq_true (by omega) | exact decide_eq_false (by omega))))) (hx2.trans (by first | exact (cnt_t (by unfold lWit; first | exact decide_eq_true (by omega) | exact decide_eq_false (by omega))) | exact (cnt_f (by unfold lWit; first | exact decide_eq_true (by omega) | exact decide_eq_false (by omega))))) (hx3.trans (by rw [itF]; exact congrArg (itF (lMo z t) d (k + 1)) (by first | exact (lMo_t (by omega)).symm | exact (lMo_f (by omega)).symm))))
                · refine j_iload19 (q := 247) dL_told_245 rfl ?_
                  refine j_iload14 (q := 249) dL_told_247 rfl ?_
                  refine j_aload2 (q := 250) dL_told_249 rfl ?_
                  refine j_aload3 (q := 251) dL_told_250 rfl ?_
                  refine j_aload8 (q := 253) dL_told_251 rfl ?_
                  refine j_callS5 (Mc := iL_risk) (q := 256) (c' := 0) (s' := 0) dL_told_253 rfl kS_L_risk jw_509 ⟨by decide, by decide⟩ rfl (Nat.le_refl _) (Nat.le_refl _) (ct_L_riskt E hs ⟨by omega, by omega⟩ (by omega) hX) ?_
                  refine j_istore18 (q := 258) dL_told_256 rfl rfl (by decide) ?_
                  refine j_iinc19 (q := 261) dL_told_258 rfl rfl (by decide) ?_
                  refine j_goto (tgt := 145) dL_told_261 (by decide) ?_
                  exact ih _ _ _ _ (by omega) (by omega) (by omega) (by omega) (fun x1 x2 x3 hx1 hx2 hx3 => kk x1 x2 x3 (hx1.trans (by first | exact (cnt_t (by unfold lOwn; first | exact decide_eq_true (by omega) | exact decide_eq_false (by omega))) | exact (cnt_f (by unfold lOwn; first | exact decide_eq_true (by omega) | exact decide_eq_false (by omega))))) (hx2.trans (by first | exact (cnt_t (by unfold lWit; first | exact decide_eq_true (by omega) | exact decide_eq_false (by omega))) | exact (cnt_f (by unfold lWit; first | exact decide_eq_true (by omega) | exact decide_eq_false (by omega))))) (hx3.trans (by rw [itF]; exact congrArg (itF (lMo z t) d (k + 1)) (by first | exact (lMo_t (by omega)).symm | exact (lMo_f (by omega)).symm))))
theorem lp_L_told_2c {G : GX} {sh : List SH} {p : Bool} (V : EV G sh) (E : EW G sh) (hs : LA sh p) {m P : Mem} {z : Z} {T B K : Int} {F : FinT} {x c4 c5 c7 c6 t u v mo i : Int} (Q : QP (lz m p z) P z T B K) (ht : 0 ≤ t ∧ t < 3) (hi : 0 ≤ i ∧ i < 2) : ∀ (d : Nat) (k : Int) (n : Int), k + d = z (41 + 6 * i + 5) → 0 ≤ k → (∀ (x1 : Int), x1 = cntF (fun k => decide (wr (z (635 + 520 * i + k)) = t)) d k n → J G sh iL_told 0 0 F 326 [some (.inr (.ref 0)), some (.inl x), some (.inr (.ref (ix p 0))), some (.inr (.ref (ix p 1))), some (.inr (.ref (ix p 2))), some (.inr (.ref (ix p 3))), some (.inr (.ref (ix p 4))), some (.inr (.ref (ix p 5))), some (.inr (.ref (ix p 7))), some (.inr (.ref (ix p 6))), some (.inl c4), some (.inl c5), some (.inl c7), some (.inl c6), some (.inl t), some (.inl u), some (.inl v), some (.inl x1), some (.inl mo), some (.inl i), none] [] (lz m p z) 0 0) → J G sh iL_told 0 0 F 279 [some (.inr (.ref 0)), some (.inl x), some (.inr (.ref (ix p 0))), some (.inr (.ref (ix p 1))), some (.inr (.ref (ix p 2))), some (.inr (.ref (ix p 3))), some (.inr (.ref (ix p 4))), some (.inr (.ref (ix p 5))), some (.inr (.ref (ix p 7))), some (.inr (.ref (ix p 6))), some (.inl c4), some (.inl c5), some (.inl c7), some (.inl c6), some (.inl t), some (.inl u), some (.inl v), some (.inl n), some (.inl mo), some (.inl i), some (.inl k)] [] (lz m p z) 0 0 := by
  intro d
  induction d with
  | zero =>
    intro k n g0 g1 kk
    have hX := Q.2.2.2.1
    have hI := Q.2.1.2.2.2.2.2
    have hw := LX_wt hX hi
    refine j_iload20 (q := 281) dL_told_279 rfl ?_
    refine j_aload6 (q := 283) dL_told_281 rfl ?_
    refine j_bipush (q := 285) dL_told_283 rfl rfl ?_
    refine j_iload19 (q := 287) dL_told_285 rfl ?_
    refine j_imul (q := 288) dL_told_287 rfl ?_
    refine j_iconst (q := 289) dL_told_288 rfl ?_
    refine j_iadd (q := 290) dL_told_289 rfl ?_
    refine j_l4_5 (q := 291) dL_told_290 rfl hs (by omega) ?_
    refine j_icmp_ge (tgt := 326) (q := 294) dL_told_291 (by decide) rfl (by first | exact wr_id' (by omega) (by omega) | with_reducible exact wr_bI _ | exact rfl) (by first | exact wr_id' (by omega) (by omega) | with_reducible exact wr_bI _ | exact rfl) (fun h291 => ?_) (fun h291 => ?_)
    · refine j_fgt20 ?_
      exact kk _ rfl
    · omega
  | succ d ih =>
    intro k n g0 g1 kk
    have hX := Q.2.2.2.1
    have hI := Q.2.1.2.2.2.2.2
    have hw := LX_wt hX hi
    refine j_iload20 (q := 281) dL_told_279 rfl ?_
    refine j_aload6 (q := 283) dL_told_281 rfl ?_
    refine j_bipush (q := 285) dL_told_283 rfl rfl ?_
    refine j_iload19 (q := 287) dL_told_285 rfl ?_
    refine j_imul (q := 288) dL_told_287 rfl ?_
    refine j_iconst (q := 289) dL_told_288 rfl ?_
    refine j_iadd (q := 290) dL_told_289 rfl ?_
    refine j_l4_5 (q := 291) dL_told_290 rfl hs (by omega) ?_
    refine j_icmp_ge (tgt := 326) (q := 294) dL_told_291 (by decide) rfl (by first | exact wr_id' (by omega) (by omega) | with_reducible exact wr_bI _ | exact rfl) (by first | exact wr_id' (by omega) (by omega) | with_reducible exact wr_bI _ | exact rfl) (fun h291 => ?_) (fun h291 => ?_)
    · omega
    · refine j_iload17 (q := 296) dL_told_294 rfl ?_
      refine j_aload7 (q := 298) dL_told_296 rfl ?_
      refine j_bipush (q := 300) dL_told_298 rfl rfl ?_
      refine j_iload19 (q := 302) dL_told_300 rfl ?_
      refine j_imul (q := 303) dL_told_302 rfl ?_
      refine j_iload20 (q := 305) dL_told_303 rfl ?_
      refine j_iadd (q := 306) dL_told_305 rfl ?_
      refine j_l5_v (q := 307) dL_told_306 rfl hs (by omega) ?_
      refine j_iload14 (q := 309) dL_told_307 rfl ?_
      refine j_icmp_ne (tgt := 316) (q := 312) dL_told_309 (by decide) rfl rfl (by first | exact wr_id' (by omega) (by omega) | with_reducible exact wr_bI _ | exact rfl) (fun h309 => ?_) (fun h309 => ?_)
      · refine j_iconst (q := 317) dL_told_316 rfl ?_
        refine j_iadd (q := 318) dL_told_317 rfl ?_
        refine j_istore17 (q := 320) dL_told_318 rfl rfl (by decide) ?_
        refine j_iinc20 (q := 323) dL_told_320 rfl rfl (by decide) ?_
        refine j_goto (tgt := 279) dL_told_323 (by decide) ?_
        exact ih _ _ (by omega) (by omega) (fun x1 hx1 => kk x1 (hx1.trans (by first | exact (cnt_t (by first | exact decide_eq_true (by omega) | exact decide_eq_false (by omega))) | exact (cnt_f (by first | exact decide_eq_true (by omega) | exact decide_eq_false (by omega))))))
      · refine j_iconst (q := 313) dL_told_312 rfl ?_
        refine j_goto (tgt := 317) dL_told_313 (by decide) ?_
        refine j_iadd (q := 318) dL_told_317 rfl ?_
        refine j_istore17 (q := 320) dL_told_318 rfl rfl (by decide) ?_
        refine j_iinc20 (q := 323) dL_told_320 rfl rfl (by decide) ?_
        refine j_goto (tgt := 279) dL_told_323 (by decide) ?_
        exact ih _ _ (by omega) (by omega) (fun x1 hx1 => kk x1 (hx1.trans (by first | exact (cnt_t (by first | exact decide_eq_true (by omega) | exact decide_eq_false (by omega))) | exact (cnt_f (by first | exact decide_eq_true (by omega) | exact decide_eq_false (by omega))))))
theorem lp_L_told_2b {G : GX} {sh : List SH} {p : Bool} (V : EV G sh) (E : EW G sh) (hs : LA sh p) {m P : Mem} {z : Z} {T B K : Int} {F : FinT} {x c4 c5 c7 c6 t u v mo : Int} (Q : QP (lz m p z) P z T B K) (hN : NI z) (ht : 0 ≤ t ∧ t < 3) : ∀ (d : Nat) (i : Int) (n : Int), i + d = z 3 → 0 ≤ i → (∀ (x1 : Int), x1 = zWqF z t d i n → J G sh iL_told 0 0 F 332 [some (.inr (.ref 0)), some (.inl x), some (.inr (.ref (ix p 0))), some (.inr (.ref (ix p 1))), some (.inr (.ref (ix p 2))), some (.inr (.ref (ix p 3))), some (.inr (.ref (ix p 4))), some (.inr (.ref (ix p 5))), some (.inr (.ref (ix p 7))), some (.inr (.ref (ix p 6))), some (.inl c4), some (.inl c5), some (.inl c7), some (.inl c6), some (.inl t), some (.inl u), some (.inl v), some (.inl x1), some (.inl mo), none, none] [] (lz m p z) 0 0) → J G sh iL_told 0 0 F 267 [some (.inr (.ref 0)), some (.inl x), some (.inr (.ref (ix p 0))), some (.inr (.ref (ix p 1))), some (.inr (.ref (ix p 2))), some (.inr (.ref (ix p 3))), some (.inr (.ref (ix p 4))), some (.inr (.ref (ix p 5))), some (.inr (.ref (ix p 7))), some (.inr (.ref (ix p 6))), some (.inl c4), some (.inl c5), some (.inl c7), some (.inl c6), some (.inl t), some (.inl u), some (.inl v), some (.inl n), some (.inl mo), some (.inl i), none] [] (lz m p z) 0 0 := by
  intro d
  induction d with
  | zero =>
    intro i n g0 g1 kk
    have hX := Q.2.2.2.1
    have hI := Q.2.1.2.2.2.2.2
    have hN3 := hN.2
    refine j_iload19 (q := 269) dL_told_267 rfl ?_
    refine j_aload9 (q := 271) dL_told_269 rfl ?_
    refine j_iconst (q := 272) dL_told_271 rfl ?_
    refine j_l6_0 (q := 273) dL_told_272 rfl hs (by omega) ?_
    refine j_icmp_ge (tgt := 332) (q := 276) dL_told_273 (by decide) rfl (by first | exact wr_id' (by omega) (by omega) | with_reducible exact wr_bI _ | exact rfl) (by first | exact wr_id' (by omega) (by omega) | with_reducible exact wr_bI _ | exact rfl) (fun h273 => ?_) (fun h273 => ?_)
    · refine j_fgt19 ?_
      exact kk _ rfl
    · omega
  | succ d ih =>
    intro i n g0 g1 kk
    have hX := Q.2.2.2.1
    have hI := Q.2.1.2.2.2.2.2
    have hN3 := hN.2
    refine j_iload19 (q := 269) dL_told_267 rfl ?_
    refine j_aload9 (q := 271) dL_told_269 rfl ?_
    refine j_iconst (q := 272) dL_told_271 rfl ?_
    refine j_l6_0 (q := 273) dL_told_272 rfl hs (by omega) ?_
    refine j_icmp_ge (tgt := 332) (q := 276) dL_told_273 (by decide) rfl (by first | exact wr_id' (by omega) (by omega) | with_reducible exact wr_bI _ | exact rfl) (by first | exact wr_id' (by omega) (by omega) | with_reducible exact wr_bI _ | exact rfl) (fun h273 => ?_) (fun h273 => ?_)
    · omega
    · have hw := LX_wt hX (i := i) ⟨by omega, by omega⟩
      refine j_iconst (q := 277) dL_told_276 rfl ?_
      refine j_istore20 (q := 279) dL_told_277 rfl rfl (by decide) ?_
      refine lp_L_told_2c V E hs Q ht ⟨by omega, by omega⟩ (z (41 + 6 * i + 5)).toNat 0 _ (by omega) (by omega) ?_
      intro x1 hx1
      refine j_iinc19 (q := 329) dL_told_326 rfl rfl (by decide) ?_
      refine j_goto (tgt := 267) dL_told_329 (by decide) ?_
      exact ih _ _ (by omega) (by omega) (fun x2 hx2 => kk x2 (hx2.trans (by rw [hx1, zWqF, wr_id' (by omega) (by omega)])))
theorem lp_L_told_2 {G : GX} {sh : List SH} {p : Bool} (V : EV G sh) (E : EW G sh) (hs : LA sh p) {m P : Mem} {z : Z} {T B K : Int} {F : FinT} {x c4 c5 c7 c6 : Int} (Q : QP (lz m p z) P z T B K) (hN : NI z) (kk : J G sh iL_told 0 0 F 442 [some (.inr (.ref 0)), some (.inl x), some (.inr (.ref (ix p 0))), some (.inr (.ref (ix p 1))), some (.inr (.ref (ix p 2))), some (.inr (.ref (ix p 3))), some (.inr (.ref (ix p 4))), some (.inr (.ref (ix p 5))), some (.inr (.ref (ix p 7))), some (.inr (.ref (ix p 6))), some (.inl c4), some (.inl c5), some (.inl c7), some (.inl c6), none, none, none, none, none, none, none] [] (lz m p z) 0 0) : ∀ (d : Nat) (t : Int), t + d = z 2 → 0 ≤ t → J G sh iL_told 0 0 F 121 [some (.inr (.ref 0)), some (.inl x), some (.inr (.ref (ix p 0))), some (.inr (.ref (ix p 1))), some (.inr (.ref (ix p 2))), some (.inr (.ref (ix p 3))), some (.inr (.ref (ix p 4))), some (.inr (.ref (ix p 5))), some (.inr (.ref (ix p 7))), some (.inr (.ref (ix p 6))), some (.inl c4), some (.inl c5), some (.inl c7), some (.inl c6), some (.inl t), none, none, none, none, none, none] [] (lz m p z) 0 0 := by
  intro d
  induction d with
  | zero =>
    intro t g0 g1
    have hX := Q.2.2.2.1
    have hI := Q.2.1.2.2.2.2.2
    have hN2 := hN.1
    have hN3 := hN.2
    refine j_iload14 (q := 123) dL_told_121 rfl ?_
    refine j_aload9 (q := 125) dL_told_123 rfl ?_
    refine j_iconst (q := 126) dL_told_125 rfl ?_
    refine j_l6_0 (q := 127) dL_told_126 rfl hs (by omega) ?_
    refine j_icmp_ge (tgt := 442) (q := 130) dL_told_127 (by decide) rfl (by first | exact wr_id' (by omega) (by omega) | with_reducible exact wr_bI _ | exact rfl) (by first | exact wr_id' (by omega) (by omega) | with_reducible exact wr_bI _ | exact rfl) (fun h127 => ?_) (fun h127 => ?_)
    · refine j_fgt14 ?_
      exact kk
    · omega
  | succ d ih =>
    intro t g0 g1
    have hX := Q.2.2.2.1
    have hI := Q.2.1.2.2.2.2.2
    have hN2 := hN.1
    have hN3 := hN.2
    refine j_iload14 (q := 123) dL_told_121 rfl ?_
    refine j_aload9 (q := 125) dL_told_123 rfl ?_
    refine j_iconst (q := 126) dL_told_125 rfl ?_
    refine j_l6_0 (q := 127) dL_told_126 rfl hs (by omega) ?_
    refine j_icmp_ge (tgt := 442) (q := 130) dL_told_127 (by decide) rfl (by first | exact wr_id' (by omega) (by omega) | with_reducible exact wr_bI _ | exact rfl) (by first | exact wr_id' (by omega) (by omega) | with_reducible exact wr_bI _ | exact rfl) (fun h127 => ?_) (fun h127 => ?_)
    · omega
    · refine j_iconst (q := 131) dL_told_130 rfl ?_
      refine j_istore15 (q := 133) dL_told_131 rfl rfl (by decide) ?_
      refine j_iconst (q := 134) dL_told_133 rfl ?_
      refine j_istore16 (q := 136) dL_told_134 rfl rfl (by decide) ?_
      refine j_iconst (q := 137) dL_told_136 rfl ?_
      refine j_istore17 (q := 139) dL_told_137 rfl rfl (by decide) ?_
      refine j_iconst (q := 140) dL_told_139 rfl ?_
      refine j_istore18 (q := 142) dL_told_140 rfl rfl (by decide) ?_
      refine j_iconst (q := 143) dL_told_142 rfl ?_
      refine j_istore19 (q := 145) dL_told_143 rfl rfl (by decide) ?_
      refine lp_L_told_2a V E hs Q ⟨by omega, by omega⟩ 16 0 0 0 0 (by omega) (by omega) (by omega) (by omega) ?_
      intro x1 x2 x3 hx1 hx2 hx3
      refine j_iconst (q := 265) dL_told_264 rfl ?_
      refine j_istore19 (q := 267) dL_told_265 rfl rfl (by decide) ?_
      refine lp_L_told_2b V E hs Q hN ⟨by omega, by omega⟩ (z 3).toNat 0 0 (by omega) (by omega) ?_
      intro x4 hx4
      have e4 : zWqF z t (z 3).toNat 0 0 = zWq z t := by unfold zWq; rw [wr_id' (by omega) (by omega)]
      rw [e4] at hx4
      refine j_aload0 (q := 333) dL_told_332 rfl ?_
      refine j_iload14 (q := 335) dL_told_333 rfl ?_
      refine j_iconst (q := 336) dL_told_335 rfl ?_
      refine j_callV2 (Mc := iX7_tenant) (q := 339) (c' := 0) (s' := 0) dL_told_336 rfl kV_X7_tenant jw_525 ⟨by decide, by decide⟩ (V.2.2 _ _ sh_0) rfl rfl rfl (Nat.le_refl _) (Nat.le_refl _) (ct_r (qc_tenant V Q ⟨by omega, by omega⟩ (by decide)) v_ten0) ?_
      refine j_aload5 (q := 341) dL_told_339 rfl ?_
      refine j_iconst (q := 342) dL_told_341 rfl ?_
      refine j_iload14 (q := 344) dL_told_342 rfl ?_
      refine j_imul (q := 345) dL_told_344 rfl ?_
      refine j_l3_0 (q := 346) dL_told_345 rfl hs (by omega) ?_
      refine j_icmp_ne (tgt := 434) (q := 349) dL_told_346 (by decide) rfl rfl rfl (fun h346 => ?_) (fun h346 => ?_)
      · exact absurd rfl h346
      · refine j_aload0 (q := 350) dL_told_349 rfl ?_
        refine j_iload14 (q := 352) dL_told_350 rfl ?_
        refine j_iconst (q := 353) dL_told_352 rfl ?_
        refine j_callV2 (Mc := iX7_tenant) (q := 356) (c' := 0) (s' := 0) dL_told_353 rfl kV_X7_tenant jw_525 ⟨by decide, by decide⟩ (V.2.2 _ _ sh_0) rfl rfl rfl (Nat.le_refl _) (Nat.le_refl _) (ct_r (qc_tenant V Q ⟨by omega, by omega⟩ (by decide)) (v_ten1 hX)) ?_
        refine j_iload15 (q := 358) dL_told_356 rfl ?_
        refine j_icmp_ne (tgt := 434) (q := 361) dL_told_358 (by decide) rfl rfl rfl (fun h358 => ?_) (fun h358 => ?_)
        · exact absurd (by rw [hx1]) h358
        · refine j_aload0 (q := 362) dL_told_361 rfl ?_
          refine j_iload14 (q := 364) dL_told_362 rfl ?_
          refine j_iconst (q := 365) dL_told_364 rfl ?_
          refine j_callV2 (Mc := iX7_tenant) (q := 368) (c' := 0) (s' := 0) dL_told_365 rfl kV_X7_tenant jw_525 ⟨by decide, by decide⟩ (V.2.2 _ _ sh_0) rfl rfl rfl (Nat.le_refl _) (Nat.le_refl _) (ct_r (qc_tenant V Q ⟨by omega, by omega⟩ (by decide)) (v_ten2 hX)) ?_
          refine j_iload16 (q := 370) dL_told_368 rfl ?_
          refine j_icmp_ne (tgt := 434) (q := 373) dL_told_370 (by decide) rfl rfl rfl (fun h370 => ?_) (fun h370 => ?_)
          · exact absurd (by rw [hx2]) h370
          · refine j_aload0 (q := 374) dL_told_373 rfl ?_
            refine j_iload14 (q := 376) dL_told_374 rfl ?_
            refine j_iconst (q := 377) dL_told_376 rfl ?_
            refine j_callV2 (Mc := iX7_tenant) (q := 380) (c' := 0) (s' := 0) dL_told_377 rfl kV_X7_tenant jw_525 ⟨by decide, by decide⟩ (V.2.2 _ _ sh_0) rfl rfl rfl (Nat.le_refl _) (Nat.le_refl _) (ct_r (qc_tenant V Q ⟨by omega, by omega⟩ (by decide)) v_ten3) ?_
            refine j_aload5 (q := 382) dL_told_380 rfl ?_
            refine j_iconst (q := 383) dL_told_382 rfl ?_
            refine j_iload14 (q := 385) dL_told_383 rfl ?_
            refine j_imul (q := 386) dL_told_385 rfl ?_
            refine j_iconst (q := 387) dL_told_386 rfl ?_
            refine j_iadd (q := 388) dL_told_387 rfl ?_
            refine j_l3_1 (q := 389) dL_told_388 rfl hs (by omega) ?_
            refine j_icmp_ne (tgt := 434) (q := 392) dL_told_389 (by decide) rfl rfl rfl (fun h389 => ?_) (fun h389 => ?_)
            · exact absurd rfl h389
            · refine j_aload0 (q := 393) dL_told_392 rfl ?_
              refine j_iload14 (q := 395) dL_told_393 rfl ?_
              refine j_iconst (q := 396) dL_told_395 rfl ?_
              refine j_callV2 (Mc := iX7_tenant) (q := 399) (c' := 0) (s' := 0) dL_told_396 rfl kV_X7_tenant jw_525 ⟨by decide, by decide⟩ (V.2.2 _ _ sh_0) rfl rfl rfl (Nat.le_refl _) (Nat.le_refl _) (ct_r (qc_tenant V Q ⟨by omega, by omega⟩ (by decide)) v_ten4) ?_
              refine j_aload5 (q := 401) dL_told_399 rfl ?_
              refine j_iconst (q := 402) dL_told_401 rfl ?_
              refine j_iload14 (q := 404) dL_told_402 rfl ?_
              refine j_imul (q := 405) dL_told_404 rfl ?_
              refine j_iconst (q := 406) dL_told_405 rfl ?_
              refine j_iadd (q := 407) dL_told_406 rfl ?_
              refine j_l3_2 (q := 408) dL_told_407 rfl hs (by omega) ?_
              refine j_icmp_ne (tgt := 434) (q := 411) dL_told_408 (by decide) rfl rfl rfl (fun h408 => ?_) (fun h408 => ?_)
              · exact absurd rfl h408
              · refine j_aload0 (q := 412) dL_told_411 rfl ?_
                refine j_iload14 (q := 414) dL_told_412 rfl ?_
                refine j_iconst (q := 415) dL_told_414 rfl ?_
                refine j_callV2 (Mc := iX7_tenant) (q := 418) (c' := 0) (s' := 0) dL_told_415 rfl kV_X7_tenant jw_525 ⟨by decide, by decide⟩ (V.2.2 _ _ sh_0) rfl rfl rfl (Nat.le_refl _) (Nat.le_refl _) (ct_r (qc_tenant V Q ⟨by omega, by omega⟩ (by decide)) v_ten5) ?_
                refine j_iload17 (q := 420) dL_told_418 rfl ?_
                refine j_icmp_ne (tgt := 434) (q := 423) dL_told_420 (by decide) rfl rfl rfl (fun h420 => ?_) (fun h420 => ?_)
                · exact absurd (by rw [hx4]) h420
                · refine j_aload0 (q := 424) dL_told_423 rfl ?_
                  refine j_iload14 (q := 426) dL_told_424 rfl ?_
                  refine j_callV1 (Mc := iX7_atRisk) (q := 429) (c' := 0) (s' := 0) dL_told_426 rfl kV_X7_atRisk jw_547 ⟨by decide, by decide⟩ (V.2.2 _ _ sh_0) rfl rfl rfl (Nat.le_refl _) (Nat.le_refl _) (ct_r (qc_atRisk V Q ⟨by omega, by omega⟩) (v_risk hX hI ⟨by omega, by omega⟩)) ?_
                  refine j_iload18 (q := 431) dL_told_429 rfl ?_
                  refine j_icmp_eq (tgt := 436) (q := 434) dL_told_431 (by decide) rfl rfl rfl (fun h431 => ?_) (fun h431 => ?_)
                  · refine j_iinc14 (q := 439) dL_told_436 rfl rfl (by decide) ?_
                    refine j_goto (tgt := 121) dL_told_439 (by decide) ?_
                    refine j_fgt15 ?_
                    refine j_fgt16 ?_
                    refine j_fgt17 ?_
                    refine j_fgt18 ?_
                    exact ih _ (by omega) (by omega)
                  · exact absurd (by rw [hx3]) h431
theorem lp_L_told_3a {G : GX} {sh : List SH} {p : Bool} (V : EV G sh) (E : EW G sh) (hs : LA sh p) {m P : Mem} {z : Z} {T B K : Int} {F : FinT} {x c4 c5 c7 c6 i : Int} (Q : QP (lz m p z) P z T B K) (hi : 0 ≤ i ∧ i < 2) : ∀ (d : Nat) (k : Int) (n : Int), k + d = 16 → 0 ≤ k → (∀ (x1 : Int), x1 = cntF (lPol z i) d k n → J G sh iL_told 0 0 F 494 [some (.inr (.ref 0)), some (.inl x), some (.inr (.ref (ix p 0))), some (.inr (.ref (ix p 1))), some (.inr (.ref (ix p 2))), some (.inr (.ref (ix p 3))), some (.inr (.ref (ix p 4))), some (.inr (.ref (ix p 5))), some (.inr (.ref (ix p 7))), some (.inr (.ref (ix p 6))), some (.inl c4), some (.inl c5), some (.inl c7), some (.inl c6), some (.inl i), some (.inl x1), none, none, none, none, none] [] (lz m p z) 0 0) → J G sh iL_told 0 0 F 460 [some (.inr (.ref 0)), some (.inl x), some (.inr (.ref (ix p 0))), some (.inr (.ref (ix p 1))), some (.inr (.ref (ix p 2))), some (.inr (.ref (ix p 3))), some (.inr (.ref (ix p 4))), some (.inr (.ref (ix p 5))), some (.inr (.ref (ix p 7))), some (.inr (.ref (ix p 6))), some (.inl c4), some (.inl c5), some (.inl c7), some (.inl c6), some (.inl i), some (.inl n), some (.inl k), none, none, none, none] [] (lz m p z) 0 0 := by
  intro d
  induction d with
  | zero =>
    intro k n g0 g1 kk
    have hX := Q.2.2.2.1
    have hI := Q.2.1.2.2.2.2.2
    refine j_iload16 (q := 462) dL_told_460 rfl ?_
    refine j_bipush (q := 464) dL_told_462 rfl rfl ?_
    refine j_icmp_ge (tgt := 494) (q := 467) dL_told_464 (by decide) rfl (by first | exact wr_id' (by omega) (by omega) | with_reducible exact wr_bI _ | exact rfl) (by first | exact wr_id' (by omega) (by omega) | with_reducible exact wr_bI _ | exact rfl) (fun h464 => ?_) (fun h464 => ?_)
    · refine j_fgt16 ?_
      exact kk _ rfl
    · omega
  | succ d ih =>
    intro k n g0 g1 kk
    have hX := Q.2.2.2.1
    have hI := Q.2.1.2.2.2.2.2
    refine j_iload16 (q := 462) dL_told_460 rfl ?_
    refine j_bipush (q := 464) dL_told_462 rfl rfl ?_
    refine j_icmp_ge (tgt := 494) (q := 467) dL_told_464 (by decide) rfl (by first | exact wr_id' (by omega) (by omega) | with_reducible exact wr_bI _ | exact rfl) (by first | exact wr_id' (by omega) (by omega) | with_reducible exact wr_bI _ | exact rfl) (fun h464 => ?_) (fun h464 => ?_)
    · omega
    · have hc := cr_b (k := k) ⟨by omega, by omega⟩
      have hb := hX.2.2 (cr k) hc.1 hc.2
      have hb0 := hb.1
      rw [← Int.add_zero (59 + 9 * cr k)] at hb0
      have hu := hI.du (cr k) hc.1 hc.2
      have hT := hI.tT
      refine j_iload15 (q := 469) dL_told_467 rfl ?_
      refine j_aload3 (q := 470) dL_told_469 rfl ?_
      refine j_iconst (q := 471) dL_told_470 rfl ?_
      refine j_iload16 (q := 473) dL_told_471 rfl ?_
      refine j_imul (q := 474) dL_told_473 rfl ?_
      refine j_l1_0 (q := 475) dL_told_474 rfl hs (by omega) ?_
      refine j_iload14 (q := 477) dL_told_475 rfl ?_
      refine j_icmp_ne (tgt := 484) (q := 480) dL_told_477 (by decide) rfl (by first | exact wr_id' (by omega) (by omega) | with_reducible exact wr_bI _ | exact rfl) (by first | exact wr_id' (by omega) (by omega) | with_reducible exact wr_bI _ | exact rfl) (fun h477 => ?_) (fun h477 => ?_)
      · refine j_iconst (q := 485) dL_told_484 rfl ?_
        refine j_iadd (q := 486) dL_told_485 rfl ?_
        refine j_istore15 (q := 488) dL_told_486 rfl rfl (by decide) ?_
        refine j_iinc16 (q := 491) dL_told_488 rfl rfl (by decide) ?_
        refine j_goto (tgt := 460) dL_told_491 (by decide) ?_
        exact ih _ _ (by omega) (by omega) (fun x1 hx1 => kk x1 (hx1.trans (by first | exact (cnt_t (by unfold lPol; first | exact decide_eq_true (by omega) | exact decide_eq_false (by omega))) | exact (cnt_f (by unfold lPol; first | exact decide_eq_true (by omega) | exact decide_eq_false (by omega))))))
      · refine j_iconst (q := 481) dL_told_480 rfl ?_
        refine j_goto (tgt := 485) dL_told_481 (by decide) ?_
        refine j_iadd (q := 486) dL_told_485 rfl ?_
        refine j_istore15 (q := 488) dL_told_486 rfl rfl (by decide) ?_
        refine j_iinc16 (q := 491) dL_told_488 rfl rfl (by decide) ?_
        refine j_goto (tgt := 460) dL_told_491 (by decide) ?_
        exact ih _ _ (by omega) (by omega) (fun x1 hx1 => kk x1 (hx1.trans (by first | exact (cnt_t (by unfold lPol; first | exact decide_eq_true (by omega) | exact decide_eq_false (by omega))) | exact (cnt_f (by unfold lPol; first | exact decide_eq_true (by omega) | exact decide_eq_false (by omega))))))
theorem lp_L_told_3b {G : GX} {sh : List SH} {p : Bool} (V : EV G sh) (E : EW G sh) (hs : LA sh p) {m P : Mem} {z : Z} {T B K : Int} {F : FinT} {x c4 c5 c7 c6 i n : Int} (Q : QP (lz m p z) P z T B K) (hN : NI z) (hi : 0 ≤ i ∧ i < z 3) (kk : J G sh iL_told 0 0 F 533 [some (.inr (.ref 0)), some (.inl x), some (.inr (.ref (ix p 0))), some (.inr (.ref (ix p 1))), some (.inr (.ref (ix p 2))), some (.inr (.ref (ix p 3))), some (.inr (.ref (ix p 4))), some (.inr (.ref (ix p 5))), some (.inr (.ref (ix p 7))), some (.inr (.ref (ix p 6))), some (.inl c4), some (.inl c5), some (.inl c7), some (.inl c6), some (.inl i), some (.inl n), none, none, none, none, none] [] (lz m p z) 0 0) : ∀ (d : Nat) (k : Int), k + d = 3 → 0 ≤ k → J G sh iL_told 0 0 F 497 [some (.inr (.ref 0)), some (.inl x), some (.inr (.ref (ix p 0))), some (.inr (.ref (ix p 1))), some (.inr (.ref (ix p 2))), some (.inr (.ref (ix p 3))), some (.inr (.ref (ix p 4))), some (.inr (.ref (ix p 5))), some (.inr (.ref (ix p 7))), some (.inr (.ref (ix p 6))), some (.inl c4), some (.inl c5), some (.inl c7), some (.inl c6), some (.inl i), some (.inl n), some (.inl k), none, none, none, none] [] (lz m p z) 0 0 := by
  intro d
  induction d with
  | zero =>
    intro k g0 g1
    have hX := Q.2.2.2.1
    have hI := Q.2.1.2.2.2.2.2
    have hN3 := hN.2
    refine j_iload16 (q := 499) dL_told_497 rfl ?_
    refine j_iconst (q := 500) dL_told_499 rfl ?_
    refine j_icmp_ge (tgt := 533) (q := 503) dL_told_500 (by decide) rfl (by first | exact wr_id' (by omega) (by omega) | with_reducible exact wr_bI _ | exact rfl) (by first | exact wr_id' (by omega) (by omega) | with_reducible exact wr_bI _ | exact rfl) (fun h500 => ?_) (fun h500 => ?_)
    · refine j_fgt16 ?_
      exact kk
    · omega
  | succ d ih =>
    intro k g0 g1
    have hX := Q.2.2.2.1
    have hI := Q.2.1.2.2.2.2.2
    have hN3 := hN.2
    refine j_iload16 (q := 499) dL_told_497 rfl ?_
    refine j_iconst (q := 500) dL_told_499 rfl ?_
    refine j_icmp_ge (tgt := 533) (q := 503) dL_told_500 (by decide) rfl (by first | exact wr_id' (by omega) (by omega) | with_reducible exact wr_bI _ | exact rfl) (by first | exact wr_id' (by omega) (by omega) | with_reducible exact wr_bI _ | exact rfl) (fun h500 => ?_) (fun h500 => ?_)
    · omega
    · refine j_aload0 (q := 504) dL_told_503 rfl ?_
      refine j_iload14 (q := 506) dL_told_504 rfl ?_
      refine j_iload16 (q := 508) dL_told_506 rfl ?_
      refine j_callV2 (Mc := iX7_insurer) (q := 511) (c' := 0) (s' := 0) dL_told_508 rfl kV_X7_insurer jw_553 ⟨by decide, by decide⟩ (V.2.2 _ _ sh_0) rfl rfl rfl (Nat.le_refl _) (Nat.le_refl _) (ct_r (qc_insurer V Q ⟨by omega, by omega⟩ ⟨by omega, by omega⟩) (v_insl ⟨by omega, by omega⟩)) ?_
      refine j_aload6 (q := 513) dL_told_511 rfl ?_
      refine j_bipush (q := 515) dL_told_513 rfl rfl ?_
      refine j_iload14 (q := 517) dL_told_515 rfl ?_
      refine j_imul (q := 518) dL_told_517 rfl ?_
      refine j_iload16 (q := 520) dL_told_518 rfl ?_
      refine j_iadd (q := 521) dL_told_520 rfl ?_
      refine j_l4_v (q := 522) dL_told_521 rfl hs (by omega) ?_
      refine j_icmp_eq (tgt := 527) (q := 525) dL_told_522 (by decide) rfl rfl rfl (fun h522 => ?_) (fun h522 => ?_)
      · refine j_iinc16 (q := 530) dL_told_527 rfl rfl (by decide) ?_
        refine j_goto (tgt := 497) dL_told_530 (by decide) ?_
        exact ih _ (by omega) (by omega)
      · exact absurd rfl h522
theorem lp_L_told_3 {G : GX} {sh : List SH} {p : Bool} (V : EV G sh) (E : EW G sh) (hs : LA sh p) {m P : Mem} {z : Z} {T B K : Int} {F : FinT} {x c4 c5 c7 c6 : Int} (Q : QP (lz m p z) P z T B K) (hN : NI z) (kk : J G sh iL_told 0 0 F 614 [some (.inr (.ref 0)), some (.inl x), some (.inr (.ref (ix p 0))), some (.inr (.ref (ix p 1))), some (.inr (.ref (ix p 2))), some (.inr (.ref (ix p 3))), some (.inr (.ref (ix p 4))), some (.inr (.ref (ix p 5))), some (.inr (.ref (ix p 7))), some (.inr (.ref (ix p 6))), some (.inl c4), some (.inl c5), some (.inl c7), some (.inl c6), none, none, none, none, none, none, none] [] (lz m p z) 0 0) : ∀ (d : Nat) (i : Int), i + d = z 3 → 0 ≤ i → J G sh iL_told 0 0 F 445 [some (.inr (.ref 0)), some (.inl x), some (.inr (.ref (ix p 0))), some (.inr (.ref (ix p 1))), some (.inr (.ref (ix p 2))), some (.inr (.ref (ix p 3))), some (.inr (.ref (ix p 4))), some (.inr (.ref (ix p 5))), some (.inr (.ref (ix p 7))), some (.inr (.ref (ix p 6))), some (.inl c4), some (.inl c5), some (.inl c7), some (.inl c6), some (.inl i), none, none, none, none, none, none] [] (lz m p z) 0 0 := by
  intro d
  induction d with
  | zero =>
    intro i g0 g1
    have hX := Q.2.2.2.1
    have hI := Q.2.1.2.2.2.2.2
    have hN3 := hN.2
    refine j_iload14 (q := 447) dL_told_445 rfl ?_
    refine j_aload9 (q := 449) dL_told_447 rfl ?_
    refine j_iconst (q := 450) dL_told_449 rfl ?_
    refine j_l6_0 (q := 451) dL_told_450 rfl hs (by omega) ?_
    refine j_icmp_ge (tgt := 614) (q := 454) dL_told_451 (by decide) rfl (by first | exact wr_id' (by omega) (by omega) | with_reducible exact wr_bI _ | exact rfl) (by first | exact wr_id' (by omega) (by omega) | with_reducible exact wr_bI _ | exact rfl) (fun h451 => ?_) (fun h451 => ?_)
    · refine j_fgt14 ?_
      exact kk
    · omega
  | succ d ih =>
    intro i g0 g1
    have hX := Q.2.2.2.1
    have hI := Q.2.1.2.2.2.2.2
    have hN3 := hN.2
    refine j_iload14 (q := 447) dL_told_445 rfl ?_
    refine j_aload9 (q := 449) dL_told_447 rfl ?_
    refine j_iconst (q := 450) dL_told_449 rfl ?_
    refine j_l6_0 (q := 451) dL_told_450 rfl hs (by omega) ?_
    refine j_icmp_ge (tgt := 614) (q := 454) dL_told_451 (by decide) rfl (by first | exact wr_id' (by omega) (by omega) | with_reducible exact wr_bI _ | exact rfl) (by first | exact wr_id' (by omega) (by omega) | with_reducible exact wr_bI _ | exact rfl) (fun h451 => ?_) (fun h451 => ?_)
    · omega
    · refine j_iconst (q := 455) dL_told_454 rfl ?_
      refine j_istore15 (q := 457) dL_told_455 rfl rfl (by decide) ?_
      refine j_iconst (q := 458) dL_told_457 rfl ?_
      refine j_istore16 (q := 460) dL_told_458 rfl rfl (by decide) ?_
      refine lp_L_told_3a V E hs Q ⟨by omega, by omega⟩ 16 0 0 (by omega) (by omega) ?_
      intro x1 hx1
      refine j_iconst (q := 495) dL_told_494 rfl ?_
      refine j_istore16 (q := 497) dL_told_495 rfl rfl (by decide) ?_
      refine lp_L_told_3b V E hs Q hN ⟨by omega, by omega⟩ ?_ 3 0 (by omega) (by omega)
      refine j_aload0 (q := 534) dL_told_533 rfl ?_
      refine j_iload14 (q := 536) dL_told_534 rfl ?_
      refine j_iconst (q := 537) dL_told_536 rfl ?_
      refine j_callV2 (Mc := iX7_insurer) (q := 540) (c' := 0) (s' := 0) dL_told_537 rfl kV_X7_insurer jw_553 ⟨by decide, by decide⟩ (V.2.2 _ _ sh_0) rfl rfl rfl (Nat.le_refl _) (Nat.le_refl _) (ct_r (qc_insurer V Q ⟨by omega, by omega⟩ (by decide)) (v_ins3 hX ⟨by omega, by omega⟩)) ?_
      refine j_iload15 (q := 542) dL_told_540 rfl ?_
      refine j_icmp_ne (tgt := 606) (q := 545) dL_told_542 (by decide) rfl rfl rfl (fun h542 => ?_) (fun h542 => ?_)
      · exact absurd (by rw [hx1]) h542
      · refine j_aload0 (q := 546) dL_told_545 rfl ?_
        refine j_iload14 (q := 548) dL_told_546 rfl ?_
        refine j_iconst (q := 549) dL_told_548 rfl ?_
        refine j_callV2 (Mc := iX7_insurer) (q := 552) (c' := 0) (s' := 0) dL_told_549 rfl kV_X7_insurer jw_553 ⟨by decide, by decide⟩ (V.2.2 _ _ sh_0) rfl rfl rfl (Nat.le_refl _) (Nat.le_refl _) (ct_r (qc_insurer V Q ⟨by omega, by omega⟩ (by decide)) v_ins4) ?_
        refine j_aload6 (q := 554) dL_told_552 rfl ?_
        refine j_bipush (q := 556) dL_told_554 rfl rfl ?_
        refine j_iload14 (q := 558) dL_told_556 rfl ?_
        refine j_imul (q := 559) dL_told_558 rfl ?_
        refine j_iconst (q := 560) dL_told_559 rfl ?_
        refine j_iadd (q := 561) dL_told_560 rfl ?_
        refine j_l4_3 (q := 562) dL_told_561 rfl hs (by omega) ?_
        refine j_icmp_ne (tgt := 606) (q := 565) dL_told_562 (by decide) rfl rfl rfl (fun h562 => ?_) (fun h562 => ?_)
        · exact absurd rfl h562
        · refine j_aload0 (q := 566) dL_told_565 rfl ?_
          refine j_iload14 (q := 568) dL_told_566 rfl ?_
          refine j_iconst (q := 569) dL_told_568 rfl ?_
          refine j_callV2 (Mc := iX7_insurer) (q := 572) (c' := 0) (s' := 0) dL_told_569 rfl kV_X7_insurer jw_553 ⟨by decide, by decide⟩ (V.2.2 _ _ sh_0) rfl rfl rfl (Nat.le_refl _) (Nat.le_refl _) (ct_r (qc_insurer V Q ⟨by omega, by omega⟩ (by decide)) v_ins5) ?_
          refine j_aload6 (q := 574) dL_told_572 rfl ?_
          refine j_bipush (q := 576) dL_told_574 rfl rfl ?_
          refine j_iload14 (q := 578) dL_told_576 rfl ?_
          refine j_imul (q := 579) dL_told_578 rfl ?_
          refine j_iconst (q := 580) dL_told_579 rfl ?_
          refine j_iadd (q := 581) dL_told_580 rfl ?_
          refine j_l4_5 (q := 582) dL_told_581 rfl hs (by omega) ?_
          refine j_icmp_ne (tgt := 606) (q := 585) dL_told_582 (by decide) rfl rfl rfl (fun h582 => ?_) (fun h582 => ?_)
          · exact absurd rfl h582
          · refine j_aload0 (q := 586) dL_told_585 rfl ?_
            refine j_iload14 (q := 588) dL_told_586 rfl ?_
            refine j_bipush (q := 590) dL_told_588 rfl rfl ?_
            refine j_callV2 (Mc := iX7_insurer) (q := 593) (c' := 0) (s' := 0) dL_told_590 rfl kV_X7_insurer jw_553 ⟨by decide, by decide⟩ (V.2.2 _ _ sh_0) rfl rfl rfl (Nat.le_refl _) (Nat.le_refl _) (ct_r (qc_insurer V Q ⟨by omega, by omega⟩ (by decide)) v_ins6) ?_
            refine j_aload6 (q := 595) dL_told_593 rfl ?_
            refine j_bipush (q := 597) dL_told_595 rfl rfl ?_
            refine j_iload14 (q := 599) dL_told_597 rfl ?_
            refine j_imul (q := 600) dL_told_599 rfl ?_
            refine j_iconst (q := 601) dL_told_600 rfl ?_
            refine j_iadd (q := 602) dL_told_601 rfl ?_
            refine j_l4_4 (q := 603) dL_told_602 rfl hs (by omega) ?_
            refine j_icmp_eq (tgt := 608) (q := 606) dL_told_603 (by decide) rfl rfl rfl (fun h603 => ?_) (fun h603 => ?_)
            · refine j_iinc14 (q := 611) dL_told_608 rfl rfl (by decide) ?_
              refine j_goto (tgt := 445) dL_told_611 (by decide) ?_
              refine j_fgt15 ?_
              exact ih _ (by omega) (by omega)
            · exact absurd rfl h603
theorem lp_L_told_4 {G : GX} {sh : List SH} {p : Bool} (V : EV G sh) (E : EW G sh) (hs : LA sh p) {m P : Mem} {z : Z} {T B K : Int} {F : FinT} {x c4 c5 c7 c6 : Int} (Q : QP (lz m p z) P z T B K) (kk : J G sh iL_told 0 0 F 646 [some (.inr (.ref 0)), some (.inl x), some (.inr (.ref (ix p 0))), some (.inr (.ref (ix p 1))), some (.inr (.ref (ix p 2))), some (.inr (.ref (ix p 3))), some (.inr (.ref (ix p 4))), some (.inr (.ref (ix p 5))), some (.inr (.ref (ix p 7))), some (.inr (.ref (ix p 6))), some (.inl c4), some (.inl c5), some (.inl c7), some (.inl c6), none, none, none, none, none, none, none] [] (lz m p z) 0 0) : ∀ (d : Nat) (k : Int), k + d = 8 → 0 ≤ k → J G sh iL_told 0 0 F 617 [some (.inr (.ref 0)), some (.inl x), some (.inr (.ref (ix p 0))), some (.inr (.ref (ix p 1))), some (.inr (.ref (ix p 2))), some (.inr (.ref (ix p 3))), some (.inr (.ref (ix p 4))), some (.inr (.ref (ix p 5))), some (.inr (.ref (ix p 7))), some (.inr (.ref (ix p 6))), some (.inl c4), some (.inl c5), some (.inl c7), some (.inl c6), some (.inl k), none, none, none, none, none, none] [] (lz m p z) 0 0 := by
  intro d
  induction d with
  | zero =>
    intro k g0 g1
    have hX := Q.2.2.2.1
    have hI := Q.2.1.2.2.2.2.2
    refine j_iload14 (q := 619) dL_told_617 rfl ?_
    refine j_bipush (q := 621) dL_told_619 rfl rfl ?_
    refine j_icmp_ge (tgt := 646) (q := 624) dL_told_621 (by decide) rfl (by first | exact wr_id' (by omega) (by omega) | with_reducible exact wr_bI _ | exact rfl) (by first | exact wr_id' (by omega) (by omega) | with_reducible exact wr_bI _ | exact rfl) (fun h621 => ?_) (fun h621 => ?_)
    · refine j_fgt14 ?_
      exact kk
    · omega
  | succ d ih =>
    intro k g0 g1
    have hX := Q.2.2.2.1
    have hI := Q.2.1.2.2.2.2.2
    refine j_iload14 (q := 619) dL_told_617 rfl ?_
    refine j_bipush (q := 621) dL_told_619 rfl rfl ?_
    refine j_icmp_ge (tgt := 646) (q := 624) dL_told_621 (by decide) rfl (by first | exact wr_id' (by omega) (by omega) | with_reducible exact wr_bI _ | exact rfl) (by first | exact wr_id' (by omega) (by omega) | with_reducible exact wr_bI _ | exact rfl) (fun h621 => ?_) (fun h621 => ?_)
    · omega
    · refine j_aload0 (q := 625) dL_told_624 rfl ?_
      refine j_iload14 (q := 627) dL_told_625 rfl ?_
      refine j_callV1 (Mc := iX7_setting) (q := 630) (c' := 0) (s' := 0) dL_told_627 rfl kV_X7_setting jw_574 ⟨by decide, by decide⟩ (V.2.2 _ _ sh_0) rfl rfl rfl (Nat.le_refl _) (Nat.le_refl _) (qc_setting V Q ⟨by omega, by omega⟩) ?_
      refine j_aload8 (q := 632) dL_told_630 rfl ?_
      refine j_iload14 (q := 634) dL_told_632 rfl ?_
      refine j_l7_0 (q := 635) dL_told_634 rfl hs (by omega) ?_
      refine j_icmp_eq (tgt := 640) (q := 638) dL_told_635 (by decide) rfl rfl rfl (fun h635 => ?_) (fun h635 => ?_)
      · refine j_iinc14 (q := 643) dL_told_640 rfl rfl (by decide) ?_
        refine j_goto (tgt := 617) dL_told_643 (by decide) ?_
        exact ih _ (by omega) (by omega)
      · exact absurd rfl h635
theorem lp_L_told_5 {G : GX} {sh : List SH} {p : Bool} (V : EV G sh) (E : EW G sh) (hs : LA sh p) {m P : Mem} {z : Z} {T B K : Int} {F : FinT} {x c4 c5 c7 c6 : Int} (Q : QP (lz m p z) P z T B K) (kk : J G sh iL_told 0 0 F 677 [some (.inr (.ref 0)), some (.inl x), some (.inr (.ref (ix p 0))), some (.inr (.ref (ix p 1))), some (.inr (.ref (ix p 2))), some (.inr (.ref (ix p 3))), some (.inr (.ref (ix p 4))), some (.inr (.ref (ix p 5))), some (.inr (.ref (ix p 7))), some (.inr (.ref (ix p 6))), some (.inl c4), some (.inl c5), some (.inl c7), some (.inl c6), none, none, none, none, none, none, none] [] (lz m p z) 0 0) : ∀ (d : Nat) (k : Int), k + d = 4 → 0 ≤ k → J G sh iL_told 0 0 F 649 [some (.inr (.ref 0)), some (.inl x), some (.inr (.ref (ix p 0))), some (.inr (.ref (ix p 1))), some (.inr (.ref (ix p 2))), some (.inr (.ref (ix p 3))), some (.inr (.ref (ix p 4))), some (.inr (.ref (ix p 5))), some (.inr (.ref (ix p 7))), some (.inr (.ref (ix p 6))), some (.inl c4), some (.inl c5), some (.inl c7), some (.inl c6), some (.inl k), none, none, none, none, none, none] [] (lz m p z) 0 0 := by
  intro d
  induction d with
  | zero =>
    intro k g0 g1
    have hX := Q.2.2.2.1
    have hI := Q.2.1.2.2.2.2.2
    refine j_iload14 (q := 651) dL_told_649 rfl ?_
    refine j_iconst (q := 652) dL_told_651 rfl ?_
    refine j_icmp_ge (tgt := 677) (q := 655) dL_told_652 (by decide) rfl (by first | exact wr_id' (by omega) (by omega) | with_reducible exact wr_bI _ | exact rfl) (by first | exact wr_id' (by omega) (by omega) | with_reducible exact wr_bI _ | exact rfl) (fun h652 => ?_) (fun h652 => ?_)
    · refine j_fgt14 ?_
      exact kk
    · omega
  | succ d ih =>
    intro k g0 g1
    have hX := Q.2.2.2.1
    have hI := Q.2.1.2.2.2.2.2
    refine j_iload14 (q := 651) dL_told_649 rfl ?_
    refine j_iconst (q := 652) dL_told_651 rfl ?_
    refine j_icmp_ge (tgt := 677) (q := 655) dL_told_652 (by decide) rfl (by first | exact wr_id' (by omega) (by omega) | with_reducible exact wr_bI _ | exact rfl) (by first | exact wr_id' (by omega) (by omega) | with_reducible exact wr_bI _ | exact rfl) (fun h652 => ?_) (fun h652 => ?_)
    · omega
    · refine j_aload0 (q := 656) dL_told_655 rfl ?_
      refine j_iload14 (q := 658) dL_told_656 rfl ?_
      refine j_callV1 (Mc := iX7_count) (q := 661) (c' := 0) (s' := 0) dL_told_658 rfl kV_X7_count jw_387 ⟨by decide, by decide⟩ (V.2.2 _ _ sh_0) rfl rfl rfl (Nat.le_refl _) (Nat.le_refl _) (ct_r (qc_count V Q ⟨by omega, by omega⟩) (v_cntl ⟨by omega, by omega⟩)) ?_
      refine j_aload9 (q := 663) dL_told_661 rfl ?_
      refine j_iload14 (q := 665) dL_told_663 rfl ?_
      refine j_l6_0 (q := 666) dL_told_665 rfl hs (by omega) ?_
      refine j_icmp_eq (tgt := 671) (q := 669) dL_told_666 (by decide) rfl rfl rfl (fun h666 => ?_) (fun h666 => ?_)
      · refine j_iinc14 (q := 674) dL_told_671 rfl rfl (by decide) ?_
        refine j_goto (tgt := 649) dL_told_674 (by decide) ?_
        exact ih _ (by omega) (by omega)
      · exact absurd rfl h666
theorem lp_L_told_6 {G : GX} {sh : List SH} {p : Bool} (V : EV G sh) (E : EW G sh) (hs : LA sh p) {m P : Mem} {z : Z} {T B K : Int} {F : FinT} {x c4 c5 c7 c6 : Int} (Q : QP (lz m p z) P z T B K) (kk : J G sh iL_told 0 0 F 712 [some (.inr (.ref 0)), some (.inl x), some (.inr (.ref (ix p 0))), some (.inr (.ref (ix p 1))), some (.inr (.ref (ix p 2))), some (.inr (.ref (ix p 3))), some (.inr (.ref (ix p 4))), some (.inr (.ref (ix p 5))), some (.inr (.ref (ix p 7))), some (.inr (.ref (ix p 6))), some (.inl c4), some (.inl c5), some (.inl c7), some (.inl c6), none, none, none, none, none, none, none] [] (lz m p z) 0 0) : ∀ (d : Nat) (k : Int), k + d = 18 → 8 ≤ k → J G sh iL_told 0 0 F 681 [some (.inr (.ref 0)), some (.inl x), some (.inr (.ref (ix p 0))), some (.inr (.ref (ix p 1))), some (.inr (.ref (ix p 2))), some (.inr (.ref (ix p 3))), some (.inr (.ref (ix p 4))), some (.inr (.ref (ix p 5))), some (.inr (.ref (ix p 7))), some (.inr (.ref (ix p 6))), some (.inl c4), some (.inl c5), some (.inl c7), some (.inl c6), some (.inl k), none, none, none, none, none, none] [] (lz m p z) 0 0 := by
  intro d
  induction d with
  | zero =>
    intro k g0 g1
    have hX := Q.2.2.2.1
    have hI := Q.2.1.2.2.2.2.2
    refine j_iload14 (q := 683) dL_told_681 rfl ?_
    refine j_bipush (q := 685) dL_told_683 rfl rfl ?_
    refine j_icmp_ge (tgt := 712) (q := 688) dL_told_685 (by decide) rfl (by first | exact wr_id' (by omega) (by omega) | with_reducible exact wr_bI _ | exact rfl) (by first | exact wr_id' (by omega) (by omega) | with_reducible exact wr_bI _ | exact rfl) (fun h685 => ?_) (fun h685 => ?_)
    · refine j_fgt14 ?_
      exact kk
    · omega
  | succ d ih =>
    intro k g0 g1
    have hX := Q.2.2.2.1
    have hI := Q.2.1.2.2.2.2.2
    refine j_iload14 (q := 683) dL_told_681 rfl ?_
    refine j_bipush (q := 685) dL_told_683 rfl rfl ?_
    refine j_icmp_ge (tgt := 712) (q := 688) dL_told_685 (by decide) rfl (by first | exact wr_id' (by omega) (by omega) | with_reducible exact wr_bI _ | exact rfl) (by first | exact wr_id' (by omega) (by omega) | with_reducible exact wr_bI _ | exact rfl) (fun h685 => ?_) (fun h685 => ?_)
    · omega
    · refine j_aload0 (q := 689) dL_told_688 rfl ?_
      refine j_iload14 (q := 691) dL_told_689 rfl ?_
      refine j_callV1 (Mc := iX7_count) (q := 694) (c' := 0) (s' := 0) dL_told_691 rfl kV_X7_count jw_387 ⟨by decide, by decide⟩ (V.2.2 _ _ sh_0) rfl rfl rfl (Nat.le_refl _) (Nat.le_refl _) (ct_r (qc_count V Q ⟨by omega, by omega⟩) (v_cnth ⟨by omega, by omega⟩)) ?_
      refine j_aload9 (q := 696) dL_told_694 rfl ?_
      refine j_iload14 (q := 698) dL_told_696 rfl ?_
      refine j_iconst (q := 699) dL_told_698 rfl ?_
      refine j_isub (q := 700) dL_told_699 rfl ?_
      refine j_l6_0 (q := 701) dL_told_700 rfl hs (by omega) ?_
      refine j_icmp_eq (tgt := 706) (q := 704) dL_told_701 (by decide) rfl rfl rfl (fun h701 => ?_) (fun h701 => ?_)
      · refine j_iinc14 (q := 709) dL_told_706 rfl rfl (by decide) ?_
        refine j_goto (tgt := 681) dL_told_709 (by decide) ?_
        exact ih _ (by omega) (by omega)
      · exact absurd rfl h701
theorem lp_L_told_7 {G : GX} {sh : List SH} {p : Bool} (V : EV G sh) (E : EW G sh) (hs : LA sh p) {m P : Mem} {z : Z} {T B K : Int} {F : FinT} {x c4 c5 c7 c6 : Int} (Q : QP (lz m p z) P z T B K) (kk : J G sh iL_told 0 0 F 796 [some (.inr (.ref 0)), some (.inl x), some (.inr (.ref (ix p 0))), some (.inr (.ref (ix p 1))), some (.inr (.ref (ix p 2))), some (.inr (.ref (ix p 3))), some (.inr (.ref (ix p 4))), some (.inr (.ref (ix p 5))), some (.inr (.ref (ix p 7))), some (.inr (.ref (ix p 6))), some (.inl c4), some (.inl c5), some (.inl c7), some (.inl c6), none, none, none, none, none, none, none] [] (lz m p z) 0 0) : ∀ (d : Nat) (k : Int), k + d = 4 → 0 ≤ k → J G sh iL_told 0 0 F 715 [some (.inr (.ref 0)), some (.inl x), some (.inr (.ref (ix p 0))), some (.inr (.ref (ix p 1))), some (.inr (.ref (ix p 2))), some (.inr (.ref (ix p 3))), some (.inr (.ref (ix p 4))), some (.inr (.ref (ix p 5))), some (.inr (.ref (ix p 7))), some (.inr (.ref (ix p 6))), some (.inl c4), some (.inl c5), some (.inl c7), some (.inl c6), some (.inl k), none, none, none, none, none, none] [] (lz m p z) 0 0 := by
  intro d
  induction d with
  | zero =>
    intro k g0 g1
    have hX := Q.2.2.2.1
    have hI := Q.2.1.2.2.2.2.2
    have hD := IZ_DB hI
    refine j_iload14 (q := 717) dL_told_715 rfl ?_
    refine j_iconst (q := 718) dL_told_717 rfl ?_
    refine j_icmp_ge (tgt := 796) (q := 721) dL_told_718 (by decide) rfl (by first | exact wr_id' (by omega) (by omega) | with_reducible exact wr_bI _ | exact rfl) (by first | exact wr_id' (by omega) (by omega) | with_reducible exact wr_bI _ | exact rfl) (fun h718 => ?_) (fun h718 => ?_)
    · refine j_fgt14 ?_
      exact kk
    · omega
  | succ d ih =>
    intro k g0 g1
    have hX := Q.2.2.2.1
    have hI := Q.2.1.2.2.2.2.2
    have hD := IZ_DB hI
    refine j_iload14 (q := 717) dL_told_715 rfl ?_
    refine j_iconst (q := 718) dL_told_717 rfl ?_
    refine j_icmp_ge (tgt := 796) (q := 721) dL_told_718 (by decide) rfl (by first | exact wr_id' (by omega) (by omega) | with_reducible exact wr_bI _ | exact rfl) (by first | exact wr_id' (by omega) (by omega) | with_reducible exact wr_bI _ | exact rfl) (fun h718 => ?_) (fun h718 => ?_)
    · omega
    · have hl := lOw_b z k
      refine j_aload0 (q := 722) dL_told_721 rfl ?_
      refine j_iload14 (q := 724) dL_told_722 rfl ?_
      refine j_iconst (q := 725) dL_told_724 rfl ?_
      refine j_callV2 (Mc := iX7_owed) (q := 728) (c' := 0) (s' := 0) dL_told_725 rfl kV_X7_owed jw_578 ⟨by decide, by decide⟩ (V.2.2 _ _ sh_0) rfl rfl rfl (Nat.le_refl _) (Nat.le_refl _) (ct_r (qc_owed V Q ⟨by omega, by omega⟩ (by decide)) (v_owd0 hX hI (by omega))) ?_
      refine j_iload14 (q := 730) dL_told_728 rfl ?_
      refine j_aload3 (q := 731) dL_told_730 rfl ?_
      refine j_callS2 (Mc := iL_owed) (q := 734) (c' := 0) (s' := 0) dL_told_731 rfl kS_L_owed jw_587 ⟨by decide, by decide⟩ rfl (Nat.le_refl _) (Nat.le_refl _) (ct_L_owed E hs (by assumption) (by omega)) ?_
      refine j_if_ge (tgt := 741) (q := 737) dL_told_734 (by decide) rfl (by first | exact wr_id' (by omega) (by omega) | with_reducible exact wr_bI _ | exact rfl) (fun h734 => ?_) (fun h734 => ?_)
      · refine j_iload14 (q := 743) dL_told_741 rfl ?_
        refine j_aload3 (q := 744) dL_told_743 rfl ?_
        refine j_callS2 (Mc := iL_owed) (q := 747) (c' := 0) (s' := 0) dL_told_744 rfl kS_L_owed jw_587 ⟨by decide, by decide⟩ rfl (Nat.le_refl _) (Nat.le_refl _) (ct_L_owed E hs (by assumption) (by omega)) ?_
        refine j_callS1 (Mc := iL_core) (q := 750) (c' := 0) (s' := 0) dL_told_747 rfl kS_L_core jw_438 ⟨by decide, by decide⟩ rfl (Nat.le_refl _) (Nat.le_refl _) (ct_L_core E hs (by omega)) ?_
        refine j_icmp_ne (tgt := 788) (q := 753) dL_told_750 (by decide) rfl rfl rfl (fun h750 => ?_) (fun h750 => ?_)
        · first | (exfalso; omega) | exact absurd (by first | rw [if_pos (by omega)] | rw [if_neg (by omega)]) h750
        · refine j_aload0 (q := 754) dL_told_753 rfl ?_
          refine j_iload14 (q := 756) dL_told_754 rfl ?_
          refine j_iconst (q := 757) dL_told_756 rfl ?_
          refine j_callV2 (Mc := iX7_owed) (q := 760) (c' := 0) (s' := 0) dL_told_757 rfl kV_X7_owed jw_578 ⟨by decide, by decide⟩ (V.2.2 _ _ sh_0) rfl rfl rfl (Nat.le_refl _) (Nat.le_refl _) (ct_r (qc_owed V Q ⟨by omega, by omega⟩ (by decide)) (v_owd1 hX hI (by omega))) ?_
          refine j_iload14 (q := 762) dL_told_760 rfl ?_
          refine j_aload3 (q := 763) dL_told_762 rfl ?_
          refine j_callS2 (Mc := iL_owed) (q := 766) (c' := 0) (s' := 0) dL_told_763 rfl kS_L_owed jw_587 ⟨by decide, by decide⟩ rfl (Nat.le_refl _) (Nat.le_refl _) (ct_L_owed E hs (by assumption) (by omega)) ?_
          refine j_if_ge (tgt := 773) (q := 769) dL_told_766 (by decide) rfl (by first | exact wr_id' (by omega) (by omega) | with_reducible exact wr_bI _ | exact rfl) (fun h766 => ?_) (fun h766 => ?_)
          · refine j_aload3 (q := 774) dL_told_773 rfl ?_
            refine j_iconst (q := 775) dL_told_774 rfl ?_
            refine j_iload14 (q := 777) dL_told_775 rfl ?_
            refine j_aload3 (q := 778) dL_told_777 rfl ?_
            refine j_callS2 (Mc := iL_owed) (q := 781) (c' := 0) (s' := 0) dL_told_778 rfl kS_L_owed jw_587 ⟨by decide, by decide⟩ rfl (Nat.le_refl _) (Nat.le_refl _) (ct_L_owed E hs (by assumption) (by omega)) ?_
            refine j_imul (q := 782) dL_told_781 rfl ?_
            refine j_iconst (q := 783) dL_told_782 rfl ?_
            refine j_iadd (q := 784) dL_told_783 rfl ?_
            refine j_l1_2 (q := 785) dL_told_784 rfl hs (by omega) ?_
            refine j_icmp_eq (tgt := 790) (q := 788) dL_told_785 (by decide) rfl rfl rfl (fun h785 => ?_) (fun h785 => ?_)
            · refine j_iinc14 (q := 793) dL_told_790 rfl rfl (by decide) ?_
              refine j_goto (tgt := 715) dL_told_793 (by decide) ?_
              exact ih _ (by omega) (by omega)
            · first | (exfalso; omega) | exact absurd (by first | rw [if_pos (by omega)] | rw [if_neg (by omega)]) h785
          · refine j_iconst (q := 770) dL_told_769 rfl ?_
            refine j_goto (tgt := 785) dL_told_770 (by decide) ?_
            refine j_icmp_eq (tgt := 790) (q := 788) dL_told_785 (by decide) rfl rfl rfl (fun h785 => ?_) (fun h785 => ?_)
            · refine j_iinc14 (q := 793) dL_told_790 rfl rfl (by decide) ?_
              refine j_goto (tgt := 715) dL_told_793 (by decide) ?_
              exact ih _ (by omega) (by omega)
            · first | (exfalso; omega) | exact absurd (by first | rw [if_pos (by omega)] | rw [if_neg (by omega)]) h785
      · refine j_iconst (q := 738) dL_told_737 rfl ?_
        refine j_goto (tgt := 750) dL_told_738 (by decide) ?_
        refine j_icmp_ne (tgt := 788) (q := 753) dL_told_750 (by decide) rfl rfl rfl (fun h750 => ?_) (fun h750 => ?_)
        · first | (exfalso; omega) | exact absurd (by first | rw [if_pos (by omega)] | rw [if_neg (by omega)]) h750
        · refine j_aload0 (q := 754) dL_told_753 rfl ?_
          refine j_iload14 (q := 756) dL_told_754 rfl ?_
          refine j_iconst (q := 757) dL_told_756 rfl ?_
          refine j_callV2 (Mc := iX7_owed) (q := 760) (c' := 0) (s' := 0) dL_told_757 rfl kV_X7_owed jw_578 ⟨by decide, by decide⟩ (V.2.2 _ _ sh_0) rfl rfl rfl (Nat.le_refl _) (Nat.le_refl _) (ct_r (qc_owed V Q ⟨by omega, by omega⟩ (by decide)) (v_owd1 hX hI (by omega))) ?_
          refine j_iload14 (q := 762) dL_told_760 rfl ?_
          refine j_aload3 (q := 763) dL_told_762 rfl ?_
          refine j_callS2 (Mc := iL_owed) (q := 766) (c' := 0) (s' := 0) dL_told_763 rfl kS_L_owed jw_587 ⟨by decide, by decide⟩ rfl (Nat.le_refl _) (Nat.le_refl _) (ct_L_owed E hs (by assumption) (by omega)) ?_
          refine j_if_ge (tgt := 773) (q := 769) dL_told_766 (by decide) rfl (by first | exact wr_id' (by omega) (by omega) | with_reducible exact wr_bI _ | exact rfl) (fun h766 => ?_) (fun h766 => ?_)
          · refine j_aload3 (q := 774) dL_told_773 rfl ?_
            refine j_iconst (q := 775) dL_told_774 rfl ?_
            refine j_iload14 (q := 777) dL_told_775 rfl ?_
            refine j_aload3 (q := 778) dL_told_777 rfl ?_
            refine j_callS2 (Mc := iL_owed) (q := 781) (c' := 0) (s' := 0) dL_told_778 rfl kS_L_owed jw_587 ⟨by decide, by decide⟩ rfl (Nat.le_refl _) (Nat.le_refl _) (ct_L_owed E hs (by assumption) (by omega)) ?_
            refine j_imul (q := 782) dL_told_781 rfl ?_
            refine j_iconst (q := 783) dL_told_782 rfl ?_
            refine j_iadd (q := 784) dL_told_783 rfl ?_
            refine j_l1_2 (q := 785) dL_told_784 rfl hs (by omega) ?_
            refine j_icmp_eq (tgt := 790) (q := 788) dL_told_785 (by decide) rfl rfl rfl (fun h785 => ?_) (fun h785 => ?_)
            · refine j_iinc14 (q := 793) dL_told_790 rfl rfl (by decide) ?_
              refine j_goto (tgt := 715) dL_told_793 (by decide) ?_
              exact ih _ (by omega) (by omega)
            · first | (exfalso; omega) | exact absurd (by first | rw [if_pos (by omega)] | rw [if_neg (by omega)]) h785
          · refine j_iconst (q := 770) dL_told_769 rfl ?_
            refine j_goto (tgt := 785) dL_told_770 (by decide) ?_
            refine j_icmp_eq (tgt := 790) (q := 788) dL_told_785 (by decide) rfl rfl rfl (fun h785 => ?_) (fun h785 => ?_)
            · refine j_iinc14 (q := 793) dL_told_790 rfl rfl (by decide) ?_
              refine j_goto (tgt := 715) dL_told_793 (by decide) ?_
              exact ih _ (by omega) (by omega)
            · first | (exfalso; omega) | exact absurd (by first | rw [if_pos (by omega)] | rw [if_neg (by omega)]) h785
theorem ct_L_told {G : GX} {sh : List SH} {p : Bool} (V : EV G sh) (E : EW G sh) (hs : LA sh p) {m P : Mem} {z : Z} {T B K : Int} {x : Int} (Q : QP (lz m p z) P z T B K) (hN : NI z) : CT G sh iL_told 0 0 [.inr (.ref 0), .inl x, .inr (.ref (ix p 0)), .inr (.ref (ix p 1)), .inr (.ref (ix p 2)), .inr (.ref (ix p 3)), .inr (.ref (ix p 4)), .inr (.ref (ix p 5)), .inr (.ref (ix p 7)), .inr (.ref (ix p 6))] (lz m p z) (some (.inl (bI true))) (lz m p z) := by
  have hX := Q.2.2.2.1
  have hI := Q.2.1.2.2.2.2.2
  have hN2 := hN.1
  have hN3 := hN.2
  refine j_met (L0 := [some (.inr (.ref 0)), some (.inl x), some (.inr (.ref (ix p 0))), some (.inr (.ref (ix p 1))), some (.inr (.ref (ix p 2))), some (.inr (.ref (ix p 3))), some (.inr (.ref (ix p 4))), some (.inr (.ref (ix p 5))), some (.inr (.ref (ix p 7))), some (.inr (.ref (ix p 6))), none, none, none, none, none, none, none, none, none, none, none]) (by decide) E.1 E.2 rfl (Nat.le_of_ble_eq_true rfl) ?_
  refine j_aload0 (q := 1) dL_told_0 rfl ?_
  refine j_iload1 (q := 2) dL_told_1 rfl ?_
  refine j_aload2 (q := 3) dL_told_2 rfl ?_
  refine j_aload3 (q := 4) dL_told_3 rfl ?_
  refine j_aload4 (q := 6) dL_told_4 rfl ?_
  refine j_aload8 (q := 8) dL_told_6 rfl ?_
  refine j_aload9 (q := 10) dL_told_8 rfl ?_
  refine j_callS7 (Mc := iL_cores) (q := 13) (c' := 0) (s' := 0) dL_told_10 rfl kS_L_cores jw_435 ⟨by decide, by decide⟩ rfl (Nat.le_refl _) (Nat.le_refl _) (ct_L_cores V E hs Q) ?_
  refine j_ifne_b (tgt := 18) (q := 16) dL_told_13 (by decide) rfl (fun h13 => ?_) (fun h13 => ?_)
  · refine j_iconst (q := 19) dL_told_18 rfl ?_
    refine j_istore10 (q := 21) dL_told_19 rfl rfl (by decide) ?_
    refine j_iconst (q := 22) dL_told_21 rfl ?_
    refine j_istore11 (q := 24) dL_told_22 rfl rfl (by decide) ?_
    refine j_iconst (q := 25) dL_told_24 rfl ?_
    refine j_istore12 (q := 27) dL_told_25 rfl rfl (by decide) ?_
    refine j_iconst (q := 28) dL_told_27 rfl ?_
    refine j_istore13 (q := 30) dL_told_28 rfl rfl (by decide) ?_
    refine j_iconst (q := 31) dL_told_30 rfl ?_
    refine j_istore14 (q := 33) dL_told_31 rfl rfl (by decide) ?_
    refine lp_L_told_1 V E hs Q 16 0 0 0 0 0 (by omega) (by omega) ?_
    intro x1 x2 x3 x4 hx1 hx2 hx3 hx4
    refine j_iconst (q := 119) dL_told_118 rfl ?_
    refine j_istore14 (q := 121) dL_told_119 rfl rfl (by decide) ?_
    refine lp_L_told_2 V E hs Q hN ?_ (z 2).toNat 0 (by omega) (by omega)
    refine j_iconst (q := 443) dL_told_442 rfl ?_
    refine j_istore14 (q := 445) dL_told_443 rfl rfl (by decide) ?_
    refine lp_L_told_3 V E hs Q hN ?_ (z 3).toNat 0 (by omega) (by omega)
    refine j_iconst (q := 615) dL_told_614 rfl ?_
    refine j_istore14 (q := 617) dL_told_615 rfl rfl (by decide) ?_
    refine lp_L_told_4 V E hs Q ?_ 8 0 (by omega) (by omega)
    refine j_iconst (q := 647) dL_told_646 rfl ?_
    refine j_istore14 (q := 649) dL_told_647 rfl rfl (by decide) ?_
    refine lp_L_told_5 V E hs Q ?_ 4 0 (by omega) (by omega)
    refine j_bipush (q := 679) dL_told_677 rfl rfl ?_
    refine j_istore14 (q := 681) dL_told_679 rfl rfl (by decide) ?_
    refine lp_L_told_6 V E hs Q ?_ 10 8 (by omega) (by omega)
    refine j_iconst (q := 713) dL_told_712 rfl ?_
    refine j_istore14 (q := 715) dL_told_713 rfl rfl (by decide) ?_
    refine lp_L_told_7 V E hs Q ?_ 4 0 (by omega) (by omega)
    refine j_aload0 (q := 797) dL_told_796 rfl ?_
    refine j_iconst (q := 798) dL_told_797 rfl ?_
    refine j_callV1 (Mc := iX7_count) (q := 801) (c' := 0) (s' := 0) dL_told_798 rfl kV_X7_count jw_387 ⟨by decide, by decide⟩ (V.2.2 _ _ sh_0) rfl rfl rfl (Nat.le_refl _) (Nat.le_refl _) (ct_r (qc_count V Q (by decide)) (v_cnt4 hX)) ?_
    refine j_iload10 (q := 803) dL_told_801 rfl ?_
    refine j_icmp_ne (tgt := 838) (q := 806) dL_told_803 (by decide) rfl rfl rfl (fun h803 => ?_) (fun h803 => ?_)
    · exact absurd (by rw [hx1]) h803
    · refine j_aload0 (q := 807) dL_told_806 rfl ?_
      refine j_iconst (q := 808) dL_told_807 rfl ?_
      refine j_callV1 (Mc := iX7_count) (q := 811) (c' := 0) (s' := 0) dL_told_808 rfl kV_X7_count jw_387 ⟨by decide, by decide⟩ (V.2.2 _ _ sh_0) rfl rfl rfl (Nat.le_refl _) (Nat.le_refl _) (ct_r (qc_count V Q (by decide)) (v_cnt5 hX)) ?_
      refine j_iload11 (q := 813) dL_told_811 rfl ?_
      refine j_icmp_ne (tgt := 838) (q := 816) dL_told_813 (by decide) rfl rfl rfl (fun h813 => ?_) (fun h813 => ?_)
      · exact absurd (by rw [hx2]) h813
      · refine j_aload0 (q := 817) dL_told_816 rfl ?_
        refine j_bipush (q := 819) dL_told_817 rfl rfl ?_
        refine j_callV1 (Mc := iX7_count) (q := 822) (c' := 0) (s' := 0) dL_told_819 rfl kV_X7_count jw_387 ⟨by decide, by decide⟩ (V.2.2 _ _ sh_0) rfl rfl rfl (Nat.le_refl _) (Nat.le_refl _) (ct_r (qc_count V Q (by decide)) (v_cnt6 hX hI)) ?_
        refine j_iload13 (q := 824) dL_told_822 rfl ?_
        refine j_icmp_ne (tgt := 838) (q := 827) dL_told_824 (by decide) rfl rfl rfl (fun h824 => ?_) (fun h824 => ?_)
        · exact absurd (by rw [hx4]) h824
        · refine j_aload0 (q := 828) dL_told_827 rfl ?_
          refine j_bipush (q := 830) dL_told_828 rfl rfl ?_
          refine j_callV1 (Mc := iX7_count) (q := 833) (c' := 0) (s' := 0) dL_told_830 rfl kV_X7_count jw_387 ⟨by decide, by decide⟩ (V.2.2 _ _ sh_0) rfl rfl rfl (Nat.le_refl _) (Nat.le_refl _) (ct_r (qc_count V Q (by decide)) (v_cnt7 hX)) ?_
          refine j_iload12 (q := 835) dL_told_833 rfl ?_
          refine j_icmp_eq (tgt := 840) (q := 838) dL_told_835 (by decide) rfl rfl rfl (fun h835 => ?_) (fun h835 => ?_)
          · refine j_aload0 (q := 841) dL_told_840 rfl ?_
            refine j_callV0 (Mc := iX7_backShare) (q := 844) (c' := 0) (s' := 0) dL_told_841 rfl kV_X7_backShare jw_590 ⟨by decide, by decide⟩ (V.2.2 _ _ sh_0) rfl rfl rfl (Nat.le_refl _) (Nat.le_refl _) (qc_backShare V Q) ?_
            refine j_aload9 (q := 846) dL_told_844 rfl ?_
            refine j_iconst (q := 847) dL_told_846 rfl ?_
            refine j_l6_0 (q := 848) dL_told_847 rfl hs (by omega) ?_
            refine j_if_ne (tgt := 855) (q := 851) dL_told_848 (by decide) rfl rfl (fun h848 => ?_) (fun h848 => ?_)
            · refine j_dconst1 (q := 856) dL_told_855 rfl ?_
              refine j_aload9 (q := 858) dL_told_856 rfl ?_
              refine j_bipush (q := 860) dL_told_858 rfl rfl ?_
              refine j_l6_0 (q := 861) dL_told_860 rfl hs (by omega) ?_
              refine j_i2d (q := 862) dL_told_861 rfl ?_
              refine j_dmul (q := 863) dL_told_862 rfl (by rw [d_one]; exact n64_of (i2d_nn _)) ?_
              refine j_cg rfl (by rw [d_one]) rfl ?_
              refine j_aload9 (q := 865) dL_told_863 rfl ?_
              refine j_iconst (q := 866) dL_told_865 rfl ?_
              refine j_l6_0 (q := 867) dL_told_866 rfl hs (by omega) ?_
              refine j_i2d (q := 868) dL_told_867 rfl ?_
              refine j_ddiv (q := 869) dL_told_868 rfl (div_n64 (jI_nz h848)) ?_
              refine j_dcmp (q := 870) dL_told_869 rfl ?_
              refine j_if_ne (tgt := 877) (q := 873) dL_told_870 (by decide) rfl rfl (fun h870 => ?_) (fun h870 => ?_)
              · exact absurd (by first | (rw [← bk_d h848]; exact dC_self (zBk_nan z)) | (rw [← bk_0 h848]; exact dC_self (zBk_nan z))) h870
              · refine j_iconst (q := 874) dL_told_873 rfl ?_
                refine j_goto (tgt := 878) dL_told_874 (by decide) ?_
                exact j_zreturn dL_told_878 rfl (by decide) (rfl) (rfl)
            · refine j_dconst0 (q := 852) dL_told_851 rfl ?_
              refine j_goto (tgt := 869) dL_told_852 (by decide) ?_
              refine j_dcmp (q := 870) dL_told_869 rfl ?_
              refine j_if_ne (tgt := 877) (q := 873) dL_told_870 (by decide) rfl rfl (fun h870 => ?_) (fun h870 => ?_)
              · exact absurd (by first | (rw [← bk_d h848]; exact dC_self (zBk_nan z)) | (rw [← bk_0 h848]; exact dC_self (zBk_nan z))) h870
              · refine j_iconst (q := 874) dL_told_873 rfl ?_
                refine j_goto (tgt := 878) dL_told_874 (by decide) ?_
                exact j_zreturn dL_told_878 rfl (by decide) (rfl) (rfl)
          · exact absurd (by rw [hx3]) h835
  · cases h13

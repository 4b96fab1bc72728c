/-! shares, as doubles -/
def fv (x : UInt64) (c : Nat) (q : Int) : Prop := Jvm.FP.Core.val64 x = .fin false c q ∧ 2 ^ 52 ≤ c ∧ c < 2 ^ 53 ∧ -1000 ≤ q ∧ q ≤ -52
theorem fin_nan {x : UInt64} {s : Bool} {c : Nat} {q : Int} (h : Jvm.FP.Core.val64 x = .fin s c q) : Jvm.FP.Core.dIsNaN x = false := by
  cases h1 : Jvm.FP.Core.dIsNaN x with
  | false => rfl
  | true => have h2 := (Jvm.FP.Core.dIsNaN_iff x).mp h1; rw [h] at h2; cases h2
theorem fv_nan {x : UInt64} {c : Nat} {q : Int} (h : fv x c q) : Jvm.FP.Core.dIsNaN x = false := fin_nan h.1
theorem b64_q : Jvm.FP.Core.b64.qmin = -1074 := by decide
theorem b64_m : Jvm.FP.Core.b64.qmax = 971 := by decide
theorem b64_t : Jvm.FP.Core.b64.tails = 2 ^ 52 := by decide
theorem b64_p : Jvm.FP.Core.b64.p = 53 := by decide
theorem b64_e : Jvm.FP.Core.b64.exps = 2048 := by decide
theorem fv_fits {c : Nat} {q : Int} (h : 2 ^ 52 ≤ c ∧ c < 2 ^ 53 ∧ -1000 ≤ q ∧ q ≤ -52) : Jvm.FP.Core.fits Jvm.FP.Core.b64 (.fin false c q) := by
  refine ⟨by rw [b64_p]; exact h.2.1, by rw [b64_q]; omega, by rw [b64_m]; omega, .inr (by rw [b64_t]; exact h.1)⟩
def d2 : UInt64 := 4611686018427387904
def d52 : UInt64 := 4841369599423283200
theorem d2_v : Jvm.FP.Core.val64 d2 = .fin false (2 ^ 52) (-51) := by decide +kernel
theorem d52_v : Jvm.FP.Core.val64 d52 = .fin false (2 ^ 52) 0 := by decide +kernel
theorem d1_v : Jvm.FP.Core.val64 FP.dconst1 = .fin false (2 ^ 52) (-52) := by decide +kernel
theorem d0_v : Jvm.FP.Core.val64 FP.dconst0 = .fin false 0 (-1074) := by decide +kernel
theorem fv_mul2 {x : UInt64} {c : Nat} {q : Int} (h : fv x c q) (hq : q ≤ -53) : fv (FP.dmul x d2) c (q + 1) := by
  refine ⟨?_, h.2.1, h.2.2.1, by have := h.2.2.2.1; omega, by omega⟩
  have e := Jvm.FP.Core.val64_dmul x d2
  rw [h.1, d2_v] at e
  refine e.trans ?_
  show Jvm.FP.Core.roundRatio Jvm.FP.Core.b64 (false != false) (c * 2 ^ 52) 1 (q + -51) = _
  refine Jvm.FP.Core.roundRatio_exact Jvm.FP.Core.good_b64 (by decide) (fv_fits ⟨h.2.1, h.2.2.1, by have := h.2.2.2.1; omega, by omega⟩) ?_
  rw [show (q + -51 - (q + 1)).toNat = 0 by omega, show (q + 1 - (q + -51)).toNat = 52 by omega]
  simp
theorem ord_fin (c d : Nat) (q r : Int) : Jvm.FP.Core.order (.fin false c q) (.fin false d r) = some (compare ((c * 2 ^ (q - min q r).toNat : Nat) : Int) ((d * 2 ^ (r - min q r).toNat : Nat) : Int)) := rfl
theorem cmp_lt {a b : Int} (h : a < b) : compare a b = .lt := by simp [compare, compareOfLessAndEq, h]
theorem cmp_gt {a b : Int} (h : b < a) : compare a b = .gt := by simp [compare, compareOfLessAndEq, show ¬ a < b by omega, show ¬ a = b by omega]
theorem fv_lt {x : UInt64} {c : Nat} {q : Int} (h : fv x c q) (hq : q ≤ -53) : FP.dcmp x FP.dconst1 = some .lt := by
  show Jvm.FP.Core.order (Jvm.FP.Core.val64 x) (Jvm.FP.Core.val64 FP.dconst1) = _
  rw [h.1, d1_v, ord_fin, show min q (-52) = q by omega, show (q - q).toNat = 0 by omega]
  refine congrArg some (cmp_lt ?_)
  have h1 : 2 ^ 1 ≤ 2 ^ (-52 - q).toNat := Nat.pow_le_pow_right (by decide) (by omega)
  have h2 : 2 ^ 52 * 2 ^ 1 ≤ 2 ^ 52 * 2 ^ (-52 - q).toNat := Nat.mul_le_mul_left _ h1
  have h3 := h.2.2.1
  omega
theorem fv_ge {x : UInt64} {c : Nat} (h : fv x c (-52)) : ∃ v, dC (FP.dcmp x FP.dconst1) .g = v ∧ 0 ≤ v ∧ wr v = v := by
  have e : FP.dcmp x FP.dconst1 = some (compare (c : Int) ((2 ^ 52 : Nat) : Int)) := by
    show Jvm.FP.Core.order (Jvm.FP.Core.val64 x) (Jvm.FP.Core.val64 FP.dconst1) = _
    rw [h.1, d1_v, ord_fin]
    simp
  rw [e]
  have h1 := h.2.1
  by_cases h2 : (2 : Nat) ^ 52 = c
  · subst h2
    exact ⟨0, by decide +kernel, by decide, by decide⟩
  · rw [cmp_gt (by omega)]
    exact ⟨1, by decide, by decide, by decide⟩
theorem fv_gt0 {x : UInt64} {c : Nat} {q : Int} (h : fv x c q) : FP.dcmp x FP.dconst0 = some .gt := by
  show Jvm.FP.Core.order (Jvm.FP.Core.val64 x) (Jvm.FP.Core.val64 FP.dconst0) = _
  rw [h.1, d0_v, ord_fin]
  refine congrArg some (cmp_gt ?_)
  have h1 : 0 < c * 2 ^ (q - min q (-1074)).toNat := Nat.mul_pos (by have := h.2.1; omega) (Nat.two_pow_pos _)
  omega
theorem fv_bits {x : UInt64} {c : Nat} {q : Int} (h : fv x c q) : x.toNat = (q + 1075).toNat * 2 ^ 52 + (c - 2 ^ 52) := by
  have h1 : Jvm.FP.Core.of64 (Jvm.FP.Core.val64 x) = x := Jvm.FP.Core.of64_val64 (by rw [h.1]; intro e; cases e)
  rw [h.1] at h1
  rw [← h1, Jvm.FP.Core.toNat_of64 (fv_fits h.2)]
  unfold Jvm.FP.Core.encode
  simp only []
  rw [if_neg (by rw [b64_t]; have := h.2.1; omega)]
  unfold Jvm.FP.Core.assemble
  rw [b64_t, b64_q]
  have e1 : (q - -1074).toNat + 1 = (q + 1075).toNat := by have := h.2.2.2.1; omega
  rw [e1]
  simp
theorem pw1 {c k A u v n s : Nat} (h : c * 2 ^ A = k * 2 ^ n) (e : A + v = u + s + n) : c * 2 ^ s * 2 ^ u = k * 2 ^ v := by
  refine Nat.eq_of_mul_eq_mul_right (Nat.two_pow_pos n) ?_
  calc c * 2 ^ s * 2 ^ u * 2 ^ n = c * (2 ^ u * 2 ^ s * 2 ^ n) := by ac_rfl
    _ = c * (2 ^ A * 2 ^ v) := by rw [← Nat.pow_add, ← Nat.pow_add, ← e, Nat.pow_add]
    _ = c * 2 ^ A * 2 ^ v := by ac_rfl
    _ = k * 2 ^ n * 2 ^ v := by rw [h]
    _ = k * 2 ^ v * 2 ^ n := by ac_rfl
theorem pw2 {c d A B T u v s t : Nat} (hT : 0 < T) (h3 : c * 2 ^ t = A * T) (k3 : d * 2 ^ s = B * T) (e : s + u = t + v) : c * B * 2 ^ u = A * d * 2 ^ v := by
  refine Nat.eq_of_mul_eq_mul_right hT ?_
  calc c * B * 2 ^ u * T = c * (B * T) * 2 ^ u := by ac_rfl
    _ = c * (d * 2 ^ s) * 2 ^ u := by rw [k3]
    _ = c * d * (2 ^ s * 2 ^ u) := by ac_rfl
    _ = c * d * (2 ^ t * 2 ^ v) := by rw [← Nat.pow_add, e, Nat.pow_add]
    _ = d * (c * 2 ^ t) * 2 ^ v := by ac_rfl
    _ = d * (A * T) * 2 ^ v := by rw [h3]
    _ = A * d * 2 ^ v * T := by ac_rfl
theorem dint_nan {x : UInt64} {i : Int} (h : Jvm.FP.Core.DInt i x) : Jvm.FP.Core.dIsNaN x = false := by
  cases h1 : Jvm.FP.Core.dIsNaN x with
  | false => rfl
  | true => have h2 := (Jvm.FP.Core.dIsNaN_iff x).mp h1; unfold Jvm.FP.Core.DInt at h; rw [h2] at h; exact h.elim
theorem rq_min {x : Jvm.FP.Core.Datum} {s : Bool} {c : Nat} {q : Int} (h : Jvm.FP.Core.round Jvm.FP.Core.b64 x = .fin s c q) : -1074 ≤ q := by
  have := Jvm.FP.Core.round_fits Jvm.FP.Core.good_b64 x
  rw [h] at this
  have := this.2.1
  rw [b64_q] at this; exact this
theorem fv_manI {x : UInt64} {c : Nat} (h : fv x c (-52)) : Jvm.FP.Core.dIsNaN (FP.dsub x FP.dconst1) = false ∧ Jvm.FP.Core.DInt ((c - 2 ^ 52 : Nat) : Int) (FP.dmul (FP.dsub x FP.dconst1) d52) := by
  have g1 := h.2.1
  have g2 := h.2.2.1
  have e1 : Jvm.FP.Core.val64 (FP.dsub x FP.dconst1) = Jvm.FP.Core.round Jvm.FP.Core.b64 (.fin false (c - 2 ^ 52) (-52)) := by
    have e := Jvm.FP.Core.val64_dsub x FP.dconst1
    rw [h.1, d1_v] at e
    refine e.trans (congrArg _ ?_)
    have e2 : Jvm.FP.Core.sumUnits false c (-52) true (2 ^ 52) (-52) (-52) = (c : Int) - 2 ^ 52 := by
      simp [Jvm.FP.Core.sumUnits, Jvm.FP.Core.signed, Jvm.FP.Core.inUnits]; omega
    show Jvm.FP.Core.Datum.fin (Jvm.FP.Core.sumSign false true (Jvm.FP.Core.sumUnits false c (-52) true (2 ^ 52) (-52) (-52))) (Jvm.FP.Core.sumUnits false c (-52) true (2 ^ 52) (-52) (-52)).natAbs (-52) = _
    rw [e2]
    have es : Jvm.FP.Core.sumSign false true ((c : Int) - 2 ^ 52) = false := by
      unfold Jvm.FP.Core.sumSign
      split
      · rfl
      · exact decide_eq_false (by omega)
    have en : ((c : Int) - 2 ^ 52).natAbs = c - 2 ^ 52 := by omega
    rw [es, en]
  obtain ⟨c1, q1, r1, r2⟩ := Jvm.FP.Core.round_exact Jvm.FP.Core.good_b64 false (c := c - 2 ^ 52) (q := -52) (by rw [b64_p]; omega) (by rw [b64_q]; omega) (by rw [b64_m]; omega)
  rw [r1] at e1
  have f2 : -1074 ≤ q1 := rq_min r1
  unfold Jvm.FP.Core.inUnits at r2
  rw [b64_q] at r2
  have e3 := Jvm.FP.Core.val64_dmul (FP.dsub x FP.dconst1) d52
  rw [e1, d52_v] at e3
  have w : Jvm.FP.Core.Whole ((c - 2 ^ 52 : Nat) : Int) (.fin false (c1 * 2 ^ 52) q1) := by
    show Jvm.FP.Core.signed false (c1 * 2 ^ 52 * 2 ^ q1.toNat) = ((c - 2 ^ 52 : Nat) : Int) * ((2 ^ (-q1).toNat : Nat) : Int)
    have w1 : c1 * 2 ^ 52 * 2 ^ q1.toNat = (c - 2 ^ 52) * 2 ^ (-q1).toNat := pw1 r2 (by omega)
    rw [w1]
    simp [Jvm.FP.Core.signed]
  have e4 : Jvm.FP.Core.val64 (FP.dmul (FP.dsub x FP.dconst1) d52) = Jvm.FP.Core.round Jvm.FP.Core.b64 (.fin false (c1 * 2 ^ 52) q1) := by
    refine e3.trans ?_
    show Jvm.FP.Core.round Jvm.FP.Core.b64 (.fin (false != false) (c1 * 2 ^ 52) (q1 + 0)) = _
    rw [Int.add_zero]; rfl
  refine ⟨fin_nan e1, ?_⟩
  unfold Jvm.FP.Core.DInt
  rw [e4]
  exact Jvm.FP.Core.whole_round Jvm.FP.Core.good_b64 Jvm.FP.Core.wide_b64 (by rw [b64_p]; omega) w
theorem fv_man {x : UInt64} {c : Nat} (h : fv x c (-52)) : vf_n64 (FP.dsub x FP.dconst1) ∧ vf_n64 (FP.dmul (FP.dsub x FP.dconst1) d52) ∧ FP.d2l (FP.dmul (FP.dsub x FP.dconst1) d52) = Int64.ofNat (c - 2 ^ 52) := by
  refine ⟨n64_of (fv_manI h).1, n64_of (dint_nan (fv_manI h).2), Jvm.FP.Core.d2l_int ?_⟩
  rw [show (Int64.ofNat (c - 2 ^ 52)).toInt = ((c - 2 ^ 52 : Nat) : Int) from Int64.toInt_ofNat_of_lt (by have := h.2.2.1; omega)]
  exact (fv_manI h).2
theorem sh_52 : ∀ d : Fin 1000, lS (1023 - Int64.ofNat d) 52 = Int64.ofNat ((1023 - d) * 2 ^ 52) := by decide +kernel
theorem sh_bits {x : UInt64} {c d : Nat} {q : Int} (h : fv x c q) (hd : q + d = -52) : lS (1023 - Int64.ofNat d) 52 + Int64.ofNat (c - 2 ^ 52) = x.toInt64 := by
  have h1 := h.2.2.2.1
  rw [sh_52 ⟨d, by omega⟩, ← Int64.ofNat_add]
  have h2 := fv_bits h
  rw [show (q + 1075).toNat = 1023 - d by omega] at h2
  rw [show ((1023 - d) * 2 ^ 52 + (c - 2 ^ 52)) = x.toNat from h2.symm]
  apply Int64.toBitVec_inj.mp
  show BitVec.ofNat 64 x.toNat = x.toBitVec
  exact (BitVec.ofNat_toNat 64 x.toBitVec).trans (BitVec.setWidth_eq _)
def shOk (x : UInt64) : Prop := x = 0 ∨ ∃ c q, fv x c q
theorem sh_zero {b : Int32} (h : 0 < b.toInt) : FP.ddiv (FP.i2d 0) (FP.i2d b) = 0 := by
  have h1 : Jvm.FP.Core.val64 (FP.i2d 0) = .fin false 0 (-1074) := by decide +kernel
  obtain ⟨s, c, q, h2⟩ : ∃ s c q, Jvm.FP.Core.val64 (FP.i2d b) = .fin s c q := by
    have w := Jvm.FP.Core.i2d_int b
    unfold Jvm.FP.Core.DInt at w
    cases hv : Jvm.FP.Core.val64 (FP.i2d b) with
    | nan => rw [hv] at w; exact w.elim
    | inf => rw [hv] at w; exact w.elim
    | fin s c q => exact ⟨s, c, q, rfl⟩
  have w := Jvm.FP.Core.i2d_int b
  unfold Jvm.FP.Core.DInt at w
  have w' : Jvm.FP.Core.Whole b.toInt (.fin s c q) := by rw [← h2]; exact w
  have hc : ¬ c = 0 := fun e => by have := (Jvm.FP.Core.whole_zero w').mp e; omega
  have hs := Jvm.FP.Core.whole_sign w' (by omega)
  have e := Jvm.FP.Core.val64_ddiv (FP.i2d 0) (FP.i2d b)
  rw [h1, h2] at e
  have e2 : Jvm.FP.Core.quotient Jvm.FP.Core.b64 (.fin false 0 (-1074)) (.fin s c q) = .fin false 0 (-1074) := by
    show (if c = 0 then _ else Jvm.FP.Core.roundRatio Jvm.FP.Core.b64 (false != s) 0 c (-1074 - q)) = _
    rw [if_neg hc, hs, decide_eq_false (by omega)]
    unfold Jvm.FP.Core.roundRatio
    rw [if_pos rfl, b64_q]; rfl
  rw [e2] at e
  have e3 : Jvm.FP.Core.val64 (FP.ddiv (FP.i2d 0) (FP.i2d b)) = Jvm.FP.Core.val64 FP.dconst0 := e.trans d0_v.symm
  exact Jvm.FP.Core.val64_inj (by rw [e3, d0_v]; intro q; cases q) e3
theorem i2d_pos {a : Int32} (h : 0 < a.toInt) : ∃ c q, Jvm.FP.Core.val64 (FP.i2d a) = .fin false c q ∧ -1074 ≤ q ∧ c * 2 ^ (q + 1074).toNat = a.toInt.toNat * 2 ^ 1074 := by
  have hb := a.toInt_lt
  obtain ⟨c1, q1, r1, r2⟩ := Jvm.FP.Core.round_exact Jvm.FP.Core.good_b64 false (c := a.toInt.natAbs) (q := 0) (by rw [b64_p]; omega) (by rw [b64_q]; omega) (by rw [b64_m]; omega)
  have f1 := Jvm.FP.Core.round_fits Jvm.FP.Core.good_b64 (.fin false a.toInt.natAbs 0)
  rw [r1] at f1
  have f2 : -1074 ≤ q1 := by have := f1.2.1; rw [b64_q] at this; exact this
  refine ⟨c1, q1, ?_, f2, ?_⟩
  · have e := Jvm.FP.Core.val64_i2d a
    refine e.trans ?_
    unfold Jvm.FP.Core.ofInt
    rw [decide_eq_false (by omega)]
    exact r1
  · unfold Jvm.FP.Core.inUnits at r2
    rw [b64_q] at r2
    rw [show (q1 + 1074).toNat = (q1 - -1074).toNat by omega, r2, show (0 - -1074 : Int).toNat = 1074 by decide, show a.toInt.natAbs = a.toInt.toNat by omega]
theorem div_ratio {a b : Int32} (ha : 0 < a.toInt) (hb : 0 < b.toInt) : Jvm.FP.Core.val64 (FP.ddiv (FP.i2d a) (FP.i2d b)) = Jvm.FP.Core.roundRatio Jvm.FP.Core.b64 false a.toInt.toNat b.toInt.toNat 0 := by
  obtain ⟨c, q, h1, h2, h3⟩ := i2d_pos ha
  obtain ⟨d, r, k1, k2, k3⟩ := i2d_pos hb
  have p1 := Nat.two_pow_pos 1074
  have hd : 0 < d := by
    refine Nat.pos_of_ne_zero fun e => ?_
    rw [e, Nat.zero_mul] at k3
    have := Nat.mul_pos (show 0 < b.toInt.toNat by omega) p1
    omega
  have e := Jvm.FP.Core.val64_ddiv (FP.i2d a) (FP.i2d b)
  rw [h1, k1] at e
  refine e.trans ?_
  show (if d = 0 then _ else Jvm.FP.Core.roundRatio Jvm.FP.Core.b64 (false != false) c d (q - r)) = _
  rw [if_neg (by omega)]
  refine Jvm.FP.Core.roundRatio_congr hd (by omega) ?_
  generalize a.toInt.toNat = A at *
  generalize b.toInt.toNat = B at *
  exact pw2 p1 h3 k3 (by omega)
theorem ratio_fv {A B : Nat} (ha : 0 < A) (hab : A ≤ B) (hb : B < 2 ^ 31) : ∃ c q, Jvm.FP.Core.roundRatio Jvm.FP.Core.b64 false A B 0 = .fin false c q ∧ 2 ^ 52 ≤ c ∧ c < 2 ^ 53 ∧ -1000 ≤ q ∧ q ≤ -52 := by
  by_cases h : A = B
  · subst h
    refine ⟨2 ^ 52, -52, Jvm.FP.Core.roundRatio_exact Jvm.FP.Core.good_b64 ha (fv_fits (by decide)) ?_, by decide, by decide, by decide, by decide⟩
    rw [show (0 - -52 : Int).toNat = 52 by decide, show (-52 - 0 : Int).toNat = 0 by decide]
    omega
  · have hB : 0 < B := by omega
    have l := Jvm.FP.Core.leading_spec ha hB
    have u1 : Jvm.FP.Core.leading A B < 0 := Jvm.FP.Core.lt_of_below l.1 (by unfold Jvm.FP.Core.Below; simp; omega)
    have u2 : (-31 : Int) < Jvm.FP.Core.leading A B + 1 := Jvm.FP.Core.lt_of_below (by
      unfold Jvm.FP.Core.Below
      rw [show (- -31 : Int).toNat = 31 by decide, show (-31 : Int).toNat = 0 by decide]
      have : 1 * 2 ^ 31 ≤ A * 2 ^ 31 := Nat.mul_le_mul_right _ ha
      omega) l.2
    have hq : Jvm.FP.Core.quantum Jvm.FP.Core.b64 A B 0 = Jvm.FP.Core.leading A B - 52 := by
      unfold Jvm.FP.Core.quantum
      rw [b64_q, b64_p]; omega
    have hf := Jvm.FP.Core.roundRatio_fits Jvm.FP.Core.good_b64 false A hB 0
    revert hf
    unfold Jvm.FP.Core.roundRatio
    rw [if_neg (by omega), hq]
    unfold Jvm.FP.Core.roundAt Jvm.FP.Core.settle Jvm.FP.Core.bound
    generalize Jvm.FP.Core.nearest _ _ = N
    intro hf
    split
    · rename_i h1
      rw [if_pos h1, if_pos (by rw [b64_m]; omega)] at hf
      rw [if_pos (by rw [b64_m]; omega)]
      obtain ⟨f1, f2, f3, f4⟩ := hf
      rw [b64_p] at f1
      rw [b64_q, b64_t] at f4
      exact ⟨_, _, rfl, by omega, f1, by omega, by omega⟩
    · rw [if_pos (by rw [b64_m]; omega), b64_t]
      exact ⟨_, _, rfl, by decide, by decide, by omega, by omega⟩
theorem sh_div {a b : Int32} (ha : 0 ≤ a.toInt) (hab : a.toInt ≤ b.toInt) (hb : 0 < b.toInt) : shOk (FP.ddiv (FP.i2d a) (FP.i2d b)) := by
  by_cases h : a.toInt = 0
  · have e : a = 0 := Int32.toInt_inj.mp (by rw [h]; rfl)
    subst e
    exact .inl (sh_zero hb)
  · have hl := b.toInt_lt
    obtain ⟨c, q, h1, h2⟩ := ratio_fv (A := a.toInt.toNat) (B := b.toInt.toNat) (by omega) (by omega) (by omega)
    exact .inr ⟨c, q, (div_ratio (by omega) hb).trans h1, h2⟩

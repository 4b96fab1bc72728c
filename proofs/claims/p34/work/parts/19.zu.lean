/-! the model: its hash -/
def i2 (v : Int) : Int64 := (jI v).toInt64
def mxM (m : Mem) (v : Int64) : Mem := up m 197 13 (31 * lo (m 197 13) + v).toInt
def dFM (f : Mem → Int → Int64) : Nat → Int → Mem → Mem
  | 0, _, m => m
  | d + 1, k, m => dFM f d (k + 1) (mxM m (f m k))
def dCM (z : Z) : Nat → Int → Mem → Mem
  | 0, _, m => m
  | d + 1, c, m => dCM z d (c + 1) (mxM (dFM (fun _ w => i2 (zCN z c w)) 9 0 m) (i2 (zDis z c 0)))
def dTM (z : Z) : Nat → Int → Mem → Mem
  | 0, _, m => m
  | d + 1, t, m => dTM z d (t + 1) (mxM (dFM (fun _ w => i2 (zTN z t w)) 6 0 m) (i2 (zRk z t)))
def dOM (z : Z) : Nat → Int → Mem → Mem
  | 0, _, m => m
  | d + 1, k, m => dOM z d (k + 1) (mxM (mxM m (i2 (m 205 k))) (i2 (z (59 + 9 * m 205 k + 6) - 1)))
def zBk (z : Z) : UInt64 := if wr (z 5) = 0 then FP.dconst0 else FP.ddiv (FP.i2d (jI (z 6))) (FP.i2d (jI (z 5)))
theorem mxM_o {m : Mem} {v : Int64} {k : Nat} {j : Int} (h : ¬ (k = 197 ∧ j = 13)) : mxM m v k j = m k j := up_ne h
theorem dFM_o {f : Mem → Int → Int64} {q : Nat} {j : Int} (h : ¬ (q = 197 ∧ j = 13)) : ∀ (d : Nat) (k : Int) (m : Mem), dFM f d k m q j = m q j := by
  intro d
  induction d with
  | zero => intro k m; rfl
  | succ d ih => intro k m; rw [dFM, ih, mxM_o h]
theorem dCM_o {z : Z} {q : Nat} {j : Int} (h : ¬ (q = 197 ∧ j = 13)) : ∀ (d : Nat) (k : Int) (m : Mem), dCM z d k m q j = m q j := by
  intro d
  induction d with
  | zero => intro k m; rfl
  | succ d ih => intro k m; rw [dCM, ih, mxM_o h, dFM_o h]
theorem dTM_o {z : Z} {q : Nat} {j : Int} (h : ¬ (q = 197 ∧ j = 13)) : ∀ (d : Nat) (k : Int) (m : Mem), dTM z d k m q j = m q j := by
  intro d
  induction d with
  | zero => intro k m; rfl
  | succ d ih => intro k m; rw [dTM, ih, mxM_o h, dFM_o h]
theorem dOM_o {z : Z} {q : Nat} {j : Int} (h : ¬ (q = 197 ∧ j = 13)) : ∀ (d : Nat) (k : Int) (m : Mem), dOM z d k m q j = m q j := by
  intro d
  induction d with
  | zero => intro k m; rfl
  | succ d ih => intro k m; rw [dOM, ih, mxM_o h, mxM_o h]
theorem n64_of {x : UInt64} (h : Jvm.FP.Core.dIsNaN x = false) : vf_n64 x := by
  have h1 := (Jvm.FP.Core.ne_nan x).mp ((Jvm.FP.Core.notNaN_iff x).mp h)
  unfold vf_n64
  rw [UInt64.le_iff_toNat_le, Jvm.FP.Core.mask_toNat]
  exact h1
theorem div_nan {a b : Int32} (h : b ≠ 0) : Jvm.FP.Core.dIsNaN (FP.ddiv (FP.i2d a) (FP.i2d b)) = false :=
  Jvm.FP.Core.ddiv_out ((Jvm.FP.Core.notNaN_iff _).mpr (Jvm.FP.Core.i2d_fin a).ne_nan) (Jvm.FP.Core.i2d_fin b) (fun q => Jvm.FP.Core.i2d_ne_zero h ((Jvm.FP.Core.zero_bits2 _).mp q))
theorem div_n64 {a b : Int32} (h : b ≠ 0) : vf_n64 (FP.ddiv (FP.i2d a) (FP.i2d b)) := n64_of (div_nan h)
theorem zBk_nan (z : Z) : Jvm.FP.Core.dIsNaN (zBk z) = false := by
  unfold zBk
  split
  · decide +kernel
  · rename_i h
    exact div_nan (fun q => h (by unfold wr; rw [q]; rfl))
theorem jI_nz {x : Int} (h : ¬ wr x = 0) : jI x ≠ 0 := fun q => h (by unfold wr; rw [q]; rfl)
def dC (o : Option Ordering) (op : CmpOp) : Int := (Op.cmpValue o op).toInt
section
variable {G : GX} {sh : List SH} {M : MI} {mc ms : Nat} {F : FinT} {pc : Nat} {L : List (Option PV)} {S : List PV} {m : Mem} {k n : Nat}
theorem j_dcmp {x y : UInt64} {op : CmpOp} {q : Nat} (hd : decode (mB M) pc = .ok (.dcmp op, 1)) (hq : pc + 1 = q) (kk : J G sh M mc ms F q L (.inl (dC (FP.dcmp x y) op) :: S) m k n) : J G sh M mc ms F pc L (.inr (.double y) :: .inr (.double x) :: S) m k n := by
  intro p e s mm args below meth c R C H locs ls hP hS hL
  subst hq
  have h := kk p e s mm args below meth c R C H locs ls hP hS hL
  have e1 : jv G (.inl (dC (FP.dcmp x y) op)) = .int (Op.cmpValue (FP.dcmp x y) op) := by show Value.int (jI (Op.cmpValue (FP.dcmp x y) op).toInt) = _; unfold jI; rw [Int32.ofInt_toInt]
  rw [List.map_cons, e1] at h
  exact lv_dcmp C.x C.b hd h
end
def dPM (z : Z) (m : Mem) : Mem := dFM (fun _ k => i2 (zIN z (k / 7) (k % 7))) (7 * z 3).toNat 0 (dTM z (z 2).toNat 0 m)
def dAM1 (z : Z) (m : Mem) : Mem := mxM (dFM (fun _ p => i2 (zWst z p)) 8 0 (dOM z (zOrN z (m 205)).toNat 0 (so m (zOrd z (m 205))))) (i2 (zG z))
def sbM (z : Z) (p : Int) (m : Mem) : Mem := mxM (so (kpM z m 2195) (zSbE z p (m 205)).2) (i2 (zSvb z p (m 205)))
def sbZ (z : Z) (p : Int) (m : Mem) : Z := brZ (kpM z m 2195 199) (zSbE z p (m 205)).1 2195
def dAM2 (z : Z) (m : Mem) : Mem := sbM z 1 (dAM1 z m)
def dAZ2 (z : Z) (m : Mem) : Z := sbZ z 1 (dAM1 z m)
def dAM3 (z : Z) (m : Mem) : Mem := sbM (dAZ2 z m) 3 (dAM2 z m)
def dAZ3 (z : Z) (m : Mem) : Z := sbZ (dAZ2 z m) 3 (dAM2 z m)
def dAM (z : Z) (m : Mem) : Mem := mxM (dAM3 z m) (zBk (dAZ3 z m)).toInt64
theorem sbZ_j {z : Z} {p : Int} {m : Mem} {j : Int} (h : 0 ≤ j ∧ j < 2195) : sbZ z p m j = z j := by
  unfold sbZ brZ
  rw [if_pos h]
  unfold kpM
  rw [if_pos ⟨rfl, h⟩]
theorem WI_sbZ {z : Z} {K p : Int} {m : Mem} (h : WI z K) : WI (sbZ z p m) K := by
  have hw := h.2.2.2.2.1
  refine WI_cg h (sbZ_j (by omega)) (sbZ_j (by omega)) (fun j h1 h2 => by rw [sbZ_j (by omega)]; exact h.2.2.1 j h1 h2) (fun c h1 h2 => ⟨sbZ_j (by omega), sbZ_j (by omega)⟩) ?_
  rw [sbZ_j (by omega), sbZ_j (by omega), sbZ_j (by omega)]; omega
def th0 (m : Mem) : Mem := up m 197 12 0
def dgM0 (m : Mem) : Mem := up (th0 m) 197 13 2351
def dgM1 (z : Z) (m : Mem) : Mem := dCM z 64 0 (dFM (fun _ k => i2 (z (15 + k))) 8 0 (dFM (fun m k => i2 (zCnt z (m 197 10) k)) 19 0 (dgM0 m)))
def dgM2 (z : Z) (m : Mem) : Mem := dAM z (dPM z (dgM1 z m))
def dgZ (z : Z) (m : Mem) : Z := dAZ3 z (dPM z (dgM1 z m))
def dgM (z : Z) (m : Mem) : Mem := dFM (fun m k => i2 (m 201 k)) (m 197 11).toNat 0 (mxM (dgM2 z m) (i2 (dgM2 z m 197 11)))
theorem so_o {m : Mem} {o : Int → Int} {k : Nat} {j : Int} (h : ¬ k = 205) : so m o k j = m k j := by rw [so_lo h]
theorem kpM_o {m : Mem} {z : Z} {n : Int} {k : Nat} {j : Int} (h : ¬ k = 199) : kpM z m n k j = m k j := if_neg (by omega)
theorem sbM_o {z : Z} {p : Int} {m : Mem} {k : Nat} {j : Int} (h : ¬ (k = 197 ∧ j = 13)) (h1 : ¬ k = 205) (h2 : ¬ k = 199) : sbM z p m k j = m k j := by rw [sbM, mxM_o h, so_o h1, kpM_o h2]
theorem dAM_o {z : Z} {m : Mem} {k : Nat} {j : Int} (h : ¬ (k = 197 ∧ j = 13)) (h1 : ¬ k = 205) (h2 : ¬ k = 199) : dAM z m k j = m k j := by
  rw [dAM, mxM_o h, dAM3, sbM_o h h1 h2, dAM2, sbM_o h h1 h2, dAM1, mxM_o h, dFM_o h, dOM_o h, so_o h1]
theorem dPM_o {z : Z} {m : Mem} {k : Nat} {j : Int} (h : ¬ (k = 197 ∧ j = 13)) : dPM z m k j = m k j := by rw [dPM, dFM_o h, dTM_o h]
theorem dgM2_o {z : Z} {m : Mem} {k : Nat} {j : Int} (h : ¬ (k = 197 ∧ (j = 13 ∨ j = 12))) (h1 : ¬ k = 205) (h2 : ¬ k = 199) : dgM2 z m k j = m k j := by
  rw [dgM2, dAM_o (by omega) h1 h2, dPM_o (by omega), dgM1, dCM_o (by omega), dFM_o (by omega), dFM_o (by omega), dgM0, up_ne (by omega), th0, up_ne (by omega)]

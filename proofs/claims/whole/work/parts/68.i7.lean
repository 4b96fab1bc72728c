/-! the law's memory, step by step: plain mathematics -/
theorem zSv_x {z : Z} {m : Mem} {k : Nat} (h : ¬ k = 200) (h2 : ¬ k = 197) : zSv z m k = m k := by funext j; exact zSv_o h (by omega)
theorem th0_x {m : Mem} {k : Nat} (h : ¬ k = 197) : th0 m k = m k := up_ne' h
theorem th0_j {m : Mem} {k : Nat} {j : Int} (h : ¬ (k = 197 ∧ j = 12)) : th0 m k j = m k j := up_ne h
theorem kM_x {X P : Mem} (hz : 0 ≤ X 49 0 ∧ X 49 0 ≤ 6) (hr : SR X) {c : Nat} (h : 195 ≤ c) : kM X P c = X c := funext fun _ => kM_o hz hr h
theorem pScn_x {m : Mem} {k : Nat} (h : ¬ k = 202 ∧ ¬ k = 203 ∧ ¬ k = 204 ∧ ¬ k = 197) : pScn m k = m k := funext fun _ => pScn_o (by omega)
theorem kpM_x {z : Z} {m : Mem} {n : Int} {k : Nat} (h : ¬ k = 199) : kpM z m n k = m k := funext fun _ => kpM_o h
def rg (v : Int) : Prop := -2147483648 ≤ v ∧ v < 2147483648
theorem LI_mono {m P : Mem} {z : Z} {B K B' K' : Int} (hB : B ≤ B') (hB2 : B' ≤ 1000000) (hK : K ≤ K') (hK2 : K' ≤ 512) (h : LI m P z B K) : LI m P z B' K' := ⟨RR_mono hB hB2 hK hK2 h.1, h.2.1, VS_mono hB hB2 hK hK2 h.2.2.1, h.2.2.2.1, h.2.2.2.2⟩
theorem LW_nf {X : Mem} {B K : Int} (h : LW X B K) : LI X (pg X 1) (X 198) B K := by
  obtain ⟨P, z, h1, h2, h3⟩ := h
  rw [h2]
  exact ⟨RR_cgP h1 h3.1, CX_cgP h1 h3.2.1, h3.2.2.1, h3.2.2.2.1, h3.2.2.2.2⟩
theorem LW_mk {X Q : Mem} {y : Z} {B K : Int} {A : Mem} (hLI : LI A Q y B K) (h1 : ∀ d, d < 24 → X (1 + d) = Q d) (h2 : X 198 = y) (h3 : ∀ a, 49 ≤ a → a < 197 → X a = A a) (h4 : X 197 10 = A 197 10) (h5 : X 197 11 = A 197 11) (h6 : X 200 = A 200) (h7 : X 201 = A 201) : LW X B K := ⟨Q, y, h1, h2, LI_cg hLI h3 h4 h5 h6 h7⟩
/-- what the calls need -/
theorem LI_fx {X P : Mem} {z : Z} {B K : Int} (h : LI X P z B K) : (0 ≤ P 13 0 ∧ P 13 0 ≤ 6) ∧ (0 ≤ P 17 0 ∧ P 17 0 ≤ 3) ∧ CV P ∧ SR X ∧ (0 ≤ X 49 0 ∧ X 49 0 ≤ 6) ∧ (0 ≤ P 0 10 ∧ P 0 10 ≤ 512) ∧ (0 ≤ X 197 10 ∧ X 197 10 ≤ 6) ∧ P 13 0 = z 2 ∧ P 17 0 = z 3 ∧ WI z K := by
  obtain ⟨⟨hR, hQ, hD, hV, hW, hI⟩, hX, ⟨v1, v2, v3, v4⟩, ht, hT⟩ := h
  exact ⟨hV.1, hV.2.1, hV, v3, v1, hV.2.2.1.1, by rw [← v2]; exact v1, hR.tn, hR.im, hW⟩
/-- behind a call that answered, and changed nothing -/
theorem LW_q {X P : Mem} {z : Z} {w B K : Int} (hp : ∀ d, d < 24 → X (1 + d) = P d) (h : LI X P z B K) : LW (sz (th0 (up X 206 0 w)) z) B K := by
  refine LW_mk (Q := P) (y := z) (A := X) h (fun d hd => ?_) rfl (fun a h1 h2 => ?_) ?_ ?_ ?_ ?_
  · rw [sz_ne (by omega), th0_x (by omega), up_ne' (by omega)]; exact hp d hd
  · rw [sz_ne (by omega), th0_x (by omega), up_ne' (by omega)]
  · rw [sz_ne (by omega), th0_j (by omega), up_ne (by omega)]
  · rw [sz_ne (by omega), th0_j (by omega), up_ne (by omega)]
  · rw [sz_ne (by omega), th0_x (by omega), up_ne' (by omega)]
  · rw [sz_ne (by omega), th0_x (by omega), up_ne' (by omega)]
theorem LW_qo {X P : Mem} {z : Z} {w B K : Int} {o : Int → Int} (hp : ∀ d, d < 24 → X (1 + d) = P d) (h : LI X P z B K) : LW (sz (so (th0 (up X 206 0 w)) o) z) B K := by
  refine LW_mk (Q := P) (y := z) (A := X) h (fun d hd => ?_) rfl (fun a h1 h2 => ?_) ?_ ?_ ?_ ?_
  · rw [sz_ne (by omega), so_lo (by omega), th0_x (by omega), up_ne' (by omega)]; exact hp d hd
  · rw [sz_ne (by omega), so_lo (by omega), th0_x (by omega), up_ne' (by omega)]
  · rw [sz_ne (by omega), so_lo (by omega), th0_j (by omega), up_ne (by omega)]
  · rw [sz_ne (by omega), so_lo (by omega), th0_j (by omega), up_ne (by omega)]
  · rw [sz_ne (by omega), so_lo (by omega), th0_x (by omega), up_ne' (by omega)]
  · rw [sz_ne (by omega), so_lo (by omega), th0_x (by omega), up_ne' (by omega)]
/-- behind a call that was refused -/
theorem LW_f {X P : Mem} {z : Z} {w B K : Int} (hp : ∀ d, d < 24 → X (1 + d) = P d) (h : LI X P z B K) : LW (sz (up X 197 12 w) z) B K := by
  refine LW_mk (Q := P) (y := z) (A := X) h (fun d hd => ?_) rfl (fun a h1 h2 => ?_) ?_ ?_ ?_ ?_
  · rw [sz_ne (by omega), up_ne' (by omega)]; exact hp d hd
  · rw [sz_ne (by omega), up_ne' (by omega)]
  · rw [sz_ne (by omega), up_ne (by omega)]
  · rw [sz_ne (by omega), up_ne (by omega)]
  · rw [sz_ne (by omega), up_ne' (by omega)]
  · rw [sz_ne (by omega), up_ne' (by omega)]
/-- the memory behind the class's own call that keeps the present -/
def YS (X P Q : Mem) (w : Int) : Mem := up (ps (kM X P) 1 Q) 206 0 w
theorem YS_x {X P Q : Mem} {w : Int} (hz : 0 ≤ X 49 0 ∧ X 49 0 ≤ 6) (hr : SR X) {c : Nat} (h : 195 ≤ c) (h2 : ¬ c = 206) : YS X P Q w c = X c := by
  unfold YS
  rw [up_ne' h2, ps_ne (by omega), kM_x hz hr h]
theorem LW_s {X P Q : Mem} {z y : Z} {w B K B' K' : Int} (h : LI X P z B K) (hR : RR Q y 10000 B' K') (hX : CX Q) (hB : B ≤ B') (hB2 : B' ≤ 1000000) (hK : K ≤ K') (hK2 : K' ≤ 512) : LW (sz (zSv z (th0 (YS X P Q w))) y) B' K' := by
  have hf := LI_fx h
  have hz := hf.2.2.2.2.1
  have hr := hf.2.2.2.1
  have c := zSv_cg (z := z) (A := th0 (YS X P Q w)) (C := th0 (kM X P)) (by rw [th0_j (by omega), th0_j (by omega), YS_x hz hr (by omega) (by omega), kM_x hz hr (by omega)]) (by rw [th0_x (by omega), th0_x (by omega), YS_x hz hr (by omega) (by omega), kM_x hz hr (by omega)])
  refine LW_mk (Q := Q) (y := y) (A := zSv z (th0 (kM X P))) (LI_save h hR hX hB hB2 hK hK2) (fun d hd => ?_) rfl (fun a h1 h2 => ?_) ?_ ?_ ?_ ?_
  · rw [sz_ne (by omega), zSv_x (by omega) (by omega), th0_x (by omega)]; unfold YS; rw [up_ne' (by omega), ps_at hd]
  · rw [sz_ne (by omega), zSv_x (by omega) (by omega), zSv_x (by omega) (by omega), th0_x (by omega), th0_x (by omega)]; unfold YS; rw [up_ne' (by omega), ps_ne (by omega)]
  · rw [sz_ne (by omega)]; exact c.1
  · rw [sz_ne (by omega), zSv_o (by omega) (by omega), zSv_o (by omega) (by omega), th0_j (by omega), th0_j (by omega), YS_x hz hr (by omega) (by omega), kM_x hz hr (by omega)]
  · rw [sz_ne (by omega)]; exact c.2
  · rw [sz_ne (by omega), zSv_x (by omega) (by omega), zSv_x (by omega) (by omega), th0_x (by omega), th0_x (by omega), YS_x hz hr (by omega) (by omega), kM_x hz hr (by omega)]
/-- order and row on top of a memory that holds -/
theorem LW_so {X : Mem} {y : Z} {B K : Int} {o : Int → Int} (h : LW (sz X y) B K) : LW (sz (so X o) y) B K := by
  obtain ⟨P, z, h1, h2, h3⟩ := h
  refine LW_mk (Q := P) (y := z) (A := sz X y) h3 (fun d hd => ?_) h2 (fun a q1 q2 => ?_) ?_ ?_ ?_ ?_
  · rw [sz_ne (by omega), so_lo (by omega), ← h1 d hd, sz_ne (by omega)]
  · rw [sz_ne (by omega), so_lo (by omega), sz_ne (by omega)]
  · rw [sz_ne (by omega), so_lo (by omega), sz_ne (by omega)]
  · rw [sz_ne (by omega), so_lo (by omega), sz_ne (by omega)]
  · rw [sz_ne (by omega), so_lo (by omega), sz_ne (by omega)]
  · rw [sz_ne (by omega), so_lo (by omega), sz_ne (by omega)]
/-! a call of the law on both sides -/
def TW (G : GX) (Mw : MI) (hh : HT) (Mm : MI) (a : List PV) (X : Mem) (B K : Int) : Prop := ∃ (k b : Int) (X1 X2 : Mem), CW G SHP Mw hh 1 6 (.inr (.ref 0) :: (a ++ [.inr (.ref 206)])) X (some (.inl k)) X1 ∧ CT G SHP Mm 0 0 (.inr (.ref 197) :: a) X1 (some (.inl b)) X2 ∧ X2 197 12 = k ∧ (0 ≤ k ∧ k ≤ 3) ∧ (k = 0 → lo (X2 206 0) = i2 b) ∧ LW X2 (B + 32) (K + 1)
theorem ctx_e {G : GX} {M : MI} {a : List PV} {X P : Mem} {E : String} (e : ps X 1 P = X) (h : CTX G SHP M 1 6 a (ps X 1 P) E (ps X 1 P)) : CTX G SHP M 1 6 a X E X := by rw [e] at h; exact h
theorem ct_e {G : GX} {M : MI} {a : List PV} {X P Y : Mem} {r : Option PV} (e : ps X 1 P = X) (h : CT G SHP M 0 0 a (ps X 1 P) r Y) : CT G SHP M 0 0 a X r Y := by rw [e] at h; exact h
theorem ct_q {G : GX} {M : MI} {a : List PV} {X P : Mem} {r : Option PV} (e : ps X 1 P = X) (h : CT G SHP M 0 0 a (ps X 1 P) r (ps X 1 P)) : CT G SHP M 0 0 a X r X := by rw [e] at h; exact h
section
variable {G : GX} {Mw Mm : MI} {hh : HT} {a : List PV} {X P : Mem} {z : Z} {B K : Int}
theorem TW_F {k b : Int} (hp : ∀ d, d < 24 → X (1 + d) = P d) (e3 : X 198 = z) (h : LI X P z B K) (hB : B + 32 ≤ 1000000) (hK : K + 1 ≤ 512) (hk : 1 ≤ k ∧ k ≤ 3) (w : CW G SHP Mw hh 1 6 (.inr (.ref 0) :: (a ++ [.inr (.ref 206)])) X (some (.inl k)) X) (c : CT G SHP Mm 0 0 (.inr (.ref 197) :: a) (sz X z) (some (.inl b)) (sz (up X 197 12 k) z)) : TW G Mw hh Mm a X B K := by
  rw [sz_self' e3] at c
  exact ⟨k, b, X, _, w, c, by rw [sz_ne (by omega), up_at], by omega, fun q => by omega, LW_f hp (LI_mono (by omega) hB (by omega) hK h)⟩
theorem TW_Q {r b : Int} (hp : ∀ d, d < 24 → X (1 + d) = P d) (e3 : X 198 = z) (h : LI X P z B K) (hB : B + 32 ≤ 1000000) (hK : K + 1 ≤ 512) (hr : r = b) (w : CW G SHP Mw hh 1 6 (.inr (.ref 0) :: (a ++ [.inr (.ref 206)])) X (some (.inl 0)) (up X 206 0 (i2 r).toInt)) (c : CT G SHP Mm 0 0 (.inr (.ref 197) :: a) (sz (up X 206 0 (i2 r).toInt) z) (some (.inl b)) (sz (th0 (up X 206 0 (i2 r).toInt)) z)) : TW G Mw hh Mm a X B K := by
  rw [sz_self' (by rw [up_ne' (by omega)]; exact e3)] at c
  refine ⟨0, b, _, _, w, c, by rw [sz_ne (by omega)]; unfold th0; rw [up_at], by omega, fun q => ?_, LW_q hp (LI_mono (by omega) hB (by omega) hK h)⟩
  rw [sz_ne (by omega), th0_j (by omega), up_at, hr]
  exact Int64.ofInt_toInt _
theorem TW_Qo {r b : Int} {o : Int → Int} (hp : ∀ d, d < 24 → X (1 + d) = P d) (e3 : X 198 = z) (h : LI X P z B K) (hB : B + 32 ≤ 1000000) (hK : K + 1 ≤ 512) (hr : r = b) (w : CW G SHP Mw hh 1 6 (.inr (.ref 0) :: (a ++ [.inr (.ref 206)])) X (some (.inl 0)) (up X 206 0 (i2 r).toInt)) (c : CT G SHP Mm 0 0 (.inr (.ref 197) :: a) (sz (up X 206 0 (i2 r).toInt) z) (some (.inl b)) (sz (so (th0 (up X 206 0 (i2 r).toInt)) o) z)) : TW G Mw hh Mm a X B K := by
  rw [sz_self' (by rw [up_ne' (by omega)]; exact e3)] at c
  refine ⟨0, b, _, _, w, c, by rw [sz_ne (by omega), so_lo (by omega)]; unfold th0; rw [up_at], by omega, fun q => ?_, LW_qo hp (LI_mono (by omega) hB (by omega) hK h)⟩
  rw [sz_ne (by omega), so_lo (by omega), th0_j (by omega), up_at, hr]
  exact Int64.ofInt_toInt _
theorem TW_S {r b : Int} {Q : Mem} {y : Z} (e3 : X 198 = z) (h : LI X P z B K) (hB : B + 32 ≤ 1000000) (hK : K + 1 ≤ 512) (hr : r = b) (hR : RR Q y 10000 (B + 32) (K + 1)) (hX : CX Q) (w : CW G SHP Mw hh 1 6 (.inr (.ref 0) :: (a ++ [.inr (.ref 206)])) X (some (.inl 0)) (YS X P Q (i2 r).toInt)) (c : CT G SHP Mm 0 0 (.inr (.ref 197) :: a) (sz (YS X P Q (i2 r).toInt) z) (some (.inl b)) (sz (zSv z (th0 (YS X P Q (i2 r).toInt))) y)) : TW G Mw hh Mm a X B K := by
  have hf := LI_fx h
  have hz := hf.2.2.2.2.1
  have hs := hf.2.2.2.1
  rw [sz_self' (by rw [YS_x hz hs (by omega) (by omega)]; exact e3)] at c
  refine ⟨0, b, _, _, w, c, by rw [sz_ne (by omega), zSv_o (by omega) (by omega)]; unfold th0; rw [up_at], by omega, fun q => ?_, LW_s h hR hX (by omega) hB (by omega) hK⟩
  rw [sz_ne (by omega), zSv_x (by omega) (by omega), th0_j (by omega)]
  unfold YS
  rw [up_at, hr]
  exact Int64.ofInt_toInt _
theorem TW_So {r b : Int} {Q : Mem} {y : Z} {o : Int → Int} (e3 : X 198 = z) (h : LI X P z B K) (hB : B + 32 ≤ 1000000) (hK : K + 1 ≤ 512) (hr : r = b) (hR : RR Q y 10000 (B + 32) (K + 1)) (hX : CX Q) (w : CW G SHP Mw hh 1 6 (.inr (.ref 0) :: (a ++ [.inr (.ref 206)])) X (some (.inl 0)) (YS X P Q (i2 r).toInt)) (c : CT G SHP Mm 0 0 (.inr (.ref 197) :: a) (sz (YS X P Q (i2 r).toInt) z) (some (.inl b)) (sz (so (zSv z (th0 (YS X P Q (i2 r).toInt))) o) y)) : TW G Mw hh Mm a X B K := by
  have hf := LI_fx h
  have hz := hf.2.2.2.2.1
  have hs := hf.2.2.2.1
  rw [sz_self' (by rw [YS_x hz hs (by omega) (by omega)]; exact e3)] at c
  refine ⟨0, b, _, _, w, c, by rw [sz_ne (by omega), so_lo (by omega), zSv_o (by omega) (by omega)]; unfold th0; rw [up_at], by omega, fun q => ?_, LW_so (LW_s h hR hX (by omega) hB (by omega) hK)⟩
  rw [sz_ne (by omega), so_lo (by omega), zSv_x (by omega) (by omega), th0_j (by omega)]
  unfold YS
  rw [up_at, hr]
  exact Int64.ofInt_toInt _
end
/-! claims stay on insurers that there are -/
theorem CX_at {P : Mem} {v : Int} (h : CX P) : CX (cAT P v) := by
  refine CX_cg h ?_ ?_ (fun j => ?_) <;> unfold cAT <;> rw [up_ne (by omega), up_ne (by omega)]
theorem CX_ai {P : Mem} {f r c : Int} (h : CX P) : CX (cAI P f r c) := fun j a b => by
  have e1 : cAI P f r c 17 0 = P 17 0 + 1 := by unfold cAI; rw [up_at]
  have e2 : cAI P f r c 0 10 = P 0 10 := by unfold cAI; rw [up_ne (by omega), up_ne (by omega), up_ne (by omega), up_ne (by omega)]
  have e3 : cAI P f r c 23 j = P 23 j := by unfold cAI; rw [up_ne (by omega), up_ne (by omega), up_ne (by omega), up_ne (by omega)]
  rw [e2] at b
  rw [e1, e3]
  have := h j a b
  omega
theorem CX_set {P : Mem} {s v : Int} (h : CX P) : CX (up P 1 s v) := CX_cg h (up_ne (by omega)) (up_ne (by omega)) (fun j => up_ne (by omega))
theorem CX_le {P : Mem} {c t k : Int} (h : CX P) : CX (cLeO P c t k) := by
  refine CX_cg h ?_ ?_ (fun j => ?_) <;> simp only [cLeO] <;> rw [up_ne (by omega), up_ne (by omega), up_ne (by omega), up_ne (by omega)]
theorem CX_ren {P : Mem} {c : Int} (h : CX P) : CX (cRpl P c) := by
  unfold cRpl
  refine CX_put (CX_cg h ?_ ?_ (fun j => ?_)) <;> rw [up_ne (by omega), up_ne (by omega), up_ne (by omega)]
theorem CX_mk {P : Mem} {c i k t p : Int} (h : CX P) : CX (cMkP P c i k t p) := by
  refine CX_cg h ?_ ?_ (fun j => ?_) <;> simp only [cMkP] <;> rw [up_ne (by omega), up_ne (by omega), up_ne (by omega), up_ne (by omega), up_ne (by omega)]
theorem mk_10 {P : Mem} {c i k t p : Int} : cMkP P c i k t p 0 10 = P 0 10 := by
  simp only [cMkP]; rw [up_ne (by omega), up_ne (by omega), up_ne (by omega), up_ne (by omega), up_ne (by omega)]

/-! plain mathematics: the hash -/
theorem fd_cg {f g : Int → Int64 → Int64} : ∀ (d : Nat) (k : Int) (h : Int64), (∀ j x, k ≤ j → j < k + d → f j x = g j x) → fd f d k h = fd g d k h := by
  intro d
  induction d with
  | zero => intro k h _; rfl
  | succ d ih => intro k h hx; rw [fd, fd, hx k h (by omega) (by omega), ih _ _ (fun j x a b => hx j x (by omega) (by omega))]
theorem fd_app {f : Int → Int64 → Int64} : ∀ (a b : Nat) (k : Int) (h : Int64), fd f (a + b) k h = fd f b (k + a) (fd f a k h) := by
  intro a
  induction a with
  | zero => intro b k h; rw [Nat.zero_add, fd, show k + ((0 : Nat) : Int) = k by omega]
  | succ a ih => intro b k h; rw [show a + 1 + b = (a + b) + 1 by omega, fd, fd, ih, show k + 1 + (a : Int) = k + ((a + 1 : Nat) : Int) by omega]
theorem fd_sh {f g : Int → Int64 → Int64} {a : Int} : ∀ (d : Nat) (k : Int) (h : Int64), (∀ j x, k ≤ j → j < k + d → f (a + j) x = g j x) → fd f d (a + k) h = fd g d k h := by
  intro d
  induction d with
  | zero => intro k h _; rfl
  | succ d ih => intro k h hx; rw [fd, fd, hx k h (by omega) (by omega), show a + k + 1 = a + (k + 1) by omega, ih _ _ (fun j x p q => hx j x (by omega) (by omega))]
theorem fd_7 {F : Int → Int → Int64} : ∀ (n : Nat) (i : Int) (h : Int64), 0 ≤ i → fd (fun k x => mx x (F (k / 7) (k % 7))) (7 * n) (7 * i) h = fd (fun i x => fd (fun w x => mx x (F i w)) 7 0 x) n i h := by
  intro n
  induction n with
  | zero => intro i h _; rfl
  | succ n ih =>
    intro i h hi
    rw [show 7 * (n + 1) = 7 + 7 * n by omega, fd_app, show 7 * i + ((7 : Nat) : Int) = 7 * (i + 1) by omega, ih _ _ (by omega)]
    have e := fd_sh (f := fun k x => mx x (F (k / 7) (k % 7))) (g := fun w x => mx x (F i w)) (a := 7 * i) 7 0 h (fun j x a b => by
      rw [show (7 * i + j) / 7 = i by omega, show (7 * i + j) % 7 = j by omega])
    rw [Int.add_zero] at e
    rw [e]
    rfl
theorem mxM_lo {m : Mem} {v : Int64} : lo (mxM m v 197 13) = mx (lo (m 197 13)) v := by
  unfold mxM mx
  rw [up_at, lo_toInt]
theorem dF_lo {f : Mem → Int → Int64} (hf : ∀ m v k, f (mxM m v) k = f m k) : ∀ (d : Nat) (k : Int) (m : Mem), lo (dFM f d k m 197 13) = fd (fun k x => mx x (f m k)) d k (lo (m 197 13)) := by
  intro d
  induction d with
  | zero => intro k m; rfl
  | succ d ih =>
    intro k m
    rw [dFM, ih, mxM_lo, fd]
    exact fd_cg _ _ _ (fun j x _ _ => by rw [hf])
theorem dC_lo {z : Z} : ∀ (d : Nat) (c : Int) (m : Mem), lo (dCM z d c m 197 13) = fd (fun c x => mx (fd (fun w x => mx x (i2 (zCN z c w))) 9 0 x) (i2 (zDis z c 0))) d c (lo (m 197 13)) := by
  intro d
  induction d with
  | zero => intro c m; rfl
  | succ d ih =>
    intro c m
    rw [dCM, ih, mxM_lo, fd, dF_lo (f := fun _ w => i2 (zCN z c w)) (fun _ _ _ => rfl)]
theorem dT_lo {z : Z} : ∀ (d : Nat) (t : Int) (m : Mem), lo (dTM z d t m 197 13) = fd (fun t x => mx (fd (fun w x => mx x (i2 (zTN z t w))) 6 0 x) (i2 (zRk z t))) d t (lo (m 197 13)) := by
  intro d
  induction d with
  | zero => intro t m; rfl
  | succ d ih =>
    intro t m
    rw [dTM, ih, mxM_lo, fd, dF_lo (f := fun _ w => i2 (zTN z t w)) (fun _ _ _ => rfl)]
theorem dO_lo {z : Z} : ∀ (d : Nat) (k : Int) (m : Mem), lo (dOM z d k m 197 13) = fd (fun k x => mx (mx x (i2 (m 205 k))) (i2 (z (59 + 9 * m 205 k + 6) - 1))) d k (lo (m 197 13)) := by
  intro d
  induction d with
  | zero => intro k m; rfl
  | succ d ih =>
    intro k m
    rw [dOM, ih, mxM_lo, mxM_lo, fd]
    exact fd_cg _ _ _ (fun j x _ _ => by rw [mxM_o (by omega), mxM_o (by omega)])
theorem RR_cgz {P : Mem} {z y : Z} {T B K : Int} (hy : ∀ j, 0 ≤ j → j < 2195 → y j = z j) (h : RR P z T B K) : RR P y T B K := by
  obtain ⟨hR, hQ, hD, hV, hW, hI⟩ := h
  have hn : ∀ j, 0 ≤ j → j < 635 → y j = z j := fun j a b => hy j a (by omega)
  refine ⟨?_, ?_, ?_, hV, ?_, ?_⟩
  · refine ⟨?_, ?_, ?_, ?_, ?_, ?_, ?_, ?_, ?_, ?_, ?_, ?_, ?_, ?_, ?_, ?_, ?_, ?_, ?_, ?_, ?_, ?_, ?_⟩
    · rw [hn _ (by omega) (by omega)]; exact hR.t0
    · rw [hn _ (by omega) (by omega)]; exact hR.ht
    · rw [hn _ (by omega) (by omega)]; exact hR.hs
    · intro x a b; rw [hn _ (by omega) (by omega)]; exact hR.st x a b
    · intro x a b; rw [hn _ (by omega) (by omega)]; exact hR.ta x a b
    · rw [hn _ (by omega) (by omega)]; exact hR.t17
    · intro x a b; rw [hn _ (by omega) (by omega)]; exact hR.bit x a b
    · intro x a b; rw [hn _ (by omega) (by omega)]; exact hR.sg x a b
    · intro x a b; rw [hn _ (by omega) (by omega)]; exact hR.wh x a b
    · intro x a b c; rw [hn _ (by omega) (by omega)] at c ⊢; exact hR.le x a b c
    · intro x a b; rw [hn _ (by omega) (by omega)]; exact hR.by_ x a b
    · intro x a b c; rw [hn _ (by omega) (by omega)] at c ⊢; exact hR.po x a b c
    · intro x a b; rw [hn _ (by omega) (by omega)]; exact hR.ls x a b
    · rw [hn _ (by omega) (by omega)]; exact hR.tn
    · intro x a b; rw [hn _ (by omega) (by omega)]; exact hR.mo x a b
    · intro x a b; rw [hn _ (by omega) (by omega)]; exact hR.tl x a b
    · intro x a b; rw [hn _ (by omega) (by omega)]; exact hR.tp x a b
    · rw [hn _ (by omega) (by omega)]; exact hR.im
    · intro x a b; rw [hn _ (by omega) (by omega)]; exact hR.fu x a b
    · intro x a b; rw [hn _ (by omega) (by omega)]; exact hR.ra x a b
    · intro x a b; rw [hn _ (by omega) (by omega)]; exact hR.co x a b
    · intro x a b; rw [hn _ (by omega) (by omega)]; exact hR.pr x a b
    · intro x a b; rw [hn _ (by omega) (by omega)]; exact hR.cp x a b
  · intro i a b
    have hw := WI_wt hW ⟨a, b⟩
    rw [hQ i a b]
    unfold qu
    rw [hn (41 + 6 * i + 5) (by omega) (by omega)]
    exact seg_cg _ _ (fun j k1 k2 => (hy j (by omega) (by omega)).symm)
  · exact RD_cg hD rfl rfl (fun _ _ _ => rfl) (fun e a b => ⟨hn _ (by omega) (by omega), hn _ (by omega) (by omega)⟩)
  · obtain ⟨a1, a2, a3, a4, a5, a6, a7⟩ := hW
    refine ⟨by rw [hn 2 (by omega) (by omega)]; exact a1, by rw [hn 3 (by omega) (by omega)]; exact a2, fun j k1 k2 => by rw [hy j (by omega) k2]; exact a3 j k1 k2, fun c k1 k2 => by rw [hn _ (by omega) (by omega), hn _ (by omega) (by omega)]; exact a4 c k1 k2, by rw [hn 46 (by omega) (by omega), hn 52 (by omega) (by omega), hn 58 (by omega) (by omega)]; exact a5, ?_, a7⟩
    have q : zCW y 4 = zCW z 4 := cnt_cg 64 0 0 (fun e a b => by rw [hn _ (by omega) (by omega)])
    rw [q, hn 46 (by omega) (by omega), hn 52 (by omega) (by omega), hn 58 (by omega) (by omega)]; exact a6
  · have i1 := hI.ht
    have f1 := hn 1 (by omega) (by omega)
    exact IZ_cg hI (fun j hj => hn _ (by omega) (by omega)) (by rw [f1]; exact i1) (fun c a b => ⟨by rw [hn _ (by omega) (by omega)]; exact hI.sg c a b, hn _ (by omega) (by omega), hn _ (by omega) (by omega), .inr ⟨hn _ (by omega) (by omega), hn _ (by omega) (by omega)⟩, hn _ (by omega) (by omega), hn _ (by omega) (by omega), fun k => by rw [hn _ (by omega) (by omega)]; exact k⟩)
/-- the same text, on both sides -/
def TT (m M : Mem) : Prop := m 195 0 = M 197 11 ∧ ∀ j, 0 ≤ j → j < m 195 0 → m 196 j = M 201 j
theorem tC_tt {m M : Mem} {j : Int} (h : TT m M) (h1 : 0 ≤ j ∧ j < m 195 0) : tC m j = M 201 j := by
  unfold tC; rw [if_pos h1]; exact h.2 j h1.1 h1.2
theorem q_digest {m M P : Mem} {z : Z} {T B K : Int} (hT : T + 64 ≤ 20000) (h : RR P z T B K) (hX : CX P) (ht : TT m M) (hs : m 49 0 = M 197 10) : cDg m P = lo (dgM z M 197 13) := by
  have h' := h
  obtain ⟨hR, hQ, hD, hV, hW, hI⟩ := h
  have w2 := hW.1
  have w3 := hW.2.1
  -- the plane's part
  have e1 : dgP P (m 49 0) = fd (fun k x => mx (mx x (i2 (zOrd z (M 205) k))) (i2 (z (59 + 9 * zOrd z (M 205) k + 6) - 1))) (zOrN z (M 205)).toNat 0 (lo (dPM z (dgM1 z M) 197 13)) := by
    have a1 : lo (dgM1 z M 197 13) = fd (dgC2 P (cFr P)) 64 0 (fd (dgSet P) 8 0 (fd (dgCnt P (m 49 0)) 19 0 2351)) := by
      unfold dgM1
      rw [dC_lo, dF_lo (f := fun _ k => i2 (z (15 + k))) (fun _ _ _ => rfl), dF_lo (f := fun m k => i2 (zCnt z (m 197 10) k)) (fun m v k => by rw [mxM_o (by omega)])]
      have b0 : lo (dgM0 M 197 13) = 2351 := by unfold dgM0; rw [up_at]; rfl
      have b1 : dgM0 M 197 10 = m 49 0 := by unfold dgM0 th0; rw [up_ne (by omega), up_ne (by omega), hs]
      rw [b0]
      have c1 : fd (dgCnt P (m 49 0)) 19 0 2351 = fd (fun k x => mx x (i2 (zCnt z (dgM0 M 197 10) k))) 19 0 2351 := fd_cg _ _ _ (fun k x a b => by unfold dgCnt; rw [b1, q_count ⟨a, by omega⟩ h'])
      have c2 : ∀ x, fd (dgSet P) 8 0 x = fd (fun k x => mx x (i2 (z (15 + k)))) 8 0 x := fun x => fd_cg _ _ _ (fun k x a b => by unfold dgSet; rw [hR.st k a (by omega)])
      have c3 : ∀ x, fd (dgC2 P (cFr P)) 64 0 x = fd (fun c x => mx (fd (fun w x => mx x (i2 (zCN z c w))) 9 0 x) (i2 (zDis z c 0))) 64 0 x := fun x => fd_cg _ _ _ (fun c x a b => by
        unfold dgC2
        rw [q_dis0 ⟨a, by omega⟩ hR, fd_cg (f := dgC1 P c) (g := fun w x => mx x (i2 (zCN z c w))) 9 0 x (fun w x a2 b2 => by unfold dgC1; rw [q_core ⟨a, by omega⟩ ⟨a2, by omega⟩ h'])])
      rw [c1, c2, c3]
    have a2 : lo (dPM z (dgM1 z M) 197 13) = fd (dgI2 P) (P 17 0).toNat 0 (fd (dgT2 P) (P 13 0).toNat 0 (lo (dgM1 z M 197 13))) := by
      unfold dPM
      rw [dF_lo (f := fun _ k => i2 (zIN z (k / 7) (k % 7))) (fun _ _ _ => rfl), dT_lo, hR.tn, hR.im, show (7 * z 3).toNat = 7 * (z 3).toNat by omega]
      have f7 := fd_7 (F := fun i w => i2 (zIN z i w)) (z 3).toNat 0 (fd (fun t x => mx (fd (fun w x => mx x (i2 (zTN z t w))) 6 0 x) (i2 (zRk z t))) (z 2).toNat 0 (lo (dgM1 z M 197 13))) (by omega)
      rw [show (7 * 0 : Int) = 0 by decide] at f7
      rw [f7]
      have c1 : ∀ x, fd (dgT2 P) (z 2).toNat 0 x = fd (fun t x => mx (fd (fun w x => mx x (i2 (zTN z t w))) 6 0 x) (i2 (zRk z t))) (z 2).toNat 0 x := fun x => fd_cg _ _ _ (fun t x a b => by
        have ht : 0 ≤ t ∧ t < 6 := by omega
        unfold dgT2
        rw [show cRk P t = zRk z t from q_rk ht h' 64 0 0 (by omega) (by omega) (by omega) (by omega), fd_cg (f := dgT1 P t) (g := fun w x => mx x (i2 (zTN z t w))) 6 0 x (fun w x a2 b2 => by unfold dgT1; rw [q_tenant ht ⟨a2, by omega⟩ h' hX])])
      have c2 : ∀ x, fd (dgI2 P) (z 3).toNat 0 x = fd (fun i x => fd (fun w x => mx x (i2 (zIN z i w))) 7 0 x) (z 3).toNat 0 x := fun x => fd_cg _ _ _ (fun i x a b => by
        have hi : 0 ≤ i ∧ i < 3 := by omega
        unfold dgI2
        exact fd_cg _ _ _ (fun w x a2 b2 => by unfold dgI1; rw [q_insurer hi ⟨a2, by omega⟩ h']))
      rw [c1, c2]
    have hn := (RD_ord hD hI hV (M 205)).2
    have hcd := hV.2.2.2.1
    rw [a2, a1, zOrN_n, ← hn]
    unfold dgP
    refine fd_cg _ _ _ (fun p x a b => ?_)
    have hp : p < P 10 0 := by omega
    have g := RD_get hD hI hV (M 205) a hp
    have hm := hcd.2 p a hp
    have hc1 := hcd.1
    have o0 : zOwd z (M 205) p 0 = zOrd z (M 205) p := by unfold zOwd; rw [zOrN_n, ← hn, if_neg (by omega), if_pos rfl]
    have o1 : zOwd z (M 205) p 1 = z (59 + 9 * zOrd z (M 205) p + 6) - 1 := by unfold zOwd; rw [zOrN_n, ← hn, if_neg (by omega), if_neg (by omega)]
    unfold dgD1
    rw [q_owed (M 205) ⟨a, by omega⟩ h', q_owed (M 205) ⟨a, by omega⟩ h', o0, o1]
  have x205 : dPM z (dgM1 z M) 205 = M 205 := by
    funext j
    rw [dPM_o (by omega)]
    unfold dgM1
    rw [dCM_o (by omega), dFM_o (by omega), dFM_o (by omega)]
    unfold dgM0 th0
    rw [up_ne (by omega), up_ne (by omega)]
  have e2 : lo (dAM1 z (dPM z (dgM1 z M)) 197 13) = mx (dgW P 8 (-1) (dgP P (m 49 0))) (i2 (cG P)) := by
    unfold dAM1
    rw [mxM_lo, dF_lo (f := fun _ p => i2 (zWst z p)) (fun _ _ _ => rfl), dO_lo, so_at, x205, so_o (by omega), ← e1]
    rw [q_dgW h' 8 (-1) _ (.inl rfl) (by show (if (-1 : Int) = -1 then (-1 : Int) else zAh z (-1)) + _ < 64; rw [if_pos rfl]; omega)]
    rw [show rk z (-1) + 1 = 0 from by show (if (-1 : Int) = -1 then (-1 : Int) else zAh z (-1)) + 1 = 0; rw [if_pos rfl]; rfl]
    rw [show cG P = zG z from q_g h' 64 0 (-1) 64 0 (by omega) (by omega) (.inl rfl)]
  have sb : ∀ (y : Z) (p : Int) (m : Mem), lo (sbM y p m 197 13) = mx (lo (m 197 13)) (i2 (zSvb y p (m 205))) := fun y p m => by
    unfold sbM
    rw [mxM_lo, so_o (by omega), kpM_o (by omega)]
  have hXe0 : dgM2 z M = dAM z (dPM z (dgM1 z M)) := rfl
  generalize dPM z (dgM1 z M) = X at *
  have hXe := hXe0
  have hz2 : RR P (dAZ2 z X) T B K := RR_cgz (fun j a b => sbZ_j ⟨a, b⟩) h'
  have hz3 : RR P (dAZ3 z X) T B K := RR_cgz (fun j a b => sbZ_j ⟨a, b⟩) hz2
  have e3 : lo (dAM2 z X 197 13) = mx (mx (dgW P 8 (-1) (dgP P (m 49 0))) (i2 (cG P))) (i2 (cSvE (pg m 25) P 1 2 10 - P 2 10)) := by
    unfold dAM2
    rw [sb, e2, q_sv (A := pg m 25) (p := 1) (dAM1 z X 205) hT h']
  have e4 : lo (dAM3 z X 197 13) = mx (mx (mx (dgW P 8 (-1) (dgP P (m 49 0))) (i2 (cG P))) (i2 (cSvE (pg m 25) P 1 2 10 - P 2 10))) (i2 (cSvE (pg (dgQ1 m P) 25) P 3 2 10 - P 2 10)) := by
    unfold dAM3
    rw [sb, e3, q_sv (A := pg (dgQ1 m P) 25) (p := 3) (dAM2 z X 205) hT hz2]
  have e5 : lo (dAM z X 197 13) = mx (mx (mx (mx (dgW P 8 (-1) (dgP P (m 49 0))) (i2 (cG P))) (i2 (cSvE (pg m 25) P 1 2 10 - P 2 10))) (i2 (cSvE (pg (dgQ1 m P) 25) P 3 2 10 - P 2 10))) (cBk P).toInt64 := by
    unfold dAM
    rw [mxM_lo, e4, (q_bk hz3).1]
  have d2 : dgM2 z M = dAM z X := hXe
  have t11 : dgM2 z M 197 11 = M 197 11 := dgM2_o (by omega) (by omega) (by omega)
  have t201 : ∀ k, dgM2 z M 201 k = M 201 k := fun k => dgM2_o (by omega) (by omega) (by omega)
  have q195 : dgQ2 m P 195 = m 195 := by unfold dgQ2 dgQ1; rw [ps_ne (by omega), ps_ne (by omega)]
  have q196 : dgQ2 m P 196 = m 196 := by unfold dgQ2 dgQ1; rw [ps_ne (by omega), ps_ne (by omega)]
  unfold cDg dgX dgM
  rw [← e5, dF_lo (f := fun m k => i2 (m 201 k)) (fun m v k => by rw [mxM_o (by omega)]), mxM_lo, t11, d2, q195, ht.1]
  refine fd_cg _ _ _ (fun k x a b => ?_)
  have e : tC (dgQ2 m P) k = M 201 k := by
    unfold tC
    rw [q195, q196, if_pos (by rw [ht.1]; omega)]
    exact ht.2 k a (by rw [ht.1]; omega)
  unfold dgX1
  rw [e, mxM_o (by omega), ← d2, t201]

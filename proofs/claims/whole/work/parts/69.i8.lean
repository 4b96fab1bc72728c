/-! a call of the law on both sides, method by method -/
theorem tw_addTenant {G : GX} (E : EV G) {X : Mem} {B K : Int} (h0 : LW X B K) (hB : B + 32 ≤ 1000000) (hK : K + 1 ≤ 512) {v : Int} (r_v : rg v) : TW G iL_addTenant hL_addTenant iX8_addTenant [.inl v] X B K := by
  obtain ⟨P, z, hp, e3, h⟩ := h0
  have e1 : ps X 1 P = X := ps_self hp
  obtain ⟨bt, bi, hV, hSR, hSZ, hw, hs, t2, t3, hW⟩ := LI_fx h
  have hRR := h.1
  have hR := hRR.1
  have hI := hRR.2.2.2.2.2
  have hCX := h.2.1
  have b2 : 0 ≤ z 2 ∧ z 2 ≤ 6 := by omega
  have b3 : 0 ≤ z 3 ∧ z 3 ≤ 3 := by omega
  have hs' : ∀ (Q : Mem) (w : Int), 0 ≤ YS X P Q w 197 10 ∧ YS X P Q w 197 10 ≤ 6 := fun Q w => by rw [YS_x hSZ hSR (by omega) (by omega)]; exact hs
  by_cases p0 : 0 ≤ v ∧ v ≤ 10000
  · by_cases p1 : P 13 0 < 6
    · refine TW_S (Q := cAT P v) (y := zAT z v) (r := P 13 0) (b := zAT z v 2 - 1) e3 h hB hK ?_ (RR_mono (by omega) hB (by omega) hK (R_at (by omega) hRR)) (CX_at hCX) (lo_L_addTenant E (ct_e e1 (ct_X7_addTenant E r_v bt p0 p1 hSR hSZ hw))) (ct_X8_addTenant_ok E (K := 0) r_v (hs' _ _) b2 p0 (by omega))
      unfold zAT
      rw [u1_at, u1_ne (by omega)]
      omega
    · exact TW_F hp e3 h hB hK (by omega) (lx_L_addTenant_2 E (ctx_e e1 (cx_X7_addTenant_1 E r_v bt p0 (by omega)))) (ct_X8_addTenant_e2 E (K := 0) r_v hs b2 p0 (by omega))
  · exact TW_F hp e3 h hB hK (by omega) (lx_L_addTenant_1 E (ctx_e e1 (cx_X7_addTenant_0 E r_v bt p0))) (ct_X8_addTenant_e1 E (K := 0) r_v hs b2 p0)
theorem tw_addInsurer {G : GX} (E : EV G) {X : Mem} {B K : Int} (h0 : LW X B K) (hB : B + 32 ≤ 1000000) (hK : K + 1 ≤ 512) {f r c : Int} (r_f : rg f) (r_r : rg r) (r_c : rg c) : TW G iL_addInsurer hL_addInsurer iX8_addInsurer [.inl f, .inl r, .inl c] X B K := by
  obtain ⟨P, z, hp, e3, h⟩ := h0
  have e1 : ps X 1 P = X := ps_self hp
  obtain ⟨bt, bi, hV, hSR, hSZ, hw, hs, t2, t3, hW⟩ := LI_fx h
  have hRR := h.1
  have hR := hRR.1
  have hI := hRR.2.2.2.2.2
  have hCX := h.2.1
  have b2 : 0 ≤ z 2 ∧ z 2 ≤ 6 := by omega
  have b3 : 0 ≤ z 3 ∧ z 3 ≤ 3 := by omega
  have hs' : ∀ (Q : Mem) (w : Int), 0 ≤ YS X P Q w 197 10 ∧ YS X P Q w 197 10 ≤ 6 := fun Q w => by rw [YS_x hSZ hSR (by omega) (by omega)]; exact hs
  by_cases p0 : 0 ≤ f ∧ f ≤ 10000
  · by_cases p1 : 1 ≤ r ∧ r ≤ 200
    · by_cases p2 : 1 ≤ c ∧ c ≤ 500
      · by_cases p3 : P 17 0 < 3
        · refine TW_S (Q := cAI P f r c) (y := zAI z f r c) (r := P 17 0) (b := zAI z f r c 3 - 1) e3 h hB hK ?_ (RR_mono (by omega) hB (by omega) hK (R_ai (by omega) hRR)) (CX_ai hCX) (lo_L_addInsurer E (ct_e e1 (ct_X7_addInsurer E r_f r_r r_c bi p0 p1 p2 p3 hSR hSZ hw))) (ct_X8_addInsurer_ok E (K := 0) r_f r_r r_c (hs' _ _) b3 p0 p1 p2 (by omega))
          simp only [zAI]
          rw [u1_at, u1_ne (by omega), u1_ne (by omega), u1_ne (by omega)]
          omega
        · exact TW_F hp e3 h hB hK (by omega) (lx_L_addInsurer_2 E (ctx_e e1 (cx_X7_addInsurer_3 E r_f r_r r_c bi p0 p1 p2 (by omega)))) (ct_X8_addInsurer_e2 E (K := 0) r_f r_r r_c hs b3 p0 p1 p2 (by omega))
      · exact TW_F hp e3 h hB hK (by omega) (lx_L_addInsurer_1 E (ctx_e e1 (cx_X7_addInsurer_2 E r_f r_r r_c bi p0 p1 p2))) (ct_X8_addInsurer_e1 E (K := 0) r_f r_r r_c hs b3 (fun q => p2 q.2.2))
    · exact TW_F hp e3 h hB hK (by omega) (lx_L_addInsurer_1 E (ctx_e e1 (cx_X7_addInsurer_1 E r_f r_r r_c bi p0 p1))) (ct_X8_addInsurer_e1 E (K := 0) r_f r_r r_c hs b3 (fun q => p1 q.2.1))
  · exact TW_F hp e3 h hB hK (by omega) (lx_L_addInsurer_1 E (ctx_e e1 (cx_X7_addInsurer_0 E r_f r_r r_c bi p0))) (ct_X8_addInsurer_e1 E (K := 0) r_f r_r r_c hs b3 (fun q => p0 q.1))
theorem tw_set {G : GX} (E : EV G) {X : Mem} {B K : Int} (h0 : LW X B K) (hB : B + 32 ≤ 1000000) (hK : K + 1 ≤ 512) {s v : Int} (g8 : (gE G 1).2.1 = 8) (gm : ∀ s, 0 ≤ s → s < 8 → (gE G 1).2.2 s = zMost s) (r_s : rg s) (r_v : rg v) : TW G iL_set hL_set iX8_set [.inl s, .inl v] X B K := by
  obtain ⟨P, z, hp, e3, h⟩ := h0
  have e1 : ps X 1 P = X := ps_self hp
  obtain ⟨bt, bi, hV, hSR, hSZ, hw, hs, t2, t3, hW⟩ := LI_fx h
  have hRR := h.1
  have hR := hRR.1
  have hI := hRR.2.2.2.2.2
  have hCX := h.2.1
  have b2 : 0 ≤ z 2 ∧ z 2 ≤ 6 := by omega
  have b3 : 0 ≤ z 3 ∧ z 3 ≤ 3 := by omega
  have hs' : ∀ (Q : Mem) (w : Int), 0 ≤ YS X P Q w 197 10 ∧ YS X P Q w 197 10 ≤ 6 := fun Q w => by rw [YS_x hSZ hSR (by omega) (by omega)]; exact hs
  have hgl : (gE G 1).2.1 = 8 ∧ ∀ s, 0 ≤ s → s < 8 → 0 ≤ (gE G 1).2.2 s ∧ (gE G 1).2.2 s ≤ 100 := ⟨g8, fun s a b => by rw [gm s a b]; exact zMost_b s⟩
  by_cases p0 : 0 ≤ s ∧ s < 8
  · have gs := gm s p0.1 p0.2
    have bs := zMost_b s
    by_cases p1 : 0 ≤ v ∧ v ≤ (gE G 1).2.2 s
    · refine TW_S (Q := up P 1 s v) (y := u1 z (15 + s) v) (r := P 1 s) (b := z (15 + s)) e3 h hB hK (hR.st s p0.1 p0.2) (RR_mono (by omega) hB (by omega) hK (R_set p0 (by omega) hRR)) (CX_set hCX) (lo_L_set E (ct_e e1 (ct_X7_set E r_s r_v hgl p0 p1 hSR hSZ hw))) (ct_X8_set_ok E (K := 0) r_s r_v (hs' _ _) p0 (by rw [← gs]; exact p1))
    · exact TW_F hp e3 h hB hK (by omega) (lx_L_set_2 E (ctx_e e1 (cx_X7_set_1 E r_s r_v hgl p0 p1))) (ct_X8_set_e2 E (K := 0) r_s r_v hs p0 (by rw [← gs]; exact p1) bs)
  · exact TW_F hp e3 h hB hK (by omega) (lx_L_set_1 E (ctx_e e1 (cx_X7_set_0 E r_s r_v hgl p0))) (ct_X8_set_e1 E (K := 0) r_s r_v hs p0)
theorem tw_lease {G : GX} (E : EV G) {X : Mem} {B K : Int} (h0 : LW X B K) (hB : B + 32 ≤ 1000000) (hK : K + 1 ≤ 512) {c t k : Int} (r_c : rg c) (r_t : rg t) (r_k : rg k) : TW G iL_lease hL_lease iX8_lease [.inl c, .inl t, .inl k] X B K := by
  obtain ⟨P, z, hp, e3, h⟩ := h0
  have e1 : ps X 1 P = X := ps_self hp
  obtain ⟨bt, bi, hV, hSR, hSZ, hw, hs, t2, t3, hW⟩ := LI_fx h
  have hRR := h.1
  have hR := hRR.1
  have hI := hRR.2.2.2.2.2
  have hCX := h.2.1
  have b2 : 0 ≤ z 2 ∧ z 2 ≤ 6 := by omega
  have b3 : 0 ≤ z 3 ∧ z 3 ≤ 3 := by omega
  have hs' : ∀ (Q : Mem) (w : Int), 0 ≤ YS X P Q w 197 10 ∧ YS X P Q w 197 10 ≤ 6 := fun Q w => by rw [YS_x hSZ hSR (by omega) (by omega)]; exact hs
  by_cases p0 : 0 ≤ c ∧ c < 64
  · by_cases p1 : 0 ≤ t ∧ t < P 13 0
    · by_cases p2 : 1 ≤ k ∧ k ≤ 200
      · have el : cLs P c = zLs z c := cLs_z p0 hR hW
        have em : wr (P 14 t) = wr (z (23 + 3 * t + 0)) := by rw [hR.mo t p1.1 (by omega), show 23 + 3 * t + 0 = 23 + 3 * t by omega]
        have er : wr (cRent P k) = wr (k * z (15 + 0)) := by unfold cRent; rw [hR.st 0 (by decide) (by decide), Int.mul_comm]
        by_cases p3 : cLs P c = false
        · have hl : ¬ 0 < z (59 + 9 * c + 2) := fun q => by rw [(cLs_e p0 hR hW).mpr q] at p3; cases p3
          by_cases p4 : ¬ wr (P 14 t) < wr (cRent P k)
          · have hQ := R_le (k := k) p0 ⟨p1.1, by omega⟩ p2 hl hRR
            refine TW_S (Q := cLeO P c t k) (y := zLe z c t k) (r := cLeO P c t k 14 t) (b := zLe z c t k (23 + 3 * t + 0)) e3 h hB hK ?_ (RR_mono (by omega) hB (by omega) hK hQ) (CX_le hCX) (lo_L_lease E (ct_e e1 (ct_X7_lease E r_c r_t r_k bt p0 p1 p2 p3 p4 hSR hSZ hw))) (ct_X8_lease_ok E (K := 0) r_c r_t r_k (hs' _ _) b2 p0 ⟨p1.1, by omega⟩ p2 (by rw [← el]; exact p3) (by rw [← em, ← er]; exact p4))
            rw [hQ.1.mo t p1.1 (by omega), show 23 + 3 * t + 0 = 23 + 3 * t by omega]
          · exact TW_F hp e3 h hB hK (by omega) (lx_L_lease_3 E (ctx_e e1 (cx_X7_lease_4 E r_c r_t r_k bt p0 p1 p2 p3 (Decidable.not_not.mp p4)))) (ct_X8_lease_e3 E (K := 0) r_c r_t r_k hs b2 p0 ⟨p1.1, by omega⟩ p2 (Or.inr (by rw [← em, ← er]; exact Decidable.not_not.mp p4)))
        · exact TW_F hp e3 h hB hK (by omega) (lx_L_lease_3 E (ctx_e e1 (cx_X7_lease_3 E r_c r_t r_k bt p0 p1 p2 (by simpa using p3)))) (ct_X8_lease_e3 E (K := 0) r_c r_t r_k hs b2 p0 ⟨p1.1, by omega⟩ p2 (Or.inl (by rw [← el]; simpa using p3)))
      · exact TW_F hp e3 h hB hK (by omega) (lx_L_lease_2 E (ctx_e e1 (cx_X7_lease_2 E r_c r_t r_k bt p0 p1 p2))) (ct_X8_lease_e2 E (K := 0) r_c r_t r_k hs b2 p0 ⟨p1.1, by omega⟩ p2)
    · exact TW_F hp e3 h hB hK (by omega) (lx_L_lease_1 E (ctx_e e1 (cx_X7_lease_1 E r_c r_t r_k bt p0 p1))) (ct_X8_lease_e1 E (K := 0) r_c r_t r_k hs b2 (fun q => p1 ⟨q.2.1, by have := q.2.2; omega⟩))
  · exact TW_F hp e3 h hB hK (by omega) (lx_L_lease_1 E (ctx_e e1 (cx_X7_lease_0 E r_c r_t r_k bt p0))) (ct_X8_lease_e1 E (K := 0) r_c r_t r_k hs b2 (fun q => p0 q.1))
theorem tw_insure {G : GX} (E : EV G) {X : Mem} {B K : Int} (h0 : LW X B K) (hB : B + 32 ≤ 1000000) (hK : K + 1 ≤ 512) {c i k : Int} (r_c : rg c) (r_i : rg i) (r_k : rg k) : TW G iL_insure hL_insure iX8_insure [.inl c, .inl i, .inl k] X B K := by
  obtain ⟨P, z, hp, e3, h⟩ := h0
  have e1 : ps X 1 P = X := ps_self hp
  obtain ⟨bt, bi, hV, hSR, hSZ, hw, hs, t2, t3, hW⟩ := LI_fx h
  have hRR := h.1
  have hR := hRR.1
  have hI := hRR.2.2.2.2.2
  have hCX := h.2.1
  have b2 : 0 ≤ z 2 ∧ z 2 ≤ 6 := by omega
  have b3 : 0 ≤ z 3 ∧ z 3 ≤ 3 := by omega
  have hs' : ∀ (Q : Mem) (w : Int), 0 ≤ YS X P Q w 197 10 ∧ YS X P Q w 197 10 ≤ 6 := fun Q w => by rw [YS_x hSZ hSR (by omega) (by omega)]; exact hs
  have hwz : ∀ c, 0 ≤ c → c < 64 → 0 ≤ z (59 + 9 * c + 2) ∧ z (59 + 9 * c + 2) ≤ 6 := fun c a b => (hW.2.2.2.1 c a b).1
  by_cases p0 : 0 ≤ c ∧ c < 64
  · by_cases p1 : 0 ≤ i ∧ i < P 17 0
    · have p1' : 0 ≤ i ∧ i < z 3 := ⟨p1.1, by omega⟩
      by_cases p2 : 1 ≤ k ∧ k ≤ 200
      · have ew := hR.wh c p0.1 p0.2
        have iw := hI.wh c p0.1 p0.2
        have ib := hI.by_ c p0.1 p0.2
        have il := hI.le c p0.1 p0.2
        have el : cLs P c = zLs z c := cLs_z p0 hR hW
        have ep : cPrem P c i k (P 0 1) = zPrem z c i k (z 1) := prem_e p0 ⟨p1.1, by omega⟩ hR hR.ht
        have wb : wr (z (59 + 9 * c + 4)) = z (59 + 9 * c + 4) := wr_id' (by omega) (by omega)
        by_cases p3 : 0 ≤ P 5 c ∧ P 5 c < P 13 0
        · have h02 : 0 < z (59 + 9 * c + 2) := by omega
          have hls : cLs P c = true := (cLs_e p0 hR hW).mpr h02
          have il2 := il h02
          have wl : wr (z (59 + 9 * c + 3)) = z (59 + 9 * c + 3) := wr_id' (by omega) (by omega)
          have ell : wr (cLL P c) = z (59 + 9 * c + 3) := by
            have e := hR.le c p0.1 p0.2 h02
            unfold D0 at e
            unfold cLL
            rw [if_pos hls, wr_id' (by omega) (by omega)]
            omega
          have em : wr (P 14 (P 5 c)) = wr (z (23 + 3 * (z (59 + 9 * c + 2) - 1) + 0)) := by
            rw [hR.mo (P 5 c) p3.1 (by omega), show 23 + 3 * (z (59 + 9 * c + 2) - 1) + 0 = 23 + 3 * P 5 c by omega]
          by_cases p4 : cHp P c = false
          · have hb0 : ¬ 0 < z (59 + 9 * c + 4) := fun q => by rw [(cHp_e p0 hR hW).mpr q] at p4; cases p4
            by_cases p5 : ¬ wr (cLL P c) < k
            · by_cases p6 : ¬ wr (P 14 (P 5 c)) < wr (cPrem P c i k (P 0 1))
              · refine TW_S (Q := cPay (cMkP P c i k (P 5 c) (cPrem P c i k (P 0 1))) i) (y := zIn z c i k) (r := cPrem P c i k (P 0 1)) (b := zPrem z c i k (z 1)) e3 h hB hK ep (RR_mono (by omega) hB (by omega) hK (R_in p0 p1' ⟨p2.1, by omega⟩ h02 (by omega) hK hRR)) (CX_pay (by rw [mk_10]; exact hw.1) (CX_mk hCX)) (lo_L_insure E (ct_e e1 (ct_X7_insure E r_c r_i r_k bt bi hV p0 p1 p2 p3 p4 p5 p6 hSR hSZ hw))) (ct_X8_insure_ok E (K := 0) r_c r_i r_k (hs' _ _) b3 hwz p0 p1' p2 ⟨by rw [← el]; exact hls, by omega, by omega, by rw [← em, ← ep]; exact p6⟩ (WI_wt hW ⟨p1.1, by omega⟩) hW.2.2.1)
              · exact TW_F hp e3 h hB hK (by omega) (lx_L_insure_3 E (ctx_e e1 (cx_X7_insure_6 E r_c r_i r_k bt bi hV p0 p1 p2 p3 p4 p5 (Decidable.not_not.mp p6)))) (ct_X8_insure_e3 E (K := 0) r_c r_i r_k hs b3 hwz p0 p1' p2 (fun q => q.2.2.2 (by rw [← em, ← ep]; exact Decidable.not_not.mp p6)))
            · exact TW_F hp e3 h hB hK (by omega) (lx_L_insure_3 E (ctx_e e1 (cx_X7_insure_5 E r_c r_i r_k bt bi hV p0 p1 p2 p3 p4 (Decidable.not_not.mp p5)))) (ct_X8_insure_e3 E (K := 0) r_c r_i r_k hs b3 hwz p0 p1' p2 (fun q => p5 (by have := q.2.2.1; omega)))
          · exact TW_F hp e3 h hB hK (by omega) (lx_L_insure_3 E (ctx_e e1 (cx_X7_insure_4 E r_c r_i r_k bt bi hV p0 p1 p2 p3 (by simpa using p4)))) (ct_X8_insure_e3 E (K := 0) r_c r_i r_k hs b3 hwz p0 p1' p2 (fun q => by have a := (cHp_e p0 hR hW).mp (by simpa using p4); have := q.2.1; omega))
        · exact TW_F hp e3 h hB hK (by omega) (lx_L_insure_3 E (ctx_e e1 (cx_X7_insure_3 E r_c r_i r_k bt bi hV p0 p1 p2 p3))) (ct_X8_insure_e3 E (K := 0) r_c r_i r_k hs b3 hwz p0 p1' p2 (fun q => p3 (by have a := (cLs_e p0 hR hW).mp (by rw [el]; exact q.1); omega)))
      · exact TW_F hp e3 h hB hK (by omega) (lx_L_insure_2 E (ctx_e e1 (cx_X7_insure_2 E r_c r_i r_k bt bi hV p0 p1 p2))) (ct_X8_insure_e2 E (K := 0) r_c r_i r_k hs b3 hwz p0 p1' p2)
    · exact TW_F hp e3 h hB hK (by omega) (lx_L_insure_1 E (ctx_e e1 (cx_X7_insure_1 E r_c r_i r_k bt bi hV p0 p1))) (ct_X8_insure_e1 E (K := 0) r_c r_i r_k hs b3 hwz (fun q => p1 ⟨q.2.1, by have := q.2.2; omega⟩))
  · exact TW_F hp e3 h hB hK (by omega) (lx_L_insure_1 E (ctx_e e1 (cx_X7_insure_0 E r_c r_i r_k bt bi hV p0))) (ct_X8_insure_e1 E (K := 0) r_c r_i r_k hs b3 hwz (fun q => p0 q.1))
theorem tw_renew {G : GX} (E : EV G) {X : Mem} {B K : Int} (h0 : LW X B K) (hB : B + 32 ≤ 1000000) (hK : K + 1 ≤ 512) {c : Int} (r_c : rg c) : TW G iL_renew hL_renew iX8_renew [.inl c] X B K := by
  obtain ⟨P, z, hp, e3, h⟩ := h0
  have e1 : ps X 1 P = X := ps_self hp
  obtain ⟨bt, bi, hV, hSR, hSZ, hw, hs, t2, t3, hW⟩ := LI_fx h
  have hRR := h.1
  have hR := hRR.1
  have hI := hRR.2.2.2.2.2
  have hCX := h.2.1
  have b2 : 0 ≤ z 2 ∧ z 2 ≤ 6 := by omega
  have b3 : 0 ≤ z 3 ∧ z 3 ≤ 3 := by omega
  have hs' : ∀ (Q : Mem) (w : Int), 0 ≤ YS X P Q w 197 10 ∧ YS X P Q w 197 10 ≤ 6 := fun Q w => by rw [YS_x hSZ hSR (by omega) (by omega)]; exact hs
  by_cases p0 : 0 ≤ c ∧ c < 64
  · have el : cLs P c = zLs z c := cLs_z p0 hR hW
    have e2 : P 0 2 = z 12 := hR.hs
    have e7 : P 1 7 = z (15 + 7) := hR.st 7 (by decide) (by decide)
    by_cases p1 : cLs P c = false
    · have hl : ¬ 0 < z (59 + 9 * c + 2) := fun q => by rw [(cLs_e p0 hR hW).mpr q] at p1; cases p1
      by_cases p2 : ¬ wr (P 0 2) < wr (P 1 7)
      · exact TW_S (Q := cRpl P c) (y := zRen z c) (r := P 4 c) (b := z (59 + 9 * c + 1)) e3 h hB hK (hR.sg c p0.1 p0.2) (RR_mono (by omega) hB (by omega) hK (R_ren p0 hl hRR)) (CX_ren hCX) (lo_L_renew E (ct_e e1 (ct_X7_renew E r_c p0 p1 p2 hSR hSZ hw))) (ct_X8_renew_ok E (K := 0) r_c (hs' _ _) p0 (by rw [← el]; exact p1) (by rw [← e2, ← e7]; exact p2))
      · exact TW_F hp e3 h hB hK (by omega) (lx_L_renew_2 E (ctx_e e1 (cx_X7_renew_2 E r_c p0 p1 (Decidable.not_not.mp p2)))) (ct_X8_renew_e2 E (K := 0) r_c hs p0 (Or.inr (by rw [← e2, ← e7]; exact Decidable.not_not.mp p2)))
    · exact TW_F hp e3 h hB hK (by omega) (lx_L_renew_2 E (ctx_e e1 (cx_X7_renew_1 E r_c p0 (by simpa using p1)))) (ct_X8_renew_e2 E (K := 0) r_c hs p0 (Or.inl (by rw [← el]; simpa using p1)))
  · exact TW_F hp e3 h hB hK (by omega) (lx_L_renew_1 E (ctx_e e1 (cx_X7_renew_0 E r_c p0))) (ct_X8_renew_e1 E (K := 0) r_c hs p0)
theorem tw_write {G : GX} (E : EV G) {X : Mem} {B K : Int} (h0 : LW X B K) (hB : B + 32 ≤ 1000000) (hK : K + 1 ≤ 512) {c : Int} {b : Bool} (r_c : rg c) : TW G iL_write hL_write iX8_write [.inl c, .inl (bI b)] X B K := by
  obtain ⟨P, z, hp, e3, h⟩ := h0
  have e1 : ps X 1 P = X := ps_self hp
  obtain ⟨bt, bi, hV, hSR, hSZ, hw, hs, t2, t3, hW⟩ := LI_fx h
  have hRR := h.1
  have hR := hRR.1
  have hI := hRR.2.2.2.2.2
  have hCX := h.2.1
  have b2 : 0 ≤ z 2 ∧ z 2 ≤ 6 := by omega
  have b3 : 0 ≤ z 3 ∧ z 3 ≤ 3 := by omega
  have hs' : ∀ (Q : Mem) (w : Int), 0 ≤ YS X P Q w 197 10 ∧ YS X P Q w 197 10 ≤ 6 := fun Q w => by rw [YS_x hSZ hSR (by omega) (by omega)]; exact hs
  by_cases p0 : 0 ≤ c ∧ c < 64
  · have el : cLs P c = zLs z c := cLs_z p0 hR hW
    by_cases p1 : cLs P c = true
    · have hQ := R_wb (b := b) p0 hRR
      refine TW_S (Q := cWb P c b) (y := zWr z c (bI b)) (r := bI (cOne (cWb P c b) c)) (b := zWr z c (bI b) (59 + 9 * c + 0)) e3 h hB hK ?_ (RR_mono (by omega) hB (by omega) hK hQ) (CX_wb hV hCX) (lo_L_write E (ct_e e1 (ct_X7_write E r_c hV p0 p1 hSR hSZ hw))) (ct_X8_write_ok E (K := K) r_c (hs' _ _) p0 (by rw [← el]; exact p1) hW)
      rw [hQ.1.bit c p0.1 p0.2, show 59 + 9 * c + 0 = 59 + 9 * c by omega]
    · exact TW_F hp e3 h hB hK (by omega) (lx_L_write_2 E (ctx_e e1 (cx_X7_write_1 E r_c hV p0 (by simpa using p1)))) (ct_X8_write_e2 E (K := 0) r_c hs p0 (by rw [← el]; simpa using p1))
  · exact TW_F hp e3 h hB hK (by omega) (lx_L_write_1 E (ctx_e e1 (cx_X7_write_0 E r_c hV p0))) (ct_X8_write_e1 E (K := 0) r_c hs p0)
theorem tw_read {G : GX} (E : EV G) {X : Mem} {B K : Int} (h0 : LW X B K) (hB : B + 32 ≤ 1000000) (hK : K + 1 ≤ 512) {c : Int} (r_c : rg c) : TW G iL_read hL_read iX8_read [.inl c] X B K := by
  obtain ⟨P, z, hp, e3, h⟩ := h0
  have e1 : ps X 1 P = X := ps_self hp
  obtain ⟨bt, bi, hV, hSR, hSZ, hw, hs, t2, t3, hW⟩ := LI_fx h
  have hRR := h.1
  have hR := hRR.1
  have hI := hRR.2.2.2.2.2
  have hCX := h.2.1
  have b2 : 0 ≤ z 2 ∧ z 2 ≤ 6 := by omega
  have b3 : 0 ≤ z 3 ∧ z 3 ≤ 3 := by omega
  have hs' : ∀ (Q : Mem) (w : Int), 0 ≤ YS X P Q w 197 10 ∧ YS X P Q w 197 10 ≤ 6 := fun Q w => by rw [YS_x hSZ hSR (by omega) (by omega)]; exact hs
  by_cases p0 : 0 ≤ c ∧ c < 64
  · have el : cCR P c = zCR z c := cCR_z p0 hRR
    by_cases p1 : cCR P c = true
    · have hst := hI.st 2 (by decide) (by decide)
      obtain ⟨r1, -, -⟩ := R_pul (K := K) (b := z (15 + 2)) p0 (hR.st 2 (by decide) (by decide)) (by omega) hR hRR.2.1 hV hW hI
      refine TW_S (Q := cRd P c) (y := zRd z c) (r := bI (cOne (cRdA P c) c)) (b := zRd1 z c (59 + 9 * c + 0)) e3 h hB hK ?_ (RR_mono (by omega) hB (by omega) hK (R_rd p0 (by rw [← el]; exact p1) (by omega) hRR)) (CX_rd hV hCX) (lo_L_read E (ct_e e1 (ct_X7_read E r_c hV p0 p1 hSR hSZ hw))) (ct_X8_read_ok E (K := K) r_c (hs' _ _) p0 (by rw [← el]; exact p1) hW)
      have e5 : cOne (cRdA P c) c = cOne (cPul P c (P 1 2)) c := cOne_cg (by unfold cRdA; rw [up_ne (by omega)])
      rw [e5, r1.bit c p0.1 p0.2]
      unfold zRd1
      rw [u1_ne (by omega), show 59 + 9 * c + 0 = 59 + 9 * c by omega]
    · exact TW_F hp e3 h hB hK (by omega) (lx_L_read_2 E (ctx_e e1 (cx_X7_read_1 E r_c hV p0 (by simpa using p1)))) (ct_X8_read_e2 E (K := 0) r_c hs p0 (by rw [← el]; simpa using p1))
  · exact TW_F hp e3 h hB hK (by omega) (lx_L_read_1 E (ctx_e e1 (cx_X7_read_0 E r_c hV p0))) (ct_X8_read_e1 E (K := 0) r_c hs p0)
theorem tw_writeBack {G : GX} (E : EV G) {X : Mem} {B K : Int} (h0 : LW X B K) (hB : B + 32 ≤ 1000000) (hK : K + 1 ≤ 512)  : TW G iL_writeBack hL_writeBack iX8_writeBack [] X B K := by
  obtain ⟨P, z, hp, e3, h⟩ := h0
  have e1 : ps X 1 P = X := ps_self hp
  obtain ⟨bt, bi, hV, hSR, hSZ, hw, hs, t2, t3, hW⟩ := LI_fx h
  have hRR := h.1
  have hR := hRR.1
  have hI := hRR.2.2.2.2.2
  have hCX := h.2.1
  have b2 : 0 ≤ z 2 ∧ z 2 ≤ 6 := by omega
  have b3 : 0 ≤ z 3 ∧ z 3 ≤ 3 := by omega
  have hs' : ∀ (Q : Mem) (w : Int), 0 ≤ YS X P Q w 197 10 ∧ YS X P Q w 197 10 ≤ 6 := fun Q w => by rw [YS_x hSZ hSR (by omega) (by omega)]; exact hs
  have hd : 0 ≤ P 10 0 ∧ P 10 0 ≤ 64 := hV.2.2.2.1.1
  have en := RR_n hRR
  have bn : 0 ≤ zOwN z ∧ zOwN z ≤ 64 := by have := cnt_b (zOw z) 64 0 0; unfold zOwN; omega
  rw [wr_id' (by omega) (by omega), wr_id' (by omega) (by omega)] at en
  by_cases p0 : 0 < P 10 0
  · have hQ := R_fb (YS X P (cFb P) (i2 (cFi P)).toInt 205) (by omega) hRR
    exact TW_So (Q := cFb P) (y := zWb z (zOrd z (YS X P (cFb P) (i2 (cFi P)).toInt 205) 0)) (r := cFi P) e3 h hB hK hQ.2 (RR_mono (by omega) hB (by omega) hK hQ.1) (CX_fb hV hCX) (lo_L_writeBack E (ct_e e1 (ct_X7_writeBack E hV hd p0 hSR hSZ hw))) (ct_X8_writeBack_ok E (K := K) (hs' _ _) (by omega) hW)
  · exact TW_F hp e3 h hB hK (by omega) (lx_L_writeBack_1 E (ctx_e e1 (cx_X7_writeBack_0 E hV hd (by omega)))) (ct_X8_writeBack_e1 E (K := 0) hs (by rw [wr_id' (by omega) (by omega)]; omega))
theorem tw_pass {G : GX} (E : EV G) {X : Mem} {B K : Int} (h0 : LW X B K) (hB : B + 32 ≤ 1000000) (hK : K + 1 ≤ 512) {t : Int} (r_t : rg t) : TW G iL_pass hL_pass iX8_pass [.inl t] X B K := by
  obtain ⟨P, z, hp, e3, h⟩ := h0
  have e1 : ps X 1 P = X := ps_self hp
  obtain ⟨bt, bi, hV, hSR, hSZ, hw, hs, t2, t3, hW⟩ := LI_fx h
  have hRR := h.1
  have hR := hRR.1
  have hI := hRR.2.2.2.2.2
  have hCX := h.2.1
  have b2 : 0 ≤ z 2 ∧ z 2 ≤ 6 := by omega
  have b3 : 0 ≤ z 3 ∧ z 3 ≤ 3 := by omega
  have hs' : ∀ (Q : Mem) (w : Int), 0 ≤ YS X P Q w 197 10 ∧ YS X P Q w 197 10 ≤ 6 := fun Q w => by rw [YS_x hSZ hSR (by omega) (by omega)]; exact hs
  have z0 := hI.t0
  have e0 : P 0 0 = z 0 := hR.t0
  have hz : 0 ≤ P 0 0 ∧ P 0 0 ≤ 10000 := by omega
  by_cases p0 : 1 ≤ t ∧ t ≤ 100
  · by_cases p1 : P 0 0 + t ≤ 10000
    · have hQ := R_pass (s := (z, YS X P (cTkN t.toNat P) (i2 (cTkN t.toNat P 0 1)).toInt 205)) (d := t.toNat) (by omega) (by show z 0 + _ ≤ _; omega) hRR
      exact TW_So (Q := cTkN t.toNat P) (r := cTkN t.toNat P 0 1) e3 h hB hK hQ.1.ht (RR_mono (by omega) hB (by omega) hK hQ) (CX_tkN _ _ hV hCX) (lo_L_pass E (ct_e e1 (ct_X7_pass E r_t hV hz p0 p1 hSR hSZ hw))) (ct_X8_pass_ok E (K := K) r_t (hs' _ _) p0 ⟨by omega, by omega⟩ hW)
    · exact TW_F hp e3 h hB hK (by omega) (lx_L_pass_2 E (ctx_e e1 (cx_X7_pass_1 E r_t hV hz p0 p1))) (ct_X8_pass_e2 E (K := 0) r_t hs p0 ⟨by omega, by omega⟩)
  · exact TW_F hp e3 h hB hK (by omega) (lx_L_pass_1 E (ctx_e e1 (cx_X7_pass_0 E r_t hV hz p0))) (ct_X8_pass_e1 E (K := 0) r_t hs p0)
theorem tw_core {G : GX} (E : EV G) {X : Mem} {B K : Int} (h0 : LW X B K) (hB : B + 32 ≤ 1000000) (hK : K + 1 ≤ 512) {c w : Int} (r_c : rg c) (r_w : rg w) : TW G iL_core hL_core iX8_core [.inl c, .inl w] X B K := by
  obtain ⟨P, z, hp, e3, h⟩ := h0
  have e1 : ps X 1 P = X := ps_self hp
  obtain ⟨bt, bi, hV, hSR, hSZ, hw, hs, t2, t3, hW⟩ := LI_fx h
  have hRR := h.1
  have hR := hRR.1
  have hI := hRR.2.2.2.2.2
  have hCX := h.2.1
  have b2 : 0 ≤ z 2 ∧ z 2 ≤ 6 := by omega
  have b3 : 0 ≤ z 3 ∧ z 3 ≤ 3 := by omega
  have hs' : ∀ (Q : Mem) (w : Int), 0 ≤ YS X P Q w 197 10 ∧ YS X P Q w 197 10 ≤ 6 := fun Q w => by rw [YS_x hSZ hSR (by omega) (by omega)]; exact hs
  by_cases p0 : 0 ≤ c ∧ c < 64
  · by_cases p1 : 0 ≤ w ∧ w ≤ 8
    · exact TW_Q hp e3 h hB hK (q_core p0 p1 hRR) (lo_L_core E (ct_q e1 (ct_X7_core E r_c r_w p0 p1))) (ct_X8_core_ok E (K := 0) r_c r_w p0 (by omega))
    · exact TW_F hp e3 h hB hK (by omega) (lx_L_core_2 E (ctx_e e1 (cx_X7_core_1 E r_c r_w p0 p1))) (ct_X8_core_e2 E (K := 0) r_c r_w p0 (by omega))
  · exact TW_F hp e3 h hB hK (by omega) (lx_L_core_1 E (ctx_e e1 (cx_X7_core_0 E r_c r_w p0))) (ct_X8_core_e1 E (K := 0) r_c r_w p0)
theorem tw_tenant {G : GX} (E : EV G) {X : Mem} {B K : Int} (h0 : LW X B K) (hB : B + 32 ≤ 1000000) (hK : K + 1 ≤ 512) {t w : Int} (r_t : rg t) (r_w : rg w) : TW G iL_tenant hL_tenant iX8_tenant [.inl t, .inl w] X B K := by
  obtain ⟨P, z, hp, e3, h⟩ := h0
  have e1 : ps X 1 P = X := ps_self hp
  obtain ⟨bt, bi, hV, hSR, hSZ, hw, hs, t2, t3, hW⟩ := LI_fx h
  have hRR := h.1
  have hR := hRR.1
  have hI := hRR.2.2.2.2.2
  have hCX := h.2.1
  have b2 : 0 ≤ z 2 ∧ z 2 ≤ 6 := by omega
  have b3 : 0 ≤ z 3 ∧ z 3 ≤ 3 := by omega
  have hs' : ∀ (Q : Mem) (w : Int), 0 ≤ YS X P Q w 197 10 ∧ YS X P Q w 197 10 ≤ 6 := fun Q w => by rw [YS_x hSZ hSR (by omega) (by omega)]; exact hs
  by_cases p0 : 0 ≤ t ∧ t < P 13 0
  · by_cases p1 : 0 ≤ w ∧ w ≤ 5
    · exact TW_Q hp e3 h hB hK (q_tenant (by omega) p1 hRR hCX) (lo_L_tenant E (ct_q e1 (ct_X7_tenant E r_t r_w bt p0 p1 hV))) (ct_X8_tenant_ok E (K := K) r_t r_w b2 hW (by omega) (by omega))
    · exact TW_F hp e3 h hB hK (by omega) (lx_L_tenant_2 E (ctx_e e1 (cx_X7_tenant_1 E r_t r_w bt p0 p1))) (ct_X8_tenant_e2 E (K := 0) r_t r_w b2 (by omega) (by omega))
  · exact TW_F hp e3 h hB hK (by omega) (lx_L_tenant_1 E (ctx_e e1 (cx_X7_tenant_0 E r_t r_w bt p0))) (ct_X8_tenant_e1 E (K := 0) r_t r_w b2 (by omega))
theorem tw_insurer {G : GX} (E : EV G) {X : Mem} {B K : Int} (h0 : LW X B K) (hB : B + 32 ≤ 1000000) (hK : K + 1 ≤ 512) {i w : Int} (r_i : rg i) (r_w : rg w) : TW G iL_insurer hL_insurer iX8_insurer [.inl i, .inl w] X B K := by
  obtain ⟨P, z, hp, e3, h⟩ := h0
  have e1 : ps X 1 P = X := ps_self hp
  obtain ⟨bt, bi, hV, hSR, hSZ, hw, hs, t2, t3, hW⟩ := LI_fx h
  have hRR := h.1
  have hR := hRR.1
  have hI := hRR.2.2.2.2.2
  have hCX := h.2.1
  have b2 : 0 ≤ z 2 ∧ z 2 ≤ 6 := by omega
  have b3 : 0 ≤ z 3 ∧ z 3 ≤ 3 := by omega
  have hs' : ∀ (Q : Mem) (w : Int), 0 ≤ YS X P Q w 197 10 ∧ YS X P Q w 197 10 ≤ 6 := fun Q w => by rw [YS_x hSZ hSR (by omega) (by omega)]; exact hs
  by_cases p0 : 0 ≤ i ∧ i < P 17 0
  · by_cases p1 : 0 ≤ w ∧ w ≤ 6
    · exact TW_Q hp e3 h hB hK (q_insurer (by omega) p1 hRR) (lo_L_insurer E (ct_q e1 (ct_X7_insurer E r_i r_w bi p0 p1 hV))) (ct_X8_insurer_ok E (K := 0) r_i r_w b3 (by omega) (by omega))
    · exact TW_F hp e3 h hB hK (by omega) (lx_L_insurer_2 E (ctx_e e1 (cx_X7_insurer_1 E r_i r_w bi p0 p1))) (ct_X8_insurer_e2 E (K := 0) r_i r_w b3 (by omega) (by omega))
  · exact TW_F hp e3 h hB hK (by omega) (lx_L_insurer_1 E (ctx_e e1 (cx_X7_insurer_0 E r_i r_w bi p0))) (ct_X8_insurer_e1 E (K := 0) r_i r_w b3 (by omega))
theorem tw_owed {G : GX} (E : EV G) {X : Mem} {B K : Int} (h0 : LW X B K) (hB : B + 32 ≤ 1000000) (hK : K + 1 ≤ 512) {p w : Int} (r_p : rg p) (r_w : rg w) : TW G iL_owed hL_owed iX8_owed [.inl p, .inl w] X B K := by
  obtain ⟨P, z, hp, e3, h⟩ := h0
  have e1 : ps X 1 P = X := ps_self hp
  obtain ⟨bt, bi, hV, hSR, hSZ, hw, hs, t2, t3, hW⟩ := LI_fx h
  have hRR := h.1
  have hR := hRR.1
  have hI := hRR.2.2.2.2.2
  have hCX := h.2.1
  have b2 : 0 ≤ z 2 ∧ z 2 ≤ 6 := by omega
  have b3 : 0 ≤ z 3 ∧ z 3 ≤ 3 := by omega
  have hs' : ∀ (Q : Mem) (w : Int), 0 ≤ YS X P Q w 197 10 ∧ YS X P Q w 197 10 ≤ 6 := fun Q w => by rw [YS_x hSZ hSR (by omega) (by omega)]; exact hs
  by_cases p0 : 0 ≤ p ∧ p ≤ 63
  · by_cases p1 : 0 ≤ w ∧ w ≤ 1
    · exact TW_Qo (r := cOwd P p w) hp e3 h hB hK (q_owed _ (by omega) hRR) (lo_L_owed E (ct_q e1 (ct_X7_owed E r_p r_w p0 p1 hV.2.2.2.1))) (ct_X8_owed_ok E (K := 0) r_p r_w (by omega) (by omega))
    · exact TW_F hp e3 h hB hK (by omega) (lx_L_owed_1 E (ctx_e e1 (cx_X7_owed_1 E r_p r_w p0 p1))) (ct_X8_owed_e1 E (K := 0) r_p r_w (by omega))
  · exact TW_F hp e3 h hB hK (by omega) (lx_L_owed_1 E (ctx_e e1 (cx_X7_owed_0 E r_p r_w p0))) (ct_X8_owed_e1 E (K := 0) r_p r_w (by omega))
theorem tw_weakest {G : GX} (E : EV G) {X : Mem} {B K : Int} (h0 : LW X B K) (hB : B + 32 ≤ 1000000) (hK : K + 1 ≤ 512) {p : Int} (r_p : rg p) : TW G iL_weakest hL_weakest iX8_weakest [.inl p] X B K := by
  obtain ⟨P, z, hp, e3, h⟩ := h0
  have e1 : ps X 1 P = X := ps_self hp
  obtain ⟨bt, bi, hV, hSR, hSZ, hw, hs, t2, t3, hW⟩ := LI_fx h
  have hRR := h.1
  have hR := hRR.1
  have hI := hRR.2.2.2.2.2
  have hCX := h.2.1
  have b2 : 0 ≤ z 2 ∧ z 2 ≤ 6 := by omega
  have b3 : 0 ≤ z 3 ∧ z 3 ≤ 3 := by omega
  have hs' : ∀ (Q : Mem) (w : Int), 0 ≤ YS X P Q w 197 10 ∧ YS X P Q w 197 10 ≤ 6 := fun Q w => by rw [YS_x hSZ hSR (by omega) (by omega)]; exact hs
  by_cases p0 : 0 ≤ p ∧ p ≤ 63
  · exact TW_Q hp e3 h hB hK (q_weakest (by omega) hRR) (lo_L_weakest E (ct_q e1 (ct_X7_weakest E r_p p0))) (ct_X8_weakest_ok E (K := 0) r_p (by omega))
  · exact TW_F hp e3 h hB hK (by omega) (lx_L_weakest_1 E (ctx_e e1 (cx_X7_weakest_0 E r_p p0))) (ct_X8_weakest_e1 E (K := 0) r_p (by omega))
theorem tw_count {G : GX} (E : EV G) {X : Mem} {B K : Int} (h0 : LW X B K) (hB : B + 32 ≤ 1000000) (hK : K + 1 ≤ 512) {w : Int} (r_w : rg w) : TW G iL_count hL_count iX8_count [.inl w] X B K := by
  obtain ⟨P, z, hp, e3, h⟩ := h0
  have e1 : ps X 1 P = X := ps_self hp
  obtain ⟨bt, bi, hV, hSR, hSZ, hw, hs, t2, t3, hW⟩ := LI_fx h
  have hRR := h.1
  have hR := hRR.1
  have hI := hRR.2.2.2.2.2
  have hCX := h.2.1
  have b2 : 0 ≤ z 2 ∧ z 2 ≤ 6 := by omega
  have b3 : 0 ≤ z 3 ∧ z 3 ≤ 3 := by omega
  have hs' : ∀ (Q : Mem) (w : Int), 0 ≤ YS X P Q w 197 10 ∧ YS X P Q w 197 10 ≤ 6 := fun Q w => by rw [YS_x hSZ hSR (by omega) (by omega)]; exact hs
  have h49 : X 49 0 = X 197 10 := h.2.2.1.2.1
  by_cases p0 : 0 ≤ w ∧ w ≤ 18
  · refine TW_Q (r := cCnt P (X 197 10) w) hp e3 h hB hK ?_ (lo_L_count E (ct_q e1 (ct_X7_count E r_w p0 h49))) (ct_X8_count_ok E (K := 0) r_w (by omega))
    rw [up_ne (by omega)]
    exact q_count p0 hRR
  · exact TW_F hp e3 h hB hK (by omega) (lx_L_count_1 E (ctx_e e1 (cx_X7_count_0 E r_w p0))) (ct_X8_count_e1 E (K := 0) r_w (by omega))
theorem tw_setting {G : GX} (E : EV G) {X : Mem} {B K : Int} (h0 : LW X B K) (hB : B + 32 ≤ 1000000) (hK : K + 1 ≤ 512) {s : Int} (r_s : rg s) : TW G iL_setting hL_setting iX8_setting [.inl s] X B K := by
  obtain ⟨P, z, hp, e3, h⟩ := h0
  have e1 : ps X 1 P = X := ps_self hp
  obtain ⟨bt, bi, hV, hSR, hSZ, hw, hs, t2, t3, hW⟩ := LI_fx h
  have hRR := h.1
  have hR := hRR.1
  have hI := hRR.2.2.2.2.2
  have hCX := h.2.1
  have b2 : 0 ≤ z 2 ∧ z 2 ≤ 6 := by omega
  have b3 : 0 ≤ z 3 ∧ z 3 ≤ 3 := by omega
  have hs' : ∀ (Q : Mem) (w : Int), 0 ≤ YS X P Q w 197 10 ∧ YS X P Q w 197 10 ≤ 6 := fun Q w => by rw [YS_x hSZ hSR (by omega) (by omega)]; exact hs
  by_cases p0 : 0 ≤ s ∧ s < 8
  · exact TW_Q hp e3 h hB hK (hR.st s p0.1 p0.2) (lo_L_setting E (ct_q e1 (ct_X7_setting E r_s p0))) (ct_X8_setting_ok E (K := 0) r_s p0)
  · exact TW_F hp e3 h hB hK (by omega) (lx_L_setting_1 E (ctx_e e1 (cx_X7_setting_0 E r_s p0))) (ct_X8_setting_e1 E (K := 0) r_s p0)
theorem tw_premium {G : GX} (E : EV G) {X : Mem} {B K : Int} (h0 : LW X B K) (hB : B + 32 ≤ 1000000) (hK : K + 1 ≤ 512) {c i k : Int} (r_c : rg c) (r_i : rg i) (r_k : rg k) : TW G iL_premium hL_premium iX8_premium [.inl c, .inl i, .inl k] X B K := by
  obtain ⟨P, z, hp, e3, h⟩ := h0
  have e1 : ps X 1 P = X := ps_self hp
  obtain ⟨bt, bi, hV, hSR, hSZ, hw, hs, t2, t3, hW⟩ := LI_fx h
  have hRR := h.1
  have hR := hRR.1
  have hI := hRR.2.2.2.2.2
  have hCX := h.2.1
  have b2 : 0 ≤ z 2 ∧ z 2 ≤ 6 := by omega
  have b3 : 0 ≤ z 3 ∧ z 3 ≤ 3 := by omega
  have hs' : ∀ (Q : Mem) (w : Int), 0 ≤ YS X P Q w 197 10 ∧ YS X P Q w 197 10 ≤ 6 := fun Q w => by rw [YS_x hSZ hSR (by omega) (by omega)]; exact hs
  by_cases p0 : 0 ≤ c ∧ c < 64
  · by_cases p1 : 0 ≤ i ∧ i < P 17 0
    · by_cases p2 : 1 ≤ k ∧ k ≤ 200
      · exact TW_Q hp e3 h hB hK (prem_e p0 (by omega) hR hR.ht) (lo_L_premium E (ct_q e1 (ct_X7_premium E r_c r_i r_k bi p0 p1 p2))) (ct_X8_premium_ok E (K := 0) r_c r_i r_k b3 p0 (by omega) p2)
      · exact TW_F hp e3 h hB hK (by omega) (lx_L_premium_2 E (ctx_e e1 (cx_X7_premium_2 E r_c r_i r_k bi p0 p1 p2))) (ct_X8_premium_e2 E (K := 0) r_c r_i r_k b3 p0 (by omega) p2)
    · exact TW_F hp e3 h hB hK (by omega) (lx_L_premium_1 E (ctx_e e1 (cx_X7_premium_1 E r_c r_i r_k bi p0 p1))) (ct_X8_premium_e1 E (K := 0) r_c r_i r_k b3 (by omega))
  · exact TW_F hp e3 h hB hK (by omega) (lx_L_premium_1 E (ctx_e e1 (cx_X7_premium_0 E r_c r_i r_k bi p0))) (ct_X8_premium_e1 E (K := 0) r_c r_i r_k b3 (by omega))
theorem tw_cheapest {G : GX} (E : EV G) {X : Mem} {B K : Int} (h0 : LW X B K) (hB : B + 32 ≤ 1000000) (hK : K + 1 ≤ 512) {c v k : Int} (r_c : rg c) (r_v : rg v) (r_k : rg k) : TW G iL_cheapest hL_cheapest iX8_cheapest [.inl c, .inl v, .inl k] X B K := by
  obtain ⟨P, z, hp, e3, h⟩ := h0
  have e1 : ps X 1 P = X := ps_self hp
  obtain ⟨bt, bi, hV, hSR, hSZ, hw, hs, t2, t3, hW⟩ := LI_fx h
  have hRR := h.1
  have hR := hRR.1
  have hI := hRR.2.2.2.2.2
  have hCX := h.2.1
  have b2 : 0 ≤ z 2 ∧ z 2 ≤ 6 := by omega
  have b3 : 0 ≤ z 3 ∧ z 3 ≤ 3 := by omega
  have hs' : ∀ (Q : Mem) (w : Int), 0 ≤ YS X P Q w 197 10 ∧ YS X P Q w 197 10 ≤ 6 := fun Q w => by rw [YS_x hSZ hSR (by omega) (by omega)]; exact hs
  by_cases p0 : 0 ≤ c ∧ c < 64
  · by_cases p1 : 1 ≤ v ∧ v ≤ 500
    · by_cases p2 : 1 ≤ k ∧ k ≤ 200
      · have eq : cCh P c v k = zCh z c v k := by
          unfold cCh zCh
          rw [wr_id' (by omega) (by omega), ← t3]
          exact q_ch p0 hRR _ _ _ _ (by omega) (by omega) (Or.inl rfl)
        exact TW_Q hp e3 h hB hK eq (lo_L_cheapest E (ct_q e1 (ct_X7_cheapest E r_c r_v r_k p0 p1 p2 bi))) (ct_X8_cheapest_ok E (K := 0) r_c r_v r_k b3 p0 p1 p2)
      · exact TW_F hp e3 h hB hK (by omega) (lx_L_cheapest_2 E (ctx_e e1 (cx_X7_cheapest_2 E r_c r_v r_k p0 p1 p2))) (ct_X8_cheapest_e2 E (K := 0) r_c r_v r_k b3 p0 (fun q => p2 q.2))
    · exact TW_F hp e3 h hB hK (by omega) (lx_L_cheapest_2 E (ctx_e e1 (cx_X7_cheapest_1 E r_c r_v r_k p0 p1))) (ct_X8_cheapest_e2 E (K := 0) r_c r_v r_k b3 p0 (fun q => p1 q.1))
  · exact TW_F hp e3 h hB hK (by omega) (lx_L_cheapest_1 E (ctx_e e1 (cx_X7_cheapest_0 E r_c r_v r_k p0))) (ct_X8_cheapest_e1 E (K := 0) r_c r_v r_k b3 p0)
theorem tw_waitFor {G : GX} (E : EV G) {X : Mem} {B K : Int} (h0 : LW X B K) (hB : B + 32 ≤ 1000000) (hK : K + 1 ≤ 512) {c i k x : Int} (r_c : rg c) (r_i : rg i) (r_k : rg k) (r_x : rg x) : TW G iL_waitFor hL_waitFor iX8_waitFor [.inl c, .inl i, .inl k, .inl x] X B K := by
  obtain ⟨P, z, hp, e3, h⟩ := h0
  have e1 : ps X 1 P = X := ps_self hp
  obtain ⟨bt, bi, hV, hSR, hSZ, hw, hs, t2, t3, hW⟩ := LI_fx h
  have hRR := h.1
  have hR := hRR.1
  have hI := hRR.2.2.2.2.2
  have hCX := h.2.1
  have b2 : 0 ≤ z 2 ∧ z 2 ≤ 6 := by omega
  have b3 : 0 ≤ z 3 ∧ z 3 ≤ 3 := by omega
  have hs' : ∀ (Q : Mem) (w : Int), 0 ≤ YS X P Q w 197 10 ∧ YS X P Q w 197 10 ≤ 6 := fun Q w => by rw [YS_x hSZ hSR (by omega) (by omega)]; exact hs
  by_cases p0 : 0 ≤ c ∧ c < 64
  · by_cases p1 : 0 ≤ i ∧ i < P 17 0
    · by_cases p2 : 1 ≤ k ∧ k ≤ 200
      · by_cases p3 : 1 ≤ x ∧ x ≤ 10000
        · exact TW_Q hp e3 h hB hK (q_wt p0 (by omega) hRR 201 0 (by omega) (by omega)) (lo_L_waitFor E (ct_q e1 (ct_X7_waitFor E r_c r_i r_k r_x bi p0 p1 p2 p3))) (ct_X8_waitFor_ok E (K := 0) r_c r_i r_k r_x b3 p0 (by omega) p2 p3)
        · exact TW_F hp e3 h hB hK (by omega) (lx_L_waitFor_2 E (ctx_e e1 (cx_X7_waitFor_3 E r_c r_i r_k r_x bi p0 p1 p2 p3))) (ct_X8_waitFor_e2 E (K := 0) r_c r_i r_k r_x b3 p0 (by omega) (fun q => p3 q.2))
      · exact TW_F hp e3 h hB hK (by omega) (lx_L_waitFor_2 E (ctx_e e1 (cx_X7_waitFor_2 E r_c r_i r_k r_x bi p0 p1 p2))) (ct_X8_waitFor_e2 E (K := 0) r_c r_i r_k r_x b3 p0 (by omega) (fun q => p2 q.1))
    · exact TW_F hp e3 h hB hK (by omega) (lx_L_waitFor_1 E (ctx_e e1 (cx_X7_waitFor_1 E r_c r_i r_k r_x bi p0 p1))) (ct_X8_waitFor_e1 E (K := 0) r_c r_i r_k r_x b3 (by omega))
  · exact TW_F hp e3 h hB hK (by omega) (lx_L_waitFor_1 E (ctx_e e1 (cx_X7_waitFor_0 E r_c r_i r_k r_x bi p0))) (ct_X8_waitFor_e1 E (K := 0) r_c r_i r_k r_x b3 (by omega))
theorem tw_ifRead {G : GX} (E : EV G) {X : Mem} {B K : Int} (h0 : LW X B K) (hB : B + 32 ≤ 1000000) (hK : K + 1 ≤ 512) {c w : Int} (r_c : rg c) (r_w : rg w) : TW G iL_ifRead hL_ifRead iX8_ifRead [.inl c, .inl w] X B K := by
  obtain ⟨P, z, hp, e3, h⟩ := h0
  have e1 : ps X 1 P = X := ps_self hp
  obtain ⟨bt, bi, hV, hSR, hSZ, hw, hs, t2, t3, hW⟩ := LI_fx h
  have hRR := h.1
  have hR := hRR.1
  have hI := hRR.2.2.2.2.2
  have hCX := h.2.1
  have b2 : 0 ≤ z 2 ∧ z 2 ≤ 6 := by omega
  have b3 : 0 ≤ z 3 ∧ z 3 ≤ 3 := by omega
  have hs' : ∀ (Q : Mem) (w : Int), 0 ≤ YS X P Q w 197 10 ∧ YS X P Q w 197 10 ≤ 6 := fun Q w => by rw [YS_x hSZ hSR (by omega) (by omega)]; exact hs
  by_cases p0 : 0 ≤ c ∧ c < 64
  · by_cases p1 : 0 ≤ w ∧ w ≤ 4
    · exact TW_Q hp e3 h hB hK (q_ifRead p0 p1 hRR) (lo_L_ifRead E (ct_q e1 (ct_X7_ifRead E r_c r_w p0 p1))) (ct_X8_ifRead_ok E (K := 0) r_c r_w p0 (by omega))
    · exact TW_F hp e3 h hB hK (by omega) (lx_L_ifRead_2 E (ctx_e e1 (cx_X7_ifRead_1 E r_c r_w p0 p1))) (ct_X8_ifRead_e2 E (K := 0) r_c r_w p0 (by omega))
  · exact TW_F hp e3 h hB hK (by omega) (lx_L_ifRead_1 E (ctx_e e1 (cx_X7_ifRead_0 E r_c r_w p0))) (ct_X8_ifRead_e1 E (K := 0) r_c r_w p0)
theorem tw_atRisk {G : GX} (E : EV G) {X : Mem} {B K : Int} (h0 : LW X B K) (hB : B + 32 ≤ 1000000) (hK : K + 1 ≤ 512) {t : Int} (r_t : rg t) : TW G iL_atRisk hL_atRisk iX8_atRisk [.inl t] X B K := by
  obtain ⟨P, z, hp, e3, h⟩ := h0
  have e1 : ps X 1 P = X := ps_self hp
  obtain ⟨bt, bi, hV, hSR, hSZ, hw, hs, t2, t3, hW⟩ := LI_fx h
  have hRR := h.1
  have hR := hRR.1
  have hI := hRR.2.2.2.2.2
  have hCX := h.2.1
  have b2 : 0 ≤ z 2 ∧ z 2 ≤ 6 := by omega
  have b3 : 0 ≤ z 3 ∧ z 3 ≤ 3 := by omega
  have hs' : ∀ (Q : Mem) (w : Int), 0 ≤ YS X P Q w 197 10 ∧ YS X P Q w 197 10 ≤ 6 := fun Q w => by rw [YS_x hSZ hSR (by omega) (by omega)]; exact hs
  by_cases p0 : 0 ≤ t ∧ t < P 13 0
  · exact TW_Q hp e3 h hB hK (q_rk (by omega) hRR 64 0 0 (by omega) (by omega) (by omega) (by omega)) (lo_L_atRisk E (ct_q e1 (ct_X7_atRisk E r_t bt p0))) (ct_X8_atRisk_ok E (K := 0) r_t b2 (by omega))
  · exact TW_F hp e3 h hB hK (by omega) (lx_L_atRisk_1 E (ctx_e e1 (cx_X7_atRisk_0 E r_t bt p0))) (ct_X8_atRisk_e1 E (K := 0) r_t b2 (by omega))

/-! the law: what it begins with -/
/-! what the law begins with: plain mathematics -/
def m00 : Mem := fun a _ => if a = 50 then -1 else 0
def P0 (G : GX) : Mem := fun d j => if d = 1 ∧ 0 ≤ j ∧ j < 8 then (gE G 0).2.2 j else if d = 4 ∧ 0 ≤ j ∧ j < 64 then 100 else if (d = 5 ∨ d = 7 ∨ d = 12) ∧ 0 ≤ j ∧ j < 64 then -1 else 0
theorem P0_z {G : GX} {d : Nat} {j : Int} (h : ¬ d = 1 ∧ ¬ d = 4 ∧ ¬ d = 5 ∧ ¬ d = 7 ∧ ¬ d = 12) : P0 G d j = 0 := by
  unfold P0; rw [if_neg (by omega), if_neg (by omega), if_neg (by omega)]
theorem P0_n {G : GX} {d : Nat} {j : Int} (h : d = 5 ∨ d = 7 ∨ d = 12) (hj : 0 ≤ j ∧ j < 64) : P0 G d j = -1 := by
  unfold P0; rw [if_neg (by omega), if_neg (by omega), if_pos ⟨h, hj⟩]
theorem P0_s {G : GX} {j : Int} (hj : 0 ≤ j ∧ j < 64) : P0 G 4 j = 100 := by
  unfold P0; rw [if_neg (by omega), if_pos ⟨rfl, hj⟩]
theorem P0_f {G : GX} {j : Int} (hj : 0 ≤ j ∧ j < 8) : P0 G 1 j = (gE G 0).2.2 j := by
  unfold P0; rw [if_pos ⟨rfl, hj⟩]
theorem iniP_at {G : GX} {m : Mem} {b d : Nat} (hd : d < 24) (h : m (b + d) = fun _ => 0) : iniP G m b (b + d) = P0 G d := by
  funext j
  have h' : m (b + d) j = 0 := congrFun h j
  unfold iniP iniD iniC cpP
  by_cases h1 : d = 1 ∧ 0 ≤ j ∧ j < 8
  · rw [if_pos (by omega), P0_f (G := G) h1.2 |>.symm, h1.1]
  · rw [if_neg (by omega)]
    by_cases h2 : d = 12 ∧ 0 ≤ j ∧ j < 64
    · rw [if_pos (by omega), P0_n (by omega) h2.2]
    · rw [if_neg (by omega)]
      by_cases h3 : d = 7 ∧ 0 ≤ j ∧ j < 64
      · rw [if_pos (by omega), P0_n (by omega) h3.2]
      · rw [if_neg (by omega)]
        by_cases h4 : d = 5 ∧ 0 ≤ j ∧ j < 64
        · rw [if_pos (by omega), P0_n (by omega) h4.2]
        · rw [if_neg (by omega)]
          by_cases h5 : d = 4 ∧ 0 ≤ j ∧ j < 64
          · rw [if_pos (by omega), h5.1, P0_s h5.2]
          · rw [if_neg (by omega), h']
            unfold P0
            rw [if_neg h1, if_neg h5, if_neg (by omega)]
theorem spM_b {G : GX} {m : Mem} {b c : Nat} (h : c ≤ b) : ∀ i, spM G m b i c = m c
  | 0 => rfl
  | i + 1 => by
    rw [spM, up_ne' (by omega), iniP_o (by omega)]
    exact spM_b h i
theorem spM_r {G : GX} {m : Mem} {b : Nat} : ∀ (n i : Nat), i < n → spM G m b n (b + 1) (i : Int) = ((b + (2 + 24 * i) : Nat) : Int)
  | 0, _, h => absurd h (Nat.not_lt_zero _)
  | n + 1, i, h => by
    rw [spM]
    by_cases q : i = n
    · rw [q, up_at]
    · rw [up_ne (by omega), iniP_o (by omega)]
      exact spM_r n i (by omega)
theorem zI_hi {j : Int} (h : j < 15 ∨ (23 ≤ j ∧ j < 59) ∨ 635 ≤ j) : zI 64 j = 0 := by
  unfold zI
  rw [if_neg (by omega), if_neg (by omega), if_neg (by omega), if_neg (by omega), if_neg (by omega), if_neg (by omega), if_neg (by omega), if_neg (by omega), if_neg (by omega)]
theorem zI_c {c w : Int} (hc : 0 ≤ c ∧ c < 64) (hw : 0 ≤ w ∧ w < 9) : zI 64 (59 + 9 * c + w) = if w = 1 then 100 else 0 := by
  unfold zI
  rw [if_neg (by omega), if_neg (by omega), if_neg (by omega), if_neg (by omega), if_neg (by omega), if_neg (by omega), if_neg (by omega), if_neg (by omega)]
  by_cases h : w = 1
  · rw [if_pos (by omega), if_pos h]
  · rw [if_neg (by omega), if_neg h]
theorem zI_c0 {c : Int} (hc : 0 ≤ c ∧ c < 64) : zI 64 (59 + 9 * c) = 0 := by
  have h := zI_c hc (w := 0) (by decide)
  rw [Int.add_zero] at h
  exact h
theorem zI_s8 {s : Int} (h : 0 ≤ s ∧ s < 8) : 0 ≤ zI 64 (15 + s) ∧ zI 64 (15 + s) ≤ 100 := by
  have e : s = 0 ∨ s = 1 ∨ s = 2 ∨ s = 3 ∨ s = 4 ∨ s = 5 ∨ s = 6 ∨ s = 7 := by omega
  rcases e with rfl | rfl | rfl | rfl | rfl | rfl | rfl | rfl <;> decide
theorem RR_0 {G : GX} (gf : ∀ s, 0 ≤ s → s < 8 → (gE G 0).2.2 s = zI 64 (15 + s)) : RR (P0 G) (zI 64) 10000 0 0 := by
  refine ⟨⟨?_, ?_, ?_, ?_, ?_, ?_, ?_, ?_, ?_, ?_, ?_, ?_, ?_, ?_, ?_, ?_, ?_, ?_, ?_, ?_, ?_, ?_, ?_⟩, ?_, ⟨⟨?_, ?_⟩, ?_⟩, ⟨?_, ?_, ⟨?_, ?_⟩, ⟨?_, ?_⟩, ?_⟩, ⟨?_, ?_, ?_, ?_, ?_, ?_, ?_⟩, ?_⟩
  · rw [P0_z (by omega), zI_hi (by omega)]
  · rw [P0_z (by omega), zI_hi (by omega)]
  · rw [P0_z (by omega), zI_hi (by omega)]
  · intro s a b; rw [P0_f ⟨a, b⟩, gf s a b]
  · intro w a b; rw [P0_z (by omega), zI_hi (by omega)]
  · rw [P0_z (by omega), zI_hi (by omega)]
  · intro c a b
    unfold cOne
    rw [P0_z (by omega), zI_c0 ⟨a, b⟩, show lo 0 = 0 from rfl, tb_0]
    rfl
  · intro c a b; rw [P0_s ⟨a, b⟩, zI_c ⟨a, b⟩ (by decide), if_pos rfl]
  · intro c a b; rw [P0_n (by omega) ⟨a, b⟩, zI_c ⟨a, b⟩ (by decide), if_neg (by decide)]; rfl
  · intro c a b q; rw [zI_c ⟨a, b⟩ (by decide), if_neg (by decide)] at q; omega
  · intro c a b; rw [P0_n (by omega) ⟨a, b⟩, zI_c ⟨a, b⟩ (by decide), if_neg (by decide)]; rfl
  · intro c a b q; rw [zI_c ⟨a, b⟩ (by decide), if_neg (by decide)] at q; omega
  · intro c a b; rw [P0_z (by omega), zI_c ⟨a, b⟩ (by decide), if_neg (by decide)]
  · rw [P0_z (by omega), zI_hi (by omega)]
  · intro t a b; rw [P0_z (by omega), zI_hi (by omega)]
  · intro t a b; rw [P0_z (by omega), zI_hi (by omega)]
  · intro t a b; rw [P0_z (by omega), zI_hi (by omega)]
  · rw [P0_z (by omega), zI_hi (by omega)]
  · intro t a b; rw [P0_z (by omega), zI_hi (by omega)]
  · intro t a b; rw [P0_z (by omega), zI_hi (by omega)]
  · intro t a b; rw [P0_z (by omega), zI_hi (by omega)]
  · intro t a b; rw [P0_z (by omega), zI_hi (by omega)]
  · intro t a b; rw [P0_z (by omega), zI_hi (by omega)]
  · intro i a b
    unfold qu
    rw [P0_z (by omega), zI_hi (by omega)]
    rfl
  · unfold dL
    rw [P0_z (by omega)]
    exact List.Pairwise.nil
  · intro c
    unfold dL
    rw [P0_z (by omega)]
    constructor
    · intro q; cases q
    · rintro ⟨q1, q2⟩; rw [zI_c q1 (by decide), if_neg (by decide)] at q2; omega
  · intro c a b; rw [P0_n (by omega) ⟨a, b⟩, zI_c ⟨a, b⟩ (by decide), if_neg (by decide)]; rfl
  · rw [P0_z (by omega)]; decide
  · rw [P0_z (by omega)]; decide
  · rw [P0_z (by omega)]; decide
  · intro j a b; rw [P0_z (by omega)] at b; omega
  · rw [P0_z (by omega)]; decide
  · intro j a b; rw [P0_z (by omega)] at b; omega
  · intro c a b; rw [P0_n (by omega) ⟨a, b⟩, P0_n (by omega) ⟨a, b⟩]; decide
  · rw [zI_hi (by omega)]; decide
  · rw [zI_hi (by omega)]; decide
  · intro j a b; rw [zI_hi (by omega)]; decide
  · intro c a b; rw [zI_c ⟨a, b⟩ (by decide), if_neg (by decide), zI_c ⟨a, b⟩ (by decide), if_neg (by decide)]; decide
  · rw [zI_hi (by omega), zI_hi (by omega), zI_hi (by omega)]; decide
  · rw [zI_hi (by omega), zI_hi (by omega), zI_hi (by omega), show zCW (zI 64) 4 = 0 by decide +kernel]; decide
  · decide
  · have hw : ∀ c w : Int, 0 ≤ c → c < 64 → 0 ≤ w → w < 9 → ¬ w = 1 → zI 64 (59 + 9 * c + w) = 0 := fun c w a b d e f => by rw [zI_c ⟨a, b⟩ ⟨d, e⟩, if_neg f]
    have h0 : ∀ j : Int, j < 15 → zI 64 j = 0 := fun j h => zI_hi (by omega)
    refine ⟨?_, by omega, ?_, fun s a b => zI_s8 ⟨a, b⟩, ?_, ?_, ?_, ?_, ?_, ?_, ?_, ?_, ?_, by omega, ?_⟩
    · rw [h0 _ (by omega)]; decide
    · rw [h0 _ (by omega)]; decide
    · intro c a b; rw [zI_c ⟨a, b⟩ (by decide), if_pos rfl]; decide
    · intro c a b; rw [hw c 2 a b (by decide) (by decide) (by decide), h0 _ (by omega)]; decide
    · intro c a b q; rw [hw c 2 a b (by decide) (by decide) (by decide)] at q; omega
    · intro c a b; rw [hw c 4 a b (by decide) (by decide) (by decide), h0 _ (by omega)]; decide
    · intro c a b q; rw [hw c 4 a b (by decide) (by decide) (by decide)] at q; omega
    · intro c a b; rw [hw c 6 a b (by decide) (by decide) (by decide)]; decide
    · intro c a b q; rw [hw c 6 a b (by decide) (by decide) (by decide)] at q; omega
    · intro c c' a b a' b' q; rw [hw c 6 a b (by decide) (by decide) (by decide)] at q; omega
    · rw [h0 _ (by omega)]; decide
    · rw [h0 _ (by omega), h0 _ (by omega), show zOwN (zI 64) = 0 by decide +kernel]; decide
theorem L0_lz {X : Mem} {z : Z} (h : SR X ∧ (0 ≤ X 49 0 ∧ X 49 0 ≤ 6) ∧ TL X ∧ (∀ j, X 50 j < 205) ∧ ∀ c, 205 ≤ c → X c = fun _ => 0) : SR (lz X false z) ∧ (0 ≤ lz X false z 49 0 ∧ lz X false z 49 0 ≤ 6) ∧ TL (lz X false z) := by
  obtain ⟨a, b, c, d, e⟩ := h
  have h49 : lz X false z 49 = X 49 := lz_lo (by decide)
  have h50 : lz X false z 50 = X 50 := lz_lo (by decide)
  have h95 : lz X false z 195 = X 195 := lz_lo (by decide)
  have h96 : lz X false z 196 = X 196 := lz_lo (by decide)
  refine ⟨by unfold SR; rw [h50]; exact a, by rw [h49]; omega, ?_⟩
  unfold TL
  rw [h95, h96]
  exact c
/-- a call of the class that keeps the present: what becomes of the memory -/
theorem k0_LB {X P P1 : Mem} {z : Z} (h : SR X ∧ (0 ≤ X 49 0 ∧ X 49 0 ≤ 6) ∧ TL X ∧ (∀ j, X 50 j < 205) ∧ ∀ c, 205 ≤ c → X c = fun _ => 0) : LB (ps (kM (lz X false z) P) 1 P1) ∧ lz (ps (kM (lz X false z) P) 1 P1) false z = ps (kM (lz X false z) P) 1 P1 := by
  obtain ⟨a1, a2, a3⟩ := L0_lz (z := z) h
  have hi : ∀ c, 195 ≤ c → ps (kM (lz X false z) P) 1 P1 c = lz X false z c := fun c hc => by
    rw [ps_ne (by omega)]
    funext j
    exact kM_o a2 a1 hc
  obtain ⟨b1, b2, b3, b4, b5⟩ := h
  have h49 : lz X false z 49 = X 49 := lz_lo (by decide)
  have h50 : lz X false z 50 = X 50 := lz_lo (by decide)
  generalize hn : ps (lz X false z) 1 P = n
  have n49 : n 49 = X 49 := by rw [← hn, ps_ne (by omega)]; exact h49
  have n50 : n 50 = X 50 := by rw [← hn, ps_ne (by omega)]; exact h50
  have nS : SR n := by unfold SR; rw [n50]; exact b1
  have nz : 0 ≤ n 49 0 ∧ n 49 0 ≤ 6 := by rw [n49]; omega
  have k1 := kp1_SR nS
  have k2 := kp1_s nz
  have k3 : 0 ≤ kp1 n 49 0 ∧ kp1 n 49 0 < 6 := by rw [k2]; split <;> omega
  obtain ⟨r, hr1, hr, hr2, hr3⟩ := okr_PA (k1.1 (kp1 n 49 0) k3.1 k3.2)
  have e50 : kM (lz X false z) P 50 = kp1 n 50 := by
    unfold kM kpS
    rw [hn, up_ne' (by omega), hr1]
    unfold kp2
    rw [ps_ne (by omega)]
  have e49 : kM (lz X false z) P 49 0 = kp1 n 49 0 + 1 := by
    unfold kM kpS
    rw [hn, up_at]
  have q50 : ∀ j, kp1 n 50 j < 205 := fun j => by
    unfold kp1
    split
    · unfold drM
      rw [up_ne (by omega)]
      by_cases w : j = 5
      · rw [w, up_at, n50]; exact b4 0
      · rw [up_ne (by omega)]
        unfold shS
        split
        · rw [n50]; exact b4 _
        · rw [n50]; exact b4 _
    · rw [n50]; exact b4 _
  refine ⟨⟨?_, ?_, ?_, ?_, fun c hc => ?_⟩, ?_⟩
  · have e : ps (kM (lz X false z) P) 1 P1 50 = kp1 n 50 := by rw [ps_ne (by omega), e50]
    unfold SR; rw [e]; exact k1
  · have e : ps (kM (lz X false z) P) 1 P1 49 0 = kp1 n 49 0 + 1 := by rw [ps_ne (by omega), e49]
    rw [e, k2, n49]
    split <;> omega
  · unfold TL
    rw [hi 195 (by decide), hi 196 (by decide)]
    exact a3
  · intro j
    have e : ps (kM (lz X false z) P) 1 P1 50 = kp1 n 50 := by rw [ps_ne (by omega), e50]
    rw [e]; exact q50 j
  · rw [hi c (by omega), lz_ne (fun d hd e => by
      have key : ∀ a : Fin 8, ix false a < 205 := by decide
      have k' : ix false d < 205 := key ⟨d, hd⟩
      omega)]
    exact b5 c hc
  · funext c
    by_cases w : ∃ d, d < 8 ∧ c = ix false d
    · obtain ⟨d, h1, rfl⟩ := w
      have hb := (ix_b false h1).1
      rw [lz_at h1, hi _ (by omega), lz_at h1]
    · exact lz_ne (fun d h1 h2 => w ⟨d, h1, h2⟩)
theorem m00_z {c : Nat} (h : ¬ c = 50) : m00 c = fun _ => 0 := by
  funext j
  exact if_neg h
theorem m00_50 : m00 50 = fun _ => -1 := by
  funext j
  exact if_pos rfl
theorem iniX_hi {G : GX} {c : Nat} (h : 195 ≤ c) : iniX G m00 c = fun _ => 0 := by
  unfold iniX
  rw [spM_o 6 (by omega), iniP_o (by omega), iniP_o (by omega)]
  exact m00_z (by omega)
theorem spM_50 {G : GX} {m : Mem} {b : Nat} (hb : b = 49) (hm : ∀ j, m (b + 1) j < 205) : ∀ (n : Nat), n ≤ 6 → ∀ j, spM G m b n (b + 1) j < 205
  | 0, _, j => hm j
  | n + 1, hn, j => by
    rw [spM]
    by_cases q : j = (n : Int)
    · rw [q, up_at, hb]; omega
    · rw [up_ne (by omega), iniP_o (by omega)]
      exact spM_50 hb hm n (by omega) j
theorem iniX_1 {G : GX} {d : Nat} (hd : d < 24) : iniX G m00 (1 + d) = P0 G d := by
  unfold iniX
  rw [spM_b (by omega), iniP_o (by omega), iniP_at hd]
  funext j
  exact if_neg (by omega)
theorem iniX_L0 {G : GX} : SR (iniX G m00) ∧ (0 ≤ iniX G m00 49 0 ∧ iniX G m00 49 0 ≤ 6) ∧ TL (iniX G m00) ∧ (∀ j, iniX G m00 50 j < 205) ∧ ∀ c, 205 ≤ c → iniX G m00 c = fun _ => 0 := by
  have e49 : iniX G m00 49 0 = 0 := by
    unfold iniX
    rw [spM_b (by omega), iniP_o (by omega), iniP_o (by omega)]
    rfl
  have e50 : ∀ i : Nat, i < 6 → iniX G m00 50 (i : Int) = ((49 + (2 + 24 * i) : Nat) : Int) := fun i hi => by
    unfold iniX
    exact spM_r 6 i hi
  have e5 : ∀ i : Int, 0 ≤ i → i < 6 → iniX G m00 50 i = 51 + 24 * i := fun i a b => by
    have h := e50 i.toNat (by omega)
    rw [show ((i.toNat : Nat) : Int) = i by omega] at h
    rw [h]; omega
  have e95 : iniX G m00 195 0 = 0 := by rw [iniX_hi (by omega)]
  refine ⟨⟨fun i a b => ?_, fun i j a b c => ?_⟩, by rw [e49]; decide, ⟨by rw [e95]; decide, fun j a b => by rw [e95] at b; omega⟩, fun j => ?_, fun c hc => iniX_hi (by omega)⟩
  · rw [e5 i a b]; unfold okr; omega
  · rw [e5 i a (by omega), e5 j (by omega) c]; omega
  · unfold iniX
    refine spM_50 (b := 49) rfl (fun j => ?_) 6 (by decide) j
    rw [iniP_o (by omega), iniP_o (by omega)]
    show m00 50 j < 205
    rw [m00_50]
    show (-1 : Int) < 205
    decide
theorem zI_hi0 {j : Int} (h : j < 15 ∨ (23 ≤ j ∧ j < 59) ∨ 635 ≤ j) : zI 64 j = 0 := zI_hi h
theorem LX_0 : LX (zI 64) := by
  refine ⟨fun j a b => by rw [zI_hi (by omega)]; decide, ?_, fun c a b => ?_⟩
  · unfold SB
    rw [zI_hi (by omega), zI_hi (by omega), show zPol (zI 64) 0 = 0 by decide +kernel, show zPol (zI 64) 1 = 0 by decide +kernel]
    decide
  · have f : ∀ w : Int, 0 ≤ w → w < 9 → ¬ w = 1 → zI 64 (59 + 9 * c + w) = 0 := fun w d e q => by rw [zI_c ⟨a, b⟩ ⟨d, e⟩, if_neg q]
    rw [zI_c0 ⟨a, b⟩, f 2 (by decide) (by decide) (by decide), f 4 (by decide) (by decide) (by decide), f 6 (by decide) (by decide) (by decide)]
    exact ⟨Or.inl rfl, fun _ => ⟨rfl, rfl, rfl, rfl⟩, by decide, by decide, by decide⟩
theorem LZ_0 : LZ (zI 64) := fun c a b => by
  rw [zI_c ⟨a, b⟩ (w := 3) (by decide), zI_c ⟨a, b⟩ (w := 5) (by decide), if_neg (by decide), if_neg (by decide)]
  exact ⟨fun _ => rfl, fun _ => rfl⟩
theorem NI_0 : NI (zI 64) := by
  unfold NI
  rw [zI_hi (by omega), zI_hi (by omega)]
  decide
theorem RT_0 : RT (zI 64) := fun i a b => by
  rw [zI_hi (by omega)]
  decide
theorem QP_0 {G : GX} (gf : ∀ s, 0 ≤ s → s < 8 → (gE G 0).2.2 s = zI 64 (15 + s)) : QP (lz (iniX G m00) false (zI 64)) (P0 G) (zI 64) 10000 0 0 := by
  refine ⟨?_, RR_0 gf, fun j a b => ?_, LX_0, LZ_0⟩
  · rw [lz_ps (by decide), ps_self (fun d hd => iniX_1 hd)]
  · rw [P0_z (by omega)] at b; omega
theorem us_0 {G : GX} (gf : ∀ s, 0 ≤ s → s < 8 → (gE G 0).2.2 s = zI 64 (15 + s)) {sh : List SH} (V : EV G sh) (g8 : (gE G 1).2.1 = 8) (gm : ∀ s, 0 ≤ s → s < 8 → (gE G 1).2.2 s = zMost s) : ∃ W P1, CT G sh iX7_set 0 0 [.inr (.ref 0), .inl 5, .inl 100] (lz (iniX G m00) false (zI 64)) (some (.inl 60)) (lz W false (zI 64)) ∧ LJ W P1 (u1 (zI 64) (15 + 5) 100) 0 0 0 := by
  have Q := QP_0 gf
  obtain ⟨f1, f2, f3⟩ := L0_lz (z := zI 64) (iniX_L0 (G := G))
  have hR := Q.2.1
  have hgl : (gE G 1).2.1 = 8 ∧ ∀ s, 0 ≤ s → s < 8 → 0 ≤ (gE G 1).2.2 s ∧ (gE G 1).2.2 s ≤ 100 := ⟨g8, fun s a b => by rw [gm s a b]; exact zMost_b s⟩
  have hct := ct_X7_set V (m := lz (iniX G m00) false (zI 64)) (P := P0 G) (s := 5) (v := 100) ⟨by decide, by decide⟩ ⟨by decide, by decide⟩ hgl (by decide) (by rw [gm 5 (by decide) (by decide)]; decide) f1 f2 hR.2.2.2.1.2.2.1.1
  rw [Q.1, hR.1.st 5 (by decide) (by decide), show zI 64 (15 + 5) = 60 by decide] at hct
  obtain ⟨l1, l2⟩ := k0_LB (P := P0 G) (P1 := up (P0 G) 1 5 100) (z := zI 64) (iniX_L0 (G := G))
  refine ⟨ps (kM (lz (iniX G m00) false (zI 64)) (P0 G)) 1 (up (P0 G) 1 5 100), up (P0 G) 1 5 100, by rw [l2]; exact hct, ⟨?_, R_set (by decide) (by decide) hR, CX_set Q.2.2.1, LX_u1 (by unfold LN; omega) LX_0, LZ_u1 (by unfold ZN; omega) LZ_0⟩, ?_, RT_cg RT_0 (u1_ne (by decide)) (u1_ne (by decide)), l1, ?_⟩
  · rw [lz_ps (by decide), ps_ps]
  · unfold NI
    rw [u1_ne (by decide), u1_ne (by decide)]
    exact NI_0
  · rw [u1_ne (by decide), zI_hi (by omega)]
    decide
/-! the law's own arrays at the begin -/
def z00 : Z := fun j => if 59 ≤ j ∧ j < 635 ∧ ((j - 59) % 9 = 2 ∨ (j - 59) % 9 = 4 ∨ (j - 59) % 9 = 6) then 1 else 0
def IN (i : Int) (z : Z) : Prop := (∀ j, ¬ (59 ≤ j ∧ j < 635 ∧ ((j - 59) % 9 = 1 ∨ (j - 59) % 9 = 2 ∨ (j - 59) % 9 = 4 ∨ (j - 59) % 9 = 6)) → z j = 0) ∧ ∀ k, 0 ≤ k → k < 16 → k < i → z (59 + 9 * cr k + 1) = 100 ∧ z (59 + 9 * cr k + 2) = 0 ∧ z (59 + 9 * cr k + 4) = 0 ∧ z (59 + 9 * cr k + 6) = 0
theorem IN_0 : IN 0 z00 := ⟨fun j h => by unfold z00; rw [if_neg (by omega)], fun k a b c => by omega⟩
theorem IN_s {i : Int} {z : Z} (hi : 0 ≤ i ∧ i < 16) (h : IN i z) : IN (i + 1) (u1 (u1 (u1 (u1 z (59 + 9 * cr i + 1) 100) (59 + 9 * cr i + 2) 0) (59 + 9 * cr i + 4) 0) (59 + 9 * cr i + 6) 0) := by
  have hc := cr_b hi
  have o : ∀ j, ¬ j = 59 + 9 * cr i + 1 → ¬ j = 59 + 9 * cr i + 2 → ¬ j = 59 + 9 * cr i + 4 → ¬ j = 59 + 9 * cr i + 6 → u1 (u1 (u1 (u1 z (59 + 9 * cr i + 1) 100) (59 + 9 * cr i + 2) 0) (59 + 9 * cr i + 4) 0) (59 + 9 * cr i + 6) 0 j = z j := fun j a b c d => by rw [u1_ne d, u1_ne c, u1_ne b, u1_ne a]
  refine ⟨fun j hj => by rw [o j (by omega) (by omega) (by omega) (by omega)]; exact h.1 j hj, fun k a b c => ?_⟩
  by_cases q : k = i
  · subst q
    refine ⟨?_, ?_, ?_, u1_at⟩
    · rw [u1_ne (by omega), u1_ne (by omega), u1_ne (by omega), u1_at]
    · rw [u1_ne (by omega), u1_ne (by omega), u1_at]
    · rw [u1_ne (by omega), u1_at]
  · have hk := cr_b ⟨a, b⟩
    have hn : ¬ cr k = cr i := fun e => q (cr_inj e)
    rw [o _ (by omega) (by omega) (by omega) (by omega), o _ (by omega) (by omega) (by omega) (by omega), o _ (by omega) (by omega) (by omega) (by omega), o _ (by omega) (by omega) (by omega) (by omega)]
    exact h.2 k a b (by omega)
theorem lz_cz {m : Mem} {p : Bool} {z y : Z} (h : ∀ d, d < 8 → ∀ j : Int, 0 ≤ j → j < ln d → z (zi d j) = y (zi d j)) : lz m p z = lz m p y := by
  funext c
  by_cases w : ∃ d, d < 8 ∧ c = ix p d
  · obtain ⟨d, h1, rfl⟩ := w
    rw [lz_at h1, lz_at h1]
    funext j
    unfold lr
    by_cases q : 0 ≤ j ∧ j < ln d
    · rw [if_pos q, if_pos q, h d h1 j q.1 q.2]
    · rw [if_neg q, if_neg q]
  · have w' : ∀ d, d < 8 → ¬ c = ix p d := fun d h1 h2 => w ⟨d, h1, h2⟩
    rw [lz_ne w', lz_ne w']
def zS8 (z : Z) : Z := u1 (u1 (u1 (u1 (u1 (u1 (u1 (u1 z (15 + 0) 2) (15 + 1) 4) (15 + 2) 3) (15 + 3) 5) (15 + 4) 20) (15 + 5) 60) (15 + 6) 2) (15 + 7) 10
theorem zS8_o {z : Z} {j : Int} (h : j < 15 ∨ 23 ≤ j) : zS8 z j = z j := by
  unfold zS8
  rw [u1_ne (by omega), u1_ne (by omega), u1_ne (by omega), u1_ne (by omega), u1_ne (by omega), u1_ne (by omega), u1_ne (by omega), u1_ne (by omega)]
theorem zS8_s {z : Z} {j : Int} (h : 0 ≤ j ∧ j < 8) : zS8 z (15 + j) = zI 64 (15 + j) := by
  have e : j = 0 ∨ j = 1 ∨ j = 2 ∨ j = 3 ∨ j = 4 ∨ j = 5 ∨ j = 6 ∨ j = 7 := by omega
  unfold zS8
  rcases e with rfl | rfl | rfl | rfl | rfl | rfl | rfl | rfl <;> rfl
theorem lz_zI {X : Mem} {z : Z} (h : IN 16 z) : lz X false (zS8 z) = lz X false (zI 64) := by
  refine lz_cz fun d hd j h0 h1 => ?_
  have hz : ∀ j, 23 ≤ j ∧ ¬ (59 ≤ j ∧ j < 635 ∧ ((j - 59) % 9 = 1 ∨ (j - 59) % 9 = 2 ∨ (j - 59) % 9 = 4 ∨ (j - 59) % 9 = 6)) → zS8 z j = 0 := fun j hj => by rw [zS8_o (by omega)]; exact h.1 j hj.2
  have hc : ∀ k w : Int, 0 ≤ k → k < 16 → 0 ≤ w → w < 9 → zS8 z (59 + 9 * cr k + w) = zI 64 (59 + 9 * cr k + w) := fun k w a b c d => by
    have hk := cr_b ⟨a, b⟩
    have g := h.2 k a b b
    rw [zI_c hk ⟨c, d⟩]
    have e : w = 1 ∨ w = 2 ∨ w = 4 ∨ w = 6 ∨ (¬ w = 1 ∧ ¬ w = 2 ∧ ¬ w = 4 ∧ ¬ w = 6) := by omega
    rcases e with rfl | rfl | rfl | rfl | e
    · rw [zS8_o (by omega), g.1]; rfl
    · rw [zS8_o (by omega), g.2.1]; rfl
    · rw [zS8_o (by omega), g.2.2.1]; rfl
    · rw [zS8_o (by omega), g.2.2.2]; rfl
    · rw [hz _ (by omega), if_neg (by omega)]
  have e : d = 0 ∨ d = 1 ∨ d = 2 ∨ d = 3 ∨ d = 4 ∨ d = 5 ∨ d = 6 ∨ d = 7 := by omega
  rcases e with rfl | rfl | rfl | rfl | rfl | rfl | rfl | rfl <;> simp only [ln] at h1 <;> simp only [zi]
  · exact hc _ _ (by omega) (by omega) (by omega) (by omega)
  · rw [show 59 + 9 * cr (j / 4) + 4 + j % 4 = 59 + 9 * cr (j / 4) + (4 + j % 4) by omega]
    exact hc _ _ (by omega) (by omega) (by omega) (by omega)
  · exact hc _ _ (by omega) (by omega) (by omega) (by omega)
  · rw [hz _ (by omega), zI_hi (by omega)]
  · rw [hz _ (by omega), zI_hi (by omega)]
  · rw [hz _ (by omega), zI_hi (by omega)]
  · rw [zS8_o (by omega), h.1 j (by omega), zI_hi (by omega)]
  · exact zS8_s (by omega)
theorem iniX_lz {G : GX} : iniX G m00 = lz (iniX G m00) false z00 := by
  funext c
  by_cases w : ∃ d, d < 8 ∧ c = ix false d
  · obtain ⟨d, h1, rfl⟩ := w
    have hb := ix_b false h1
    rw [lz_at h1, iniX_hi (by omega)]
    funext j
    unfold lr
    by_cases q : 0 ≤ j ∧ j < ln d
    · rw [if_pos q]
      obtain ⟨q0, q1⟩ := q
      have e : d = 0 ∨ d = 1 ∨ d = 2 ∨ d = 3 ∨ d = 4 ∨ d = 5 ∨ d = 6 ∨ d = 7 := by omega
      rcases e with rfl | rfl | rfl | rfl | rfl | rfl | rfl | rfl <;> simp only [ln] at q1 <;> simp only [zi, zo, z00] <;> (try have hk := cr_b (k := j / 4) (by omega)) <;> (try have hk2 := cr_b (k := j) (by omega)) <;> grind
    · rw [if_neg q]
  · rw [lz_ne (fun d h1 h2 => w ⟨d, h1, h2⟩)]

/-! what the law begins with: plain mathematics -/
def m00 : Mem := fun a _ => if a = 50 then -1 else 0
def P0 (G : GX) : Mem := fun d j => if d = 1 ∧ 0 ≤ j ∧ j < 8 then (gE G 0).2.2 j else if d = 4 ∧ 0 ≤ j ∧ j < 64 then 100 else if (d = 5 ∨ d = 7 ∨ d = 12) ∧ 0 ≤ j ∧ j < 64 then -1 else 0
theorem P0_z {G : GX} {d : Nat} {j : Int} (h : ¬ d = 1 ∧ ¬ d = 4 ∧ ¬ d = 5 ∧ ¬ d = 7 ∧ ¬ d = 12) : P0 G d j = 0 := by
  unfold P0; rw [if_neg (by omega), if_neg (by omega), if_neg (by omega)]
theorem P0_n {G : GX} {d : Nat} {j : Int} (h : d = 5 ∨ d = 7 ∨ d = 12) (hj : 0 ≤ j ∧ j < 64) : P0 G d j = -1 := by
  unfold P0; rw [if_neg (by omega), if_neg (by omega), if_pos ⟨h, hj⟩]
theorem P0_s {G : GX} {j : Int} (hj : 0 ≤ j ∧ j < 64) : P0 G 4 j = 100 := by
  unfold P0; rw [if_neg (by omega), if_pos ⟨rfl, hj⟩]
theorem P0_f {G : GX} {j : Int} (hj : 0 ≤ j ∧ j < 8) : P0 G 1 j = (gE G 0).2.2 j := by
  unfold P0; rw [if_pos ⟨rfl, hj⟩]
theorem iniP_at {G : GX} {m : Mem} {b d : Nat} (hd : d < 24) (h : m (b + d) = fun _ => 0) : iniP G m b (b + d) = P0 G d := by
  funext j
  have h' : m (b + d) j = 0 := congrFun h j
  unfold iniP iniD iniC cpP
  by_cases h1 : d = 1 ∧ 0 ≤ j ∧ j < 8
  · rw [if_pos (by omega), P0_f (G := G) h1.2 |>.symm, h1.1]
  · rw [if_neg (by omega)]
    by_cases h2 : d = 12 ∧ 0 ≤ j ∧ j < 64
    · rw [if_pos (by omega), P0_n (by omega) h2.2]
    · rw [if_neg (by omega)]
      by_cases h3 : d = 7 ∧ 0 ≤ j ∧ j < 64
      · rw [if_pos (by omega), P0_n (by omega) h3.2]
      · rw [if_neg (by omega)]
        by_cases h4 : d = 5 ∧ 0 ≤ j ∧ j < 64
        · rw [if_pos (by omega), P0_n (by omega) h4.2]
        · rw [if_neg (by omega)]
          by_cases h5 : d = 4 ∧ 0 ≤ j ∧ j < 64
          · rw [if_pos (by omega), h5.1, P0_s h5.2]
          · rw [if_neg (by omega), h']
            unfold P0
            rw [if_neg h1, if_neg h5, if_neg (by omega)]
theorem spM_b {G : GX} {m : Mem} {b c : Nat} (h : c ≤ b) : ∀ i, spM G m b i c = m c
  | 0 => rfl
  | i + 1 => by
    rw [spM, up_ne' (by omega), iniP_o (by omega)]
    exact spM_b h i
theorem spM_r {G : GX} {m : Mem} {b : Nat} : ∀ (n i : Nat), i < n → spM G m b n (b + 1) (i : Int) = ((b + (2 + 24 * i) : Nat) : Int)
  | 0, _, h => absurd h (Nat.not_lt_zero _)
  | n + 1, i, h => by
    rw [spM]
    by_cases q : i = n
    · rw [q, up_at]
    · rw [up_ne (by omega), iniP_o (by omega)]
      exact spM_r n i (by omega)
theorem zI_hi {j : Int} (h : j < 15 ∨ (23 ≤ j ∧ j < 59) ∨ 635 ≤ j) : zI 64 j = 0 := by
  unfold zI
  rw [if_neg (by omega), if_neg (by omega), if_neg (by omega), if_neg (by omega), if_neg (by omega), if_neg (by omega), if_neg (by omega), if_neg (by omega), if_neg (by omega)]
theorem zI_c {c w : Int} (hc : 0 ≤ c ∧ c < 64) (hw : 0 ≤ w ∧ w < 9) : zI 64 (59 + 9 * c + w) = if w = 1 then 100 else 0 := by
  unfold zI
  rw [if_neg (by omega), if_neg (by omega), if_neg (by omega), if_neg (by omega), if_neg (by omega), if_neg (by omega), if_neg (by omega), if_neg (by omega)]
  by_cases h : w = 1
  · rw [if_pos (by omega), if_pos h]
  · rw [if_neg (by omega), if_neg h]
theorem zI_c0 {c : Int} (hc : 0 ≤ c ∧ c < 64) : zI 64 (59 + 9 * c) = 0 := by
  have h := zI_c hc (w := 0) (by decide)
  rw [Int.add_zero] at h
  exact h
theorem zI_s8 {s : Int} (h : 0 ≤ s ∧ s < 8) : 0 ≤ zI 64 (15 + s) ∧ zI 64 (15 + s) ≤ 100 := by
  have e : s = 0 ∨ s = 1 ∨ s = 2 ∨ s = 3 ∨ s = 4 ∨ s = 5 ∨ s = 6 ∨ s = 7 := by omega
  rcases e with rfl | rfl | rfl | rfl | rfl | rfl | rfl | rfl <;> decide
theorem RR_0 {G : GX} (gf : ∀ s, 0 ≤ s → s < 8 → (gE G 0).2.2 s = zI 64 (15 + s)) : RR (P0 G) (zI 64) 10000 0 0 := by
  refine ⟨⟨?_, ?_, ?_, ?_, ?_, ?_, ?_, ?_, ?_, ?_, ?_, ?_, ?_, ?_, ?_, ?_, ?_, ?_, ?_, ?_, ?_, ?_, ?_⟩, ?_, ⟨⟨?_, ?_⟩, ?_⟩, ⟨?_, ?_, ⟨?_, ?_⟩, ⟨?_, ?_⟩, ?_⟩, ⟨?_, ?_, ?_, ?_, ?_, ?_, ?_⟩, ?_⟩
  · rw [P0_z (by omega), zI_hi (by omega)]
  · rw [P0_z (by omega), zI_hi (by omega)]
  · rw [P0_z (by omega), zI_hi (by omega)]
  · intro s a b; rw [P0_f ⟨a, b⟩, gf s a b]
  · intro w a b; rw [P0_z (by omega), zI_hi (by omega)]
  · rw [P0_z (by omega), zI_hi (by omega)]
  · intro c a b
    unfold cOne
    rw [P0_z (by omega), zI_c0 ⟨a, b⟩, show lo 0 = 0 from rfl, tb_0]
    rfl
  · intro c a b; rw [P0_s ⟨a, b⟩, zI_c ⟨a, b⟩ (by decide), if_pos rfl]
  · intro c a b; rw [P0_n (by omega) ⟨a, b⟩, zI_c ⟨a, b⟩ (by decide), if_neg (by decide)]; rfl
  · intro c a b q; rw [zI_c ⟨a, b⟩ (by decide), if_neg (by decide)] at q; omega
  · intro c a b; rw [P0_n (by omega) ⟨a, b⟩, zI_c ⟨a, b⟩ (by decide), if_neg (by decide)]; rfl
  · intro c a b q; rw [zI_c ⟨a, b⟩ (by decide), if_neg (by decide)] at q; omega
  · intro c a b; rw [P0_z (by omega), zI_c ⟨a, b⟩ (by decide), if_neg (by decide)]
  · rw [P0_z (by omega), zI_hi (by omega)]
  · intro t a b; rw [P0_z (by omega), zI_hi (by omega)]
  · intro t a b; rw [P0_z (by omega), zI_hi (by omega)]
  · intro t a b; rw [P0_z (by omega), zI_hi (by omega)]
  · rw [P0_z (by omega), zI_hi (by omega)]
  · intro t a b; rw [P0_z (by omega), zI_hi (by omega)]
  · intro t a b; rw [P0_z (by omega), zI_hi (by omega)]
  · intro t a b; rw [P0_z (by omega), zI_hi (by omega)]
  · intro t a b; rw [P0_z (by omega), zI_hi (by omega)]
  · intro t a b; rw [P0_z (by omega), zI_hi (by omega)]
  · intro i a b
    unfold qu
    rw [P0_z (by omega), zI_hi (by omega)]
    rfl
  · unfold dL
    rw [P0_z (by omega)]
    exact List.Pairwise.nil
  · intro c
    unfold dL
    rw [P0_z (by omega)]
    constructor
    · intro q; cases q
    · rintro ⟨q1, q2⟩; rw [zI_c q1 (by decide), if_neg (by decide)] at q2; omega
  · intro c a b; rw [P0_n (by omega) ⟨a, b⟩, zI_c ⟨a, b⟩ (by decide), if_neg (by decide)]; rfl
  · rw [P0_z (by omega)]; decide
  · rw [P0_z (by omega)]; decide
  · rw [P0_z (by omega)]; decide
  · intro j a b; rw [P0_z (by omega)] at b; omega
  · rw [P0_z (by omega)]; decide
  · intro j a b; rw [P0_z (by omega)] at b; omega
  · intro c a b; rw [P0_n (by omega) ⟨a, b⟩, P0_n (by omega) ⟨a, b⟩]; decide
  · rw [zI_hi (by omega)]; decide
  · rw [zI_hi (by omega)]; decide
  · intro j a b; rw [zI_hi (by omega)]; decide
  · intro c a b; rw [zI_c ⟨a, b⟩ (by decide), if_neg (by decide), zI_c ⟨a, b⟩ (by decide), if_neg (by decide)]; decide
  · rw [zI_hi (by omega), zI_hi (by omega), zI_hi (by omega)]; decide
  · rw [zI_hi (by omega), zI_hi (by omega), zI_hi (by omega), show zCW (zI 64) 4 = 0 by decide +kernel]; decide
  · decide
  · have hw : ∀ c w : Int, 0 ≤ c → c < 64 → 0 ≤ w → w < 9 → ¬ w = 1 → zI 64 (59 + 9 * c + w) = 0 := fun c w a b d e f => by rw [zI_c ⟨a, b⟩ ⟨d, e⟩, if_neg f]
    have h0 : ∀ j : Int, j < 15 → zI 64 j = 0 := fun j h => zI_hi (by omega)
    refine ⟨?_, by omega, ?_, fun s a b => zI_s8 ⟨a, b⟩, ?_, ?_, ?_, ?_, ?_, ?_, ?_, ?_, ?_, by omega, ?_⟩
    · rw [h0 _ (by omega)]; decide
    · rw [h0 _ (by omega)]; decide
    · intro c a b; rw [zI_c ⟨a, b⟩ (by decide), if_pos rfl]; decide
    · intro c a b; rw [hw c 2 a b (by decide) (by decide) (by decide), h0 _ (by omega)]; decide
    · intro c a b q; rw [hw c 2 a b (by decide) (by decide) (by decide)] at q; omega
    · intro c a b; rw [hw c 4 a b (by decide) (by decide) (by decide), h0 _ (by omega)]; decide
    · intro c a b q; rw [hw c 4 a b (by decide) (by decide) (by decide)] at q; omega
    · intro c a b; rw [hw c 6 a b (by decide) (by decide) (by decide)]; decide
    · intro c a b q; rw [hw c 6 a b (by decide) (by decide) (by decide)] at q; omega
    · intro c c' a b a' b' q; rw [hw c 6 a b (by decide) (by decide) (by decide)] at q; omega
    · rw [h0 _ (by omega)]; decide
    · rw [h0 _ (by omega), h0 _ (by omega), show zOwN (zI 64) = 0 by decide +kernel]; decide
def X00 (G : GX) : Mem := sz (iniX G m00) (zI 64)
theorem X00_hi {G : GX} {c : Nat} (h : 195 ≤ c) (h2 : ¬ c = 198) : X00 G c = fun _ => 0 := by
  unfold X00 iniX
  rw [sz_ne h2, spM_o 6 (by omega), iniP_o (by omega), iniP_o (by omega)]
  funext j
  exact if_neg (by omega)
theorem LW_00 {G : GX} (gf : ∀ s, 0 ≤ s → s < 8 → (gE G 0).2.2 s = zI 64 (15 + s)) : LW (X00 G) 0 0 := by
  have e49 : X00 G 49 0 = 0 := by
    unfold X00 iniX
    rw [sz_ne (by omega), spM_b (by omega), iniP_o (by omega), iniP_o (by omega)]
    rfl
  have e50 : ∀ i : Nat, i < 6 → X00 G 50 (i : Int) = ((49 + (2 + 24 * i) : Nat) : Int) := fun i hi => by
    unfold X00 iniX
    rw [sz_ne (by omega)]
    exact spM_r 6 i hi
  have e5 : ∀ i : Int, 0 ≤ i → i < 6 → X00 G 50 i = 51 + 24 * i := fun i a b => by
    have h := e50 i.toNat (by omega)
    rw [show ((i.toNat : Nat) : Int) = i by omega] at h
    rw [h]; omega
  refine ⟨P0 G, zI 64, fun d hd => ?_, rfl, RR_0 gf, fun j a b => ?_, ⟨?_, ?_, ⟨fun i a b => ?_, fun i j a b c => ?_⟩, fun j a b => ?_⟩, ⟨?_, fun j a b => ?_⟩, ⟨?_, fun j a b => ?_⟩⟩
  · unfold X00 iniX
    rw [sz_ne (by omega), spM_b (by omega), iniP_o (by omega), iniP_at hd]
    funext j
    exact if_neg (by omega)
  · rw [P0_z (by omega)] at b; omega
  · rw [e49]; decide
  · rw [e49, X00_hi (by omega) (by omega)]
  · rw [e5 i a b]; unfold okr; omega
  · rw [e5 i a (by omega), e5 j (by omega) c]; omega
  · rw [e49] at b; omega
  · rw [X00_hi (by omega) (by omega), X00_hi (by omega) (by omega)]
  · have e : X00 G 195 0 = 0 := by rw [X00_hi (by omega) (by omega)]
    rw [e] at b; omega
  · rw [X00_hi (by omega) (by omega)]; decide
  · have e : X00 G 195 0 = 0 := by rw [X00_hi (by omega) (by omega)]
    rw [e] at b; omega

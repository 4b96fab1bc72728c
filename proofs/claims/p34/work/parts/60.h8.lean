/-! plain mathematics: what the law keeps, texts -/
theorem LI_app {m P : Mem} {z : Z} {B K c : Int} (hc : 33 ≤ c ∧ c ≤ 126) (hl : m 195 0 < 60) (h : LI m P z B K) : LI (mApp (th0 (tPut m c)) c) P z B K := by
  obtain ⟨hR, hX, hs, ht, hT⟩ := h
  have hl0 := hT.1
  have f11 : th0 (tPut m c) 197 11 = m 197 11 := by unfold th0 tPut; rw [up_ne (by omega), up_ne (by omega), up_ne (by omega)]
  have no : ∀ (a : Nat) (j : Int), ¬ a = 195 → ¬ a = 196 → ¬ a = 201 → ¬ (a = 197 ∧ (j = 11 ∨ j = 12)) → mApp (th0 (tPut m c)) c a j = m a j := fun a j h1 h2 h3 h4 => by
    unfold mApp; rw [f11]; unfold th0 tPut
    rw [up_ne (by omega), up_ne (by omega), up_ne (by omega), up_ne (by omega), up_ne (by omega)]
  have g195 : mApp (th0 (tPut m c)) c 195 0 = m 195 0 + 1 := by unfold mApp th0 tPut; rw [up_ne (by omega), up_ne (by omega), up_ne (by omega), up_at]
  have g196 : ∀ j, mApp (th0 (tPut m c)) c 196 j = if j = m 195 0 then c else m 196 j := fun j => by
    unfold mApp th0 tPut
    rw [up_ne (by omega), up_ne (by omega), up_ne (by omega), up_ne (by omega)]
    by_cases q : j = m 195 0
    · rw [if_pos q, q, up_at]
    · rw [if_neg q, up_ne (by omega)]
  have g11 : mApp (th0 (tPut m c)) c 197 11 = m 197 11 + 1 := by unfold mApp; rw [up_at, f11]
  have g201 : ∀ j, mApp (th0 (tPut m c)) c 201 j = if j = m 197 11 then c else m 201 j := fun j => by
    unfold mApp
    rw [f11, up_ne (by omega)]
    by_cases q : j = m 197 11
    · rw [if_pos q, q, up_at]
    · rw [if_neg q, up_ne (by omega)]
      unfold th0 tPut
      rw [up_ne (by omega), up_ne (by omega), up_ne (by omega)]
  have e11 := ht.1
  refine ⟨hR, hX, VS_cg hs (fun a a1 a2 => funext fun j => no _ _ (by omega) (by omega) (by omega) (by omega)) (no _ _ (by omega) (by omega) (by omega) (by omega)) (fun j => no _ _ (by omega) (by omega) (by omega) (by omega)), ⟨by rw [g195, g11, e11], fun j a b => ?_⟩, ⟨by rw [g195]; omega, fun j a b => ?_⟩⟩
  · rw [g195] at b
    rw [g196, g201, ← e11]
    by_cases q : j = m 195 0
    · rw [if_pos q, if_pos q]
    · rw [if_neg q, if_neg q]; exact ht.2 j a (by omega)
  · rw [g195] at b
    rw [g196]
    by_cases q : j = m 195 0
    · rw [if_pos q]; exact hc
    · rw [if_neg q]; exact hT.2 j a (by omega)
theorem LI_clr {m P : Mem} {z : Z} {B K : Int} (h : LI m P z B K) : LI (up (th0 (up m 195 0 0)) 197 11 0) P z B K := by
  obtain ⟨hR, hX, hs, ht, hT⟩ := h
  have no : ∀ (a : Nat) (j : Int), ¬ a = 195 → ¬ (a = 197 ∧ (j = 11 ∨ j = 12)) → up (th0 (up m 195 0 0)) 197 11 0 a j = m a j := fun a j h1 h2 => by
    unfold th0; rw [up_ne (by omega), up_ne (by omega), up_ne (by omega)]
  have g195 : up (th0 (up m 195 0 0)) 197 11 0 195 0 = 0 := by unfold th0; rw [up_ne (by omega), up_ne (by omega), up_at]
  refine ⟨hR, hX, VS_cg hs (fun a a1 a2 => funext fun j => no _ _ (by omega) (by omega)) (no _ _ (by omega) (by omega)) (fun j => no _ _ (by omega) (by omega)), ⟨by rw [g195, up_at], fun j a b => ?_⟩, ⟨by rw [g195]; omega, fun j a b => ?_⟩⟩
  · rw [g195] at b; omega
  · rw [g195] at b; omega
theorem LI_run {m P Q : Mem} {z y : Z} {B K : Int} (o : Int → Int) (h : LI m P z B K) (hR : RR Q y 10000 (B + 32) K) (hX : CX Q) (hB : B + 32 ≤ 1000000) : LI (up (so (zRnM z (up (kM m P) 195 0 0)) o) 197 11 0) Q y (B + 32) K := by
  obtain ⟨hR0, hX0, hs, ht, hT⟩ := h
  have hK := hR.2.2.2.2.1.2.2.2.2.2.2
  have k1 : ∀ (a : Nat) (j : Int), 195 ≤ a → kM m P a j = m a j := fun a j ha => kM_o hs.1 hs.2.2.1 ha
  have v := VS_mono (B' := B + 32) (K' := K) (by omega) hB (Int.le_refl _) hK (VS_keep hs hR0 hX0)
  have p1 : ∀ (a : Nat) (j : Int), ¬ a = 202 → ¬ a = 203 → ¬ a = 204 → ¬ (a = 197 ∧ (j = 8 ∨ j = 9 ∨ j = 12)) → ¬ (a = 195 ∧ j = 0) → pScn (th0 (up (kM m P) 195 0 0)) a j = kM m P a j := fun a j h1 h2 h3 h4 h5 => by
    rw [pScn_o (by omega)]; unfold th0; rw [up_ne (by omega), up_ne h5]
  have c := zSv_cg (z := z) (A := pScn (th0 (up (kM m P) 195 0 0))) (C := m) (by rw [p1 _ _ (by omega) (by omega) (by omega) (by omega) (by omega), k1 _ _ (by omega)]) (by funext j; rw [p1 _ _ (by omega) (by omega) (by omega) (by omega) (by omega), k1 _ _ (by omega)])
  have n1 : ∀ (a : Nat) (j : Int), ¬ a = 205 → ¬ (a = 197 ∧ j = 11) → up (so (zRnM z (up (kM m P) 195 0 0)) o) 197 11 0 a j = zRnM z (up (kM m P) 195 0 0) a j := fun a j h1 h2 => by rw [up_ne h2, so_o h1]
  have g195 : up (so (zRnM z (up (kM m P) 195 0 0)) o) 197 11 0 195 0 = 0 := by
    rw [n1 _ _ (by omega) (by omega)]
    unfold zRnM
    rw [zSv_o (by omega) (by omega), pScn_o (by omega)]
    unfold th0
    rw [up_ne (by omega), up_at]
  refine ⟨hR, hX, VS_cg v (fun a a1 a2 => funext fun j => ?_) ?_ (fun j => ?_), ⟨by rw [g195, up_at], fun j a b => ?_⟩, ⟨by rw [g195]; omega, fun j a b => ?_⟩⟩
  · rw [n1 _ _ (by omega) (by omega)]
    unfold zRnM
    rw [zSv_o (by omega) (by omega), p1 _ _ (by omega) (by omega) (by omega) (by omega) (by omega)]
  · rw [n1 _ _ (by omega) (by omega)]; exact c.1
  · rw [n1 _ _ (by omega) (by omega)]; exact congrFun c.2 j
  · rw [g195] at b; omega
  · rw [g195] at b; omega

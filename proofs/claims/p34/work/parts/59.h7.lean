/-! plain mathematics: what the law keeps -/
def LI (m P : Mem) (z : Z) (B K : Int) : Prop := RR P z 10000 B K ∧ CX P ∧ VS m m 10000 B K ∧ TT m m ∧ TL m
theorem LI_TX {m P : Mem} {z : Z} {B K : Int} (h : LI m P z B K) : TX m := by
  obtain ⟨_, _, _, ht, hT⟩ := h
  refine ⟨by rw [← ht.1]; exact hT.1, fun j a b => ?_⟩
  rw [← ht.1] at b
  rw [← ht.2 j a b]; exact hT.2 j a b
theorem LI_cg {m n P : Mem} {z : Z} {B K : Int} (h : LI m P z B K) (h1 : ∀ a, 49 ≤ a → a < 197 → n a = m a) (h2 : n 197 10 = m 197 10) (h3 : n 197 11 = m 197 11) (h4 : n 200 = m 200) (h5 : n 201 = m 201) : LI n P z B K := by
  obtain ⟨hR, hX, hs, ht, hT⟩ := h
  have e195 := h1 195 (by decide) (by decide)
  have e196 := h1 196 (by decide) (by decide)
  refine ⟨hR, hX, VS_cg hs (fun a a1 a2 => h1 a a1 (by omega)) h2 (fun j => by rw [h4]), ⟨by rw [e195, h3]; exact ht.1, fun j a b => by rw [e195] at b; rw [e196, h5]; exact ht.2 j a b⟩, ?_⟩
  unfold TL at *
  rw [e195, e196]; exact hT
theorem zSv_cg {z : Z} {A C : Mem} (h1 : A 197 10 = C 197 10) (h2 : A 200 = C 200) : zSv z A 197 10 = zSv z C 197 10 ∧ zSv z A 200 = zSv z C 200 := by
  have a1 : zSvA A 197 10 = zSvA C 197 10 := by
    unfold zSvA
    rw [h1]
    by_cases q : C 197 10 = 6
    · rw [if_pos q, if_pos q, up_at, up_at]
    · rw [if_neg q, if_neg q, h1]
  have a2 : zSvA A 200 = zSvA C 200 := by
    unfold zSvA
    rw [h1]
    by_cases q : C 197 10 = 6
    · rw [if_pos q, if_pos q, up_ne' (by decide), up_ne' (by decide)]
      funext j; unfold shA; rw [h2]
    · rw [if_neg q, if_neg q, h2]
  unfold zSv
  refine ⟨by rw [up_at, up_at, a1], ?_⟩
  rw [up_ne' (by decide), up_ne' (by decide)]
  funext j; unfold shB; rw [a1, a2]
/-- a call that keeps the present ahead of its change -/
theorem LI_save {m P Q : Mem} {z y : Z} {B K B' K' : Int} (h : LI m P z B K) (hR : RR Q y 10000 B' K') (hX : CX Q) (hB : B ≤ B') (hB2 : B' ≤ 1000000) (hK : K ≤ K') (hK2 : K' ≤ 512) : LI (zSv z (th0 (kM m P))) Q y B' K' := by
  obtain ⟨hR0, hX0, hs, ht, hT⟩ := h
  have k1 : ∀ (a : Nat) (j : Int), 195 ≤ a → kM m P a j = m a j := fun a j ha => kM_o hs.1 hs.2.2.1 ha
  have v := VS_mono hB hB2 hK hK2 (VS_keep hs hR0 hX0)
  have c := zSv_cg (z := z) (A := th0 (kM m P)) (C := m) (by unfold th0; rw [up_ne (by omega), k1 _ _ (by omega)]) (by funext j; unfold th0; rw [up_ne (by omega), k1 _ _ (by omega)])
  have no : ∀ (a : Nat) (j : Int), ¬ a = 200 → ¬ (a = 197 ∧ (j = 10 ∨ j = 12)) → zSv z (th0 (kM m P)) a j = kM m P a j := fun a j h1 h2 => by
    rw [zSv_o h1 (by omega)]; unfold th0; rw [up_ne (by omega)]
  have e195 : ∀ j, zSv z (th0 (kM m P)) 195 j = m 195 j := fun j => by rw [no _ _ (by omega) (by omega), k1 _ _ (by omega)]
  have e196 : ∀ j, zSv z (th0 (kM m P)) 196 j = m 196 j := fun j => by rw [no _ _ (by omega) (by omega), k1 _ _ (by omega)]
  refine ⟨hR, hX, VS_cg v (fun a a1 a2 => funext fun j => no _ _ (by omega) (by omega)) c.1 (fun j => by rw [c.2]), ⟨?_, fun j a b => ?_⟩, ?_⟩
  · rw [e195, no _ _ (by omega) (by omega), k1 _ _ (by omega)]; exact ht.1
  · rw [e195] at b
    rw [e196, no _ _ (by omega) (by omega), k1 _ _ (by omega)]; exact ht.2 j a b
  · unfold TL at *
    rw [e195]
    exact ⟨hT.1, fun j a b => by rw [e196]; exact hT.2 j a b⟩
theorem LI_undo {m P : Mem} {z : Z} {B K : Int} (hs : 0 < m 49 0) (h : LI m P z B K) : LI (up (th0 (up m 49 0 (m 49 0 - 1))) 197 10 (m 49 0 - 1)) (bcP P (pg m (uR m))) (zUn m z) B K := by
  obtain ⟨hR0, hX0, hv, ht, hT⟩ := h
  obtain ⟨r1, r2, r3⟩ := VS_undo (z := z) (P := P) hs hv
  have e10 := hv.2.1
  have no : ∀ (a : Nat) (j : Int), ¬ (a = 49 ∧ j = 0) → ¬ (a = 197 ∧ (j = 10 ∨ j = 12)) → up (th0 (up m 49 0 (m 49 0 - 1))) 197 10 (m 49 0 - 1) a j = m a j := fun a j h1 h2 => by
    unfold th0; rw [up_ne (by omega), up_ne (by omega), up_ne h1]
  refine ⟨r1, r2, VS_cg r3 (fun a a1 a2 => ?_) ?_ (fun j => ?_), ⟨?_, fun j a b => ?_⟩, ?_⟩
  · unfold th0; rw [up_ne' (by omega), up_ne' (by omega)]
  · rw [up_at, up_at, ← e10]
  · rw [no _ _ (by omega) (by omega), up_ne (by omega)]
  · rw [no _ _ (by omega) (by omega), no _ _ (by omega) (by omega)]; exact ht.1
  · rw [no _ _ (by omega) (by omega)] at b
    rw [no _ _ (by omega) (by omega), no _ _ (by omega) (by omega)]; exact ht.2 j a b
  · unfold TL at *
    rw [no _ _ (by omega) (by omega)]
    exact ⟨hT.1, fun j a b => by rw [no _ _ (by omega) (by omega)]; exact hT.2 j a b⟩

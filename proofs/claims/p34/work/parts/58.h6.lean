/-! plain mathematics: run -/
theorem TT_kM {m M P : Mem} {T B K : Int} (hs : VS m M T B K) (h : TT m M) : TT (kM m P) M := by
  have e : ∀ (a : Nat) (j : Int), 195 ≤ a → kM m P a j = m a j := fun a j ha => kM_o hs.1 hs.2.2.1 ha
  exact ⟨by rw [e _ _ (by omega)]; exact h.1, fun j a b => by rw [e _ _ (by omega)] at b ⊢; exact h.2 j a b⟩
theorem q_run {m M P : Mem} {z : Z} {B K t : Int} (ht : 0 ≤ t ∧ t < 6) (hT : TL m) (htt : TT m M) (hs : VS m M 10000 B K) (h : RR P z 10000 B K) (hX : CX P) (hB : B + 32 ≤ 1000000) (ho : tOk m = true) :
    (cRun m P t).2 = (zRun z M t).2 ∧ RR (cRun m P t).1 (zRun z M t).1.1 10000 (B + 32) K ∧ CX (cRun m P t).1 ∧
    (∀ n, 0 ≤ n → n < zRnM z M 197 8 → (0 ≤ zRnM z M 203 n ∧ zRnM z M 203 n < 64) ∧ (0 ≤ zRnM z M 202 n ∧ zRnM z M 202 n ≤ 3) ∧ 0 ≤ zRnM z M 204 n ∧ zRnM z M 204 n ≤ 9) ∧ 0 ≤ zRnM z M 197 8 ∧ zRnM z M 197 8 ≤ 32 := by
  have hT2 : TL (kM m P) := TL_kM hs.1 hs.2.2.1 hT
  have tt2 : TT (kM m P) (th0 M) := TT_th (TT_kM hs htt)
  have e195 : kM m P 195 0 = m 195 0 := kM_o hs.1 hs.2.2.1 (by omega)
  have ho2 : tOk (kM m P) = true := (q_ok hT2 tt2).mpr (by rw [e195]; exact (q_ok hT (TT_th htt)).mp ho)
  obtain ⟨e, e1, e2, e3, e4⟩ := q_entries hT2 tt2 ho2
  have n8 : zRnM z M 197 8 = e := by unfold zRnM; rw [zSv_o (by omega) (by omega)]; exact e1
  have no : ∀ (a : Nat) (j : Int), a = 202 ∨ a = 203 ∨ a = 204 → zRnM z M a j = pScn (th0 M) a j := fun a j ha => by unfold zRnM; rw [zSv_o (by omega) (by omega)]
  have hN : ∀ n : Nat, n < e → EN (kM m P) (zRnM z M) n (pq (kM m P) n) := fun n hn => EN_cg (e4 n hn) (no _ _ (by omega)) (no _ _ (by omega)) (no _ _ (by omega))
  have r := R_run (K := K) ht n8 hN e2 e 0 60 32 P (z, M 205) (B := B) (by omega) (by omega) (by omega) (by omega) h hX
  have r2 : (cRun m P t).2 = (zRun z M t).2 ∧ RR (cRun m P t).1 (zRun z M t).1.1 10000 (B + e) K ∧ CX (cRun m P t).1 := r
  refine ⟨r2.1, RR_mono (by omega) hB (Int.le_refl _) h.2.2.2.2.1.2.2.2.2.2.2 r2.2.1, r2.2.2, fun n a b => ?_, by omega, by omega⟩
  obtain ⟨n, rfl⟩ : ∃ x : Nat, n = x := ⟨n.toNat, by omega⟩
  obtain ⟨⟨c1, c2⟩, c3⟩ := hN n (by omega)
  exact ⟨c1, by omega, c2⟩

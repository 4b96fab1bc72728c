/-! the model: pulses, write-backs, ticks -/
theorem cnt_le {p p' : Int → Bool} (h : ∀ e, p' e = true → p e = true) : ∀ (d : Nat) (c n n' : Int), n' ≤ n → cntF p' d c n' ≤ cntF p d c n := by
  intro d
  induction d with
  | zero => intro c n n' hn; exact hn
  | succ d ih =>
    intro c n n' hn
    simp only [cntF]
    refine ih _ _ _ ?_
    have h1 := bI_01 (p c)
    cases hp : p' c with
    | false => simp only [bI] at h1 ⊢; simp; split at h1 <;> simp_all <;> omega
    | true => rw [h c hp]; omega
theorem WI_mn {z z' : Z} {K : Int} (h : WI z K) (e2 : z' 2 = z 2) (e3 : z' 3 = z 3) (hq : QE z') (hc : ∀ c, 0 ≤ c → c < 64 → (0 ≤ z' (59 + 9 * c + 2) ∧ z' (59 + 9 * c + 2) ≤ 6) ∧ (z' (59 + 9 * c + 4) = z (59 + 9 * c + 4) ∨ z' (59 + 9 * c + 4) = 0)) (hw : 0 ≤ z' 46 ∧ z' 46 ≤ z 46 ∧ 0 ≤ z' 52 ∧ z' 52 ≤ z 52 ∧ 0 ≤ z' 58 ∧ z' 58 ≤ z 58) : WI z' K := by
  obtain ⟨a, b, c, d, e, f, g⟩ := h
  refine ⟨by omega, by omega, hq, fun c h1 h2 => ?_, by omega, ?_, g⟩
  · have := hc c h1 h2
    have := d c h1 h2
    omega
  · have : zCW z' 4 ≤ zCW z 4 := by
      have e1 : zCW z' 4 = cntF (fun c => decide (0 < wr (z' (59 + 9 * c + 4))) && decide (0 ≤ c ∧ c < 64)) 64 0 0 := cnt_cg 64 0 0 (fun e h1 h2 => by simp [show 0 ≤ e ∧ e < 64 by omega])
      rw [e1]
      refine cnt_le (fun e he => ?_) 64 0 0 0 (Int.le_refl _)
      simp only [Bool.and_eq_true, decide_eq_true_eq] at he
      rcases (hc e he.2.1 he.2.2).2 with q | q
      · rw [q] at he; simpa using he.1
      · rw [q] at he; exact absurd he.1 (by decide)
    omega
def zPd (z : Z) (c : Int) : Z := u1 (u1 z (59 + 9 * c + 0) 0) 9 (u1 z (59 + 9 * c + 0) 0 9 + 1)
def zPuF (k : Int) : Nat → Int → Z → Z
  | 0, _, z => z
  | d + 1, c, z => zPuF k d (c + 1) (if (zLin k c && zWk z c) = true then zLo (zPd z c) c else z)
theorem zPu_t {k : Int} {d : Nat} {c : Int} {z : Z} (h1 : zLin k c = true) (h2 : zWk z c = true) : zPuF k d (c + 1) (zLo (zPd z c) c) = zPuF k (d + 1) c z := by rw [zPuF, if_pos (by rw [h1, h2]; rfl)]
theorem zPu_f1 {k : Int} {d : Nat} {c : Int} {z : Z} (h1 : zLin k c = false) : zPuF k d (c + 1) z = zPuF k (d + 1) c z := by rw [zPuF, if_neg (by rw [h1]; simp)]
theorem zPu_f2 {k : Int} {d : Nat} {c : Int} {z : Z} (h1 : zWk z c = false) : zPuF k d (c + 1) z = zPuF k (d + 1) c z := by rw [zPuF, if_neg (by rw [h1]; simp)]
theorem WI_pd {z : Z} {K c : Int} (hc : 0 ≤ c ∧ c < 64) (h : WI z K) : WI (zPd z c) K := WI_u1 (by unfold NW; omega) (WI_u1 (by unfold NW; omega) h)
theorem WI_puF {K k : Int} : ∀ (d : Nat) (c : Int) (z : Z), c + d = 64 → 0 ≤ c → WI z K → WI (zPuF k d c z) K := by
  intro d
  induction d with
  | zero => intro c z _ _ h; exact h
  | succ d ih =>
    intro c z h1 h2 h
    rw [zPuF]
    refine ih _ _ (by omega) (by omega) ?_
    split
    · exact WI_lo ⟨h2, by omega⟩ (WI_pd ⟨h2, by omega⟩ h)
    · exact h
def zPul (z : Z) (k b : Int) : Z := u1 (zPuF k 64 0 (u1 z (59 + 9 * k + 1) (zWorn z k))) 1 (zHeat (zPuF k 64 0 (u1 z (59 + 9 * k + 1) (zWorn z k))) b)
theorem WI_pul {z : Z} {K k b : Int} (hk : 0 ≤ k ∧ k < 64) (h : WI z K) : WI (zPul z k b) K := WI_u1 (by unfold NW; omega) (WI_puF 64 0 _ (by omega) (by omega) (WI_u1 (by unfold NW; omega) h))
theorem nb {b : Bool} (h : b = false) : ¬ b = true := by rw [h]; simp
theorem bff {b : Bool} (h : ¬ b = true) : b = false := by cases b; rfl; exact absurd rfl h
def zWr2 (z : Z) (c b : Int) : Z := u1 z (59 + 9 * c + 0) (if wr (z (59 + 9 * c + 1)) < wr (z (15 + 4)) then 0 else b)
def zWr3 (z : Z) (c : Int) : Z := if zOw z c = true then u1 (u1 z (59 + 9 * c + 6) 0) 10 (u1 z (59 + 9 * c + 6) 0 10 + 1) else z
def zWr (z : Z) (c b : Int) : Z := zWr3 (zWr2 (zPul z c (z (15 + 1))) c b) c
def zRd1 (z : Z) (c : Int) : Z := u1 (zPul z c (z (15 + 2))) 4 (zPul z c (z (15 + 2)) 4 + 1)
def zRd2 (z : Z) (c : Int) : Z :=
  let z1 := u1 z (59 + 9 * c + 0) 0
  let z2 := u1 z1 (59 + 9 * c + 6) (z1 0 + z1 (15 + 3) + 1)
  let z3 := u1 z2 (59 + 9 * c + 7) (z2 14)
  let z4 := u1 z3 14 (z3 14 + 1)
  u1 z4 5 (z4 5 + 1)
def zRd (z : Z) (c : Int) : Z := if wr (zRd1 z c (59 + 9 * c + 0)) = 1 then zRd2 (zRd1 z c) c else zRd1 z c
theorem WI_wr {z : Z} {K c b : Int} (hc : 0 ≤ c ∧ c < 64) (h : WI z K) : WI (zWr z c b) K := by
  have h1 : WI (zWr2 (zPul z c (z (15 + 1))) c b) K := WI_u1 (by unfold NW; omega) (WI_pul hc h)
  unfold zWr zWr3
  split
  · exact WI_u1 (by unfold NW; omega) (WI_u1 (by unfold NW; omega) h1)
  · exact h1
theorem WI_rd {z : Z} {K c : Int} (hc : 0 ≤ c ∧ c < 64) (h : WI z K) : WI (zRd z c) K := by
  have h1 : WI (zRd1 z c) K := WI_u1 (by unfold NW; omega) (WI_pul hc h)
  unfold zRd
  split
  · exact WI_u1 (by unfold NW; omega) (WI_u1 (by unfold NW; omega) (WI_u1 (by unfold NW; omega) (WI_u1 (by unfold NW; omega) (WI_u1 (by unfold NW; omega) h1))))
  · exact h1
def so (m : Mem) (o : Int → Int) : Mem := fun k => if k = 205 then o else m k
theorem so_at {m : Mem} {o : Int → Int} : so m o 205 = o := rfl
theorem up_so {m : Mem} {o : Int → Int} {i v : Int} : up (so m o) 205 i v = so m (u1 o i v) := by
  funext k j
  unfold up so u1
  by_cases h : k = 205
  · subst h
    by_cases h2 : j = i <;> simp [h2]
  · simp [h]
theorem so_self {m : Mem} : so m (m 205) = m := by
  funext k
  unfold so
  by_cases h : k = 205
  · simp [h]
  · simp [h]
theorem so_so {m : Mem} {a b : Int → Int} : so (so m a) b = so m b := by
  funext k
  unfold so
  by_cases h : k = 205
  · simp [h]
  · simp [h]
/-- an owed core put into the order -/
def zInF (z : Z) (c : Int) : Nat → (Int → Int) → (Int → Int)
  | 0, o => u1 o 0 c
  | k + 1, o => if zAhead z c (o (k : Int)) = true then zInF z c k (u1 o ((k + 1 : Nat) : Int) (o (k : Int))) else u1 o ((k + 1 : Nat) : Int) c
def zLaF (z : Z) : Nat → Int → Nat → (Int → Int) → (Int → Int) × Nat
  | 0, _, n, o => (o, n)
  | d + 1, c, n, o => if zOw z c = true then zLaF z d (c + 1) (n + 1) (zInF z c n o) else zLaF z d (c + 1) n o
def zOrd (z : Z) (o : Int → Int) : Int → Int := (zLaF z 64 0 0 o).1
def zOrN (z : Z) (o : Int → Int) : Int := ((zLaF z 64 0 0 o).2 : Int)
/-- the first n of an order are cores -/
def OE (o : Int → Int) (n : Nat) : Prop := ∀ j : Int, 0 ≤ j → j < n → 0 ≤ o j ∧ o j < 64
theorem OE_in {z : Z} {c : Int} (hc : 0 ≤ c ∧ c < 64) : ∀ (k : Nat) (o : Int → Int), (∀ j : Int, 0 ≤ j → j < k → 0 ≤ o j ∧ o j < 64) → ∀ j : Int, 0 ≤ j → j < k + 1 → 0 ≤ zInF z c k o j ∧ zInF z c k o j < 64 := by
  intro k
  induction k with
  | zero => intro o h j h1 h2; rw [zInF, show j = 0 by omega, u1_at]; exact hc
  | succ k ih =>
    intro o h j h1 h2
    rw [zInF]
    split
    · by_cases hj : j < k + 1
      · refine ih _ (fun i h3 h4 => ?_) j h1 hj
        rw [u1_ne (by omega)]; exact h i h3 (by omega)
      · have : ∀ (k : Nat) (o : Int → Int) (j : Int), (k : Int) < j → zInF z c k o j = o j := by
          intro k
          induction k with
          | zero => intro o j hj; rw [zInF, u1_ne (by omega)]
          | succ k ih =>
            intro o j hj
            rw [zInF]
            split
            · rw [ih _ _ (by omega), u1_ne (by omega)]
            · rw [u1_ne (by omega)]
        rw [this k _ j (by omega), show j = ((k + 1 : Nat) : Int) by omega, u1_at]
        exact h _ (by omega) (by omega)
    · by_cases hj : j = ((k + 1 : Nat) : Int)
      · rw [hj, u1_at]; exact hc
      · rw [u1_ne hj]; exact h j h1 (by omega)
theorem zLa_b (z : Z) : ∀ (d : Nat) (c : Int) (n : Nat) (o : Int → Int), 0 ≤ c → c + d = 64 → (n : Int) ≤ c → OE o n → OE (zLaF z d c n o).1 (zLaF z d c n o).2 ∧ (zLaF z d c n o).2 ≤ 64 := by
  intro d
  induction d with
  | zero => intro c n o h0 h1 h2 h3; exact ⟨h3, by show n ≤ 64; omega⟩
  | succ d ih =>
    intro c n o h0 h1 h2 h3
    rw [zLaF]
    split
    · exact ih _ _ _ (by omega) (by omega) (by omega) (OE_in ⟨h0, by omega⟩ n o h3)
    · exact ih _ _ _ (by omega) (by omega) (by omega) h3
theorem zOr_b (z : Z) (o : Int → Int) : OE (zOrd z o) (zOrN z o).toNat ∧ 0 ≤ zOrN z o ∧ zOrN z o ≤ 64 := by
  have h := zLa_b z 64 0 0 o (by omega) (by omega) (by omega) (fun j h1 h2 => by omega)
  unfold zOrd zOrN
  exact ⟨by simpa using h.1, by omega, by omega⟩
theorem j_cg {G : GX} {sh : List SH} {M : MI} {mc ms : Nat} {F : FinT} {pc : Nat} {L L' : List (Option PV)} {S S' : List PV} {m m' : Mem} {k n : Nat} (hL : L = L') (hS : S = S') (hm : m = m') (kk : J G sh M mc ms F pc L' S' m' k n) : J G sh M mc ms F pc L S m k n := by subst hL; subst hS; subst hm; exact kk
def zInM (z : Z) (c : Int) : Nat → Mem → Mem
  | 0, m => up m 205 ((0 : Nat) : Int) c
  | k + 1, m => if zAhead z c (m 205 (k : Int)) = true then zInM z c k (up m 205 ((k + 1 : Nat) : Int) (m 205 (k : Int))) else up m 205 ((k + 1 : Nat) : Int) c
def zLaM (z : Z) : Nat → Int → Nat → Mem → Mem × Nat
  | 0, _, n, m => (m, n)
  | d + 1, c, n, m => if zOw z c = true then zLaM z d (c + 1) (n + 1) (zInM z c n m) else zLaM z d (c + 1) n m
theorem up_so' {m : Mem} {i v : Int} : up m 205 i v = so m (u1 (m 205) i v) := by rw [← up_so, so_self]
theorem zInM_so (z : Z) (c : Int) : ∀ (k : Nat) (m : Mem), zInM z c k m = so m (zInF z c k (m 205)) := by
  intro k
  induction k with
  | zero => intro m; rw [zInM, zInF, up_so']; rfl
  | succ k ih =>
    intro m
    rw [zInM, zInF]
    split
    · rw [ih, up_so', so_so]; rfl
    · rw [up_so']
theorem zLaM_so (z : Z) : ∀ (d : Nat) (c : Int) (n : Nat) (m : Mem), (zLaM z d c n m).1 = so m (zLaF z d c n (m 205)).1 ∧ (zLaM z d c n m).2 = (zLaF z d c n (m 205)).2 := by
  intro d
  induction d with
  | zero => intro c n m; exact ⟨so_self.symm, rfl⟩
  | succ d ih =>
    intro c n m
    rw [zLaM, zLaF]
    split
    · have h := ih (c + 1) (n + 1) (zInM z c n m)
      rw [zInM_so] at h ⊢
      rw [so_so] at h
      exact h
    · exact ih _ _ _
theorem zInM_o {z : Z} {c : Int} {k : Nat} {m : Mem} : zInM z c k m 205 = zInF z c k (m 205) := by rw [zInM_so]; rfl
def zWbA (z : Z) (c : Int) : Z := zPul (u1 z (59 + 9 * c + 6) 0) c (u1 z (59 + 9 * c + 6) 0 (15 + 1))
def zWb (z : Z) (c : Int) : Z :=
  if wr (zWbA z c (15 + 4)) ≤ wr (zWbA z c (59 + 9 * c + 1)) then u1 (u1 (zWbA z c) (59 + 9 * c + 0) 1) 6 (u1 (zWbA z c) (59 + 9 * c + 0) 1 6 + 1)
  else zLo (u1 (zWbA z c) 7 (zWbA z c 7 + 1)) c
theorem WI_wbA {z : Z} {K c : Int} (hc : 0 ≤ c ∧ c < 64) (h : WI z K) : WI (zWbA z c) K := WI_pul hc (WI_u1 (by unfold NW; omega) h)
theorem WI_wb {z : Z} {K c : Int} (hc : 0 ≤ c ∧ c < 64) (h : WI z K) : WI (zWb z c) K := by
  have h1 := WI_wbA hc h
  unfold zWb
  split
  · exact WI_u1 (by unfold NW; omega) (WI_u1 (by unfold NW; omega) h1)
  · exact WI_lo hc (WI_u1 (by unfold NW; omega) h1)
def zEp1 (z : Z) (c : Int) : Z :=
  let z1 := u1 z (59 + 9 * c + 5) (z (59 + 9 * c + 5) - 1)
  u1 z1 (59 + 9 * c + 4) (if wr (z1 (59 + 9 * c + 5)) = 0 then 0 else z1 (59 + 9 * c + 4))
def zEp (z : Z) (c : Int) : Z := if 0 < wr (z (59 + 9 * c + 4)) then zEp1 z c else z
def zEpF : Nat → Int → Z → Z
  | 0, _, z => z
  | d + 1, c, z => zEpF d (c + 1) (zEp z c)
def zEl1 (z : Z) (c : Int) : Z := u1 z (59 + 9 * c + 3) (z (59 + 9 * c + 3) - 1)
def zEl2 (z : Z) (c : Int) : Z :=
  let z2 := u1 z (59 + 9 * c + 2) 0
  u1 (u1 z2 11 (z2 11 + bI (zOw z2 c))) (59 + 9 * c + 6) 0
def zEl (z : Z) (c : Int) : Z := if zLs z c = true then (if wr (zEl1 z c (59 + 9 * c + 3)) = 0 then zEl2 (zEl1 z c) c else zEl1 z c) else z
def zElF : Nat → Int → Z → Z
  | 0, _, z => z
  | d + 1, c, z => zElF d (c + 1) (zEl z c)
theorem WI_ep {z : Z} {K c : Int} (hc : 0 ≤ c ∧ c < 64) (h : WI z K) : WI (zEp z c) K := by
  unfold zEp
  split
  · have h1 : WI (u1 z (59 + 9 * c + 5) (z (59 + 9 * c + 5) - 1)) K := WI_u1 (by unfold NW; omega) h
    have hw := h1.2.2.2.2.1
    refine WI_mn h1 (u1_ne (by omega)) (u1_ne (by omega)) (fun k q1 q2 => by rw [zEp1, u1_ne (by omega)]; exact h1.2.2.1 k q1 q2) (fun e q1 q2 => ?_) ?_
    · have hd := h1.2.2.2.1 e q1 q2
      have e1 : zEp1 z c (59 + 9 * e + 2) = u1 z (59 + 9 * c + 5) (z (59 + 9 * c + 5) - 1) (59 + 9 * e + 2) := u1_ne (by omega)
      refine ⟨by rw [e1]; exact hd.1, ?_⟩
      by_cases he : e = c
      · subst he
        rw [zEp1, u1_at]
        split
        · exact Or.inr rfl
        · exact Or.inl rfl
      · exact Or.inl (u1_ne (by omega))
    · have e0 : ∀ j, j < 59 → zEp1 z c j = u1 z (59 + 9 * c + 5) (z (59 + 9 * c + 5) - 1) j := fun j hj => by rw [zEp1, u1_ne (by omega)]
      rw [e0 46 (by omega), e0 52 (by omega), e0 58 (by omega)]; omega
  · exact h
theorem WI_el {z : Z} {K c : Int} (hc : 0 ≤ c ∧ c < 64) (h : WI z K) : WI (zEl z c) K := by
  unfold zEl
  split
  · have h1 : WI (zEl1 z c) K := WI_u1 (by unfold NW; omega) h
    split
    · have hw := h1.2.2.2.2.1
      have e0 : ∀ j, ¬ j = 11 → ¬ j = 59 + 9 * c + 2 → ¬ j = 59 + 9 * c + 6 → zEl2 (zEl1 z c) c j = zEl1 z c j := fun j a b d => by
        rw [zEl2, u1_ne (by omega), u1_ne (by omega), u1_ne (by omega)]
      refine WI_mn h1 (e0 _ (by omega) (by omega) (by omega)) (e0 _ (by omega) (by omega) (by omega)) (fun k q1 q2 => by rw [e0 _ (by omega) (by omega) (by omega)]; exact h1.2.2.1 k q1 q2) (fun e q1 q2 => ⟨?_, Or.inl (e0 _ (by omega) (by omega) (by omega))⟩) ?_
      · have hd := h1.2.2.2.1 e q1 q2
        by_cases he : e = c
        · subst he
          rw [zEl2, u1_ne (by omega), u1_ne (by omega), u1_at]; omega
        · rw [e0 _ (by omega) (by omega) (by omega)]; exact hd.1
      · rw [e0 _ (by omega) (by omega) (by omega), e0 _ (by omega) (by omega) (by omega), e0 _ (by omega) (by omega) (by omega)]; omega
    · exact h1
  · exact h
theorem WI_epF {K : Int} : ∀ (d : Nat) (c : Int) (z : Z), c + d = 64 → 0 ≤ c → WI z K → WI (zEpF d c z) K := by
  intro d
  induction d with
  | zero => intro c z _ _ h; exact h
  | succ d ih => intro c z h1 h2 h; exact ih _ _ (by omega) (by omega) (WI_ep ⟨h2, by omega⟩ h)
theorem WI_elF {K : Int} : ∀ (d : Nat) (c : Int) (z : Z), c + d = 64 → 0 ≤ c → WI z K → WI (zElF d c z) K := by
  intro d
  induction d with
  | zero => intro c z _ _ h; exact h
  | succ d ih => intro c z h1 h2 h; exact ih _ _ (by omega) (by omega) (WI_el ⟨h2, by omega⟩ h)
def zLtF (o : Int → Int) : Nat → Int → Z → Z
  | 0, _, z => z
  | d + 1, k, z => zLtF o d (k + 1) (if wr (z (59 + 9 * o k + 6) - 1) < wr (z 0) then zLo (u1 (u1 z (59 + 9 * o k + 6) 0) 8 (u1 z (59 + 9 * o k + 6) 0 8 + 1)) (o k) else z)
theorem WI_ltF {K : Int} (o : Int → Int) (n : Nat) (ho : OE o n) : ∀ (d : Nat) (k : Int) (z : Z), k + d = n → 0 ≤ k → WI z K → WI (zLtF o d k z) K := by
  intro d
  induction d with
  | zero => intro c z _ _ h; exact h
  | succ d ih =>
    intro k z h1 h2 h
    have hb := ho k h2 (by omega)
    refine ih _ _ (by omega) (by omega) ?_
    split
    · exact WI_lo hb (WI_u1 (by unfold NW; omega) (WI_u1 (by unfold NW; omega) h))
    · exact h
def zTk0 (z : Z) : Z := u1 (u1 z 0 (z 0 + 1)) 1 (zNB (u1 z 0 (z 0 + 1) 1 - u1 z 0 (z 0 + 1) (15 + 6)))
def zTk1 (z : Z) (o : Int → Int) : Z := zLtF (zOrd (zTk0 z) o) (zOrN (zTk0 z) o).toNat 0 (zTk0 z)
def zTk (z : Z) (o : Int → Int) : Z := zElF 64 0 (zEpF 64 0 (zTk1 z o))
theorem WI_tk0 {z : Z} {K : Int} (h : WI z K) : WI (zTk0 z) K := WI_u1 (by unfold NW; omega) (WI_u1 (by unfold NW; omega) h)
theorem WI_tk1 {z : Z} {K : Int} {o : Int → Int} (h : WI z K) : WI (zTk1 z o) K := by
  have hb := zOr_b (zTk0 z) o
  exact WI_ltF _ (zOrN (zTk0 z) o).toNat hb.1 _ _ _ (by omega) (by omega) (WI_tk0 h)
theorem WI_tk {z : Z} {K : Int} {o : Int → Int} (h : WI z K) : WI (zTk z o) K := WI_elF 64 0 _ (by omega) (by omega) (WI_epF 64 0 _ (by omega) (by omega) (WI_tk1 h))

/-! the model: saves, what could be saved -/
theorem up_up {m : Mem} {c : Nat} {i a b : Int} : up (up m c i a) c i b = up m c i b := by
  funext k j
  unfold up
  by_cases h : k = c ∧ j = i <;> simp [h]
theorem up_ne {m : Mem} {c k : Nat} {i j v : Int} (h : ¬ (k = c ∧ j = i)) : up m c i v k j = m k j := if_neg h
theorem up_at {m : Mem} {c : Nat} {i v : Int} : up m c i v c i = v := if_pos ⟨rfl, rfl⟩
def shA (m : Mem) (k : Int) : Mem := fun c j => if c = 200 ∧ 0 ≤ j ∧ j < k then m 200 (2195 + j) else m c j
theorem shA_s {m : Mem} {k : Int} (hk : 0 ≤ k) : up (shA m k) 200 k (shA m k 200 (2195 + k)) = shA m (k + 1) := by
  funext c j
  unfold up shA
  rw [if_neg (show ¬ (200 = 200 ∧ 0 ≤ 2195 + k ∧ 2195 + k < k) by omega)]
  by_cases h1 : c = 200 ∧ j = k
  · obtain ⟨rfl, rfl⟩ := h1
    rw [if_pos ⟨rfl, rfl⟩, if_pos (by omega)]
  · rw [if_neg h1]
    by_cases h2 : c = 200 ∧ 0 ≤ j ∧ j < k
    · rw [if_pos h2, if_pos (by omega)]
    · rw [if_neg h2, if_neg (by omega)]
theorem shA_0 {m : Mem} : m = shA m 0 := by
  funext c j
  unfold shA
  rw [if_neg (by omega)]
def shB (z : Z) (m : Mem) (k : Int) : Mem := fun c j => if c = 200 ∧ 2195 * m 197 10 ≤ j ∧ j < 2195 * m 197 10 + k then z (j - 2195 * m 197 10) else m c j
theorem shB_s {z : Z} {m : Mem} {k : Int} (hk : 0 ≤ k) : up (shB z m k) 200 (2195 * m 197 10 + k) (z k) = shB z m (k + 1) := by
  funext c j
  unfold up shB
  by_cases h1 : c = 200 ∧ j = 2195 * m 197 10 + k
  · obtain ⟨rfl, rfl⟩ := h1
    rw [if_pos ⟨rfl, rfl⟩, if_pos (by omega)]
    congr 1; omega
  · rw [if_neg h1]
    by_cases h2 : c = 200 ∧ 2195 * m 197 10 ≤ j ∧ j < 2195 * m 197 10 + k
    · rw [if_pos h2, if_pos (by omega)]
    · rw [if_neg h2, if_neg (by omega)]
theorem shB_0 {z : Z} {m : Mem} : m = shB z m 0 := by
  funext c j
  unfold shB
  rw [if_neg (by omega)]
theorem shB_197 {z : Z} {m : Mem} {k j : Int} : shB z m k 197 j = m 197 j := if_neg (by omega)
def zSvA (m : Mem) : Mem := if m 197 10 = 6 then up (shA m 10975) 197 10 5 else m
def zSv (z : Z) (m : Mem) : Mem := up (shB z (zSvA m) 2195) 197 10 (zSvA m 197 10 + 1)
def kpM (z : Z) (m : Mem) (k : Int) : Mem := fun c j => if c = 199 ∧ 0 ≤ j ∧ j < k then z j else m c j
theorem kpM_s {z : Z} {m : Mem} {k : Int} (hk : 0 ≤ k) : up (kpM z m k) 199 k (z k) = kpM z m (k + 1) := by
  funext c j
  unfold up kpM
  by_cases h1 : c = 199 ∧ j = k
  · obtain ⟨rfl, rfl⟩ := h1
    rw [if_pos ⟨rfl, rfl⟩, if_pos (by omega)]
  · rw [if_neg h1]
    by_cases h2 : c = 199 ∧ 0 ≤ j ∧ j < k
    · rw [if_pos h2, if_pos (by omega)]
    · rw [if_neg h2, if_neg (by omega)]
theorem kpM_0 {z : Z} {m : Mem} : m = kpM z m 0 := by
  funext c j
  unfold kpM
  rw [if_neg (by omega)]
def brZ (a z : Z) (k : Int) : Z := fun j => if 0 ≤ j ∧ j < k then a j else z j
theorem brZ_s {a z : Z} {k : Int} (hk : 0 ≤ k) : u1 (brZ a z k) k (a k) = brZ a z (k + 1) := by
  funext j
  unfold u1 brZ
  by_cases h1 : j = k
  · rw [if_pos h1, if_pos (by omega), h1]
  · rw [if_neg h1]
    by_cases h2 : 0 ≤ j ∧ j < k
    · rw [if_pos h2, if_pos (by omega)]
    · rw [if_neg h2, if_neg (by omega)]
theorem brZ_0 {a z : Z} : z = brZ a z 0 := by
  funext j
  unfold brZ
  rw [if_neg (by omega)]
theorem so_lo {m : Mem} {o : Int → Int} {c : Nat} (h : ¬ c = 205) : so m o c = m c := if_neg h
/-- write-backs, at most k more: the plane and the order behind them -/
def zSbI : Nat → Z × (Int → Int) → Z × (Int → Int)
  | 0, s => s
  | k + 1, s => if 0 < wr (zOwN s.1) then zSbI k (zWb s.1 (zOrd s.1 s.2 0), zOrd s.1 s.2) else s
def zSb1 (p : Nat) (s : Z × (Int → Int)) : Z × (Int → Int) := (zTk (zSbI p s).1 (zSbI p s).2, zOrd (zTk0 (zSbI p s).1) (zSbI p s).2)
def zSbF (p : Nat) : Nat → Z × (Int → Int) → Z × (Int → Int)
  | 0, s => s
  | n + 1, s => if 0 < wr (zOwN s.1) then zSbF p n (zSb1 p s) else s
theorem zLa_n (z : Z) : ∀ (d : Nat) (c : Int) (n : Nat) (o : Int → Int), ((zLaF z d c n o).2 : Int) = cntF (zOw z) d c n := by
  intro d
  induction d with
  | zero => intro c n o; rfl
  | succ d ih =>
    intro c n o
    rw [zLaF, cntF]
    split
    · rename_i h; rw [ih, h]; rfl
    · rename_i h; rw [ih, bff h]; simp [bI]
theorem zOrN_n (z : Z) (o : Int → Int) : zOrN z o = zOwN z := zLa_n z 64 0 0 o
theorem zOw_b (z : Z) : 0 ≤ zOwN z ∧ zOwN z ≤ 64 := by rw [← zOrN_n z (fun _ => 0)]; exact (zOr_b z _).2
theorem WI_sbI {K : Int} : ∀ (k : Nat) (s : Z × (Int → Int)), WI s.1 K → WI (zSbI k s).1 K := by
  intro k
  induction k with
  | zero => intro s h; exact h
  | succ k ih =>
    intro s h
    rw [zSbI]
    split
    · rename_i hp
      have hb := zOw_b s.1
      rw [wr_id' (by omega) (by omega)] at hp
      have h2 := zOr_b s.1 s.2
      rw [zOrN_n] at h2
      exact ih _ (WI_wb (h2.1 0 (by omega) (by omega)) h)
    · exact h
theorem WI_sb1 {K : Int} {p : Nat} {s : Z × (Int → Int)} (h : WI s.1 K) : WI (zSb1 p s).1 K := by
  simp only [zSb1]
  exact WI_tk (WI_sbI p s h)
theorem zLo_fr {z : Z} {K c : Int} (hc : 0 ≤ c ∧ c < 64) (h : WI z K) {j : Int} (hj : j < 23 ∨ 59 ≤ j ∧ j < 635 ∧ ¬ (j - 59) % 9 = 4 ∧ ¬ (j - 59) % 9 = 5 ∧ ¬ (j - 59) % 9 = 8) : zLo z c j = z j := by
  have w1 := WI_1 hc h
  have r1 := w1.2.2.2.1 c hc.1 hc.2
  have e1 : zL1 z c j = z j := u1_ne (by omega)
  unfold zLo
  split
  · rename_i hl
    have hl := (zLs_p r1.1).mp hl
    have w2 := WI_2 hc hl w1
    have r2 := w2.2.2.2.1 c hc.1 hc.2
    have e2 : zL2 (zL1 z c) c j = z j := by rw [zL2, u1_ne (by omega)]; exact e1
    split
    · exact e2
    · have hi : 0 ≤ zL2 (zL1 z c) c (59 + 9 * c + 4) - 1 ∧ zL2 (zL1 z c) c (59 + 9 * c + 4) - 1 < 3 := ⟨by omega, by omega⟩
      have w3 := WI_3 (t := zL1 z c (59 + 9 * c + 2) - 1) hc rfl hi ⟨by omega, by omega⟩ w2
      have wt2 := WI_wt w2 hi
      have wt3 := WI_wt w3 hi
      rw [(zPay_fr hi wt3 w3.2.2.1).1 j (by omega) (by omega) (by omega)]
      have e4 : u1 (u1 (zL2 (zL1 z c) c) (59 + 9 * c + 4) 0) (59 + 9 * c + 5) 0 (41 + 6 * (zL2 (zL1 z c) c (59 + 9 * c + 4) - 1) + 5) = zL2 (zL1 z c) c (41 + 6 * (zL2 (zL1 z c) c (59 + 9 * c + 4) - 1) + 5) := by rw [u1_ne (by omega), u1_ne (by omega)]
      simp only [zL3]
      rw [e4, u1_ne (by omega), u1_ne (by omega), u1_ne (by omega), u1_ne (by omega)]
      exact e2
  · exact e1
theorem zPuF_fr {K k : Int} {j : Int} (hj : j < 23 ∧ ¬ j = 9 ∨ 59 ≤ j ∧ j < 635 ∧ ¬ (j - 59) % 9 = 0 ∧ ¬ (j - 59) % 9 = 4 ∧ ¬ (j - 59) % 9 = 5 ∧ ¬ (j - 59) % 9 = 8) : ∀ (d : Nat) (c : Int) (z : Z), c + d = 64 → 0 ≤ c → WI z K → zPuF k d c z j = z j := by
  intro d
  induction d with
  | zero => intro c z _ _ h; rfl
  | succ d ih =>
    intro c z h1 h2 h
    rw [zPuF]
    have wp := WI_pd (c := c) ⟨h2, by omega⟩ h
    split
    · rw [ih _ _ (by omega) (by omega) (WI_lo ⟨h2, by omega⟩ wp), zLo_fr ⟨h2, by omega⟩ wp (by omega), zPd, u1_ne (by omega), u1_ne (by omega)]
    · exact ih _ _ (by omega) (by omega) h
theorem zPul_fr {z : Z} {K k b : Int} (hk : 0 ≤ k ∧ k < 64) (h : WI z K) {j : Int} (hj : j < 23 ∧ ¬ j = 9 ∧ ¬ j = 1 ∨ 59 ≤ j ∧ j < 635 ∧ ¬ (j - 59) % 9 = 0 ∧ ¬ (j - 59) % 9 = 1 ∧ ¬ (j - 59) % 9 = 4 ∧ ¬ (j - 59) % 9 = 5 ∧ ¬ (j - 59) % 9 = 8) : zPul z k b j = z j := by
  have w1 : WI (u1 z (59 + 9 * k + 1) (zWorn z k)) K := WI_u1 (by unfold NW; omega) h
  rw [zPul, u1_ne (by omega), zPuF_fr (K := K) (by omega) 64 0 _ (by omega) (by omega) w1, u1_ne (by omega)]
theorem zWb_due {z : Z} {K c : Int} (hc : 0 ≤ c ∧ c < 64) (h : WI z K) {e : Int} (he : 0 ≤ e ∧ e < 64) : zWb z c (59 + 9 * e + 6) = if e = c then 0 else z (59 + 9 * e + 6) := by
  have w0 : WI (u1 z (59 + 9 * c + 6) 0) K := WI_u1 (by unfold NW; omega) h
  have w1 := WI_wbA hc h
  have e1 : zWbA z c (59 + 9 * e + 6) = if e = c then 0 else z (59 + 9 * e + 6) := by
    rw [zWbA, zPul_fr hc w0 (by omega)]
    by_cases q : e = c
    · rw [q, u1_at, if_pos rfl]
    · rw [u1_ne (by omega), if_neg q]
  rw [← e1]
  unfold zWb
  split
  · rw [u1_ne (by omega), u1_ne (by omega)]
  · rw [zLo_fr hc (WI_u1 (by unfold NW; omega) w1) (by omega), u1_ne (by omega)]
theorem zOwN_wb {z : Z} {K c : Int} (hc : 0 ≤ c ∧ c < 64) (h : WI z K) (ho : zOw z c = true) : zOwN (zWb z c) = zOwN z - 1 := by
  have e1 : zOwN (zWb z c) = cntF (fun e => if e = c then false else zOw z e) 64 0 0 := cnt_cg 64 0 0 (fun e h1 h2 => by
    unfold zOw
    rw [zWb_due hc h ⟨h1, by omega⟩]
    by_cases q : e = c
    · rw [if_pos q, if_pos q]; rfl
    · rw [if_neg q, if_neg q])
  have h2 := cnt_up (p := zOw z) (p' := fun e => if e = c then false else zOw z e) (e := c) (fun e he => by simp [he]) 64 0 0 0
  rw [if_pos (by omega)] at h2
  simp only [if_true, ho] at h2
  have : bI false - bI true = -1 := rfl
  rw [e1]
  unfold zOwN
  omega
theorem zInF_own (z : Z) (c : Int) (P : Int → Prop) (hc : P c) : ∀ (k : Nat) (o : Int → Int), (∀ j : Int, 0 ≤ j → j < k → P (o j)) → ∀ j : Int, 0 ≤ j → j < k + 1 → P (zInF z c k o j) := by
  have out : ∀ (k : Nat) (o : Int → Int) (j : Int), (k : Int) < j → zInF z c k o j = o j := by
    intro k
    induction k with
    | zero => intro o j hj; rw [zInF, u1_ne (by omega)]
    | succ k ih =>
      intro o j hj
      rw [zInF]
      split
      · rw [ih _ _ (by omega), u1_ne (by omega)]
      · rw [u1_ne (by omega)]
  intro k
  induction k with
  | zero => intro o h j h1 h2; rw [zInF, show j = 0 by omega, u1_at]; exact hc
  | succ k ih =>
    intro o h j h1 h2
    rw [zInF]
    split
    · by_cases hj : j < k + 1
      · refine ih _ (fun i h3 h4 => ?_) j h1 hj
        rw [u1_ne (by omega)]; exact h i h3 (by omega)
      · rw [out k _ j (by omega), show j = ((k + 1 : Nat) : Int) by omega, u1_at]
        exact h _ (by omega) (by omega)
    · by_cases hj : j = ((k + 1 : Nat) : Int)
      · rw [hj, u1_at]; exact hc
      · rw [u1_ne hj]; exact h j h1 (by omega)
theorem zLa_own (z : Z) : ∀ (d : Nat) (c : Int) (n : Nat) (o : Int → Int), (∀ j : Int, 0 ≤ j → j < n → zOw z (o j) = true) → ∀ j : Int, 0 ≤ j → j < (zLaF z d c n o).2 → zOw z ((zLaF z d c n o).1 j) = true := by
  intro d
  induction d with
  | zero => intro c n o h; exact h
  | succ d ih =>
    intro c n o h
    rw [zLaF]
    split
    · rename_i hc
      exact ih _ _ _ (fun j h1 h2 => zInF_own z c (fun x => zOw z x = true) hc n o h j h1 (by omega))
    · exact ih _ _ _ h
theorem zOr_own (z : Z) (o : Int → Int) {j : Int} (h1 : 0 ≤ j) (h2 : j < zOrN z o) : zOw z (zOrd z o j) = true := zLa_own z 64 0 0 o (fun j h3 h4 => by omega) j h1 h2
theorem zLtF_due {K : Int} (o : Int → Int) (n : Nat) (ho : OE o n) {e : Int} (he : 0 ≤ e ∧ e < 64) : ∀ (d : Nat) (k : Int) (z : Z), k + d = n → 0 ≤ k → WI z K → zLtF o d k z (59 + 9 * e + 6) = z (59 + 9 * e + 6) ∨ zLtF o d k z (59 + 9 * e + 6) = 0 := by
  intro d
  induction d with
  | zero => intro c z _ _ h; exact Or.inl rfl
  | succ d ih =>
    intro k z h1 h2 h
    have hb := ho k h2 (by omega)
    rw [zLtF]
    split
    · have w : WI (u1 (u1 z (59 + 9 * o k + 6) 0) 8 (u1 z (59 + 9 * o k + 6) 0 8 + 1)) K := WI_u1 (by unfold NW; omega) (WI_u1 (by unfold NW; omega) h)
      have h3 := ih (k + 1) _ (by omega) (by omega) (WI_lo hb w)
      rw [zLo_fr hb w (by omega), u1_ne (z := u1 z (59 + 9 * o k + 6) 0) (by omega)] at h3
      by_cases q : e = o k
      · rw [q, u1_at] at h3; rw [q]
        exact Or.inr (h3.elim id id)
      · rw [u1_ne (z := z) (i := 59 + 9 * o k + 6) (j := 59 + 9 * e + 6) (by omega)] at h3; exact h3
    · exact ih _ _ (by omega) (by omega) h
theorem zEpF_due {e : Int} : ∀ (d : Nat) (c : Int) (z : Z), zEpF d c z (59 + 9 * e + 6) = z (59 + 9 * e + 6) := by
  intro d
  induction d with
  | zero => intro c z; rfl
  | succ d ih =>
    intro c z
    rw [zEpF, ih, zEp]
    split
    · simp only [zEp1]; rw [u1_ne (by omega), u1_ne (by omega)]
    · rfl
theorem zElF_due {e : Int} (he : 0 ≤ e) : ∀ (d : Nat) (c : Int) (z : Z), 0 ≤ c → zElF d c z (59 + 9 * e + 6) = z (59 + 9 * e + 6) ∨ zElF d c z (59 + 9 * e + 6) = 0 := by
  intro d
  induction d with
  | zero => intro c z _; exact Or.inl rfl
  | succ d ih =>
    intro c z h0
    rw [zElF]
    have h := ih (c + 1) (zEl z c) (by omega)
    have h1 : zEl z c (59 + 9 * e + 6) = z (59 + 9 * e + 6) ∨ zEl z c (59 + 9 * e + 6) = 0 := by
      unfold zEl
      split
      · split
        · by_cases q : e = c
          · rw [q, zEl2, u1_at]; exact Or.inr rfl
          · left; rw [zEl2, u1_ne (by omega), u1_ne (by omega), u1_ne (by omega), zEl1, u1_ne (by omega)]
        · left; rw [zEl1, u1_ne (by omega)]
      · exact Or.inl rfl
    rcases h with h | h
    · rw [h]; exact h1
    · exact Or.inr h
theorem zTk_due {z : Z} {K : Int} {o : Int → Int} (h : WI z K) {e : Int} (he : 0 ≤ e ∧ e < 64) : zTk z o (59 + 9 * e + 6) = z (59 + 9 * e + 6) ∨ zTk z o (59 + 9 * e + 6) = 0 := by
  have hb := zOr_b (zTk0 z) o
  have h1 := zLtF_due (K := K) _ (zOrN (zTk0 z) o).toNat hb.1 he (zOrN (zTk0 z) o).toNat 0 (zTk0 z) (by omega) (by omega) (WI_tk0 h)
  have h2 := zElF_due (e := e) he.1 64 0 (zEpF 64 0 (zTk1 z o)) (by omega)
  rw [zEpF_due] at h2
  have e0 : zTk0 z (59 + 9 * e + 6) = z (59 + 9 * e + 6) := by rw [zTk0, u1_ne (by omega), u1_ne (by omega)]
  rw [e0] at h1
  unfold zTk
  rcases h2 with h2 | h2
  · rw [h2]; exact h1
  · exact Or.inr h2
theorem zOwN_tk {z : Z} {K : Int} {o : Int → Int} (h : WI z K) : zOwN (zTk z o) ≤ zOwN z := by
  have e1 : zOwN (zTk z o) = cntF (fun e => zOw (zTk z o) e && decide (0 ≤ e ∧ e < 64)) 64 0 0 := cnt_cg 64 0 0 (fun e h1 h2 => by simp [show 0 ≤ e ∧ e < 64 by omega])
  rw [e1]
  refine cnt_le (fun e he => ?_) 64 0 0 0 (Int.le_refl _)
  simp only [Bool.and_eq_true, decide_eq_true_eq] at he
  obtain ⟨ha, hb⟩ := he
  unfold zOw at ha ⊢
  rcases zTk_due (o := o) h hb with q | q
  · rw [q] at ha; exact ha
  · rw [q] at ha; exact absurd ha (by decide)
theorem zSbI_n {K : Int} : ∀ (k : Nat) (s : Z × (Int → Int)), WI s.1 K → zOwN (zSbI k s).1 ≤ zOwN s.1 := by
  intro k
  induction k with
  | zero => intro s h; exact Int.le_refl _
  | succ k ih =>
    intro s h
    rw [zSbI]
    split
    · rename_i hp
      have hb := zOw_b s.1
      rw [wr_id' (by omega) (by omega)] at hp
      have h2 := zOr_b s.1 s.2
      have h3 := zOr_own s.1 s.2 (j := 0) (by omega) (by rw [zOrN_n]; omega)
      rw [zOrN_n] at h2
      have hc := h2.1 0 (by omega) (by omega)
      have h4 := ih (zWb s.1 (zOrd s.1 s.2 0), zOrd s.1 s.2) (WI_wb hc h)
      have h5 := zOwN_wb hc h h3
      exact Int.le_trans h4 (by show zOwN (zWb s.1 (zOrd s.1 s.2 0)) ≤ _; omega)
    · exact Int.le_refl _
theorem zSb_dec {K p : Int} {s : Z × (Int → Int)} {d : Nat} (hp : 1 ≤ p ∧ p ≤ 9) (h0 : 0 < zOwN s.1) (hw : WI s.1 K) (hd : zOwN s.1 ≤ ((d + 1 : Nat) : Int)) : zOwN (zSb1 p.toNat s).1 ≤ d := by
  obtain ⟨q, hq⟩ : ∃ q : Nat, p.toNat = q + 1 := ⟨p.toNat - 1, by omega⟩
  have hb := zOw_b s.1
  have h2 := zOr_b s.1 s.2
  have h3 := zOr_own s.1 s.2 (j := 0) (by omega) (by rw [zOrN_n]; omega)
  rw [zOrN_n] at h2
  have hc := h2.1 0 (by omega) (by omega)
  have h1 : zOwN (zSbI p.toNat s).1 ≤ zOwN s.1 - 1 := by
    rw [hq, zSbI, if_pos (by rw [wr_id' (by omega) (by omega)]; exact h0), ← zOwN_wb hc hw h3]
    exact zSbI_n q _ (WI_wb hc hw)
  have h4 := zOwN_tk (o := (zSbI p.toNat s).2) (WI_sbI p.toNat s hw)
  have h5 : (zSb1 p.toNat s).1 = zTk (zSbI p.toNat s).1 (zSbI p.toNat s).2 := by simp only [zSb1]
  rw [h5]; omega
def zSbE (z : Z) (p : Int) (o : Int → Int) : Z × (Int → Int) := zSbF p.toNat 64 (z, o)
def zSvb (z : Z) (p : Int) (o : Int → Int) : Int := (zSbE z p o).1 6 - z 6
theorem so_kp {z : Z} {m : Mem} {o : Int → Int} : so (kpM z m 2195) o 199 = kpM z m 2195 199 := rfl

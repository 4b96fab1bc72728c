/-! plain mathematics: saves -/
theorem RR_cgP {P Q : Mem} {z : Z} {T B K : Int} (e : ∀ d, d < 24 → Q d = P d) (h : RR P z T B K) : RR Q z T B K := by
  unfold RR RC RQ RD CV CD dL cOne at *
  rw [e 0 (by decide), e 1 (by decide), e 2 (by decide), e 3 (by decide), e 4 (by decide), e 5 (by decide), e 6 (by decide), e 7 (by decide), e 8 (by decide), e 9 (by decide), e 10 (by decide), e 11 (by decide), e 12 (by decide), e 13 (by decide), e 14 (by decide), e 15 (by decide), e 16 (by decide), e 17 (by decide), e 18 (by decide), e 19 (by decide), e 20 (by decide), e 21 (by decide), e 22 (by decide), e 23 (by decide)]
  exact h
theorem CX_cgP {P Q : Mem} (e : ∀ d, d < 24 → Q d = P d) (h : CX P) : CX Q := by
  unfold CX at *
  rw [e 0 (by decide), e 17 (by decide), e 23 (by decide)]
  exact h
theorem RR_mono {P : Mem} {z : Z} {T B K B' K' : Int} (hB : B ≤ B') (hB2 : B' ≤ 1000000) (hK : K ≤ K') (hK2 : K' ≤ 512) (h : RR P z T B K) : RR P z T B' K' := by
  obtain ⟨hR, hQ, hD, hV, hW, hI⟩ := h
  obtain ⟨a1, a2, a3, a4, a5, a6, a7⟩ := hW
  obtain ⟨b1, b2, b3, b4, b5, b6, b7, b8, b9, b10, b11, b12, b13, b14, b15⟩ := hI
  exact ⟨hR, hQ, hD, hV, ⟨a1, a2, a3, a4, a5, by omega, hK2⟩, b1, b2, b3, b4, b5, b6, b7, b8, b9, b10, b11, b12, by omega, hB2, by omega⟩
/-- the saved planes stand for the model's rows -/
def VS (m M : Mem) (T B K : Int) : Prop := (0 ≤ m 49 0 ∧ m 49 0 ≤ 6) ∧ m 49 0 = M 197 10 ∧ SR m ∧ ∀ j, 0 ≤ j → j < m 49 0 → RR (pg m (m 50 j).toNat) (fun i => M 200 (2195 * j + i)) T B K ∧ CX (pg m (m 50 j).toNat)
theorem VS_mono {m M : Mem} {T B K B' K' : Int} (hB : B ≤ B') (hB2 : B' ≤ 1000000) (hK : K ≤ K') (hK2 : K' ≤ 512) (h : VS m M T B K) : VS m M T B' K' :=
  ⟨h.1, h.2.1, h.2.2.1, fun j a b => ⟨RR_mono hB hB2 hK hK2 (h.2.2.2 j a b).1, (h.2.2.2 j a b).2⟩⟩
theorem VS_cg {m n M N : Mem} {T B K : Int} (h : VS m M T B K) (h1 : ∀ a, 49 ≤ a → a < 195 → n a = m a) (h2 : N 197 10 = M 197 10) (h3 : ∀ j, N 200 j = M 200 j) : VS n N T B K := by
  obtain ⟨a, b, c, d⟩ := h
  have e49 := h1 49 (by decide) (by decide)
  have e50 := h1 50 (by decide) (by decide)
  refine ⟨by rw [e49]; exact a, by rw [e49, h2]; exact b, ?_, fun j k1 k2 => ?_⟩
  · unfold SR at *; rw [e50]; exact c
  · rw [e49] at k2
    have hr := c.1 j k1 (by omega)
    have hp : ∀ x, x < 24 → pg n (n 50 j).toNat x = pg m (m 50 j).toNat x := fun x hx => by
      rw [e50]
      unfold pg
      refine h1 _ ?_ ?_
      · unfold okr at hr; omega
      · unfold okr at hr; omega
    have w := d j k1 k2
    refine ⟨RR_cgP hp (RR_cgz (fun i _ _ => h3 _) w.1), CX_cgP hp w.2⟩
theorem pg_ps_o {m B : Mem} {r q d : Nat} (h : q + 24 ≤ r ∨ r + 24 ≤ q) (hd : d < 24) : pg (ps m r B) q d = pg m q d := by
  unfold pg; exact ps_ne (by omega)
theorem okr_dis {a b : Int} (ha : okr a) (hb : okr b) (h : ¬ a = b) : a.toNat + 24 ≤ b.toNat ∨ b.toNat + 24 ≤ a.toNat := by unfold okr at *; omega
/-- one plane more: the place s, its plane at r -/
theorem VS_put {m M : Mem} {P : Mem} {z : Z} {T B K : Int} (hs : 0 ≤ m 49 0 ∧ m 49 0 < 6) (h : VS m M T B K) (hP : RR P z T B K) (hX : CX P) (A : Mem) : VS (up (ps m (m 50 (m 49 0)).toNat (bcP A P)) 49 0 (m 49 0 + 1)) (up (shB z M 2195) 197 10 (M 197 10 + 1)) T B K := by
  obtain ⟨a, b, c, d⟩ := h
  have hr := c.1 (m 49 0) (by omega) (by omega)
  have r1 : 51 ≤ (m 50 (m 49 0)).toNat ∧ (m 50 (m 49 0)).toNat ≤ 171 := by unfold okr at hr; omega
  have e49 : up (ps m (m 50 (m 49 0)).toNat (bcP A P)) 49 0 (m 49 0 + 1) 49 0 = m 49 0 + 1 := up_at
  have e50 : up (ps m (m 50 (m 49 0)).toNat (bcP A P)) 49 0 (m 49 0 + 1) 50 = m 50 := by rw [up_ne' (by decide), ps_ne (by omega)]
  refine ⟨by rw [e49]; omega, by rw [e49, up_at, b], ?_, fun j k1 k2 => ?_⟩
  · unfold SR at *; rw [e50]; exact c
  · rw [e49] at k2
    rw [e50]
    have hrj := c.1 j k1 (by omega)
    have row : ∀ i, 0 ≤ i → i < 2195 → up (shB z M 2195) 197 10 (M 197 10 + 1) 200 (2195 * j + i) = if j = m 49 0 then z i else M 200 (2195 * j + i) := fun i i1 i2 => by
      rw [up_ne (by omega)]
      unfold shB
      by_cases q : j = m 49 0
      · rw [if_pos q, if_pos ⟨rfl, by omega, by omega⟩]; congr 1; omega
      · rw [if_neg q, if_neg (by omega)]
    have pl : ∀ x, x < 24 → pg (up (ps m (m 50 (m 49 0)).toNat (bcP A P)) 49 0 (m 49 0 + 1)) (m 50 j).toNat x = pg (ps m (m 50 (m 49 0)).toNat (bcP A P)) (m 50 j).toNat x := fun x hx => by
      unfold pg; exact up_ne' (by unfold okr at hrj; omega)
    by_cases q : j = m 49 0
    · have pq : ∀ x, x < 24 → pg (up (ps m (m 50 (m 49 0)).toNat (bcP A P)) 49 0 (m 49 0 + 1)) (m 50 j).toNat x = bcP A P x := fun x hx => by
        rw [pl x hx, q]; exact pg_ps x hx
      refine ⟨RR_cgP pq (RR_cgz (fun i i1 i2 => ?_) (RR_bc hP)), CX_cgP pq (CX_bc hX)⟩
      rw [row i i1 i2, if_pos q]
    · have w := d j k1 (by omega)
      have ne : ¬ m 50 j = m 50 (m 49 0) := c.2 j (m 49 0) k1 (by omega) (by omega)
      have pq : ∀ x, x < 24 → pg (up (ps m (m 50 (m 49 0)).toNat (bcP A P)) 49 0 (m 49 0 + 1)) (m 50 j).toNat x = pg m (m 50 j).toNat x := fun x hx => by
        rw [pl x hx]; exact pg_ps_o (okr_dis hrj hr ne) hx
      refine ⟨RR_cgP pq (RR_cgz (fun i i1 i2 => ?_) w.1), CX_cgP pq w.2⟩
      rw [row i i1 i2, if_neg q]
/-- the oldest dropped -/
theorem VS_drop {m M : Mem} {T B K : Int} (hs : m 49 0 = 6) (h : VS m M T B K) : VS (drM m) (up (shA M 10975) 197 10 5) T B K := by
  obtain ⟨a, b, c, d⟩ := h
  have e49 : drM m 49 0 = 5 := up_at
  have e50 : ∀ j, 0 ≤ j → j < 6 → drM m 50 j = if j = 5 then m 50 0 else m 50 (j + 1) := fun j j1 j2 => by
    unfold drM
    rw [up_ne (by omega)]
    by_cases q : j = 5
    · rw [q, up_at, if_pos rfl]
    · rw [up_ne (by omega), if_neg q]
      unfold shS
      rw [if_pos (by omega)]
  have eo : ∀ x : Nat, 51 ≤ x → drM m x = m x := fun x hx => by
    unfold drM
    rw [up_ne' (by omega), up_ne' (by omega)]
    funext y
    unfold shS
    rw [if_neg (by omega)]
  refine ⟨by rw [e49]; omega, by rw [e49, up_at], ⟨fun i i1 i2 => ?_, fun i j i1 ij j2 => ?_⟩, fun j k1 k2 => ?_⟩
  · rw [e50 i i1 i2]; split
    · exact c.1 0 (by omega) (by omega)
    · exact c.1 (i + 1) (by omega) (by omega)
  · rw [e50 i i1 (by omega), e50 j (by omega) j2, if_neg (by omega)]
    by_cases q : j = 5
    · rw [if_pos q]; intro w; exact c.2 0 (i + 1) (by omega) (by omega) (by omega) w.symm
    · rw [if_neg q]; exact c.2 (i + 1) (j + 1) (by omega) (by omega) (by omega)
  · rw [e49] at k2
    have e5 : drM m 50 j = m 50 (j + 1) := by rw [e50 j k1 (by omega), if_neg (by omega)]
    rw [e5]
    have hr := c.1 (j + 1) (by omega) (by omega)
    have w := d (j + 1) (by omega) (by omega)
    have pq : ∀ x, x < 24 → pg (drM m) (m 50 (j + 1)).toNat x = pg m (m 50 (j + 1)).toNat x := fun x hx => by
      unfold pg; exact eo _ (by unfold okr at hr; omega)
    refine ⟨RR_cgP pq (RR_cgz (fun i i1 i2 => ?_) w.1), CX_cgP pq w.2⟩
    rw [up_ne (by omega)]
    unfold shA
    rw [if_pos (by omega)]
    congr 1
    omega
theorem VS_keep {m M P : Mem} {z : Z} {T B K : Int} (h : VS m M T B K) (hP : RR P z T B K) (hX : CX P) : VS (kM m P) (zSv z M) T B K := by
  have h0 : VS (ps m 1 P) M T B K := VS_cg h (fun a a1 a2 => ps_ne (by omega)) rfl (fun _ => rfl)
  have ep : ∀ d, d < 24 → pg (ps m 1 P) 1 d = P d := pg_ps
  unfold kM kpS kp2 zSv
  generalize ps m 1 P = n at *
  have hb := h0.2.1
  have h49 := h0.1
  by_cases q : n 49 0 = 6
  · have e1 : kp1 n = drM n := by unfold kp1; rw [if_pos (by omega)]
    have e2 : zSvA M = up (shA M 10975) 197 10 5 := by unfold zSvA; rw [if_pos (by omega)]
    have hd := VS_drop q h0
    rw [e1, e2]
    have ed : ∀ d, d < 24 → pg (drM n) 1 d = P d := fun d hd' => by
      rw [← ep d hd']
      unfold pg drM
      rw [up_ne' (by omega), up_ne' (by omega)]
      funext y
      unfold shS
      rw [if_neg (by omega)]
    rw [bcP_cg ed]
    exact VS_put (by rw [show drM n 49 0 = 5 from up_at]; omega) hd hP hX _
  · have e1 : kp1 n = n := by unfold kp1; rw [if_neg (by omega)]
    have e2 : zSvA M = M := by unfold zSvA; rw [if_neg (by omega)]
    rw [e1, e2, bcP_cg ep]
    exact VS_put (by omega) h0 hP hX _
theorem VS_undo {m M P : Mem} {z : Z} {T B K : Int} (hs : 0 < m 49 0) (h : VS m M T B K) : RR (bcP P (pg m (uR m))) (zUn M z) T B K ∧ CX (bcP P (pg m (uR m))) ∧ VS (up m 49 0 (m 49 0 - 1)) (up M 197 10 (M 197 10 - 1)) T B K := by
  obtain ⟨a, b, c, d⟩ := h
  have w := d (m 49 0 - 1) (by omega) (by omega)
  refine ⟨RR_cgz (fun i i1 i2 => ?_) (RR_bc w.1), CX_bc w.2, by rw [up_at]; omega, by rw [up_at, up_at, b], ?_, fun j k1 k2 => ?_⟩
  · unfold zUn brZ
    rw [if_pos ⟨i1, i2⟩, b]
  · unfold SR at *; rw [up_ne' (by decide)]; exact c
  · rw [up_at] at k2
    have hr := c.1 j k1 (by omega)
    have w := d j k1 (by omega)
    rw [up_ne' (by decide)]
    have pq : ∀ x, x < 24 → pg (up m 49 0 (m 49 0 - 1)) (m 50 j).toNat x = pg m (m 50 j).toNat x := fun x hx => by
      unfold pg; exact up_ne' (by unfold okr at hr; omega)
    exact ⟨RR_cgP pq (RR_cgz (fun i i1 i2 => by rw [up_ne (by omega)]) w.1), CX_cgP pq w.2⟩

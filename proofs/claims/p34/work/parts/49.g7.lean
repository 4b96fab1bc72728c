/-! plain mathematics: the weakest cores -/
def sl (z : Z) (a b : Int) : Prop := z (59 + 9 * a + 1) < z (59 + 9 * b + 1) ∨ z (59 + 9 * a + 1) = z (59 + 9 * b + 1) ∧ a < b
def slb (z : Z) (a b : Int) : Bool := decide (z (59 + 9 * a + 1) < z (59 + 9 * b + 1) ∨ z (59 + 9 * a + 1) = z (59 + 9 * b + 1) ∧ a < b)
theorem slb_e {z : Z} {a b : Int} : slb z a b = true ↔ sl z a b := by unfold slb sl; rw [decide_eq_true_eq]
theorem zAh_e {z : Z} {T B c : Int} (hc : 0 ≤ c ∧ c < 64) (h : IZ z T B) : zAh z c = cntF (fun e => slb z e c) 64 0 0 := by
  unfold zAh
  refine (cnt_cg 64 0 0 (fun e a b => ?_))
  have h1 := h.sg c hc.1 hc.2
  have h2 := h.sg e a (by omega)
  unfold slb
  rw [wr_id' (x := z (59 + 9 * e + 1)) (by omega) (by omega), wr_id' (x := z (59 + 9 * c + 1)) (by omega) (by omega)]
theorem cWk_e {P : Mem} {z : Z} {dl : Int → Int} {T B a b : Int} (ha : 0 ≤ a ∧ a < 64) (hb : 0 ≤ b ∧ b < 64) (hR : RC P z dl) (h : IZ z T B) : cWk P a b = true ↔ sl z a b := by
  have h1 := h.sg a ha.1 ha.2
  have h2 := h.sg b hb.1 hb.2
  unfold cWk sl
  rw [if_pos ⟨wi_t ⟨by omega, by omega⟩, wi_t ⟨by omega, by omega⟩⟩, hR.sg a ha.1 ha.2, hR.sg b hb.1 hb.2, wr_id' (x := z (59 + 9 * a + 1)) (by omega) (by omega), wr_id' (x := z (59 + 9 * b + 1)) (by omega) (by omega), decide_eq_true_eq]
theorem cWk_m {P : Mem} {b : Int} : cWk P (-1) b = true := by
  unfold cWk
  rw [if_neg (by intro q; exact absurd q.1 (by decide))]
  rfl
theorem sl_lt {z : Z} {T B a b : Int} (ha : 0 ≤ a ∧ a < 64) (hb : 0 ≤ b ∧ b < 64) (h : IZ z T B) (hs : sl z a b) : zAh z a + 1 ≤ zAh z b := by
  rw [zAh_e ha h, zAh_e hb h]
  have u := cnt_upd2 (p := fun e => slb z e a) (q := fun e => slb z e a || decide (e = a)) ha (fun e _ _ he => by rw [decide_eq_false he]; simp)
  have ua : slb z a a = false := by unfold slb; exact decide_eq_false (by omega)
  simp only [decide_true, Bool.or_true] at u
  rw [ua, bI_tt, bI_ff] at u
  have le := cnt_le' (p := fun e => slb z e b) (q := fun e => slb z e a || decide (e = a)) (fun e _ _ q => by
    rcases Bool.or_eq_true_iff.mp q with r | r
    · have r := slb_e.mp r
      refine slb_e.mpr ?_
      unfold sl at *; omega
    · have r := of_decide_eq_true r
      subst r
      exact slb_e.mpr hs)
  omega
theorem sl_succ {z : Z} {T B b c : Int} (hb : 0 ≤ b ∧ b < 64) (hc : 0 ≤ c ∧ c < 64) (h : IZ z T B) (hs : sl z b c) (hn : ∀ e, 0 ≤ e → e < 64 → sl z b e → ¬ sl z e c) : zAh z c = zAh z b + 1 := by
  rw [zAh_e hb h, zAh_e hc h]
  have u := cnt_upd2 (p := fun e => slb z e b) (q := fun e => slb z e b || decide (e = b)) hb (fun e _ _ he => by rw [decide_eq_false he]; simp)
  have ub : slb z b b = false := by unfold slb; exact decide_eq_false (by omega)
  simp only [decide_true, Bool.or_true] at u
  rw [ub, bI_tt, bI_ff] at u
  have e : cntF (fun e => slb z e c) 64 0 0 = cntF (fun e => slb z e b || decide (e = b)) 64 0 0 := cnt_cg 64 0 0 (fun e a1 a2 => by
    have hn := hn e a1 (by omega)
    by_cases q : sl z e c
    · rw [slb_e.mpr q]
      have : ¬ sl z b e := fun w => hn w q
      symm
      rw [Bool.or_eq_true_iff, slb_e, decide_eq_true_eq]
      unfold sl at *; omega
    · have q' : slb z e c = false := by cases r : slb z e c with
        | false => rfl
        | true => exact (q (slb_e.mp r)).elim
      rw [q']
      symm
      rw [Bool.or_eq_false_iff]
      refine ⟨?_, ?_⟩
      · cases r : slb z e b with
        | false => rfl
        | true => have r := slb_e.mp r; exfalso; apply q; unfold sl at *; omega
      · refine decide_eq_false (fun r => ?_)
        subst r; exact q hs)
  rw [e]
  omega
theorem sl_first {z : Z} {T B c : Int} (hc : 0 ≤ c ∧ c < 64) (h : IZ z T B) (hn : ∀ e, 0 ≤ e → e < 64 → ¬ sl z e c) : zAh z c = 0 := by
  rw [zAh_e hc h]
  have e : cntF (fun e => slb z e c) 64 0 0 = cntF (fun _ => false) 64 0 0 := cnt_cg 64 0 0 (fun e a1 a2 => by
    cases r : slb z e c with
    | false => rfl
    | true => exact (hn e a1 (by omega) (slb_e.mp r)).elim)
  rw [e]
  decide
theorem sl_more {z : Z} {T B b : Int} (hb : 0 ≤ b ∧ b < 64) (h : IZ z T B) (hr : zAh z b < 63) : ∃ e, (0 ≤ e ∧ e < 64) ∧ sl z b e := by
  refine Classical.byContradiction (fun hx => ?_)
  have hx : ∀ e, 0 ≤ e → e < 64 → ¬ sl z b e := fun e a1 a2 w => hx ⟨e, ⟨a1, a2⟩, w⟩
  rw [zAh_e hb h] at hr
  have e : cntF (fun e => slb z e b) 64 0 0 = cntF (fun e => !decide (e = b)) 64 0 0 := cnt_cg 64 0 0 (fun e a1 a2 => by
    have w := hx e a1 (by omega)
    by_cases q : e = b
    · subst q
      have ub : slb z e e = false := by unfold slb; exact decide_eq_false (by omega)
      rw [ub]; simp
    · rw [decide_eq_false q]
      show slb z e b = true
      rw [slb_e]
      unfold sl at *; omega)
  rw [e] at hr
  have u := cnt_not (p := fun e => decide (e = b)) 64 0 0 0
  have v := cnt_upd2 (p := fun _ => false) (q := fun e => decide (e = b)) hb (fun e _ _ he => decide_eq_false he)
  have f0 : cntF (fun _ => false) 64 0 0 = 0 := by decide
  simp only [decide_true] at v
  rw [f0, bI_ff, bI_tt] at v
  omega
theorem cNwF_s {P : Mem} {z : Z} {T B K b : Int} (hb : b = -1 ∨ 0 ≤ b ∧ b < 64) (h : RR P z T B K) : ∀ (d : Nat) (c n : Int), c + d = 64 → 0 ≤ c →
    (n = -1 ∧ (∀ e, 0 ≤ e → e < c → ¬ cWk P b e = true) ∨ (0 ≤ n ∧ n < 64) ∧ cWk P b n = true ∧ ∀ e, 0 ≤ e → e < c → cWk P b e = true → ¬ sl z e n) →
    (cNwF P b d c n = -1 ∧ (∀ e, 0 ≤ e → e < 64 → ¬ cWk P b e = true) ∨ (0 ≤ cNwF P b d c n ∧ cNwF P b d c n < 64) ∧ cWk P b (cNwF P b d c n) = true ∧ ∀ e, 0 ≤ e → e < 64 → cWk P b e = true → ¬ sl z e (cNwF P b d c n)) := by
  intro d
  induction d with
  | zero =>
    intro c n h1 h2 h3
    have e : c = 64 := by omega
    subst e
    exact h3
  | succ d ih =>
    intro c n h1 h2 h3
    have hc : 0 ≤ c ∧ c < 64 := by omega
    rw [cNwF]
    refine ih (c + 1) _ (by omega) (by omega) ?_
    by_cases q : cWk P b c = true
    · rcases h3 with ⟨r1, r2⟩ | ⟨r1, r2, r3⟩
      · rw [if_pos ⟨q, .inl r1⟩]
        refine .inr ⟨hc, q, fun e a1 a2 w => ?_⟩
        by_cases f : e = c
        · subst f; unfold sl; omega
        · exact (r2 e a1 (by omega) w).elim
      · have ew := cWk_e hc r1 h.1 h.2.2.2.2.2
        by_cases f : cWk P c n = true
        · rw [if_pos ⟨q, .inr f⟩]
          have f' := ew.mp f
          refine .inr ⟨hc, q, fun e a1 a2 w => ?_⟩
          by_cases g : e = c
          · subst g; unfold sl; omega
          · have := r3 e a1 (by omega) w
            unfold sl at *; omega
        · rw [if_neg (by rintro ⟨w1, w2⟩; rcases w2 with w2 | w2; omega; exact f w2)]
          refine .inr ⟨r1, r2, fun e a1 a2 w => ?_⟩
          by_cases g : e = c
          · subst g; exact fun w => f (ew.mpr w)
          · exact r3 e a1 (by omega) w
    · rw [if_neg (fun w => q w.1)]
      rcases h3 with ⟨r1, r2⟩ | ⟨r1, r2, r3⟩
      · refine .inl ⟨r1, fun e a1 a2 => ?_⟩
        by_cases g : e = c
        · subst g; exact q
        · exact r2 e a1 (by omega)
      · refine .inr ⟨r1, r2, fun e a1 a2 w => ?_⟩
        by_cases g : e = c
        · subst g; exact (q w).elim
        · exact r3 e a1 (by omega) w
def rk (z : Z) (b : Int) : Int := if b = -1 then -1 else zAh z b
theorem cNw_s {P : Mem} {z : Z} {T B K b : Int} (hb : b = -1 ∨ 0 ≤ b ∧ b < 64) (h : RR P z T B K) (hr : rk z b < 63) : (0 ≤ cNw P b ∧ cNw P b < 64) ∧ zAh z (cNw P b) = rk z b + 1 := by
  have hI := h.2.2.2.2.2
  have s := cNwF_s hb h 64 0 (-1) (by omega) (by omega) (.inl ⟨rfl, fun e a b => by omega⟩)
  unfold cNw
  generalize cNwF P b 64 0 (-1) = n at *
  rcases hb with rfl | hb
  · rcases s with ⟨s1, s2⟩ | ⟨s1, s2, s3⟩
    · exact (s2 0 (by omega) (by omega) cWk_m).elim
    · refine ⟨s1, ?_⟩
      rw [sl_first s1 hI (fun e a1 a2 => s3 e a1 a2 cWk_m)]; unfold rk; rw [if_pos rfl]; rfl
  · unfold rk at *
    rw [if_neg (by omega)] at *
    obtain ⟨e, he, hs⟩ := sl_more hb hI hr
    rcases s with ⟨s1, s2⟩ | ⟨s1, s2, s3⟩
    · exact (s2 e he.1 he.2 ((cWk_e hb he h.1 hI).mpr hs)).elim
    · refine ⟨s1, ?_⟩
      exact sl_succ hb s1 hI ((cWk_e hb s1 h.1 hI).mp s2) (fun e a1 a2 w => s3 e a1 a2 ((cWk_e hb ⟨a1, a2⟩ h.1 hI).mpr w))
theorem zWst_u {z : Z} {T B p c0 : Int} (h0 : 0 ≤ c0 ∧ c0 < 64) (hp : zAh z c0 = p) (hI : IZ z T B) : ∀ (d : Nat) (c : Int), c + d = 64 → 0 ≤ c → c ≤ c0 → zWstF z p d c = c0 := by
  intro d
  induction d with
  | zero => intro c h1 h2 h3; omega
  | succ d ih =>
    intro c h1 h2 h3
    have hc : 0 ≤ c ∧ c < 64 := by omega
    rw [zWstF]
    by_cases q : zAh z c = p
    · rw [if_pos q]
      by_cases f : c = c0
      · exact f
      · exfalso
        have : sl z c c0 ∨ sl z c0 c := by unfold sl; omega
        rcases this with w | w
        · have := sl_lt hc h0 hI w; omega
        · have := sl_lt h0 hc hI w; omega
    · rw [if_neg q]
      exact ih (c + 1) (by omega) (by omega) (by
        by_cases f : c = c0
        · subst f; exact (q hp).elim
        · omega)
theorem cNw_z {P : Mem} {z : Z} {T B K b : Int} (hb : b = -1 ∨ 0 ≤ b ∧ b < 64) (h : RR P z T B K) (hr : rk z b < 63) : cNw P b = zWst z (rk z b + 1) := by
  obtain ⟨a, e⟩ := cNw_s hb h hr
  exact (zWst_u a e h.2.2.2.2.2 64 0 (by omega) (by omega) a.1).symm
theorem q_ws {P : Mem} {z : Z} {T B K : Int} (h : RR P z T B K) : ∀ (d : Nat) (b : Int), (b = -1 ∨ 0 ≤ b ∧ b < 64) → rk z b + d < 63 → cWsF P (d + 1) b = zWst z (rk z b + d + 1) := by
  intro d
  induction d with
  | zero =>
    intro b hb hr
    rw [cWsF, cWsF, cNw_z hb h (by omega)]
    rw [show rk z b + ((0 : Nat) : Int) + 1 = rk z b + 1 by omega]
  | succ d ih =>
    intro b hb hr
    obtain ⟨a, e⟩ := cNw_s hb h (by omega)
    have ek : rk z (cNw P b) = rk z b + 1 := by
      show (if cNw P b = -1 then -1 else zAh z (cNw P b)) = _
      rw [if_neg (by omega)]; exact e
    rw [cWsF, ih (cNw P b) (.inr a) (by omega), ek]
    congr 1
    omega
theorem q_weakest {P : Mem} {z : Z} {T B K p : Int} (hp : 0 ≤ p ∧ p < 64) (h : RR P z T B K) : cWsF P (p + 1).toNat (-1) = zWst z p := by
  have := q_ws h p.toNat (-1) (.inl rfl) (by show (if (-1 : Int) = -1 then (-1 : Int) else zAh z (-1)) + _ < 63; rw [if_pos rfl]; omega)
  rw [show (p + 1).toNat = p.toNat + 1 by omega, this]
  congr 1
  show (if (-1 : Int) = -1 then (-1 : Int) else zAh z (-1)) + _ + 1 = p
  rw [if_pos rfl]; omega
theorem q_dgW {P : Mem} {z : Z} {T B K : Int} (h : RR P z T B K) : ∀ (d : Nat) (b : Int) (x : Int64), (b = -1 ∨ 0 ≤ b ∧ b < 64) → rk z b + d < 64 → dgW P d b x = fd (fun k y => mx y (i2 (zWst z k))) d (rk z b + 1) x := by
  intro d
  induction d with
  | zero => intro b x _ _; rfl
  | succ d ih =>
    intro b x hb hr
    obtain ⟨a, e⟩ := cNw_s hb h (by omega)
    have ek : rk z (cNw P b) = rk z b + 1 := by
      show (if cNw P b = -1 then -1 else zAh z (cNw P b)) = _
      rw [if_neg (by omega)]; exact e
    rw [dgW, fd, ih (cNw P b) _ (.inr a) (by omega), ek, cNw_z hb h (by omega)]

/-! the class: the plane, what its steps are -/
def cRent (P : Mem) (k : Int) : Int := P 1 0 * k
def cLL (P : Mem) (c : Int) : Int := if cLs P c = true then P 6 c - P 0 0 else 0
def cPL (P : Mem) (c : Int) : Int := if cHp P c = true then P 8 c - P 0 0 else 0
def cLeO (P : Mem) (c t k : Int) : Mem :=
  let P1 := up P 14 t (P 14 t - cRent P k)
  let P2 := up P1 0 2 (P1 0 2 + cRent P k)
  let P3 := up P2 5 c t
  up P3 6 c (P3 0 0 + k)
def cPrem (P : Mem) (c i k h : Int) : Int := (wr ((10 + h + 100 - P 4 c) * k * P 19 i)).tdiv 1000 + 1
def cRpl (P : Mem) (c : Int) : Mem :=
  let P1 := up P 0 2 (P 0 2 - P 1 7)
  let P2 := up P1 2 17 (P1 2 17 + P1 1 7)
  cPut (up P2 4 c 100) c false
def cEnC (P : Mem) (i t : Int) : Mem := if 512 ≤ P 0 10 then P else up (up P 23 (P 0 10) (i * 6 + t)) 0 10 (P 0 10 + 1)
def cPa (P : Mem) (i s t : Int) : Mem :=
  let P1 := up P 18 i (P 18 i - s)
  let P2 := up P1 22 i (P1 22 i + 1)
  let P3 := up P2 14 t (P2 14 t + s)
  up P3 16 t (P3 16 t + s)
def cPcF (i s : Int) : Nat → Int → Int → Mem → Mem × Int
  | 0, _, k, P => (P, k)
  | d + 1, j, k, P => if P 23 j / 6 = i ∧ wr s ≤ wr (P 18 i) then cPcF i s d (j + 1) k (cPa P i s (P 23 j % 6)) else cPcF i s d (j + 1) (k + 1) (up P 23 k (P 23 j))
def cPay (P : Mem) (i : Int) : Mem := up (cPcF i (P 20 i) (P 0 10).toNat 0 0 P).1 0 10 (cPcF i (P 20 i) (P 0 10).toNat 0 0 P).2
def cMkP (P : Mem) (c i k t p : Int) : Mem :=
  let P1 := up P 14 t (P 14 t - p)
  let P2 := up P1 18 i (P1 18 i + p)
  let P3 := up P2 21 i (P2 21 i + p)
  let P4 := up P3 7 c i
  up P4 8 c (P4 0 0 + k)
def cLoA (P : Mem) (c w : Int) : Mem :=
  let P1 := cPut P c false
  let P2 := up P1 9 c (P1 9 c + 1)
  up P2 2 w (P2 2 w + 1)
def cLoB (P : Mem) (t : Int) : Mem := up P 15 t (P 15 t + 1)
def cLo (P : Mem) (c w : Int) : Mem :=
  if wi (cLoA P c w 5 c) 0 (cLoA P c w 13 0 - 1) = true then
    if wi (cLoB (cLoA P c w) (cLoA P c w 5 c) 7 c) 0 (cLoB (cLoA P c w) (cLoA P c w 5 c) 17 0 - 1) = true then
      cPay (cEnC (cEp (cLoB (cLoA P c w) (cLoA P c w 5 c)) c) (cLoB (cLoA P c w) (cLoA P c w 5 c) 7 c) (cLoA P c w 5 c)) (cLoB (cLoA P c w) (cLoA P c w 5 c) 7 c)
    else cLoB (cLoA P c w) (cLoA P c w 5 c)
  else cLoA P c w
def cWqT (P : Mem) (t : Int) : Int := cntF (fun j => decide (P 23 j % 6 = wr t)) (P 0 10).toNat 0 0
def cWqI (P : Mem) (i : Int) : Int := cntF (fun j => decide (P 23 j / 6 = wr i)) (P 0 10).toNat 0 0
def cCR (P : Mem) (c : Int) : Bool := cLs P c && !cOw P c
def cFr (P : Mem) : Int64 := cBel P (P 1 5)
def cMx (a b : Int) : Int := if wr a < wr b then b else a
def cMn (a b : Int) : Int := if wr b < wr a then b else a
def cSbp (P : Mem) (c : Int) : Int := cMx 0 (P 4 c - 1 - (wr (P 0 1)).tdiv 25)
def cHb (P : Mem) (h : Int) : Int := cMn 100 (P 0 1 + h)
def cPuF (x : Int64) : Nat → Int → Mem → Mem
  | 0, _, P => P
  | d + 1, c, P => if x = 0 then P else cPuF x d (c + 1) (if tb x c = true then cLo P c 13 else P)
def cPul1 (P : Mem) (c : Int) : Mem := up P 4 c (cSbp P c)
def cPulL (P : Mem) (c : Int) : Mem := cPuF (cFr (cPul1 P c) &&& lin c) 64 0 (cPul1 P c)
def cPul (P : Mem) (c h : Int) : Mem := up (cPulL P c) 0 1 (cHb (cPulL P c) h)
def cHo (P : Mem) (c : Int) : Bool := decide (wr (P 1 4) ≤ wr (P 4 c))
def cWbA (P : Mem) (c : Int) (b : Bool) : Mem := cPut (cPul P c (P 1 1)) c (b && cHo (cPul P c (P 1 1)) c)
def cWb (P : Mem) (c : Int) (b : Bool) : Mem := if cOw (cWbA P c b) c = true then up (cStr (cWbA P c b) c) 2 14 (cStr (cWbA P c b) c 2 14 + 1) else cWbA P c b
def cRdA (P : Mem) (c : Int) : Mem := up (cPul P c (P 1 2)) 2 8 (cPul P c (P 1 2) 2 8 + 1)
def cRdB (P : Mem) (c : Int) : Mem := cPut (up P 2 9 (P 2 9 + 1)) c false
def cRd (P : Mem) (c : Int) : Mem := if cOne (cRdA P c) c = true then cEnt (cRdB (cRdA P c) c) c (cRdB (cRdA P c) c 0 0 + cRdB (cRdA P c) c 1 3) else cRdA P c
def cFbA (P : Mem) (c : Int) : Mem := cStr (cPul P c (P 1 1)) c
def cFb (P : Mem) : Mem :=
  if wi (cFi P) 0 63 = true then
    if cHo (cFbA P (cFi P)) (cFi P) = true then up (cPut (cFbA P (cFi P)) (cFi P) true) 2 10 (cPut (cFbA P (cFi P)) (cFi P) true 2 10 + 1) else cLo (cFbA P (cFi P)) (cFi P) 11
  else P
def cLtF : Nat → Mem → Mem
  | 0, P => P
  | d + 1, P => if wi (cFi P) 0 63 = true ∧ wr (cDu P (cFi P)) < wr (P 0 0) then cLtF d (cLo (cStr P (cFi P)) (cFi P) 12) else P
def cElO (P : Mem) (c : Int) : Mem := if cOw (cEl P c) c = true then up (cStr (cEl P c) c) 2 15 (cStr (cEl P c) c 2 15 + 1) else cEl P c
def cTcA (P : Mem) (c : Int) : Mem := if cHp P c = true ∧ wr (P 8 c) ≤ wr (P 0 0) then cEp P c else P
def cTcB (P : Mem) (c : Int) : Mem := if cLs P c = true ∧ wr (P 6 c) ≤ wr (P 0 0) then cElO P c else P
def cTcF : Nat → Int → Mem → Mem
  | 0, _, P => P
  | d + 1, c, P => cTcF d (c + 1) (cTcB (cTcA P c) c)
def cTk0 (P : Mem) : Mem := up (up P 0 0 (P 0 0 + 1)) 0 1 (cMx 0 (up P 0 0 (P 0 0 + 1) 0 1 - up P 0 0 (P 0 0 + 1) 1 6))
def cTk (P : Mem) : Mem := cTcF 64 0 (cLtF 64 (cTk0 P))
def cTkN : Nat → Mem → Mem
  | 0, P => P
  | d + 1, P => cTkN d (cTk P)
/-- what every step of a plane needs and keeps -/
def CV (P : Mem) : Prop := (0 ≤ P 13 0 ∧ P 13 0 ≤ 6) ∧ (0 ≤ P 17 0 ∧ P 17 0 ≤ 3) ∧ ((0 ≤ P 0 10 ∧ P 0 10 ≤ 512) ∧ ∀ j, 0 ≤ j → j < P 0 10 → 0 ≤ P 23 j ∧ P 23 j < 18) ∧ CD P ∧ ∀ c, 0 ≤ c → c < 64 → (-1 ≤ P 5 c ∧ P 5 c ≤ 5) ∧ -1 ≤ P 7 c ∧ P 7 c ≤ 2
def NV (d : Nat) (j : Int) : Prop := ¬ (d = 13 ∧ j = 0) ∧ ¬ (d = 17 ∧ j = 0) ∧ ¬ (d = 0 ∧ j = 10) ∧ ¬ d = 23 ∧ ¬ (d = 10 ∧ j = 0) ∧ ¬ d = 11 ∧ ¬ d = 5 ∧ ¬ d = 7
theorem CD_o {P : Mem} {d : Nat} {j v : Int} (h : ¬ (d = 10 ∧ j = 0) ∧ ¬ d = 11) (hp : CD P) : CD (up P d j v) := by
  unfold CD at *
  rw [up_ne (by omega)]
  exact ⟨hp.1, fun i a b => by rw [up_ne (by omega)]; exact hp.2 i a b⟩
theorem CV_up {P : Mem} {d : Nat} {j v : Int} (h : NV d j) (hp : CV P) : CV (up P d j v) := by
  unfold NV at h
  obtain ⟨a, b, c, e, f⟩ := hp
  refine ⟨by rw [up_ne (by omega)]; exact a, by rw [up_ne (by omega)]; exact b, ?_, CD_o (by omega) e, fun c h1 h2 => ?_⟩
  · rw [up_ne (by omega)]
    exact ⟨c.1, fun i h1 h2 => by rw [up_ne (by omega)]; exact c.2 i h1 h2⟩
  · rw [up_ne (by omega), up_ne (by omega)]; exact f c h1 h2
theorem CV_put {P : Mem} {c : Int} {b : Bool} (hp : CV P) : CV (cPut P c b) := CV_up (by unfold NV; omega) hp
theorem CV_7 {P : Mem} {c v : Int} (hv : -1 ≤ v ∧ v ≤ 2) (hp : CV P) : CV (up P 7 c v) := by
  obtain ⟨a, b, g, e, f⟩ := hp
  refine ⟨by rw [up_ne (by omega)]; exact a, by rw [up_ne (by omega)]; exact b, ?_, CD_o (by omega) e, fun i h1 h2 => ?_⟩
  · rw [up_ne (by omega)]
    exact ⟨g.1, fun i h1 h2 => by rw [up_ne (by omega)]; exact g.2 i h1 h2⟩
  · have e5 : up P 7 c v 5 i = P 5 i := up_ne (by omega)
    rw [e5]
    refine ⟨(f i h1 h2).1, ?_⟩
    by_cases q : i = c
    · rw [q, up_at]; exact hv
    · rw [up_ne (by omega)]; exact (f i h1 h2).2
theorem CV_5 {P : Mem} {c v : Int} (hv : -1 ≤ v ∧ v ≤ 5) (hp : CV P) : CV (up P 5 c v) := by
  obtain ⟨a, b, g, e, f⟩ := hp
  refine ⟨by rw [up_ne (by omega)]; exact a, by rw [up_ne (by omega)]; exact b, ?_, CD_o (by omega) e, fun i h1 h2 => ?_⟩
  · rw [up_ne (by omega)]
    exact ⟨g.1, fun i h1 h2 => by rw [up_ne (by omega)]; exact g.2 i h1 h2⟩
  · have e7 : up P 5 c v 7 i = P 7 i := up_ne (by omega)
    rw [e7]
    refine ⟨?_, (f i h1 h2).2⟩
    by_cases q : i = c
    · rw [q, up_at]; exact hv
    · rw [up_ne (by omega)]; exact (f i h1 h2).1
theorem CV_enC {P : Mem} {i t : Int} (hi : 0 ≤ i ∧ i < 3) (ht : 0 ≤ t ∧ t < 6) (hp : CV P) : CV (cEnC P i t) := by
  unfold cEnC
  split
  · exact hp
  · rename_i hn
    obtain ⟨a, b, g, e, f⟩ := hp
    have e1 : ∀ (k : Nat) (j : Int), ¬ (k = 0 ∧ j = 10) → ¬ (k = 23 ∧ j = P 0 10) → up (up P 23 (P 0 10) (i * 6 + t)) 0 10 (P 0 10 + 1) k j = P k j := fun k j h1 h2 => by rw [up_ne h1, up_ne h2]
    refine ⟨by rw [e1 _ _ (by omega) (by omega)]; exact a, by rw [e1 _ _ (by omega) (by omega)]; exact b, ?_, ?_, fun c h1 h2 => by rw [e1 _ _ (by omega) (by omega), e1 _ _ (by omega) (by omega)]; exact f c h1 h2⟩
    · rw [up_at]
      refine ⟨by omega, fun j h1 h2 => ?_⟩
      by_cases q : j = P 0 10
      · rw [q, up_ne (by omega), up_at]; omega
      · rw [e1 _ _ (by omega) (by omega)]; exact g.2 j h1 (by omega)
    · unfold CD
      rw [e1 _ _ (by omega) (by omega)]
      exact ⟨e.1, fun j h1 h2 => by rw [e1 _ _ (by omega) (by omega)]; exact e.2 j h1 h2⟩
theorem CV_pa {P : Mem} {i s t : Int} (hp : CV P) : CV (cPa P i s t) := by
  unfold cPa
  exact CV_up (by unfold NV; omega) (CV_up (by unfold NV; omega) (CV_up (by unfold NV; omega) (CV_up (by unfold NV; omega) hp)))
theorem cPa_o {P : Mem} {i s t : Int} {k : Nat} {j : Int} (h : ¬ k = 18 ∧ ¬ k = 22 ∧ ¬ k = 14 ∧ ¬ k = 16) : cPa P i s t k j = P k j := by
  simp only [cPa]; rw [up_ne (by omega), up_ne (by omega), up_ne (by omega), up_ne (by omega)]
theorem CV_23 {P : Mem} {k v : Int} (hv : 0 ≤ v ∧ v < 18) (hp : CV P) : CV (up P 23 k v) := by
  obtain ⟨a, b, g, e, f⟩ := hp
  refine ⟨by rw [up_ne (by omega)]; exact a, by rw [up_ne (by omega)]; exact b, ?_, CD_o (by omega) e, fun i h1 h2 => ?_⟩
  · have e0 : up P 23 k v 0 10 = P 0 10 := up_ne (by omega)
    rw [e0]
    refine ⟨g.1, fun j h1 h2 => ?_⟩
    by_cases q : j = k
    · rw [q, up_at]; exact hv
    · rw [up_ne (by omega)]; exact g.2 j h1 h2
  · rw [up_ne (by omega), up_ne (by omega)]; exact f i h1 h2
theorem CV_pcF {i s : Int} : ∀ (d : Nat) (j k : Int) (P : Mem), j + d = P 0 10 → 0 ≤ k → k ≤ j → CV P → CV (cPcF i s d j k P).1 ∧ (cPcF i s d j k P).1 0 10 = P 0 10 ∧ 0 ≤ (cPcF i s d j k P).2 ∧ (cPcF i s d j k P).2 ≤ P 0 10 := by
  intro d
  induction d with
  | zero => intro j k P h1 h2 h3 hp; simp only [cPcF]; exact ⟨hp, trivial, h2, by omega⟩
  | succ d ih =>
    intro j k P h1 h2 h3 hp
    rw [cPcF]
    have hb := hp.2.2.1.2 j (by omega) (by omega)
    split
    · have e0 : cPa P i s (P 23 j % 6) 0 10 = P 0 10 := cPa_o (by omega)
      have h := ih (j + 1) k _ (by rw [e0]; omega) h2 (by omega) (CV_pa (i := i) (s := s) (t := P 23 j % 6) hp)
      rw [e0] at h; exact h
    · have e0 : up P 23 k (P 23 j) 0 10 = P 0 10 := up_ne (by omega)
      have h := ih (j + 1) (k + 1) _ (by rw [e0]; omega) (by omega) (by omega) (CV_23 (k := k) hb hp)
      rw [e0] at h; exact h
theorem CV_pay {P : Mem} {i : Int} (hp : CV P) : CV (cPay P i) := by
  have h0 := hp.2.2.1.1
  obtain ⟨⟨a, b, g, e, f⟩, h2, h3, h4⟩ := CV_pcF (i := i) (s := P 20 i) (P 0 10).toNat 0 0 P (by omega) (by omega) (by omega) hp
  unfold cPay
  refine ⟨by rw [up_ne (by omega)]; exact a, by rw [up_ne (by omega)]; exact b, ?_, CD_o (by omega) e, fun i h1 h2 => ?_⟩
  · rw [up_at]
    exact ⟨by omega, fun j q1 q2 => by rw [up_ne (by omega)]; exact g.2 j q1 (by omega)⟩
  · rw [up_ne (by omega), up_ne (by omega)]; exact f i h1 h2
theorem CV_loA {P : Mem} {c w : Int} (hp : CV P) : CV (cLoA P c w) := by
  unfold cLoA
  exact CV_up (by unfold NV; omega) (CV_up (by unfold NV; omega) (CV_put hp))
theorem CV_lo {P : Mem} {c w : Int} (hc : 0 ≤ c ∧ c < 64) (hp : CV P) : CV (cLo P c w) := by
  have h1 := CV_loA (c := c) (w := w) hp
  have h2 : CV (cLoB (cLoA P c w) (cLoA P c w 5 c)) := CV_up (by unfold NV; omega) h1
  have b1 := h1.2.2.2.2 c hc.1 hc.2
  have b2 := h2.2.2.2.2 c hc.1 hc.2
  unfold cLo
  split
  · rename_i q1
    have q1 := of_decide_eq_true q1
    split
    · rename_i q2
      have q2 := of_decide_eq_true q2
      exact CV_pay (CV_enC ⟨by omega, by omega⟩ ⟨by omega, by omega⟩ (CV_7 (by omega) h2))
    · exact h2
  · exact h1
theorem CV_puF {x : Int64} : ∀ (d : Nat) (c : Int) (P : Mem), c + d = 64 → 0 ≤ c → CV P → CV (cPuF x d c P) := by
  intro d
  induction d with
  | zero => intro c P _ _ h; exact h
  | succ d ih =>
    intro c P h1 h2 h
    rw [cPuF]
    split
    · exact h
    · refine ih _ _ (by omega) (by omega) ?_
      split
      · exact CV_lo ⟨h2, by omega⟩ h
      · exact h
theorem CV_pul {P : Mem} {c h : Int} (hp : CV P) : CV (cPul P c h) :=
  CV_up (by unfold NV; omega) (CV_puF 64 0 _ (by omega) (by omega) (CV_up (by unfold NV; omega) hp))
theorem cStF_D (c : Int) : ∀ (d : Nat) (i k : Int) (P : Mem), i + d = P 10 0 → 0 ≤ k → k ≤ i → CD P →
    (∀ (e : Nat) (j : Int), ¬ e = 11 → (cStF c d i k P).1 e j = P e j) ∧ (∀ j, 0 ≤ j → j < P 10 0 → 0 ≤ (cStF c d i k P).1 11 j ∧ (cStF c d i k P).1 11 j < 64) ∧ 0 ≤ (cStF c d i k P).2 ∧ (cStF c d i k P).2 ≤ P 10 0 := by
  intro d
  induction d with
  | zero => intro i k P h1 h2 h3 hp; simp only [cStF]; exact ⟨fun _ _ _ => trivial, hp.2, h2, by omega⟩
  | succ d ih =>
    intro i k P h1 h2 h3 hp
    rw [cStF]
    split
    · exact ih (i + 1) k P (by omega) h2 (by omega) hp
    · have hb := hp.2 i (by omega) (by omega)
      have e0 : up P 11 k (P 11 i) 10 0 = P 10 0 := up_ne (by omega)
      have hd : CD (up P 11 k (P 11 i)) := by
        unfold CD
        rw [e0]
        refine ⟨hp.1, fun j q1 q2 => ?_⟩
        by_cases q : j = k
        · rw [q, up_at]; exact hb
        · rw [up_ne (by omega)]; exact hp.2 j q1 q2
      obtain ⟨a, b, g, f⟩ := ih (i + 1) (k + 1) _ (by rw [e0]; omega) (by omega) (by omega) hd
      rw [e0] at b f
      exact ⟨fun e j he => by rw [a e j he, up_ne (by omega)], b, g, f⟩
theorem CV_str {P : Mem} {c : Int} (hp : CV P) : CV (cStr P c) := by
  unfold cStr
  split
  · obtain ⟨a, b, g, e, f⟩ := hp
    have h0 := e.1
    obtain ⟨q1, q2, q3, q4⟩ := cStF_D c (P 10 0).toNat 0 0 P (by omega) (by omega) (by omega) e
    have e1 : ∀ (k : Nat) (j : Int), ¬ k = 11 → ¬ k = 12 → ¬ (k = 10 ∧ j = 0) → up (up (cStF c (P 10 0).toNat 0 0 P).1 12 c (-1)) 10 0 (cStF c (P 10 0).toNat 0 0 P).2 k j = P k j := fun k j h1 h2 h3 => by rw [up_ne h3, up_ne (by omega), q1 k j h1]
    refine ⟨by rw [e1 _ _ (by omega) (by omega) (by omega)]; exact a, by rw [e1 _ _ (by omega) (by omega) (by omega)]; exact b, ?_, ?_, fun i h1 h2 => by rw [e1 _ _ (by omega) (by omega) (by omega), e1 _ _ (by omega) (by omega) (by omega)]; exact f i h1 h2⟩
    · rw [e1 _ _ (by omega) (by omega) (by omega)]
      exact ⟨g.1, fun j h1 h2 => by rw [e1 _ _ (by omega) (by omega) (by omega)]; exact g.2 j h1 h2⟩
    · unfold CD
      rw [up_at]
      exact ⟨by omega, fun j h1 h2 => by rw [up_ne (by omega), up_ne (by omega)]; exact q2 j h1 (by omega)⟩
  · exact hp
theorem cEnF_D (c t : Int) (hc : 0 ≤ c ∧ c < 64) : ∀ (k : Nat) (P : Mem), (∀ j : Int, 0 ≤ j → j < k → 0 ≤ P 11 j ∧ P 11 j < 64) →
    (∀ (e : Nat) (j : Int), ¬ e = 11 → cEnF c t k P e j = P e j) ∧ (∀ j : Int, (k : Int) < j → cEnF c t k P 11 j = P 11 j) ∧ ∀ j : Int, 0 ≤ j → j < k + 1 → 0 ≤ cEnF c t k P 11 j ∧ cEnF c t k P 11 j < 64 := by
  intro k
  induction k with
  | zero =>
    intro P h
    refine ⟨fun e j he => by rw [cEnF, up_ne (by omega)], fun j hj => by rw [cEnF, up_ne (by omega)], fun j h1 h2 => ?_⟩
    rw [cEnF, show j = ((0 : Nat) : Int) by omega, up_at]; exact hc
  | succ k ih =>
    intro P h
    have hb := h (k : Int) (by omega) (by omega)
    rw [cEnF]
    split
    · obtain ⟨a, b, g⟩ := ih (up P 11 ((k + 1 : Nat) : Int) (P 11 (k : Int))) (fun j h1 h2 => by rw [up_ne (by omega)]; exact h j h1 (by omega))
      refine ⟨fun e j he => by rw [a e j he, up_ne (by omega)], fun j hj => by rw [b j (by omega), up_ne (by omega)], fun j h1 h2 => ?_⟩
      by_cases q : j < k + 1
      · exact g j h1 q
      · rw [b j (by omega), show j = ((k + 1 : Nat) : Int) by omega, up_at]; exact hb
    · refine ⟨fun e j he => by rw [up_ne (by omega)], fun j hj => by rw [up_ne (by omega)], fun j h1 h2 => ?_⟩
      by_cases q : j = ((k + 1 : Nat) : Int)
      · rw [q, up_at]; exact hc
      · rw [up_ne (by omega)]; exact h j h1 (by omega)
theorem CV_ent {P : Mem} {c t : Int} (hc : 0 ≤ c ∧ c < 64) (hp : CV P) : CV (cEnt P c t) := by
  unfold cEnt
  split
  · exact hp
  · rename_i hn
    obtain ⟨a, b, g, e, f⟩ := hp
    have h0 := e.1
    have hn : ¬ 64 ≤ P 10 0 := fun q => hn (Or.inl q)
    obtain ⟨q1, q2, q3⟩ := cEnF_D c t hc (P 10 0).toNat P (fun j h1 h2 => e.2 j h1 (by omega))
    have e2 : up (cEnF c t (P 10 0).toNat P) 12 c t 10 0 = P 10 0 := by rw [up_ne (by omega), q1 _ _ (by omega)]
    have e1 : ∀ (k : Nat) (j : Int), ¬ k = 11 → ¬ k = 12 → ¬ (k = 10 ∧ j = 0) → up (up (cEnF c t (P 10 0).toNat P) 12 c t) 10 0 (up (cEnF c t (P 10 0).toNat P) 12 c t 10 0 + 1) k j = P k j := fun k j h1 h2 h3 => by rw [up_ne h3, up_ne (by omega), q1 k j h1]
    refine ⟨by rw [e1 _ _ (by omega) (by omega) (by omega)]; exact a, by rw [e1 _ _ (by omega) (by omega) (by omega)]; exact b, ?_, ?_, fun i h1 h2 => by rw [e1 _ _ (by omega) (by omega) (by omega), e1 _ _ (by omega) (by omega) (by omega)]; exact f i h1 h2⟩
    · rw [e1 _ _ (by omega) (by omega) (by omega)]
      exact ⟨g.1, fun j h1 h2 => by rw [e1 _ _ (by omega) (by omega) (by omega)]; exact g.2 j h1 h2⟩
    · unfold CD
      rw [up_at, e2]
      exact ⟨by omega, fun j h1 h2 => by rw [up_ne (by omega), up_ne (by omega)]; exact q3 j h1 (by omega)⟩
theorem CV_wb {P : Mem} {c : Int} {b : Bool} (hp : CV P) : CV (cWb P c b) := by
  have h1 : CV (cWbA P c b) := CV_put (CV_pul hp)
  unfold cWb
  split
  · exact CV_up (by unfold NV; omega) (CV_str h1)
  · exact h1
theorem CV_rd {P : Mem} {c : Int} (hc : 0 ≤ c ∧ c < 64) (hp : CV P) : CV (cRd P c) := by
  have h1 : CV (cRdA P c) := CV_up (by unfold NV; omega) (CV_pul hp)
  unfold cRd
  split
  · exact CV_ent hc (CV_put (CV_up (by unfold NV; omega) h1))
  · exact h1
theorem CV_fb {P : Mem} (hp : CV P) : CV (cFb P) := by
  have h1 : CV (cFbA P (cFi P)) := CV_str (CV_pul hp)
  unfold cFb
  split
  · rename_i q
    have q := of_decide_eq_true q
    split
    · exact CV_up (by unfold NV; omega) (CV_put h1)
    · exact CV_lo ⟨by omega, by omega⟩ h1
  · exact hp
theorem CV_ltF : ∀ (d : Nat) (P : Mem), CV P → CV (cLtF d P) := by
  intro d
  induction d with
  | zero => intro P h; exact h
  | succ d ih =>
    intro P h
    rw [cLtF]
    split
    · rename_i q
      have q := of_decide_eq_true q.1
      exact ih _ (CV_lo ⟨by omega, by omega⟩ (CV_str h))
    · exact h
theorem CV_elO {P : Mem} {c : Int} (hp : CV P) : CV (cElO P c) := by
  have h1 : CV (cEl P c) := CV_7 (by omega) (CV_5 (by omega) hp)
  unfold cElO
  split
  · exact CV_up (by unfold NV; omega) (CV_str h1)
  · exact h1
theorem CV_tcA {P : Mem} {c : Int} (hp : CV P) : CV (cTcA P c) := by
  unfold cTcA
  split
  · exact CV_7 (by omega) hp
  · exact hp
theorem CV_tcB {P : Mem} {c : Int} (hp : CV P) : CV (cTcB P c) := by
  unfold cTcB
  split
  · exact CV_elO hp
  · exact hp
theorem CV_tcF : ∀ (d : Nat) (c : Int) (P : Mem), CV P → CV (cTcF d c P) := by
  intro d
  induction d with
  | zero => intro c P h; exact h
  | succ d ih => intro c P h; rw [cTcF]; exact ih _ _ (CV_tcB (CV_tcA h))
theorem CV_tk0 {P : Mem} (hp : CV P) : CV (cTk0 P) := CV_up (by unfold NV; omega) (CV_up (by unfold NV; omega) hp)
theorem CV_tk {P : Mem} (hp : CV P) : CV (cTk P) := by unfold cTk; exact CV_tcF 64 0 _ (CV_ltF 64 _ (CV_tk0 hp))
theorem CV_tkN : ∀ (d : Nat) (P : Mem), CV P → CV (cTkN d P) := by
  intro d
  induction d with
  | zero => intro P h; exact h
  | succ d ih => intro P h; rw [cTkN]; exact ih _ (CV_tk h)

/-! the class: its hash -/
def mx (h v : Int64) : Int64 := 31 * h + v
def fd (g : Int → Int64 → Int64) : Nat → Int → Int64 → Int64
  | 0, _, h => h
  | d + 1, k, h => fd g d (k + 1) (g k h)
def dgC1 (P : Mem) (c w : Int) (h : Int64) : Int64 := mx h (i2 (cCN P c w))
def dgC2 (P : Mem) (x : Int64) (c : Int) (h : Int64) : Int64 := mx (fd (dgC1 P c) 9 0 h) (i2 (bc (x &&& lin c)))
def dgT1 (P : Mem) (t w : Int) (h : Int64) : Int64 := mx h (i2 (cTN P t w))
def dgT2 (P : Mem) (t : Int) (h : Int64) : Int64 := mx (fd (dgT1 P t) 6 0 h) (i2 (cRk P t))
def dgI1 (P : Mem) (t w : Int) (h : Int64) : Int64 := mx h (i2 (cIN P t w))
def dgI2 (P : Mem) (t : Int) (h : Int64) : Int64 := fd (dgI1 P t) 7 0 h
def dgD1 (P : Mem) (p : Int) (h : Int64) : Int64 := mx (mx h (i2 (cOwd P p 0))) (i2 (cOwd P p 1))
def dgX1 (m : Mem) (k : Int) (h : Int64) : Int64 := mx h (i2 (tC m k))
def dgCnt (P : Mem) (s k : Int) (h : Int64) : Int64 := mx h (i2 (cCnt P s k))
def dgSet (P : Mem) (k : Int) (h : Int64) : Int64 := mx h (i2 (P 1 k))
def dgW (P : Mem) : Nat → Int → Int64 → Int64
  | 0, _, h => h
  | d + 1, b, h => dgW P d (cNw P b) (mx h (i2 (cNw P b)))
def dgX (m : Mem) (h : Int64) : Int64 := fd (dgX1 m) (m 195 0).toNat 0 (mx h (i2 (m 195 0)))
def dgP (P : Mem) (s : Int) : Int64 := fd (dgD1 P) (P 10 0).toNat 0 (fd (dgI2 P) (P 17 0).toNat 0 (fd (dgT2 P) (P 13 0).toNat 0 (fd (dgC2 P (cFr P)) 64 0 (fd (dgSet P) 8 0 (fd (dgCnt P s) 19 0 2351)))))
def dgQ1 (m P : Mem) : Mem := ps m 25 (cSvE (pg m 25) P 1)
def dgQ2 (m P : Mem) : Mem := ps (dgQ1 m P) 25 (cSvE (pg (dgQ1 m P) 25) P 3)
def cDg (m P : Mem) : Int64 := dgX (dgQ2 m P) (mx (mx (mx (mx (dgW P 8 (-1) (dgP P (m 49 0))) (i2 (cG P))) (i2 (cSvE (pg m 25) P 1 2 10 - P 2 10))) (i2 (cSvE (pg (dgQ1 m P) 25) P 3 2 10 - P 2 10))) (cBk P).toInt64)
theorem bcP_cg {T P Q : Mem} (h : ∀ d, d < 24 → P d = Q d) : bcP T P = bcP T Q := by
  have h0 := h 0 (by decide)
  have h1 := h 1 (by decide)
  have h2 := h 2 (by decide)
  have h3 := h 3 (by decide)
  have h4 := h 4 (by decide)
  have h5 := h 5 (by decide)
  have h6 := h 6 (by decide)
  have h7 := h 7 (by decide)
  have h8 := h 8 (by decide)
  have h9 := h 9 (by decide)
  have h10 := h 10 (by decide)
  have h11 := h 11 (by decide)
  have h12 := h 12 (by decide)
  have h13 := h 13 (by decide)
  have h14 := h 14 (by decide)
  have h15 := h 15 (by decide)
  have h16 := h 16 (by decide)
  have h17 := h 17 (by decide)
  have h18 := h 18 (by decide)
  have h19 := h 19 (by decide)
  have h20 := h 20 (by decide)
  have h21 := h 21 (by decide)
  have h22 := h 22 (by decide)
  have h23 := h 23 (by decide)
  unfold bcP bcA bcI bcT bcD bcC
  simp only [h0, h1, h2, h3, h4, h5, h6, h7, h8, h9, h10, h11, h12, h13, h14, h15, h16, h17, h18, h19, h20, h21, h22, h23]
theorem CV_cg {P Q : Mem} (h : ∀ d, d < 24 → P d = Q d) (hV : CV P) : CV Q := by
  have h0 := h 0 (by decide)
  have h5 := h 5 (by decide)
  have h7 := h 7 (by decide)
  have h10 := h 10 (by decide)
  have h11 := h 11 (by decide)
  have h13 := h 13 (by decide)
  have h17 := h 17 (by decide)
  have h23 := h 23 (by decide)
  unfold CV CD at *
  simp only [h0, h5, h7, h10, h11, h13, h17, h23] at hV
  exact hV
theorem cSvE_cg {T P Q : Mem} {p : Int} (h : ∀ d, d < 24 → P d = Q d) : cSvE T P p = cSvE T Q p := by unfold cSvE; rw [bcP_cg h]
theorem pg_ps {m P : Mem} {b : Nat} : ∀ d, d < 24 → pg (ps m b P) b d = P d := fun d hd => ps_at hd
theorem pg1_25 {m P : Mem} : pg (ps m 1 P) 25 = pg m 25 := by
  funext d
  exact ps_ne (by omega)
theorem ps_25_1 {m P Q : Mem} : ps (ps m 1 P) 25 Q = ps (ps m 25 Q) 1 P := by
  funext k
  unfold ps
  by_cases h1 : 1 ≤ k ∧ k < 1 + 24
  · rw [if_pos h1, if_pos h1, if_neg (by omega)]
  · rw [if_neg h1, if_neg h1]
theorem cp_savable {G : GX} {sh : List SH} (E : EV G sh) {m P : Mem} {p : Int} (r_p : -2147483648 ≤ p ∧ p < 2147483648) (p0 : 1 ≤ p ∧ p ≤ 9) (hV : CV P) : CT G sh iX7_savable 0 0 [.inr (.ref 0), .inl p] (ps m 1 P) (some (.inl (cSvE (pg m 25) P p 2 10 - P 2 10))) (ps (ps m 25 (cSvE (pg m 25) P p)) 1 P) := by
  have h := ct_X7_savable (m := ps m 1 P) (Q := pg m 25) E r_p p0 (CV_cg (fun d hd => (pg_ps d hd).symm) hV)
  have e1 : ps (ps m 1 P) 25 (pg m 25) = ps m 1 P := by rw [ps_25_1, ps_pg]
  have e2 : cSvE (pg m 25) (pg (ps m 1 P) 1) p = cSvE (pg m 25) P p := cSvE_cg pg_ps
  have e3 : ps m 1 P 3 = P 2 := ps_at (b := 1) (d := 2) (by decide)
  rw [e1, e2, e3, ps_25_1] at h
  exact h
theorem d_e (e : Int64) (d : Nat) : e - 1 - Int64.ofNat d = e - Int64.ofNat (d + 1) := by
  rw [Int64.ofNat_add]
  apply Int64.toBitVec_inj.mp
  simp only [Int64.toBitVec_sub, Int64.toBitVec_add]
  show e.toBitVec - 1#64 - (Int64.ofNat d).toBitVec = e.toBitVec - ((Int64.ofNat d).toBitVec + 1#64)
  generalize (Int64.ofNat d).toBitVec = u
  generalize e.toBitVec = v
  bv_omega

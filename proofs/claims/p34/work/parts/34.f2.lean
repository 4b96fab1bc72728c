/-! plain mathematics: masks -/
theorem msk_nx : ∀ c : Fin 64, nx (msk (c.val : Int)) = 2 ^ c.val := by decide +kernel
theorem nat_c {c : Int} (h : 0 ≤ c ∧ c < 64) : ∃ n : Nat, n < 64 ∧ c = n := ⟨c.toNat, by omega, by omega⟩
theorem and_2p (X n : Nat) : X &&& 2 ^ n = (X.testBit n).toNat * 2 ^ n := by
  apply Nat.eq_of_testBit_eq
  intro i
  rw [Nat.testBit_and, Nat.testBit_two_pow]
  by_cases q : n = i
  · subst q
    cases X.testBit n <;> simp
  · rw [decide_eq_false q]
    cases X.testBit n <;> simp [Nat.testBit_two_pow, q]
theorem tb_nat {x : Int64} {n : Nat} (h : n < 64) : tb x (n : Int) = (nx x).testBit n := by
  have e : nx (x &&& msk (n : Int)) = ((nx x).testBit n).toNat * 2 ^ n := by rw [nx_and, msk_nx ⟨n, h⟩, and_2p]
  have p := Nat.two_pow_pos n
  unfold tb
  cases hb : (nx x).testBit n with
  | false =>
    rw [hb] at e
    refine decide_eq_false (fun q => q (nx_inj (e.trans ?_)))
    simp
    rfl
  | true =>
    rw [hb] at e
    refine decide_eq_true (fun q => ?_)
    rw [q] at e
    have e0 : nx (0 : Int64) = 0 := by decide
    rw [e0] at e
    simp at e
    omega
theorem tb_or {x y : Int64} {c : Int} (h : 0 ≤ c ∧ c < 64) : tb (x ||| y) c = (tb x c || tb y c) := by
  obtain ⟨n, hn, rfl⟩ := nat_c h
  rw [tb_nat hn, tb_nat hn, tb_nat hn, nx_or, Nat.testBit_or]
theorem tb_and {x y : Int64} {c : Int} (h : 0 ≤ c ∧ c < 64) : tb (x &&& y) c = (tb x c && tb y c) := by
  obtain ⟨n, hn, rfl⟩ := nat_c h
  rw [tb_nat hn, tb_nat hn, tb_nat hn, nx_and, Nat.testBit_and]
theorem tb_msk {k c : Int} (hk : 0 ≤ k ∧ k < 64) (h : 0 ≤ c ∧ c < 64) : tb (msk k) c = decide (c = k) := by
  obtain ⟨n, hn, rfl⟩ := nat_c h
  obtain ⟨j, hj, rfl⟩ := nat_c hk
  rw [tb_nat hn, msk_nx ⟨j, hj⟩, Nat.testBit_two_pow]
  by_cases q : j = n
  · subst q; simp
  · rw [decide_eq_false q, decide_eq_false (by omega)]
theorem nmsk_t : ∀ k c : Fin 64, tb (msk (k.val : Int) ^^^ -1) (c.val : Int) = decide (¬ c = k) := by decide +kernel
theorem tb_nmsk {k c : Int} (hk : 0 ≤ k ∧ k < 64) (h : 0 ≤ c ∧ c < 64) : tb (msk k ^^^ -1) c = decide (¬ c = k) := by
  obtain ⟨n, hn, rfl⟩ := nat_c h
  obtain ⟨j, hj, rfl⟩ := nat_c hk
  rw [nmsk_t ⟨j, hj⟩ ⟨n, hn⟩]
  simp only [Fin.mk.injEq, Int.ofNat_inj, decide_not]
theorem tb_0 {c : Int} : tb 0 c = false := decide_eq_false (fun q => q (by simp))
theorem lin_t : ∀ k c : Fin 64, tb (lin (k.val : Int)) (c.val : Int) = zLin k c := by decide +kernel
theorem tb_lin {k c : Int} (hk : 0 ≤ k ∧ k < 64) (h : 0 ≤ c ∧ c < 64) : tb (lin k) c = zLin k c := by
  obtain ⟨n, hn, rfl⟩ := nat_c h
  obtain ⟨j, hj, rfl⟩ := nat_c hk
  exact lin_t ⟨j, hj⟩ ⟨n, hn⟩
theorem tb_kF {p : Int → Bool} : ∀ (d : Nat) (k : Int) (x : Int64) {c : Int}, k + d = 64 → 0 ≤ k → 0 ≤ c ∧ c < 64 → tb (kF p d k x) c = (tb x c || (decide (k ≤ c) && p c)) := by
  intro d
  induction d with
  | zero => intro k x c h1 h2 h3; rw [kF, decide_eq_false (by omega)]; simp
  | succ d ih =>
    intro k x c h1 h2 h3
    rw [kF, ih _ _ (by omega) (by omega) h3]
    by_cases hp : p k = true
    · rw [if_pos hp, tb_or h3, tb_msk (by omega) h3]
      by_cases q : c = k
      · subst q; simp [hp]
      · by_cases q2 : k ≤ c
        · rw [decide_eq_true (show k + 1 ≤ c by omega), decide_eq_true q2, decide_eq_false q]; simp
        · rw [decide_eq_false (show ¬ k + 1 ≤ c by omega), decide_eq_false q2, decide_eq_false q]; simp
    · rw [if_neg hp]
      by_cases q : c = k
      · subst q; rw [decide_eq_false (show ¬ c + 1 ≤ c by omega), decide_eq_true (Int.le_refl c)]; simp [hp]
      · by_cases q2 : k ≤ c
        · rw [decide_eq_true (show k + 1 ≤ c by omega), decide_eq_true q2]
        · rw [decide_eq_false (show ¬ k + 1 ≤ c by omega), decide_eq_false q2]
theorem tb_k {p : Int → Bool} {c : Int} (h : 0 ≤ c ∧ c < 64) : tb (kF p 64 0 0) c = p c := by
  rw [tb_kF 64 0 0 (by omega) (by omega) h, tb_0, decide_eq_true h.1]; simp
theorem pcn_cnt {p : Int → Bool} {X : Nat} (hp : ∀ n : Nat, n < 64 → p (n : Int) = X.testBit n) : ∀ (d k : Nat) (n : Int), k + d = 64 → cntF p d (k : Int) n = n + (pcn d (X / 2 ^ k) : Int) := by
  intro d
  induction d with
  | zero => intro k n h; simp [cntF, pcn]
  | succ d ih =>
    intro k n h
    rw [cntF, show (k : Int) + 1 = ((k + 1 : Nat) : Int) by omega, ih _ _ (by omega), pcn, hp k (by omega), Nat.testBit_eq_decide_div_mod_eq, Nat.pow_succ, ← Nat.div_div_eq_div_mul]
    have h2 := Nat.mod_lt (X / 2 ^ k) (show 0 < 2 by decide)
    by_cases q : X / 2 ^ k % 2 = 1
    · rw [decide_eq_true q, q, bI, if_pos rfl]; omega
    · rw [decide_eq_false q, show X / 2 ^ k % 2 = 0 by omega, bI]; simp
theorem bc_cnt (x : Int64) : bc x = cntF (tb x) 64 0 0 := by
  have h := pcn_cnt (p := tb x) (X := nx x) (fun n hn => tb_nat hn) 64 0 0 (by decide)
  rw [bc_pcn]
  rw [show ((0 : Nat) : Int) = 0 from rfl] at h
  rw [h]
  simp
theorem bc_eq {x : Int64} {p : Int → Bool} (h : ∀ c, 0 ≤ c → c < 64 → tb x c = p c) : bc x = cntF p 64 0 0 := by
  rw [bc_cnt]
  exact cnt_cg 64 0 0 (fun e h1 h2 => h e h1 (by omega))
theorem lo_toInt (x : Int64) : lo x.toInt = x := Int64.ofInt_toInt x
theorem cOne_put {P : Mem} {c k : Int} {b : Bool} (hk : 0 ≤ k ∧ k < 64) (h : 0 ≤ c ∧ c < 64) : cOne (cPut P k b) c = if c = k then b else cOne P c := by
  unfold cOne cPut
  rw [up_at, lo_toInt]
  cases b with
  | true =>
    rw [if_pos rfl, tb_or h, tb_msk hk h]
    by_cases q : c = k
    · rw [if_pos q, decide_eq_true q]; simp
    · rw [if_neg q, decide_eq_false q]; simp
  | false =>
    rw [if_neg (by decide), tb_and h, tb_nmsk hk h]
    by_cases q : c = k
    · rw [if_pos q, decide_eq_false (fun n => n q)]; simp
    · rw [if_neg q, decide_eq_true q]; simp
theorem cnt_not {p : Int → Bool} : ∀ (d : Nat) (c n k : Int), cntF p d c n + cntF (fun c => !p c) d c k = n + k + d := by
  intro d
  induction d with
  | zero => intro c n k; simp [cntF]
  | succ d ih =>
    intro c n k
    rw [cntF, cntF, ih]
    cases p c <;> simp [bI] <;> omega

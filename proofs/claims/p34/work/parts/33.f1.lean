/-! plain mathematics: counting bits -/
def nx (x : Int64) : Nat := x.toBitVec.toNat
theorem nx_lt (x : Int64) : nx x < 2 ^ 64 := x.toBitVec.isLt
theorem nx_and (a b : Int64) : nx (a &&& b) = nx a &&& nx b := by
  show (a &&& b).toBitVec.toNat = _
  rw [Int64.toBitVec_and, BitVec.toNat_and]; rfl
theorem nx_or (a b : Int64) : nx (a ||| b) = nx a ||| nx b := by
  show (a ||| b).toBitVec.toNat = _
  rw [Int64.toBitVec_or, BitVec.toNat_or]; rfl
theorem nx_add {a b : Int64} (h : nx a + nx b < 2 ^ 64) : nx (a + b) = nx a + nx b := by
  show (a + b).toBitVec.toNat = _
  rw [Int64.toBitVec_add, BitVec.toNat_add]
  exact Nat.mod_eq_of_lt h
theorem nx_sub {a b : Int64} (h : nx b ≤ nx a) : nx (a - b) = nx a - nx b := by
  show (a - b).toBitVec.toNat = _
  rw [Int64.toBitVec_sub, BitVec.toNat_sub]
  have h1 : nx a = a.toBitVec.toNat := rfl
  have h2 : nx b = b.toBitVec.toNat := rfl
  have h3 := nx_lt a
  rw [← h1, ← h2]
  omega
theorem nx_inj {a b : Int64} (h : nx a = nx b) : a = b := Int64.toBitVec_inj.mp (BitVec.eq_of_toNat_eq h)
theorem nx_lU {x : Int64} {k : Int} {n : Nat} (h : ((jI k).toInt64.toUInt64 &&& Int64.toUInt64 63).toNat % 64 = n) : nx (lU x k) = nx x / 2 ^ n := by
  show (lU x k).toBitVec.toNat = _
  unfold lU
  show (x.toUInt64 >>> _).toNat = _
  rw [UInt64.toNat_shiftRight, h, Nat.shiftRight_eq_div_pow]
  rfl
theorem and_sp {a r m M : Nat} (ha : a < 256) (hm : m < 256) : (a + 256 * r) &&& (m + 256 * M) = (a &&& m) + 256 * (r &&& M) := by
  have h1 := Nat.and_mod_two_pow (a := a + 256 * r) (b := m + 256 * M) (n := 8)
  have h2 := Nat.and_div_two_pow (a := a + 256 * r) (b := m + 256 * M) (n := 8)
  rw [show (2 : Nat) ^ 8 = 256 from rfl] at h1 h2
  rw [show (a + 256 * r) % 256 = a by omega, show (m + 256 * M) % 256 = m by omega] at h1
  rw [show (a + 256 * r) / 256 = r by omega, show (m + 256 * M) / 256 = M by omega] at h2
  generalize (a + 256 * r) &&& (m + 256 * M) = X at *
  omega
def rep (m : Nat) : Nat → Nat
  | 0 => 0
  | n + 1 => m + 256 * rep m n
def mapB (f : Nat → Nat) : Nat → Nat → Nat
  | 0, _ => 0
  | n + 1, X => f (X % 256) + 256 * mapB f n (X / 256)
theorem mapB_lt {f : Nat → Nat} (hf : ∀ a, a < 256 → f a < 256) : ∀ (n X : Nat), mapB f n X < 256 ^ n := by
  intro n
  induction n with
  | zero => intro X; simp [mapB]
  | succ n ih =>
    intro X
    have h1 := hf (X % 256) (Nat.mod_lt _ (by decide))
    have h2 := ih (X / 256)
    rw [mapB, Nat.pow_succ]
    omega
theorem mapB_mapB {f g : Nat → Nat} (hf : ∀ a, a < 256 → f a < 256) : ∀ (n X : Nat), mapB g n (mapB f n X) = mapB (fun a => g (f a)) n X := by
  intro n
  induction n with
  | zero => intro X; rfl
  | succ n ih =>
    intro X
    have h1 := hf (X % 256) (Nat.mod_lt _ (by decide))
    rw [mapB, mapB, mapB, show (f (X % 256) + 256 * mapB f n (X / 256)) % 256 = f (X % 256) by omega, show (f (X % 256) + 256 * mapB f n (X / 256)) / 256 = mapB f n (X / 256) by omega, ih]
theorem mapB_cg {f g : Nat → Nat} (h : ∀ a, a < 256 → f a = g a) : ∀ (n X : Nat), mapB f n X = mapB g n X := by
  intro n
  induction n with
  | zero => intro X; rfl
  | succ n ih => intro X; rw [mapB, mapB, h _ (Nat.mod_lt _ (by decide)), ih]
def s1 (a : Nat) : Nat := a - (a / 2 &&& 85)
def s2 (a : Nat) : Nat := (a &&& 51) + (a / 4 &&& 51)
def s3 (a : Nat) : Nat := (a + a / 16) % 16
theorem s1_t : ∀ (a : Fin 256) (y : Fin 2), (a / 2 + 128 * y.val &&& 85) = (a.val / 2 &&& 85) ∧ (a.val / 2 &&& 85) ≤ a.val := by decide +kernel
theorem s2_t : ∀ (a : Fin 256) (y : Fin 4), (a / 4 + 64 * y.val &&& 51) = (a.val / 4 &&& 51) := by decide +kernel
theorem A1 : ∀ (n X : Nat), X < 256 ^ n → X - (X / 2 &&& rep 85 n) = mapB s1 n X ∧ (X / 2 &&& rep 85 n) ≤ X := by
  intro n
  induction n with
  | zero =>
    intro X h
    have : X = 0 := by simpa using h
    subst this
    decide
  | succ n ih =>
    intro X h
    have hY : X / 256 < 256 ^ n := by rw [Nat.pow_succ] at h; omega
    have ha := Nat.mod_lt X (show 256 > 0 by decide)
    obtain ⟨i1, i2⟩ := ih (X / 256) hY
    have t := s1_t ⟨X % 256, ha⟩ ⟨X / 256 % 2, Nat.mod_lt _ (by decide)⟩
    simp only [] at t
    have e : X / 2 = (X % 256 / 2 + 128 * (X / 256 % 2)) + 256 * (X / 256 / 2) := by omega
    rw [mapB, rep, e, and_sp (by omega) (by decide), t.1, s1]
    have t2 := t.2
    generalize (X % 256 / 2 &&& 85) = u at *
    generalize (X / 256 / 2 &&& rep 85 n) = v at *
    omega
theorem A2 : ∀ (n X : Nat), X < 256 ^ n → (X &&& rep 51 n) + (X / 4 &&& rep 51 n) = mapB s2 n X := by
  intro n
  induction n with
  | zero =>
    intro X h
    have : X = 0 := by simpa using h
    subst this
    decide
  | succ n ih =>
    intro X h
    have hY : X / 256 < 256 ^ n := by rw [Nat.pow_succ] at h; omega
    have ha := Nat.mod_lt X (show 256 > 0 by decide)
    have i1 := ih (X / 256) hY
    have t := s2_t ⟨X % 256, ha⟩ ⟨X / 256 % 4, Nat.mod_lt _ (by decide)⟩
    simp only [] at t
    have e : X / 4 = (X % 256 / 4 + 64 * (X / 256 % 4)) + 256 * (X / 256 / 4) := by omega
    have e2 : X &&& (51 + 256 * rep 51 n) = (X % 256 &&& 51) + 256 * (X / 256 &&& rep 51 n) := by
      rw [← and_sp ha (by decide)]
      congr 1
      omega
    rw [mapB, rep, e2, e, and_sp (by omega) (by decide), t, s2]
    generalize (X % 256 / 4 &&& 51) = u at *
    generalize (X / 256 / 4 &&& rep 51 n) = v at *
    omega
def okB : Nat → Nat → Prop
  | 0, _ => True
  | n + 1, X => (X % 16 ≤ 4 ∧ X % 256 / 16 ≤ 4) ∧ okB n (X / 256)
theorem A3 : ∀ (n X : Nat), X < 256 ^ n → okB n X → ((X + X / 16) &&& rep 15 n) = mapB s3 n X ∧ X + X / 16 < 256 ^ n ∨ n = 0 ∧ X = 0 := by
  intro n
  induction n with
  | zero => intro X h _; right; exact ⟨rfl, by simpa using h⟩
  | succ n ih =>
    intro X h hk
    left
    have hY : X / 256 < 256 ^ n := by rw [Nat.pow_succ] at h; omega
    obtain ⟨⟨k1, k2⟩, k3⟩ := hk
    have hy : X / 256 % 16 ≤ 4 := by
      cases n with
      | zero => have : X / 256 = 0 := by simpa using hY
                omega
      | succ n => exact k3.1.1
    have e : X + X / 16 = (X % 256 + X % 256 / 16 + 16 * (X / 256 % 16)) + 256 * (X / 256 + X / 256 / 16) := by omega
    have e4 : ∀ u : Nat, u &&& 15 = u % 16 := fun u => Nat.and_two_pow_sub_one_eq_mod u 4
    rw [mapB, rep, e, and_sp (by omega) (by decide), e4, s3]
    rcases ih (X / 256) hY k3 with ⟨i1, i2⟩ | ⟨i1, i2⟩
    · rw [i1, Nat.pow_succ]
      generalize mapB s3 n (X / 256) = w at *
      omega
    · subst i1
      rw [i2]
      simp [mapB, rep]
      omega
theorem okB_map {f : Nat → Nat} (hf : ∀ a, a < 256 → f a < 256 ∧ f a % 16 ≤ 4 ∧ f a / 16 ≤ 4) : ∀ (n X : Nat), okB n (mapB f n X) := by
  intro n
  induction n with
  | zero => intro X; trivial
  | succ n ih =>
    intro X
    obtain ⟨h1, h2, h3⟩ := hf (X % 256) (Nat.mod_lt _ (by decide))
    refine ⟨?_, ?_⟩
    · rw [mapB]; omega
    · rw [mapB, show (f (X % 256) + 256 * mapB f n (X / 256)) / 256 = mapB f n (X / 256) by omega]; exact ih _
def pcn : Nat → Nat → Nat
  | 0, _ => 0
  | n + 1, X => X % 2 + pcn n (X / 2)
theorem s12_t : ∀ a : Fin 256, s1 a < 256 ∧ s2 (s1 a) < 256 ∧ s2 (s1 a) % 16 ≤ 4 ∧ s2 (s1 a) / 16 ≤ 4 ∧ s3 (s2 (s1 a)) = pcn 8 a ∧ pcn 8 a ≤ 8 := by decide +kernel
theorem pcn_le : ∀ (n X : Nat), pcn n X ≤ n := by
  intro n
  induction n with
  | zero => intro X; exact Nat.le_refl _
  | succ n ih => intro X; have := ih (X / 2); rw [pcn]; omega
theorem pcn_add : ∀ (n k X : Nat), pcn (n + k) X = pcn n X + pcn k (X / 2 ^ n) := by
  intro n
  induction n with
  | zero => intro k X; simp [pcn]
  | succ n ih =>
    intro k X
    rw [show n + 1 + k = (n + k) + 1 by omega, pcn, pcn, ih, Nat.div_div_eq_div_mul, show 2 * 2 ^ n = 2 ^ (n + 1) by rw [Nat.pow_succ, Nat.mul_comm]]
    omega
theorem pcn_mod : ∀ (n k X : Nat), n ≤ k → pcn n (X % 2 ^ k) = pcn n X := by
  intro n
  induction n with
  | zero => intro k X h; rfl
  | succ n ih =>
    intro k X h
    obtain ⟨k, rfl⟩ : ∃ j, k = j + 1 := ⟨k - 1, by omega⟩
    have e : X % 2 ^ (k + 1) / 2 = X / 2 % 2 ^ k := by
      rw [Nat.pow_succ, Nat.mul_comm, Nat.mod_mul]; omega
    have e2 : X % 2 ^ (k + 1) % 2 = X % 2 := Nat.mod_mod_of_dvd _ ⟨2 ^ k, by rw [Nat.pow_succ, Nat.mul_comm]⟩
    rw [pcn, pcn, e, e2, ih _ _ (by omega)]
theorem nx_iA {x : Int64} {v : Nat} (h : nx x % 128 = v) : iA x.toInt32.toInt 127 = v := by
  unfold iA
  have e1 : jI x.toInt32.toInt = x.toInt32 := by unfold jI; rw [Int32.ofInt_toInt]
  rw [e1]
  have e2 : (x.toInt32 &&& jI 127).toBitVec.toNat = v := by
    rw [Int32.toBitVec_and, BitVec.toNat_and]
    have e3 : x.toInt32.toBitVec.toNat = nx x % 2 ^ 32 := by
      rw [Int64.toBitVec_toInt32, BitVec.signExtend_eq_setWidth_of_le _ (by decide), BitVec.toNat_setWidth]; rfl
    rw [e3, show (jI 127).toBitVec.toNat = 2 ^ 7 - 1 by decide, Nat.and_two_pow_sub_one_eq_mod]
    omega
  have hv : v < 128 := by omega
  show (x.toInt32 &&& jI 127).toBitVec.toInt = _
  rw [BitVec.toInt_eq_toNat_cond, e2, if_pos (by omega)]
def bc' (y : Int64) : Int := iA (bcA4 (bcA4 (bcA4 y 8) 16) 32).toInt32.toInt 127
theorem lsum1 (p0 p1 p2 p3 p4 p5 p6 p7 : Nat) : p0 + 256 * (p1 + 256 * (p2 + 256 * (p3 + 256 * (p4 + 256 * (p5 + 256 * (p6 + 256 * (p7))))))) + (p1 + 256 * (p2 + 256 * (p3 + 256 * (p4 + 256 * (p5 + 256 * (p6 + 256 * (p7))))))) = (p0+p1) + 256 * ((p1+p2) + 256 * ((p2+p3) + 256 * ((p3+p4) + 256 * ((p4+p5) + 256 * ((p5+p6) + 256 * ((p6+p7) + 256 * ((p7)))))))) := by omega
theorem lsum2 (p0 p1 p2 p3 p4 p5 p6 p7 : Nat) : (p0+p1) + 256 * ((p1+p2) + 256 * ((p2+p3) + 256 * ((p3+p4) + 256 * ((p4+p5) + 256 * ((p5+p6) + 256 * ((p6+p7) + 256 * ((p7)))))))) + ((p2+p3) + 256 * ((p3+p4) + 256 * ((p4+p5) + 256 * ((p5+p6) + 256 * ((p6+p7) + 256 * ((p7))))))) = (p0+p1+p2+p3) + 256 * ((p1+p2+p3+p4) + 256 * ((p2+p3+p4+p5) + 256 * ((p3+p4+p5+p6) + 256 * ((p4+p5+p6+p7) + 256 * ((p5+p6+p7) + 256 * ((p6+p7) + 256 * ((p7)))))))) := by omega
theorem lsum3 (p0 p1 p2 p3 p4 p5 p6 p7 : Nat) : (p0+p1+p2+p3) + 256 * ((p1+p2+p3+p4) + 256 * ((p2+p3+p4+p5) + 256 * ((p3+p4+p5+p6) + 256 * ((p4+p5+p6+p7) + 256 * ((p5+p6+p7) + 256 * ((p6+p7) + 256 * ((p7)))))))) + ((p4+p5+p6+p7) + 256 * ((p5+p6+p7) + 256 * ((p6+p7) + 256 * ((p7))))) = ((p0+p1+p2+p3)+(p4+p5+p6+p7)) + 256 * (((p1+p2+p3+p4)+(p5+p6+p7)) + 256 * (((p2+p3+p4+p5)+(p6+p7)) + 256 * (((p3+p4+p5+p6)+(p7)) + 256 * (((p4+p5+p6+p7)) + 256 * (((p5+p6+p7)) + 256 * (((p6+p7)) + 256 * (((p7))))))))) := by omega
theorem ldv1 (a W : Nat) (h : a < 256) : (a + 256 * W) / 256 = W := by omega
theorem ldv2 (a b W : Nat) (h : a < 256) (h1 : b < 256) : (a + 256 * (b + 256 * W)) / 65536 = W := by omega
theorem ldv4 (a b c d W : Nat) (h : a < 256) (h1 : b < 256) (h2 : c < 256) (h3 : d < 256) : (a + 256 * (b + 256 * (c + 256 * (d + 256 * W)))) / 4294967296 = W := by omega
theorem lmod (a W : Nat) (h : a < 128) : (a + 256 * W) % 128 = a := by omega
theorem lt1 {a : Nat} (h : a ≤ 8) : a < 256 := by omega
theorem lt2 {a b : Nat} (h : a ≤ 8) (h1 : b ≤ 8) : a+b < 256 := by omega
theorem lt4 {a b c d : Nat} (h : a ≤ 8) (h1 : b ≤ 8) (h2 : c ≤ 8) (h3 : d ≤ 8) : a+b+c+d < 256 := by omega
theorem ltT {p0 p1 p2 p3 p4 p5 p6 p7 : Nat} (q0 : p0 ≤ 8) (q1 : p1 ≤ 8) (q2 : p2 ≤ 8) (q3 : p3 ≤ 8) (q4 : p4 ≤ 8) (q5 : p5 ≤ 8) (q6 : p6 ≤ 8) (q7 : p7 ≤ 8) : ((p0+p1+p2+p3)+(p4+p5+p6+p7)) < 128 ∧ ((p0+p1+p2+p3)+(p4+p5+p6+p7)) = (p0 + (p1 + (p2 + (p3 + (p4 + (p5 + (p6 + p7))))))) := by omega
theorem lb1 {p0 p1 p2 p3 p4 p5 p6 p7 : Nat} (q0 : p0 ≤ 8) (q1 : p1 ≤ 8) (q2 : p2 ≤ 8) (q3 : p3 ≤ 8) (q4 : p4 ≤ 8) (q5 : p5 ≤ 8) (q6 : p6 ≤ 8) (q7 : p7 ≤ 8) : p0 + 256 * (p1 + 256 * (p2 + 256 * (p3 + 256 * (p4 + 256 * (p5 + 256 * (p6 + 256 * (p7))))))) < 1000000000000000000 := by omega
theorem lb2 {p0 p1 p2 p3 p4 p5 p6 p7 : Nat} (q0 : p0 ≤ 8) (q1 : p1 ≤ 8) (q2 : p2 ≤ 8) (q3 : p3 ≤ 8) (q4 : p4 ≤ 8) (q5 : p5 ≤ 8) (q6 : p6 ≤ 8) (q7 : p7 ≤ 8) : (p0+p1) + 256 * ((p1+p2) + 256 * ((p2+p3) + 256 * ((p3+p4) + 256 * ((p4+p5) + 256 * ((p5+p6) + 256 * ((p6+p7) + 256 * ((p7)))))))) < 2000000000000000000 := by omega
theorem lb3 {p0 p1 p2 p3 p4 p5 p6 p7 : Nat} (q0 : p0 ≤ 8) (q1 : p1 ≤ 8) (q2 : p2 ≤ 8) (q3 : p3 ≤ 8) (q4 : p4 ≤ 8) (q5 : p5 ≤ 8) (q6 : p6 ≤ 8) (q7 : p7 ≤ 8) : (p0+p1+p2+p3) + 256 * ((p1+p2+p3+p4) + 256 * ((p2+p3+p4+p5) + 256 * ((p3+p4+p5+p6) + 256 * ((p4+p5+p6+p7) + 256 * ((p5+p6+p7) + 256 * ((p6+p7) + 256 * ((p7)))))))) < 3000000000000000000 := by omega
theorem lb4 {p0 p1 p2 p3 p4 p5 p6 p7 : Nat} (q0 : p0 ≤ 8) (q1 : p1 ≤ 8) (q2 : p2 ≤ 8) (q3 : p3 ≤ 8) (q4 : p4 ≤ 8) (q5 : p5 ≤ 8) (q6 : p6 ≤ 8) (q7 : p7 ≤ 8) : ((p0+p1+p2+p3)+(p4+p5+p6+p7)) + 256 * (((p1+p2+p3+p4)+(p5+p6+p7)) + 256 * (((p2+p3+p4+p5)+(p6+p7)) + 256 * (((p3+p4+p5+p6)+(p7)) + 256 * (((p4+p5+p6+p7)) + 256 * (((p5+p6+p7)) + 256 * (((p6+p7)) + 256 * (((p7))))))))) < 4000000000000000000 := by omega
theorem bc_sum {y : Int64} {p0 p1 p2 p3 p4 p5 p6 p7 : Nat} (q0 : p0 ≤ 8) (q1 : p1 ≤ 8) (q2 : p2 ≤ 8) (q3 : p3 ≤ 8) (q4 : p4 ≤ 8) (q5 : p5 ≤ 8) (q6 : p6 ≤ 8) (q7 : p7 ≤ 8) (a3 : nx y = p0 + 256 * (p1 + 256 * (p2 + 256 * (p3 + 256 * (p4 + 256 * (p5 + 256 * (p6 + 256 * (p7)))))))) : bc' y = ((p0 + (p1 + (p2 + (p3 + (p4 + (p5 + (p6 + p7)))))) : Nat) : Int) := by
  have g1 := lb1 q0 q1 q2 q3 q4 q5 q6 q7
  have g2 := lb2 q0 q1 q2 q3 q4 q5 q6 q7
  have g3 := lb3 q0 q1 q2 q3 q4 q5 q6 q7
  have g4 := lb4 q0 q1 q2 q3 q4 q5 q6 q7
  have b1 : nx (bcA4 y 8) = (p0+p1) + 256 * ((p1+p2) + 256 * ((p2+p3) + 256 * ((p3+p4) + 256 * ((p4+p5) + 256 * ((p5+p6) + 256 * ((p6+p7) + 256 * ((p7)))))))) := by
    have e : nx (lU y 8) = p1 + 256 * (p2 + 256 * (p3 + 256 * (p4 + 256 * (p5 + 256 * (p6 + 256 * (p7)))))) := (nx_lU (n := 8) (by decide)).trans (by rw [a3]; exact ldv1 _ _ (lt1 q0))
    unfold bcA4
    rw [nx_add (by rw [e, a3, lsum1]; exact Nat.lt_trans g2 (by decide)), e, a3, lsum1]
  have b2 : nx (bcA4 (bcA4 y 8) 16) = (p0+p1+p2+p3) + 256 * ((p1+p2+p3+p4) + 256 * ((p2+p3+p4+p5) + 256 * ((p3+p4+p5+p6) + 256 * ((p4+p5+p6+p7) + 256 * ((p5+p6+p7) + 256 * ((p6+p7) + 256 * ((p7)))))))) := by
    have e : nx (lU (bcA4 y 8) 16) = (p2+p3) + 256 * ((p3+p4) + 256 * ((p4+p5) + 256 * ((p5+p6) + 256 * ((p6+p7) + 256 * ((p7)))))) := (nx_lU (n := 16) (by decide)).trans (by rw [b1]; exact ldv2 _ _ _ (lt2 q0 q1) (lt2 q1 q2))
    rw [bcA4, nx_add (by rw [e, b1, lsum2]; exact Nat.lt_trans g3 (by decide)), e, b1, lsum2]
  have b3 : nx (bcA4 (bcA4 (bcA4 y 8) 16) 32) = (p0+p1+p2+p3) + 256 * ((p1+p2+p3+p4) + 256 * ((p2+p3+p4+p5) + 256 * ((p3+p4+p5+p6) + 256 * ((p4+p5+p6+p7) + 256 * ((p5+p6+p7) + 256 * ((p6+p7) + 256 * ((p7)))))))) + ((p4+p5+p6+p7) + 256 * ((p5+p6+p7) + 256 * ((p6+p7) + 256 * ((p7))))) := by
    have e : nx (lU (bcA4 (bcA4 y 8) 16) 32) = (p4+p5+p6+p7) + 256 * ((p5+p6+p7) + 256 * ((p6+p7) + 256 * ((p7)))) := (nx_lU (n := 32) (by decide)).trans (by rw [b2]; exact ldv4 _ _ _ _ _ (lt4 q0 q1 q2 q3) (lt4 q1 q2 q3 q4) (lt4 q2 q3 q4 q5) (lt4 q3 q4 q5 q6))
    rw [bcA4, nx_add (by rw [e, b2, lsum3]; exact Nat.lt_trans g4 (by decide)), e, b2]
  rw [lsum3] at b3
  unfold bc'
  refine nx_iA ?_
  rw [b3]
  exact (lmod _ _ (ltT q0 q1 q2 q3 q4 q5 q6 q7).1).trans (ltT q0 q1 q2 q3 q4 q5 q6 q7).2
theorem bc_pcn (x : Int64) : bc x = (pcn 64 (nx x) : Int) := by
  have h0 := nx_lt x
  have hX : nx x < 256 ^ 8 := by have : (256 : Nat) ^ 8 = 2 ^ 64 := by decide
                                 omega
  have a1 : nx (bcA1 x) = mapB s1 8 (nx x) := by
    have h := A1 8 (nx x) hX
    have e : nx (lU x 1 &&& 6148914691236517205) = (nx x / 2 &&& rep 85 8) := by
      rw [nx_and, nx_lU (n := 1) (by decide)]; rfl
    unfold bcA1
    rw [nx_sub (by rw [e]; exact h.2), e, h.1]
  have f1 : ∀ a, a < 256 → s1 a < 256 := fun a h => (s12_t ⟨a, h⟩).1
  have f2 : ∀ a, a < 256 → s2 (s1 a) < 256 ∧ s2 (s1 a) % 16 ≤ 4 ∧ s2 (s1 a) / 16 ≤ 4 := fun a h => ⟨(s12_t ⟨a, h⟩).2.1, (s12_t ⟨a, h⟩).2.2.1, (s12_t ⟨a, h⟩).2.2.2.1⟩
  have l1 := mapB_lt f1 8 (nx x)
  have l2 := mapB_lt (f := fun a => s2 (s1 a)) (fun a h => (f2 a h).1) 8 (nx x)
  have a2 : nx (bcA2 (bcA1 x)) = mapB (fun a => s2 (s1 a)) 8 (nx x) := by
    have h := A2 8 (mapB s1 8 (nx x)) l1
    rw [mapB_mapB f1] at h
    have e1 : nx (bcA1 x &&& 3689348814741910323) = (mapB s1 8 (nx x) &&& rep 51 8) := by rw [nx_and, a1]; rfl
    have e2 : nx (lU (bcA1 x) 2 &&& 3689348814741910323) = (mapB s1 8 (nx x) / 4 &&& rep 51 8) := by rw [nx_and, nx_lU (n := 2) (by decide), a1]; rfl
    unfold bcA2
    rw [nx_add (by rw [e1, e2, h]; have : (256 : Nat) ^ 8 = 2 ^ 64 := by decide
                   omega), e1, e2, h]
  have a3 : nx (bcA3 (bcA2 (bcA1 x))) = mapB (pcn 8) 8 (nx x) := by
    have h := A3 8 (mapB (fun a => s2 (s1 a)) 8 (nx x)) l2 (okB_map f2 8 (nx x))
    rcases h with ⟨h1, h2⟩ | ⟨h1, _⟩
    · rw [(mapB_mapB (f := fun a => s2 (s1 a)) (g := s3) (fun a h => (f2 a h).1) 8 (nx x)).trans (mapB_cg (g := pcn 8) (fun a h => (s12_t ⟨a, h⟩).2.2.2.2.1) 8 (nx x))] at h1
      have e1 : nx (lU (bcA2 (bcA1 x)) 4) = mapB (fun a => s2 (s1 a)) 8 (nx x) / 16 := by rw [nx_lU (n := 4) (by decide), a2]
      unfold bcA3
      rw [nx_and, nx_add (by rw [e1, a2]; have : (256 : Nat) ^ 8 = 2 ^ 64 := by decide
                             omega), e1, a2, ← h1]
      rfl
    · omega
  have p8 : ∀ X, pcn 8 (X % 256) ≤ 8 := fun X => pcn_le 8 _
  have hp : pcn 64 (nx x) = pcn 8 (nx x % 256) + (pcn 8 (nx x / 256 % 256) + (pcn 8 (nx x / 256 / 256 % 256) + (pcn 8 (nx x / 256 / 256 / 256 % 256) + (pcn 8 (nx x / 256 / 256 / 256 / 256 % 256) + (pcn 8 (nx x / 256 / 256 / 256 / 256 / 256 % 256) + (pcn 8 (nx x / 256 / 256 / 256 / 256 / 256 / 256 % 256) + pcn 8 (nx x / 256 / 256 / 256 / 256 / 256 / 256 / 256 % 256))))))) := by
    have hm : ∀ X, pcn 8 (X % 256) = pcn 8 X := fun X => pcn_mod 8 8 X (by decide)
    have hs : ∀ k X, pcn (8 + k) X = pcn 8 X + pcn k (X / 256) := fun k X => pcn_add 8 k X
    simp only [hm]
    rw [show (64 : Nat) = 8 + 56 from rfl, hs, show (56 : Nat) = 8 + 48 from rfl, hs, show (48 : Nat) = 8 + 40 from rfl, hs, show (40 : Nat) = 8 + 32 from rfl, hs, show (32 : Nat) = 8 + 24 from rfl, hs, show (24 : Nat) = 8 + 16 from rfl, hs, show (16 : Nat) = 8 + 8 from rfl, hs]
  simp only [mapB, Nat.mul_zero, Nat.add_zero] at a3
  have q0 := p8 (nx x)
  have q1 := p8 (nx x / 256)
  have q2 := p8 (nx x / 256 / 256)
  have q3 := p8 (nx x / 256 / 256 / 256)
  have q4 := p8 (nx x / 256 / 256 / 256 / 256)
  have q5 := p8 (nx x / 256 / 256 / 256 / 256 / 256)
  have q6 := p8 (nx x / 256 / 256 / 256 / 256 / 256 / 256)
  have q7 := p8 (nx x / 256 / 256 / 256 / 256 / 256 / 256 / 256)
  rw [hp]
  generalize pcn 8 (nx x % 256) = p0 at *
  generalize pcn 8 (nx x / 256 % 256) = p1 at *
  generalize pcn 8 (nx x / 256 / 256 % 256) = p2 at *
  generalize pcn 8 (nx x / 256 / 256 / 256 % 256) = p3 at *
  generalize pcn 8 (nx x / 256 / 256 / 256 / 256 % 256) = p4 at *
  generalize pcn 8 (nx x / 256 / 256 / 256 / 256 / 256 % 256) = p5 at *
  generalize pcn 8 (nx x / 256 / 256 / 256 / 256 / 256 / 256 % 256) = p6 at *
  generalize pcn 8 (nx x / 256 / 256 / 256 / 256 / 256 / 256 / 256 % 256) = p7 at *
  show bc' (bcA3 (bcA2 (bcA1 x))) = _
  exact bc_sum q0 q1 q2 q3 q4 q5 q6 q7 a3

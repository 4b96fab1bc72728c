/-! the law: texts that it types -/
def tPs (m : Mem) (l : List Int) : Mem := l.foldl tPut m
theorem tPs_app {m : Mem} {l k : List Int} : tPs m (l ++ k) = tPs (tPs m l) k := List.foldl_append
theorem tp_len {m : Mem} {c : Int} : tPut m c 195 0 = m 195 0 + 1 := by unfold tPut; rw [up_at]
/-- the letters of a step -/
def lts (s k b : Int) : List Int := if s = 98 then [s] else if s = 116 then [s, 49 + b] else if s = 114 then [s, 48 + cr k / 8, 48 + cr k % 8] else [s, 48 + cr k / 8, 48 + cr k % 8, 61, 48 + b]
theorem lts_b {s k b : Int} (h : s = 98) : lts s k b = [s] := by unfold lts; rw [if_pos h]
theorem lts_t {s k b : Int} (h : s = 116) : lts s k b = [s, 49 + b] := by unfold lts; rw [if_neg (by omega), if_pos h]
theorem lts_r {s k b : Int} (h : s = 114) : lts s k b = [s, 48 + cr k / 8, 48 + cr k % 8] := by unfold lts; rw [if_neg (by omega), if_neg (by omega), if_pos h]
theorem lts_w {s k b : Int} (h : s = 119) : lts s k b = [s, 48 + cr k / 8, 48 + cr k % 8, 61, 48 + b] := by unfold lts; rw [if_neg (by omega), if_neg (by omega), if_neg (by omega)]
/-- a step: its sign, its core, its bit -/
abbrev SP : Type := Nat → Int × Int × Int
def HV (f : SP) : Prop := ∀ n, ((f n).1 = 98 ∨ (f n).1 = 116 ∨ (f n).1 = 114 ∨ (f n).1 = 119) ∧ (0 ≤ (f n).2.1 ∧ (f n).2.1 < 16) ∧ ((f n).2.2 = 0 ∨ (f n).2.2 = 1)
def lst (f : SP) (n : Nat) : List Int := lts (f n).1 (f n).2.1 (f n).2.2
def sep (n : Nat) : List Int := if n = 0 then [] else [59]
def pre (f : SP) : Nat → List Int
  | 0 => []
  | n + 1 => pre f n ++ sep n ++ lst f n
def TXT (m : Mem) (T : List Int) : Prop := m 195 0 = (T.length : Int) ∧ ∀ (j : Nat) (c : Int), T[j]? = some c → m 196 (j : Int) = c
theorem TXT_cg {m n : Mem} {T : List Int} (h : TXT m T) (h1 : n 195 0 = m 195 0) (h2 : ∀ j, n 196 j = m 196 j) : TXT n T := ⟨by rw [h1]; exact h.1, fun j c e => by rw [h2]; exact h.2 j c e⟩
theorem TXT_put {m : Mem} {T : List Int} {c : Int} (h : TXT m T) : TXT (tPut m c) (T ++ [c]) := by
  refine ⟨by rw [tp_len, h.1, List.length_append]; rfl, fun j x e => ?_⟩
  unfold tPut
  rw [up_ne (by omega)]
  by_cases q : j < T.length
  · rw [List.getElem?_append_left q] at e
    rw [up_ne (by rw [h.1]; omega)]
    exact h.2 j x e
  · rw [List.getElem?_append_right (by omega)] at e
    have hj : j - T.length = 0 := by
      rcases Nat.eq_zero_or_pos (j - T.length) with w | w
      · exact w
      · rw [List.getElem?_eq_none (by show 1 ≤ j - T.length; omega)] at e; cases e
    rw [hj] at e
    have ex : x = c := (Option.some.inj e).symm
    have ej : (j : Int) = m 195 0 := by rw [h.1]; omega
    rw [ej, up_at, ex]
theorem TXT_ps {m : Mem} : ∀ (l : List Int) {T : List Int} {m : Mem}, TXT m T → TXT (tPs m l) (T ++ l) := by
  intro l
  induction l with
  | nil => intro T m h; rw [List.append_nil]; exact h
  | cons c l ih =>
    intro T m h
    have w := ih (TXT_put (c := c) h)
    rw [List.append_assoc] at w
    exact w
theorem lst_len {f : SP} (h : HV f) (n : Nat) : 1 ≤ (lst f n).length ∧ (lst f n).length ≤ 5 ∧ ((lst f n).length : Int) = tN (f n).1 := by
  unfold lst
  rcases (h n).1 with e | e | e | e
  · rw [lts_b e, e]; exact ⟨by decide, by decide, by decide⟩
  · rw [lts_t e, e]; exact ⟨Nat.le_of_ble_eq_true rfl, Nat.le_of_ble_eq_true rfl, by show (2 : Int) = _; decide⟩
  · rw [lts_r e, e]; exact ⟨Nat.le_of_ble_eq_true rfl, Nat.le_of_ble_eq_true rfl, by show (3 : Int) = _; decide⟩
  · rw [lts_w e, e]; exact ⟨Nat.le_of_ble_eq_true rfl, Nat.le_of_ble_eq_true rfl, by show (5 : Int) = _; decide⟩
theorem sep_len (n : Nat) : (sep n).length ≤ 1 := by unfold sep; split <;> decide
theorem pre_len {f : SP} (h : HV f) : ∀ n, (pre f n).length ≤ 6 * n := by
  intro n
  induction n with
  | zero => exact Nat.le_refl _
  | succ n ih =>
    have a := lst_len h n
    have b := sep_len n
    rw [pre, List.length_append, List.length_append]
    omega
theorem pre_pos {f : SP} (h : HV f) (n : Nat) : 1 ≤ (pre f (n + 1)).length := by
  have a := lst_len h n
  rw [pre, List.length_append]
  omega
theorem pre_ext {f : SP} : ∀ (k n : Nat), ∃ r, pre f (n + k) = pre f n ++ r := by
  intro k
  induction k with
  | zero => intro n; exact ⟨[], by rw [List.append_nil]; rfl⟩
  | succ k ih =>
    intro n
    obtain ⟨r, e⟩ := ih n
    exact ⟨r ++ sep (n + k) ++ lst f (n + k), by rw [show n + (k + 1) = (n + k) + 1 by omega, pre, e, List.append_assoc, List.append_assoc, List.append_assoc]⟩
/-- where a step stands -/
def pp (f : SP) (n : Nat) : Nat := (pre f n ++ sep n).length
theorem pp_0 {f : SP} : pp f 0 = 0 := rfl
theorem pp_s {f : SP} (n : Nat) : pp f (n + 1) = pp f n + (lst f n).length + 1 := by
  unfold pp
  rw [List.length_append, pre, List.length_append]
  rfl
theorem pp_at {f : SP} {n e w : Nat} (hn : n < e) (hw : w < (lst f n).length) : (pre f e)[pp f n + w]? = (lst f n)[w]? := by
  obtain ⟨r, h⟩ := pre_ext (f := f) (e - (n + 1)) (n + 1)
  rw [show n + 1 + (e - (n + 1)) = e by omega, pre] at h
  rw [h, List.append_assoc, List.getElem?_append_right (by unfold pp; omega), show pp f n + w - (pre f n ++ sep n).length = w by unfold pp; omega, List.getElem?_append_left hw]
theorem tC_t {m : Mem} {T : List Int} {j : Nat} {c : Int} (h : TXT m T) (e : T[j]? = some c) : tC m (j : Int) = c := by
  have hj : j < T.length := (List.getElem?_eq_some_iff.mp e).1
  unfold tC
  rw [if_pos (by rw [h.1]; omega)]
  exact h.2 j c e
/-- the letter w of the step n -/
theorem tC_s {m : Mem} {f : SP} {e n w : Nat} {c : Int} (h : TXT m (pre f e)) (hn : n < e) (hc : (lst f n)[w]? = some c) : tC m ((pp f n : Nat) + (w : Int)) = c := by
  have hw : w < (lst f n).length := (List.getElem?_eq_some_iff.mp hc).1
  rw [show ((pp f n : Nat) : Int) + (w : Int) = ((pp f n + w : Nat) : Int) by omega]
  exact tC_t h (by rw [pp_at hn hw]; exact hc)
theorem lst_0 {f : SP} (h : HV f) (n : Nat) : (lst f n)[0]? = some (f n).1 := by
  unfold lst
  rcases (h n).1 with e | e | e | e
  · rw [lts_b e]; rfl
  · rw [lts_t e]; rfl
  · rw [lts_r e]; rfl
  · rw [lts_w e]; rfl
theorem pq_pp {m : Mem} {f : SP} {e : Nat} (hv : HV f) (h : TXT m (pre f e)) : ∀ n, n ≤ e → pq m n = pp f n := by
  intro n
  induction n with
  | zero => intro _; rfl
  | succ n ih =>
    intro hn
    have i := ih (by omega)
    have a := lst_len hv n
    have c := tC_s (w := 0) h (by omega : n < e) (lst_0 hv n)
    rw [pq, i, pp_s]
    rw [show ((pp f n : Nat) : Int) + ((0 : Nat) : Int) = (pp f n : Nat) by omega] at c
    rw [c, ← a.2.2]
    omega
/-- the steps as the program's entries -/
def rN (f : SP) (e : Nat) : Mem := fun c j => if c = 202 then (if (f j.toNat).1 = 114 then 0 else if (f j.toNat).1 = 119 then 1 else if (f j.toNat).1 = 98 then 2 else 3) else if c = 203 then cr (f j.toNat).2.1 else if c = 204 then (if (f j.toNat).1 = 116 then (f j.toNat).2.2 + 1 else (f j.toNat).2.2) else e
theorem rN_2 {f : SP} {e n : Nat} : rN f e 202 n = if (f n).1 = 114 then 0 else if (f n).1 = 119 then 1 else if (f n).1 = 98 then 2 else 3 := by unfold rN; rw [if_pos rfl]; rfl
theorem rN_3 {f : SP} {e n : Nat} : rN f e 203 n = cr (f n).2.1 := by unfold rN; rw [if_neg (by decide), if_pos rfl]; rfl
theorem rN_4 {f : SP} {e n : Nat} : rN f e 204 n = if (f n).1 = 116 then (f n).2.2 + 1 else (f n).2.2 := by unfold rN; rw [if_neg (by decide), if_neg (by decide), if_pos rfl]; rfl
theorem rN_8 {f : SP} {e : Nat} {j : Int} : rN f e 197 j = e := by unfold rN; rw [if_neg (by decide), if_neg (by decide), if_neg (by decide)]
theorem EN_f {m : Mem} {f : SP} {e n : Nat} (hv : HV f) (h : TXT m (pre f e)) (hn : n < e) : EN m (rN f e) n (pq m n) := by
  obtain ⟨h1, h2, h3⟩ := hv n
  have hc := cr_b h2
  have q := pq_pp hv h n (by omega)
  have l := fun w c (x : (lst f n)[w]? = some c) => tC_s (w := w) h hn x
  have l0 : tC m (pq m n) = (f n).1 := by
    have := l 0 _ (lst_0 hv n)
    rw [q]; rw [show ((pp f n : Nat) : Int) + ((0 : Nat) : Int) = (pp f n : Nat) by omega] at this
    exact this
  unfold EN
  rw [rN_2, rN_3, rN_4, l0]
  rcases h1 with e1 | e1 | e1 | e1
  · rw [if_neg (by omega), if_neg (by omega), if_pos e1, if_neg (by omega)]
    exact ⟨⟨hc, by omega⟩, Or.inr (Or.inr (Or.inl ⟨e1, rfl⟩))⟩
  · have l1 : tC m (pq m n + 1) = 49 + (f n).2.2 := by
      rw [q]; exact l 1 _ (by unfold lst; rw [lts_t e1]; rfl)
    rw [if_neg (show ¬ (f n).1 = 114 by omega), if_neg (show ¬ (f n).1 = 119 by omega), if_neg (show ¬ (f n).1 = 98 by omega), if_pos e1, l1]
    exact ⟨⟨hc, by omega⟩, Or.inr (Or.inr (Or.inr ⟨e1, rfl, by omega⟩))⟩
  · have l1 : tC m (pq m n + 1) = 48 + cr (f n).2.1 / 8 := by
      rw [q]; exact l 1 _ (by unfold lst; rw [lts_r e1]; rfl)
    have l2 : tC m (pq m n + 1 + 1) = 48 + cr (f n).2.1 % 8 := by
      rw [q, show ((pp f n : Nat) : Int) + 1 + 1 = (pp f n : Nat) + ((2 : Nat) : Int) by omega]; exact l 2 _ (by unfold lst; rw [lts_r e1]; rfl)
    rw [if_pos e1, if_neg (by omega)]
    exact ⟨⟨hc, by omega⟩, Or.inl ⟨e1, rfl, by unfold tK; rw [l1, l2]; omega⟩⟩
  · have l1 : tC m (pq m n + 1) = 48 + cr (f n).2.1 / 8 := by
      rw [q]; exact l 1 _ (by unfold lst; rw [lts_w e1]; rfl)
    have l2 : tC m (pq m n + 1 + 1) = 48 + cr (f n).2.1 % 8 := by
      rw [q, show ((pp f n : Nat) : Int) + 1 + 1 = (pp f n : Nat) + ((2 : Nat) : Int) by omega]; exact l 2 _ (by unfold lst; rw [lts_w e1]; rfl)
    have l4 : tC m (pq m n + 4) = 48 + (f n).2.2 := by
      rw [q]; exact l 4 _ (by unfold lst; rw [lts_w e1]; rfl)
    rw [if_neg (by omega), if_pos e1, if_neg (by omega), l4]
    exact ⟨⟨hc, by omega⟩, Or.inr (Or.inl ⟨e1, rfl, by unfold tK; rw [l1, l2]; omega, by omega, by omega⟩)⟩
/-- the automaton over a list -/
theorem tP_l {m : Mem} {T : List Int} (h : TXT m T) : ∀ (d i : Nat) (w : Int), i + d = T.length → tP m d (i : Int) w = (T.drop i).foldl tW w := by
  intro d
  induction d with
  | zero => intro i w hi; rw [tP, List.drop_of_length_le (by omega)]; rfl
  | succ d ih =>
    intro i w hi
    have hlt : i < T.length := by omega
    have e : T[i]? = some T[i] := List.getElem?_eq_getElem hlt
    rw [tP, tC_t h e, List.drop_eq_getElem_cons hlt, List.foldl_cons]
    have := ih (i + 1) (tW w T[i]) (by omega)
    rw [show ((i + 1 : Nat) : Int) = (i : Int) + 1 by omega] at this
    exact this
theorem tW_lst {f : SP} (hv : HV f) (n : Nat) : (lst f n).foldl tW 1 = 2 := by
  obtain ⟨h1, h2, h3⟩ := hv n
  have hc := cr_b h2
  have d1 : wi (48 + cr (f n).2.1 / 8) 48 55 = true := wi_t ⟨by omega, by omega⟩
  have d2 : wi (48 + cr (f n).2.1 % 8) 48 55 = true := wi_t ⟨by omega, by omega⟩
  have d3 : wi (48 + (f n).2.2) 48 49 = true := wi_t ⟨by omega, by omega⟩
  have d4 : wi (49 + (f n).2.2) 49 57 = true := wi_t ⟨by omega, by omega⟩
  unfold lst
  rcases h1 with e1 | e1 | e1 | e1
  · rw [lts_b e1, e1]; rfl
  · rw [lts_t e1, e1]
    show tW (tW 1 116) (49 + (f n).2.2) = 2
    rw [show tW 1 116 = 9 from rfl]
    unfold tW
    rw [if_neg (by decide), if_neg (by decide), if_neg (by decide), if_neg (by decide), if_neg (by decide), if_neg (by decide), if_neg (by decide), if_neg (by decide), if_pos rfl, if_pos d4]
  · rw [lts_r e1, e1]
    show tW (tW (tW 1 114) (48 + cr (f n).2.1 / 8)) (48 + cr (f n).2.1 % 8) = 2
    rw [show tW 1 114 = 3 from rfl]
    have a : tW 3 (48 + cr (f n).2.1 / 8) = 4 := by
      unfold tW
      rw [if_neg (by decide), if_neg (by decide), if_pos rfl, if_pos d1]
    rw [a]
    unfold tW
    rw [if_neg (by decide), if_neg (by decide), if_neg (by decide), if_pos rfl, if_pos d2]
  · rw [lts_w e1, e1]
    show tW (tW (tW (tW (tW 1 119) (48 + cr (f n).2.1 / 8)) (48 + cr (f n).2.1 % 8)) 61) (48 + (f n).2.2) = 2
    rw [show tW 1 119 = 5 from rfl]
    have a : tW 5 (48 + cr (f n).2.1 / 8) = 6 := by
      unfold tW
      rw [if_neg (by decide), if_neg (by decide), if_neg (by decide), if_neg (by decide), if_pos rfl, if_pos d1]
    have b : tW 6 (48 + cr (f n).2.1 % 8) = 7 := by
      unfold tW
      rw [if_neg (by decide), if_neg (by decide), if_neg (by decide), if_neg (by decide), if_neg (by decide), if_pos rfl, if_pos d2]
    rw [a, b, show tW 7 61 = 8 from rfl]
    unfold tW
    rw [if_neg (by decide), if_neg (by decide), if_neg (by decide), if_neg (by decide), if_neg (by decide), if_neg (by decide), if_neg (by decide), if_pos rfl, if_pos d3]
theorem tW_pre {f : SP} (hv : HV f) : ∀ n, (pre f n).foldl tW 1 = if n = 0 then 1 else 2 := by
  intro n
  induction n with
  | zero => rfl
  | succ n ih =>
    rw [pre, List.foldl_append, List.foldl_append, ih]
    have e : (sep n).foldl tW (if n = 0 then 1 else 2) = 1 := by
      unfold sep
      by_cases q : n = 0
      · rw [if_pos q, if_pos q]; rfl
      · rw [if_neg q, if_neg q]; rfl
    rw [e, tW_lst hv, if_neg (by omega)]
theorem tOk_f {m : Mem} {f : SP} {e : Nat} (hv : HV f) (he : 0 < e) (h : TXT m (pre f e)) : tOk m = true := by
  unfold tOk
  have w := tP_l h (pre f e).length 0 1 (by omega)
  rw [List.drop_zero, tW_pre hv, if_neg (by omega)] at w
  rw [h.1, show ((pre f e).length : Int).toNat = (pre f e).length by omega]
  rw [show (((0 : Nat) : Int)) = 0 from rfl] at w
  rw [w]
  exact decide_eq_true rfl
theorem lst_c {f : SP} (hv : HV f) (n : Nat) : ∀ c, c ∈ lst f n → 33 ≤ c ∧ c ≤ 126 := by
  obtain ⟨h1, h2, h3⟩ := hv n
  have hc := cr_b h2
  intro c hm
  unfold lst at hm
  rcases h1 with e1 | e1 | e1 | e1
  · rw [lts_b e1] at hm
    simp only [List.mem_cons, List.not_mem_nil, or_false] at hm
    omega
  · rw [lts_t e1] at hm
    simp only [List.mem_cons, List.not_mem_nil, or_false] at hm
    omega
  · rw [lts_r e1] at hm
    simp only [List.mem_cons, List.not_mem_nil, or_false] at hm
    omega
  · rw [lts_w e1] at hm
    simp only [List.mem_cons, List.not_mem_nil, or_false] at hm
    omega
theorem pre_c {f : SP} (hv : HV f) : ∀ (n : Nat) (c : Int), c ∈ pre f n → 33 ≤ c ∧ c ≤ 126 := by
  intro n
  induction n with
  | zero => intro c h; cases h
  | succ n ih =>
    intro c h
    rw [pre] at h
    rcases List.mem_append.mp h with h | h
    · rcases List.mem_append.mp h with h | h
      · exact ih c h
      · unfold sep at h
        split at h
        · cases h
        · simp only [List.mem_cons, List.not_mem_nil, or_false] at h; omega
    · exact lst_c hv n c h
theorem TL_f {m : Mem} {f : SP} {e : Nat} (hv : HV f) (he : e ≤ 10) (h : TXT m (pre f e)) : TL m := by
  have l := pre_len hv e
  refine ⟨by rw [h.1]; omega, fun j a b => ?_⟩
  rw [h.1] at b
  have hj : j.toNat < (pre f e).length := by omega
  have e1 : (pre f e)[j.toNat]? = some (pre f e)[j.toNat] := List.getElem?_eq_getElem hj
  have w := h.2 _ _ e1
  rw [show ((j.toNat : Nat) : Int) = j by omega] at w
  rw [w]
  exact pre_c hv e _ (List.getElem_mem hj)
theorem pq_end {m : Mem} {f : SP} {e : Nat} (hv : HV f) (h : TXT m (pre f (e + 1))) : pq m (e + 1) = m 195 0 + 1 := by
  rw [pq_pp hv h _ (Nat.le_refl _), h.1]
  unfold pp
  rw [List.length_append]
  show _ = _
  have : (sep (e + 1)).length = 1 := rfl
  omega

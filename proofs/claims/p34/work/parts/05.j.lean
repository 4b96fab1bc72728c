/-! THE JUDGEMENT J: a method's frame over a FLAT memory (cell, place -> whole number); shapes of cells are a fixed list. All rows below are proved from the kit's. -/
abbrev PV : Type := Int ⊕ Value
abbrev SH : Type := (Nat × List (Nat ⊕ Nat)) ⊕ (Nat × Nat)
abbrev Mem : Type := Nat → Int → Int
/-- name, bytes, locals, answer's type, room: frames, locals -/
abbrev MI : Type := MethodName × ByteArray × Nat × Option FieldType × Nat × Nat
abbrev mY (M : MI) : MethodName := M.1
abbrev mB (M : MI) : ByteArray := M.2.1
abbrev mL (M : MI) : Nat := M.2.2.1
abbrev mR (M : MI) : Option FieldType := M.2.2.2.1
abbrev mF (M : MI) : Nat := M.2.2.2.2.1
abbrev mW (M : MI) : Nat := M.2.2.2.2.2
/-- launch; ids of classes and field places; ids of array classes; the first owned address; arrays from outside (address, length, content); the cells' addresses -/
abbrev GX : Type := Launch × va_G × (Nat → ClassId) × Nat × (Nat → Nat × Nat × (Int → Int)) × (Nat → Nat)
abbrev gL (G : GX) : Launch := G.1
abbrev gD (G : GX) : va_G := G.2.1
abbrev gC (G : GX) : Nat → ClassId := G.2.2.1
abbrev gZ (G : GX) : Nat := G.2.2.2.1
abbrev gE (G : GX) : Nat → Nat × Nat × (Int → Int) := G.2.2.2.2.1
abbrev gA (G : GX) : Nat → Nat := G.2.2.2.2.2
def jI (x : Int) : Int32 := Int32.ofInt x
def inI (x : Int) : Prop := -2147483648 ≤ x ∧ x < 2147483648
def jv (G : GX) : PV → Value
  | .inl i => .int (jI i)
  | .inr (.ref k) => .ref (gA G k)
  | .inr (.retAddr j) => .ref (gE G j).1
  | .inr v => v
def jcat : PV → Nat
  | .inr (.long _) => 2
  | .inr (.double _) => 2
  | _ => 1
theorem jcat_eq (G : GX) (v : PV) : (jv G v).category = jcat v := by
  cases v with
  | inl i => rfl
  | inr v => cases v <;> rfl
def jcats (S : List PV) : Nat := (S.map jcat).sum
theorem jcats_eq (G : GX) (S : List PV) : ((S.map (jv G)).map fun v => v.category).sum = jcats S := by
  unfold jcats
  rw [List.map_map]
  congr 1
  exact List.map_congr_left fun v _ => jcat_eq G v
/-- the locals that are known, with their places -/
def jl (G : GX) : Nat → List (Option PV) → List (Nat × Value)
  | _, [] => []
  | i, none :: r => jl G (i + 1) r
  | i, some v :: r => (i, jv G v) :: jl G (i + 1) r
theorem jl_mem {G : GX} : ∀ (L : List (Option PV)) (i : Nat) (q : Nat × Value), q ∈ jl G i L ↔ ∃ (k : Nat) (v : PV), L[k]? = some (some v) ∧ q = (i + k, jv G v)
  | [], i, q => by simp [jl]
  | none :: r, i, q => by
    rw [jl, jl_mem r (i + 1) q]
    constructor
    · rintro ⟨k, v, h1, h2⟩
      exact ⟨k + 1, v, by simpa using h1, by rw [h2]; congr 1; omega⟩
    · rintro ⟨k, v, h1, h2⟩
      cases k with
      | zero => simp at h1
      | succ k => exact ⟨k, v, by simpa using h1, by rw [h2]; congr 1; omega⟩
  | some w :: r, i, q => by
    rw [jl, List.mem_cons, jl_mem r (i + 1) q]
    constructor
    · rintro (h | ⟨k, v, h1, h2⟩)
      · exact ⟨0, w, by simp, by rw [h]; rfl⟩
      · exact ⟨k + 1, v, by simpa using h1, by rw [h2]; congr 1; omega⟩
    · rintro ⟨k, v, h1, h2⟩
      cases k with
      | zero =>
        simp at h1
        left; rw [h2, h1]; rfl
      | succ k => exact Or.inr ⟨k, v, by simpa using h1, by rw [h2]; congr 1; omega⟩
def jfv (G : GX) : (Nat ⊕ Nat) → Int → Value
  | .inl 0, x => .int (jI x)
  | .inl 1, x => .long (Int64.ofInt x)
  | .inl _, _ => .null
  | .inr r, _ => .ref (gA G r)
def jfl (G : GX) (ks : List (Nat ⊕ Nat)) (f : Int → Int) : List Value := (List.range ks.length).map fun j => jfv G (ks.getD j (.inl 0)) (f (j : Int))
def jrf (G : GX) (x : Int) : Option Nat := if x < 0 then none else some (gA G x.toNat)
def jel (G : GX) (s : SH) (f : Int → Int) : va_E := match s with
  | .inl q => .inr (q.1, jfl G q.2 f)
  | .inr (0, n) => .inl (gC G 0, n, .inl (fun i => jI (f (i : Int))))
  | .inr (1, n) => .inl (gC G 1, n, .inr (.inl (fun i => Int64.ofInt (f (i : Int)))))
  | .inr (_, n) => .inl (gC G 2, n, .inr (.inr (.inr (.inr (fun i => jrf G (f (i : Int)))))))
def jws (G : GX) (sh : List SH) (m : Mem) : va_W := (List.range sh.length).map fun k => (gA G k, jel G (sh.getD k (.inr (0, 0))) (m k))
def jty (G : GX) : List (ClassId × FieldType) := [(gC G 0, .int), (gC G 1, .int), (gC G 2, .object RX3)]
def jA (G : GX) : Nat → Prop := fun q => gZ G ≤ q
def jstrs : List (Nat × String) := [(395, "there is no such core"), (400, "there is no such tenant"), (403, "there is no such insurer"), (405, "there is no such setting"), (409, "an argument is not one that is allowed"), (414, "the present state does not allow this")]
def jnest : List (String × Nat × MethodName) := [(RX3, 44, yX5_init), (RX3, 51, yX2_init), (RX3, 65, yX7_copyRow), (RX7, 28, yX6_init), (RX6, 33, yX7_within), (RX0, 44, yX7_maskOf), (RX1, 32, yX7_isCore), (RX0, 54, yX7_isCore), (RX0, 40, yX7_copyRow), (RX1, 28, yX7_copyRow), (RX5, 25, yX7_copyRow), (RX2, 31, yX7_copyRow), (RX3, 206, yX7_isCore), (RX3, 175, yX7_linesOf), (RX3, 178, yX7_maskOf)]
def jXO : String := "java/lang/IndexOutOfBoundsException"
def jXA : String := "java/lang/IllegalArgumentException"
def jXS : String := "java/lang/IllegalStateException"
def jcast : List String := [jXO, jXA, jXS]
def jncast : List (String × String) := []
/-- what stands outside: the static arrays, what a throw reads, texts, links of nest mates -/
def jGF (G : GX) (U : State) (H : Heap) : Prop :=
  va_Z RX7 "FIRST_SETTINGS" "[I" (.ref (gE G 0).1) (jA G) U H ∧ va_Z RX7 "MOST_SETTINGS" "[I" (.ref (gE G 1).1) (jA G) U H ∧
  (∀ j, j < 3 → va_T .int (gE G j).1 (gE G j).2.1 (fun i => .int (jI ((gE G j).2.2 (i : Int)))) (jA G) U H) ∧
  vx_Zq Bundle.tN "UNASSIGNED_STACK" Bundle.steD (jA G) U H ∧ vx_Zq Bundle.tN "SUPPRESSED_SENTINEL" Bundle.listD (jA G) U H ∧
  (∀ q ∈ jstrs, ∃ a, vk_R RX7 q.1 q.2 a U) ∧ (∀ q ∈ jnest, va_Nw (.methodLinkNest q.1 q.2.1 q.2.2 RX7) U) ∧ va_Nw (.fieldLinkNest RX3 62 RX7 "FIRST_SETTINGS" "[I" RX7) U ∧
  (∀ q ∈ jcast, va_Nw (.castable q q) U) ∧ (∀ q ∈ jncast, va_Nc q.1 q.2 U) ∧ va_AO RX3 U
def jSF (G : GX) (U : State) : Prop := va_K (gD G) vwCl (jty G) U ∧ jGF G U U.heap
/-- the words that all methods have -/
def jall : List Cond := lw_tbl.filter goodWord
def jAp (G : GX) (n : Nat) : Prop := (∀ i j, i < n → j < n → gA G i = gA G j → i = j) ∧ ∀ i, i < n → gZ G ≤ gA G i
theorem jws_at {G : GX} {sh : List SH} {m : Mem} {k : Nat} {x : SH} (h : sh[k]? = some x) : (jws G sh m)[k]? = some (gA G k, jel G x (m k)) := by
  have hk : k < sh.length := (List.getElem?_eq_some_iff.mp h).1
  unfold jws
  rw [List.getElem?_map, List.getElem?_range hk]
  simp [List.getD, h]
theorem jws_len {G : GX} {sh : List SH} {m : Mem} : (jws G sh m).length = sh.length := by simp [jws]
theorem jD_of {G : GX} {sh : List SH} (h : jAp G sh.length) (m : Mem) : va_D (jA G) (jws G sh m) := by
  have key : ∀ (k : Nat) (q : Nat × va_E), (jws G sh m)[k]? = some q → k < sh.length ∧ q.1 = gA G k := by
    intro k q hq
    have hk : k < sh.length := by
      have := (List.getElem?_eq_some_iff.mp hq).1
      rwa [jws_len] at this
    have := jws_at (G := G) (m := m) (List.getElem?_eq_getElem hk)
    rw [this] at hq
    cases hq
    exact ⟨hk, rfl⟩
  refine ⟨fun i j p q hp hq e => ?_, fun k q hq => ?_⟩
  · obtain ⟨h1, h2⟩ := key i p hp
    obtain ⟨h3, h4⟩ := key j q hq
    exact h.1 i j h1 h3 (by rw [← h2, ← h4]; exact e)
  · obtain ⟨h1, h2⟩ := key k q hq
    show gZ G ≤ q.1
    rw [h2]
    exact h.2 k h1
/-- a place written -/
def up (m : Mem) (k : Nat) (j v : Int) : Mem := fun a b => if a = k ∧ b = j then v else m a b
theorem jws_up {G : GX} {sh : List SH} {m : Mem} {k : Nat} {j v : Int} {x : SH} {e : va_E} (h : sh[k]? = some x) (he : jel G x (up m k j v k) = e) : (jws G sh m).set k (gA G k, e) = jws G sh (up m k j v) := by
  have hk : k < sh.length := (List.getElem?_eq_some_iff.mp h).1
  apply List.ext_getElem?
  intro i
  rw [List.getElem?_set]
  by_cases hi : k = i
  · subst hi
    rw [if_pos rfl, jws_len, if_pos hk, jws_at h, he]
  · rw [if_neg hi]
    by_cases hil : i < sh.length
    · rw [jws_at (List.getElem?_eq_getElem hil), jws_at (List.getElem?_eq_getElem hil)]
      have : up m k j v i = m i := by funext b; exact if_neg (fun q => hi q.1.symm)
      rw [this]
    · rw [List.getElem?_eq_none (by rw [jws_len]; omega), List.getElem?_eq_none (by rw [jws_len]; omega)]
/-- the fixed facts of one activation -/
def Cx (G : GX) (sh : List SH) (M : MI) (mc ms : Nat) (p : Program) (s : State) (mm : MethodId) (args : Array Value) (meth : Method) (c : Code) (R : Room) : Prop :=
  p.tables.exec = Jvm.exec ∧ c.code = mB M ∧ meth.sig.returnType = mR M ∧ c.maxLocals = mL M ∧ s.vm.findClass (mY M).cls = some mm.cls ∧ meth.locks = false ∧
  (∀ w ∈ jall, w.before args s = true) ∧ jSF G s ∧ gZ G ≤ s.heap.size ∧ jAp G sh.length ∧ (gL G).flags = flags0 ∧ R = { frames := mF M, locals := mW M, cells := mc, slots := ms }
abbrev FinT : Type := List Frame → Array Value → State → Code → Method → State → Prop
def J (G : GX) (sh : List SH) (M : MI) (mc ms : Nat) (F : FinT) (pc : Nat) (L : List (Option PV)) (S : List PV) (m : Mem) (k n : Nat) : Prop :=
  ∀ (p : Program) (e : Env) (s : State) (mm : MethodId) (args : Array Value) (below : List Frame) (meth : Method) (c : Code) (R : Room), Cx G sh M mc ms p s mm args meth c R →
  ∀ (H : Heap) (locs : List Loc) (ls : Array Slot), va_P (gD G) vwCl (jws G sh m) H → va_S (jA G) s.heap H locs → lv_has ls (mL M) (jl G 0 L) →
    W p (gL G) e R s mm args below meth c H locs k n (F below args s c meth) (F0 mm pc ls (S.map (jv G)))
section
variable {G : GX} {sh : List SH} {M : MI} {p : Program} {s : State} {mm : MethodId} {args : Array Value} {meth : Method} {c : Code} {R : Room} {mc ms : Nat}
theorem Cx.x (C : Cx G sh M mc ms p s mm args meth c R) : p.tables.exec = Jvm.exec := C.1
theorem Cx.b (C : Cx G sh M mc ms p s mm args meth c R) : c.code = mB M := C.2.1
theorem Cx.r (C : Cx G sh M mc ms p s mm args meth c R) : meth.sig.returnType = mR M := C.2.2.1
theorem Cx.ml (C : Cx G sh M mc ms p s mm args meth c R) : c.maxLocals = mL M := C.2.2.2.1
theorem Cx.own (C : Cx G sh M mc ms p s mm args meth c R) : s.vm.findClass (mY M).cls = some mm.cls := C.2.2.2.2.1
theorem Cx.lk (C : Cx G sh M mc ms p s mm args meth c R) : meth.locks = false := C.2.2.2.2.2.1
theorem Cx.ts (C : Cx G sh M mc ms p s mm args meth c R) : ∀ w ∈ jall, w.before args s = true := C.2.2.2.2.2.2.1
theorem Cx.sf (C : Cx G sh M mc ms p s mm args meth c R) : jSF G s := C.2.2.2.2.2.2.2.1
theorem Cx.z (C : Cx G sh M mc ms p s mm args meth c R) : gZ G ≤ s.heap.size := C.2.2.2.2.2.2.2.2.1
theorem Cx.ap (C : Cx G sh M mc ms p s mm args meth c R) : jAp G sh.length := C.2.2.2.2.2.2.2.2.2.1
theorem Cx.fl (C : Cx G sh M mc ms p s mm args meth c R) : (gL G).flags = flags0 := C.2.2.2.2.2.2.2.2.2.2.1
theorem Cx.room (C : Cx G sh M mc ms p s mm args meth c R) : R = { frames := mF M, locals := mW M, cells := mc, slots := ms } := C.2.2.2.2.2.2.2.2.2.2.2
theorem Cx.k (C : Cx G sh M mc ms p s mm args meth c R) : va_K (gD G) vwCl (jty G) s := C.sf.1
theorem Cx.d (C : Cx G sh M mc ms p s mm args meth c R) (m : Mem) : va_D (jA G) (jws G sh m) := jD_of C.ap m
theorem jl_get {ls : Array Slot} {n : Nat} {L : List (Option PV)} (h : lv_has ls n (jl G 0 L)) {k : Nat} {v : PV} (hk : L[k]? = some (some v)) : ls[k]? = some (.val (jv G v)) :=
  h.2.2 (k, jv G v) ((jl_mem L 0 (k, jv G v)).mpr ⟨k, v, hk, by rw [Nat.zero_add]⟩)
/-- ahead of a store: no long lies just before the place -/
def jprev (i : Nat) (L : List (Option PV)) : Bool := match i with
  | 0 => true
  | j + 1 => match L[j]? with
    | some (some v) => jcat v == 1
    | _ => true
theorem jl_store {ls : Array Slot} {n i : Nat} {L : List (Option PV)} {v : PV} (hp : jprev i L = true) (h : lv_has ls n ((i, jv G v) :: (jl G 0 L).filter (fun q => !(q.1 == i) && !(q.1 + 1 == i && q.2.category == 2)))) : lv_has ls n (jl G 0 (L.set i (some v))) := by
  refine ⟨h.1, h.2.1, fun q hq => ?_⟩
  obtain ⟨k, w, hk, rfl⟩ := (jl_mem _ 0 q).mp hq
  rw [Nat.zero_add]
  rw [List.getElem?_set] at hk
  apply h.2.2
  by_cases hki : i = k
  · subst hki
    rw [if_pos rfl] at hk
    split at hk
    · cases hk; exact List.mem_cons_self
    · cases hk
  · rw [if_neg hki] at hk
    refine List.mem_cons_of_mem _ (List.mem_filter.mpr ⟨(jl_mem L 0 _).mpr ⟨k, w, hk, by rw [Nat.zero_add]⟩, ?_⟩)
    have h1 : ¬ k = i := fun z => hki z.symm
    by_cases h2 : k + 1 = i
    · subst h2
      simp only [jprev, hk, beq_iff_eq] at hp
      simp [jcat_eq, hp, h1]
    · simp [h1, h2]
theorem jl_store2 {ls : Array Slot} {n i : Nat} {L : List (Option PV)} {v : PV} (hp : jprev i L = true) (h : lv_has ls n ((i, jv G v) :: (jl G 0 L).filter (fun q => !(q.1 == i) && (!(q.1 == i + 1) && !(q.1 + 1 == i && q.2.category == 2))))) : lv_has ls n (jl G 0 ((L.set i (some v)).set (i + 1) none)) := by
  refine ⟨h.1, h.2.1, fun q hq => ?_⟩
  obtain ⟨k, w, hk, rfl⟩ := (jl_mem _ 0 q).mp hq
  rw [Nat.zero_add]
  rw [List.getElem?_set, List.getElem?_set] at hk
  apply h.2.2
  by_cases hk1 : i + 1 = k
  · rw [if_pos hk1] at hk
    split at hk <;> cases hk
  · rw [if_neg hk1] at hk
    by_cases hki : i = k
    · subst hki
      rw [if_pos rfl] at hk
      split at hk
      · cases hk; exact List.mem_cons_self
      · cases hk
    · rw [if_neg hki] at hk
      refine List.mem_cons_of_mem _ (List.mem_filter.mpr ⟨(jl_mem L 0 _).mpr ⟨k, w, hk, by rw [Nat.zero_add]⟩, ?_⟩)
      have h1 : ¬ k = i := fun z => hki z.symm
      have h3 : ¬ k = i + 1 := fun z => hk1 z.symm
      by_cases h2 : k + 1 = i
      · subst h2
        simp only [jprev, hk, beq_iff_eq] at hp
        simp [jcat_eq, hp]
        omega
      · simp [h1, h2, h3]
theorem jl_weak {ls : Array Slot} {n : Nat} {L L' : List (Option PV)} (h : lv_has ls n (jl G 0 L)) (hL : ∀ (k : Nat) (v : PV), L'[k]? = some (some v) → L[k]? = some (some v)) : lv_has ls n (jl G 0 L') := by
  refine ⟨h.1, h.2.1, fun q hq => ?_⟩
  obtain ⟨k, w, hk, rfl⟩ := (jl_mem _ 0 q).mp hq
  exact h.2.2 _ ((jl_mem L 0 _).mpr ⟨k, w, hL k w hk, rfl⟩)
end
/-- a whole number as 32 bits read it -/
def wr (x : Int) : Int := (jI x).toInt
theorem wr_id {x : Int} (h : inI x) : wr x = x := by
  unfold wr jI
  exact Int32.toInt_ofInt_of_le (by have := h.1; omega) (by have := h.2; omega)
theorem wr_in (x : Int) : inI (wr x) := ⟨Int32.le_toInt _, Int32.toInt_lt _⟩
theorem wr_wr (x : Int) : wr (wr x) = wr x := wr_id (wr_in x)
theorem jI_wr (x : Int) : jI (wr x) = jI x := by unfold wr jI; exact Int32.ofInt_toInt _
theorem jI_inj {x y : Int} : jI x = jI y ↔ wr x = wr y := by unfold wr; exact Int32.toInt_inj.symm
def bI (b : Bool) : Int := if b then 1 else 0

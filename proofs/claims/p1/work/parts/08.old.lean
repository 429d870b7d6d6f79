/-! What holds at the law's start stays: words of the tables, statics, strings. -/
/-- the law's start: the tables' words, and what the Statement gives -/
def zG (B0 : State) : Prop := ∃ b : Addr, (∀ w ∈ lw_tbl, w.before #[Value.ref b] B0 = true) ∧ (Jvm.Cond.and given_1 narrow_1).before #[Value.ref b] B0 = true
/-- since then: warmer tables; the old cells as they were -/
def zO (B0 U : State) : Prop := B0.WarmedH U.vm ∧ B0.heap.size ≤ U.heap.size ∧ ∀ q : Nat, q < B0.heap.size → U.heap[q]? = B0.heap[q]?
theorem zO.same {B0 u U : State} (hv : u.vm = U.vm) (hh : u.heap = U.heap) (h : zO B0 u) : zO B0 U := by
  obtain ⟨h1, h2, h3⟩ := h
  exact ⟨by rw [← hv]; exact h1, by rw [← hh]; exact h2, fun q hq => by rw [← hh]; exact h3 q hq⟩
theorem zO.go {B0 s U : State} {A : Nat → Prop} {H : Heap} {locs : List Loc} (h : zO B0 s) (hS : va_S A s.heap H locs) (hAO : ∀ q, A q → B0.heap.size ≤ q) (hU : U.heap = H) (hW : s.WarmedH U.vm) : zO B0 U := by
  obtain ⟨h1, h2, h3⟩ := h
  refine ⟨State.WarmedH.trans h1 hW, by rw [hU]; exact Nat.le_trans h2 hS.1, fun q hq => ?_⟩
  rw [hU, hS.2.1 q (Nat.lt_of_lt_of_le hq h2) (fun z => absurd (hAO q z) (Nat.not_le.mpr hq))]
  exact h3 q hq
theorem zO.zN {B0 U : State} (hG : zG B0) (h : zO B0 U) : zN U := by
  obtain ⟨b, hw, -⟩ := hG
  exact fun w hm => z_okw (List.mem_filter.mp hm).2 h.1 (hw w (List.mem_filter.mp hm).1)
/-- a static that the law's start gives -/
theorem z_stat {B0 U : State} {C n d : String} {v : Value} {args : Array Value} (hl : (Cond.laysStatic C n d).before args B0 = true) (hini : (Cond.initialized C).before args B0 = true) (hv : (Term.static C n d).eval args B0 none [] B0 = some v) (h : zO B0 U) : va_Z C n d v (fun q => B0.heap.size ≤ q) U U.heap := by
  have h0 := va_Zof (A := fun q => B0.heap.size ≤ q) hl hini hv (fun a ha => Nat.not_le.mpr ha)
  exact (h0.moved h.1.alike).kept (fun a ha hn => h.2.2 a ha)
theorem z_seval {U : State} {C n d : String} {v : Value} {A : Nat → Prop} {args : Array Value} (h : va_Z C n d v A U U.heap) : (Term.static C n d).eval args U none [] U = some v := by
  obtain ⟨cf, kf, fi, f, a, cell, h1, h2, h3, h4, h5, h6, h7, -⟩ := h
  simp [Term.eval, State.fieldNamed?, h1, h2, h4, h5, h6, h7]
theorem z_isref {B0 U : State} {C n d : String} {args a' : Array Value} (hl : (Cond.laysStatic C n d).before args B0 = true) (hini : (Cond.initialized C).before args B0 = true) (hr : (Cond.isRef (.static C n d)).before args B0 = true) (h : zO B0 U) : (Cond.isRef (.static C n d)).before a' U = true := by
  cases hv : (Term.static C n d).eval args B0 none [] B0 with
  | none => simp [Cond.before, Cond.holds, Cond.value, hv] at hr
  | some v =>
    have h1 := z_seval (args := a') (z_stat hl hini hv h)
    simp only [Cond.before, Cond.holds, Cond.value, hv] at hr
    simp only [Cond.before, Cond.holds, Cond.value, h1]
    exact hr
theorem z_lst {B0 U : State} {C n d : String} {args a' : Array Value} (hl : (Cond.laysStatic C n d).before args B0 = true) (h : zO B0 U) : (Cond.laysStatic C n d).before a' U = true := by
  obtain ⟨c, k, i, f, a, cell, h1, h2, h3, h4, h5, h6, h7, h8, h9⟩ := Cond.laysStatic_spec hl
  obtain ⟨k', hi', he⟩ := State.fieldFound?_setVm h.1.alike h2
  have hi : U.fieldFound? C n d = some (c, k', i, f) := hi'
  have hc : U.vm.findClass C = some c := by rw [h.1.alike.findClass]; exact h1
  have h5' : U.heap[a]? = some cell := by rw [h.2.2 a (Array.getElem?_eq_some_iff.mp h5).1]; exact h5
  have e1 : k'.statics = some a := by rw [he]; exact h4
  have e2 : k'.staticTypes[f.slot]? = some f.type := by rw [he]; exact h9
  simp [Cond.before, Cond.holds, Cond.value, hc, hi, h3, e1, h5', h6, h7, h8, e2]
def z_r1 : Cond := .isRef (.static Bundle.tN "UNASSIGNED_STACK" Bundle.steD)
def z_r2 : Cond := .isRef (.static Bundle.tN "SUPPRESSED_SENTINEL" Bundle.listD)
def z_r3 : Cond := .laysStatic Bundle.tN "UNASSIGNED_STACK" Bundle.steD
def z_r4 : Cond := .laysStatic Bundle.tN "SUPPRESSED_SENTINEL" Bundle.listD
theorem z_oaA : ∀ a ∈ Bundle.ownAtoms "StreamSplitter" 27 "java/lang/IllegalArgumentException" ["java/lang/RuntimeException", "java/lang/Exception"], a ∈ lw_ok ∨ a = z_r1 ∨ a = z_r2 ∨ a = z_r3 ∨ a = z_r4 := by decide +kernel
theorem z_oaB : ∀ a ∈ Bundle.ownAtoms "StreamSplitter" 48 "java/lang/IndexOutOfBoundsException" ["java/lang/RuntimeException", "java/lang/Exception"], a ∈ lw_ok ∨ a = z_r1 ∨ a = z_r2 ∨ a = z_r3 ∨ a = z_r4 := by decide +kernel
theorem z_r3in : z_r3 ∈ lw_tbl := by decide +kernel
theorem z_r4in : z_r4 ∈ lw_tbl := by decide +kernel
theorem z_tin : Cond.initialized Bundle.tN ∈ lw_tbl := by decide +kernel
theorem z_oa {B0 U : State} {args : Array Value} (hG : zG B0) (h : zO B0 U) {a : Cond} (ha : a ∈ lw_ok ∨ a = z_r1 ∨ a = z_r2 ∨ a = z_r3 ∨ a = z_r4) : a.before args U = true := by
  have hN := h.zN hG
  obtain ⟨b, hw, hn⟩ := hG
  have hs := flat_of_before _ hn
  have l3 := hw _ z_r3in
  have l4 := hw _ z_r4in
  have li := hw _ z_tin
  rcases ha with ha | rfl | rfl | rfl | rfl
  · exact hN.use _ ha
  · exact z_isref l3 li (hs _ (by decide +kernel)) h
  · exact z_isref l4 li (hs _ (by decide +kernel)) h
  · exact z_lst l3 h
  · exact z_lst l4 h


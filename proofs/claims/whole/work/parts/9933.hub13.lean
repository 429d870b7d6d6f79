/-! The reference's sections in the hub: bytes -/
def bl (b : Nat → Nat) (a c : Nat) : List Nat := (List.range c).map (fun i => b (a + i))
theorem bl_len (b : Nat → Nat) (a c : Nat) : (bl b a c).length = c := by unfold bl; rw [List.length_map, List.length_range]
theorem bl_s (b : Nat → Nat) (a c : Nat) : bl b a (c + 1) = b a :: bl b (a + 1) c := by
  unfold bl
  rw [List.range_succ_eq_map, List.map_cons, List.map_map]
  congr 1
  apply List.map_congr_left
  intro i _
  show b (a + (i + 1)) = b (a + 1 + i)
  congr 1
  omega
theorem bl_app (b : Nat → Nat) (a c : Nat) (X : List Nat) : X ++ bl b a (c + 1) = (X ++ [b a]) ++ bl b (a + 1) c := by
  rw [bl_s, List.append_assoc]
  rfl
def glq (X : List Nat) : Prop := X.length < 3 ∨ (X.length < huWh X ∧ huWh X ≤ 1024)
theorem wh_app {X : List Nat} (y : Nat) (h : 3 ≤ X.length) : huWh (X ++ [y]) = huWh X := by
  unfold huWh
  rw [List.getD_eq_getElem?_getD, List.getD_eq_getElem?_getD, List.getElem?_append_left (by omega), List.getElem?_append_left (by omega), ← List.getD_eq_getElem?_getD, ← List.getD_eq_getElem?_getD]
theorem go_step {b : Nat → Nat} {m a : Nat} {X : List Nat} (h : glq (X ++ [b a])) : huGo b (m + 1) a X = huGo b m (a + 1) (X ++ [b a]) := by
  rw [huGo, if_neg (fun q => by rcases h with h | h <;> omega), if_neg (fun q => by rcases h with h | h <;> omega)]
theorem go_0 {b : Nat → Nat} : ∀ (m a : Nat) (X : List Nat), (∀ i, i ≤ m → glq (X ++ bl b a i)) → huGo b m a X = (0, a + m, X ++ bl b a m)
  | 0, a, X, _ => by
    show (0, a, X) = (0, a + 0, X ++ [])
    rw [List.append_nil]
    rfl
  | m + 1, a, X, h => by
    have h1 := h 1 (by omega)
    rw [bl_app] at h1
    rw [go_step (by rw [show bl b (a + 1) 0 = [] from rfl, List.append_nil] at h1; exact h1), go_0 m (a + 1) _ (fun i hi => by
      have := h (i + 1) (by omega)
      rw [bl_app] at this
      exact this), bl_app, show a + 1 + m = a + (m + 1) by omega]
theorem go_1 {b : Nat → Nat} (c : Nat) : ∀ (m a : Nat) (X : List Nat), c + 1 ≤ m → (∀ i, i < c + 1 → glq (X ++ bl b a i)) → 3 ≤ (X ++ bl b a (c + 1)).length → 1024 < huWh (X ++ bl b a (c + 1)) → huGo b m a X = (1, a + c, X ++ bl b a (c + 1)) := by
  induction c with
  | zero =>
    intro m a X hm h h3 hw
    obtain ⟨m, rfl⟩ : ∃ m2, m = m2 + 1 := ⟨m - 1, by omega⟩
    have h0 := h 0 (by omega)
    rw [show bl b a 0 = [] from rfl, List.append_nil] at h0
    rw [bl_app, show bl b (a + 1) 0 = [] from rfl, List.append_nil] at h3 hw ⊢
    have hl : (X ++ [b a]).length = X.length + 1 := by rw [List.length_append, List.length_singleton]
    have h33 : (X ++ [b a]).length = 3 := by
      rcases h0 with h0 | ⟨h0, h1⟩
      · omega
      · by_cases c : 3 ≤ X.length
        · rw [wh_app _ c] at hw; omega
        · omega
    rw [huGo, if_pos ⟨h33, hw⟩]
    rfl
  | succ c ih =>
    intro m a X hm h h3 hw
    obtain ⟨m, rfl⟩ : ∃ m2, m = m2 + 1 := ⟨m - 1, by omega⟩
    have h1 := h 1 (by omega)
    rw [bl_app] at h1
    rw [bl_app] at h3 hw
    rw [go_step (by rw [show bl b (a + 1) 0 = [] from rfl, List.append_nil] at h1; exact h1), ih m (a + 1) _ (by omega) (fun i hi => by
      have := h (i + 1) (by omega)
      rw [bl_app] at this
      exact this) h3 hw, bl_app b a (c + 1) X, show a + 1 + c = a + (c + 1) by omega]
theorem go_2 {b : Nat → Nat} (c : Nat) : ∀ (m a : Nat) (X : List Nat), c + 1 ≤ m → (∀ i, i < c + 1 → glq (X ++ bl b a i)) → 3 ≤ (X ++ bl b a (c + 1)).length → (X ++ bl b a (c + 1)).length = huWh (X ++ bl b a (c + 1)) → (X ++ bl b a (c + 1)).length ≤ 1024 → huGo b m a X = (2, a + c, X ++ bl b a (c + 1)) := by
  induction c with
  | zero =>
    intro m a X hm h h3 hw hle
    obtain ⟨m, rfl⟩ : ∃ m2, m = m2 + 1 := ⟨m - 1, by omega⟩
    rw [bl_app, show bl b (a + 1) 0 = [] from rfl, List.append_nil] at h3 hw hle ⊢
    rw [huGo, if_neg (by omega), if_pos ⟨h3, by omega⟩]
    rfl
  | succ c ih =>
    intro m a X hm h h3 hw hle
    obtain ⟨m, rfl⟩ : ∃ m2, m = m2 + 1 := ⟨m - 1, by omega⟩
    have h1 := h 1 (by omega)
    rw [bl_app] at h1
    rw [bl_app] at h3 hw hle
    rw [go_step (by rw [show bl b (a + 1) 0 = [] from rfl, List.append_nil] at h1; exact h1), ih m (a + 1) _ (by omega) (fun i hi => by
      have := h (i + 1) (by omega)
      rw [bl_app] at this
      exact this) h3 hw hle, bl_app b a (c + 1) X, show a + 1 + c = a + (c + 1) by omega]
theorem pL_bl {pk : Nat → Int32} {b : Nat → Nat} (hpk : ∀ j, j < 188 → pk j = nI (b j)) {a c : Nat} (h : a + c ≤ 188) : pL pk a c = (bl b a c).map nI := by
  unfold pL bl
  rw [List.map_map]
  apply List.map_congr_left
  intro i hi
  have hi := List.mem_range.mp hi
  exact hpk _ (by omega)
theorem gd_map {X : List Nat} (i : Nat) : (X.map nI).getD i 0 = nI (X.getD i 0) := by
  rw [List.getD_eq_getElem?_getD, List.getD_eq_getElem?_getD, List.getElem?_map]
  cases X[i]? <;> rfl
theorem gd_lt {X : List Nat} (h : ∀ y ∈ X, y < 256) (i : Nat) : X.getD i 0 < 256 := by
  rw [List.getD_eq_getElem?_getD]
  cases c : X[i]? with
  | none => exact (by decide : 0 < 256)
  | some y => exact h y (List.mem_of_getElem? c)
theorem wL_hu {X : List Nat} (h : ∀ y ∈ X, y < 256) : wL (X.map nI) = huWh X := by
  unfold wL huWh
  rw [gd_map, gd_map, nI_clamp (by have := gd_lt h 1; omega), nI_clamp (by have := gd_lt h 2; omega)]
theorem GL_hu {X : List Nat} (h : ∀ y ∈ X, y < 256) : GL (X.map nI) ↔ glq X := by
  unfold GL glq
  rw [wL_hu h, List.length_map]
theorem bl_lt {b : Nat → Nat} (hb : ∀ j, b j < 256) (a c : Nat) : ∀ y ∈ bl b a c, y < 256 := by
  intro y hy
  unfold bl at hy
  obtain ⟨i, -, rfl⟩ := List.mem_map.mp hy
  exact hb _
theorem app_lt {X Y : List Nat} (hx : ∀ y ∈ X, y < 256) (hy : ∀ y ∈ Y, y < 256) : ∀ y ∈ X ++ Y, y < 256 := fun y h => (List.mem_append.mp h).elim (hx y) (hy y)
/-- bytes as ints are told apart -/
theorem map_inj {X Y : List Nat} (hx : ∀ y ∈ X, y < 256) (hy : ∀ y ∈ Y, y < 256) (h : X.map nI = Y.map nI) : X = Y := by
  apply List.ext_getElem
  · have := congrArg List.length h
    rw [List.length_map, List.length_map] at this
    exact this
  · intro i h1 h2
    have e : (X.map nI).getD i 0 = (Y.map nI).getD i 0 := by rw [h]
    rw [gd_map, gd_map, nI_eq (by have := gd_lt hx i; omega) (by have := gd_lt hy i; omega)] at e
    rw [List.getD_eq_getElem?_getD, List.getD_eq_getElem?_getD, List.getElem?_eq_getElem h1, List.getElem?_eq_getElem h2] at e
    exact e
theorem slB_eq {f : Nat → Int32} {k : Nat} {X : List Nat} {B : List Int32} (hl : B.length = X.length) (h1 : slB f k B) (h2 : slB f k (X.map nI)) : B = X.map nI := by
  apply List.ext_getElem
  · rw [List.length_map]; exact hl
  · intro i h3 h4
    have e1 := h1 i h3
    have e2 := h2 i h4
    rw [List.getD_eq_getElem?_getD, List.getElem?_eq_getElem h3] at e1
    rw [List.getD_eq_getElem?_getD, List.getElem?_eq_getElem h4] at e2
    exact e1.symm.trans e2
/-! The same use -/
def pk2 (V : List PV9) : List (Nat × List (Int32 × Nat)) := V.map (fun v => (v.2.1, v.2.2.2.2.2.2.1))
theorem us_key {V W : List PV9} (h : pk2 V = pk2 W) (q : Nat) : huUs V q = huUs W q := by
  have hl : V.length = W.length := by
    have := congrArg List.length h
    unfold pk2 at this
    rw [List.length_map, List.length_map] at this
    exact this
  have ho : huOw V q = huOw W q := by
    have e : ∀ U : List PV9, huOw U q = (pk2 U).findIdx? (fun x => x.2.any (fun y => y.2 == q)) := fun U => by
      unfold pk2
      rw [List.findIdx?_map]
      rfl
    rw [e, e, h]
  have ha : V.any (fun v => v.2.1 == q) = W.any (fun v => v.2.1 == q) := by
    have e : ∀ U : List PV9, U.any (fun v => v.2.1 == q) = (pk2 U).any (fun x => x.1 == q) := fun U => by
      unfold pk2
      rw [List.any_map]
      rfl
    rw [e, e, h]
  have ht : ∀ j, huTy (V.getD j pv0) q = huTy (W.getD j pv0) q := fun j => by
    have e : ∀ U : List PV9, (U.getD j pv0).2.2.2.2.2.2.1 = ((pk2 U).getD j (0, [])).2 := fun U => by
      unfold pk2
      rw [List.getD_eq_getElem?_getD, List.getD_eq_getElem?_getD, List.getElem?_map]
      cases U[j]? <;> rfl
    unfold huTy
    rw [e, e, h]
  unfold huUs
  rw [ha, ho]
  cases huOw W q with
  | none => rfl
  | some j => show (if _ then _ else if _ then _ else if huTy (V.getD j pv0) q = 134 then 3 else 4) = _; rw [ht j]
theorem pk2_set {V : List PV9} {j : Nat} {w : PV9} (hw : (w.2.1, w.2.2.2.2.2.2.1) = ((V.getD j pv0).2.1, (V.getD j pv0).2.2.2.2.2.2.1)) : pk2 (V.set j w) = pk2 V := by
  unfold pk2
  rw [List.map_set]
  by_cases c : j < V.length
  · apply List.ext_getElem?
    intro i
    rw [List.getElem?_set]
    by_cases c2 : j = i
    · subst c2
      rw [if_pos rfl, if_pos (by rw [List.length_map]; exact c), List.getElem?_map, List.getElem?_eq_getElem c, pv_getE c]
      exact congrArg some hw
    · rw [if_neg c2]
  · rw [List.set_eq_of_length_le (by rw [List.length_map]; omega)]
theorem us_or (S : Nat → Nat) (n : Nat) (V : List PV9) (pid q : Nat) : huUs (huOr S n V pid) q = huUs V q := by
  unfold huOr
  by_cases c : huIo S n
  · rw [if_pos c]
    cases huOw V pid with
    | none => rfl
    | some j => exact us_key (V := V.set j (huOrV S n (V.getD j pv0))) (pk2_set (w := huOrV S n (V.getD j pv0)) rfl) q
  · rw [if_neg c]
theorem us_mn (V : List PV9) (pid q : Nat) (t : Int64) : huUs (huMn V pid t) q = huUs V q := by
  unfold huMn
  cases huOw V pid with
  | none => rfl
  | some j => exact us_key (V := V.set j (huVa (V.getD j pv0) t (huOd 12 t (V.getD j pv0).2.2.2.2.1 (V.getD j pv0).2.2.2.2.2.2.2))) (pk2_set (w := huVa (V.getD j pv0) t (huOd 12 t (V.getD j pv0).2.2.2.2.1 (V.getD j pv0).2.2.2.2.2.2.2)) rfl) q
theorem us_1 {V : List PV9} {p : Nat} : huUs V p = 1 ↔ p = 0 := by
  unfold huUs
  constructor
  · intro h
    by_cases c : p = 0
    · exact c
    · rw [if_neg c] at h
      by_cases c2 : V.any (fun v => v.2.1 == p) = true
      · rw [if_pos c2] at h; omega
      · rw [if_neg c2] at h
        cases hc : huOw V p with
        | none => rw [hc] at h; cases h
        | some j => rw [hc] at h; simp only at h; split at h <;> omega
  · intro h; rw [if_pos h]
theorem us_2 {V : List PV9} {p : Nat} : huUs V p = 2 ↔ (¬ p = 0 ∧ V.any (fun v => v.2.1 == p) = true) := by
  unfold huUs
  constructor
  · intro h
    by_cases c : p = 0
    · rw [if_pos c] at h; omega
    · rw [if_neg c] at h
      by_cases c2 : V.any (fun v => v.2.1 == p) = true
      · exact ⟨c, c2⟩
      · rw [if_neg c2] at h
        cases hc : huOw V p with
        | none => rw [hc] at h; cases h
        | some j => rw [hc] at h; simp only at h; split at h <;> omega
  · rintro ⟨h1, h2⟩; rw [if_neg h1, if_pos h2]
theorem us_pl {S : Nat → Nat} {n : Nat} {V W : List PV9} {p : Nat} (h : huPl S n V p = some W) (hu : huUs V p = 2) : huUs W p = 2 := by
  obtain ⟨h1, h2⟩ := us_2.mp hu
  refine us_2.mpr ⟨h1, ?_⟩
  unfold huPl at h
  by_cases c : huIt S 2
  · rw [if_pos c] at h
    cases hj : huPlJ S V p with
    | none => rw [hj] at h; cases h
    | some j =>
      rw [hj] at h
      have h : (if ¬ (V.getD j pv0).2.2.1 = huVr S ∧ (huSr S n).2 = n then some (V.set j (huPlV S n (V.getD j pv0))) else none) = some W := h
      split at h
      · have e := Option.some.inj h
        rw [← e]
        have em : ∀ U : List PV9, U.any (fun v => v.2.1 == p) = (U.map (fun v => v.2.1)).any (fun x => x == p) := fun U => by rw [List.any_map]; rfl
        rw [em, List.map_set]
        rw [em] at h2
        by_cases c3 : j < V.length
        · have : (V.map (fun v => v.2.1)).set j (huPlV S n (V.getD j pv0)).2.1 = V.map (fun v => v.2.1) := by
            apply List.ext_getElem?
            intro i
            rw [List.getElem?_set]
            by_cases c2 : j = i
            · subst c2
              rw [if_pos rfl, if_pos (by rw [List.length_map]; exact c3), List.getElem?_map, List.getElem?_eq_getElem c3, pv_getE c3]
              rfl
            · rw [if_neg c2]
          rw [this]; exact h2
        · rw [List.set_eq_of_length_le (by rw [List.length_map]; omega)]; exact h2
      · cases h
  · rw [if_neg c] at h; cases h


/-! Obeying what is due -/
def pzA (z : PZ) (aw : Int32) : PZ := (z.1, z.2.1, z.2.2.1, z.2.2.2.1, z.2.2.2.2.1, z.2.2.2.2.2.1, aw, z.2.2.2.2.2.2.2)
def odR : Nat → Int64 → Int32 → List (Nat × Int64 × Int32 × Int32 × Int64) → Int32 → List (Nat × Int64 × Int32 × Int32 × Int64) → va_W → Prop
  | 0, _, aw, Wl, aw2, Wl2, nc => aw2 = aw ∧ Wl2 = Wl ∧ nc = []
  | n + 1, nw, aw, Wl, aw2, Wl2, nc => ((∀ j, j < Wl.length → ¬ due9 nw (Wl.getD j (0, oz0)).2) ∧ aw2 = aw ∧ Wl2 = Wl ∧ nc = []) ∨ ∃ j W1 w nc1, j < Wl.length ∧ due9 nw (Wl.getD j (0, oz0)).2 ∧ (∀ i, i < j → ¬ due9 nw (Wl.getD i (0, oz0)).2) ∧ obP (Wl.eraseIdx j) (Wl.getD j (0, oz0)).2 W1 w ∧ odR n nw (Wl.getD j (0, oz0)).2.2.2.1 W1 aw2 Wl2 nc1 ∧ nc = nc1 ++ onw w
def obl (Wl : List (Nat × Int64 × Int32 × Int32 × Int64)) : Prop := ∀ j, j < Wl.length → (Wl.getD j (0, oz0)).2.2.2.1 = 0 ∨ (Wl.getD j (0, oz0)).2.2.2.1 = 1
theorem obl_er {Wl : List (Nat × Int64 × Int32 × Int32 × Int64)} {k : Nat} (h : obl Wl) (hk : k < Wl.length) : obl (Wl.eraseIdx k) := by
  intro j hj
  rw [List.length_eraseIdx_of_lt hk] at hj
  have e1 : (Wl.eraseIdx k).getD j (0, oz0) = if j < k then Wl.getD j (0, oz0) else Wl.getD (j + 1) (0, oz0) := by
    rw [List.getD_eq_getElem?_getD, List.getElem?_eraseIdx]
    by_cases c : j < k
    · rw [if_pos c, if_pos c, List.getD_eq_getElem?_getD]
    · rw [if_neg c, if_neg c, List.getD_eq_getElem?_getD]
  rw [e1]
  by_cases c : j < k
  · rw [if_pos c]; exact h j (by omega)
  · rw [if_neg c]; exact h (j + 1) (by omega)
theorem obl_ob {Wl W1 : List (Nat × Int64 × Int32 × Int32 × Int64)} {o : Int64 × Int32 × Int32 × Int64} {w : Option (Nat × Int64 × Int32 × Int32 × Int64)} (h : obl Wl) (ho : obP Wl o W1 w) : obl W1 := by
  rcases ho with ⟨-, rfl, -⟩ | ⟨-, q, -, rfl⟩
  · exact h
  · intro j hj
    rw [List.length_append, List.length_singleton] at hj
    by_cases c : j < Wl.length
    · rw [List.getD_eq_getElem?_getD, List.getElem?_append_left c, ← List.getD_eq_getElem?_getD]; exact h j c
    · obtain rfl : j = Wl.length := by omega
      rw [List.getD_eq_getElem?_getD, List.getElem?_append_right (Nat.le_refl _), Nat.sub_self]
      show (if o.2.2.1 = 0 then (1 : Int32) else 0) = 0 ∨ (if o.2.2.1 = 0 then (1 : Int32) else 0) = 1
      by_cases c9 : o.2.2.1 = 0
      · rw [if_pos c9]; exact Or.inr rfl
      · rw [if_neg c9]; exact Or.inl rfl
theorem wk_isW {X Q : va_W} {cO : ClassId} {e0 wa : Nat} {mo : Int32} {wst : Option (Nat × (Nat → Option Nat))} {Wl : List (Nat × Int64 × Int32 × Int32 × Int64)} (h : wok Q wst Wl) (h6 : Wl.length ≤ 6) : isW (X ++ (wlc cO e0 wa Wl.length mo wst ++ Q)) cO wa Wl := by
  cases wst with
  | none =>
    obtain rfl : Wl = [] := h
    exact ⟨e0, mo, fun _ => none, ⟨List.mem_append_right _ (List.mem_append_left _ List.mem_cons_self), h6, Or.inl rfl⟩, fun j hj => absurd hj (Nat.not_lt_zero j)⟩
  | some q =>
    have h' : elO Q q.2 Wl := h
    exact ⟨q.1, mo, q.2, ⟨List.mem_append_right _ (List.mem_append_left _ List.mem_cons_self), h6, Or.inr (List.mem_append_right _ (List.mem_append_left _ (List.mem_cons_of_mem _ List.mem_cons_self)))⟩, fun j hj => ⟨(h' j hj).1, List.mem_append_right _ (List.mem_append_right _ (h' j hj).2)⟩⟩


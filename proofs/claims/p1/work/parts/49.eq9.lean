/-! drop: the same bytes -/
theorem rm_at (tp : Nat → Int32) (c k : Nat) : ∀ j i, rm_f tp c k j i = if k ≤ i ∧ i < k + j then tp (i + c) else tp i
  | 0, i => by
    rw [if_neg (by omega)]
    rfl
  | j + 1, i => by
    rw [rm_f]
    by_cases e : i = k + j
    · subst e
      rw [pk_us, rm_at tp c k j, if_neg (by omega), if_pos (by omega)]
    · rw [pk_un e, rm_at tp c k j]
      by_cases d : k ≤ i ∧ i < k + j
      · rw [if_pos d, if_pos (by omega)]
      · rw [if_neg d, if_neg (by omega)]
theorem dr_get {T : List Int32} {k c i : Nat} (hk : k + c ≤ T.length) : (T.take k ++ T.drop (k + c)).getD i 0 = if i < k then T.getD i 0 else T.getD (i + c) 0 := by
  have hl : (T.take k).length = k := by rw [List.length_take]; omega
  by_cases d : i < k
  · rw [if_pos d]
    simp only [List.getD]
    rw [List.getElem?_append_left (by omega), List.getElem?_take, if_pos d]
  · rw [if_neg d]
    simp only [List.getD]
    rw [List.getElem?_append_right (by omega), hl, List.getElem?_drop, show k + c + (i - k) = i + c by omega]
theorem dr_len {T : List Int32} {k c : Nat} (hk : k + c ≤ T.length) : (T.take k ++ T.drop (k + c)).length = T.length - c := by
  rw [List.length_append, List.length_take, List.length_drop]
  omega
theorem rm_rl {tp : Nat → Int32} {T : List Int32} {k c : Nat} (h : rl tp T) (hk : k + c ≤ T.length) : rl (rm_f tp c k (T.length - c - k)) (T.take k ++ T.drop (k + c)) := by
  intro i hi
  rw [dr_len hk] at hi
  rw [rm_at, dr_get hk]
  by_cases d : i < k
  · rw [if_neg (by omega), if_pos d]
    exact h i (by omega)
  · rw [if_pos (by omega), if_neg d]
    exact h (i + c) (by omega)
theorem cpy_rc {f : Nat → Int32} {T : List Int32} {k c : Nat} (h : rc f T) (hk : k + c ≤ T.length) : rc (va_cpy f f (k + c) k (T.length - k - c)) (T.take k ++ T.drop (k + c)) := by
  refine ⟨fun i => ?_, fun i hi => ?_⟩
  · unfold va_cpy
    split
    · exact h.1 _
    · exact h.1 _
  · rw [dr_len hk] at hi
    rw [dr_get hk]
    unfold va_cpy
    by_cases d : i < k
    · rw [if_neg (by omega), if_pos d]
      exact h.2 i (by omega)
    · rw [if_pos (by omega), if_neg d, show k + c + (i - k) = i + c by omega]
      exact h.2 (i + c) (by omega)


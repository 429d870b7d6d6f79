/-! An order section's switch -/
abbrev bt9 (f : Nat → Int32) (n k : Nat) : Prop := rw_bit f n 1024 k = 1
abbrev swT (f : Nat → Int32) (n : Nat) : Prop := ¬ bt9 f n 155 ∧ bt9 f n 160
def swA (f : Nat → Int32) (n : Nat) : Nat := if bt9 f n 155 then 20 else if swT f n then 25 else 21
def swE (f : Nat → Int32) (n : Nat) : Nat := (if bt9 f n 154 then swA f n + 5 else swA f n) + 4
abbrev swR (f : Nat → Int32) (n : Nat) : Prop := bt9 f n 154 ∧ bt9 f n (8 * swA f n)
def swL (f : Nat → Int32) (n : Nat) : Int64 := if swR f n then rw_bits f n 1024 (8 * swA f n + 7) 33 else -1
def swO (f : Nat → Int32) (n : Nat) (t : Int64) : Int64 × Int32 × Int32 × Int64 := (t, (rw_bits f n 1024 112 32).toInt32, (if bt9 f n 152 then 1 else 0), swL f n)
def swM (f : Nat → Int32) (n : Nat) : Int64 := (rw_bits f n 1024 167 33 + rw_bits f n 1024 39 33) &&& 8589934591
theorem swA_le (f : Nat → Int32) (n : Nat) : swA f n ≤ 25 := by
  unfold swA
  split
  · omega
  · split <;> omega
def swP (f : Nat → Int32) (n : Nat) (nw : Int64) (aw : Int32) (Wl : WL9) (aw2 : Int32) (Wl2 : WL9) (nc : va_W) : Prop :=
  (¬ (bt9 f n 153 ∧ swE f n ≤ n) ∧ aw2 = aw ∧ Wl2 = Wl ∧ nc = [])
  ∨ (bt9 f n 153 ∧ swE f n ≤ n ∧ swT f n ∧ ∃ oa, keP Wl (oa, swO f n (swM f n)) Wl2 ∧ aw2 = aw ∧ nc = [(oa, orE (swO f n (swM f n)))])
  ∨ (bt9 f n 153 ∧ swE f n ≤ n ∧ ¬ swT f n ∧ ∃ oa w, obP Wl (swO f n nw) Wl2 w ∧ aw2 = (swO f n nw).2.2.1 ∧ nc = onw w ++ [(oa, orE (swO f n nw))])
theorem b01 {c : Prop} [Decidable c] : (if c then (1 : Int32) else 0) = 0 ∨ (if c then (1 : Int32) else 0) = 1 := by
  by_cases h : c
  · rw [if_pos h]; exact Or.inr rfl
  · rw [if_neg h]; exact Or.inl rfl
theorem b_1 {c : Prop} [Decidable c] (h : ¬ (if c then (1 : Int32) else 0) = 0) : c := by
  apply Decidable.byContradiction
  intro z
  exact h (if_neg z)
theorem b_0 {c : Prop} [Decidable c] (h : (if c then (1 : Int32) else 0) = 0) : ¬ c := by
  intro z
  rw [if_pos z] at h
  exact absurd h (by decide)
theorem sw_perm {X w Q : va_W} {o : Nat × va_E} : ((X ++ [o]) ++ (w ++ Q)).Perm (X ++ (w ++ (o :: Q))) := by
  rw [List.append_assoc]
  refine List.Perm.append_left X ?_
  show (o :: (w ++ Q)).Perm (w ++ o :: Q)
  exact List.perm_middle.symm
theorem obl_ke {Wl W1 : WL9} {w : Nat × Int64 × Int32 × Int32 × Int64} (h : obl Wl) (hw : w.2.2.2.1 = 0 ∨ w.2.2.2.1 = 1) (hk : keP Wl w W1) : obl W1 := by
  have hset : ∀ j, obl (Wl.set j w) := by
    intro j i hi
    rw [List.length_set] at hi
    rw [List.getD_eq_getElem?_getD, List.getElem?_set]
    by_cases c : j = i
    · subst c; rw [if_pos rfl, if_pos hi]; exact hw
    · rw [if_neg c, ← List.getD_eq_getElem?_getD]; exact h i hi
  have hadd : obl (Wl ++ [w]) := by
    intro i hi
    rw [List.length_append, List.length_singleton] at hi
    by_cases c : i < Wl.length
    · rw [List.getD_eq_getElem?_getD, List.getElem?_append_left c, ← List.getD_eq_getElem?_getD]; exact h i c
    · obtain rfl : i = Wl.length := by omega
      rw [List.getD_eq_getElem?_getD, List.getElem?_append_right (Nat.le_refl _), Nat.sub_self]
      exact hw
  rcases hk with ⟨j, -, -, -, rfl⟩ | ⟨-, rfl⟩
  · exact hset j
  · split
    · exact hadd
    · exact h


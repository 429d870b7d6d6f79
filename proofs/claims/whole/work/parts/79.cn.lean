/-! Cancelling orders by their name; obeying one -/
def cnP (nm : Int32) (w : Nat × Int64 × Int32 × Int32 × Int64) : Bool := decide (¬ w.2.2.1 = nm)
def cnL (nm : Int32) (Wl : List (Nat × Int64 × Int32 × Int32 × Int64)) (i : Nat) : List (Nat × Int64 × Int32 × Int32 × Int64) := Wl.take i ++ (Wl.drop i).filter (cnP nm)
theorem cn_len {nm : Int32} {Wl : List (Nat × Int64 × Int32 × Int32 × Int64)} {i : Nat} : (cnL nm Wl i).length ≤ Wl.length := by
  unfold cnL
  rw [List.length_append, List.length_take]
  have := List.length_filter_le (cnP nm) (Wl.drop i)
  rw [List.length_drop] at this
  omega
theorem cn_get {nm : Int32} {Wl : List (Nat × Int64 × Int32 × Int32 × Int64)} {k : Nat} (h : k < Wl.length) : k < (cnL nm Wl (k + 1)).length ∧ (cnL nm Wl (k + 1)).getD k (0, oz0) = Wl.getD k (0, oz0) := by
  unfold cnL
  refine ⟨by rw [List.length_append, List.length_take]; omega, ?_⟩
  rw [List.getD_eq_getElem?_getD, List.getElem?_append_left (by rw [List.length_take]; omega), List.getElem?_take, if_pos (by omega), ← List.getD_eq_getElem?_getD]
theorem cn_drop {Wl : List (Nat × Int64 × Int32 × Int32 × Int64)} {k : Nat} (h : k < Wl.length) : Wl.drop k = Wl.getD k (0, oz0) :: Wl.drop (k + 1) := by
  rw [List.drop_eq_getElem_cons h, List.getD_eq_getElem?_getD, List.getElem?_eq_getElem h]
  rfl
theorem cn_keep {nm : Int32} {Wl : List (Nat × Int64 × Int32 × Int32 × Int64)} {k : Nat} (h : k < Wl.length) (hn : ¬ (Wl.getD k (0, oz0)).2.2.1 = nm) : cnL nm Wl (k + 1) = cnL nm Wl k := by
  unfold cnL
  have e : cnP nm (Wl.getD k (0, oz0)) = true := by unfold cnP; exact decide_eq_true hn
  rw [cn_drop h, List.filter_cons_of_pos e, List.take_succ, List.append_assoc]
  congr 1
  rw [List.getElem?_eq_getElem h, List.getD_eq_getElem?_getD, List.getElem?_eq_getElem h]
  rfl
theorem cn_rm {nm : Int32} {Wl : List (Nat × Int64 × Int32 × Int32 × Int64)} {k : Nat} (h : k < Wl.length) (hn : (Wl.getD k (0, oz0)).2.2.1 = nm) : (cnL nm Wl (k + 1)).eraseIdx k = cnL nm Wl k := by
  unfold cnL
  have e : ¬ cnP nm (Wl.getD k (0, oz0)) = true := by unfold cnP; rw [decide_eq_true_eq]; exact fun q => q hn
  rw [cn_drop h, List.filter_cons_of_neg e, List.eraseIdx_append_of_lt_length (by rw [List.length_take]; omega)]
  congr 1
  rw [List.take_succ, List.getElem?_eq_getElem h, Option.toList_some, List.eraseIdx_append_of_length_le (by rw [List.length_take]; omega), List.length_take]
  rw [show k - min k Wl.length = 0 by omega]
  exact List.append_nil _
theorem cn_all {nm : Int32} {Wl : List (Nat × Int64 × Int32 × Int32 × Int64)} : cnL nm Wl Wl.length = Wl ∧ cnL nm Wl 0 = Wl.filter (cnP nm) := by
  unfold cnL
  rw [List.take_length, List.drop_length]
  exact ⟨List.append_nil _, rfl⟩
def onw (w : Option (Nat × Int64 × Int32 × Int32 × Int64)) : va_W := match w with
  | none => []
  | some w => [(w.1, orE w.2)]
abbrev OB9 : Type := WU9 × Option (Nat × Int64 × Int32 × Int32 × Int64)
/-- an order is obeyed: the list behind it, and the order that is new -/
def obP (Wl : List (Nat × Int64 × Int32 × Int32 × Int64)) (o : Int64 × Int32 × Int32 × Int64) (Wl2 : List (Nat × Int64 × Int32 × Int32 × Int64)) (w : Option (Nat × Int64 × Int32 × Int32 × Int64)) : Prop :=
  ((o.2.2.2 = -1 ∨ o.1 = -1 ∨ 6 ≤ Wl.length) ∧ Wl2 = Wl ∧ w = none) ∨ (¬ (o.2.2.2 = -1 ∨ o.1 = -1 ∨ 6 ≤ Wl.length) ∧ ∃ q, w = some (q, (o.1 + o.2.2.2) &&& 8589934591, o.2.1, if o.2.2.1 = 0 then 1 else 0, -1) ∧ Wl2 = Wl ++ [(q, (o.1 + o.2.2.2) &&& 8589934591, o.2.1, if o.2.2.1 = 0 then 1 else 0, -1)])

theorem fs_Order : ∀ j, j < 4 → defaultValue (t_Order j) = vp_V [.long 0, .int 0, .int 0, .long 0] j := fun j hj => match j, hj with
  | 0, _ => rfl
  | 1, _ => rfl
  | 2, _ => rfl
  | 3, _ => rfl
  | k + 4, h => absurd h (by omega)
theorem fs_Stream : ∀ j, j < 2 → defaultValue (t_Stream j) = vp_V [.int 0, .int 0] j := fun j hj => match j, hj with
  | 0, _ => rfl
  | 1, _ => rfl
  | k + 2, h => absurd h (by omega)
theorem fs_Programme : ∀ j, j < 8 → defaultValue (t_Programme j) = vp_V [.int 0, .int 0, .int 0, .int 0, .null, .int 0, .long 0, .null] j := fun j hj => match j, hj with
  | 0, _ => rfl
  | 1, _ => rfl
  | 2, _ => rfl
  | 3, _ => rfl
  | 4, _ => rfl
  | 5, _ => rfl
  | 6, _ => rfl
  | 7, _ => rfl
  | k + 8, h => absurd h (by omega)
theorem fs_Piece : ∀ j, j < 7 → defaultValue (t_Piece j) = vp_V [.int 0, .int 0, .int 0, .long 0, .int 0, .int 0, .int 0] j := fun j hj => match j, hj with
  | 0, _ => rfl
  | 1, _ => rfl
  | 2, _ => rfl
  | 3, _ => rfl
  | 4, _ => rfl
  | 5, _ => rfl
  | 6, _ => rfl
  | k + 7, h => absurd h (by omega)

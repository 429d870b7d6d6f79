/-! Both sides write the same bytes -/
theorem fd_rc {f : Nat → Int32} {T : List Int32} (b : Int64) (h : rc f T) : ∀ c, c ≤ 8 → rc (fd_f f T.length b c) (T ++ (List.range c).map (mf_b b))
  | 0, _ => by
    rw [List.range_zero, List.map_nil, List.append_nil]
    exact h
  | c + 1, hc => by
    have ih := fd_rc b h c (by omega)
    have e := rc_snoc (v := fd_b b c) ih
    have el : (T ++ (List.range c).map (mf_b b)).length = T.length + c := by simp
    have eb : fd_b b c &&& 255 = mf_b b c := nb_pb b (by omega)
    rw [el, eb, List.append_assoc] at e
    rw [List.range_succ, List.map_append]
    exact e
theorem mf_rl {f : Nat → Int32} {T : List Int32} (b : Int64) (h : rl f T) : ∀ c, c ≤ 8 → rl (mf_f f T.length b c) (T ++ (List.range c).map (mf_b b))
  | 0, _ => by
    rw [List.range_zero, List.map_nil, List.append_nil]
    exact h
  | c + 1, hc => by
    have ih := mf_rl b h c (by omega)
    have e := rl_at (x := mf_b b c) (k := T.length + c) ih (by simp)
    rw [List.append_assoc] at e
    rw [List.range_succ, List.map_append]
    exact e
theorem pb_0 (v : Int64) : pb v 0 = v.toInt32 &&& 255 := by
  rw [← nb_pb v (by omega)]
  congr 1
theorem pb_m (y : Int32) : pb y.toInt64 0 = pb (y &&& 255).toInt64 0 := by
  rw [pb_0, pb_0, lg_l2i_i2l, lg_l2i_i2l, Int32.and_assoc]
  rfl
theorem gn_mg (x : Int32) (n : Nat) : gnL x n = mgL x n := by
  unfold gnL mgL
  exact List.map_congr_left (fun j _ => pb_m _)
theorem sp_rc {f : Nat → Int32} {T : List Int32} {k : Nat} {v : Int32} (h : rc f T) (hk : k < T.length) (hv : v &&& 255 = v) : rc (upd f k (by8 v)) (T.set k v) := by
  have e := rc_set (v := v) h hk
  rw [hv] at e
  exact e
theorem sp_v {v : Int32} (h1 : ¬ v < 0) (h2 : ¬ 255 < v) : v &&& 255 = v := by
  obtain ⟨k, hk, rfl⟩ := nI_of2 (x := v) (M := 255) (n := 255) (by decide) h1 (Int32.not_lt.mp h2)
  exact wr_255 (by omega)


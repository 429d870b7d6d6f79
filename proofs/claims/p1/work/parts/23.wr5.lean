/-! A section in one packet -/
theorem pp_in (pid w0 : Nat) : ∀ (xs : List Int32) (i : Nat), 0 < i → i + xs.length ≤ 184 → ppL pid w0 184 i xs = xs
  | [], _, _, _ => rfl
  | x :: xs, i, h, h2 => by
    rw [List.length_cons] at h2
    simp only [ppL]
    rw [if_neg (by omega), pp_in pid w0 xs (i + 1) (by omega) (by omega)]
    rfl
theorem pp_184 (pid w0 : Nat) {B : List Int32} (h : 1 ≤ B.length) (h2 : B.length ≤ 184) : ppL pid w0 184 0 B = hd4 pid true w0 184 ++ B := by
  cases B with
  | nil => exact absurd h (by simp)
  | cons x xs =>
    rw [List.length_cons] at h2
    simp only [ppL]
    rw [pp_in pid w0 xs (0 + 1) (by omega) (by omega)]
    simp [hdL, stL]
theorem tl_184 {pid w0 : Nat} {T0 B : List Int32} (h : 1 ≤ B.length) (h2 : B.length ≤ 184) : (T0 ++ ppL pid w0 184 0 B).length = T0.length + 4 + B.length := by
  rw [pp_184 pid w0 h h2]
  simp [hd4]
  omega
theorem rc_set {f : Nat → Int32} {T : List Int32} {k : Nat} {v : Int32} (h : rc f T) (hk : k < T.length) : rc (upd f k (by8 v)) (T.set k (v &&& 255)) := by
  refine ⟨sb_fitU h.1 (pk_fb v), fun i hi => ?_⟩
  rw [List.length_set] at hi
  by_cases e : i = k
  · subst e
    rw [pk_us, by8_and]
    simp [List.getD, hi]
  · rw [pk_un e, h.2 i hi]
    simp [List.getD, List.getElem?_set, Ne.symm e]
theorem rc_at {f : Nat → Int32} {T : List Int32} {i : Nat} (h : rc f T) (hi : i < T.length) (hl : T.length ≤ 9400) : rw_at f T.length 9400 (nI i) = T.getD i 0 := by
  unfold rw_at
  rw [if_pos ⟨nI_pos (by omega), nI_ge hi (by omega), nI_ge (by omega) (by omega)⟩, nI_clamp (by omega)]
  exact h.2 i hi
theorem rc_ck {f : Nat → Int32} {T : List Int32} (h : rc f T) (hl : T.length ≤ 9400) (k : Nat) : ∀ c, k + c ≤ T.length → rw_ck f T.length 9400 k c = ckl ((T.drop k).take c)
  | 0, _ => rfl
  | c + 1, hc => by
    show zit ck_s (rw_ck f T.length 9400 k c ^^^ rw_at f T.length 9400 (nI (k + c)) <<< ((24 : Int32) &&& 31)) 8 = _
    rw [ck_eq, rc_ck h hl k c (by omega), rc_at h (by omega) hl, ckl_take (by rw [List.length_drop]; omega)]
    simp [List.getD]
def esB (B : List Int32) : List Int32 := B.set 3 (nI B.length &&& 255)
theorem esB_len (B : List Int32) : (esB B).length = B.length := by simp [esB]
def esC (B : List Int32) : List Int32 := esB B ++ bsL (ckl ((esB B).drop 1)).toInt64 4
theorem esC_len (B : List Int32) : (esC B).length = B.length + 4 := by simp [esC, esB_len, bs_len]
def esL (B : List Int32) : List Int32 := esC B ++ List.replicate (180 - B.length) 255
theorem esL_len {B : List Int32} (h : B.length ≤ 180) : (esL B).length = 184 := by simp [esL, esC_len]; omega
theorem es_set {pid w0 : Nat} {T0 B : List Int32} (h : 4 ≤ B.length) (h2 : B.length ≤ 184) : (T0 ++ ppL pid w0 184 0 B).set (T0.length + 7) (nI B.length &&& 255) = T0 ++ ppL pid w0 184 0 (esB B) := by
  rw [pp_184 pid w0 (by omega) h2, pp_184 pid w0 (by rw [esB_len]; omega) (by rw [esB_len]; exact h2)]
  unfold esB
  rw [List.set_append_right _ _ (by omega), show T0.length + 7 - T0.length = 7 by omega, List.set_append_right _ _ (by simp [hd4])]
  rfl
theorem es_1 {pid w0 : Nat} {T0 B : List Int32} {q : WQ} (hq : WS pid w0 184 T0 B q) (h : 4 ≤ B.length) (h2 : B.length ≤ 180) : WS pid w0 184 T0 (esB B) (upd q.1 (T0.length + 7) (by8 (nI B.length)), nI (T0 ++ ppL pid w0 184 0 B).length, q.2.2.1, q.2.2.2.1, q.2.2.2.2.1, q.2.2.2.2.2) := by
  obtain ⟨h1, hn, h3, h4, h5, h6⟩ := hq
  have hl := tl_184 (pid := pid) (w0 := w0) (T0 := T0) (B := B) (by omega) (by omega)
  refine ⟨?_, ?_, by rw [esB_len]; exact h3, by rw [esB_len]; exact h4, by rw [esB_len]; exact h5, by rw [esB_len]; exact h6⟩
  · show rc (upd q.1 (T0.length + 7) (by8 (nI B.length))) _
    rw [← es_set h (by omega)]
    exact rc_set h1 (by omega)
  · show nI (T0 ++ ppL pid w0 184 0 B).length = nI (T0 ++ ppL pid w0 184 0 (esB B)).length
    rw [← es_set h (by omega), List.length_set]
theorem es_ck {pid w0 : Nat} {T0 B : List Int32} {q : WQ} (hq : WS pid w0 184 T0 B q) (h : 4 ≤ B.length) (h2 : B.length ≤ 180) (hT : T0.length + 188 ≤ 9400) : rw_ck (upd q.1 (T0.length + 7) (by8 (nI B.length))) (T0 ++ ppL pid w0 184 0 B).length 9400 (T0.length + 5) (B.length - 1) = ckl ((esB B).drop 1) := by
  have h1 := (es_1 hq h h2).1
  have hl := tl_184 (pid := pid) (w0 := w0) (T0 := T0) (B := B) (by omega) (by omega)
  have hl2 : (T0 ++ ppL pid w0 184 0 (esB B)).length = (T0 ++ ppL pid w0 184 0 B).length := by rw [← es_set h (by omega), List.length_set]
  rw [← hl2, rc_ck h1 (by omega) _ _ (by omega)]
  congr 1
  rw [pp_184 pid w0 (by rw [esB_len]; omega) (by rw [esB_len]; omega), ← List.append_assoc]
  have e5 : T0.length + 5 = (T0 ++ hd4 pid true w0 184).length + 1 := by simp [hd4]
  rw [e5, ← List.drop_drop, List.drop_left]
  exact List.take_of_length_le (by rw [List.length_drop, esB_len]; exact Nat.le_refl _)
theorem es_pad {X Y : List Int32} (h : X ++ List.replicate (184 - X.length) 255 = Y) (h1 : X.length < 184) : (X ++ bsL 255 1) ++ List.replicate (184 - (X ++ bsL 255 1).length) 255 = Y := sl_pad h h1
theorem es_le {n : Nat} (h : nI n ≤ 0) (hn : n < 2 ^ 31) : n = 0 := by
  have h3 := (nI_leI (b := 0) hn (by omega)).mp h
  omega
theorem es_gt {n : Nat} (h : ¬ nI n ≤ 0) (hn : n < 2 ^ 31) : 0 < n := by
  have h3 := mt (nI_leI (a := n) (b := 0) hn (by omega)).mpr h
  omega


/-! The room: a written piece -/
theorem gd_l {A B : List Int32} {i : Nat} (h : i < A.length) : (A ++ B).getD i 0 = A.getD i 0 := by
  rw [List.getD_eq_getElem?_getD, List.getD_eq_getElem?_getD, List.getElem?_append_left h]
theorem gd_r {A B : List Int32} {i k : Nat} (h : i = A.length + k) : (A ++ B).getD i 0 = B.getD k 0 := by
  rw [List.getD_eq_getElem?_getD, List.getD_eq_getElem?_getD, List.getElem?_append_right (by omega), show i - A.length = k by omega]
theorem pp_at (pid w0 tot : Nat) : ∀ (q i : Nat) (D : List Int32), i % 184 = 0 → D.length + i = tot → 184 * q < D.length → ∀ r, r < 188 → (ppL pid w0 tot i D).getD (188 * q + r) 0 = (hdL pid (decide (i + 184 * q = 0)) (w0 + (i + 184 * q) / 184) (min 184 (tot - (i + 184 * q))) ++ (D.drop (184 * q)).take 184).getD r 0
  | 0, i, D, hi, hD, hq, r, hr => by
    rw [pp_blk pid w0 tot hi (by omega), ← List.append_assoc, gd_l]
    · rw [show 188 * 0 + r = r by omega]
      rfl
    · rw [List.length_append, hd_len, List.length_take]
      omega
  | q + 1, i, D, hi, hD, hq, r, hr => by
    rw [pp_blk pid w0 tot hi (by omega), ← List.append_assoc, gd_r (k := 188 * q + r)]
    · rw [pp_at pid w0 tot q (i + 184) (D.drop 184) (by omega) (by rw [List.length_drop]; omega) (by rw [List.length_drop]; omega) r hr, List.drop_drop, show i + 184 + 184 * q = i + 184 * (q + 1) by omega, show 184 + 184 * q = 184 * (q + 1) by omega]
    · rw [List.length_append, hd_len, List.length_take]
      omega
theorem pw_q {pid w0 tot q : Nat} {D : List Int32} (hD : D.length = tot) (hq : 184 * q < tot) {r : Nat} (hr : r < 188) : (ppL pid w0 tot 0 D).getD (188 * q + r) 0 = (hdL pid (decide (184 * q = 0)) (w0 + 184 * q / 184) (min 184 (tot - 184 * q)) ++ (D.drop (184 * q)).take 184).getD r 0 := by
  have h := pp_at pid w0 tot q 0 D (by omega) (by omega) (by omega) r hr
  rw [Nat.zero_add] at h
  exact h
theorem pw_h {pid w0 tot q : Nat} {D : List Int32} (hD : D.length = tot) (hq : 184 * q < tot) {r : Nat} (hr : r < 4) : (ppL pid w0 tot 0 D).getD (188 * q + r) 0 = (hd4 pid (decide (184 * q = 0)) (w0 + 184 * q / 184) (min 184 (tot - 184 * q))).getD r 0 := by
  rw [pw_q hD hq (by omega), gd_l (by rw [hd_len]; omega)]
  exact gd_l hr
theorem pw_0 {pid w0 tot q : Nat} {D : List Int32} (hD : D.length = tot) (hq : 184 * q < tot) : tB (ppL pid w0 tot 0 D) (188 * q) = 71 := by
  unfold tB
  have h := pw_h (pid := pid) (w0 := w0) hD hq (r := 0) (by omega)
  rw [Nat.add_zero] at h
  rw [h]
  rfl
theorem pw_1 {pid w0 tot q : Nat} {D : List Int32} (hp : pid < 8192) (h1 : 1 ≤ q) (hD : D.length = tot) (hq : 184 * q < tot) : tB (ppL pid w0 tot 0 D) (188 * q + 1) < 32 := by
  unfold tB
  rw [pw_h (pid := pid) (w0 := w0) hD hq (r := 1) (by omega), decide_eq_false (show ¬ 184 * q = 0 by omega)]
  have : ∀ k, k < 32 → ((0 : Int32) ||| nI k).toNatClampNeg < 32 := by decide +kernel
  exact this (pid / 256) (by omega)
theorem pw_3 {pid w0 tot q : Nat} {D : List Int32} (hD : D.length = tot) (hq : 184 * q < tot) : tB (ppL pid w0 tot 0 D) (188 * q + 3) < 64 := by
  unfold tB
  rw [pw_h (pid := pid) (w0 := w0) hD hq (r := 3) (by omega)]
  have a1 : ∀ k, k < 16 → ((48 : Int32) ||| nI k).toNatClampNeg < 64 := by decide +kernel
  have a2 : ∀ k, k < 16 → ((16 : Int32) ||| nI k).toNatClampNeg < 64 := by decide +kernel
  show ((if min 184 (tot - 184 * q) < 184 then (48 : Int32) else 16) ||| nI ((w0 + 184 * q / 184) % 16)).toNatClampNeg < 64
  split
  · exact a1 _ (Nat.mod_lt _ (by decide))
  · exact a2 _ (Nat.mod_lt _ (by decide))
theorem pw_s {pid w0 tot q : Nat} {D : List Int32} (hD : D.length = tot) (hq : 184 * q < tot) {r : Nat} (hr : r < 184 - min 184 (tot - 184 * q)) : tB (ppL pid w0 tot 0 D) (188 * q + (4 + r)) = if r = 0 then 184 - min 184 (tot - 184 * q) - 1 else if r = 1 then 0 else 255 := by
  unfold tB
  rw [pw_q hD hq (by omega), gd_l (by rw [hd_len]; omega), show hdL pid (decide (184 * q = 0)) (w0 + 184 * q / 184) (min 184 (tot - 184 * q)) = hd4 pid (decide (184 * q = 0)) (w0 + 184 * q / 184) (min 184 (tot - 184 * q)) ++ stL (184 - min 184 (tot - 184 * q)) from rfl, gd_r (A := hd4 pid (decide (184 * q = 0)) (w0 + 184 * q / 184) (min 184 (tot - 184 * q))) (i := 4 + r) (k := r) rfl]
  unfold stL
  rw [List.getD_eq_getElem?_getD, List.getElem?_map, List.getElem?_range hr]
  show (if r = 0 then nI (184 - min 184 (tot - 184 * q) - 1) else if r = 1 then 0 else 255 : Int32).toNatClampNeg = _
  split
  · exact nI_clamp (by omega)
  · split <;> rfl
theorem pw_d {pid w0 tot q : Nat} {D : List Int32} (hD : D.length = tot) (hq : 184 * q < tot) {r : Nat} (hr : r < min 184 (tot - 184 * q)) : tB (ppL pid w0 tot 0 D) (188 * q + (4 + (184 - min 184 (tot - 184 * q)) + r)) = tB D (184 * q + r) := by
  unfold tB
  rw [pw_q hD hq (by omega), gd_r (k := r) (by rw [hd_len])]
  rw [List.getD_eq_getElem?_getD, List.getD_eq_getElem?_getD, List.getElem?_take, if_pos (by omega), List.getElem?_drop]
/-- no dear head stands in a written piece but in its first packet -/
theorem pp_ex {pid w0 n q : Nat} {H T : List Int32} {x : Int32} (hp : pid < 8192) (hH : H.length ≤ 184) (hq : T.length + 185 ≤ q) : ¬ exh (T ++ ppL pid w0 (H.length + n) 0 (H ++ gnL x n)) q := by
  intro he
  obtain ⟨o, rfl⟩ : ∃ o, q = T.length + o := ⟨q - T.length, by omega⟩
  have hD : (H ++ gnL x n).length = H.length + n := by rw [List.length_append, gn_len]
  have hl := he.1
  rw [List.length_append] at hl
  have hW : (ppL pid w0 (H.length + n) 0 (H ++ gnL x n)).length = 188 * ((H.length + n + 183) / 184) := by
    rw [pp_len pid w0 (H.length + n) (H.length + n) (H ++ gnL x n) hD (Nat.le_refl _)]
    split
    · omega
    · split <;> omega
  have he2 : exh (ppL pid w0 (H.length + n) 0 (H ++ gnL x n)) o := exh_c he (by omega) (fun j _ => gd_r (by omega))
  obtain ⟨h1, h2, h3, h4, h5, h6⟩ := he2
  unfold huId at h6
  dsimp only at h3 h4 h5 h6
  rw [hW] at h1
  obtain ⟨p, r, hpr, hr⟩ : ∃ p r, o = 188 * p + r ∧ r < 188 := ⟨o / 188, o % 188, by omega, Nat.mod_lt _ (by decide)⟩
  have hq1 : 184 * p < H.length + n := by omega
  by_cases c4 : r < 4
  · have h01 : 1 ≤ p := by omega
    have w1 := pw_1 (w0 := w0) hp h01 hD hq1
    have w3 := pw_3 (pid := pid) (w0 := w0) hD hq1
    by_cases r0 : r = 0
    · rw [show o + 1 = 188 * p + 1 by omega] at h3; omega
    · by_cases r1 : r = 1
      · rw [show o = 188 * p + 1 by omega] at h2; omega
      · by_cases r2 : r = 2
        · rw [show o + 1 = 188 * p + 3 by omega] at h3; omega
        · rw [show o = 188 * p + 3 by omega] at h2; omega
  · by_cases cs : r < 4 + (184 - min 184 (H.length + n - 184 * p))
    · have ws := pw_s (pid := pid) (w0 := w0) hD hq1 (r := r - 4) (by omega)
      rw [show 188 * p + (4 + (r - 4)) = o by omega, h2] at ws
      by_cases r0 : r - 4 = 0
      · rw [if_pos r0] at ws
        have w2 := pw_s (pid := pid) (w0 := w0) hD hq1 (r := 1) (by omega)
        rw [show 188 * p + (4 + 1) = o + 1 by omega, if_neg (by decide), if_pos rfl] at w2
        omega
      · rw [if_neg r0] at ws
        by_cases r1 : r - 4 = 1
        · rw [if_pos r1] at ws; omega
        · rw [if_neg r1] at ws; omega
    · by_cases c8 : r + 3 < 188
      · have h01 : 1 ≤ p := by omega
        have wd : ∀ j, j < 4 → tB (ppL pid w0 (H.length + n) 0 (H ++ gnL x n)) (o + j) = tB (H ++ gnL x n) (184 * p + (r - (4 + (184 - min 184 (H.length + n - 184 * p)))) + j) := by
          intro j hj
          have w := pw_d (pid := pid) (w0 := w0) hD hq1 (r := r - (4 + (184 - min 184 (H.length + n - 184 * p))) + j) (by omega)
          rw [Nat.add_assoc, ← w]
          congr 1
          omega
        refine gn_ex x n (184 * p + (r - (4 + (184 - min 184 (H.length + n - 184 * p)))) - H.length) ?_
        have e : exh (H ++ gnL x n) (184 * p + (r - (4 + (184 - min 184 (H.length + n - 184 * p))))) := by
          refine ⟨by rw [hD]; omega, by rw [← h2]; exact (wd 0 (by omega)).symm, ?_⟩
          have h9 : exb gG (fun j => tB (ppL pid w0 (H.length + n) 0 (H ++ gnL x n)) (o + j)) := And.intro h3 (And.intro h4 (And.intro h5 h6))
          exact exb_c (b := fun j => tB (ppL pid w0 (H.length + n) 0 (H ++ gnL x n)) (o + j)) (wd 1 (by omega)) (wd 2 (by omega)) (wd 3 (by omega)) h9
        exact exh_c e (by rw [gn_len]; omega) (fun j hj => gd_r (by omega))
      · have hq2 : 184 * (p + 1) < H.length + n := by omega
        have w0' := pw_0 (pid := pid) (w0 := w0) hD hq2
        have w1 := pw_1 (w0 := w0) hp (by omega) hD hq2
        by_cases r5 : r = 185
        · rw [show o + 3 = 188 * (p + 1) by omega, w0'] at h4
          exact absurd h4 (by decide)
        · by_cases r6 : r = 186
          · rw [show o + 2 = 188 * (p + 1) by omega, w0', gG_71 _ (Nat.mod_lt _ (by decide))] at h6
            cases h6
          · rw [show o + 1 = 188 * (p + 1) by omega, w0', show o + 2 = 188 * (p + 1) + 1 by omega] at h6
            have h7 := gG_7 _ w1
            rw [show 71 % 32 * 256 = 7 * 256 by decide, h7] at h6
            cases h6
/-- a piece is written: one stretch more -/
theorem cv_pie {pid w0 n : Nat} {H T : List Int32} {x : Int32} {C : List Nat} (h : cvT T C) (hp : pid < 8192) (hH : H.length ≤ 184) : cvT (T ++ ppL pid w0 (H.length + n) 0 (H ++ gnL x n)) ((T.length + 185) :: C) :=
  cv_app h (fun _ hq => pp_ex hp hH hq)


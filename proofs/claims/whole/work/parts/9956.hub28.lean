/-! The room: the generator's bytes in lists -/
def gnS (x : Int32) (j : Nat) : Nat := (gnX x j).toBitVec.toNat % 16777216
theorem gn_st (x : Int32) (j : Nat) : gnS x (j + 1) = gSt (gnS x j) := by
  unfold gnS gSt
  show (1103515245#32 * (gnX x j).toBitVec + 12345#32).toNat % 16777216 = _
  rw [BitVec.toNat_add, BitVec.toNat_mul, BitVec.toNat_ofNat, BitVec.toNat_ofNat]
  omega
theorem g_bv (y : BitVec 32) : (y.sshiftRight 16 &&& 255#32) = BitVec.ofNat 32 (y.toNat % 16777216 / 65536) := by
  apply BitVec.eq_of_getLsbD_eq
  intro i hi
  rw [BitVec.getLsbD_and, BitVec.getLsbD_sshiftRight, BitVec.getLsbD_ofNat, BitVec.getLsbD_ofNat]
  have e1 : (y.toNat % 16777216 / 65536).testBit i = (decide (16 + i < 24) && y.toNat.testBit (16 + i)) := by
    rw [show (65536 : Nat) = 2 ^ 16 by decide, show (16777216 : Nat) = 2 ^ 24 by decide, Nat.testBit_div_two_pow, Nat.testBit_mod_two_pow, Nat.add_comm i 16]
  have e2 : Nat.testBit 255 i = decide (i < 8) := by
    rw [show (255 : Nat) = 2 ^ 8 - 1 by decide, Nat.testBit_two_pow_sub_one]
  rw [e1, e2]
  by_cases c : i < 8
  · rw [if_pos (by omega), decide_eq_true c, decide_eq_true (show 16 + i < 24 by omega), decide_eq_true hi, decide_eq_false (show ¬ 32 ≤ i by omega)]
    rw [BitVec.getLsbD]
    simp
  · rw [decide_eq_false c, decide_eq_false (show ¬ 16 + i < 24 by omega)]
    simp
theorem gn_by (x : Int32) (j : Nat) : (pb ((gnX x j) >>> ((16 : Int32) &&& 31)).toInt64 0).toNatClampNeg = gnS x j / 65536 := by
  unfold gnS
  have e : pb ((gnX x j) >>> ((16 : Int32) &&& 31)).toInt64 0 = nI ((gnX x j).toBitVec.toNat % 16777216 / 65536) := by
    rw [pb_0]
    apply Int32.toBitVec_inj.mp
    show (((gnX x j) >>> ((16 : Int32) &&& 31)).toInt64.toInt32.toBitVec &&& 255#32) = _
    rw [Int32.toInt32_toInt64, Int32.toBitVec_shiftRight]
    show ((gnX x j).toBitVec.sshiftRight 16 &&& 255#32) = _
    rw [g_bv]
    rfl
  rw [e, nI_clamp (by omega)]
theorem gn_tB (x : Int32) {n j : Nat} (h : j < n) : tB (gnL x n) j = gnS x (j + 1) / 65536 := by
  unfold tB gnL
  rw [List.getD_eq_getElem?_getD, List.getElem?_map, List.getElem?_range h]
  exact gn_by x (j + 1)
theorem gn_ex (x : Int32) (n k : Nat) : ¬ exh (gnL x n) k := by
  intro ⟨h1, h2, h3, h4, h5, h6⟩
  rw [gn_len] at h1
  unfold huId at h6
  dsimp only at h3 h4 h5 h6
  rw [gn_tB x (by omega)] at h2 h3 h4 h5
  rw [gn_tB x (by omega), gn_tB x (by omega)] at h6
  have s1 := gn_st x (k + 1)
  have s2 := gn_st x (k + 1 + 1)
  have s3 := gn_st x (k + 1 + 1 + 1)
  rw [s2, s1] at s3
  rw [s1] at s2
  have q1 : k + 1 + 1 = k + 1 + 1 := rfl
  rw [show k + 2 + 1 = k + 1 + 1 + 1 by omega, s2, s1] at h6
  rw [s1] at h3
  rw [show k + 3 + 1 = k + 1 + 1 + 1 + 1 by omega, s3] at h4 h5
  rw [g_hd h2 h3 h4 h5] at h6
  cases h6
/-- bytes into packets, a packet at a time -/
theorem pp_nx (pid w0 tot : Nat) : ∀ (D : List Int32) (i : Nat), ¬ i % 184 = 0 → i % 184 + D.length ≤ 184 → ppL pid w0 tot i D = D
  | [], _, _, _ => rfl
  | x :: xs, i, h1, h2 => by
    rw [List.length_cons] at h2
    rw [ppL, if_neg h1, List.nil_append]
    congr 1
    cases xs with
    | nil => rfl
    | cons y ys =>
      rw [List.length_cons] at h2
      exact pp_nx pid w0 tot (y :: ys) (i + 1) (by omega) (by rw [List.length_cons]; omega)
theorem pp_blk (pid w0 tot : Nat) {D : List Int32} {i : Nat} (hi : i % 184 = 0) (hD : 0 < D.length) : ppL pid w0 tot i D = hdL pid (decide (i = 0)) (w0 + i / 184) (min 184 (tot - i)) ++ (D.take 184 ++ ppL pid w0 tot (i + 184) (D.drop 184)) := by
  have e1 : ppL pid w0 tot i D = ppL pid w0 tot i (D.take 184) ++ ppL pid w0 tot (i + (D.take 184).length) (D.drop 184) := by
    rw [← pp_app, List.take_append_drop]
  have e2 : ppL pid w0 tot (i + (D.take 184).length) (D.drop 184) = ppL pid w0 tot (i + 184) (D.drop 184) := by
    by_cases c : 184 ≤ D.length
    · rw [List.length_take, Nat.min_eq_left c]
    · rw [List.drop_eq_nil_of_le (by omega), ppL, ppL]
  have e3 : ppL pid w0 tot i (D.take 184) = hdL pid (decide (i = 0)) (w0 + i / 184) (min 184 (tot - i)) ++ D.take 184 := by
    cases D with
    | nil => exact absurd hD (Nat.lt_irrefl 0)
    | cons x xs =>
      rw [List.take_succ_cons, ppL, if_pos hi]
      congr 2
      cases h : xs.take 183 with
      | nil => rfl
      | cons y ys =>
        refine pp_nx _ _ _ _ _ (by omega) ?_
        rw [← h, List.length_take]
        omega
  rw [e1, e2, e3, List.append_assoc]


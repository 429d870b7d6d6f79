theorem eq_i8 {i : Nat} (h : i < 8) : i = 0 ∨ i = 1 ∨ i = 2 ∨ i = 3 ∨ i = 4 ∨ i = 5 ∨ i = 6 ∨ i = 7 := by omega
def phA (t : Int64) : Int64 := (32 ||| ((t >>> ((30 : Int32).toInt64 &&& 63)) <<< ((1 : Int32).toInt64 &&& 63))) ||| 1
def phB (t : Int64) : Int64 := (((t >>> ((15 : Int32).toInt64 &&& 63)) &&& 32767) <<< ((1 : Int32).toInt64 &&& 63)) ||| 1
def phC (t : Int64) : Int64 := ((t &&& 32767) <<< ((1 : Int32).toInt64 &&& 63)) ||| 1
theorem phA_bit (t : Int64) {i : Nat} (hi : i < 64) : (phA t).toBitVec.getLsbD i = ((decide (i = 5) || (!decide (i < 1) && (t >>> ((30 : Int32).toInt64 &&& 63)).toBitVec.getLsbD (i - 1))) || decide (i = 0)) := by
  unfold phA
  simp only [Int64.toBitVec_or, BitVec.getLsbD_or]
  rw [shl_bit _ _ (by omega) w_1 hi, cb_5 i hi, cb_0 i hi]
theorem phB_bit (t : Int64) {i : Nat} (hi : i < 64) : (phB t).toBitVec.getLsbD i = ((!decide (i < 1) && ((t >>> ((15 : Int32).toInt64 &&& 63)).toBitVec.getLsbD (i - 1) && decide (i - 1 < 15))) || decide (i = 0)) := by
  unfold phB
  simp only [Int64.toBitVec_or, BitVec.getLsbD_or]
  rw [shl_bit _ _ (by omega) w_1 hi, cb_0 i hi, Int64.toBitVec_and, BitVec.getLsbD_and, cb_m15 _ (by omega)]
theorem phC_bit (t : Int64) {i : Nat} (hi : i < 64) : (phC t).toBitVec.getLsbD i = ((!decide (i < 1) && (t.toBitVec.getLsbD (i - 1) && decide (i - 1 < 15))) || decide (i = 0)) := by
  unfold phC
  simp only [Int64.toBitVec_or, BitVec.getLsbD_or]
  rw [shl_bit _ _ (by omega) w_1 hi, cb_0 i hi, Int64.toBitVec_and, BitVec.getLsbD_and, cb_m15 _ (by omega)]
theorem mp_4 (t : Int64) : pb (mpT t) 4 = pb (phA t) 0 := by
  apply pb_ext (by omega) (by omega)
  intro i hi
  rw [mpT_bit t (by omega), phA_bit t (by omega)]
  rcases eq_i8 hi with h | h | h | h | h | h | h | h <;> subst h <;> simp
theorem mp_3 (t : Int64) : pb (mpT t) 3 = pb (phB t) 1 := by
  apply pb_ext (by omega) (by omega)
  intro i hi
  rw [mpT_bit t (by omega), phB_bit t (by omega)]
  rcases eq_i8 hi with h | h | h | h | h | h | h | h <;> subst h <;> simp
theorem mp_2 (t : Int64) : pb (mpT t) 2 = pb (phB t) 0 := by
  apply pb_ext (by omega) (by omega)
  intro i hi
  rw [mpT_bit t (by omega), phB_bit t (by omega)]
  rcases eq_i8 hi with h | h | h | h | h | h | h | h <;> subst h <;> simp
theorem mp_1 (t : Int64) : pb (mpT t) 1 = pb (phC t) 1 := by
  apply pb_ext (by omega) (by omega)
  intro i hi
  rw [mpT_bit t (by omega), phC_bit t (by omega)]
  rcases eq_i8 hi with h | h | h | h | h | h | h | h <;> subst h <;> simp
theorem mp_0 (t : Int64) : pb (mpT t) 0 = pb (phC t) 0 := by
  apply pb_ext (by omega) (by omega)
  intro i hi
  rw [mpT_bit t (by omega), phC_bit t (by omega)]
  rcases eq_i8 hi with h | h | h | h | h | h | h | h <;> subst h <;> simp
theorem bs_5 (v : Int64) : bsL v 5 = [pb v 4, pb v 3, pb v 2, pb v 1, pb v 0] := rfl
theorem bs_2 (v : Int64) : bsL v 2 = [pb v 1, pb v 0] := rfl
theorem mp_time (t : Int64) : bsL (mpT t) 5 = (bsL (phA t) 1 ++ bsL (phB t) 2) ++ bsL (phC t) 2 := by
  rw [bs_5, bs_1, bs_2, bs_2, mp_4, mp_3, mp_2, mp_1, mp_0]
  rfl
theorem ph_c0 : bsL 0 2 = bsL 0 1 ++ bsL (nI 0).toInt64 1 := by decide
theorem ph_c5 : bsL 32773 2 = bsL 128 1 ++ bsL (nI 5).toInt64 1 := by decide
/-- a piece's head is the same on both sides -/
theorem ph_mp (kd : Int32) (t : Int64) (ts : Int32) : phL kd t ts = mpH kd t ts.toInt64 := by
  unfold phL mpH mpA tx
  by_cases c : t < 0
  · simp only [if_pos c]
    rw [ph_c0]
    simp only [List.append_assoc, List.append_nil]
  · simp only [if_neg c]
    rw [mp_time, ph_c5]
    unfold phA phB phC
    simp only [List.append_assoc]


/-! A piece's time: the same five bytes -/
theorem cb_37 : ∀ i, i < 64 → (137438953472 : Int64).toBitVec.getLsbD i = decide (i = 37) := by decide
theorem cb_32 : ∀ i, i < 64 → (4294967296 : Int64).toBitVec.getLsbD i = decide (i = 32) := by decide
theorem cb_16 : ∀ i, i < 64 → (65536 : Int64).toBitVec.getLsbD i = decide (i = 16) := by decide
theorem cb_0 : ∀ i, i < 64 → (1 : Int64).toBitVec.getLsbD i = decide (i = 0) := by decide
theorem cb_5 : ∀ i, i < 64 → (32 : Int64).toBitVec.getLsbD i = decide (i = 5) := by decide
theorem cb_m15 : ∀ i, i < 64 → (32767 : Int64).toBitVec.getLsbD i = decide (i < 15) := by decide
theorem sh_n {c : Nat} (h : c < 64) : (BitVec.ofNat 64 c).toNat = c := by rw [BitVec.toNat_ofNat]; exact Nat.mod_eq_of_lt (by omega)
theorem shr_bit (x w : Int64) {c : Nat} (hc : c < 64) (hw : w.toBitVec.smod 64 = BitVec.ofNat 64 c) {i : Nat} (hi : c + i < 64) : (x >>> w).toBitVec.getLsbD i = x.toBitVec.getLsbD (c + i) := by
  rw [Int64.toBitVec_shiftRight, hw]
  show (x.toBitVec.sshiftRight (BitVec.ofNat 64 c).toNat).getLsbD i = _
  rw [sh_n hc, BitVec.getLsbD_sshiftRight, if_pos hi]
  simp
  intro h
  omega
theorem shl_bit (x w : Int64) {c : Nat} (hc : c < 64) (hw : w.toBitVec.smod 64 = BitVec.ofNat 64 c) {i : Nat} (hi : i < 64) : (x <<< w).toBitVec.getLsbD i = (!decide (i < c) && x.toBitVec.getLsbD (i - c)) := by
  rw [Int64.toBitVec_shiftLeft, hw]
  show (x.toBitVec <<< (BitVec.ofNat 64 c).toNat).getLsbD i = _
  rw [sh_n hc, BitVec.getLsbD_shiftLeft]
  simp [hi]
theorem w_30 : ((30 : Int32).toInt64 &&& 63).toBitVec.smod 64 = BitVec.ofNat 64 30 := by decide
theorem w_15 : ((15 : Int32).toInt64 &&& 63).toBitVec.smod 64 = BitVec.ofNat 64 15 := by decide
theorem w_33 : ((33 : Int32).toInt64 &&& 63).toBitVec.smod 64 = BitVec.ofNat 64 33 := by decide
theorem w_17 : ((17 : Int32).toInt64 &&& 63).toBitVec.smod 64 = BitVec.ofNat 64 17 := by decide
theorem w_1 : ((1 : Int32).toInt64 &&& 63).toBitVec.smod 64 = BitVec.ofNat 64 1 := by decide
theorem mpT_bit (t : Int64) {i : Nat} (hi : i < 64) : (mpT t).toBitVec.getLsbD i = (((((decide (i = 37) || (!decide (i < 33) && (t >>> ((30 : Int32).toInt64 &&& 63)).toBitVec.getLsbD (i - 33))) || decide (i = 32)) || (!decide (i < 17) && ((t >>> ((15 : Int32).toInt64 &&& 63)).toBitVec.getLsbD (i - 17) && decide (i - 17 < 15)))) || decide (i = 16)) || (!decide (i < 1) && (t.toBitVec.getLsbD (i - 1) && decide (i - 1 < 15))) || decide (i = 0)) := by
  unfold mpT
  simp only [Int64.toBitVec_or, BitVec.getLsbD_or]
  rw [shl_bit _ _ (by omega) w_33 hi, shl_bit _ _ (by omega) w_17 hi, shl_bit _ _ (by omega) w_1 hi, cb_37 i hi, cb_32 i hi, cb_16 i hi, cb_0 i hi, Int64.toBitVec_and, BitVec.getLsbD_and, Int64.toBitVec_and, BitVec.getLsbD_and, cb_m15 _ (by omega), cb_m15 _ (by omega)]


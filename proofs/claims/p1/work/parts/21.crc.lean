/-! The class's check and the reference's are one -/
theorem ck_msb (x : Int32) : x < 0 ↔ x.toBitVec.msb = true := by
  rw [Int32.lt_iff_toInt_lt, BitVec.msb_eq_toInt, decide_eq_true_iff]
  rfl
theorem ck_1 : ∀ i, i < 32 → (1 : Int32).toBitVec.getLsbD i = decide (i = 0) := by decide
theorem ck_s31 : ((31 : Int32).toUInt32 &&& Int32.toUInt32 31).toBitVec % 32 = BitVec.ofNat 32 31 := by decide
theorem ck_hi (m : Int32) : (m.toUInt32 >>> ((31 : Int32).toUInt32 &&& Int32.toUInt32 31)).toInt32 = if m.toBitVec.msb = true then 1 else 0 := by
  apply Int32.toBitVec_inj.mp
  have e : (m.toUInt32 >>> ((31 : Int32).toUInt32 &&& Int32.toUInt32 31)).toInt32.toBitVec = m.toBitVec >>> 31 := by
    show (m.toUInt32 >>> _).toBitVec = _
    rw [UInt32.toBitVec_shiftRight, ck_s31]
    rfl
  rw [e]
  apply BitVec.eq_of_getLsbD_eq
  intro i hi
  rw [BitVec.getLsbD_ushiftRight]
  by_cases z : i = 0
  · subst z
    have h : m.toBitVec.getLsbD 31 = m.toBitVec.msb := by rw [BitVec.msb_eq_getLsbD_last]
    rw [show 31 + 0 = 31 from rfl, h]
    cases m.toBitVec.msb <;> decide
  · rw [BitVec.getLsbD_of_ge _ _ (by omega)]
    cases m.toBitVec.msb
    · simp
    · simp only [if_true]
      rw [ck_1 i hi]
      simp [z]
theorem ck_sj : ∀ j, j < 8 → ((nI 7 - nI j) &&& 31).toBitVec.smod 32 = BitVec.ofNat 32 (7 - j) := by decide
theorem ck_bit (v : Int32) {j : Nat} (hj : j < 8) : (v >>> ((nI 7 - nI j) &&& 31)) &&& 1 = if v.toBitVec.getLsbD (7 - j) = true then 1 else 0 := by
  apply Int32.toBitVec_inj.mp
  apply BitVec.eq_of_getLsbD_eq
  intro i hi
  rw [Int32.toBitVec_and, BitVec.getLsbD_and, ck_1 i hi, Int32.toBitVec_shiftRight, ck_sj j hj]
  have h3 : (BitVec.ofNat 32 (7 - j)).toNat = 7 - j := by rw [BitVec.toNat_ofNat]; exact Nat.mod_eq_of_lt (by omega)
  show ((v.toBitVec.sshiftRight (BitVec.ofNat 32 (7 - j)).toNat).getLsbD i && decide (i = 0)) = _
  rw [h3, BitVec.getLsbD_sshiftRight]
  by_cases z : i = 0
  · subst z
    rw [if_pos (show 7 - j + 0 < 32 by omega), Nat.add_zero]
    cases h : v.toBitVec.getLsbD (7 - j) <;> simp
  · cases h : v.toBitVec.getLsbD (7 - j)
    · simp [z]
    · simp only [if_true]
      rw [ck_1 i hi]
      simp [z]
/-- the byte, moved up under the check -/
def ck_d (v : Int32) (j : Nat) : Int32 := Int32.ofBitVec (v.toBitVec <<< (24 + j))
theorem ck_dmsb (v : Int32) {j : Nat} (hj : j < 8) : (ck_d v j).toBitVec.msb = v.toBitVec.getLsbD (7 - j) := by
  show (v.toBitVec <<< (24 + j)).msb = _
  rw [BitVec.msb_eq_getLsbD_last, BitVec.getLsbD_shiftLeft]
  simp
  rw [show 31 - (24 + j) = 7 - j by omega]
  simp
  omega
theorem ck_sh1 : ((1 : Int32) &&& 31).toBitVec.smod 32 = BitVec.ofNat 32 1 := by decide
theorem ck_shl (x : Int32) : (x <<< ((1 : Int32) &&& 31)).toBitVec = x.toBitVec <<< 1 := by
  rw [Int32.toBitVec_shiftLeft, ck_sh1]
  rfl
theorem ck_dstep (m v : Int32) (j : Nat) : (m ^^^ ck_d v j) <<< ((1 : Int32) &&& 31) = (m <<< ((1 : Int32) &&& 31)) ^^^ ck_d v (j + 1) := by
  apply Int32.toBitVec_inj.mp
  rw [ck_shl, Int32.toBitVec_xor, Int32.toBitVec_xor, ck_shl]
  show (m.toBitVec ^^^ v.toBitVec <<< (24 + j)) <<< 1 = (m.toBitVec <<< 1) ^^^ v.toBitVec <<< (24 + (j + 1))
  rw [BitVec.shiftLeft_xor_distrib, ← BitVec.shiftLeft_add]
  rfl
theorem ck_cond (m v : Int32) {j : Nat} (hj : j < 8) : (m.toUInt32 >>> ((31 : Int32).toUInt32 &&& Int32.toUInt32 31)).toInt32 ^^^ ((v >>> ((nI 7 - nI j) &&& 31)) &&& 1) = 1 ↔ (m ^^^ ck_d v j) < 0 := by
  rw [ck_hi, ck_bit v hj, ck_msb, Int32.toBitVec_xor, BitVec.msb_xor, ck_dmsb v hj]
  cases m.toBitVec.msb <;> cases v.toBitVec.getLsbD (7 - j) <;> decide
theorem ck_step (v x : Int32) {j : Nat} (hj : j < 8) : ck_s (ck_m v x j ^^^ ck_d v j) = ck_m v x (j + 1) ^^^ ck_d v (j + 1) := by
  have hc := ck_cond (ck_m v x j) v hj
  show _ = (if _ then _ else _) ^^^ _
  unfold ck_s
  rw [ck_dstep]
  by_cases h : (ck_m v x j ^^^ ck_d v j) < 0
  · rw [if_pos h, if_pos (hc.mpr h), Int32.xor_assoc, Int32.xor_comm (ck_d v (j + 1)), ← Int32.xor_assoc]
  · rw [if_neg h, if_neg (mt hc.mp h)]
theorem ck_all (v x : Int32) : ∀ j, j ≤ 8 → zit ck_s (x ^^^ ck_d v 0) j = ck_m v x j ^^^ ck_d v j
  | 0, _ => rfl
  | j + 1, h => by
    show ck_s (zit ck_s (x ^^^ ck_d v 0) j) = _
    rw [ck_all v x j (by omega), ck_step v x (by omega)]
theorem ck_sh24 : ((24 : Int32) &&& 31).toBitVec.smod 32 = BitVec.ofNat 32 24 := by decide
theorem ck_d0 (v : Int32) : v <<< ((24 : Int32) &&& 31) = ck_d v 0 := by
  apply Int32.toBitVec_inj.mp
  rw [Int32.toBitVec_shiftLeft, ck_sh24]
  rfl
theorem ck_d8 (v : Int32) : ck_d v 8 = 0 := by
  apply Int32.toBitVec_inj.mp
  show v.toBitVec <<< 32 = 0#32
  exact BitVec.shiftLeft_eq_zero (by omega)
/-- a byte of the check -/
theorem ck_eq (v x : Int32) : zit ck_s (x ^^^ (v <<< ((24 : Int32) &&& 31))) 8 = ck_m v x 8 := by
  rw [ck_d0, ck_all v x 8 (by omega), ck_d8, Int32.xor_zero]


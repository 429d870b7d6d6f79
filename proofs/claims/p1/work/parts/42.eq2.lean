/-! A byte of a number, bit by bit; sections made whole -/
theorem pb_bit (v : Int64) {k i : Nat} (hk : k < 8) (hi : i < 32) : (pb v k).toBitVec.getLsbD i = (decide (i < 8) && v.toBitVec.getLsbD (8 * k + i)) := by
  obtain ⟨e1, e2⟩ := nb_sh k hk
  unfold pb
  rw [Int64.toBitVec_toInt32, BitVec.getLsbD_signExtend, if_pos (show i < 64 by omega), Int64.toBitVec_and, BitVec.getLsbD_and, nb_255 i (by omega), Int64.toBitVec_shiftRight, e2]
  show (decide (i < 32) && ((v.toBitVec.sshiftRight (BitVec.ofNat 64 (8 * k)).toNat).getLsbD i && decide (i < 8))) = _
  have h3 : (BitVec.ofNat 64 (8 * k)).toNat = 8 * k := by rw [BitVec.toNat_ofNat]; exact Nat.mod_eq_of_lt (by omega)
  by_cases h8 : i < 8
  · rw [h3, BitVec.getLsbD_sshiftRight, if_pos (show 8 * k + i < 64 by omega)]
    simp [hi, h8]
    omega
  · simp [h8]
theorem pb_ext {v w : Int64} {k l : Nat} (hk : k < 8) (hl : l < 8) (h : ∀ i, i < 8 → v.toBitVec.getLsbD (8 * k + i) = w.toBitVec.getLsbD (8 * l + i)) : pb v k = pb w l := by
  apply Int32.toBitVec_inj.mp
  apply BitVec.eq_of_getLsbD_eq
  intro i hi
  rw [pb_bit v hk hi, pb_bit w hl hi]
  by_cases c : i < 8
  · rw [h i c]
  · simp [c]
theorem eq_m32 : ∀ i, i < 64 → (4294967295 : Int64).toBitVec.getLsbD i = decide (i < 32) := by decide
theorem pb_mask (v : Int64) {k : Nat} (hk : k < 4) : pb (v &&& 4294967295) k = pb v k := by
  apply pb_ext (by omega) (by omega)
  intro i hi
  rw [Int64.toBitVec_and, BitVec.getLsbD_and, eq_m32 _ (by omega), decide_eq_true (show 8 * k + i < 32 by omega), Bool.and_true]
theorem bs_mask (v : Int64) {c : Nat} (hc : c ≤ 4) : bsL (v &&& 4294967295) c = bsL v c := by
  unfold bsL
  apply List.map_congr_left
  intro j hj
  have := List.mem_range.mp hj
  exact pb_mask v (by omega)
/-- the class's section made whole is the reference's -/
theorem es_seal {tb x : Int32} {L : List Int32} (hx : x = (tb <<< ((4 : Int32) &&& 31)) ||| (nI L.length >>> ((8 : Int32) &&& 31))) : esL (L.set 2 x) = sealL tb L := by
  have e : esB (L.set 2 x) = sealH tb L := by
    unfold esB sealH
    rw [List.length_set, hx]
  have e2 : esC (L.set 2 x) = sealC tb L := by
    unfold esC sealC
    rw [e, bs_mask _ (by omega)]
  unfold esL sealL
  rw [e2, List.length_set]
theorem se_11 {n : Nat} (h : n < 256) : (176 : Int32) = ((11 : Int32) <<< ((4 : Int32) &&& 31)) ||| (nI n >>> ((8 : Int32) &&& 31)) := by
  rw [wr_shr8 (by omega), Nat.div_eq_of_lt h]
  decide
theorem se_3 {n : Nat} (h : n < 256) : (48 : Int32) = ((3 : Int32) <<< ((4 : Int32) &&& 31)) ||| (nI n >>> ((8 : Int32) &&& 31)) := by
  rw [wr_shr8 (by omega), Nat.div_eq_of_lt h]
  decide


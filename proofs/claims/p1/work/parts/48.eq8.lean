/-! seal: the same bytes -/
theorem sl_sh : ∀ j, j < 4 → ((24 - 8 * nI j : Int32).toUInt32 &&& Int32.toUInt32 31).toBitVec % 32 = BitVec.ofNat 32 (24 - 8 * j) ∧ ((24 - 8 * nI j : Int32) &&& 31).toBitVec.smod 32 = BitVec.ofNat 32 (24 - 8 * j) := by decide
theorem sl_ms (x : Int32) {j : Nat} (hj : j < 4) : sl_b x j &&& 255 = ms_b x j := by
  obtain ⟨e1, e2⟩ := sl_sh j hj
  unfold sl_b ms_b
  apply Int32.toBitVec_inj.mp
  apply BitVec.eq_of_getLsbD_eq
  intro i hi
  rw [Int32.toBitVec_and, BitVec.getLsbD_and, Int32.toBitVec_and, BitVec.getLsbD_and, nb_255i i hi, Int32.toBitVec_shiftRight, e2]
  show ((x.toUInt32 >>> _).toBitVec.getLsbD i && decide (i < 8)) = _
  rw [UInt32.toBitVec_shiftRight, e1]
  have h3 : (BitVec.ofNat 32 (24 - 8 * j)).toNat = 24 - 8 * j := by rw [BitVec.toNat_ofNat]; exact Nat.mod_eq_of_lt (by omega)
  by_cases h8 : i < 8
  · show ((x.toBitVec >>> (BitVec.ofNat 32 (24 - 8 * j)).toNat).getLsbD i && decide (i < 8)) = ((x.toBitVec.sshiftRight (BitVec.ofNat 32 (24 - 8 * j)).toNat).getLsbD i && decide (i < 8))
    rw [h3, BitVec.getLsbD_ushiftRight, BitVec.getLsbD_sshiftRight, if_pos (show 24 - 8 * j + i < 32 by omega)]
    simp [h8]
    omega
  · simp [h8]
def slL (T : List Int32) (k : Nat) (x : Int32) : Nat → List Int32
  | 0 => T
  | j + 1 => (slL T k x j).set (k + j) (ms_b x j)
theorem slL_len (T : List Int32) (k : Nat) (x : Int32) : ∀ j, (slL T k x j).length = T.length
  | 0 => rfl
  | j + 1 => by rw [slL, List.length_set, slL_len T k x j]
theorem sl_rc {f : Nat → Int32} {T : List Int32} {k : Nat} {x : Int32} (h : rc f T) (hk : k + 4 ≤ T.length) : ∀ j, j ≤ 4 → rc (sl_f f k x j) (slL T k x j)
  | 0, _ => h
  | j + 1, hj => by
    have e := rc_set (v := sl_b x j) (k := k + j) (sl_rc (x := x) h hk j (by omega)) (by rw [slL_len]; omega)
    rw [sl_ms x (by omega)] at e
    exact e
theorem ms_rl {f : Nat → Int32} {T : List Int32} {k : Nat} {x : Int32} (h : rl f T) (hk : k + 4 ≤ T.length) : ∀ j, j ≤ 4 → rl (ms_f f k x j) (slL T k x j)
  | 0, _ => h
  | j + 1, hj => rl_set (x := ms_b x j) (k := k + j) (ms_rl (x := x) h hk j (by omega)) (by rw [slL_len]; omega)
theorem mk_ckl {f : Nat → Int32} {T : List Int32} (h : rl f T) (k : Nat) : ∀ c, k + c ≤ T.length → mk_c f k c = ckl ((T.drop k).take c)
  | 0, _ => rfl
  | c + 1, hc => by
    rw [mk_c, mk_ckl h k c (by omega), h (k + c) (by omega), ckl_take (by rw [List.length_drop]; omega)]
    congr 1
    simp [List.getD]


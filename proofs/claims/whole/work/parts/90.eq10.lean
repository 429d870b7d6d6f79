/-! Bits as numbers -/
def rbt (f : Nat → Int32) (n ln k : Nat) : Nat := rbN f n ln (k / 8) / 2 ^ (7 - k % 8) % 2
theorem rbt_lt (f : Nat → Int32) (n ln k : Nat) : rbt f n ln k < 2 := Nat.mod_lt _ (by decide)
theorem bt_dec : ∀ b, b < 256 → ∀ r, r < 8 → (nI b >>> ((7 - nI r) &&& 31)) &&& 1 = nI (b / 2 ^ (7 - r) % 2) := by decide +kernel
theorem bit_eq (f : Nat → Int32) (n ln k : Nat) : rw_bit f n ln k = nI (rbt f n ln k) := by
  unfold rw_bit rbt
  rw [rb_eq]
  exact bt_dec _ (rb_lt _ _ _ _) _ (Nat.mod_lt _ (by decide))
def bN (f : Nat → Int32) (n ln k : Nat) : Nat → Nat
  | 0 => 0
  | c + 1 => 2 * bN f n ln k c + rbt f n ln (k + c)
theorem bN_lt (f : Nat → Int32) (n ln k : Nat) : ∀ c, bN f n ln k c < 2 ^ c
  | 0 => Nat.zero_lt_one
  | c + 1 => by
    have h1 := bN_lt f n ln k c
    have h2 := rbt_lt f n ln (k + c)
    show 2 * bN f n ln k c + rbt f n ln (k + c) < 2 ^ (c + 1)
    rw [Nat.pow_succ]
    omega
theorem lsh_or {x b : Nat} (hx : x < 2 ^ 62) (hb : b < 2) : (lN x <<< ((1 : Int32).toInt64 &&& 63)) ||| (nI b).toInt64 = lN (2 * x + b) := by
  have hs : ((1 : Int32).toInt64 &&& 63).toBitVec.smod 64 = 1#64 := by decide
  have hb2 : (nI b).toInt64 = lN b := nI_l (by omega)
  rw [hb2]
  apply Int64.toBitVec_inj.mp
  apply BitVec.eq_of_toNat_eq
  have e1 : (lN x <<< ((1 : Int32).toInt64 &&& 63)).toBitVec = (lN x).toBitVec <<< (1#64) := by
    show (lN x).toBitVec <<< (((1 : Int32).toInt64 &&& 63).toBitVec.smod 64) = _
    rw [hs]
  rw [Int64.toBitVec_or, BitVec.toNat_or, e1]
  have ex : (lN x).toBitVec.toNat = x := by
    show (BitVec.ofNat 64 x).toNat = x
    rw [BitVec.toNat_ofNat]
    omega
  have eb : (lN b).toBitVec.toNat = b := by
    show (BitVec.ofNat 64 b).toNat = b
    rw [BitVec.toNat_ofNat]
    omega
  have er : (lN (2 * x + b)).toBitVec.toNat = 2 * x + b := by
    show (BitVec.ofNat 64 (2 * x + b)).toNat = 2 * x + b
    rw [BitVec.toNat_ofNat]
    omega
  have es : ((lN x).toBitVec <<< (1#64)).toNat = 2 * x := by
    rw [BitVec.shiftLeft_eq', BitVec.toNat_shiftLeft, ex]
    show x <<< 1 % 2 ^ 64 = 2 * x
    rw [Nat.shiftLeft_eq]
    omega
  rw [es, eb, er]
  have h := Nat.shiftLeft_add_eq_or_of_lt (i := 1) (b := b) (by omega) x
  rw [Nat.shiftLeft_eq] at h
  rw [show 2 * x = x * 2 ^ 1 by omega]
  exact h.symm
theorem bits_eq (f : Nat → Int32) (n ln k : Nat) : ∀ c, c ≤ 62 → rw_bits f n ln k c = lN (bN f n ln k c)
  | 0, _ => rfl
  | c + 1, h => by
    show (rw_bits f n ln k c <<< ((1 : Int32).toInt64 &&& 63)) ||| (rw_bit f n ln (k + c)).toInt64 = _
    rw [bits_eq f n ln k c (by omega), bit_eq]
    have h1 := bN_lt f n ln k c
    have h2 : 2 ^ c ≤ 2 ^ 62 := Nat.pow_le_pow_right (by decide) (by omega)
    exact lsh_or (by omega) (rbt_lt _ _ _ _)
theorem bits_i {f : Nat → Int32} {n ln k c : Nat} (h : c ≤ 62) : (rw_bits f n ln k c).toInt32 = nI (bN f n ln k c) := by rw [bits_eq f n ln k c h, lN_i]
/-- the reference's bits -/
theorem mb_eq {g : Nat → Int32} {B : Nat → Nat} (hB : ∀ i, B i < 256) {m : Nat} (hg : ∀ i, i < m → g i = nI (B i)) (k : Nat) : ∀ c, k + c ≤ 8 * m → mb_l g k c = lN ((List.range c).foldl (fun v j => 2 * v + B ((k + j) / 8) / 2 ^ (7 - (k + j) % 8) % 2) 0)
  | 0, _ => rfl
  | c + 1, h => by
    show 2 * mb_l g k c + mb_b g (k + c) = _
    rw [mb_eq hB hg k c (by omega), List.range_succ, List.foldl_append]
    show _ = lN (2 * _ + _)
    unfold mb_b
    rw [hg _ (by omega), bt_dec _ (hB _) _ (Nat.mod_lt _ (by decide))]
    have hb : B ((k + c) / 8) / 2 ^ (7 - (k + c) % 8) % 2 < 2 := Nat.mod_lt _ (by decide)
    rw [nI_l (by omega), show (2 : Int64) = lN 2 from rfl, lN_mul, lN_add]


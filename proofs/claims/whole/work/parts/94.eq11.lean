/-! A time out of its bits; a piece's head -/
theorem lsh_orK {x b k : Nat} {s : Int64} (hs : s.toBitVec.smod 64 = BitVec.ofNat 64 k) (hk : k < 63) (hx : x * 2 ^ k + 2 ^ k ≤ 2 ^ 63) (hb : b < 2 ^ k) : (lN x <<< s) ||| lN b = lN (x * 2 ^ k + b) := by
  apply Int64.toBitVec_inj.mp
  apply BitVec.eq_of_toNat_eq
  have e1 : (lN x <<< s).toBitVec = (lN x).toBitVec <<< (BitVec.ofNat 64 k) := by
    show (lN x).toBitVec <<< (s.toBitVec.smod 64) = _
    rw [hs]
  have hx2 : x ≤ x * 2 ^ k := Nat.le_mul_of_pos_right x (Nat.two_pow_pos k)
  have hp : 0 < 2 ^ k := Nat.two_pow_pos k
  rw [Int64.toBitVec_or, BitVec.toNat_or, e1]
  have ex : (lN x).toBitVec.toNat = x := by
    show (BitVec.ofNat 64 x).toNat = x
    rw [BitVec.toNat_ofNat]
    omega
  have eb : (lN b).toBitVec.toNat = b := by
    show (BitVec.ofNat 64 b).toNat = b
    rw [BitVec.toNat_ofNat]
    omega
  have er : (lN (x * 2 ^ k + b)).toBitVec.toNat = x * 2 ^ k + b := by
    show (BitVec.ofNat 64 (x * 2 ^ k + b)).toNat = x * 2 ^ k + b
    rw [BitVec.toNat_ofNat]
    omega
  have ek : (BitVec.ofNat 64 k).toNat = k := by
    rw [BitVec.toNat_ofNat]
    omega
  have es : ((lN x).toBitVec <<< (BitVec.ofNat 64 k)).toNat = x * 2 ^ k := by
    rw [BitVec.shiftLeft_eq', BitVec.toNat_shiftLeft, ex, ek, Nat.shiftLeft_eq]
    omega
  rw [es, eb, er]
  have h := Nat.shiftLeft_add_eq_or_of_lt (i := k) (b := b) hb x
  rw [Nat.shiftLeft_eq] at h
  exact h.symm
/-- the time as a number -/
def tmN (f : Nat → Int32) (n k : Nat) : Nat := bN f n 9400 (8 * k + 4) 3 * 2 ^ 30 + (bN f n 9400 (8 * k + 8) 15 * 2 ^ 15 + bN f n 9400 (8 * k + 24) 15)
theorem tmN_lt (f : Nat → Int32) (n k : Nat) : tmN f n k < 2 ^ 33 := by
  have h1 := bN_lt f n 9400 (8 * k + 4) 3
  have h2 := bN_lt f n 9400 (8 * k + 8) 15
  have h3 := bN_lt f n 9400 (8 * k + 24) 15
  unfold tmN
  omega
theorem tm_eq (f : Nat → Int32) (n k : Nat) : ((rw_bits f n 9400 (8 * k + 4) 3 <<< ((30 : Int32).toInt64 &&& 63)) ||| (rw_bits f n 9400 (8 * k + 8) 15 <<< ((15 : Int32).toInt64 &&& 63))) ||| rw_bits f n 9400 (8 * k + 24) 15 = lN (tmN f n k) := by
  have h1 := bN_lt f n 9400 (8 * k + 4) 3
  have h2 := bN_lt f n 9400 (8 * k + 8) 15
  have h3 := bN_lt f n 9400 (8 * k + 24) 15
  rw [bits_eq _ _ _ _ _ (by omega), bits_eq _ _ _ _ _ (by omega), bits_eq _ _ _ _ _ (by omega)]
  have e : ∀ a b c : Int64, (a ||| b) ||| c = a ||| (b ||| c) := fun a b c => Int64.or_assoc ..
  rw [e, lsh_orK (k := 15) (by decide) (by omega) (by omega) h3, lsh_orK (k := 30) (by decide) (by omega) (by omega) (by omega)]
  rfl
theorem tm_ne (a : Nat) (h : a < 2 ^ 33) : ¬ lN a = -1 := by
  intro e
  have h1 := pk_lT (n := a) (by omega)
  rw [e] at h1
  have h2 : (-1 : Int64).toInt = -1 := by decide
  omega
def bpT (f : Nat → Int32) (n k : Nat) : Nat := bN f n 9400 (8 * (k + 4)) 16
def bpE (f : Nat → Int32) (n k : Nat) : Nat := rbN f n 9400 (k + 8)
def bpU (f : Nat → Int32) (n k : Nat) : Int32 := if bpT f n k = 0 then -1 else nI (bpT f n k) - 3 - nI (bpE f n k)
abbrev bpM (f : Nat → Int32) (n k : Nat) : Prop := ¬ rbN f n 9400 (k + 7) / 64 < 2 ∧ ¬ bpE f n k < 5
def bpZ (f : Nat → Int32) (n k : Nat) : Int64 := if bpM f n k then lN (tmN f n (k + 9)) else -1
/-- a piece begins here -/
def bpOk (f : Nat → Int32) (n k te : Nat) : Prop := k + 9 + bpE f n k ≤ te ∧ bN f n 9400 (8 * k) 24 = 1 ∧ rbN f n 9400 (k + 6) / 64 = 2 ∧ (bpT f n k = 0 ∨ ¬ bpU f n k < 0)
theorem bp_sh6 : ∀ b, b < 256 → nI b >>> ((6 : Int32) &&& 31) = nI (b / 64) := op_sh6


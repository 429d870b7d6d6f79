/-! Packets: what writing puts behind the tape -/
def rc (f : Nat → Int32) (T : List Int32) : Prop := sb_Fit f ∧ ∀ i, i < T.length → f i &&& 255 = T.getD i 0
theorem by8_and (v : Int32) : by8 v &&& 255 = v &&& 255 := by
  unfold by8
  apply Int32.toBitVec_inj.mp
  apply BitVec.eq_of_getLsbD_eq
  intro i hi
  simp only [Int32.toBitVec_and, BitVec.getLsbD_and]
  by_cases h8 : i < 8
  · congr 1
    simp [Int8.toBitVec_toInt32, Int32.toBitVec_toInt8, BitVec.getElem_signExtend, hi, h8]
  · have : (Int32.toBitVec 255).getLsbD i = false := by
      have e : (Int32.toBitVec 255) = BitVec.ofNat 32 255 := rfl
      rw [e, BitVec.getLsbD_ofNat]
      have : Nat.testBit 255 i = false := Nat.testBit_lt_two_pow (Nat.lt_of_lt_of_le (by decide : 255 < 2 ^ 8) (Nat.pow_le_pow_right (by decide) (by omega)))
      simp [this]
    rw [this, Bool.and_false, Bool.and_false]
theorem rc_snoc {f : Nat → Int32} {T : List Int32} {v : Int32} (h : rc f T) : rc (upd f T.length (by8 v)) (T ++ [v &&& 255]) := by
  refine ⟨sb_fitU h.1 (pk_fb v), fun i hi => ?_⟩
  rw [List.length_append, List.length_singleton] at hi
  by_cases hl : i < T.length
  · rw [pk_un (by omega), h.2 i hl]
    simp [List.getD, List.getElem?_append_left hl]
  · have e : i = T.length := by omega
    subst e
    rw [pk_us, by8_and]
    simp [List.getD]
/-- what fills a packet that is not full -/
def stL (less : Nat) : List Int32 := (List.range less).map (fun k => if k = 0 then nI (less - 1) else if k = 1 then 0 else 255)
theorem st_len (less : Nat) : (stL less).length = less := by simp [stL]
theorem st_take {less k : Nat} (h : k < less) : (stL less).take (k + 1) = (stL less).take k ++ [if k = 0 then nI (less - 1) else if k = 1 then 0 else 255] := by
  rw [List.take_succ]
  congr 1
  simp only [stL, List.getElem?_map, List.getElem?_range h, Option.map_some, Option.toList_some]
def hd4 (pid : Nat) (fst : Bool) (w nn : Nat) : List Int32 := [71, (if fst = true then 64 else 0) ||| nI (pid / 256), nI (pid % 256), (if nn < 184 then 48 else 16) ||| nI (w % 16)]
def hdL (pid : Nat) (fst : Bool) (w nn : Nat) : List Int32 := hd4 pid fst w nn ++ stL (184 - nn)
theorem hd_len (pid : Nat) (fst : Bool) (w nn : Nat) : (hdL pid fst w nn).length = 4 + (184 - nn) := by simp [hdL, hd4, st_len]; omega
/-- bytes into packets, from the i-th of tot bytes on -/
def ppL (pid w0 tot : Nat) : Nat → List Int32 → List Int32
  | _, [] => []
  | i, x :: xs => (if i % 184 = 0 then hdL pid (decide (i = 0)) (w0 + i / 184) (min 184 (tot - i)) else []) ++ x :: ppL pid w0 tot (i + 1) xs
theorem pp_app (pid w0 tot : Nat) : ∀ (A B : List Int32) (i : Nat), ppL pid w0 tot i (A ++ B) = ppL pid w0 tot i A ++ ppL pid w0 tot (i + A.length) B
  | [], B, i => by simp [ppL]
  | a :: A, B, i => by
    simp only [List.cons_append, ppL, List.length_cons]
    rw [pp_app pid w0 tot A B (i + 1), show i + 1 + A.length = i + (A.length + 1) by omega]
    simp
theorem pp_snoc (pid w0 tot : Nat) (B : List Int32) (x : Int32) : ppL pid w0 tot 0 (B ++ [x]) = ppL pid w0 tot 0 B ++ ((if B.length % 184 = 0 then hdL pid (decide (B.length = 0)) (w0 + B.length / 184) (min 184 (tot - B.length)) else []) ++ [x]) := by
  rw [pp_app]
  simp only [Nat.zero_add, ppL]
/-- how much room the packet has that was begun last -/
def rmOf (tot b : Nat) : Nat := if b % 184 = 0 then 0 else min 184 (tot - b / 184 * 184) - b % 184
theorem wr_b : ∀ k, k < 32 → ((64 : Int32) ||| nI k) &&& 255 = 64 ||| nI k ∧ ((0 : Int32) ||| nI k) &&& 255 = 0 ||| nI k := by decide
theorem wr_c : ∀ k, k < 16 → ((48 : Int32) ||| nI k) &&& 255 = 48 ||| nI k ∧ ((16 : Int32) ||| nI k) &&& 255 = 16 ||| nI k := by decide
theorem wr_255 {k : Nat} (h : k < 256) : nI k &&& 255 = nI k := by
  rw [pk_andN (by omega) 8 (by decide), Nat.mod_eq_of_lt h]
theorem wr_256 {k : Nat} (h : k < 2 ^ 31) : nI k &&& 255 = nI (k % 256) := pk_andN (by omega) 8 (by decide)
theorem wr_shr8 {k : Nat} (h : k < 2 ^ 31) : nI k >>> ((8 : Int32) &&& 31) = nI (k / 256) := pk_shrN h _ 8 (by decide)
theorem wr_15 {k : Nat} (h : k < 2 ^ 31) : nI k &&& 15 = nI (k % 16) := pk_andN (by omega) 4 (by decide)
theorem wr_min {lf : Nat} (h : lf < 2 ^ 31) : (if (184 : Int32) < nI lf then 184 else nI lf) = nI (min 184 lf) := by
  show (if nI 184 < nI lf then nI 184 else nI lf) = _
  by_cases c : 184 < lf
  · rw [if_pos ((nI_ltI (a := 184) (by omega) h).mpr c), Nat.min_eq_left (by omega)]
  · rw [if_neg (mt (nI_ltI (a := 184) (by omega) h).mp c), Nat.min_eq_right (by omega)]


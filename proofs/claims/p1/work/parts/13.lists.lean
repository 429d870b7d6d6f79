/-! Lists of bytes: what a row holds -/
def rl (f : Nat → Int32) (L : List Int32) : Prop := ∀ i, i < L.length → f i = L.getD i 0
theorem rl_nil {f : Nat → Int32} : rl f [] := fun i h => absurd h (Nat.not_lt_zero i)
theorem rl_snoc {f : Nat → Int32} {L : List Int32} {x : Int32} (h : rl f L) : rl (upd f L.length x) (L ++ [x]) := by
  intro i hi
  rw [List.length_append, List.length_singleton] at hi
  by_cases hl : i < L.length
  · rw [pk_un (by omega), h i hl]
    simp [List.getD, List.getElem?_append_left hl]
  · have e : i = L.length := by omega
    subst e
    rw [pk_us]
    simp [List.getD]
theorem rl_set {f : Nat → Int32} {L : List Int32} {k : Nat} {x : Int32} (h : rl f L) (hk : k < L.length) : rl (upd f k x) (L.set k x) := by
  intro i hi
  rw [List.length_set] at hi
  by_cases e : i = k
  · subst e
    rw [pk_us]
    simp [List.getD, hi]
  · rw [pk_un e, h i hi]
    simp [List.getD, List.getElem?_set, Ne.symm e]
theorem rl_pre {f : Nat → Int32} {L M : List Int32} (h : rl f (L ++ M)) : rl f L := by
  intro i hi
  rw [h i (by rw [List.length_append]; omega)]
  simp [List.getD, List.getElem?_append_left hi]
/-- a byte of a number -/
def pb (v : Int64) (k : Nat) : Int32 := ((v >>> ((8 * nI k : Int32).toInt64 &&& 63)) &&& 255).toInt32
/-- the bytes of a number, the highest first -/
def bsL (v : Int64) (c : Nat) : List Int32 := (List.range c).map (fun j => pb v (c - 1 - j))
theorem bs_len (v : Int64) (c : Nat) : (bsL v c).length = c := by simp [bsL]
theorem bs_take (v : Int64) {c k : Nat} (h : k < c) : (bsL v c).take (c - k) = (bsL v c).take (c - (k + 1)) ++ [pb v k] := by
  have e : c - k = (c - (k + 1)) + 1 := by omega
  rw [e, List.take_succ]
  congr 1
  have hl : c - (k + 1) < c := by omega
  simp only [bsL, List.getElem?_map, List.getElem?_range hl, Option.map_some, Option.toList_some]
  congr 2
  omega
theorem bs_1 (v : Int64) : bsL v 1 = [pb v 0] := rfl
theorem pm_out {m : Nat} (h : m ≤ 8) (h2 : nI m - 1 < 0) : m = 0 := by
  have h3 := Int32.lt_iff_toInt_lt.mp h2
  rw [show (1 : Int32) = nI 1 from rfl, pk_sub_toInt (by omega) (by omega)] at h3
  have h4 : (0 : Int32).toInt = 0 := by decide
  omega
theorem pm_in {m : Nat} (h : m ≤ 8) (h2 : ¬ nI m - 1 < 0) : ∃ k, m = k + 1 := by
  cases m with
  | zero => exact absurd (by decide) h2
  | succ k => exact ⟨k, rfl⟩
theorem pm_dec (k : Nat) : nI (k + 1) - 1 + (-1) = nI k - 1 := by
  rw [nI_pred, Int32.sub_eq_add_neg]
/-- the check of a list of bytes, as the reference makes it -/
def ckl (L : List Int32) : Int32 := L.foldl (fun c v => ck_m v c 8) (-1)
theorem ckl_take {L : List Int32} {j : Nat} (h : j < L.length) : ckl (L.take (j + 1)) = ck_m (L.getD j 0) (ckl (L.take j)) 8 := by
  rw [List.take_succ, ckl, List.foldl_append]
  simp [ckl, List.getD, h]
def sealH (tb : Int32) (L : List Int32) : List Int32 := (L.set 2 ((tb <<< ((4 : Int32) &&& 31)) ||| (nI L.length >>> ((8 : Int32) &&& 31)))).set 3 (nI L.length &&& 255)
theorem sealH_len (tb : Int32) (L : List Int32) : (sealH tb L).length = L.length := by simp [sealH]
def sealC (tb : Int32) (L : List Int32) : List Int32 := sealH tb L ++ bsL ((ckl ((sealH tb L).drop 1)).toInt64 &&& 4294967295) 4
theorem sealC_len (tb : Int32) (L : List Int32) : (sealC tb L).length = L.length + 4 := by simp [sealC, sealH_len, bs_len]
def sealL (tb : Int32) (L : List Int32) : List Int32 := sealC tb L ++ List.replicate (180 - L.length) 255
theorem sealL_len {tb : Int32} {L : List Int32} (h : L.length ≤ 180) : (sealL tb L).length = 184 := by simp [sealL, sealC_len]; omega
theorem pb255 : pb 255 0 = 255 := by decide


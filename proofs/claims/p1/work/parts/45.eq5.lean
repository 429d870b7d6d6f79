/-! Tables: the same bytes -/
theorem bt_ve : ∀ k, k < 32 → pb ((193 : Int32) ||| (nI k <<< ((1 : Int32) &&& 31))).toInt64 0 = pb ((193 : Int64) ||| ((nI k).toInt64 <<< ((1 : Int32).toInt64 &&& 63))) 0 := by decide
theorem bt_b0 : bsL (45056 : Int32).toInt64 2 = [176, 0] := by decide
theorem bt_z2 : bsL 0 2 = [0, 0] := by decide
theorem bt_mt {tb nu : Int32} {k : Nat} (hk : k < 32) : ((((bsL 0 1 ++ bsL tb.toInt64 1) ++ bsL (45056 : Int32).toInt64 2) ++ bsL nu.toInt64 2) ++ bsL ((193 : Int32) ||| (nI k <<< ((1 : Int32) &&& 31))).toInt64 1) ++ bsL 0 2 = (mtB tb nu (nI k)).set 2 176 := by
  unfold mtB
  rw [bt_b0, bt_z2, bs_1 (((193 : Int32) ||| (nI k <<< ((1 : Int32) &&& 31))).toInt64), bs_1 ((193 : Int64) ||| ((nI k).toInt64 <<< ((1 : Int32).toInt64 &&& 63))), bt_ve k hk, bs_2, bs_1, bs_1]
  rfl
theorem pid_or (x : Int32) : ((57344 : Int32) ||| x).toInt64 = (57344 : Int64) ||| x.toInt64 := by
  rw [Int32.toInt64_or]
  rfl
theorem pid_bs (x : Int32) : bsL ((57344 : Int32) ||| x).toInt64 2 = bsL ((57344 : Int64) ||| x.toInt64) 2 := by rw [pid_or]


/-! Orders: the same bytes -/
theorem od_1 : ∀ k, k < 64 → (nI k - nI k / 2 * 2 = 0 ↔ nI k &&& 1 = 0) := by decide
theorem od_2 : ∀ k, k < 64 → (nI k - nI k / 2 * 2 = 1 ↔ ¬ nI k &&& 1 = 0) := by decide
theorem od_3 : ∀ k, k < 64 → ((nI k >>> ((2 : Int32) &&& 31)) &&& 1 = 1 ↔ ¬ nI k &&& 4 = 0) := by decide
theorem od_4 : ∀ k, k < 64 → (31 < nI k ↔ ¬ nI k &&& 32 = 0) := by decide
theorem od_5 : ∀ k, k < 64 → ((nI k >>> ((3 : Int32) &&& 31)) &&& 1 = 1 ↔ ¬ nI k &&& 8 = 0) := by decide
theorem od_6 : ∀ k, k < 64 → moF (nI k) = obF (nI k) := by decide
theorem od_7 : ∀ k, k < 64 → (((nI k >>> ((4 : Int32) &&& 31)).toInt64 &&& 1) <<< ((39 : Int32).toInt64 &&& 63)) = if nI k &&& 16 = 0 then 0 else 549755813888 := by decide
theorem od_m1 : bsL (-1) 4 = bsL 4294967295 4 := by decide
theorem od_t1 (t : Int64) : ftV 1 t = 1090921693184 ||| t := by
  unfold ftV
  rw [if_neg (by decide)]
  rfl
theorem od_t0 (t : Int64) : ftV 0 t = 541165879296 ||| t := by
  unfold ftV
  rw [if_pos rfl]
  rfl
theorem od_v {k : Nat} (hk : k < 64) (ln : Int64) : ftV (if nI k &&& 16 = 0 then 0 else 1) (ln &&& 8589934591) = moV (nI k) ln := by
  unfold ftV moV
  rw [od_7 k hk]
  by_cases c : nI k &&& 16 = 0
  · simp only [if_pos c]
    rfl
  · simp only [if_neg c]
    rfl


/-! The room: a taking, over the tape's list -/
theorem rc_tB {f : Nat → Int32} {T : List Int32} (h : rc f T) (hl : T.length ≤ 9400) : ∀ i, i < T.length → rbN f T.length 9400 i = tB T i := by
  intro i hi
  unfold rbN tB
  rw [rc_at h hi hl]
theorem tk_le (B : Nat → Nat) (n : Nat) : ∀ (m i : Nat) (A : HS), i ≤ n → (huTk B n m i A).1 ≤ n
  | 0, _, _, h => h
  | m + 1, i, A, h => by
    rw [huTk]
    by_cases c1 : n ≤ i ∨ (B i = 71 ∧ n < i + 188)
    · rw [if_pos c1]; exact h
    · rw [if_neg c1]
      by_cases c2 : ¬ B i = 71
      · rw [if_pos c2]
        exact tk_le B n m (i + 1) _ (by omega)
      · rw [if_neg c2]
        have h7 : B i = 71 := Classical.byContradiction c2
        have hi : i + 188 ≤ n := by
          by_cases q : i + 188 ≤ n
          · exact q
          · exact absurd (Or.inr ⟨h7, by omega⟩) c1
        exact tk_le B n m (i + 188) _ hi
/-- what a taking costs, what it leaves -/
theorem tk_room {f : Nat → Int32} {T : List Int32} {C : List Nat} {s : TK9} {R : Nat × Nat × HS} (h : rc f T) (hl : T.length ≤ 9400) (hc : cvT T C) (hR : R = huTk (rbN f T.length 9400) T.length T.length 0 (huS s)) : ∃ D, cvT (T.drop R.1) D ∧ R.1 ≤ T.length ∧ 188 * R.2.1 ≤ R.1 ∧ R.2.1 ≤ 50
    ∧ csC f T.length 0 s + 2 * gfh gG R.2.2 + 80 * D.length + 40 * (T.length - R.1) / 188 ≤ 19 * 50 + 2 * gfh gG (huS s) + 80 * C.length + 40 * T.length / 188
    ∧ csS f T.length 0 s + 1026 * gfh gG R.2.2 + 1554 * D.length + 305 * (T.length - R.1) / 188 ≤ 1026 * gfh gG (huS s) + 1554 * C.length + 305 * T.length / 188 := by
  have hB := rc_tB h hl
  obtain ⟨D, d1, d2, d3, d4⟩ := co_b (G := gG) (B := rbN f T.length 9400) (n := T.length) gG_0 (fun i => rb_lt _ _ _ _) T.length 0 (huS s) C (cv_cov hB hc)
  have h1 := tk_le (rbN f T.length 9400) T.length T.length 0 (huS s) (Nat.zero_le _)
  rw [← hR] at d1 d2 d3 d4 h1
  refine ⟨D.map (fun e => e - R.1), cov_cv hB d1, h1, by omega, by omega, ?_, ?_⟩
  · rw [List.length_map]
    unfold csC
    omega
  · rw [List.length_map]
    unfold csS
    omega


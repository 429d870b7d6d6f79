/-! The room: a taking's charge -/
/-- a head that may be dear -/
abbrev exb (G : Nat → Bool) (b : Nat → Nat) : Prop := b 1 / 64 = 1 ∧ b 3 / 64 = 0 ∧ b 3 / 16 % 2 = 1 ∧ G (huId b) = false
theorem gd_ex {G : Nat → Bool} {b : Nat → Nat} {A : HS} (hg : huGd b A) (hs : ¬ b 1 / 64 % 2 = 0) (h : ¬ exb G b) : G (huId b) = true := by
  obtain ⟨h1, h2, -, h4⟩ := hg
  cases hG : G (huId b)
  · exfalso
    apply h
    have q1 : b 1 < 128 := Classical.byContradiction fun q => h1 (Or.inl q)
    have q2 : ¬ huA b = 0 := fun q => h1 (Or.inr (Or.inl q))
    have q3 : ¬ huA b = 2 := fun q => h2 (Or.inr q)
    unfold huA at q2 q3
    exact ⟨by omega, h4, by omega, hG⟩
  · rfl
theorem se_b (p : Nat) : seM p ≤ 18 ∧ seN p ≤ 109 ∧ ubM p ≤ 118 ∧ ubN p ≤ 716 := by
  unfold seM seN ubM ubN
  by_cases c : p = 0
  · rw [if_pos c, if_pos c, if_pos c, if_pos c]; omega
  · rw [if_neg c, if_neg c, if_neg c, if_neg c]; omega
theorem se_n {p : Nat} (c : ¬ p = 0) : seM p = 6 ∧ seN p = 21 ∧ ubM p = 52 ∧ ubN p = 276 := by
  unfold seM seN ubM ubN
  rw [if_neg c, if_neg c, if_neg c, if_neg c]
  exact ⟨rfl, rfl, rfl, rfl⟩
abbrev gfh (G : Nat → Bool) (A : HS) : Nat := gfr G (hrw A) 8192
/-- a packet's charge -/
theorem pc_b {G : Nat → Bool} {b : Nat → Nat} (A : HS) (hG : G 0 = false) (hb : b 2 < 256) : (huPc b A).1 + 2 * gfh G (huPk b A) ≤ 59 + 2 * gfh G A + (if exb G b then 80 else 0) ∧ (huPc b A).2 + 1026 * gfh G (huPk b A) ≤ 305 + 1026 * gfh G A + (if exb G b then 1554 else 0) := by
  have hm : gfh G (huPk b A) ≤ gfh G A := gfr_le G (fun q h => hw_pk b q A h) 8192
  have hI : huId b < 8192 := by unfold huId; omega
  by_cases hg : huGd b A
  · by_cases h0 : huUs A.2.2.2.1 (huId b) = 0
    · have e : huPc b A = (1, 8) := by unfold huPc; rw [if_pos hg, if_pos h0]
      rw [e]
      constructor <;> dsimp only <;> omega
    · by_cases h4 : huUs A.2.2.2.1 (huId b) = 4
      · have e : huPc b A = (28, 197) := by unfold huPc; rw [if_pos hg, if_neg h0, if_pos h4]
        rw [e]
        constructor <;> dsimp only <;> omega
      · by_cases hs : b 1 / 64 % 2 = 0
        · have e : huPc b A = (1 + seM (huId b), 8 + seN (huId b)) := by unfold huPc; rw [if_pos hg, if_neg h0, if_neg h4, if_pos hs]
          have hse := se_b (huId b)
          rw [e]
          constructor <;> dsimp only <;> omega
        · have e : huPc b A = (1 + ((if A.2.2.2.2.2 (huId b) = true ∨ ¬ huB1 b then 0 else 2) + (seM (huId b) + ubM (huId b))), 8 + ((if A.2.2.2.2.2 (huId b) = true ∨ ¬ huB1 b then 0 else 1026) + (seN (huId b) + ubN (huId b)))) := by unfold huPc; rw [if_pos hg, if_neg h0, if_neg h4, if_neg hs]
          rw [e]
          by_cases hx : exb G b
          · rw [if_pos hx, if_pos hx]
            have hse := se_b (huId b)
            by_cases hr : A.2.2.2.2.2 (huId b) = true ∨ ¬ huB1 b
            · rw [if_pos hr, if_pos hr]
              constructor <;> dsimp only <;> omega
            · rw [if_neg hr, if_neg hr]
              constructor <;> dsimp only <;> omega
          · rw [if_neg hx, if_neg hx]
            have hGi := gd_ex hg hs hx
            have hse := se_n (p := huId b) (fun q => by rw [q, hG] at hGi; cases hGi)
            by_cases hr : A.2.2.2.2.2 (huId b) = true ∨ ¬ huB1 b
            · rw [if_pos hr, if_pos hr]
              constructor <;> dsimp only <;> omega
            · rw [if_neg hr, if_neg hr]
              have hr1 : hrw A (huId b) = false := by
                cases q : hrw A (huId b)
                · rfl
                · exact absurd (Or.inl q) hr
              have hr2 : huB1 b := Classical.byContradiction fun q => hr (Or.inr q)
              have hlt : gfh G (huPk b A) + 1 ≤ gfh G A := gfr_lt G (fun q h => hw_pk b q A h) hGi hr1 (hw_pk1 hg h0 h4 hs hr2) 8192 hI
              constructor <;> dsimp only <;> omega
  · have e : huPc b A = (1, 8) := by unfold huPc; rw [if_neg hg]
    rw [e]
    constructor <;> dsimp only <;> omega
/-- the dear heads from i on are covered by stretches of 188 bytes, told by their ends -/
def cov (G : Nat → Bool) (B : Nat → Nat) (n i : Nat) (C : List Nat) : Prop := ∀ h, i ≤ h → h + 4 ≤ n → B h = 71 → exb G (fun j => B (h + j)) → ∃ e ∈ C, h < e ∧ e ≤ h + 188
theorem cov_mono {G : Nat → Bool} {B : Nat → Nat} {n i j : Nat} {C : List Nat} (h : cov G B n i C) (hj : i ≤ j) : cov G B n j C := fun q h1 h2 h3 h4 => h q (by omega) h2 h3 h4
theorem cov_ex {G : Nat → Bool} {B : Nat → Nat} {n i : Nat} {C : List Nat} (h : cov G B n i C) (hi : i + 188 ≤ n) (h7 : B i = 71) (hx : exb G (fun j => B (i + j))) : ∃ D, D.length + 1 = C.length ∧ cov G B n (i + 188) D := by
  obtain ⟨e, he, h1, h2⟩ := h i (Nat.le_refl _) (by omega) h7 hx
  refine ⟨C.erase e, ?_, ?_⟩
  · have := List.length_pos_of_mem he
    rw [List.length_erase_of_mem he]
    omega
  · intro q q1 q2 q3 q4
    obtain ⟨e', he', h3, h4⟩ := h q (by omega) q2 q3 q4
    exact ⟨e', (List.mem_erase_of_ne (by omega)).mpr he', h3, h4⟩
/-- a taking's charge -/
theorem co_b {G : Nat → Bool} {B : Nat → Nat} {n : Nat} (hG : G 0 = false) (hB : ∀ i, B i < 256) : ∀ (m i : Nat) (A : HS) (C : List Nat), cov G B n i C → ∃ D, cov G B n (huTk B n m i A).1 D ∧ i + 188 * (huTk B n m i A).2.1 ≤ (huTk B n m i A).1
    ∧ (huCo B n m i A).1 + 2 * gfh G (huTk B n m i A).2.2 + 80 * D.length ≤ 59 * (huTk B n m i A).2.1 + 2 * gfh G A + 80 * C.length
    ∧ (huCo B n m i A).2 + 1026 * gfh G (huTk B n m i A).2.2 + 1554 * D.length ≤ 305 * (huTk B n m i A).2.1 + 1026 * gfh G A + 1554 * C.length
  | 0, i, A, C, hc => ⟨C, hc, Nat.le_refl _, by show 0 + 2 * gfh G A + _ ≤ 59 * 0 + _ + _; omega, by show 0 + 1026 * gfh G A + _ ≤ 305 * 0 + _ + _; omega⟩
  | m + 1, i, A, C, hc => by
    rw [huCo, huTk]
    by_cases c1 : n ≤ i ∨ (B i = 71 ∧ n < i + 188)
    · rw [if_pos c1, if_pos c1]
      exact ⟨C, hc, Nat.le_refl _, by show 0 + 2 * gfh G A + _ ≤ 59 * 0 + _ + _; omega, by show 0 + 1026 * gfh G A + _ ≤ 305 * 0 + _ + _; omega⟩
    · rw [if_neg c1, if_neg c1]
      by_cases c2 : ¬ B i = 71
      · rw [if_pos c2, if_pos c2]
        obtain ⟨D, d1, d2, d3, d4⟩ := co_b hG hB m (i + 1) (cup A.1 5, A.2) C (cov_mono hc (by omega))
        exact ⟨D, d1, by omega, d3, d4⟩
      · rw [if_neg c2, if_neg c2]
        have h7 : B i = 71 := Classical.byContradiction c2
        have hi : i + 188 ≤ n := by
          by_cases q : i + 188 ≤ n
          · exact q
          · exact absurd (Or.inr ⟨h7, by omega⟩) c1
        have hp := pc_b (G := G) (b := fun j => B (i + j)) A hG (hB _)
        by_cases hx : exb G (fun j => B (i + j))
        · obtain ⟨C1, c3, c4⟩ := cov_ex hc hi h7 hx
          obtain ⟨D, d1, d2, d3, d4⟩ := co_b hG hB m (i + 188) (huPk (fun j => B (i + j)) A) C1 c4
          rw [if_pos hx, if_pos hx] at hp
          refine ⟨D, d1, ?_, ?_, ?_⟩ <;> dsimp only <;> omega
        · obtain ⟨D, d1, d2, d3, d4⟩ := co_b hG hB m (i + 188) (huPk (fun j => B (i + j)) A) C (cov_mono hc (by omega))
          rw [if_neg hx, if_neg hx] at hp
          refine ⟨D, d1, ?_, ?_, ?_⟩ <;> dsimp only <;> omega


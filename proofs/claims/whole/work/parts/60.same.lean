/-! Both sides answer the same: what the contracts say, side by side. -/
def lgv (a b : Int32) : Int64 := (a.toInt64 <<< ((32 : Int32).toInt64 &&& 63)) ||| (b.toInt64 &&& 4294967295)
theorem nI_inj {a b : Nat} (ha : a < 2 ^ 31) (hb : b < 2 ^ 31) (h : nI a = nI b) : a = b := (nI_eq ha hb).mp h
theorem feed_same {n u1 : Nat} {c r1 r2 : Int32} {u2 : Int32 × Nat} (h1 : ¬ c < 1 ∧ ¬ 8 < c ∧ (if n + c.toNatClampNeg ≤ 9400 then u1 = c.toNatClampNeg ∧ r1 = nI (n + u1) else u1 = 0 ∧ r1 = -1)) (h2 : if c < 1 ∨ 8 < c then u2 = (1, 0) ∧ r2 = 0 else if n + c.toNatClampNeg ≤ 9400 then u2 = (0, c.toNatClampNeg) ∧ r2 = nI (n + u2.2) else u2 = (0, 0) ∧ r2 = -1) : u2.1 = 0 ∧ u2.2 = u1 ∧ r1 = r2 := by
  obtain ⟨a, b, h1⟩ := h1
  rw [if_neg (fun z => z.elim a b)] at h2
  by_cases c9 : n + c.toNatClampNeg ≤ 9400
  · rw [if_pos c9] at h1 h2
    obtain ⟨rfl, rfl⟩ := h1
    obtain ⟨rfl, rfl⟩ := h2
    exact ⟨rfl, rfl, rfl⟩
  · rw [if_neg c9] at h1 h2
    obtain ⟨rfl, rfl⟩ := h1
    obtain ⟨rfl, rfl⟩ := h2
    exact ⟨rfl, rfl, rfl⟩
theorem feed_no {n : Nat} {c r2 : Int32} {u2 : Int32 × Nat} (hb : c < 1 ∨ 8 < c) (h2 : if c < 1 ∨ 8 < c then u2 = (1, 0) ∧ r2 = 0 else if n + c.toNatClampNeg ≤ 9400 then u2 = (0, c.toNatClampNeg) ∧ r2 = nI (n + u2.2) else u2 = (0, 0) ∧ r2 = -1) : u2.1 = 1 := by
  rw [if_pos hb] at h2
  rw [h2.1]
theorem spoil_no {n : Nat} {i v r2 : Int32} {tp : Nat → Int32} {u2 : Int32 × (Nat → Int32)} (hb : i < 0 ∨ nI n ≤ i) (h2 : if i < 0 ∨ nI n ≤ i then u2 = (1, tp) ∧ r2 = 0 else if v < 0 ∨ 255 < v then u2 = (2, tp) ∧ r2 = 0 else u2 = (0, upd tp i.toNatClampNeg v) ∧ r2 = tp i.toNatClampNeg) : u2.1 = 1 := by
  rw [if_pos hb] at h2
  rw [h2.1]
theorem in_0 (i : Int32) : i < 0 ∨ nI 0 ≤ i := by
  by_cases c : i < 0
  · exact Or.inl c
  · exact Or.inr (Int32.not_lt.mp c)
theorem drop_same {n a b : Nat} {i c r1 r2 : Int32} {u2 : Int32 × Nat × Nat} (hn : n ≤ 9400) (h1 : a + b ≤ n ∧ i = nI a ∧ c = nI b ∧ r1 = nI (n - b)) (h2 : (u2 = (1, 0, 0) ∧ r2 = 0 ∧ (i < 0 ∨ c < 0 ∨ nI n - c < i)) ∨ (u2.1 = 0 ∧ i = nI u2.2.1 ∧ c = nI u2.2.2 ∧ u2.2.1 + u2.2.2 ≤ n ∧ r2 = nI (n - u2.2.2))) : u2.1 = 0 ∧ u2.2.1 = a ∧ u2.2.2 = b ∧ r1 = r2 := by
  obtain ⟨ha, rfl, rfl, rfl⟩ := h1
  rcases h2 with ⟨-, -, z | z | z⟩ | ⟨z1, z2, z3, z4, z5⟩
  · exact absurd z (nI_pos (by omega))
  · exact absurd z (nI_pos (by omega))
  · rw [pk_sub (by omega)] at z
    exact absurd z (nI_nlt (by omega) (by omega))
  · have e1 := nI_inj (by omega) (by omega) z2
    have e2 := nI_inj (by omega) (by omega) z3
    exact ⟨z1, e1.symm, e2.symm, by rw [z5, ← e2]⟩
theorem drop_no {n : Nat} {i c r2 : Int32} {u2 : Int32 × Nat × Nat} (hn : n ≤ 9400) (hb : i < 0 ∨ c < 0 ∨ nI n - i < c) (h2 : (u2 = (1, 0, 0) ∧ r2 = 0 ∧ (i < 0 ∨ c < 0 ∨ nI n - c < i)) ∨ (u2.1 = 0 ∧ i = nI u2.2.1 ∧ c = nI u2.2.2 ∧ u2.2.1 + u2.2.2 ≤ n ∧ r2 = nI (n - u2.2.2))) : u2.1 = 1 := by
  rcases h2 with ⟨z, -⟩ | ⟨z1, z2, z3, z4, z5⟩
  · rw [z]
  · exact (dr_no hn z4 z2 z3 hb).elim
theorem seal_no {n : Nat} {i c : Int32} {tp : Nat → Int32} {u2 : Int32 × (Nat → Int32)} (hn : n ≤ 9400) (hb : i < 0 ∨ c < i ∨ nI n - 4 < c) (h2 : ((i < 0 ∨ c < i ∨ nI n - 4 < c) ∧ u2 = (1, tp)) ∨ (∃ a9 b9 : Nat, i = nI a9 ∧ c = nI b9 ∧ a9 ≤ b9 ∧ b9 + 4 ≤ n ∧ u2 = (0, ms_f tp b9 (mk_c tp a9 (b9 - a9)) 4))) : u2.1 = 1 := by
  rcases h2 with ⟨-, z⟩ | ⟨a, b, z1, z2, z3, z4, -⟩
  · rw [z]
  · exact (sl_no (b := b - a) hn (by omega) z1 (by rw [z2]; congr 1; omega) hb).elim
theorem sl_0 (i c : Int32) : i < 0 ∨ c < i ∨ nI 0 - 4 < c := by
  by_cases h1 : i < 0
  · exact Or.inl h1
  · by_cases h2 : c < i
    · exact Or.inr (Or.inl h2)
    · refine Or.inr (Or.inr ?_)
      have a1 := Int32.le_iff_toInt_le.mp (Int32.not_lt.mp h1)
      have a2 := Int32.le_iff_toInt_le.mp (Int32.not_lt.mp h2)
      rw [Int32.lt_iff_toInt_lt]
      have e1 : (nI 0 - 4 : Int32).toInt = -4 := by decide
      have e2 : (0 : Int32).toInt = 0 := by decide
      omega
theorem tp_0 (f : Nat → Int32) (i : Int32) : ∀ j, tp_l f 0 i j = 0
  | 0 => rfl
  | j + 1 => by
    show tp_l f 0 i j ||| _ = 0
    rw [tp_0 f i j]
    have e : rw_at f 0 9400 (i + nI j) = 0 := by
      unfold rw_at
      rw [if_neg]
      intro z
      exact z.2.1 (Int32.not_lt.mp z.1)
    rw [e]
    have e2 : (0 : Int32).toInt64 = 0 := by decide
    rw [e2]
    apply Int64.toBitVec_inj.mp
    simp
theorem mt_0 (f : Nat → Int32) (i : Int32) : ∀ j, mt_l f 0 i j = 0
  | 0 => rfl
  | j + 1 => by
    have h : lg_cmp (i.toInt64 + (nI j).toInt64) 0 < 0 ∨ 0 ≤ lg_cmp (i.toInt64 + (nI j).toInt64) (nI 0).toInt64 := by
      have e2 : (nI 0).toInt64 = 0 := by decide
      rw [e2]
      by_cases c : lg_cmp (i.toInt64 + (nI j).toInt64) 0 < 0
      · exact Or.inl c
      · exact Or.inr (Int32.not_lt.mp c)
    rw [mt_no h]
    exact mt_0 f i j
theorem told_no {i r0 u si lv pg : Int32} {tl : Nat → Int32} (hb : i < 0 ∨ 11 < i) (h : ((i < 0 ∨ 11 < i) ∧ u = 1 ∧ r0 = 0) ∨ (∃ a9 : Nat, i = nI a9 ∧ a9 ≤ 11 ∧ u = 0 ∧ r0 = if a9 = 0 then si else if a9 = 10 then lv else if a9 = 11 then pg else tl a9)) : u = 1 := by
  rcases h with ⟨-, z, -⟩ | ⟨a, rfl, z, -⟩
  · exact z
  · exact absurd hb (fun q => q.elim (nI_pos (by omega)) (Int32.not_lt.mpr (nI_le (a := a) (b := 11) z (by decide))))
theorem told_same {k : Nat} {r1 r0 u si lv pg : Int32} {tl cn : Nat → Int32} (hk : k ≤ 11) (h1 : r1 = if k = 0 then si else if k = 10 then lv else if k = 11 then pg else cn k) (h : ((nI k < 0 ∨ 11 < nI k) ∧ u = 1 ∧ r0 = 0) ∨ (∃ a9 : Nat, nI k = nI a9 ∧ a9 ≤ 11 ∧ u = 0 ∧ r0 = if a9 = 0 then si else if a9 = 10 then lv else if a9 = 11 then pg else tl a9)) (hcn : ∀ k, k < 10 → cn k = tl k) : u = 0 ∧ r1 = r0 := by
  rcases h with ⟨q, -⟩ | ⟨a, e, z, e0, er⟩
  · exact absurd q (fun q => q.elim (nI_pos (by omega)) (Int32.not_lt.mpr (nI_le (a := k) (b := 11) hk (by decide))))
  · obtain rfl := nI_inj (by omega) (by omega) e
    refine ⟨e0, ?_⟩
    rw [h1, er]
    by_cases c0 : k = 0
    · rw [if_pos c0, if_pos c0]
    · rw [if_neg c0, if_neg c0]
      by_cases c1 : k = 10
      · rw [if_pos c1, if_pos c1]
      · rw [if_neg c1, if_neg c1]
        by_cases c2 : k = 11
        · rw [if_pos c2, if_pos c2]
        · rw [if_neg c2, if_neg c2]; exact hcn k (by omega)
theorem nk_11 {i : Int32} {M : Nat} (hM : M < 2 ^ 31) (h : ¬ (i < 0 ∨ nI M < i)) : ∃ k : Nat, k ≤ M ∧ i = nI k := nI_of2 (x := i) (M := nI M) (n := M) (nI_toInt hM) (fun z => h (Or.inl z)) (Int32.not_lt.mp (fun z => h (Or.inr z)))


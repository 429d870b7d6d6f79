/-! The tape's calls: both sides the same -/
abbrev fdW (b : Int64) (u : Nat) : List Int32 := (List.range u).map (mf_b b)
theorem feed_RT {T : List Int32} {f tp : Nat → Int32} {u1 : Nat} {c r1 r2 : Int32} {b : Int64} {u2 : Int32 × Nat} (h : RT T f tp) (h1 : ¬ c < 1 ∧ ¬ 8 < c ∧ (if T.length + c.toNatClampNeg ≤ 9400 then u1 = c.toNatClampNeg ∧ r1 = nI (T.length + u1) else u1 = 0 ∧ r1 = -1)) (h2 : if c < 1 ∨ 8 < c then u2 = (1, 0) ∧ r2 = 0 else if T.length + c.toNatClampNeg ≤ 9400 then u2 = (0, c.toNatClampNeg) ∧ r2 = nI (T.length + u2.2) else u2 = (0, 0) ∧ r2 = -1) : u2.1 = 0 ∧ r1 = r2 ∧ RT (T ++ fdW b u1) (fd_f f T.length b u1) (mf_f tp T.length b u2.2) ∧ T.length + u1 = (T ++ fdW b u1).length ∧ T.length + u2.2 = (T ++ fdW b u1).length ∧ (fdW b u1).length ≤ 188 := by
  obtain ⟨z1, z2, z3⟩ := feed_same h1 h2
  obtain ⟨h3, h4, h5⟩ := h1
  obtain ⟨k, hk, rfl⟩ := nk_11 (i := c) (M := 8) (by decide) (fun z => z.elim (fun q => h3 (Int32.lt_trans q (by decide))) h4)
  rw [nI_clamp (by omega)] at h5
  have hu : u1 ≤ 8 ∧ T.length + u1 ≤ 9400 := by
    by_cases c9 : T.length + k ≤ 9400
    · rw [if_pos c9] at h5; rw [h5.1]; exact ⟨hk, c9⟩
    · rw [if_neg c9] at h5; rw [h5.1]; exact ⟨by omega, h.2.2⟩
  have hl : (T ++ fdW b u1).length = T.length + u1 := by rw [List.length_append, List.length_map, List.length_range]
  refine ⟨z1, z3, ⟨fd_rc b h.1 u1 hu.1, ?_, by rw [hl]; exact hu.2⟩, hl.symm, by rw [hl, z2], by rw [List.length_map, List.length_range]; omega⟩
  rw [z2]
  exact mf_rl b h.2.1 u1 hu.1
theorem feed_no2 {n : Nat} {c r2 : Int32} {u2 : Int32 × Nat} (hb : c < 1 ∨ 8 < c) (h2 : if c < 1 ∨ 8 < c then u2 = (1, 0) ∧ r2 = 0 else if n + c.toNatClampNeg ≤ 9400 then u2 = (0, c.toNatClampNeg) ∧ r2 = nI (n + u2.2) else u2 = (0, 0) ∧ r2 = -1) : u2 = (1, 0) := by
  rw [if_pos hb] at h2
  exact h2.1
theorem sp_at {T : List Int32} {f : Nat → Int32} (h : rc f T) (hl : T.length ≤ 9400) {k : Nat} (hk : k < T.length) : rw_at f T.length 9400 (nI k) = T.getD k 0 := by
  unfold rw_at
  rw [if_pos ⟨nI_pos (by omega), fun z => absurd ((nI_leI (by omega) (by omega)).mp z) (by omega), fun z => absurd ((nI_leI (a := 9400) (by omega) (by omega)).mp z) (by omega)⟩, nI_clamp (by omega)]
  exact h.2 k hk
theorem sp_rl {T : List Int32} {tp : Nat → Int32} (h : rl tp T) {k : Nat} {v : Int32} (hk : k < T.length) : rl (upd tp k v) (T.set k v) := by
  intro i hi
  rw [List.length_set] at hi
  rw [List.getD_eq_getElem?_getD, List.getElem?_set]
  by_cases c : k = i
  · rw [if_pos c, if_pos hk, ← c]
    show (if k = k then v else tp k) = v
    rw [if_pos rfl]
  · rw [if_neg c, ← List.getD_eq_getElem?_getD]
    show (if i = k then v else tp i) = _
    rw [if_neg (fun q => c q.symm)]
    exact h i hi
theorem spoil_RT {T : List Int32} {f tp : Nat → Int32} {u1 : Nat} {i v r1 r2 : Int32} {u2 : Int32 × (Nat → Int32)} (h : RT T f tp) (h1 : u1 < T.length ∧ i = nI u1 ∧ ¬ v < 0 ∧ ¬ 255 < v ∧ r1 = rw_at f T.length 9400 i) (h2 : if i < 0 ∨ nI T.length ≤ i then u2 = (1, tp) ∧ r2 = 0 else if v < 0 ∨ 255 < v then u2 = (2, tp) ∧ r2 = 0 else u2 = (0, upd tp i.toNatClampNeg v) ∧ r2 = tp i.toNatClampNeg) : u2.1 = 0 ∧ r1 = r2 ∧ RT (T.set u1 v) (upd f u1 (by8 v)) u2.2 := by
  obtain ⟨hu, rfl, hv1, hv2, hr⟩ := h1
  have hl := h.2.2
  rw [if_neg (fun z => z.elim (nI_pos (by omega)) (fun z => absurd ((nI_leI (by omega) (by omega)).mp z) (by omega))), if_neg (fun z => z.elim hv1 hv2), nI_clamp (by omega)] at h2
  obtain ⟨rfl, rfl⟩ := h2
  refine ⟨rfl, ?_, sp_rc h.1 hu (sp_v hv1 hv2), sp_rl h.2.1 hu, by rw [List.length_set]; exact hl⟩
  rw [hr, sp_at h.1 hl hu, h.2.1 u1 hu]
theorem spoil_no2 {n : Nat} {i v r2 : Int32} {tp : Nat → Int32} {u2 : Int32 × (Nat → Int32)} (hb : i < 0 ∨ nI n ≤ i) (h2 : if i < 0 ∨ nI n ≤ i then u2 = (1, tp) ∧ r2 = 0 else if v < 0 ∨ 255 < v then u2 = (2, tp) ∧ r2 = 0 else u2 = (0, upd tp i.toNatClampNeg v) ∧ r2 = tp i.toNatClampNeg) : u2 = (1, tp) := by
  rw [if_pos hb] at h2
  exact h2.1
theorem spoil_no3 {n : Nat} {i v r2 : Int32} {tp : Nat → Int32} {u2 : Int32 × (Nat → Int32)} (ha : ¬ (i < 0 ∨ nI n ≤ i)) (hb : v < 0 ∨ 255 < v) (h2 : if i < 0 ∨ nI n ≤ i then u2 = (1, tp) ∧ r2 = 0 else if v < 0 ∨ 255 < v then u2 = (2, tp) ∧ r2 = 0 else u2 = (0, upd tp i.toNatClampNeg v) ∧ r2 = tp i.toNatClampNeg) : u2 = (2, tp) := by
  rw [if_neg ha, if_pos hb] at h2
  exact h2.1
theorem drop_RT {T : List Int32} {f tp : Nat → Int32} {u1 : Nat × Nat} {i c r1 r2 : Int32} {u2 : Int32 × Nat × Nat} (h : RT T f tp) (h1 : u1.1 + u1.2 ≤ T.length ∧ i = nI u1.1 ∧ c = nI u1.2 ∧ r1 = nI (T.length - u1.2)) (h2 : (u2 = (1, 0, 0) ∧ r2 = 0 ∧ (i < 0 ∨ c < 0 ∨ nI T.length - c < i)) ∨ (u2.1 = 0 ∧ i = nI u2.2.1 ∧ c = nI u2.2.2 ∧ u2.2.1 + u2.2.2 ≤ T.length ∧ r2 = nI (T.length - u2.2.2))) : u2.1 = 0 ∧ r1 = r2 ∧ RT (T.take u1.1 ++ T.drop (u1.1 + u1.2)) (va_cpy f f (u1.1 + u1.2) u1.1 (T.length - u1.1 - u1.2)) (md_f tp T.length u2) ∧ T.length - u1.2 = (T.take u1.1 ++ T.drop (u1.1 + u1.2)).length ∧ T.length - u2.2.2 = (T.take u1.1 ++ T.drop (u1.1 + u1.2)).length := by
  obtain ⟨z1, z2, z3, z4⟩ := drop_same h.2.2 h1 h2
  have hl := dr_len h1.1
  refine ⟨z1, z4, ⟨cpy_rc h.1 h1.1, ?_, by rw [hl]; have := h.2.2; omega⟩, hl.symm, by rw [hl, z3]⟩
  unfold md_f
  rw [if_pos z1, z2, z3]
  exact rm_rl h.2.1 h1.1
theorem drop_no2 {n : Nat} {i c r2 : Int32} {u2 : Int32 × Nat × Nat} (hn : n ≤ 9400) (hb : i < 0 ∨ c < 0 ∨ nI n - i < c) (h2 : (u2 = (1, 0, 0) ∧ r2 = 0 ∧ (i < 0 ∨ c < 0 ∨ nI n - c < i)) ∨ (u2.1 = 0 ∧ i = nI u2.2.1 ∧ c = nI u2.2.2 ∧ u2.2.1 + u2.2.2 ≤ n ∧ r2 = nI (n - u2.2.2))) : u2 = (1, 0, 0) := by
  have h3 := drop_no hn hb h2
  rcases h2 with ⟨e, -⟩ | ⟨e, -⟩
  · exact e
  · rw [e] at h3; exact absurd h3 (by decide)
theorem md_no {tp : Nat → Int32} {n : Nat} {u2 : Int32 × Nat × Nat} (h : u2 = (1, 0, 0)) : md_f tp n u2 = tp := by
  unfold md_f
  rw [h, if_neg (by decide)]
theorem seal_ck {T : List Int32} {f tp : Nat → Int32} (h : RT T f tp) (a : Nat) : ∀ b, a + b ≤ T.length → rw_ck f T.length 9400 a b = mk_c tp a b
  | 0, _ => rfl
  | b + 1, hb => by
    rw [rw_ck, mk_c, seal_ck h a b (by omega), sp_at h.1 h.2.2 (k := a + b) (by omega), h.2.1 (a + b) (by omega)]
    exact ck_eq _ _
theorem seal_RT {T : List Int32} {f tp : Nat → Int32} {u1 : Nat × Nat} {i c : Int32} {u2 : Int32 × (Nat → Int32)} (h : RT T f tp) (h1 : u1.1 + u1.2 + 4 ≤ T.length ∧ i = nI u1.1 ∧ c = nI (u1.1 + u1.2)) (h2 : ((i < 0 ∨ c < i ∨ nI T.length - 4 < c) ∧ u2 = (1, tp)) ∨ (∃ a9 b9 : Nat, i = nI a9 ∧ c = nI b9 ∧ a9 ≤ b9 ∧ b9 + 4 ≤ T.length ∧ u2 = (0, ms_f tp b9 (mk_c tp a9 (b9 - a9)) 4))) : u2.1 = 0 ∧ RT (slL T (u1.1 + u1.2) (mk_c tp u1.1 u1.2) 4) (sl_f f (u1.1 + u1.2) (rw_ck f T.length 9400 u1.1 u1.2) 4) u2.2 ∧ T.length = (slL T (u1.1 + u1.2) (mk_c tp u1.1 u1.2) 4).length := by
  have hl := h.2.2
  obtain ⟨h3, h4, h5⟩ := h1
  rcases h2 with ⟨z, -⟩ | ⟨a9, b9, e1, e2, e3, e4, rfl⟩
  · exact (sl_no hl h3 h4 h5 z).elim
  · rw [h4] at e1
    rw [h5] at e2
    have e1 := nI_inj (by omega) (by omega) e1
    have e2 := nI_inj (by omega) (by omega) e2
    subst e1
    subst e2
    rw [show u1.1 + u1.2 - u1.1 = u1.2 by omega, seal_ck h _ _ (by omega)]
    exact ⟨rfl, ⟨sl_rc h.1 (by omega) 4 (Nat.le_refl _), ms_rl h.2.1 (by omega) 4 (Nat.le_refl _), by rw [slL_len]; exact hl⟩, (slL_len ..).symm⟩
theorem seal_no2 {n : Nat} {i c : Int32} {tp : Nat → Int32} {u2 : Int32 × (Nat → Int32)} (hn : n ≤ 9400) (hb : i < 0 ∨ c < i ∨ nI n - 4 < c) (h2 : ((i < 0 ∨ c < i ∨ nI n - 4 < c) ∧ u2 = (1, tp)) ∨ (∃ a9 b9 : Nat, i = nI a9 ∧ c = nI b9 ∧ a9 ≤ b9 ∧ b9 + 4 ≤ n ∧ u2 = (0, ms_f tp b9 (mk_c tp a9 (b9 - a9)) 4))) : u2 = (1, tp) := by
  have h3 := seal_no hn hb h2
  rcases h2 with ⟨-, e⟩ | ⟨a9, b9, -, -, -, -, e⟩
  · exact e
  · rw [e] at h3; exact absurd (show (0 : Int32) = 1 from h3) (by decide)
theorem slL_get (T : List Int32) (k : Nat) (x : Int32) : ∀ (j i : Nat), i < k ∨ k + j ≤ i → (slL T k x j).getD i 0 = T.getD i 0
  | 0, _, _ => rfl
  | j + 1, i, h => by
    show ((slL T k x j).set (k + j) _).getD i 0 = _
    rw [List.getD_eq_getElem?_getD, List.getElem?_set, if_neg (by omega), ← List.getD_eq_getElem?_getD]
    exact slL_get T k x j i (by omega)
theorem l0_or (x : Int64) (s : Int64) : x ||| ((0 : Int32).toInt64 <<< s) = x := by
  rw [show (0 : Int32).toInt64 = 0 from rfl, Int64.zero_shiftLeft, Int64.or_zero]
theorem tape_same {T : List Int32} {f tp : Nat → Int32} (h : RT T f tp) (i : Int32) : ∀ j, j ≤ 8 → tp_l f T.length i j = mt_l tp T.length i j
  | 0, _ => rfl
  | j + 1, hj => by
    have ih := tape_same h i j (by omega)
    have hl := h.2.2
    have hi1 := Int32.le_toInt i
    have hi2 := Int32.toInt_lt i
    have e1 : (i.toInt64 + (nI j).toInt64).toInt = i.toInt + j := by
      rw [Int64.toInt_add, Int32.toInt_toInt64, Int32.toInt_toInt64, nI_toInt (by omega)]
      rw [Int.bmod_eq_of_le] <;> omega
    have e2 : (i.toInt64 + (nI j).toInt64).toInt32 = i + nI j := by
      rw [Int64.toInt32_add, Int32.toInt32_toInt64, Int32.toInt32_toInt64]
    rw [tp_l]
    by_cases c1 : lg_cmp (i.toInt64 + (nI j).toInt64) 0 < 0 ∨ 0 ≤ lg_cmp (i.toInt64 + (nI j).toInt64) (nI T.length).toInt64
    · rw [mt_no c1, ih]
      have hz : rw_at f T.length 9400 (i + nI j) = 0 := by
        unfold rw_at
        apply if_neg
        rintro ⟨z1, z2, -⟩
        have z1 := Int32.not_lt.mp z1
        have z2 := Int32.not_le.mp z2
        rw [Int32.le_iff_toInt_le, Int32.toInt_add, nI_toInt (by omega)] at z1
        rw [Int32.lt_iff_toInt_lt, Int32.toInt_add, nI_toInt (n := j) (by omega), nI_toInt (by omega)] at z2
        have z1 : 0 ≤ (i.toInt + (j : Int)).bmod (2 ^ 32) := z1
        rw [lg_cmp_lt, lg_cmp_ge, Int64.lt_iff_toInt_lt, Int64.le_iff_toInt_le, e1, Int32.toInt_toInt64, nI_toInt (by omega)] at c1
        have c1 : i.toInt + (j : Int) < 0 ∨ (T.length : Int) ≤ i.toInt + j := c1
        by_cases c2 : i.toInt + (j : Int) < 2 ^ 31
        · rw [Int.bmod_eq_of_le (by omega) (by omega)] at z1 z2
          omega
        · have : (i.toInt + (j : Int)).bmod (2 ^ 32) = i.toInt + j - 2 ^ 32 := by
            rw [Int.bmod_def]; omega
          rw [this] at z1
          omega
      rw [hz]
      exact l0_or _ _
    · have d1 : ¬ lg_cmp (i.toInt64 + (nI j).toInt64) 0 < 0 := fun z => c1 (Or.inl z)
      have d2 : ¬ 0 ≤ lg_cmp (i.toInt64 + (nI j).toInt64) (nI T.length).toInt64 := fun z => c1 (Or.inr z)
      obtain ⟨k, hk, e3⟩ := mt_in d1 d2 hl
      rw [mt_yes d1 d2 hl hk e3, ih]
      rw [e2] at e3
      rw [e3, sp_at h.1 hl hk, h.2.1 k hk]


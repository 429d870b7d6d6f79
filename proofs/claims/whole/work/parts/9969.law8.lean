/-! What is told: the reference's answers, road by road -/
theorem q3_2 {α : Type} {i wh u : Int32} {r0 z0 : α} {ng n : Nat} {m : Int32} {P : Nat → Nat → Prop} (hn : ng ≤ 4) (hb : ¬ (wh < 0 ∨ m < wh)) (hk : i < 0 ∨ ¬ i < nI ng) (h : ((wh < 0 ∨ m < wh) ∧ u = 1 ∧ r0 = z0) ∨ (¬ (wh < 0 ∨ m < wh) ∧ (i < 0 ∨ ¬ i < nI ng) ∧ u = 2 ∧ r0 = z0) ∨ (∃ a9 b9 : Nat, i = nI a9 ∧ a9 < ng ∧ wh = nI b9 ∧ b9 ≤ n ∧ u = 0 ∧ P a9 b9)) : u = 2 := by
  rcases h with ⟨z, -⟩ | ⟨-, -, e, -⟩ | ⟨a9, b9, rfl, ha, -⟩
  · exact absurd z hb
  · exact e
  · exact (hk.elim (nI_pos (by omega)) (fun q => q (nI_lt ha (by omega)))).elim
theorem q3_0 {α : Type} {u : Int32} {r0 z0 : α} {ng n a b : Nat} {P : Nat → Nat → Prop} (hn : ng ≤ 4) (hn2 : n ≤ 10) (ha : a < ng) (hb : b ≤ n) (h : ((nI b < 0 ∨ nI n < nI b) ∧ u = 1 ∧ r0 = z0) ∨ (¬ (nI b < 0 ∨ nI n < nI b) ∧ (nI a < 0 ∨ ¬ nI a < nI ng) ∧ u = 2 ∧ r0 = z0) ∨ (∃ a9 b9 : Nat, nI a = nI a9 ∧ a9 < ng ∧ nI b = nI b9 ∧ b9 ≤ n ∧ u = 0 ∧ P a9 b9)) : u = 0 ∧ P a b := by
  rcases h with ⟨z, -⟩ | ⟨-, z, -⟩ | ⟨a9, b9, e1, h1, e2, h2, e3, h3⟩
  · exact (z.elim (nI_pos (by omega)) (fun q => Int32.not_lt.mpr (nI_le hb (by omega)) q)).elim
  · exact (z.elim (nI_pos (by omega)) (fun q => q (nI_lt ha (by omega)))).elim
  · obtain rfl := nI_inj (by omega) (by omega) e1
    obtain rfl := nI_inj (by omega) (by omega) e2
    exact ⟨e3, h3⟩
theorem q2_1 {α : Type} {i u : Int32} {r0 z0 : α} {ng : Nat} {P : Nat → Prop} (hn : ng ≤ 4) (hk : i < 0 ∨ ¬ i < nI ng) (h : ((i < 0 ∨ ¬ i < nI ng) ∧ u = 1 ∧ r0 = z0) ∨ (∃ a9 : Nat, i = nI a9 ∧ a9 < ng ∧ u = 0 ∧ P a9)) : u = 1 := by
  rcases h with ⟨-, e, -⟩ | ⟨a9, rfl, ha, -⟩
  · exact e
  · exact (hk.elim (nI_pos (by omega)) (fun q => q (nI_lt ha (by omega)))).elim
theorem q2_0 {α : Type} {u : Int32} {r0 z0 : α} {ng a : Nat} {P : Nat → Prop} (hn : ng ≤ 4) (ha : a < ng) (h : ((nI a < 0 ∨ ¬ nI a < nI ng) ∧ u = 1 ∧ r0 = z0) ∨ (∃ a9 : Nat, nI a = nI a9 ∧ a9 < ng ∧ u = 0 ∧ P a9)) : u = 0 ∧ P a := by
  rcases h with ⟨z, -⟩ | ⟨a9, e1, h1, e3, h3⟩
  · exact (z.elim (nI_pos (by omega)) (fun q => q (nI_lt ha (by omega)))).elim
  · obtain rfl := nI_inj (by omega) (by omega) e1
    exact ⟨e3, h3⟩
theorem q1_n {α : Type} {j : Int32} {r0 z0 : α} {n : Nat} {P : Nat → Prop} (hn : n ≤ 6) (hj : j < 0 ∨ ¬ j < nI n) (h : ((j < 0 ∨ ¬ j < nI n) ∧ r0 = z0) ∨ (∃ b9 : Nat, j = nI b9 ∧ b9 < n ∧ P b9)) : r0 = z0 := by
  rcases h with ⟨-, e⟩ | ⟨b9, rfl, h1, -⟩
  · exact e
  · exact (hj.elim (nI_pos (by omega)) (fun q => q (nI_lt h1 (by omega)))).elim
theorem q1_s {α : Type} {j : Nat} {r0 z0 : α} {n : Nat} {P : Nat → Prop} (hn : n ≤ 6) (hj : j < n) (h : ((nI j < 0 ∨ ¬ nI j < nI n) ∧ r0 = z0) ∨ (∃ b9 : Nat, nI j = nI b9 ∧ b9 < n ∧ P b9)) : P j := by
  rcases h with ⟨z, -⟩ | ⟨b9, e, h1, h2⟩
  · exact (z.elim (nI_pos (by omega)) (fun q => q (nI_lt hj (by omega)))).elim
  · obtain rfl := nI_inj (by omega) (by omega) e
    exact h2
theorem q3_or {i wh u : Int32} {r0 : Int64} {ng : Nat} {P : Nat → Nat → Prop} (h : ((wh < 0 ∨ 3 < wh) ∧ u = 1 ∧ r0 = 0) ∨ (¬ (wh < 0 ∨ 3 < wh) ∧ (i < 0 ∨ ¬ i < nI ng) ∧ u = 2 ∧ r0 = 0) ∨ (∃ a9 c9 : Nat, i = nI a9 ∧ a9 < ng ∧ wh = nI c9 ∧ c9 ≤ 3 ∧ u = 0 ∧ P a9 c9)) : ((wh < 0 ∨ 3 < wh) ∧ u = 1 ∧ r0 = 0) ∨ (¬ (wh < 0 ∨ 3 < wh) ∧ (i < 0 ∨ ¬ i < nI ng) ∧ u = 2 ∧ r0 = 0) ∨ (∃ a9 c9 : Nat, i = nI a9 ∧ a9 < ng ∧ wh = nI c9 ∧ c9 ≤ 3 ∧ u = 0 ∧ P a9 c9) := h
theorem clk_G {pid : Nat} {u : Int32} {r0 : Int64} {cl : Nat → Int64} (hp : pid < 8192) (h : ((nI pid < 0 ∨ 8191 < nI pid) ∧ u = 1 ∧ r0 = 0) ∨ (∃ a9 : Nat, nI pid = nI a9 ∧ a9 ≤ 8191 ∧ u = 0 ∧ r0 = cl a9)) : u = 0 ∧ r0 = cl pid := by
  rcases h with ⟨z, -⟩ | ⟨a9, e1, h1, e2, e3⟩
  · exact (z.elim (nI_pos (by omega)) (fun q => Int32.not_lt.mpr (nI_le (a := pid) (b := 8191) (by omega) (by decide)) q)).elim
  · obtain rfl := nI_inj (by omega) (by omega) e1
    exact ⟨e2, e3⟩
/-- pieces done -/
theorem kdI_np {np a : Nat} (h1 : a < np) (h2 : np < 2 ^ 30) : kdI (nI np - 1 - nI a) = (np - 1 - a) % 16 := by
  rw [show (1 : Int32) = nI 1 from rfl, pk_sub (by omega), pk_sub (by omega)]
  unfold kdI
  have : (nI (np - 1 - a)).toBitVec.toNat = np - 1 - a := by
    rw [nI_bv, BitVec.toNat_ofNat]
    exact Nat.mod_eq_of_lt (by omega)
  rw [this]
theorem pc_G {np : Nat} {i wh u : Int32} {r0 : Int64} {dn : Nat → Int64} (hb : ¬ (wh < 0 ∨ 4 < wh ∨ i < 0)) (h : ((wh < 0 ∨ 4 < wh ∨ i < 0) ∧ u = 1 ∧ r0 = 0) ∨ (¬ (wh < 0 ∨ 4 < wh ∨ i < 0) ∧ u = 0 ∧ (((15 < i ∨ ¬ i < nI np) ∧ r0 = -1) ∨ (∃ a9 b9 : Nat, i = nI a9 ∧ a9 ≤ 15 ∧ a9 < np ∧ wh = nI b9 ∧ b9 ≤ 4 ∧ r0 = dn (5 * ((np - 1 - a9) % 16) + b9))))) : u = 0 ∧ (((15 < i ∨ ¬ i < nI np) ∧ r0 = -1) ∨ (∃ a9 b9 : Nat, i = nI a9 ∧ a9 ≤ 15 ∧ a9 < np ∧ wh = nI b9 ∧ b9 ≤ 4 ∧ r0 = dn (5 * ((np - 1 - a9) % 16) + b9))) := by
  rcases h with ⟨z, -⟩ | ⟨-, h⟩
  · exact absurd z hb
  · exact h
theorem pc_N {np : Nat} {i wh u : Int32} {r0 : Int64} {dn : Nat → Int64} {cn : Nat → Int32} (hcn : cn 9 = nI np) (hnp : np < 2 ^ 30) (hb : ¬ (wh < 0 ∨ 4 < wh ∨ i < 0)) (hno : ¬ dbK cn i) (h : ((wh < 0 ∨ 4 < wh ∨ i < 0) ∧ u = 1 ∧ r0 = 0) ∨ (¬ (wh < 0 ∨ 4 < wh ∨ i < 0) ∧ u = 0 ∧ (((15 < i ∨ ¬ i < nI np) ∧ r0 = -1) ∨ (∃ a9 b9 : Nat, i = nI a9 ∧ a9 ≤ 15 ∧ a9 < np ∧ wh = nI b9 ∧ b9 ≤ 4 ∧ r0 = dn (5 * ((np - 1 - a9) % 16) + b9))))) : u = 0 ∧ r0 = -1 := by
  obtain ⟨e, h⟩ := pc_G hb h
  refine ⟨e, ?_⟩
  rcases h with ⟨-, h⟩ | ⟨a9, b9, rfl, h1, h2, -⟩
  · exact h
  · exact absurd ⟨nI_pos (by omega), fun z => absurd ((nI_leI (a := 16) (by omega) (by omega)).mp z) (by omega), by rw [hcn]; exact nI_lt h2 (by omega)⟩ hno
theorem pc_S {np w : Nat} {i u : Int32} {r0 : Int64} {dn : Nat → Int64} {cn : Nat → Int32} {D : Nat → Option PQ9} {q : PQ9} (hcn : cn 9 = nI np) (hnp : np < 2 ^ 30) (hw : w ≤ 4) (hdr : hdR (fun k => (D k).map huDq) np dn) (hbk : dbK cn i) (hq : D (kdI (cn 9 - 1 - i)) = some q) (h : ((nI w < 0 ∨ 4 < nI w ∨ i < 0) ∧ u = 1 ∧ r0 = 0) ∨ (¬ (nI w < 0 ∨ 4 < nI w ∨ i < 0) ∧ u = 0 ∧ (((15 < i ∨ ¬ i < nI np) ∧ r0 = -1) ∨ (∃ a9 b9 : Nat, i = nI a9 ∧ a9 ≤ 15 ∧ a9 < np ∧ nI w = nI b9 ∧ b9 ≤ 4 ∧ r0 = dn (5 * ((np - 1 - a9) % 16) + b9))))) : u = 0 ∧ pcV q w = r0 := by
  obtain ⟨h1, h2, h3⟩ := hbk
  obtain ⟨e, h⟩ := pc_G (fun z => z.elim (nI_pos (by omega)) (fun z => z.elim (fun q => Int32.not_lt.mpr (nI_le (a := w) (b := 4) hw (by decide)) q) h1)) h
  refine ⟨e, ?_⟩
  rcases h with ⟨z, -⟩ | ⟨a9, b9, rfl, h4, h5, e2, h6, rfl⟩
  · exfalso
    rw [hcn] at h3
    rcases z with z | z
    · apply h2
      rw [Int32.le_iff_toInt_le]
      rw [Int32.lt_iff_toInt_lt] at z
      have z : (15 : Int) < i.toInt := z
      show (16 : Int) ≤ i.toInt
      omega
    · exact z h3
  · obtain rfl := nI_inj (by omega) (by omega) e2
    rw [hcn, kdI_np h5 hnp] at hq
    obtain ⟨v, hv, v0, v1, v2, v3, v4⟩ := hdr ((np - 1 - a9) % 16) (Nat.mod_lt _ (by decide)) (by have := Nat.mod_le (np - 1 - a9) 16; omega)
    rw [show (fun k => (D k).map huDq) ((np - 1 - a9) % 16) = (D ((np - 1 - a9) % 16)).map huDq from rfl, hq] at hv
    obtain rfl := Option.some.inj hv
    have : w = 0 ∨ w = 1 ∨ w = 2 ∨ w = 3 ∨ w = 4 := by omega
    rcases this with rfl | rfl | rfl | rfl | rfl
    · exact v0.symm
    · exact v1.symm
    · exact v2.symm
    · exact v3.symm
    · exact v4.symm
theorem pc_some {np : Nat} {i : Int32} {dn : Nat → Int64} {cn : Nat → Int32} {D : Nat → Option PQ9} (hcn : cn 9 = nI np) (hnp : np < 2 ^ 30) (hdr : hdR (fun k => (D k).map huDq) np dn) (hbk : dbK cn i) : ∃ q, D (kdI (cn 9 - 1 - i)) = some q := by
  obtain ⟨h1, h2, h3⟩ := hbk
  obtain ⟨a, ha, rfl⟩ := nk_11 (i := i) (M := 15) (by decide) (fun z => z.elim h1 (fun q => h2 (by
    rw [Int32.le_iff_toInt_le]
    rw [Int32.lt_iff_toInt_lt] at q
    have q : (15 : Int) < i.toInt := q
    show (16 : Int) ≤ i.toInt
    omega)))
  rw [hcn] at h3
  have h4 := (nI_ltI (by omega) (by omega)).mp h3
  rw [hcn, kdI_np h4 hnp]
  obtain ⟨v, hv, -⟩ := hdr ((np - 1 - a) % 16) (Nat.mod_lt _ (by decide)) (by have := Nat.mod_le (np - 1 - a) 16; omega)
  have hv : (D ((np - 1 - a) % 16)).map huDq = some v := hv
  cases c : D ((np - 1 - a) % 16) with
  | none => rw [c] at hv; cases hv
  | some q => exact ⟨q, rfl⟩


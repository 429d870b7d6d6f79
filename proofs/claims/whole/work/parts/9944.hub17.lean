/-! The reference's pieces in the hub -/
/-- the pieces that were done -/
def hdR (D : Nat → Option HD) (np : Nat) (dn : Nat → Int64) : Prop := ∀ k, k < 16 → k < np → ∃ v, D k = some v ∧ dn (5 * k) = v.1.toInt64 ∧ dn (5 * k + 1) = v.2.1.toInt64 ∧ dn (5 * k + 2) = v.2.2.1 ∧ dn (5 * k + 3) = v.2.2.2.1.toInt64 ∧ dn (5 * k + 4) = v.2.2.2.2.toInt64
theorem hd_dn {D : Nat → Option HD} {np : Nat} {dn : Nat → Int64} (h : hdR D np dn) (v : HD) : hdR (va_up D (np % 16) (some v)) (np + 1) (dnU dn (5 * (np % 16)) v.1 v.2.1 v.2.2.1 v.2.2.2.1 v.2.2.2.2) := by
  intro k hk hkn
  unfold dnU
  by_cases c : k = np % 16
  · subst c
    refine ⟨v, va_up_self _ _ _, ?_, ?_, ?_, ?_, ?_⟩
    · rw [vl_n (by omega), vl_n (by omega), vl_n (by omega), vl_n (by omega), vl_s]
    · rw [vl_n (by omega), vl_n (by omega), vl_n (by omega), vl_s]
    · rw [vl_n (by omega), vl_n (by omega), vl_s]
    · rw [vl_n (by omega), vl_s]
    · rw [vl_s]
  · obtain ⟨w, h1, h2, h3, h4, h5, h6⟩ := h k hk (by omega)
    refine ⟨w, (va_up_ne _ _ c).trans h1, ?_, ?_, ?_, ?_, ?_⟩
    · rw [vl_n (by omega), vl_n (by omega), vl_n (by omega), vl_n (by omega), vl_n (by omega)]; exact h2
    · rw [vl_n (by omega), vl_n (by omega), vl_n (by omega), vl_n (by omega), vl_n (by omega)]; exact h3
    · rw [vl_n (by omega), vl_n (by omega), vl_n (by omega), vl_n (by omega), vl_n (by omega)]; exact h4
    · rw [vl_n (by omega), vl_n (by omega), vl_n (by omega), vl_n (by omega), vl_n (by omega)]; exact h5
    · rw [vl_n (by omega), vl_n (by omega), vl_n (by omega), vl_n (by omega), vl_n (by omega)]; exact h6
theorem kdI_nI {n : Nat} (h : n < 2 ^ 32) : kdI (nI n) = n % 16 := by
  unfold kdI
  rw [pk_tn h]
def gY (g : PG) (y : PS7) : PG := (g.nu, g.pi, g.vs, g.cp, g.sc, y.2.2.2.2.2.2.2.1, y.2.2.2.2.2.2.2.2.2.1, y.2.2.2.2.2.2.2.2.1, g.ty, g.sp, y.2.2.2.2.2.2.2.2.2.2)
def hY (A : HS) (y : PS7) (g : PG) (ng : Nat) (sY : Nat → Int32) : Prop := y.1.2.1 = A.1 ∧ (A.1 9 = nI y.1.1 ∧ y.1.1 < 2 ^ 30 + 2) ∧ slR A.2.1 none y.1.2.2.1 sY y.2.1 y.2.2.1 y.2.2.2.1 y.2.2.2.2.1 y.2.2.2.2.2.2.1 ∧ hdR A.2.2.2.2.1 y.1.1 y.1.2.2.2 ∧ tbR (gY g y) ng A.2.2.2.1
section SP
variable {L : Nat → HL} {sP sY sZ kd wa su sZ2 kd2 wa2 su2 : Nat → Int32} {ti ti2 : Nat → Int64}
theorem hg_cong {q j : Nat} {g : HP} (h : hgR q j g sZ kd wa su ti) (h1 : sZ2 j = sZ j) (h2 : kd2 j = kd j) (h3 : wa2 j = wa j) (h4 : su2 j = su j) (h5 : ti2 j = ti j) : hgR q j g sZ2 kd2 wa2 su2 ti2 := by
  unfold hgR
  rw [h1, h2, h3, h4, h5]
  exact h
/-- a free place may hold anything -/
theorem sl_irr2 {k : Nat} (h : slR L none sP sY sZ kd wa su ti) (hk : sP k = -1) (h1 : ∀ i, i ≠ k → sZ2 i = sZ i) (h2 : ∀ i, i ≠ k → kd2 i = kd i) (h3 : ∀ i, i ≠ k → wa2 i = wa i) (h4 : ∀ i, i ≠ k → su2 i = su i) (h5 : ∀ i, i ≠ k → ti2 i = ti i) : slR L none sP sY sZ2 kd2 wa2 su2 ti2 := by
  refine ⟨h.1, h.2.1, fun q hq hs => ?_, fun q g hq hg => ?_⟩
  · obtain ⟨j, g1, g2, g3, g4⟩ := h.2.2.1 q hq hs
    have cj : j ≠ k := fun q2 => by rw [q2, hk] at g2; exact nI_neN (by omega) g2.symm
    exact ⟨j, g1, g2, by rw [h1 j cj]; exact g3, g4⟩
  · obtain ⟨j, g1, g2, g3⟩ := h.2.2.2 q g hq hg
    have cj : j ≠ k := fun q2 => by rw [q2, hk] at g2; exact nI_neN (by omega) g2.symm
    exact ⟨j, g1, g2, hg_cong g3 (h1 j cj) (h2 j cj) (h3 j cj) (h4 j cj) (h5 j cj)⟩
/-- a piece at place k -/
theorem sl_pc {k p : Nat} {g : HP} (h : slR L none sP sY sZ kd wa su ti) (hk : k < 24) (hp : p < 8192) (hc : (sP k = -1 ∧ ¬ hga (L p)) ∨ (sP k = nI p ∧ (L p).2.2.2.1 = [])) (h1 : ∀ i, i ≠ k → sZ2 i = sZ i) (h2 : ∀ i, i ≠ k → kd2 i = kd i) (h3 : ∀ i, i ≠ k → wa2 i = wa i) (h4 : ∀ i, i ≠ k → su2 i = su i) (h5 : ∀ i, i ≠ k → ti2 i = ti i) (hg : hgR p k g sZ2 kd2 wa2 su2 ti2) : slR (va_up L p (huPs (L p) (some g))) none (upd sP k (nI p)) sY sZ2 kd2 wa2 su2 ti2 := by
  have hsec : (L p).2.2.2.1 = [] := hc.elim (fun q => Classical.not_not.mp (fun q2 => q.2 (Or.inl q2))) (fun q => q.2)
  have hone : ∀ j, j < 24 → j ≠ k → ¬ sP j = nI p := fun j hj cj he => by
    rcases hc with ⟨-, q⟩ | ⟨q, -⟩
    · exact sq_no h hp q (by intro z; cases z) j hj he
    · exact cj (h.2.1 j k hj hk (he.trans q.symm) (by rw [he]; exact nI_neN (by omega)))
  have hnk : ∀ q j, q < 8192 → q ≠ p → j < 24 → sP j = nI q → j ≠ k := fun q j hq hqp hj he cj => by
    rw [cj] at he
    rcases hc with ⟨q1, -⟩ | ⟨q1, -⟩
    · rw [q1] at he; exact nI_neN (by omega) he.symm
    · exact hqp ((nI_eq (by omega) (by omega)).mp (he.symm.trans q1))
  refine ⟨fun j hj => ?_, fun i j hi hj he2 hne => ?_, fun q hq hs => ?_, fun q g2 hq hg2 => ?_⟩
  · by_cases c : j = k
    · rw [c, pk_us]
      exact Or.inr ⟨p, hp, rfl, Or.inl (Or.inr (by rw [va_up_self]; intro z; cases z))⟩
    · rw [pk_un c]
      rcases h.1 j hj with q | ⟨q, hq, hq2, hq3⟩
      · exact Or.inl q
      · have hqp : q ≠ p := fun q2 => hone j hj c (by rw [hq2, q2])
        refine Or.inr ⟨q, hq, hq2, Or.inl ?_⟩
        rw [va_up_ne _ _ hqp]
        exact hq3.resolve_right (by intro z; cases z)
  · by_cases c1 : i = k
    · by_cases c2 : j = k
      · omega
      · rw [c1, pk_us, pk_un c2] at he2
        exact absurd he2.symm (hone j hj c2)
    · by_cases c2 : j = k
      · rw [c2, pk_us, pk_un c1] at he2
        exact absurd he2 (hone i hi c1)
      · rw [pk_un c1, pk_un c2] at he2
        rw [pk_un c1] at hne
        exact h.2.1 i j hi hj he2 hne
  · by_cases c : q = p
    · rw [c, va_up_self] at hs
      exact hs.elim (fun z => absurd hsec z) (fun z => by cases z)
    · rw [va_up_ne _ _ c] at hs ⊢
      obtain ⟨j, g1, g2, g3, g4⟩ := h.2.2.1 q hq hs
      have cj := hnk q j hq c g1 g2
      exact ⟨j, g1, by rw [pk_un cj]; exact g2, by rw [h1 j cj]; exact g3, g4⟩
  · by_cases c : q = p
    · subst c
      rw [va_up_self] at hg2
      have : g = g2 := Option.some.inj hg2
      subst this
      exact ⟨k, hk, pk_us, hg⟩
    · rw [va_up_ne _ _ c] at hg2
      obtain ⟨j, g1, g3, g4⟩ := h.2.2.2 q g2 hq hg2
      have cj := hnk q j hq c g1 g3
      exact ⟨j, g1, by rw [pk_un cj]; exact g3, hg_cong g4 (h1 j cj) (h2 j cj) (h3 j cj) (h4 j cj) (h5 j cj)⟩
end SP
theorem upd_id {f : Nat → Int32} {k : Nat} {x : Int32} (h : f k = x) : upd f k x = f := by
  funext j
  by_cases c : j = k
  · rw [c, pk_us, h]
  · rw [pk_un c]
/-- a piece is done -/
theorem hr_dn {A : HS} {y : PS7} {gg : PG} {ng : Nat} {sY : Nat → Int32} {p k : Nat} {g : HP} {sZ2 su2 : Nat → Int32} (hy : hY A y gg ng sY) (hnp : y.1.1 < 2 ^ 30 + 1) (hk : k < 24) (he : y.1.2.2.1 k = nI p) (hp : p < 8192) (hsec : (A.2.1 p).2.2.2.1 = []) (hg : g.1 = nI p) (h1 : ∀ i, i ≠ k → sZ2 i = y.2.1 i) (h2 : ∀ i, i ≠ k → su2 i = y.2.2.2.2.1 i) : hY (huDn p g A) (fnU y.1 k g.2.1 g.2.2.1 g.2.2.2.1 g.2.2.2.2.1, sZ2, y.2.2.1, y.2.2.2.1, su2, y.2.2.2.2.2) gg ng sY := by
  obtain ⟨htl, ⟨h9, hb⟩, hsl, hd, ht⟩ := hy
  have hno : ¬ hga (huPs (A.2.1 p) none) := fun q => q.elim (fun q => q hsec) (fun q => q rfl)
  have hs := sl_rm (z := huPs (A.2.1 p) none) hsl hk he hp (Or.inl rfl) hno
  refine ⟨?_, ⟨?_, ?_⟩, ?_, ?_, ht⟩
  · show upd y.1.2.1 9 (y.1.2.1 9 + 1) = cup A.1 9
    rw [htl]; rfl
  · show cup A.1 9 9 = nI (y.1.1 + 1)
    unfold cup
    rw [pk_us, h9, nI_1]
  · show y.1.1 + 1 < 2 ^ 30 + 2
    omega
  · exact sl_irr2 hs pk_us h1 (fun _ _ => rfl) (fun _ _ => rfl) h2 (fun _ _ => rfl)
  · show hdR (va_up A.2.2.2.2.1 (kdI (A.1 9)) (some (huKd g))) (y.1.1 + 1) (dnU y.1.2.2.2 (5 * (y.1.1 % 16)) (y.1.2.2.1 k) g.2.1 g.2.2.1 g.2.2.2.1 g.2.2.2.2.1)
    rw [h9, kdI_nI (by omega), he, ← hg]
    exact hd_dn hd (huKd g)
/-! Data -/
theorem ga_fr (pk : Nat → Int32) (s : Int32) (i : Nat) : ∀ c, gaS pk (31 * s + pk i) (i + 1) c = gaS pk s i (c + 1)
  | 0 => rfl
  | c + 1 => by
    show 31 * gaS pk (31 * s + pk i) (i + 1) c + pk (i + 1 + c) = 31 * gaS pk s i (c + 1) + pk (i + (c + 1))
    rw [ga_fr pk s i c, show i + 1 + c = i + (c + 1) by omega]
theorem add_nI (B : Int32) (c : Nat) : B + 1 + nI c = B + nI (c + 1) := by
  rw [Int32.add_assoc, show (1 : Int32) = nI 1 from rfl, nI_add, Nat.add_comm]
section GA
variable {pk : Nat → Int32} {b : Nat → Nat}
theorem ga_neg (hpk : ∀ j, j < 188 → pk j = nI (b j)) : ∀ (m i : Nat) (B s : Int32), i + m ≤ 188 → huGa b m i (B, s, -1) = (B + nI m, gaS pk s i m, -1)
  | 0, i, B, s, _ => by
    show (B, s, -1) = (B + nI 0, s, -1)
    rw [nI_0, Int32.add_zero]
  | m + 1, i, B, s, h => by
    rw [huGa]
    show (if (-1 : Int32) = 0 then _ else huGa b m (i + 1) (B + 1, 31 * s + nI (b i), if (-1 : Int32) ≤ 0 then -1 else _)) = _
    rw [if_neg (show ¬ (-1 : Int32) = 0 by decide), if_pos (show (-1 : Int32) ≤ 0 by decide), ← hpk i (by omega), ga_neg hpk m (i + 1) _ _ (by omega), ga_fr, add_nI]
theorem ga_pos (hpk : ∀ j, j < 188 → pk j = nI (b j)) : ∀ (c m i : Nat) (B s : Int32) (d : Nat), c ≤ m → c ≤ d → d < 2 ^ 31 → i + m ≤ 188 → huGa b m i (B, s, nI d) = huGa b (m - c) (i + c) (B + nI c, gaS pk s i c, nI (d - c))
  | 0, m, i, B, s, d, _, _, _, _ => by
    rw [nI_0, Int32.add_zero]
    rfl
  | c + 1, m, i, B, s, d, hm, hd, h31, h => by
    obtain ⟨m, rfl⟩ : ∃ m2, m = m2 + 1 := ⟨m - 1, by omega⟩
    obtain ⟨d, rfl⟩ : ∃ d2, d = d2 + 1 := ⟨d - 1, by omega⟩
    have hne : ¬ nI (d + 1) = 0 := nI_ne0 (by omega) h31
    have hnl : ¬ nI (d + 1) ≤ 0 := nI_nle (by omega) h31
    rw [huGa]
    show (if nI (d + 1) = 0 then _ else huGa b m (i + 1) (B + 1, 31 * s + nI (b i), if nI (d + 1) ≤ 0 then nI (d + 1) else nI (d + 1) - 1)) = _
    rw [if_neg hne, if_neg hnl, nI_pred, ← hpk i (by omega), ga_pos hpk c m (i + 1) _ _ d (by omega) (by omega) (by omega) (by omega), ga_fr, add_nI, show m + 1 - (c + 1) = m - c by omega, show i + 1 + c = i + (c + 1) by omega, show d + 1 - (c + 1) = d - c by omega]
theorem ga_end (m i : Nat) (B s : Int32) : huGa b m i (B, s, nI 0) = (B, s, nI 0) := by
  cases m with
  | zero => rfl
  | succ m => rw [huGa]; exact if_pos rfl
end GA
/-- bytes of pieces stay few -/
def hB (N : Nat) (A : HS) : Prop := ∀ p g, p < 8192 → (A.2.1 p).2.2.2.2 = some g → ∃ b, b ≤ N ∧ g.2.2.2.1 = nI b
/-- a packet's data -/
theorem hr_ga {A : HS} {y t : PS7} {gg : PG} {ng N : Nat} {sY pk : Nat → Int32} {b : Nat → Nat} {p k fr : Nat} {g : HP} (hy : hY A y gg ng sY) (hnp : y.1.1 < 2 ^ 30 + 1) (hB9 : hB N A) (hN : N < 2 ^ 30) (hpk : ∀ j, j < 188 → pk j = nI (b j)) (hfr : fr ≤ 188) (hk : k < 24) (he : y.1.2.2.1 k = nI p) (hp : p < 8192) (hsec : (A.2.1 p).2.2.2.1 = []) (hg : (A.2.1 p).2.2.2.2 = some g) (h : gaR pk k fr y t) : hY (huGt b fr p A) t gg ng sY ∧ t.1.1 ≤ y.1.1 + 1 := by
  have hy0 := hy
  obtain ⟨htl, ⟨h9, hb⟩, hsl, hd, ht⟩ := hy
  obtain ⟨c, q, hc, hno, hq, rfl⟩ := h
  obtain ⟨k2, hk2, e1, hgr⟩ := hsl.2.2.2 p g hp hg
  have hkk : k2 = k := hsl.2.1 k2 k hk2 hk (e1.trans he.symm) (by rw [e1]; exact nI_neN (by omega))
  subst hkk
  obtain ⟨g1, g2, g3, g4, g5, g6⟩ := hgr
  obtain ⟨B0, hB0, hBe⟩ := hB9 p g hp hg
  unfold huGt
  rw [hg]
  show hY (if (huGa b (188 - fr) fr g.2.2.2).2.2 = 0 then _ else _) _ gg ng sY ∧ _
  rw [g4, g5] at hq ⊢
  rw [g4] at hno
  rcases g6 with ⟨w1, w2⟩ | ⟨a, b0, w0, w1, w2, w3, w4⟩
  · rw [w1] at hq hno
    rcases hq with ⟨q1, -⟩ | ⟨-, q2, rfl⟩
    · rw [hBe, nI_add] at q1
      exact absurd q1 (nI_neN (by omega))
    · have hc2 : c = 188 - fr := by omega
      have hga : huGa b (188 - fr) fr g.2.2.2 = (g.2.2.2.1 + nI c, gaS pk g.2.2.2.2.1 fr c, -1) := by
        have : g.2.2.2 = (g.2.2.2.1, g.2.2.2.2.1, -1) := by rw [← w2]
        rw [this, ← hc2]
        exact ga_neg hpk c fr _ _ (by omega)
      rw [hga, if_neg (by show ¬ (-1 : Int32) = 0; decide)]
      refine ⟨⟨htl, ⟨h9, hb⟩, ?_, hd, ht⟩, Nat.le_succ _⟩
      have := sl_pc (g := (g.1, g.2.1, g.2.2.1, g.2.2.2.1 + nI c, gaS pk g.2.2.2.2.1 fr c, -1)) (sZ2 := upd y.2.1 k2 (g.2.2.2.1 + nI c)) (su2 := upd y.2.2.2.2.1 k2 (gaS pk g.2.2.2.2.1 fr c)) (kd2 := y.2.2.1) (wa2 := y.2.2.2.1) (ti2 := y.2.2.2.2.2.2.1) hsl hk hp (Or.inr ⟨he, hsec⟩) (fun i hi => pk_un hi) (fun _ _ => rfl) (fun _ _ => rfl) (fun i hi => pk_un hi) (fun _ _ => rfl) ⟨g1, g2, g3, pk_us, pk_us, Or.inl ⟨w1, rfl⟩⟩
      rw [upd_id he] at this
      exact this
  · have hd0 : a - b0 < 2 ^ 31 := by omega
    rw [w3, w2] at hq hno
    have hcd : c ≤ a - b0 := by
      apply Decidable.byContradiction
      intro q2
      have := hno (a - b0) (by omega)
      rw [nI_add] at this
      exact this (by congr 1; omega)
    have hga := ga_pos hpk c (188 - fr) fr g.2.2.2.1 g.2.2.2.2.1 (a - b0) (by omega) hcd hd0 (by omega)
    have hg3 : g.2.2.2 = (g.2.2.2.1, g.2.2.2.2.1, nI (a - b0)) := by rw [← w4]
    rcases hq with ⟨q1, rfl⟩ | ⟨q1, q2, rfl⟩
    · have hca : b0 + c = a := by rw [nI_add] at q1; exact (nI_eq (by omega) (by omega)).mp q1
      have hz : a - b0 - c = 0 := by omega
      have hga2 : huGa b (188 - fr) fr g.2.2.2 = (g.2.2.2.1 + nI c, gaS pk g.2.2.2.2.1 fr c, nI 0) := by
        rw [hg3, hga, hz, ga_end]
      rw [hga2, if_pos (by rfl), w3]
      refine ⟨?_, Nat.le_refl _⟩
      have := hr_dn (g := (g.1, g.2.1, g.2.2.1, nI b0 + nI c, gaS pk g.2.2.2.2.1 fr c, nI 0)) (sZ2 := upd y.2.1 k2 (nI b0 + nI c)) (su2 := upd y.2.2.2.2.1 k2 (gaS pk g.2.2.2.2.1 fr c)) hy0 hnp hk he hp hsec g1 (fun i hi => pk_un hi) (fun i hi => pk_un hi)
      have hkd : fnU y.1 k2 (y.2.2.1 k2) (y.2.2.2.2.2.2.1 k2) (nI b0 + nI c) (gaS pk g.2.2.2.2.1 fr c) = fnU y.1 k2 g.2.1 g.2.2.1 (nI b0 + nI c) (gaS pk g.2.2.2.2.1 fr c) := by rw [g2, g3]
      rw [hkd]
      exact this
    · have hlt : c < a - b0 := by
        have : ¬ b0 + c = a := fun z => q1 (by rw [nI_add, z])
        omega
      have hga2 : huGa b (188 - fr) fr g.2.2.2 = (g.2.2.2.1 + nI c, gaS pk g.2.2.2.2.1 fr c, nI (a - b0 - c)) := by
        rw [hg3, hga, show 188 - fr - c = 0 by omega]
        rfl
      rw [hga2, if_neg (by show ¬ nI (a - b0 - c) = 0; exact nI_ne0 (by omega) (by omega)), w3]
      refine ⟨⟨htl, ⟨h9, hb⟩, ?_, hd, ht⟩, Nat.le_succ _⟩
      have := sl_pc (g := (g.1, g.2.1, g.2.2.1, nI b0 + nI c, gaS pk g.2.2.2.2.1 fr c, nI (a - b0 - c))) (sZ2 := upd y.2.1 k2 (nI b0 + nI c)) (su2 := upd y.2.2.2.2.1 k2 (gaS pk g.2.2.2.2.1 fr c)) (kd2 := y.2.2.1) (wa2 := y.2.2.2.1) (ti2 := y.2.2.2.2.2.2.1) hsl hk hp (Or.inr ⟨he, hsec⟩) (fun i hi => pk_un hi) (fun _ _ => rfl) (fun _ _ => rfl) (fun i hi => pk_un hi) (fun _ _ => rfl) ⟨g1, g2, g3, pk_us, pk_us, Or.inr ⟨a, b0 + c, by omega, w1, w2, nI_add _ _, by show nI (a - b0 - c) = _; congr 1; omega⟩⟩
      rw [upd_id he] at this
      exact this


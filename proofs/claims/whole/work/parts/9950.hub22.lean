/-! Taking: the reference and the hub -/
theorem sh_l (z : OQ) (k j : Nat) : ∀ m i, (shU z k j m).2.2.2 i = if 6 * k + j ≤ i ∧ i < 6 * k + (j + m) then z.2.2.2 (i + 1) else z.2.2.2 i
  | 0, i => by rw [if_neg (by omega)]; rfl
  | m + 1, i => by
    show vp_updL (shU z k j m).2.2.2 (6 * k + (j + m)) ((shU z k j m).2.2.2 (6 * k + (j + m + 1))) i = _
    rw [sh_l z k j m (6 * k + (j + m + 1)), if_neg (by omega)]
    by_cases c : i = 6 * k + (j + m)
    · rw [c, vl_s, if_pos (by omega)]
      rfl
    · rw [vl_n c, sh_l z k j m i]
      by_cases c2 : 6 * k + j ≤ i ∧ i < 6 * k + (j + m)
      · rw [if_pos c2, if_pos (by omega)]
      · rw [if_neg c2, if_neg (by omega)]
/-- the orders' lengths alone -/
def lnW (f : Nat → Int64) (k w : Nat) : List HO := (List.range w).map (fun x => (0, 0, 0, f (6 * k + x)))
theorem lnW_len (f : Nat → Int64) (k w : Nat) : (lnW f k w).length = w := by unfold lnW; rw [List.length_map, List.length_range]
theorem lnW_get {f : Nat → Int64} {k w j : Nat} (h : j < w) : (lnW f k w).getD j oz0 = (0, 0, 0, f (6 * k + j)) := by
  unfold lnW
  rw [List.getD_eq_getElem?_getD, List.getElem?_map, List.getElem?_range h]
  rfl
theorem lnW_er {z : OQ} {k w j : Nat} (hj : j < w) : lnW (shU z k j (w - 1 - j)).2.2.2 k (w - 1) = (lnW z.2.2.2 k w).eraseIdx j := by
  apply List.ext_getElem
  · rw [lnW_len, List.length_eraseIdx, lnW_len, if_pos hj]
  · intro i h1 h2
    rw [ho_getE h1, ho_getE h2]
    rw [lnW_len] at h1
    rw [lnW_get h1, gd_er, sh_l]
    by_cases c : i < j
    · rw [if_neg (by omega), if_pos c, lnW_get (by omega)]
    · rw [if_pos (by omega), if_neg c, lnW_get (by omega)]
      rfl
def mzR (k : Nat) (q : OQ × (Nat → Int32)) : Nat := huMz (lnW q.1.2.2.2 k (q.2 k).toNatClampNeg)
theorem mz_ok (k : Nat) : ∀ (z : OQ) (wt aw : Nat → Int32) (w j : Nat), wt k = nI w → w ≤ 6 → j < w → mzR k (obY z wt aw k w j).1 < mzR k (z, wt) ∧ ∃ w2, w2 ≤ 6 ∧ (obY z wt aw k w j).1.2 k = nI w2 := by
  intro z wt aw w j hw h6 hj
  have e0 : mzR k (z, wt) = huMz (lnW z.2.2.2 k w) := by
    unfold mzR
    show huMz (lnW z.2.2.2 k (wt k).toNatClampNeg) = _
    rw [hw, nI_clamp (by omega)]
  have hm := mz_er (W := lnW z.2.2.2 k w) (j := j) (by rw [lnW_len]; exact hj)
  rw [lnW_get hj] at hm
  have hm : huMz (lnW z.2.2.2 k w) = huMz ((lnW z.2.2.2 k w).eraseIdx j) + (if z.2.2.2 (6 * k + j) = -1 then 1 else 2) := hm
  rw [e0, hm]
  unfold obY
  by_cases c : z.2.2.2 (6 * k + j) = -1
  · rw [if_pos c, if_pos c]
    refine ⟨?_, w - 1, by omega, pk_us⟩
    have e1 : mzR k (shU z k j (w - 1 - j), upd wt k (nI (w - 1))) = huMz ((lnW z.2.2.2 k w).eraseIdx j) := by
      unfold mzR
      show huMz (lnW (shU z k j (w - 1 - j)).2.2.2 k (upd wt k (nI (w - 1)) k).toNatClampNeg) = _
      rw [pk_us, nI_clamp (by omega), lnW_er hj]
    show mzR k (shU z k j (w - 1 - j), upd wt k (nI (w - 1))) < _
    rw [e1]
    omega
  · rw [if_neg c, if_neg c]
    unfold apU
    rw [if_pos (show w - 1 < 6 by omega)]
    refine ⟨?_, w - 1 + 1, by omega, pk_us⟩
    generalize rndV (z.1 (6 * k + j) + z.2.2.2 (6 * k + j)) = tt
    generalize (if z.2.2.1 (6 * k + j) = 0 then (1 : Int32) else 0) = aa
    have e1 : mzR k (osS (shU z k j (w - 1 - j)) (6 * k + (w - 1)) tt (z.2.1 (6 * k + j)) aa (-1), upd (upd wt k (nI (w - 1))) k (nI (w - 1 + 1))) = huMz ((lnW z.2.2.2 k w).eraseIdx j ++ [(0, 0, 0, -1)]) := by
      unfold mzR
      show huMz (lnW (vp_updL (shU z k j (w - 1 - j)).2.2.2 (6 * k + (w - 1)) (-1)) k (upd (upd wt k (nI (w - 1))) k (nI (w - 1 + 1)) k).toNatClampNeg) = _
      rw [pk_us, nI_clamp (by omega), ← lnW_er hj]
      congr 1
      unfold lnW
      rw [List.range_succ, List.map_append]
      congr 1
      · apply List.map_congr_left
        intro x hx
        have hx := List.mem_range.mp hx
        rw [vl_n (by omega)]
      · show [((0 : Int64), (0 : Int32), (0 : Int32), vp_updL _ (6 * k + (w - 1)) (-1) (6 * k + (w - 1)))] = _
        rw [vl_s]
    show mzR k (osS (shU z k j (w - 1 - j)) (6 * k + (w - 1)) tt (z.2.1 (6 * k + j)) aa (-1), upd (upd wt k (nI (w - 1))) k (nI (w - 1 + 1))) < _
    rw [e1, mz_app]
    show _ + (1 + 0) < _
    omega
/-- the places behind the count, whatever comes -/
theorem hr_j3 {A : HS} {y : RK9} {pk : Nat → Int32} (h : hK A y) (hA : hI A) (hp : kI pk < 8192) : ∃ B : HS, hQ B none (kq (kY3 y pk)) (kZ y) ∧ hI B ∧ B.2.2.2.1 = A.2.2.2.1 := by
  obtain ⟨⟨htl, hlv, htb, hsl, hse⟩, -⟩ := h
  by_cases c : ¬ y.2.1 (kI pk) = -1 ∧ ¬ nI (kC pk) = kR (y.2.1 (kI pk)) ∧ kF pk = 0
  · have hG : kG pk y.2.1 ((kq y).sP, cup (kq y).tl 1) = gvU ((kq y).sP, cup (cup (kq y).tl 1) 4) (nI (kI pk)) := by
      unfold kG
      rw [if_pos c]
    have hg := hr_gu (tl := cup (cup (kq y).tl 1) 4) hsl hp (hA _ hp).1
    refine ⟨((kG pk y.2.1 ((kq y).sP, cup (kq y).tl 1)).2, va_up A.2.1 (kI pk) (huGz (A.2.1 (kI pk))), A.2.2), ⟨rfl, hlv, htb, ?_, hse⟩, fun q hq => ?_, rfl⟩
    · show slR _ none (kG pk y.2.1 ((kq y).sP, cup (kq y).tl 1)).1 _ _ _ _ _ _
      rw [hG]
      exact hg.1
    · show hI1 (va_up A.2.1 (kI pk) (huGz (A.2.1 (kI pk))) q) _
      by_cases c2 : q = kI pk
      · rw [c2, va_up_self]
        exact ⟨Or.inl rfl, fun z => absurd rfl z, fun z => absurd rfl z, gln_0⟩
      · rw [va_up_ne _ _ c2]; exact hA q hq
  · have hG : kG pk y.2.1 ((kq y).sP, cup (kq y).tl 1) = ((kq y).sP, cup (kq y).tl 1) := by
      unfold kG
      rw [if_neg c]
    refine ⟨((kG pk y.2.1 ((kq y).sP, cup (kq y).tl 1)).2, A.2), ⟨rfl, hlv, htb, ?_, hse⟩, hA, rfl⟩
    show slR _ none (kG pk y.2.1 ((kq y).sP, cup (kq y).tl 1)).1 _ _ _ _ _ _
    rw [hG]
    exact hsl
theorem kI_lt {pk : Nat → Int32} (h : byF pk 188) : kI pk < 8192 := by
  have h1 := (by_sb h 1 (by omega)).2
  have h2 := (by_sb h 2 (by omega)).2
  unfold kI
  omega
/-- what the reference's packet wants -/
theorem hr_rtU {A : HS} {y : RK9} (h : hK A y) (hA : hI A) (hn : kN y + 2 < 2 ^ 30) : rtU y := by
  have htb := h.1.2.2.1
  refine ⟨tb_ok htb, fun pk hpk h0 h4 => ?_, fun pk hpk h4 => ?_⟩
  · have hp := kI_lt hpk
    obtain ⟨B, hB1, hB2, hB3⟩ := hr_j3 (pk := pk) h hA hp
    have hus := hr_use htb hp
    have hb : ∀ j, (fun j => sbF pk j % 256) j < 256 := fun j => Nat.mod_lt _ (by decide)
    refine ⟨hJ (kI pk), ⟨B, none, kZ y, hB1, hB2, ?_, Or.inl rfl⟩, hJ_ok (b := fun j => sbF pk j % 256) hp (fun j hj => ?_) hb⟩
    · rw [hB3]
      exact ⟨fun q => h0 (by show puV _ _ _ _ _ _ = 0; rw [hus, q]; rfl), fun q => h4 (by show puV _ _ _ _ _ _ = 4; rw [hus, q]; rfl)⟩
    · show pk j = nI (sbF pk j % 256)
      have := by_sb hpk j hj
      rw [Nat.mod_eq_of_lt this.2]
      exact this.1
  · have hp := kI_lt hpk
    obtain ⟨B, hB1, hB2, hB3⟩ := hr_j3 (pk := pk) h hA hp
    have hng := htb.2.1
    have hus := hr_use htb hp
    have hu4 : huUs A.2.2.2.1 (kI pk) = 4 := (nI_eq (b := 4) (by have := huUs_lt A.2.2.2.1 (kI pk); omega) (by decide)).mp (hus.symm.trans h4)
    rcases hr_sk htb hp with ⟨z1, -⟩ | ⟨a, c, ha, hc, z1, z2, -⟩
    · exact absurd z1 (pu_sk (Or.inr h4))
    · have e4 : (4 * a + c) / 4 = a := by omega
      refine ⟨4 * a + c, mzR a, z1, by omega, by rw [e4]; exact ha, hn, ?_, fun _ => ?_, ?_⟩
      · rw [e4]
        exact ⟨_, (htb.2.2 a ha).2.2.2.1, (htb.2.2 a ha).2.2.1⟩
      · obtain ⟨k, hk, h1, -⟩ := hq_free (p := kI pk) hB1 hB2 (by rw [hB3, hu4]; decide) (Or.inl rfl)
        exact ⟨k, hk, h1⟩
      · rw [e4]
        exact mz_ok a
/-- the invariant of taking; M: packets, N: pieces at the start -/
def rtI (M N : Nat) (i : Nat) (y : RK9) : Prop := ∃ A m, hK A y ∧ hM m A ∧ m ≤ M + i ∧ kN y ≤ N + 2 * i
theorem hK_5 {A : HS} {y : RK9} (h : hK A y) : hK (cup A.1 5, A.2) (k5 y) := by
  obtain ⟨⟨htl, hlv, htb, hsl, hse⟩, h9, hd, hall⟩ := h
  refine ⟨⟨?_, hlv, htb, hsl, hse⟩, ?_, hd, hall⟩
  · show cup (kq y).tl 5 = cup A.1 5
    rw [htl]
  · show cup A.1 5 9 = _
    rw [cup_9 (by decide)]; exact h9
theorem rtI_5 {M N i : Nat} {y : RK9} (h : rtI M N i y) : rtI M N (i + 1) (k5 y) := by
  obtain ⟨A, m, h1, h2, h3, h4⟩ := h
  exact ⟨_, m, hK_5 h1, h2, by omega, by show kN y ≤ _; omega⟩
theorem rtI_u {M N i : Nat} {y : RK9} (hN : N + 2 * i + 2 < 2 ^ 30) (h : rtI M N i y) : rtU y := by
  obtain ⟨A, m, h1, h2, h3, h4⟩ := h
  exact hr_rtU h1 h2.1 (by omega)
theorem rtI_p {M N i n : Nat} {y t : RK9} {tp : Nat → Int32} {B : Nat → Nat} (hM9 : 188 * (M + i + 1) < 2 ^ 30) (hN : N + 2 * i + 2 < 2 ^ 30) (hbt : ∀ j, j < n → tp j = nI (B j)) (hb : ∀ j, B j < 256) (hi : i + 188 ≤ n) (h : rtI M N i y) (hk : kpP tp i y t) : rtI M N (i + 188) t := by
  obtain ⟨A, m, h1, h2, h3, h4⟩ := h
  have := hr_pk (b := fun j => B (i + j)) h1 h2 (by omega) (by omega) (fun j hj => hbt (i + j) (by omega)) (fun j => hb (i + j)) hk
  exact ⟨_, m + 1, this.1, this.2.1, by omega, by omega⟩
/-- taking -/
theorem hr_tk {M N n : Nat} {tp : Nat → Int32} {B : Nat → Nat} (hn : n ≤ 9400) (hM9 : 188 * (M + 9401) < 2 ^ 30) (hN : N + 2 * 9400 + 2 < 2 ^ 30) (hbt : ∀ j, j < n → tp j = nI (B j)) (hb : ∀ j, B j < 256) : ∀ {m i : Nat} {y : RK9} {r : Nat × Nat × RK9} {A : HS} {k : Nat}, i ≤ n → hK A y → hM k A → k ≤ M + i → kN y ≤ N + 2 * i → rtL tp n m i y r → (r.1, r.2.1) = ((huTk B n m i A).1, (huTk B n m i A).2.1) ∧ hK (huTk B n m i A).2.2 r.2.2 ∧ (∃ k2, hM k2 (huTk B n m i A).2.2 ∧ k2 ≤ M + r.1) ∧ kN r.2.2 ≤ N + 2 * r.1 ∧ r.1 ≤ n
  | 0, i, y, r, A, k, hi, h1, h2, h3, h4, h => by
    rw [show r = (i, 0, y) from h]
    exact ⟨rfl, h1, ⟨k, h2, h3⟩, h4, hi⟩
  | m + 1, i, y, r, A, k, hi, h1, h2, h3, h4, h => by
    have h71 : ∀ j, j < n → (tp j = 71 ↔ B j = 71) := fun j hj => by
      rw [hbt j hj]
      exact nI_eq (b := 71) (by have := hb j; omega) (by decide)
    rw [huTk]
    rcases h with ⟨hc, rfl⟩ | ⟨hlt, h7, h⟩ | ⟨hle, h7, t, w, hp, h, rfl⟩
    · have hc2 : n ≤ i ∨ (B i = 71 ∧ n < i + 188) := by
        by_cases c : n ≤ i
        · exact Or.inl c
        · exact Or.inr (hc.elim (fun q => absurd q c) (fun q => ⟨(h71 i (by omega)).mp q.1, q.2⟩))
      rw [if_pos hc2]
      exact ⟨rfl, h1, ⟨k, h2, h3⟩, h4, hi⟩
    · have hn7 : ¬ B i = 71 := fun q => h7 ((h71 i hlt).mpr q)
      rw [if_neg (fun q => q.elim (fun q => by omega) (fun q => hn7 q.1)), if_pos hn7]
      exact hr_tk hn hM9 hN hbt hb (by omega) (hK_5 h1) h2 (by omega) (by show kN y ≤ _; omega) h
    · have hy7 : B i = 71 := (h71 i (by omega)).mp h7
      rw [if_neg (fun q => q.elim (fun q => by omega) (fun q => by omega)), if_neg (fun q => q hy7)]
      have hk := hr_pk (b := fun j => B (i + j)) h1 h2 (by omega) (by omega) (fun j hj => hbt (i + j) (by omega)) (fun j => hb (i + j)) hp
      have := hr_tk hn hM9 hN hbt hb (i := i + 188) (by omega) hk.1 hk.2.1 (by omega) (by omega) h
      obtain ⟨q1, q2, q3, q4, q5⟩ := this
      refine ⟨?_, q2, q3, q4, q5⟩
      have e1 := congrArg Prod.fst q1
      have e2 := congrArg Prod.snd q1
      show (w.1, w.2.1 + 1) = _
      rw [show w.1 = _ from e1, show w.2.1 = _ from e2]


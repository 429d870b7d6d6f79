/-! The reference's orders in the hub -/
def hrT (t : Int64) : Prop := ∃ x, x < 2 ^ 33 ∧ t = lN x
def hrO (o : HO) : Prop := hrT o.1 ∧ (o.2.2.1 = 0 ∨ o.2.2.1 = 1) ∧ (o.2.2.2 = -1 ∨ hrT o.2.2.2)
def orG (z : OQ) (i : Nat) : HO := (z.1 i, z.2.1 i, z.2.2.1 i, z.2.2.2 i)
/-- the orders of programme k -/
def hrR (z : OQ) (wt : Nat → Int32) (k : Nat) (W : List HO) : Prop := wt k = nI W.length ∧ W.length ≤ 6 ∧ ∀ j, j < W.length → orG z (6 * k + j) = W.getD j oz0 ∧ hrO (W.getD j oz0)
theorem zb_01 {a : Int32} (h : a = 0 ∨ a = 1) : zb a = a := by
  rcases h with rfl | rfl <;> decide
theorem vl_s {f : Nat → Int64} {k : Nat} {x : Int64} : vp_updL f k x k = x := if_pos rfl
theorem vl_n {f : Nat → Int64} {k j : Nat} {x : Int64} (h : j ≠ k) : vp_updL f k x j = f j := if_neg h
theorem hr_os (z : OQ) (i : Nat) (t : Int64) (n a : Int32) (l : Int64) (j : Nat) : orG (osS z i t n a l) j = if j = i then (t, n, zb a, l) else orG z j := by
  unfold orG osS
  by_cases c : j = i
  · subst c
    rw [if_pos rfl]
    show (vp_updL _ _ _ _, upd _ _ _ _, upd _ _ _ _, vp_updL _ _ _ _) = _
    rw [vl_s, vl_s, pk_us, pk_us]
  · rw [if_neg c]
    show (vp_updL _ _ _ _, upd _ _ _ _, upd _ _ _ _, vp_updL _ _ _ _) = _
    rw [vl_n c, vl_n c, pk_un c, pk_un c]
theorem hr_mv (z : OQ) (i i2 j : Nat) (h : z.2.2.1 i = 0 ∨ z.2.2.1 i = 1) : orG (omv z i i2) j = if j = i2 then orG z i else orG z j := by
  unfold omv
  rw [hr_os, zb_01 h]
  rfl
theorem gd_app {W : List HO} {w : HO} {j : Nat} (h : j < (W ++ [w]).length) : (W ++ [w]).getD j oz0 = if j = W.length then w else W.getD j oz0 := by
  rw [List.length_append, List.length_singleton] at h
  rw [List.getD_eq_getElem?_getD, List.getD_eq_getElem?_getD]
  by_cases c : j = W.length
  · rw [if_pos c, c, List.getElem?_append_right (Nat.le_refl _), Nat.sub_self]
    rfl
  · rw [if_neg c, List.getElem?_append_left (by omega)]
/-- nothing but programme k's orders changes -/
def frO (k : Nat) (z z2 : OQ) (wt wt2 : Nat → Int32) : Prop := (∀ i, i / 6 ≠ k → orG z2 i = orG z i) ∧ ∀ x, x ≠ k → wt2 x = wt x
theorem frO_r (k : Nat) (z : OQ) (wt : Nat → Int32) : frO k z z wt wt := ⟨fun _ _ => rfl, fun _ _ => rfl⟩
theorem frO_t {k : Nat} {z z1 z2 : OQ} {wt wt1 wt2 : Nat → Int32} (h1 : frO k z z1 wt wt1) (h2 : frO k z1 z2 wt1 wt2) : frO k z z2 wt wt2 := ⟨fun i hi => (h2.1 i hi).trans (h1.1 i hi), fun x hx => (h2.2 x hx).trans (h1.2 x hx)⟩
theorem fr_hr {k x : Nat} {z z2 : OQ} {wt wt2 : Nat → Int32} {W : List HO} (h : frO k z z2 wt wt2) (hx : x ≠ k) (hR : hrR z wt x W) : hrR z2 wt2 x W := by
  obtain ⟨h1, h2, h3⟩ := hR
  exact ⟨(h.2 x hx).trans h1, h2, fun j hj => ⟨(h.1 _ (by omega)).trans (h3 j hj).1, (h3 j hj).2⟩⟩
/-- appending -/
theorem hr_ap {z : OQ} {wt : Nat → Int32} {k : Nat} {W : List HO} {t : Int64} {n a : Int32} {l : Int64} (h : hrR z wt k W) (ho : hrO (t, n, a, l)) : hrR (apU z wt k W.length t n a l).1 (apU z wt k W.length t n a l).2 k (if W.length < 6 then W ++ [(t, n, a, l)] else W) ∧ frO k z (apU z wt k W.length t n a l).1 wt (apU z wt k W.length t n a l).2 := by
  obtain ⟨h1, h2, h3⟩ := h
  unfold apU
  by_cases c : W.length < 6
  · rw [if_pos c, if_pos c]
    refine ⟨⟨?_, ?_, fun j hj => ?_⟩, fun i hi => ?_, fun x hx => pk_un hx⟩
    · rw [List.length_append, List.length_singleton]; exact pk_us
    · rw [List.length_append, List.length_singleton]; omega
    · rw [gd_app hj]
      show orG (osS z (6 * k + W.length) t n a l) (6 * k + j) = _ ∧ _
      rw [hr_os]
      by_cases c2 : j = W.length
      · rw [if_pos (by omega), if_pos c2, zb_01 ho.2.1]
        exact ⟨rfl, ho⟩
      · rw [if_neg (by omega), if_neg c2]
        rw [List.length_append, List.length_singleton] at hj
        exact h3 j (by omega)
    · show orG (osS z (6 * k + W.length) t n a l) i = _
      rw [hr_os, if_neg (by omega)]
  · rw [if_neg c, if_neg c]
    exact ⟨⟨h1, h2, h3⟩, frO_r _ _ _⟩
theorem on_cs (on : Nat → Int32) (v : Int32) (k n : Nat) : ∀ m, m ≤ n → (onG on v k n m = n ∧ ∀ i, n - m ≤ i → i < n → ¬ on (6 * k + i) = v) ∨ (onG on v k n m < n ∧ n - m ≤ onG on v k n m ∧ on (6 * k + onG on v k n m) = v ∧ ∀ i, n - m ≤ i → i < onG on v k n m → ¬ on (6 * k + i) = v)
  | 0, _ => Or.inl ⟨rfl, fun i h1 h2 => by omega⟩
  | m + 1, h => by
    rw [onG]
    by_cases c : on (6 * k + (n - (m + 1))) = v
    · rw [if_pos c]
      exact Or.inr ⟨by omega, Nat.le_refl _, c, fun i h1 h2 => by omega⟩
    · rw [if_neg c]
      rcases on_cs on v k n m (by omega) with ⟨h1, h2⟩ | ⟨h1, h2, h3, h4⟩
      · refine Or.inl ⟨h1, fun i h3 h4 => ?_⟩
        by_cases c2 : i = n - (m + 1)
        · rw [c2]; exact c
        · exact h2 i (by omega) h4
      · refine Or.inr ⟨h1, by omega, h3, fun i h5 h6 => ?_⟩
        by_cases c2 : i = n - (m + 1)
        · rw [c2]; exact c
        · exact h4 i (by omega) h6
theorem ho_getE {W : List HO} {j : Nat} (h : j < W.length) : W[j] = W.getD j oz0 := by
  rw [List.getD_eq_getElem?_getD, List.getElem?_eq_getElem h]
  rfl
theorem gd_set {W : List HO} {w : HO} {i j : Nat} (h : j < W.length) : (W.set i w).getD j oz0 = if i = j then w else W.getD j oz0 := by
  rw [List.getD_eq_getElem?_getD, List.getElem?_set, List.getD_eq_getElem?_getD]
  by_cases c : i = j
  · subst c
    rw [if_pos rfl, if_pos h, if_pos rfl]
    rfl
  · rw [if_neg c, if_neg c]
/-- an order waits -/
theorem hr_aw {z : OQ} {wt : Nat → Int32} {k : Nat} {W : List HO} {t : Int64} {n a : Int32} {l : Int64} (h : hrR z wt k W) (ho : hrO (t, n, a, l)) : hrR (awU z wt k W.length t n a l).1 (awU z wt k W.length t n a l).2 k (huKe W (t, n, a, l)) ∧ frO k z (awU z wt k W.length t n a l).1 wt (awU z wt k W.length t n a l).2 := by
  have h' := h
  obtain ⟨h1, h2, h3⟩ := h
  have hn : ∀ j, j < W.length → z.2.1 (6 * k + j) = (W.getD j oz0).2.1 := fun j hj => congrArg (fun o : HO => o.2.1) (h3 j hj).1
  unfold awU huKe
  rcases on_cs z.2.1 n k W.length W.length (Nat.le_refl _) with ⟨e, hno⟩ | ⟨e, -, hat, hno⟩
  · rw [e, if_neg (Nat.lt_irrefl _), fi_none (fun i hi => by rw [ho_getE hi]; refine decide_eq_false (fun q => hno i (by omega) hi ?_); rw [hn i hi]; exact q)]
    exact hr_ap h' ho
  · rw [if_pos e, fi_some (j := onG z.2.1 n k W.length W.length) e (by rw [ho_getE e]; refine decide_eq_true ?_; rw [← hn _ e]; exact hat) (fun i hi => by rw [ho_getE (by omega)]; refine decide_eq_false (fun q => hno i (by omega) hi ?_); rw [hn i (by omega)]; exact q)]
    generalize onG z.2.1 n k W.length W.length = j9 at e
    refine ⟨⟨?_, ?_, fun j hj => ?_⟩, fun i hi => ?_, fun x hx => rfl⟩
    · show wt k = nI (W.set j9 _).length
      rw [List.length_set]; exact h1
    · show (W.set j9 _).length ≤ 6
      rw [List.length_set]; exact h2
    · have hj : j < (W.set j9 (t, n, a, l)).length := hj
      rw [List.length_set] at hj
      show orG (osS z (6 * k + j9) t n a l) (6 * k + j) = (W.set j9 (t, n, a, l)).getD j oz0 ∧ hrO ((W.set j9 (t, n, a, l)).getD j oz0)
      rw [hr_os, gd_set hj]
      by_cases c : j9 = j
      · rw [if_pos (by omega), if_pos c, zb_01 ho.2.1]
        exact ⟨rfl, ho⟩
      · rw [if_neg (by omega), if_neg c]
        exact h3 j hj
    · show orG (osS z (6 * k + j9) t n a l) i = _
      rw [hr_os, if_neg (by omega)]
/-- orders move up -/
theorem hr_sh {z : OQ} {k j : Nat} {w : Nat} (hb : ∀ x, x < w → z.2.2.1 (6 * k + x) = 0 ∨ z.2.2.1 (6 * k + x) = 1) : ∀ m, j + m < w → ∀ i, orG (shU z k j m) i = if 6 * k + j ≤ i ∧ i < 6 * k + (j + m) then orG z (i + 1) else orG z i
  | 0, _, i => by rw [if_neg (by omega)]; rfl
  | m + 1, h, i => by
    have ih := hr_sh hb (j := j) m (by omega)
    have hz : orG (shU z k j m) (6 * k + (j + m + 1)) = orG z (6 * k + (j + m + 1)) := by rw [ih, if_neg (by omega)]
    rw [shU, hr_mv _ _ _ _ (by
      have e : (shU z k j m).2.2.1 (6 * k + (j + m + 1)) = z.2.2.1 (6 * k + (j + m + 1)) := congrArg (fun o : HO => o.2.2.1) hz
      rw [e]; exact hb _ (by omega)), hz, ih]
    by_cases c : i = 6 * k + (j + m)
    · rw [if_pos c, if_pos (by omega), c]
      rfl
    · rw [if_neg c]
      by_cases c2 : 6 * k + j ≤ i ∧ i < 6 * k + (j + m)
      · rw [if_pos c2, if_pos (by omega)]
      · rw [if_neg c2, if_neg (by omega)]
theorem gd_er {W : List HO} {i j : Nat} : (W.eraseIdx i).getD j oz0 = if j < i then W.getD j oz0 else W.getD (j + 1) oz0 := by
  rw [List.getD_eq_getElem?_getD, List.getElem?_eraseIdx, List.getD_eq_getElem?_getD, List.getD_eq_getElem?_getD]
  by_cases c : j < i
  · rw [if_pos c, if_pos c]
  · rw [if_neg c, if_neg c]
theorem hr_er {z : OQ} {wt : Nat → Int32} {k j : Nat} {W : List HO} (h : hrR z wt k W) (hj : j < W.length) : hrR (shU z k j (W.length - 1 - j)) (upd wt k (nI (W.length - 1))) k (W.eraseIdx j) ∧ frO k z (shU z k j (W.length - 1 - j)) wt (upd wt k (nI (W.length - 1))) := by
  obtain ⟨h1, h2, h3⟩ := h
  have hb : ∀ x, x < W.length → z.2.2.1 (6 * k + x) = 0 ∨ z.2.2.1 (6 * k + x) = 1 := fun x hx => by
    have := (h3 x hx).2.2.1
    rw [← (h3 x hx).1] at this
    exact this
  have hs := hr_sh (j := j) hb (W.length - 1 - j) (by omega)
  have hl : (W.eraseIdx j).length = W.length - 1 := by rw [List.length_eraseIdx, if_pos hj]
  refine ⟨⟨by rw [hl]; exact pk_us, by omega, fun x hx => ?_⟩, fun i hi => ?_, fun x hx => pk_un hx⟩
  · rw [hl] at hx
    rw [hs, gd_er]
    by_cases c : x < j
    · rw [if_neg (by omega), if_pos c]
      exact h3 x (by omega)
    · rw [if_pos (by omega), if_neg c]
      exact h3 (x + 1) (by omega)
  · rw [hs, if_neg (by omega)]
/-! Times round the end -/
theorem lN_and33 (x : Nat) (hx : x < 2 ^ 64) : lN x &&& 8589934591 = lN (x % 8589934592) := by
  apply Int64.toBitVec_inj.mp
  apply BitVec.eq_of_toNat_eq
  rw [Int64.toBitVec_and, BitVec.toNat_and]
  have e1 : (lN x).toBitVec.toNat = x := by
    show (BitVec.ofNat 64 x).toNat = x
    rw [BitVec.toNat_ofNat]; omega
  have e2 : (8589934591 : Int64).toBitVec.toNat = 2 ^ 33 - 1 := by decide
  have e3 : (lN (x % 8589934592)).toBitVec.toNat = x % 8589934592 := by
    show (BitVec.ofNat 64 (x % 8589934592)).toNat = _
    rw [BitVec.toNat_ofNat]; omega
  rw [e1, e2, e3, Nat.and_two_pow_sub_one_eq_mod]
theorem rnd_eq {x : Nat} (hx : x < 2 ^ 62) : rndV (lN x) = lN x &&& 8589934591 := by
  unfold rndV
  rw [lN_and33 x (by omega), show (8589934592 : Int64) = lN 8589934592 from rfl, pk_lRem (by omega) (by decide) (by decide)]
theorem hrT_and {x : Nat} (hx : x < 2 ^ 62) : hrT (lN x &&& 8589934591) := by
  rw [lN_and33 x (by omega)]
  exact ⟨_, Nat.mod_lt _ (by decide), rfl⟩
theorem rnd_add {s t : Int64} (hs : hrT s) (ht : hrT t) : rndV (s + t) = (s + t) &&& 8589934591 ∧ hrT ((s + t) &&& 8589934591) := by
  obtain ⟨x, hx, rfl⟩ := hs
  obtain ⟨y, hy, rfl⟩ := ht
  rw [lN_add]
  exact ⟨rnd_eq (by omega), hrT_and (by omega)⟩
theorem lN_dif {x y : Nat} (hx : x < 2 ^ 33) (hy : y < 2 ^ 33) : (lN x - lN y) + 8589934592 = lN (x + 8589934592 - y) := by
  rw [← lN_sub (show y ≤ x + 8589934592 by omega), ← lN_add]
  show lN x - lN y + lN 8589934592 = lN x + lN 8589934592 - lN y
  rw [Int64.sub_eq_add_neg, Int64.sub_eq_add_neg, Int64.add_assoc, Int64.add_comm (-lN y), ← Int64.add_assoc]
theorem due_eq {nw t : Int64} (hn : hrT nw) (ht : hrT t) : dueV nw t = (nw - t) &&& 8589934591 := by
  obtain ⟨x, hx, rfl⟩ := hn
  obtain ⟨y, hy, rfl⟩ := ht
  unfold dueV
  rw [lN_dif hx hy, show (8589934592 : Int64) = lN 8589934592 from rfl, pk_lRem (by omega) (by decide) (by decide)]
  apply Int64.toBitVec_inj.mp
  apply BitVec.eq_of_toNat_eq
  rw [Int64.toBitVec_and, BitVec.toNat_and]
  have e2 : (8589934591 : Int64).toBitVec.toNat = 2 ^ 33 - 1 := by decide
  have e1 : (lN x - lN y).toBitVec.toNat = (2 ^ 64 - y + x) % 2 ^ 64 := by
    rw [Int64.toBitVec_sub, BitVec.toNat_sub]
    show (2 ^ 64 - (BitVec.ofNat 64 y).toNat + (BitVec.ofNat 64 x).toNat) % 2 ^ 64 = _
    rw [BitVec.toNat_ofNat, BitVec.toNat_ofNat, Nat.mod_eq_of_lt (show y < 2 ^ 64 by omega), Nat.mod_eq_of_lt (show x < 2 ^ 64 by omega)]
  rw [e1, e2, Nat.and_two_pow_sub_one_eq_mod]
  show (BitVec.ofNat 64 _).toNat = _
  rw [BitVec.toNat_ofNat]
  omega
theorem hrT_ne {t : Int64} (h : hrT t) : ¬ t = -1 := by
  obtain ⟨x, hx, rfl⟩ := h
  intro q
  have h1 := pk_lT (n := x) (by omega)
  rw [q] at h1
  have h2 : (-1 : Int64).toInt = -1 := by decide
  omega
theorem huDu_eq {nw t : Int64} {n a : Int32} {l : Int64} (hn : hrT nw) (ht : hrT t) : huDu nw (t, n, a, l) = decide (dueV nw t < 4294967296) := by
  rw [due_eq hn ht]
  rfl
/-- one order that is due is obeyed -/
theorem hr_ob {z : OQ} {wt aw : Nat → Int32} {k j : Nat} {W : List HO} (h : hrR z wt k W) (hj : j < W.length) : hrR (obY z wt aw k W.length j).1.1 (obY z wt aw k W.length j).1.2 k (huOb (W.eraseIdx j) (W.getD j oz0)) ∧ frO k z (obY z wt aw k W.length j).1.1 wt (obY z wt aw k W.length j).1.2 ∧ (obY z wt aw k W.length j).2 = upd aw k (W.getD j oz0).2.2.1 := by
  obtain ⟨hE, hF⟩ := hr_er h hj
  have hl : (W.eraseIdx j).length = W.length - 1 := by rw [List.length_eraseIdx, if_pos hj]
  have hat := (h.2.2 j hj).1
  have hob := (h.2.2 j hj).2
  have a1 : z.1 (6 * k + j) = (W.getD j oz0).1 := congrArg (fun o : HO => o.1) hat
  have a2 : z.2.1 (6 * k + j) = (W.getD j oz0).2.1 := congrArg (fun o : HO => o.2.1) hat
  have a3 : z.2.2.1 (6 * k + j) = (W.getD j oz0).2.2.1 := congrArg (fun o : HO => o.2.2.1) hat
  have a4 : z.2.2.2 (6 * k + j) = (W.getD j oz0).2.2.2 := congrArg (fun o : HO => o.2.2.2) hat
  have h2 := h.2.1
  unfold obY huOb
  rw [a1, a2, a3, a4]
  refine ⟨?_, ?_, by rw [zb_01 hob.2.1]⟩
  · by_cases c : (W.getD j oz0).2.2.2 = -1
    · rw [if_pos c, if_pos (Or.inl c)]
      exact hE
    · have ht := hob.2.2.resolve_left c
      have hr := rnd_add hob.1 ht
      have hc9 : ¬ ((W.getD j oz0).2.2.2 = -1 ∨ (W.getD j oz0).1 = -1 ∨ 6 ≤ (W.eraseIdx j).length) := fun q => q.elim c (fun q => q.elim (hrT_ne hob.1) (fun q => by omega))
      rw [if_neg c, if_neg hc9, hr.1]
      have := (hr_ap (t := ((W.getD j oz0).1 + (W.getD j oz0).2.2.2) &&& 8589934591) (n := (W.getD j oz0).2.1) (a := if (W.getD j oz0).2.2.1 = 0 then 1 else 0) (l := -1) hE ⟨hr.2, by split; exact Or.inr rfl; exact Or.inl rfl, Or.inl rfl⟩).1
      rw [hl, if_pos (show W.length - 1 < 6 by omega)] at this
      exact this
  · by_cases c : (W.getD j oz0).2.2.2 = -1
    · rw [if_pos c]
      exact hF
    · have ht := hob.2.2.resolve_left c
      have hr := rnd_add hob.1 ht
      rw [if_neg c, hr.1]
      have := (hr_ap (t := ((W.getD j oz0).1 + (W.getD j oz0).2.2.2) &&& 8589934591) (n := (W.getD j oz0).2.1) (a := if (W.getD j oz0).2.2.1 = 0 then 1 else 0) (l := -1) hE ⟨hr.2, by split; exact Or.inr rfl; exact Or.inl rfl, Or.inl rfl⟩).2
      rw [hl] at this
      exact frO_t hF this
/-- how often orders can still be obeyed -/
def huMz : List HO → Nat
  | [] => 0
  | o :: W => (if o.2.2.2 = -1 then 1 else 2) + huMz W
theorem mz_app (W V : List HO) : huMz (W ++ V) = huMz W + huMz V := by
  induction W with
  | nil => exact (Nat.zero_add _).symm
  | cons o W ih => show _ + huMz (W ++ V) = _ + huMz W + _; rw [ih, Nat.add_assoc]
theorem mz_er {W : List HO} : ∀ {j : Nat}, j < W.length → huMz W = huMz (W.eraseIdx j) + (if (W.getD j oz0).2.2.2 = -1 then 1 else 2) := by
  induction W with
  | nil => intro j h; exact absurd h (Nat.not_lt_zero _)
  | cons o W ih =>
    intro j h
    cases j with
    | zero =>
      show _ + huMz W = huMz W + _
      rw [Nat.add_comm]
      rfl
    | succ j =>
      have := ih (j := j) (by simpa using h)
      show _ + huMz W = _ + huMz (W.eraseIdx j) + _
      rw [this, Nat.add_assoc]
      rfl
theorem mz_ob {W : List HO} {j : Nat} (h : j < W.length) : huMz (huOb (W.eraseIdx j) (W.getD j oz0)) < huMz W := by
  rw [mz_er h]
  unfold huOb
  by_cases c : (W.getD j oz0).2.2.2 = -1
  · rw [if_pos (Or.inl c), if_pos c]
    omega
  · rw [if_neg c]
    split
    · omega
    · rw [mz_app]
      show _ + (1 + 0) < _
      omega
theorem mz_le (W : List HO) : huMz W ≤ 2 * W.length := by
  induction W with
  | nil => exact Nat.le_refl _
  | cons o W ih =>
    show (if o.2.2.2 = -1 then 1 else 2) + huMz W ≤ 2 * (W.length + 1)
    split <;> omega
/-- all that is due is obeyed -/
theorem hr_on {k : Nat} {nw : Nat → Int64} (hn : hrT (nw k)) : ∀ {m : Nat} {s t : OB7} {W : List HO} (aw : Int32), hrR s.1.1 s.1.2 k W → obN k nw m s t → s.2 k = aw → ∀ fu, huMz W ≤ fu → hrR t.1.1 t.1.2 k (huOd fu (nw k) aw W).2 ∧ frO k s.1.1 t.1.1 s.1.2 t.1.2 ∧ t.2 k = (huOd fu (nw k) aw W).1 ∧ ∀ x, x ≠ k → t.2 x = s.2 x
  | 0, s, t, W, aw, hR, h, ha, fu, hf => by
    obtain ⟨⟨w, hw, hw6, hnd⟩, rfl⟩ := h
    have hwl : w = W.length := (nI_eq (by omega) (by have := hR.2.1; omega)).mp (hw.symm.trans hR.1)
    subst hwl
    have hno : W.findIdx? (huDu (nw k)) = none := fi_none (fun i hi => by
      rw [ho_getE hi]
      have h3 := hR.2.2 i hi
      have e : huDu (nw k) (W.getD i oz0) = decide (dueV (nw k) (W.getD i oz0).1 < 4294967296) := huDu_eq (t := (W.getD i oz0).1) hn h3.2.1
      rw [e]
      refine decide_eq_false (fun q => hnd i hi ?_)
      show dueV (nw k) (t.1.1.1 (6 * k + i)) < 4294967296
      rw [show t.1.1.1 (6 * k + i) = (W.getD i oz0).1 from congrArg (fun o : HO => o.1) h3.1]
      exact q)
    have e : huOd fu (nw k) aw W = (aw, W) := by
      cases fu with
      | zero => rfl
      | succ fu => rw [huOd, hno]
    rw [e]
    exact ⟨hR, frO_r _ _ _, ha, fun _ _ => rfl⟩
  | m + 1, s, t, W, aw, hR, h, ha, fu, hf => by
    obtain ⟨w, j, hw, hw6, hj, hnd, hdu, h⟩ := h
    have hwl : w = W.length := (nI_eq (by omega) (by have := hR.2.1; omega)).mp (hw.symm.trans hR.1)
    subst hwl
    obtain ⟨hO, hF, hA⟩ := hr_ob (aw := s.2) hR hj
    have hm := mz_ob hj
    obtain ⟨fu, rfl⟩ : ∃ f2, fu = f2 + 1 := ⟨fu - 1, by omega⟩
    have hdE : ∀ i, i < W.length → (huDu (nw k) (W.getD i oz0) = true ↔ dueR nw k s.1.1 i) := fun i hi => by
      have h3 := hR.2.2 i hi
      have e : huDu (nw k) (W.getD i oz0) = decide (dueV (nw k) (W.getD i oz0).1 < 4294967296) := huDu_eq (t := (W.getD i oz0).1) hn h3.2.1
      rw [e, decide_eq_true_iff]
      show _ ↔ dueV (nw k) (s.1.1.1 (6 * k + i)) < 4294967296
      rw [show s.1.1.1 (6 * k + i) = (W.getD i oz0).1 from congrArg (fun o : HO => o.1) h3.1]
    have hfi : W.findIdx? (huDu (nw k)) = some j := fi_some hj (by rw [ho_getE hj]; exact (hdE j hj).mpr hdu) (fun i hi => by
      rw [ho_getE (by omega)]
      cases c : huDu (nw k) (W.getD i oz0) with
      | false => rfl
      | true => exact absurd ((hdE i (by omega)).mp c) (hnd i hi))
    rw [huOd, hfi]
    have := hr_on hn (W.getD j oz0).2.2.1 hO h (by rw [hA]; exact pk_us) fu (by omega)
    refine ⟨this.1, frO_t hF this.2.1, this.2.2.1, fun x hx => (this.2.2.2 x hx).trans ?_⟩
    rw [hA]
    exact pk_un hx


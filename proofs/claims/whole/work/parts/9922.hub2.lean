/-! The class's orders, lists and plans in the hub -/
abbrev wlM (W : WL9) : List HO := W.map (fun y => y.2)
theorem wl_get {W : WL9} {j : Nat} (h : j < W.length) : (wlM W).getD j oz0 = (W.getD j (0, oz0)).2 := by
  rw [List.getD_eq_getElem?_getD, List.getElem?_map, List.getElem?_eq_getElem h, List.getD_eq_getElem?_getD, List.getElem?_eq_getElem h]
  rfl
theorem wl_getE {W : WL9} {j : Nat} (h : j < (wlM W).length) : (wlM W)[j] = (W.getD j (0, oz0)).2 := by
  have h2 : j < W.length := by simpa using h
  rw [List.getElem_map, List.getD_eq_getElem?_getD, List.getElem?_eq_getElem h2]
  rfl
theorem hu_ke {Wl Wl2 : WL9} {w : Nat × Int64 × Int32 × Int32 × Int64} (h : keP Wl w Wl2) : wlM Wl2 = huKe (wlM Wl) w.2 := by
  unfold huKe
  rcases h with ⟨j, hj, he, hf, rfl⟩ | ⟨hn, rfl⟩
  · rw [fi_some (j := j) (by simpa using hj) (by rw [wl_getE]; exact decide_eq_true he) (fun i hi => by rw [wl_getE]; exact decide_eq_false (hf i hi))]
    show (Wl.set j w).map (fun y => y.2) = _
    rw [List.map_set]
  · rw [fi_none (fun i hi => by rw [wl_getE]; exact decide_eq_false (hn i (by simpa using hi)))]
    show wlM (if Wl.length < 6 then Wl ++ [w] else Wl) = if (wlM Wl).length < 6 then wlM Wl ++ [w.2] else wlM Wl
    rw [List.length_map]
    by_cases c : Wl.length < 6
    · rw [if_pos c, if_pos c]
      show (Wl ++ [w]).map (fun y => y.2) = _
      rw [List.map_append]; rfl
    · rw [if_neg c, if_neg c]
theorem hu_ob {Wl Wl2 : WL9} {o : HO} {w : Option (Nat × Int64 × Int32 × Int32 × Int64)} (h : obP Wl o Wl2 w) : wlM Wl2 = huOb (wlM Wl) o := by
  unfold huOb
  rw [List.length_map]
  rcases h with ⟨c, rfl, -⟩ | ⟨c, q, -, rfl⟩
  · rw [if_pos c]
  · rw [if_neg c]
    show List.map (fun y : Nat × HO => y.2) (Wl ++ [_]) = _
    rw [List.map_append]; rfl
theorem hu_od {nw : Int64} : ∀ {m : Nat} {aw aw2 : Int32} {Wl Wl2 : WL9} {nc : va_W}, odR m nw aw Wl aw2 Wl2 nc → (aw2, wlM Wl2) = huOd m nw aw (wlM Wl)
  | 0, aw, aw2, Wl, Wl2, nc, h => by
    obtain ⟨rfl, rfl, -⟩ := h
    rfl
  | m + 1, aw, aw2, Wl, Wl2, nc, h => by
    rw [huOd]
    rcases h with ⟨hn, rfl, rfl, -⟩ | ⟨j, W1, w, nc1, hj, hd, hf, ho, hr, -⟩
    · rw [fi_none (fun i hi => by rw [wl_getE]; exact decide_eq_false (hn i (by simpa using hi)))]
    · rw [fi_some (j := j) (by simpa using hj) (by rw [wl_getE]; exact decide_eq_true hd) (fun i hi => by rw [wl_getE]; exact decide_eq_false (hf i hi))]
      show _ = huOd m nw ((wlM Wl).getD j oz0).2.2.1 (huOb ((wlM Wl).eraseIdx j) ((wlM Wl).getD j oz0))
      rw [wl_get hj, hu_od hr, hu_ob ho]
      congr 2
      show (Wl.eraseIdx j).map (fun y => y.2) = (Wl.map (fun y => y.2)).eraseIdx j
      rw [List.eraseIdx_eq_take_drop_succ, List.eraseIdx_eq_take_drop_succ, List.map_append, List.map_take, List.map_drop]
theorem pv_set {P : List PR9} {j : Nat} {x : PR9} : (P.set j x).map pv9 = (P.map pv9).set j (pv9 x) := List.map_set ..
theorem hu_mn {P P2 : List PR9} {pid : Nat} {t : Int64} {nc : va_W} (h : mnP P pid t P2 nc) : P2.map pv9 = huMn (P.map pv9) pid t := by
  unfold huMn
  rcases h with ⟨hn, rfl, -⟩ | ⟨j, aw, Wl2, mo2, wst2, hj, hp, hf, ho, rfl⟩
  · rw [hu_owN hn]
  · rw [hu_ow hj hp hf, pv_set]
    show _ = (P.map pv9).set j (huVa ((P.map pv9).getD j pv0) t (huOd 12 t ((P.map pv9).getD j pv0).2.2.2.2.1 ((P.map pv9).getD j pv0).2.2.2.2.2.2.2))
    rw [pv_map hj]
    have := hu_od ho
    show _ = (P.map pv9).set j (huVa (pv9 (P.getD j pr9)) t (huOd 12 t (P.getD j pr9).1.2.2.2.2.2.2.1 (wlM (P.getD j pr9).2.2.1)))
    rw [← this]
    rfl
theorem hu_swT (f : Nat → Int32) (n : Nat) : swT f n ↔ huSwT (rbN f n 1024) := by
  unfold swT huSwT bt9
  rw [hu_bt, hu_bt]
theorem hu_swA (f : Nat → Int32) (n : Nat) : swA f n = huSwA (rbN f n 1024) := by
  unfold swA huSwA
  have e1 : bt9 f n 155 ↔ huT (rbN f n 1024) 155 := hu_bt _ _ _ _
  have e2 := hu_swT f n
  by_cases c : bt9 f n 155
  · rw [if_pos c, if_pos (e1.mp c)]
  · rw [if_neg c, if_neg (mt e1.mpr c)]
    by_cases c2 : swT f n
    · rw [if_pos c2, if_pos (e2.mp c2)]
    · rw [if_neg c2, if_neg (mt e2.mpr c2)]
theorem if_iff {α : Type} {p q : Prop} [Decidable p] [Decidable q] (h : p ↔ q) (a b : α) : (if p then a else b) = if q then a else b := by
  by_cases c : p
  · rw [if_pos c, if_pos (h.mp c)]
  · rw [if_neg c, if_neg (mt h.mpr c)]
theorem hu_swE (f : Nat → Int32) (n : Nat) : swE f n = huSwE (rbN f n 1024) := by
  unfold swE huSwE
  rw [hu_swA, if_iff (hu_bt f n 1024 154)]
theorem hu_swR (f : Nat → Int32) (n : Nat) : swR f n ↔ huSwR (rbN f n 1024) := by
  unfold swR huSwR bt9
  rw [hu_swA, hu_bt, hu_bt]
theorem hu_swL (f : Nat → Int32) (n : Nat) : swL f n = huSwL (rbN f n 1024) := by
  unfold swL huSwL
  rw [if_iff (hu_swR f n), hu_swA, hu_bts (by decide)]
theorem hu_swO (f : Nat → Int32) (n : Nat) (t : Int64) : swO f n t = huSwO (rbN f n 1024) t := by
  unfold swO huSwO
  rw [hu_swL, hu_bti (by decide), if_iff (hu_bt f n 1024 152)]
theorem hu_swM (f : Nat → Int32) (n : Nat) : swM f n = huSwM (rbN f n 1024) := by
  unfold swM huSwM
  rw [hu_bts (by decide), hu_bts (by decide)]
theorem hu_sw {f : Nat → Int32} {n : Nat} {nw : Int64} {aw aw2 : Int32} {Wl Wl2 : WL9} {nc : va_W} (h : swP f n nw aw Wl aw2 Wl2 nc) : (aw2, wlM Wl2) = huSw (rbN f n 1024) n nw aw (wlM Wl) := by
  unfold huSw
  have e1 : bt9 f n 153 ↔ huT (rbN f n 1024) 153 := hu_bt _ _ _ _
  have e2 := hu_swT f n
  rw [← hu_swE, ← hu_swO, ← hu_swO, ← hu_swM]
  rcases h with ⟨hc, rfl, rfl, -⟩ | ⟨h1, h2, h3, oa, hk, rfl, -⟩ | ⟨h1, h2, h3, oa, w, ho, rfl, -⟩
  · rw [if_neg (fun q => hc ⟨e1.mpr q.1, q.2⟩)]
  · rw [if_pos ⟨e1.mp h1, h2⟩, if_pos (e2.mp h3), hu_ke hk]
  · rw [if_pos ⟨e1.mp h1, h2⟩, if_neg (mt e2.mpr h3), hu_ob ho]
theorem hu_at0 {f : Nat → Int32} {n : Nat} {i x : Int32} (k y : Nat) (hi : i = nI k) (hx : x = nI y) (hy : y < 2 ^ 31) : rw_at f n 1024 i = x ↔ rbN f n 1024 k = y := by
  rw [hi, hx]
  exact hu_at hy
theorem hu_io {f : Nat → Int32} {n : Nat} : ioP f n ↔ huIo (rbN f n 1024) n := by
  unfold ioP huIo
  rw [hu_at0 (i := 0) (x := 252) 0 252 rfl rfl (by decide), hu_at0 (i := 3) (x := 0) 3 0 rfl rfl (by decide), hu_at0 (i := 13) (x := 5) 13 5 rfl rfl (by decide), hu_bt]
theorem hu_or {f : Nat → Int32} {n : Nat} {P P2 : List PR9} {pid : Nat} {nc : va_W} (h : uoP f n P pid P2 nc) : P2.map pv9 = huOr (rbN f n 1024) n (P.map pv9) pid := by
  unfold huOr
  rcases h with ⟨hn | hn, rfl, -⟩ | ⟨hi, j, mo2, wst2, aw2, Wl2, hj, hp, hf, hw, rfl⟩
  · by_cases c : huIo (rbN f n 1024) n
    · rw [if_pos c, hu_owN hn]
    · rw [if_neg c]
  · rw [if_neg (mt hu_io.mpr hn)]
  · rw [if_pos (hu_io.mp hi), hu_ow hj hp hf, pv_set]
    show _ = (P.map pv9).set j (huOrV (rbN f n 1024) n ((P.map pv9).getD j pv0))
    rw [pv_map hj]
    unfold huOrV
    have e1 : bt9 f n 144 ↔ huT (rbN f n 1024) 144 := hu_bt _ _ _ _
    rcases hw with ⟨h1, rfl, rfl, -⟩ | ⟨h1, hw⟩
    · rw [if_pos (e1.mp h1), ← hu_bti (by decide)]
      congr 1
      show (_, _, _, _, _, _, _, ((P.getD j pr9).2.2.1.filter (cnP (rw_bits f n 1024 112 32).toInt32)).map (fun y => y.2)) = huVa (pv9 (P.getD j pr9)) _ (_, ((P.getD j pr9).2.2.1.map (fun y => y.2)).filter _)
      rw [List.filter_map]
      rfl
    · rw [if_neg (mt e1.mpr h1)]
      congr 1
      have e := hu_sw hw
      show _ = huVa (pv9 (P.getD j pr9)) _ (huSw (rbN f n 1024) n (P.getD j pr9).1.2.2.2.2.2.2.2.1 (P.getD j pr9).1.2.2.2.2.2.2.1 (wlM (P.getD j pr9).2.2.1))
      rw [← e]
      rfl
theorem vr_dec : ∀ b, b < 256 → ((nI b) >>> ((1 : Int32) &&& 31)) &&& 31 = nI (b / 2 % 32) := by decide +kernel
theorem hu_vr (f : Nat → Int32) (n : Nat) : vrV f n = huVr (rbN f n 1024) := by
  unfold vrV huVr
  rw [show (5 : Int32) = nI 5 from rfl, rb_eq]
  exact vr_dec _ (rb_lt _ _ _ _)
theorem hu_it {f : Nat → Int32} {n : Nat} {x : Int32} (y : Nat) (hx : x = nI y) (hy : y < 2 ^ 31) : itP f n x ↔ huIt (rbN f n 1024) y := by
  unfold itP huIt
  rw [hu_at0 (i := 0) (x := x) 0 y rfl hx hy, hu_bt, hu_bts (by decide)]
  have := huB_lt (rbN f n 1024) 48 16
  rw [show (0 : Int64) = lN 0 from rfl, lN_eq (by omega) (by decide)]
theorem hu_liE (f : Nat → Int32) (n : Nat) (V : List PV9) (i : Nat) : liE f n V i = huLiE (rbN f n 1024) V i := by
  unfold liE huLiE
  simp only [hu_bN]
theorem hu_liL (f : Nat → Int32) (n : Nat) (V : List PV9) : ∀ m i k, liL f n V m i k = huLiL (rbN f n 1024) n V m i k
  | 0, _, _ => rfl
  | m + 1, i, k => by
    rw [liL, huLiL, hu_bN, hu_liE, hu_liL f n V m, hu_liL f n V m]
theorem hu_liC {f : Nat → Int32} {n : Nat} {lv : Int32} : ulC f n lv ↔ huLiC (rbN f n 1024) n lv := by
  unfold ulC huLiC
  rw [hu_it (x := 0) 0 rfl (by decide), hu_vr]
theorem hu_soL (f : Nat → Int32) (n : Nat) : ∀ m i, soL f n m i = huSo (rbN f n 1024) n m i
  | 0, _ => rfl
  | m + 1, i => by
    rw [soL, huSo, hu_bN, hu_bN, hu_soL f n m]
theorem hu_soR (f : Nat → Int32) (n : Nat) : soR f n = huSr (rbN f n 1024) n := by
  unfold soR huSr
  rw [hu_bN, hu_soL]
theorem hu_plJ {f : Nat → Int32} {n : Nat} {P : List PR9} {pid j : Nat} (h : fst9 P (nI (bN f n 1024 24 16)) pid j) : huPlJ (rbN f n 1024) (P.map pv9) pid = some j := by
  obtain ⟨hj, h1, h2⟩ := h
  unfold huPlJ
  rw [hu_bN] at h1 h2
  refine fi_some (by rw [List.length_map]; exact hj) ?_ (fun i hi => ?_)
  · rw [pv_mapE]; exact decide_eq_true h1
  · rw [pv_mapE]; exact decide_eq_false (h2 i hi)
theorem hu_pl {f : Nat → Int32} {n : Nat} {P P2 : List PR9} {pid : Nat} {r : Int32} (h : usP f n P pid r P2) : (r = 0 ∧ P2 = P ∧ huPl (rbN f n 1024) n (P.map pv9) pid = none) ∨ (r = 1 ∧ huPl (rbN f n 1024) n (P.map pv9) pid = some (P2.map pv9)) := by
  unfold huPl
  rcases h with ⟨rfl, rfl, h⟩ | ⟨rfl, hi, j, sa, hf, hv, hs, rfl⟩
  · refine Or.inl ⟨rfl, rfl, ?_⟩
    by_cases c : huIt (rbN f n 1024) 2
    · rw [if_pos c]
      rcases h with h | h | ⟨j, hf, h⟩
      · exact absurd ((hu_it 2 rfl (by decide)).mpr c) h
      · have : huPlJ (rbN f n 1024) (P2.map pv9) pid = none := by
          unfold huPlJ
          refine fi_none (fun i hi => ?_)
          have h3 := h i (by simpa using hi)
          rw [hu_bN] at h3
          rw [pv_mapE]; exact decide_eq_false h3
        rw [this]
      · rw [hu_plJ hf]
        show (if ¬ ((P2.map pv9).getD j pv0).2.2.1 = huVr (rbN f n 1024) ∧ (huSr (rbN f n 1024) n).2 = n then _ else none) = none
        rw [pv_map hf.1, ← hu_vr, ← hu_soR]
        exact if_neg (fun q => h.elim q.1 (fun q2 => q2 q.2))
    · rw [if_neg c]
  · refine Or.inr ⟨rfl, ?_⟩
    rw [if_pos ((hu_it 2 rfl (by decide)).mp hi), hu_plJ hf]
    show (if ¬ ((P.map pv9).getD j pv0).2.2.1 = huVr (rbN f n 1024) ∧ (huSr (rbN f n 1024) n).2 = n then _ else none) = _
    rw [pv_map hf.1, ← hu_vr, ← hu_soR, if_pos ⟨hv, hs⟩, pv_set]
    unfold huPlV
    rw [← hu_vr, ← hu_soR, ← hu_bN]
    rfl
theorem hu_tb {f : Nat → Int32} {n pid : Nat} {lv : Int32} {pr : Nat} {pmo : Int32} {pst : Option (Nat × (Nat → Option Nat))} {P : List PR9} {fr : Int32} {t : LU9} (h : esT f n pid lv pr pmo pst P fr t) : (t.1, t.2.2.2.2.1.map pv9, decide (¬ fr = 0)) = huTb (rbN f n 1024) n pid lv (P.map pv9) := by
  unfold huTb
  rcases h with ⟨hu, h⟩ | ⟨hu, h, e⟩ | ⟨hu, rfl, h, e⟩ | ⟨hu, rfl, rfl⟩
  · have := hu_useN (by decide) hu
    rw [if_pos this]
    rcases h with ⟨rfl, hc, rfl⟩ | ⟨rfl, hc, h1, h2⟩
    · rw [if_neg (mt hu_liC.mpr hc)]; rfl
    · rw [if_pos (hu_liC.mp hc), h1, h2, hu_vr, hu_liL]; rfl
  · have := hu_useN (by decide) hu
    rw [this, if_neg (by decide), if_pos rfl, show t.1 = lv from congrArg Prod.fst e]
    rcases hu_pl h with ⟨rfl, e2, e3⟩ | ⟨rfl, e3⟩
    · rw [e3, e2]; rfl
    · rw [e3]; rfl
  · have := hu_useN (by decide) hu
    rw [this, if_neg (by decide), if_neg (by decide), if_pos rfl, show t.1 = lv from congrArg Prod.fst e, hu_or h]; rfl
  · rcases hu with hu | hu
    · have := hu_useN (by decide) hu
      rw [this, if_neg (by decide), if_neg (by decide), if_neg (by decide)]; rfl
    · have := hu_useN (by decide) hu
      rw [this, if_neg (by decide), if_neg (by decide), if_neg (by decide)]; rfl


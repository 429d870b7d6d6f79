/-! The reference's plans in the hub -/
theorem plT_at (se : Nat → Int32) (sb : Nat → Nat) (k : Nat) (f : Nat → Int32) : ∀ m i, plT se sb k f m i = if 4 * k ≤ i ∧ i < 4 * k + m then se (plA sb (i - 4 * k)) else f i
  | 0, i => by rw [if_neg (by omega)]; rfl
  | m + 1, i => by
    rw [plT]
    by_cases c : i = 4 * k + m
    · rw [c, pk_us, if_pos (by omega), show 4 * k + m - 4 * k = m by omega]
    · rw [pk_un c, plT_at se sb k f m i]
      by_cases c2 : 4 * k ≤ i ∧ i < 4 * k + m
      · rw [if_pos c2, if_pos (by omega)]
      · rw [if_neg c2, if_neg (by omega)]
theorem plS_at (se : Nat → Int32) (sb : Nat → Nat) (k : Nat) (f : Nat → Int32) : ∀ m i, plS se sb k f m i = if 4 * k ≤ i ∧ i < 4 * k + m then piW se (plA sb (i - 4 * k)) else f i
  | 0, i => by rw [if_neg (by omega)]; rfl
  | m + 1, i => by
    rw [plS]
    by_cases c : i = 4 * k + m
    · rw [c, pk_us, if_pos (by omega), show 4 * k + m - 4 * k = m by omega]
    · rw [pk_un c, plS_at se sb k f m i]
      by_cases c2 : 4 * k ≤ i ∧ i < 4 * k + m
      · rw [if_pos c2, if_pos (by omega)]
      · rw [if_neg c2, if_neg (by omega)]
section RP
variable {se : Nat → Int32} {S : Nat → Nat} {n : Nat}
theorem sb_S (hS : ∀ i, i < n → se i = nI (S i)) (hb : ∀ i, S i < 256) {i : Nat} (h : i < n) : sbF se i = S i := by
  unfold sbF
  rw [hS i h, nI_clamp (by have := hb i; omega)]
theorem pl_nx (hS : ∀ i, i < n → se i = nI (S i)) (hb : ∀ i, S i < 256) {a : Nat} (h : a + 5 ≤ n) : plN (sbF se) a = a + (5 + huB S (8 * a + 28) 12) := by
  unfold plN
  rw [sb_S hS hb (show a + 3 < n by omega), sb_S hS hb (show a + 4 < n by omega), show 8 * a + 28 = 8 * (a + 3) + 4 by omega, huB_12 hb]
  show _ = a + (5 + (S (a + 3) % 16 * 256 + S (a + 4)))
  omega
theorem hr_so (hS : ∀ i, i < n → se i = nI (S i)) (hb : ∀ i, S i < 256) : ∀ m x, ∃ t, t ≤ m ∧ (huSo S n m (plA (sbF se) x)).2 = plA (sbF se) (x + t) ∧ (huSo S n m (plA (sbF se) x)).1.length = t ∧ (∀ y, y < t → plA (sbF se) (x + y) + 5 ≤ n ∧ (huSo S n m (plA (sbF se) x)).1.getD y (0, 0) = (nI (S (plA (sbF se) (x + y))), huB S (8 * plA (sbF se) (x + y) + 11) 13)) ∧ (t < m → n < plA (sbF se) (x + t) + 5)
  | 0, x => ⟨0, Nat.le_refl _, rfl, rfl, fun y hy => absurd hy (Nat.not_lt_zero _), fun h => absurd h (Nat.not_lt_zero _)⟩
  | m + 1, x => by
    rw [huSo]
    by_cases c : n < plA (sbF se) x + 5
    · rw [if_pos c]
      exact ⟨0, Nat.zero_le _, rfl, rfl, fun y hy => absurd hy (Nat.not_lt_zero _), fun _ => c⟩
    · rw [if_neg c, ← pl_nx hS hb (by omega)]
      obtain ⟨t, h1, h2, h3, h4, h5⟩ := hr_so hS hb m (x + 1)
      have e : plA (sbF se) (x + 1) = plN (sbF se) (plA (sbF se) x) := rfl
      rw [e] at h2 h3 h4
      refine ⟨t + 1, by omega, ?_, ?_, fun y hy => ?_, fun ht => ?_⟩
      · rw [show x + (t + 1) = x + 1 + t by omega]; exact h2
      · show (huSo S n m (plN (sbF se) (plA (sbF se) x))).1.length + 1 = _; rw [h3]
      · cases y with
        | zero => exact ⟨by show plA (sbF se) x + 5 ≤ n; omega, rfl⟩
        | succ y =>
          have := h4 y (by omega)
          rw [show x + (y + 1) = x + 1 + y by omega]
          exact this
      · rw [show x + (t + 1) = x + 1 + t by omega]; exact h5 (by omega)
theorem hr_sr (hS : ∀ i, i < n → se i = nI (S i)) (hb : ∀ i, S i < 256) (h12 : 12 ≤ n) : ∃ t, t ≤ 4 ∧ (huSr S n).2 = plA (sbF se) t ∧ (huSr S n).1.length = t ∧ (∀ y, y < t → plA (sbF se) y + 5 ≤ n ∧ (huSr S n).1.getD y (0, 0) = (nI (S (plA (sbF se) y)), huB S (8 * plA (sbF se) y + 11) 13)) ∧ (t < 4 → n < plA (sbF se) t + 5) := by
  unfold huSr
  have e : 12 + huB S 84 12 = plA (sbF se) 0 := by
    show _ = 12 + (sbF se 10 % 16 * 256 + sbF se 11)
    rw [sb_S hS hb (show 10 < n by omega), sb_S hS hb (show 11 < n by omega), show 84 = 8 * 10 + 4 from rfl, huB_12 hb]
  rw [e]
  obtain ⟨t, h1, h2, h3, h4, h5⟩ := hr_so hS hb 4 0
  refine ⟨t, h1, ?_, h3, fun y hy => ?_, fun ht => ?_⟩
  · rw [Nat.zero_add] at h2; exact h2
  · have := h4 y hy
    rw [Nat.zero_add] at this; exact this
  · have := h5 ht
    rw [Nat.zero_add] at this; exact this
theorem wh_it (hS : ∀ i, i < n → se i = nI (S i)) (hb : ∀ i, S i < 256) (h8 : 8 ≤ n) (x : Nat) (y : Int32) (hy : y = nI x) (hx : x < 2 ^ 31) : (whH se ∧ se 0 = y) ↔ huIt S x := by
  unfold whH huIt
  have h1 : se 5 &&& 1 = 1 ↔ huT S 47 := by
    rw [hS 5 (by omega)]
    have : ∀ b, b < 256 → (nI b &&& 1 = 1 ↔ b / 1 % 2 = 1) := by decide +kernel
    exact this _ (hb _)
  rw [h1, se_nI (y := 0) hS hb (show 6 < n by omega) 0 rfl (by decide), se_nI (y := 0) hS hb (show 7 < n by omega) 0 rfl (by decide), se_nI hS hb (show 0 < n by omega) x hy hx]
  have h2 : huB S 48 16 = S 6 * 256 + S 7 := huB_16 hb 6
  rw [h2]
  constructor
  · rintro ⟨⟨a, b, c⟩, d⟩
    exact ⟨d, a, by omega⟩
  · rintro ⟨d, a, b⟩
    exact ⟨⟨a, by omega, by omega⟩, d⟩
variable {g : PG} {ng : Nat} {V : List PV9} {pid : Nat}
theorem hr_plJ (h : tbR g ng V) (hp : pid < 8192) (hS : ∀ i, i < n → se i = nI (S i)) (hb : ∀ i, S i < 256) (h8 : 8 ≤ n) {k : Nat} (hk : k < ng) : (g.nu k = nuV se 3 ∧ g.pi k = nI pid) ↔ ((V.getD k pv0).1 = nI (huB S 24 16) ∧ (V.getD k pv0).2.1 = pid) := by
  have hh := (h.2.2 k hk).1
  rw [hh.1, hh.2.1, nu_hu hS hb (show 3 + 1 < n by omega), nI_eq (by have := hh.2.2.1; omega) (by omega)]
theorem hr_pl1 (h : tbR g ng V) (hp : pid < 8192) (hS : ∀ i, i < n → se i = nI (S i)) (hb : ∀ i, S i < 256) (h8 : 8 ≤ n) (hi : huIt S 2) {k9 n9 : Nat} (hc : plC g ng se (sbF se) n (nI pid) k9 n9) : k9 < ng ∧ huPl S n V pid = some (V.set k9 (huPlV S n (V.getD k9 pv0))) ∧ tbR (plX g se (sbF se) k9 n9 n9) ng (V.set k9 (huPlV S n (V.getD k9 pv0))) := by
  obtain ⟨⟨hk, hm, hf⟩, hv, h12, hA, hn4, hx⟩ := hc
  have hl := h.1
  obtain ⟨t, t1, t2, t3, t4, t5⟩ := hr_sr hS hb h12
  have ht : t = n9 := by
    rcases Nat.lt_trichotomy t n9 with q | q | q
    · have a1 := t5 (by omega)
      have a2 := hx t q
      omega
    · exact q
    · have a1 := (t4 n9 q).1
      omega
  subst ht
  have hvs := vs_hu hS hb (show 5 < n by omega)
  obtain ⟨⟨p1, p2, p3, p4, p5, p6, p7, p8, p9, p10⟩, ⟨s1, s2, s3⟩, hr⟩ := h.2.2 k9 hk
  refine ⟨hk, ?_, by rw [List.length_set]; exact hl, h.2.1, fun k hk2 => ?_⟩
  · unfold huPl
    rw [if_pos hi]
    have : huPlJ S V pid = some k9 := by
      unfold huPlJ
      refine fi_some (by omega) ?_ (fun i hi2 => ?_)
      · rw [pv_getE (by omega)]
        exact decide_eq_true ((hr_plJ h hp hS hb h8 hk).mp hm)
      · rw [pv_getE (by omega)]
        exact decide_eq_false (fun q => hf i hi2 ((hr_plJ h hp hS hb h8 (by omega)).mpr q))
    rw [this]
    show (if ¬ (V.getD k9 pv0).2.2.1 = huVr S ∧ (huSr S n).2 = n then _ else none) = _
    rw [if_pos ⟨fun q => hv (by rw [p4, hvs]; exact q), by rw [t2]; exact hA⟩]
  · rw [List.getD_eq_getElem?_getD, List.getElem?_set]
    by_cases c : k9 = k
    · subst c
      rw [if_pos rfl, if_pos (by omega)]
      show prR _ k9 (huPlV S n (V.getD k9 pv0))
      have hvr : ¬ huVr S = -1 := by
        unfold huVr
        exact nI_neN (by omega)
      refine ⟨⟨p1, p2, p3, pk_us.trans hvs, fun _ => ?_, fun q => absurd q hvr, p7, p8, p9, p10⟩, ⟨?_, ?_, fun j hj => ?_⟩, hr⟩
      · show upd g.cp k9 (piV se 6) k9 = _
        rw [pk_us, pi_hu hS hb (show 6 + 3 < n by omega)]
        rfl
      · show upd g.sc k9 (nI t) k9 = nI (huSr S n).1.length
        rw [pk_us, t3]
      · show (huSr S n).1.length ≤ 4
        rw [t3]; exact hn4
      · have hj : j < (huSr S n).1.length := hj
        rw [t3] at hj
        have h9 := t4 j hj
        show plT se (sbF se) k9 g.ty t (4 * k9 + j) = ((huSr S n).1.getD j (0, 0)).1 ∧ plS se (sbF se) k9 g.sp t (4 * k9 + j) = nI ((huSr S n).1.getD j (0, 0)).2 ∧ ((huSr S n).1.getD j (0, 0)).2 < 8192
        rw [plT_at, plS_at, if_pos (by omega), if_pos (by omega), show 4 * k9 + j - 4 * k9 = j by omega, h9.2, hS _ (show plA (sbF se) j < n by omega), piW_hu hS hb (show plA (sbF se) j + 2 < n by omega)]
        exact ⟨rfl, rfl, huB_lt _ _ _⟩
    · rw [if_neg c]
      show prR _ k (V[k]?.getD pv0)
      rw [← List.getD_eq_getElem?_getD]
      obtain ⟨⟨p1, p2, p3, p4, p5, p6, p7, p8, p9, p10⟩, ⟨s1, s2, s3⟩, hr⟩ := h.2.2 k hk2
      have c2 : k ≠ k9 := fun q => c q.symm
      refine ⟨⟨p1, p2, p3, (pk_un c2).trans p4, fun q => (pk_un c2).trans (p5 q), p6, p7, p8, p9, p10⟩, ⟨(pk_un c2).trans s1, s2, fun j hj => ⟨?_, ?_, (s3 j hj).2.2⟩⟩, hr⟩
      · show plT se (sbF se) k9 g.ty t (4 * k + j) = _
        rw [plT_at, if_neg (by omega)]; exact (s3 j hj).1
      · show plS se (sbF se) k9 g.sp t (4 * k + j) = _
        rw [plS_at, if_neg (by omega)]; exact (s3 j hj).2.1
theorem hr_pl0 (h : tbR g ng V) (hp : pid < 8192) (hS : ∀ i, i < n → se i = nI (S i)) (hb : ∀ i, S i < 256) (h8 : 8 ≤ n) (hc : ¬ ∃ k9 n9, plC g ng se (sbF se) n (nI pid) k9 n9) : huPl S n V pid = none := by
  have hl := h.1
  unfold huPl
  by_cases hi : huIt S 2
  · rw [if_pos hi]
    cases hj : huPlJ S V pid with
    | none => rfl
    | some k =>
      show (if ¬ (V.getD k pv0).2.2.1 = huVr S ∧ (huSr S n).2 = n then _ else none) = none
      rw [if_neg (fun q => ?_)]
      unfold huPlJ at hj
      rw [List.findIdx?_eq_some_iff_getElem] at hj
      obtain ⟨hk, h1, h2⟩ := hj
      rw [pv_getE hk] at h1
      have h1 := of_decide_eq_true h1
      have hk2 : k < ng := by omega
      have h12 : 12 ≤ n := by
        apply Decidable.byContradiction
        intro q2
        have := q.2
        unfold huSr at this
        rw [huSo, if_pos (by omega)] at this
        have : 12 + huB S 84 12 = n := this
        omega
      obtain ⟨t, t1, t2, t3, t4, t5⟩ := hr_sr hS hb h12
      refine hc ⟨k, t, ⟨hk2, (hr_plJ h hp hS hb h8 hk2).mpr h1, fun x hx q3 => ?_⟩, fun q3 => q.1 ?_, h12, by rw [← t2]; exact q.2, t1, fun x hx => (t4 x hx).1⟩
      · have := h2 x hx
        rw [pv_getE (by omega)] at this
        exact this (decide_eq_true ((hr_plJ h hp hS hb h8 (by omega)).mp q3))
      · rw [← (h.2.2 k hk2).1.2.2.2.1, q3, vs_hu hS hb (show 5 < n by omega)]
  · rw [if_neg hi]
end RP


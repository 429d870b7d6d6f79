/-! The reference's sections in the hub: a whole section -/
abbrev ZT : Type := (Nat → Int32) × (Nat → Int32) × (Nat → Int32) × (Nat → Int64)
def gln (X : List Nat) : Prop := (∀ y ∈ X, y < 256) ∧ glq X
theorem gln_0 : gln [] := ⟨fun y h => absurd h List.not_mem_nil, Or.inl (by show 0 < 3; omega)⟩
theorem gln_le {X : List Nat} (h : gln X) : X.length < 1024 := by
  rcases h.2 with q | ⟨q1, q2⟩ <;> omega
/-- what holds of the hub's state: a PID gathers what it is for -/
def hI1 (z : HL) (u : Nat) : Prop := (z.2.2.2.1 = [] ∨ z.2.2.2.2 = none) ∧ (¬ z.2.2.2.1 = [] → ¬ u = 0 ∧ ¬ u = 4) ∧ (¬ z.2.2.2.2 = none → u = 4) ∧ gln z.2.2.2.1
def hI (A : HS) : Prop := ∀ q, q < 8192 → hI1 (A.2.1 q) (huUs A.2.2.2.1 q)
/-- for sections -/
abbrev usS (V : List PV9) (p : Nat) : Prop := ¬ huUs V p = 0 ∧ ¬ huUs V p = 4
theorem tb_us (S : Nat → Nat) (n p : Nat) (lv : Int32) (V : List PV9) : ((huTb S n p lv V).2.2 = false → ∀ q, huUs (huTb S n p lv V).2.1 q = huUs V q) ∧ (usS V p → usS (huTb S n p lv V).2.1 p) := by
  unfold huTb
  by_cases c1 : huUs V p = 1
  · rw [if_pos c1]
    have hp := us_1.mp c1
    by_cases c2 : huLiC S n lv
    · rw [if_pos c2]
      refine ⟨fun h => (by cases h), fun _ => ?_⟩
      have : huUs (huLiL S n V 255 8 0) p = 1 := us_1.mpr hp
      exact ⟨by show ¬ huUs (huLiL S n V 255 8 0) p = 0; omega, by show ¬ huUs (huLiL S n V 255 8 0) p = 4; omega⟩
    · rw [if_neg c2]
      exact ⟨fun _ _ => rfl, id⟩
  · rw [if_neg c1]
    by_cases c2 : huUs V p = 2
    · rw [if_pos c2]
      cases hc : huPl S n V p with
      | none => exact ⟨fun _ _ => rfl, id⟩
      | some W =>
        refine ⟨fun h => (by cases h), fun _ => ?_⟩
        have := us_pl hc c2
        exact ⟨by show ¬ huUs W p = 0; omega, by show ¬ huUs W p = 4; omega⟩
    · rw [if_neg c2]
      by_cases c3 : huUs V p = 3
      · rw [if_pos c3]
        refine ⟨fun _ q => us_or S n V p q, fun h => ?_⟩
        show ¬ huUs (huOr S n V p) p = 0 ∧ ¬ huUs (huOr S n V p) p = 4
        rw [us_or]; exact h
      · rw [if_neg c3]
        exact ⟨fun _ _ => rfl, id⟩
theorem hI_p0 {A : HS} (h : hI A) {p : Nat} (hp : p < 8192) (hu : usS A.2.2.2.1 p) : (A.2.1 p).2.2.2.2 = none := by
  apply Classical.byContradiction
  intro q
  exact hu.2 ((h p hp).2.2.1 q)
theorem hI_up {A : HS} {p : Nat} {X : List Nat} {tl : Nat → Int32} {lv : Int32} {V : List PV9} {D : (Nat → Option HD) × (Nat → Bool)} (h : hI A) (hp : p < 8192) (hu : usS A.2.2.2.1 p) (hX : gln X) (hV : ∀ q, huUs V q = huUs A.2.2.2.1 q) : hI (tl, va_up A.2.1 p (huSc (A.2.1 p) X), lv, V, D) := by
  intro q hq
  show hI1 (va_up A.2.1 p (huSc (A.2.1 p) X) q) (huUs V q)
  rw [hV q]
  by_cases c : q = p
  · subst c
    rw [va_up_self]
    have h0 : (huSc (A.2.1 q) X).2.2.2.2 = none := hI_p0 h hp hu
    exact ⟨Or.inr h0, fun _ => hu, fun q => absurd h0 q, hX⟩
  · rw [va_up_ne _ _ c]
    exact h q hq
theorem hI_gz {p : Nat} {z : HL} {L : Nat → HL} {tl : Nat → Int32} {lv : Int32} {V : List PV9} {D : (Nat → Option HD) × (Nat → Bool)} (hz : ¬ hga z) : hI (tl, (fun q => if q = p then z else huGz (L q)), lv, V, D) := by
  intro q hq
  show hI1 (if q = p then z else huGz (L q)) (huUs V q)
  have hg : ¬ hga (if q = p then z else huGz (L q)) := by
    by_cases c : q = p
    · rw [if_pos c]; exact hz
    · rw [if_neg c]; exact hga_gz _
  generalize (if q = p then z else huGz (L q)) = y at hg
  have h1 : y.2.2.2.1 = [] := Classical.not_not.mp (fun q => hg (Or.inl q))
  have h2 : y.2.2.2.2 = none := Classical.not_not.mp (fun q => hg (Or.inr q))
  exact ⟨Or.inl h1, fun q => absurd h1 q, fun q => absurd h2 q, by rw [h1]; exact gln_0⟩
theorem sc_no {A : HS} (h : hI A) {p : Nat} (hp : p < 8192) (hu : usS A.2.2.2.1 p) : ¬ hga (huSc (A.2.1 p) []) := fun q => q.elim (fun q => q rfl) (fun q => q (hI_p0 h hp hu))
theorem hI_es {X : List Nat} {A : HS} {p : Nat} (h : hI A) (hp : p < 8192) (hu : usS A.2.2.2.1 p) : hI (huEs X p A) ∧ usS (huEs X p A).2.2.2.1 p := by
  unfold huEs
  by_cases c : 12 ≤ X.length ∧ ckl (X.map nI) = 0
  · rw [if_pos c]
    have ht := tb_us (huSx (X.take (X.length - 4))) (X.length - 4) p A.2.2.1 A.2.2.2.1
    generalize huTb (huSx (X.take (X.length - 4))) (X.length - 4) p A.2.2.1 A.2.2.2.1 = t at ht
    by_cases c2 : t.2.2 = true
    · rw [if_pos c2]
      exact ⟨hI_gz (sc_no h hp hu), ht.2 hu⟩
    · rw [if_neg c2]
      have c3 : t.2.2 = false := by cases hc : t.2.2 with | false => rfl | true => exact absurd hc c2
      exact ⟨hI_up h hp hu gln_0 (ht.1 c3), ht.2 hu⟩
  · rw [if_neg c]
    exact ⟨hI_up h hp hu gln_0 (fun _ => rfl), hu⟩
theorem huSx_lt {X : List Nat} (h : ∀ y ∈ X, y < 256) (i : Nat) : huSx X i < 256 := gd_lt h _
theorem tb_set {g g2 : PG} {ng k : Nat} {V : List PV9} {w : PV9} (h : tbR g ng V) (hk : k < ng) (h1 : prR g2 k w) (h2 : ∀ x, x ≠ k → ∀ v, prR g x v → prR g2 x v) : tbR g2 ng (V.set k w) := by
  refine ⟨by rw [List.length_set]; exact h.1, h.2.1, fun j hj => ?_⟩
  rw [List.getD_eq_getElem?_getD, List.getElem?_set]
  by_cases c : k = j
  · subst c
    rw [if_pos rfl, if_pos (by rw [h.1]; exact hk)]
    exact h1
  · rw [if_neg c]
    show prR g2 j (V[j]?.getD pv0)
    rw [← List.getD_eq_getElem?_getD]
    exact h2 j (fun q => c q.symm) _ (h.2.2 j hj)
theorem es_f {X : List Nat} {p : Nat} {A : HS} {lv : Int32} {V : List PV9} (h : 12 ≤ X.length ∧ ckl (X.map nI) = 0) (hT : huTb (huSx (X.take (X.length - 4))) (X.length - 4) p A.2.2.1 A.2.2.2.1 = (lv, V, false)) : huEs X p A = (cup A.1 6, va_up A.2.1 p (huSc (A.2.1 p) []), lv, V, A.2.2.2.2) := by
  unfold huEs
  rw [if_pos h, hT]
  exact if_neg Bool.false_ne_true
theorem es_t {X : List Nat} {p : Nat} {A : HS} {lv : Int32} {V : List PV9} (h : 12 ≤ X.length ∧ ckl (X.map nI) = 0) (hT : huTb (huSx (X.take (X.length - 4))) (X.length - 4) p A.2.2.1 A.2.2.2.1 = (lv, V, true)) : huEs X p A = (addc (cup A.1 6) (huNn A.2.1 p 8192), (fun q => if q = p then huSc (A.2.1 p) [] else huGz (A.2.1 q)), lv, V, A.2.2.2.2) := by
  unfold huEs
  rw [if_pos h, hT]
  exact if_pos rfl
section TE
variable {S : Nat → Nat} {n p : Nat} {lv : Int32} {V : List PV9}
theorem te_1t (h : huUs V p = 1) (hc : huLiC S n lv) : huTb S n p lv V = (huVr S, huLiL S n V 255 8 0, true) := by
  unfold huTb
  rw [if_pos h, if_pos hc]
theorem te_1f (h : huUs V p = 1) (hc : ¬ huLiC S n lv) : huTb S n p lv V = (lv, V, false) := by
  unfold huTb
  rw [if_pos h, if_neg hc]
theorem te_2s (h : huUs V p = 2) {W : List PV9} (hc : huPl S n V p = some W) : huTb S n p lv V = (lv, W, true) := by
  unfold huTb
  rw [if_neg (show ¬ huUs V p = 1 by omega), if_pos h, hc]
theorem te_2n (h : huUs V p = 2) (hc : huPl S n V p = none) : huTb S n p lv V = (lv, V, false) := by
  unfold huTb
  rw [if_neg (show ¬ huUs V p = 1 by omega), if_pos h, hc]
theorem te_3 (h : huUs V p = 3) : huTb S n p lv V = (lv, huOr S n V p, false) := by
  unfold huTb
  rw [if_neg (show ¬ huUs V p = 1 by omega), if_neg (show ¬ huUs V p = 2 by omega), if_pos h]
theorem te_o (h1 : ¬ huUs V p = 1) (h2 : ¬ huUs V p = 2) (h3 : ¬ huUs V p = 3) : huTb S n p lv V = (lv, V, false) := by
  unfold huTb
  rw [if_neg h1, if_neg h2, if_neg h3]
end TE
/-- a whole section -/
theorem hr_wh {A : HS} {p : Nat} {X : List Nat} {sP sY sZ se tl : Nat → Int32} {Z : ZT} {lv : Int32} {ng : Nat} {g : PG} {o : OG} {u : SQ} (hA : hI A) (hp : p < 8192) (hu : usS A.2.2.2.1 p) (hsl : slR (va_up A.2.1 p (huSc (A.2.1 p) [])) none sP sY sZ Z.1 Z.2.1 Z.2.2.1 Z.2.2.2) (htl : tl = A.1) (hlv : lv = A.2.2.1) (ht : tbR g ng A.2.2.2.1) (hX : ∀ y ∈ X, y < 256) (hX2 : X.length ≤ 1024) (hse : rl se (X.map nI)) (hw : whP lv ng g o tl sP se (sbF se) X.length (nI p) u) : u.2.1 = (huEs X p A).2.2.1 ∧ tbR u.2.2.1.2 u.2.2.1.1 (huEs X p A).2.2.2.1 ∧ slR (huEs X p A).2.1 none u.2.2.2.2.1 sY sZ Z.1 Z.2.1 Z.2.2.1 Z.2.2.2 ∧ u.2.2.2.2.2 = (huEs X p A).1 := by
  have hno := sc_no hA hp hu
  have hck : mk_c se 0 X.length = ckl (X.map nI) := by
    have := mk_ckl hse 0 X.length (by rw [List.length_map]; omega)
    rw [this, List.drop_zero, ← List.length_map (f := nI) (as := X), List.take_length]
  subst htl
  subst hlv
  rcases hw with ⟨hb, rfl⟩ | ⟨h12, h0, hw⟩
  · have e : huEs X p A = (cup A.1 7, va_up A.2.1 p (huSc (A.2.1 p) []), A.2.2) := by
      unfold huEs
      exact if_neg (fun q => hb.elim (fun q2 => by omega) (fun q2 => q2 (hck.trans q.2)))
    rw [e]
    exact ⟨rfl, ht, hsl, rfl⟩
  · have hgd : 12 ≤ X.length ∧ ckl (X.map nI) = 0 := ⟨h12, hck.symm.trans h0⟩
    have hlt : (X.take (X.length - 4)).length = X.length - 4 := by rw [List.length_take]; omega
    have hS : ∀ i, i < X.length - 4 → se i = nI (huSx (X.take (X.length - 4)) i) := fun i hi => by
      rw [hse i (by rw [List.length_map]; omega), gd_map]
      unfold huSx
      rw [Nat.mod_eq_of_lt (by omega), List.getD_eq_getElem?_getD, List.getD_eq_getElem?_getD, List.getElem?_take, if_pos hi]
    have hb : ∀ i, huSx (X.take (X.length - 4)) i < 256 := huSx_lt (fun y hy => hX y (List.mem_of_mem_take hy))
    have h8 : 8 ≤ X.length - 4 := by omega
    have hus := hr_use ht hp
    have hlt5 := huUs_lt A.2.2.2.1 p
    rw [hus] at hw
    have eF := fun lv V => es_f (p := p) (A := A) (lv := lv) (V := V) hgd
    have eT := fun lv V => es_t (p := p) (A := A) (lv := lv) (V := V) hgd
    have hn1020 : X.length - 4 ≤ 1020 := by omega
    generalize huSx (X.take (X.length - 4)) = S at hS hb eF eT
    generalize X.length - 4 = n at hS h8 hw eF eT hn1020
    have hexc : ∀ q, q < 8192 → ((va_up A.2.1 p (huSc (A.2.1 p) [])) q).2.2.2.1 = [] ∨ ((va_up A.2.1 p (huSc (A.2.1 p) [])) q).2.2.2.2 = none := fun q hq => by
      by_cases c : q = p
      · rw [c, va_up_self]; exact Or.inl rfl
      · rw [va_up_ne _ _ c]; exact (hA q hq).1
    have hgo := hr_go (tl := cup A.1 6) hsl hexc hp (by rw [va_up_self]; exact hno)
    have hfun : (fun q => if q = p then (va_up A.2.1 p (huSc (A.2.1 p) [])) p else huGz ((va_up A.2.1 p (huSc (A.2.1 p) [])) q)) = (fun q => if q = p then huSc (A.2.1 p) [] else huGz (A.2.1 q)) := by
      funext q
      by_cases c : q = p
      · rw [if_pos c, if_pos c, va_up_self]
      · rw [if_neg c, if_neg c, va_up_ne _ _ c]
    have hnn : huNn (va_up A.2.1 p (huSc (A.2.1 p) [])) p 8192 = huNn A.2.1 p 8192 := hn_congr _ (fun q _ c => by rw [va_up_ne _ _ c])
    rw [hfun, hnn] at hgo
    have h6 : upd A.1 6 (A.1 6 + 1) = cup A.1 6 := rfl
    rw [h6] at hw
    generalize huNn A.2.1 p 8192 = nn at eT hgo
    generalize cup A.1 6 = tl6 at hw hgo eF eT
    rcases hw with ⟨h3, s9, hs9, hs4, hsk, rfl⟩ | ⟨h3, ⟨hH, h1, hs0, w, hli, rfl⟩ | ⟨hH, hn1, h2, hs0, w, hpl, rfl⟩ | ⟨hno2, rfl⟩⟩
    · have h3 : huUs A.2.2.2.1 p = 3 := (nI_eq (b := 3) (by omega) (by decide)).mp h3
      rw [eF _ _ (te_3 h3)]
      refine ⟨rfl, ?_, hsl, rfl⟩
      have hng := ht.2.1
      rcases hr_sk ht hp with ⟨q1, -⟩ | ⟨a, b, ha, hb4, q1, q2, -⟩
      · rw [q1] at hsk; exact absurd hsk.symm (nI_neN (by omega))
      · have e9 : s9 = 4 * a + b := (nI_eq (by omega) (by omega)).mp (hsk.symm.trans q1)
        have e8 : s9 / 4 = a := by omega
        rw [e8, tb_wt ht ha]
        have hor := hr_or (ht.2.2 a ha) hS hb
        show tbR _ ng (huOr S n A.2.2.2.1 p)
        unfold huOr
        by_cases c : huIo S n
        · rw [if_pos c] at hor
          rw [if_pos c, q2]
          exact tb_set ht ha hor.1 hor.2
        · rw [if_neg c] at hor
          rw [if_neg c]
          have := tb_set ht ha hor.1 hor.2
          have e : A.2.2.2.1.set a (A.2.2.2.1.getD a pv0) = A.2.2.2.1 := by
            rw [← pv_getE (by rw [ht.1]; exact ha)]
            exact List.set_getElem_self _
          rw [e] at this
          exact this
    · have h1 : huUs A.2.2.2.1 p = 1 := (nI_eq (b := 1) (by omega) (by decide)).mp h1
      have hp0 := us_1.mp h1
      have hit := (wh_it hS hb h8 0 0 rfl (by decide)).mp ⟨hH, hs0⟩
      have hvs := vs_hu hS hb (show 5 < n by omega)
      rcases hli with ⟨hc, rfl⟩ | ⟨hc1, hc2, rfl⟩
      · have hcf : ¬ huLiC S n A.2.2.1 := fun q => hc.elim (fun q2 => q2 (by have := q.2.2; omega)) (fun q2 => q.2.1 (by rw [← hvs, q2]))
        rw [eF _ _ (te_1f h1 hcf)]
        exact ⟨rfl, ht, hsl, rfl⟩
      · have hct : huLiC S n A.2.2.1 := ⟨hit, fun q => hc2 (by rw [hvs, q]), by omega⟩
        rw [eT _ _ (te_1t h1 hct)]
        have e0 : (0 : Int32) = nI p := by rw [hp0]; rfl
        rw [e0]
        exact ⟨hvs, hr_li ht h8 hn1020 hS hb hc1, hgo.1, hgo.2⟩
    · have h2 : huUs A.2.2.2.1 p = 2 := (nI_eq (b := 2) (by omega) (by decide)).mp h2
      have hit := (wh_it hS hb h8 2 2 rfl (by decide)).mp ⟨hH, hs0⟩
      rcases hpl with ⟨hc, rfl⟩ | ⟨k9, n9, hc, rfl⟩
      · rw [eF _ _ (te_2n h2 (hr_pl0 ht hp hS hb h8 hc))]
        exact ⟨rfl, ht, hsl, rfl⟩
      · obtain ⟨-, q1, q2⟩ := hr_pl1 ht hp hS hb h8 hit hc
        rw [eT _ _ (te_2s h2 q1)]
        exact ⟨rfl, q2, hgo.1, hgo.2⟩
    · have h3 : ¬ huUs A.2.2.2.1 p = 3 := fun q => h3 (by rw [q]; rfl)
      have key : huTb S n p A.2.2.1 A.2.2.2.1 = (A.2.2.1, A.2.2.2.1, false) := by
        by_cases c1 : huUs A.2.2.2.1 p = 1
        · refine te_1f c1 (fun q => hno2 ?_)
          have := (wh_it hS hb h8 0 0 rfl (by decide)).mpr q.1
          exact ⟨this.1, Or.inl ⟨by rw [c1]; rfl, this.2⟩⟩
        · by_cases c2 : huUs A.2.2.2.1 p = 2
          · refine te_2n c2 ?_
            unfold huPl
            refine if_neg (fun q => hno2 ?_)
            have := (wh_it hS hb h8 2 2 rfl (by decide)).mpr q
            exact ⟨this.1, Or.inr ⟨by rw [c2]; rfl, this.2⟩⟩
          · exact te_o c1 c2 h3
      rw [eF _ _ key]
      exact ⟨rfl, ht, hsl, rfl⟩


/-! The reference's sections in the hub: a free place; a packet's sections -/
def usD (V : List PV9) : List Nat := 0 :: (V.map (fun v => v.2.1) ++ V.flatMap (fun v => v.2.2.2.2.2.2.1.map (fun x => x.2)))
theorem usD_mem {V : List PV9} {q : Nat} (h : ¬ huUs V q = 0) : q ∈ usD V := by
  unfold usD
  by_cases c : q = 0
  · rw [c]; exact List.mem_cons_self
  · refine List.mem_cons_of_mem _ ?_
    by_cases c2 : V.any (fun v => v.2.1 == q) = true
    · obtain ⟨v, hv, he⟩ := List.any_eq_true.mp c2
      refine List.mem_append_left _ ?_
      rw [← eq_of_beq he]
      exact List.mem_map_of_mem hv
    · refine List.mem_append_right _ ?_
      unfold huUs at h
      rw [if_neg c, if_neg c2] at h
      cases hc : huOw V q with
      | none => rw [hc] at h; exact absurd rfl h
      | some j =>
        unfold huOw at hc
        rw [List.findIdx?_eq_some_iff_getElem] at hc
        obtain ⟨hj, h1, -⟩ := hc
        obtain ⟨i, hi, he⟩ := has_iff.mp h1
        refine List.mem_flatMap.mpr ⟨V[j], List.getElem_mem hj, ?_⟩
        rw [← he, ← st_getE hi]
        exact List.mem_map_of_mem (List.getElem_mem hi)
theorem flat_len {V : List PV9} : (∀ v ∈ V, v.2.2.2.2.2.2.1.length ≤ 4) → (V.flatMap (fun v => v.2.2.2.2.2.2.1.map (fun x => x.2))).length ≤ 4 * V.length := by
  induction V with
  | nil => intro _; exact Nat.le_refl _
  | cons v V ih =>
    intro h
    have h1 := h v List.mem_cons_self
    have h2 := ih (fun w hw => h w (List.mem_cons_of_mem _ hw))
    rw [List.flatMap_cons, List.length_append, List.length_map, List.length_cons]
    omega
theorem usD_len {g : PG} {ng : Nat} {V : List PV9} (h : tbR g ng V) : (usD V).length ≤ 21 := by
  have hl := h.1
  have h4 := h.2.1
  have := flat_len (V := V) (fun v hv => by
    obtain ⟨j, hj, rfl⟩ := List.getElem_of_mem hv
    rw [pv_getE hj]
    exact (h.2.2 j (by omega)).2.1.2.1)
  unfold usD
  rw [List.length_cons, List.length_append, List.length_map]
  omega
/-- there is a free place -/
theorem sl_free {L : Nat → HL} {x : Option Nat} {sP sY sZ kd wa su : Nat → Int32} {ti : Nat → Int64} {g : PG} {ng : Nat} {V : List PV9} (h : slR L x sP sY sZ kd wa su ti) (ht : tbR g ng V) (hu : ∀ q, q < 8192 → (hga (L q) ∨ x = some q) → ¬ huUs V q = 0) : ∃ k, k < 24 ∧ slG sP (-1) 24 = nI k ∧ sP k = -1 := by
  rcases slG_cs sP (-1) 24 (Nat.le_refl _) with ⟨-, hno⟩ | ⟨k, -, hk, h1, h2⟩
  · exfalso
    have hq : ∀ k, k < 24 → ∃ q, q < 8192 ∧ sP k = nI q ∧ q ∈ usD V := fun k hk => by
      rcases h.1 k hk with q | ⟨q, h1, h2, h3⟩
      · exact absurd q (hno k (by omega) hk)
      · exact ⟨q, h1, h2, usD_mem (hu q h1 h3)⟩
    have hlen := usD_len ht
    have hnd : ((List.range 24).map (fun k => (sP k).toNatClampNeg)).Nodup := by
      rw [List.nodup_iff_pairwise_ne, List.pairwise_map]
      refine List.Pairwise.imp_of_mem (R := fun a b => a < b) ?_ List.pairwise_lt_range
      intro a b ha hb hab he
      have ha := List.mem_range.mp ha
      have hb := List.mem_range.mp hb
      obtain ⟨q1, g1, g2, -⟩ := hq a ha
      obtain ⟨q2, g3, g4, -⟩ := hq b hb
      rw [g2, g4, nI_clamp (by omega), nI_clamp (by omega)] at he
      have := h.2.1 a b ha hb (by rw [g2, g4, he]) (by rw [g2]; exact nI_neN (by omega))
      omega
    have := hnd.length_le_of_subset (l₂ := usD V) (fun y hy => by
      obtain ⟨k, hk, rfl⟩ := List.mem_map.mp hy
      obtain ⟨q, g1, g2, g3⟩ := hq k (List.mem_range.mp hk)
      rw [g2, nI_clamp (by omega)]
      exact g3)
    rw [List.length_map, List.length_range] at this
    omega
  · exact ⟨k, hk, h1, h2⟩
theorem hq_free {A : HS} {x : Option Nat} {r : RQ9} {Z : ZT} {p : Nat} (hq : hQ A x r Z) (hA : hI A) (hu : ¬ huUs A.2.2.2.1 p = 0) (hx : x = none ∨ x = some p) : ∃ k, k < 24 ∧ slG r.sP (-1) 24 = nI k ∧ r.sP k = -1 := sl_free hq.2.2.2.1 hq.2.2.1 (fun q hq2 hg => by
  rcases hg with (hg | hg) | hg
  · exact ((hA q hq2).2.1 hg).1
  · rw [(hA q hq2).2.2.1 hg]; decide
  · rcases hx with hx | hx
    · rw [hx] at hg; cases hg
    · rw [hx] at hg; rw [← Option.some.inj hg]; exact hu)
/-- the invariant that the reference's contracts want -/
def hJ (p : Nat) (r : RQ9) : Prop := ∃ A x Z, hQ A x r Z ∧ hI A ∧ usS A.2.2.2.1 p ∧ xok A x p
theorem gv_none {sP tl : Nat → Int32} {v : Int32} (hinj : ∀ k j, k < 24 → j < 24 → sP k = sP j → ¬ sP k = -1 → k = j) (hv : ¬ v = -1) : ∀ k, k < 24 → ¬ (gvU (sP, tl) v).1 k = v := by
  intro k hk he
  unfold gvU at he
  rcases slG_cs sP v 24 (Nat.le_refl _) with ⟨h1, h2⟩ | ⟨j, -, hj, h1, h2⟩
  · have h1' : slG (sP, tl).1 v 24 = -1 := h1
    rw [if_pos h1'] at he
    exact h2 k (by omega) hk he
  · have h1' : slG (sP, tl).1 v 24 = nI j := h1
    rw [h1', if_neg (nI_neN (by omega)), nI_clamp (by omega)] at he
    have he : upd sP j (-1) k = v := he
    by_cases c : k = j
    · rw [c, pk_us] at he; exact hv he.symm
    · rw [pk_un c] at he
      exact c (hinj k j hk hj (he.trans h2.symm) (by rw [he]; exact hv))
theorem gv_free {A : HS} {x : Option Nat} {r : RQ9} {Z : ZT} {p : Nat} (hq : hQ A x r Z) (hA : hI A) (hp : p < 8192) (hu : usS A.2.2.2.1 p) (hx : xok A x p) : hQ ((gvU (r.sP, r.tl) (nI p)).2, va_up A.2.1 p (huGz (A.2.1 p)), A.2.2) none (rgv r (nI p)) Z := by
  obtain ⟨htl, hlv, htb, hsl, hse⟩ := hq
  refine ⟨rfl, hlv, htb, ?_, hse⟩
  show slR (va_up A.2.1 p (huGz (A.2.1 p))) none (gvU (r.sP, r.tl) (nI p)).1 r.1 r.2.1 Z.1 Z.2.1 Z.2.2.1 Z.2.2.2
  rcases hx with hx | ⟨hx, h0⟩
  · subst hx
    exact (hr_gu hsl hp (hA p hp).1).1
  · obtain ⟨k, hk, he⟩ := sl_yes hsl hp (Or.inr hx)
    have hs := sl_at hsl hk he hp
    unfold gvU
    have hs' : slG (r.sP, r.tl).1 (nI p) 24 = nI k := hs
    rw [hs', if_neg (nI_neN (by omega)), nI_clamp (by omega)]
    exact sl_rm hsl hk he hp (Or.inr hx) (hga_gz _)
theorem hI_gu {A : HS} {p : Nat} {tl : Nat → Int32} (hA : hI A) (hp : p < 8192) (hu : usS A.2.2.2.1 p) : hI (tl, va_up A.2.1 p (huGz (A.2.1 p)), A.2.2) := by
  have hz : huGz (A.2.1 p) = huSc (A.2.1 p) [] := by
    show (_, _, _, [], none) = (_, _, _, [], (A.2.1 p).2.2.2.2)
    rw [hI_p0 hA hp hu]
  rw [hz]
  exact hI_up hA hp hu gln_0 (fun _ => rfl)
theorem hJ_ok {p : Nat} {pk : Nat → Int32} {b : Nat → Nat} (hp : p < 8192) (hpk : ∀ j, j < 188 → pk j = nI (b j)) (hb : ∀ j, b j < 256) : JOK (hJ p) pk (nI p) := by
  refine ⟨?_, ?_, ?_, ?_, ?_, ?_, ?_, ?_⟩
  · rintro r ⟨A, x, Z, hq, hA, hu, hx⟩
    exact ⟨tb_ok hq.2.2.1, hq.2.2.2.2⟩
  · rintro r ⟨A, x, Z, hq, hA, hu, hx⟩ -
    obtain ⟨k, hk, h1, -⟩ := hq_free hq hA hu.1 (hx.imp id (fun q => q.1))
    exact ⟨k, hk, h1⟩
  · rintro r k ⟨A, x, Z, hq, hA, hu, hx⟩ hk hs
    have hsPk : r.sP k = nI p := by
      rcases slG_cs r.sP (nI p) 24 (Nat.le_refl _) with ⟨q1, -⟩ | ⟨j, -, hj, q2, q3⟩
      · rw [hs] at q1; exact absurd q1 (nI_neN (by omega))
      · have : j = k := (nI_eq (by omega) (by omega)).mp (q2.symm.trans hs)
        rw [← this]; exact q3
    have hsl := hq.2.2.2.1
    have hsec : ¬ (A.2.1 p).2.2.2.1 = [] ∨ x = some p := by
      rcases hsl.1 k hk with q | ⟨q, hq, hq2, hq3⟩
      · rw [hsPk] at q; exact absurd q (nI_neN (by omega))
      · have : q = p := (nI_eq (by omega) (by omega)).mp (hq2.symm.trans hsPk)
        subst this
        exact hq3.imp (fun q => q.resolve_right (fun q2 => q2 (hI_p0 hA hp hu))) id
    obtain ⟨k2, hk2, e1, e2, e3⟩ := hsl.2.2.1 p hp hsec
    have hkk : k2 = k := hsl.2.1 k2 k hk2 hk (e1.trans hsPk.symm) (by rw [e1]; exact nI_neN (by omega))
    subst hkk
    have hgl := (hA p hp).2.2.2
    refine ⟨_, by rw [List.length_map]; exact e2, e3, (GL_hu hgl.1).mpr hgl.2, fun i hi => ?_⟩
    rw [gd_map]
    exact ⟨_, gd_lt hgl.1 i, rfl⟩
  · rintro r ⟨A, x, Z, hq, hA, hu, hx⟩
    exact sl_ne hp (gv_none hq.2.2.2.1.2.1 (nI_neN (by omega)))
  · rintro r ⟨A, x, Z, hq, hA, hu, hx⟩
    exact ⟨_, none, Z, gv_free hq hA hp hu hx, hI_gu hA hp hu, hu, Or.inl rfl⟩
  · rintro r a e r0 t hae he ⟨A, x, Z, hq, hA, hu, hx⟩ h
    rcases hr_rgo hq hA hp hu hx hpk hb hae he h with ⟨-, -, rfl⟩ | ⟨-, A1, h1, h2, ⟨-, -, h3, -⟩ | ⟨j, x1, -, -, -, -, h3, h4, -⟩⟩
    · exact ⟨A, x, Z, hq, hA, hu, hx⟩
    · exact ⟨A1, none, Z, h3, h1, h2, Or.inl rfl⟩
    · exact ⟨A1, x1, Z, h3, h1, h2, h4⟩
  · rintro r a j t ha ⟨A, x, Z, hq, hA, hu, hx⟩ h hj
    rcases hr_rgo hq hA hp hu hx hpk hb (by omega) (Nat.le_refl _) h with ⟨h1, -, rfl⟩ | ⟨-, A1, h1, h2, ⟨h0, -, h3, -⟩ | ⟨j2, x1, h0, -, -, -, h3, h4, -, h5⟩⟩
    · exact h1
    · exact absurd ((nI_eq (b := 188) (by omega) (by decide)).mp h0) (by omega)
    · rcases h5 with ⟨h5, -⟩ | ⟨h5, h6⟩
      · have : j = j2 := (nI_eq (by omega) (by omega)).mp h0
        omega
      · subst h5
        exact sl_ne hp (sq_no h3.2.2.2.1 hp h6 (by intro q; cases q))
  · rintro r k ⟨A, x, Z, hq, hA, hu, hx⟩ hk hs hf
    have hsl := hq.2.2.2.1
    have hxn : x = none := by
      rcases hx with hx | ⟨hx, -⟩
      · exact hx
      · obtain ⟨k2, hk2, e1⟩ := sl_yes hsl hp (Or.inr hx)
        rw [sl_at hsl hk2 e1 hp] at hs
        exact absurd hs (nI_neN (by omega))
    subst hxn
    have hg : ¬ hga (A.2.1 p) := fun q => by
      obtain ⟨k2, hk2, e1⟩ := sl_yes hsl hp (Or.inl q)
      rw [sl_at hsl hk2 e1 hp] at hs
      exact absurd hs (nI_neN (by omega))
    have hfk : r.sP k = -1 := by
      rcases slG_cs r.sP (-1) 24 (Nat.le_refl _) with ⟨q1, -⟩ | ⟨j, -, hj, q2, q3⟩
      · rw [hf] at q1; exact absurd q1 (nI_neN (by omega))
      · have : j = k := (nI_eq (by omega) (by omega)).mp (q2.symm.trans hf)
        rw [← this]; exact q3
    refine ⟨A, some p, Z, ⟨hq.1, hq.2.1, hq.2.2.1, hr_ns hsl hk hfk hp hg, hq.2.2.2.2⟩, hA, hu, Or.inr ⟨rfl, Classical.not_not.mp (fun q => hg (Or.inl q))⟩⟩
/-- sections one behind the other -/
theorem hr_rsl {p : Nat} {pk : Nat → Int32} {b : Nat → Nat} {Z : ZT} (hp : p < 8192) (hpk : ∀ j, j < 188 → pk j = nI (b j)) (hb : ∀ j, b j < 256) : ∀ {m m2 i : Nat} {r t : RQ9} {A : HS}, 188 ≤ i + m → 188 ≤ i + m2 → hQ A none r Z → hI A → usS A.2.2.2.1 p → rsL pk (nI p) m i r t → ¬ hga (A.2.1 p) ∨ 188 ≤ i → ∃ A1, huUl b p m2 i A = A1 ∧ hQ A1 none t Z ∧ hI A1 ∧ usS A1.2.2.2.1 p
  | 0, m2, i, r, t, A, hm, hm2, hq, hA, hu, h, hg => by
    rw [show t = r from h]
    refine ⟨A, ?_, hq, hA, hu⟩
    cases m2 with
    | zero => rfl
    | succ m2 => rw [huUl, if_neg (fun q => absurd q.1 (by omega))]
  | m + 1, m2, i, r, t, A, hm, hm2, hq, hA, hu, h, hg => by
    rcases h with ⟨hc, rfl⟩ | ⟨hi, h255, k, j, w, hk, hs, hf, hgo, hij, hj, h⟩
    · refine ⟨A, ?_, hq, hA, hu⟩
      cases m2 with
      | zero => rfl
      | succ m2 =>
        have hcf : ¬ (i < 188 ∧ ¬ b i = 255) := fun q => hc ⟨q.1, fun q2 => q.2 (by rw [hpk i q.1] at q2; exact (nI_eq (b := 255) (by have := hb i; omega) (by decide)).mp q2)⟩
        rw [huUl, if_neg hcf]
    · have hg := hg.resolve_right (by omega)
      obtain ⟨m2, rfl⟩ : ∃ m3, m2 = m3 + 1 := ⟨m2 - 1, by omega⟩
      have hsl := hq.2.2.2.1
      have hfk : r.sP k = -1 := by
        rcases slG_cs r.sP (-1) 24 (Nat.le_refl _) with ⟨q1, -⟩ | ⟨j, -, hj, q2, q3⟩
        · rw [hf] at q1; exact absurd q1 (nI_neN (by omega))
        · have : j = k := (nI_eq (by omega) (by omega)).mp (q2.symm.trans hf)
          rw [← this]; exact q3
      have h0 : (A.2.1 p).2.2.2.1 = [] := Classical.not_not.mp (fun q => hg (Or.inl q))
      have hq2 : hQ A (some p) (rns r k (nI p) 0) Z := ⟨hq.1, hq.2.1, hq.2.2.1, hr_ns hsl hk hfk hp hg, hq.2.2.2.2⟩
      rw [huUl, if_pos ⟨hi, fun q => h255 (by rw [hpk i hi, q]; rfl)⟩]
      rcases hr_rgo hq2 hA hp hu (Or.inr ⟨rfl, h0⟩) hpk hb (by omega) (Nat.le_refl _) hgo with ⟨h1, -, -⟩ | ⟨-, A1, h1, h2, ⟨h3, h4, h5, h6⟩ | ⟨j2, x1, h3, h4, h5, h6, h7, h8, h9, h10⟩⟩
      · have : slG (upd r.sP k (nI p)) (nI p) 24 = -1 := h1
        rw [sl_at (hr_ns hsl hk hfk hp hg) hk pk_us hp] at this
        exact absurd this (nI_neN (by omega))
      · rw [h4]
        have hj8 : j = 188 := (nI_eq (b := 188) (by omega) (by decide)).mp h3
        subst hj8
        have h' := h
        obtain ⟨A2, e2, r2⟩ := hr_rsl hp hpk hb (m2 := 0) (A := A1) (by omega) (by omega) h5 h1 h2 h (Or.inr (Nat.le_refl _))
        refine ⟨A1, rfl, ?_⟩
        rw [show A2 = A1 from e2.symm] at r2
        exact r2
      · have hjj : j = j2 := (nI_eq (by omega) (by omega)).mp h3
        subst hjj
        have hxn := h9 hi
        subst hxn
        rw [h6]
        exact hr_rsl hp hpk hb (m2 := m2) (by omega) (by omega) h7 h1 h2 h (h10.elim (fun q => Or.inr (by omega)) (fun q => Or.inl q.2))
theorem gu_id {A : HS} {p : Nat} (h : ¬ hga (A.2.1 p)) : huGu p A = A := by
  unfold huGu
  rw [hn1_no h, addc_0, gz_id h, vu_id]
/-- a packet's sections -/
theorem hr_sp {A : HS} {r t : RQ9} {Z : ZT} {p : Nat} {pk : Nat → Int32} {b : Nat → Nat} {st : Int32} (hq : hQ A none r Z) (hA : hI A) (hp : p < 8192) (hu : usS A.2.2.2.1 p) (hpk : ∀ j, j < 188 → pk j = nI (b j)) (hb : ∀ j, b j < 256) (hfr : huPay b < 188) (hst : st = 0 ↔ b 1 / 64 % 2 = 0) (h : spP pk (nI p) (huPay b) st r t) : hQ (huSe b p A) none t Z ∧ hI (huSe b p A) := by
  have hsl := hq.2.2.2.1
  have hpie := hI_p0 hA hp hu
  have hs0 : slG r.sP (nI p) 24 = -1 ↔ (A.2.1 p).2.2.2.1.length = 0 := by
    constructor
    · intro q
      apply Classical.byContradiction
      intro c
      obtain ⟨k, hk, e⟩ := sl_yes hsl hp (Or.inl (Or.inl (fun q2 => c (by rw [q2]; rfl))))
      rw [sl_at hsl hk e hp] at q
      exact nI_neN (by omega) q
    · intro q
      exact sl_ne hp (sq_no hsl hp (fun q2 => q2.elim (fun q3 => q3 (List.eq_nil_of_length_eq_zero q)) (fun q3 => q3 hpie)) (by intro q; cases q))
  unfold huSe
  rcases h with ⟨h0, r0, hgo⟩ | ⟨h0, p9, hp9, hp256, h⟩
  · rw [if_pos (hst.mp h0)]
    rcases hr_rgo hq hA hp hu (Or.inl rfl) hpk hb (by omega) (Nat.le_refl _) hgo with ⟨h1, -, rfl⟩ | ⟨h1, A1, g1, g2, ⟨-, g4, g5, -⟩ | ⟨j, x1, -, -, -, g6, g7, -, g9, -⟩⟩
    · rw [if_pos (hs0.mp h1)]
      exact ⟨hq, hA⟩
    · rw [if_neg (mt hs0.mpr h1), g4]
      exact ⟨g5, g1⟩
    · rw [if_neg (mt hs0.mpr h1), g6]
      have := g9 hfr
      subst this
      exact ⟨g7, g1⟩
  · rw [if_neg (mt hst.mpr h0)]
    have e9 : p9 = b (huPay b) := by
      rw [hpk _ hfr] at hp9
      exact ((nI_eq (by have := hb (huPay b); omega) (by omega)).mp hp9).symm
    subst e9
    rcases h with ⟨h1, rfl⟩ | ⟨h1, r0, w, hgo, h⟩
    · rw [if_pos h1]
      have hg := hr_gu (tl := r.tl) hsl hp (hA p hp).1
      refine ⟨⟨?_, hq.2.1, hq.2.2.1, hg.1, hq.2.2.2.2⟩, hI_gu hA hp hu⟩
      show (gvU (r.sP, r.tl) (nI p)).2 = addc A.1 (huN1 (A.2.1 p))
      rw [hg.2.1, hq.1]
    · rw [if_neg (by omega)]
      -- what is left of the packet
      have rest : ∀ (A1 : HS) (w2 : RQ9), hQ A1 none w2 Z → hI A1 → usS A1.2.2.2.1 p → rsL pk (nI p) 188 (huPay b + 1 + b (huPay b)) (rgv w2 (nI p)) t → hQ (huUl b p 184 (huPay b + 1 + b (huPay b)) (huGu p A1)) none t Z ∧ hI (huUl b p 184 (huPay b + 1 + b (huPay b)) (huGu p A1)) := by
        intro A1 w2 g1 g2 g3 g4
        have hg := hr_gu (tl := w2.tl) g1.2.2.2.1 hp (g2 p hp).1
        have hq2 : hQ (huGu p A1) none (rgv w2 (nI p)) Z := by
          refine ⟨?_, g1.2.1, g1.2.2.1, hg.1, g1.2.2.2.2⟩
          show (gvU (w2.sP, w2.tl) (nI p)).2 = addc A1.1 (huN1 (A1.2.1 p))
          rw [hg.2.1, g1.1]
        have hpay : 4 ≤ huPay b := by unfold huPay; split <;> omega
        obtain ⟨A2, e2, r2, r3, -⟩ := hr_rsl hp hpk hb (m2 := 184) (A := huGu p A1) (by omega) (by omega) hq2 (hI_gu g2 hp g3) g3 g4 (Or.inl (by
          show ¬ hga (va_up A1.2.1 p (huGz (A1.2.1 p)) p)
          rw [va_up_self]; exact hga_gz _))
        rw [e2]
        exact ⟨r2, r3⟩
      rcases hr_rgo hq hA hp hu (Or.inl rfl) hpk hb (by omega) h1 hgo with ⟨g1, g2, rfl⟩ | ⟨g1, A1, k1, k2, ⟨k3, k4, k5, k6⟩ | ⟨j, x1, k3, k4, k5, k6, k7, k8, k9, k10⟩⟩
      · rw [if_pos (hs0.mp g1)]
        rcases h with ⟨q1, -⟩ | ⟨-, h⟩
        · exact absurd (by rw [g1]; decide) q1
        · have := rest A w hq hA hu h
          rw [gu_id (fun q => q.elim (fun q3 => q3 (List.eq_nil_of_length_eq_zero (hs0.mp g1))) (fun q3 => q3 hpie))] at this
          exact this
      · rw [if_neg (mt hs0.mpr g1), k4]
        show hQ A1 none t Z ∧ hI A1
        rcases h with ⟨-, -, -, rfl⟩ | ⟨q1, h⟩
        · exact ⟨k5, k1⟩
        · have hend : ¬ huPay b + 1 + b (huPay b) < 188 := fun q => q1 ⟨fun q2 => g1 (by
            rcases slG_cs r.sP (nI p) 24 (Nat.le_refl _) with ⟨z1, -⟩ | ⟨j, -, hj, z2, -⟩
            · exact z1
            · rw [z2] at q2; exact absurd q2 (nI_not0 (by omega))), k3, q⟩
          have hr := rest A1 w k5 k1 k2 h
          rw [gu_id k6] at hr
          rw [show huUl b p 184 (huPay b + 1 + b (huPay b)) A1 = A1 from by rw [huUl, if_neg (fun q => hend q.1)]] at hr
          exact hr
      · rw [if_neg (mt hs0.mpr g1), k6]
        show hQ (huUl b p 184 _ (huGu p A1)) none t Z ∧ _
        rcases h with ⟨-, q1, q2, -⟩ | ⟨-, h⟩
        · rw [k3] at q1
          exact absurd ((nI_eq (b := 188) (by omega) (by decide)).mp q1) (by omega)
        · have hx1 : x1 = none := by
            rcases k10 with ⟨-, q⟩ | ⟨q, -⟩
            · exact q rfl
            · exact q
          subst hx1
          exact rest A1 w k7 k1 k2 h


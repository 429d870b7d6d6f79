/-! The reference's sections in the hub: a packet's -/
theorem sl_irr {L : Nat → HL} {sP sY sZ kd wa su sY2 sZ2 : Nat → Int32} {ti : Nat → Int64} {k : Nat} (h : slR L none sP sY sZ kd wa su ti) (hk : sP k = -1) (hY : ∀ i, (i < 1024 * k ∨ 1024 * (k + 1) ≤ i) → sY2 i = sY i) (hZ : ∀ i, i ≠ k → sZ2 i = sZ i) (hl : ∀ q, q < 8192 → (L q).2.2.2.1.length ≤ 1024) : slR L none sP sY2 sZ2 kd wa su ti := by
  refine ⟨h.1, h.2.1, fun q hq hs => ?_, fun q g hq hg => ?_⟩
  · obtain ⟨j, h1, h2, h3, h4⟩ := h.2.2.1 q hq hs
    have cj : j ≠ k := fun q2 => by rw [q2, hk] at h2; exact nI_neN (by omega) h2.symm
    refine ⟨j, h1, h2, by rw [hZ j cj]; exact h3, fun i hi => ?_⟩
    rw [hY _ (by
      have := hl q hq
      rw [List.length_map] at hi
      omega)]
    exact h4 i hi
  · obtain ⟨j, h1, h2, h3⟩ := h.2.2.2 q g hq hg
    have cj : j ≠ k := fun q2 => by rw [q2, hk] at h2; exact nI_neN (by omega) h2.symm
    refine ⟨j, h1, h2, ?_⟩
    unfold hgR
    rw [hZ j cj]
    exact h3
def hQ (A : HS) (x : Option Nat) (r : RQ9) (Z : ZT) : Prop := r.tl = A.1 ∧ r.2.2.2.2.2.1 = A.2.2.1 ∧ tbR r.g r.ng A.2.2.2.1 ∧ slR A.2.1 x r.sP r.1 r.2.1 Z.1 Z.2.1 Z.2.2.1 Z.2.2.2 ∧ byF r.2.2.2.1 1024
/-- x: the PID's place may be empty -/
abbrev xok (A : HS) (x : Option Nat) (p : Nat) : Prop := x = none ∨ (x = some p ∧ (A.2.1 p).2.2.2.1 = [])
theorem hI_len {A : HS} (h : hI A) : ∀ q, q < 8192 → (A.2.1 q).2.2.2.1.length ≤ 1024 := fun q hq => Nat.le_of_lt (gln_le (h q hq).2.2.2)
theorem huRp_q {A : HS} {x : Option Nat} {r : RQ9} {Z : ZT} {p : Nat} (h : hQ A x r Z) : hQ (huRp p A) x r Z := h
/-- going on with a section -/
theorem hr_rgo {A : HS} {x : Option Nat} {r t : RQ9} {Z : ZT} {p a e : Nat} {pk : Nat → Int32} {b : Nat → Nat} {r0 : Int32} (hq : hQ A x r Z) (hA : hI A) (hp : p < 8192) (hu : usS A.2.2.2.1 p) (hx : xok A x p) (hpk : ∀ j, j < 188 → pk j = nI (b j)) (hb : ∀ j, b j < 256) (hae : a ≤ e) (he : e ≤ 188) (h : rgo pk (nI p) r a e r0 t) : (slG r.sP (nI p) 24 = -1 ∧ r0 = nI a ∧ t = r) ∨ (¬ slG r.sP (nI p) 24 = -1 ∧ ∃ A1 : HS, hI A1 ∧ usS A1.2.2.2.1 p ∧ ((r0 = 188 ∧ huGr b a e p A = (none, A1) ∧ hQ A1 none t Z ∧ ¬ hga (A1.2.1 p)) ∨ ∃ j x1, r0 = nI j ∧ a ≤ j ∧ j ≤ e ∧ huGr b a e p A = (some j, A1) ∧ hQ A1 x1 t Z ∧ xok A1 x1 p ∧ (a < e → x1 = none) ∧ ((j = e ∧ (x = none → x1 = none)) ∨ (x1 = none ∧ ¬ hga (A1.2.1 p))))) := by
  rcases h with h | ⟨k, B, u, hk, hsk, hZk, hsB, hGL, hby, hgo, rfl⟩
  · exact Or.inl h
  · refine Or.inr ⟨by rw [hsk]; exact nI_neN (by omega), ?_⟩
    obtain ⟨htl, hlv, htb, hsl, hse⟩ := hq
    have hpie := hI_p0 hA hp hu
    have hx' : x = none ∨ x = some p := hx.imp id (fun q => q.1)
    have hsPk : r.sP k = nI p := by
      rcases slG_cs r.sP (nI p) 24 (Nat.le_refl _) with ⟨q1, -⟩ | ⟨j, -, hj, q2, q3⟩
      · rw [hsk] at q1; exact absurd q1 (nI_neN (by omega))
      · have : j = k := (nI_eq (by omega) (by omega)).mp (q2.symm.trans hsk)
        rw [← this]; exact q3
    have hsec : ¬ (A.2.1 p).2.2.2.1 = [] ∨ x = some p := by
      rcases hsl.1 k hk with q | ⟨q, hq, hq2, hq3⟩
      · rw [hsPk] at q; exact absurd q (nI_neN (by omega))
      · have : q = p := (nI_eq (by omega) (by omega)).mp (hq2.symm.trans hsPk)
        subst this
        exact hq3.imp (fun q => q.resolve_right (fun q2 => q2 hpie)) id
    have hgl := (hA p hp).2.2.2
    have hXl := gln_le hgl
    obtain ⟨k2, hk2, e1, e2, e3⟩ := hsl.2.2.1 p hp hsec
    have hkk : k2 = k := hsl.2.1 k2 k hk2 hk (e1.trans hsPk.symm) (by rw [e1]; exact nI_neN (by omega))
    subst hkk
    have hBl := gl_lt hGL
    have hlen : B.length = (A.2.1 p).2.2.2.1.length := (nI_eq (by omega) (by omega)).mp (hZk.symm.trans e2)
    have hBX := slB_eq hlen hsB e3
    subst hBX
    generalize hXe : (A.2.1 p).2.2.2.1 = X at hgl hXl hlen hZk hsB hGL hby hgo e2 e3 hsec
    obtain ⟨g1, g2, g3, g4⟩ := hgo
    have hXb := hgl.1
    have hcat : ∀ i, i ≤ u.1 → X.map nI ++ pL pk a i = (X ++ bl b a i).map nI := fun i hi => by rw [pL_bl hpk (by omega), List.map_append]
    have hcb : ∀ i, ∀ y ∈ X ++ bl b a i, y < 256 := fun i => app_lt hXb (bl_lt hb a i)
    rw [hcat u.1 (Nat.le_refl _)] at g2 g4 ⊢
    have hlm : ((X ++ bl b a u.1).map nI).length = X.length + u.1 := by rw [List.length_map, List.length_append, bl_len]
    have hlm2 : (X ++ bl b a u.1).length = X.length + u.1 := by rw [List.length_append, bl_len]
    unfold huGr
    rw [hXe]
    rcases g4 with ⟨q1, q2, q3, q4⟩ | ⟨q0, q1, q2, q3, q4, q5⟩ | ⟨q0, q1, q2, q3, q4, q5, q6, q7, q8⟩
    · have hg : huGo b (e - a) a X = (0, a + (e - a), X ++ bl b a (e - a)) := go_0 _ _ _ (fun i hi => by
        have := q1 i (by omega)
        rw [hcat i (by omega), GL_hu (hcb i)] at this
        exact this)
      have hc : e - a = u.1 := by omega
      rw [hc] at hg
      rw [hc, hg, if_pos rfl]
      have hgl2 : gln (X ++ bl b a u.1) := ⟨hcb _, by
        have := q1 u.1 (Nat.le_refl _)
        rw [hcat u.1 (Nat.le_refl _), GL_hu (hcb _)] at this
        exact this⟩
      refine ⟨huRp p (A.1, va_up A.2.1 p (huSc (A.2.1 p) (X ++ bl b a u.1)), A.2.2), hI_up hA hp hu hgl2 (fun _ => rfl), hu, Or.inr ⟨e, (if X ++ bl b a u.1 = [] then some p else none), q3, hae, Nat.le_refl _, rfl, ?_, ?_, ?_, Or.inl ⟨rfl, ?_⟩⟩⟩
      · rw [q4]
        refine ⟨htl, hlv, htb, ?_, hse⟩
        show slR (va_up A.2.1 p (huSc (A.2.1 p) (X ++ bl b a u.1))) _ r.sP u.2.1 (upd r.2.1 k2 (nI ((X ++ bl b a u.1).map nI).length)) Z.1 Z.2.1 Z.2.2.1 Z.2.2.2
        rw [List.length_map]
        refine hr_gr hsl hk hsPk hp hx' hpie g2 g3 (hI_len hA) ?_
        by_cases c : X ++ bl b a u.1 = []
        · rw [if_pos c]; exact Or.inl ⟨c, rfl⟩
        · rw [if_neg c]; exact Or.inr ⟨c, rfl⟩
      · show (if X ++ bl b a u.1 = [] then some p else none) = none ∨ _ ∧ ((va_up A.2.1 p (huSc (A.2.1 p) (X ++ bl b a u.1))) p).2.2.2.1 = []
        by_cases c : X ++ bl b a u.1 = []
        · rw [if_pos c, va_up_self]; exact Or.inr ⟨rfl, c⟩
        · rw [if_neg c]; exact Or.inl rfl
      · intro hlt
        exact if_neg (fun c => by rw [c] at hlm2; have : (0 : Nat) = X.length + u.1 := hlm2; omega)
      · intro hxn
        refine if_neg (fun c => ?_)
        rw [hxn] at hsec
        have h0 : X.length = 0 := by rw [c] at hlm2; have : (0 : Nat) = X.length + u.1 := hlm2; omega
        exact hsec.elim (fun q => q (List.eq_nil_of_length_eq_zero h0)) (fun q => by cases q)
    · have hw : 1024 < huWh (X ++ bl b a u.1) := by rw [wL_hu (hcb _)] at q3; exact q3
      obtain ⟨c, hc⟩ : ∃ c, u.1 = c + 1 := ⟨u.1 - 1, by omega⟩
      have hg : huGo b (e - a) a X = (1, a + c, X ++ bl b a (c + 1)) := go_1 c (e - a) a X (by omega) (fun i hi => by
        have := q1 i (by omega)
        rw [hcat i (by omega), GL_hu (hcb i)] at this
        exact this) (by rw [← hc, hlm2]; omega) (by rw [← hc]; exact hw)
      rw [← hc] at hg
      rw [hg, if_neg (show ¬ ((1, a + c, X ++ bl b a u.1) : Nat × Nat × List Nat).1 = 0 from (by decide : ¬ (1 : Nat) = 0)), if_pos rfl]
      have hne : ¬ X ++ bl b a u.1 = [] := fun q => by rw [q] at hlm2; have : (0 : Nat) = X.length + u.1 := hlm2; omega
      have hs2 := hr_gr (x2 := none) hsl hk hsPk hp hx' hpie g2 g3 (hI_len hA) (Or.inr ⟨hne, rfl⟩)
      have hs3 := sl_rm (z := huGz (A.2.1 p)) hs2 hk hsPk hp (Or.inl rfl) (hga_gz _)
      rw [vu_vu] at hs3
      have hn1 : huN1 (huSc (A.2.1 p) (X ++ bl b a u.1)) = 1 := hn1_yes (Or.inl hne) (Or.inr hpie)
      refine ⟨huRp p (addc A.1 (huN1 (huSc (A.2.1 p) (X ++ bl b a u.1))), va_up A.2.1 p (huGz (A.2.1 p)), A.2.2), ?_, hu, Or.inl ⟨q4, rfl, ?_, ?_⟩⟩
      · have hz : huGz (A.2.1 p) = huSc (A.2.1 p) [] := by
          show (_, _, _, [], none) = (_, _, _, [], (A.2.1 p).2.2.2.2)
          rw [hpie]
        rw [hz]
        exact hI_up hA hp hu gln_0 (fun _ => rfl)
      · have hgv : gvU (r.sP, r.tl) (nI p) = (upd r.sP k2 (-1), addc r.tl 1) := by
          unfold gvU
          rw [hsk, if_neg (nI_neN (by omega)), nI_clamp (by omega)]
          rfl
        rw [q5, hgv]
        refine ⟨?_, hlv, htb, ?_, hse⟩
        · show addc r.tl 1 = addc A.1 _
          rw [hn1, htl]
        · show slR (va_up A.2.1 p (huGz (A.2.1 p))) none (upd r.sP k2 (-1)) u.2.1 (upd r.2.1 k2 (nI ((X ++ bl b a u.1).map nI).length)) Z.1 Z.2.1 Z.2.2.1 Z.2.2.2
          rw [List.length_map]
          exact hs3
      · show ¬ hga (va_up A.2.1 p (huGz (A.2.1 p)) p)
        rw [va_up_self]; exact hga_gz _
    · have hw : (X ++ bl b a u.1).length = huWh (X ++ bl b a u.1) := by rw [wL_hu (hcb _), List.length_map] at q3; exact q3
      obtain ⟨c, hc⟩ : ∃ c, u.1 = c + 1 := ⟨u.1 - 1, by omega⟩
      have hl3 : 3 ≤ (X ++ bl b a u.1).length := by rw [List.length_map] at q2; exact q2
      have hl4 : (X ++ bl b a u.1).length ≤ 1024 := by rw [List.length_map] at q4; exact q4
      have hg : huGo b (e - a) a X = (2, a + c, X ++ bl b a (c + 1)) := go_2 c (e - a) a X (by omega) (fun i hi => by
        have := q1 i (by omega)
        rw [hcat i (by omega), GL_hu (hcb i)] at this
        exact this) (by rw [← hc]; exact hl3) (by rw [← hc]; exact hw) (by rw [← hc]; exact hl4)
      rw [← hc] at hg
      rw [hg, if_neg (show ¬ ((2, a + c, X ++ bl b a u.1) : Nat × Nat × List Nat).1 = 0 from (by decide : ¬ (2 : Nat) = 0)), if_neg (show ¬ ((2, a + c, X ++ bl b a u.1) : Nat × Nat × List Nat).1 = 1 from (by decide : ¬ (2 : Nat) = 1))]
      have hno := sc_no hA hp hu
      have hs1 := sl_rm (z := huSc (A.2.1 p) []) hsl hk hsPk hp hx' hno
      have hs2 := sl_irr (k := k2) (sY2 := u.2.1) (sZ2 := upd r.2.1 k2 (nI ((X ++ bl b a u.1).map nI).length)) hs1 pk_us g3 (fun i hi => pk_un hi) (fun q hq => by
        by_cases c : q = p
        · rw [c, va_up_self]; exact Nat.zero_le _
        · rw [va_up_ne _ _ c]; exact hI_len hA q hq)
      rw [List.length_map] at q8
      have hwh := hr_wh (A := huRp p A) (X := X ++ bl b a u.1) hA hp hu hs2 htl hlv htb (hcb _) hl4 q6 q8
      have hie := hI_es (X := X ++ bl b a u.1) (A := huRp p A) hA hp hu
      have hcl : ¬ hga ((huEs (X ++ bl b a u.1) p (huRp p A)).2.1 p) := by
        have e9 : (huEs (X ++ bl b a u.1) p (huRp p A)).2.1 p = huSc (A.2.1 p) [] := by
          unfold huEs
          split
          · split
            · exact if_pos rfl
            · exact va_up_self _ _ _
          · exact va_up_self _ _ _
        rw [e9]; exact hno
      refine ⟨huEs (X ++ bl b a u.1) p (huRp p A), hie.1, hie.2, Or.inr ⟨a + c + 1, none, by rw [q5]; congr 1; omega, by omega, by omega, rfl, ⟨hwh.2.2.2, hwh.1, hwh.2.1, hwh.2.2.1, q7⟩, Or.inl rfl, fun _ => rfl, Or.inr ⟨rfl, hcl⟩⟩⟩


/-! The reference's places in the hub -/
/-- what the reference keeps of a piece at place k -/
def hgR (q k : Nat) (g : HP) (sZ kd wa su : Nat → Int32) (ti : Nat → Int64) : Prop := g.1 = nI q ∧ kd k = g.2.1 ∧ ti k = g.2.2.1 ∧ sZ k = g.2.2.2.1 ∧ su k = g.2.2.2.2.1 ∧ ((wa k = -1 ∧ g.2.2.2.2.2 = -1) ∨ ∃ a b, b ≤ a ∧ a < 2 ^ 17 ∧ wa k = nI a ∧ g.2.2.2.1 = nI b ∧ g.2.2.2.2.2 = nI (a - b))
def hga (z : HL) : Prop := ¬ z.2.2.2.1 = [] ∨ ¬ z.2.2.2.2 = none
/-- the places; x: a PID whose section has a place and no byte yet -/
def slR (L : Nat → HL) (x : Option Nat) (sP sY sZ kd wa su : Nat → Int32) (ti : Nat → Int64) : Prop :=
  (∀ k, k < 24 → sP k = -1 ∨ ∃ q, q < 8192 ∧ sP k = nI q ∧ (hga (L q) ∨ x = some q))
  ∧ (∀ k j, k < 24 → j < 24 → sP k = sP j → ¬ sP k = -1 → k = j)
  ∧ (∀ q, q < 8192 → (¬ (L q).2.2.2.1 = [] ∨ x = some q) → ∃ k, k < 24 ∧ sP k = nI q ∧ sZ k = nI (L q).2.2.2.1.length ∧ slB sY k ((L q).2.2.2.1.map nI))
  ∧ (∀ q g, q < 8192 → (L q).2.2.2.2 = some g → ∃ k, k < 24 ∧ sP k = nI q ∧ hgR q k g sZ kd wa su ti)
theorem hga_gz (z : HL) : ¬ hga (huGz z) := fun h => h.elim (fun q => q rfl) (fun q => q rfl)
theorem gz_id {z : HL} (h : ¬ hga z) : huGz z = z := by
  obtain ⟨a, b, c, d, e⟩ := z
  have h1 : d = [] := Classical.not_not.mp (fun q => h (Or.inl q))
  have h2 : e = none := Classical.not_not.mp (fun q => h (Or.inr q))
  subst h1 h2
  rfl
theorem hn1_no {z : HL} (h : ¬ hga z) : huN1 z = 0 := by
  rw [← gz_id h]
  rfl
theorem hn1_yes {z : HL} (h : hga z) (hx : z.2.2.2.1 = [] ∨ z.2.2.2.2 = none) : huN1 z = 1 := by
  obtain ⟨a, b, c, d, e⟩ := z
  unfold huN1
  rcases hx with hx | hx
  · have hx : d = [] := hx
    subst hx
    cases e with
    | none => exact h.elim (fun q => absurd rfl q) (fun q => absurd rfl q)
    | some g => rfl
  · have hx : e = none := hx
    subst hx
    cases d with
    | nil => exact h.elim (fun q => absurd rfl q) (fun q => absurd rfl q)
    | cons y d => rfl
section SL
variable {L : Nat → HL} {x : Option Nat} {sP sY sZ kd wa su : Nat → Int32} {ti : Nat → Int64}
theorem sl_at (h : slR L x sP sY sZ kd wa su ti) {p k : Nat} (hk : k < 24) (he : sP k = nI p) (hp : p < 8192) : slG sP (nI p) 24 = nI k := by
  rcases slG_cs sP (nI p) 24 (Nat.le_refl _) with ⟨-, h2⟩ | ⟨j, -, hj, h2, h3⟩
  · exact absurd he (h2 k (by omega) hk)
  · have := h.2.1 j k hj hk (h3.trans he.symm) (by rw [h3]; exact nI_neN (by omega))
    rw [h2, this]
theorem sl_ne {p : Nat} (hp : p < 8192) (hno : ∀ k, k < 24 → ¬ sP k = nI p) : slG sP (nI p) 24 = -1 := by
  rcases slG_cs sP (nI p) 24 (Nat.le_refl _) with ⟨h1, -⟩ | ⟨j, -, hj, h2, h3⟩
  · exact h1
  · exact absurd h3 (hno j hj)
theorem sq_no (h : slR L x sP sY sZ kd wa su ti) {p : Nat} (hp : p < 8192) (hg : ¬ hga (L p)) (hx : ¬ x = some p) : ∀ k, k < 24 → ¬ sP k = nI p := by
  intro k hk he
  rcases h.1 k hk with q | ⟨q, hq, hq2, hq3⟩
  · rw [he] at q; exact nI_neN (by omega) q
  · have : q = p := (nI_eq (by omega) (by omega)).mp (hq2.symm.trans he)
    subst this
    exact hq3.elim hg hx
theorem sl_yes (h : slR L x sP sY sZ kd wa su ti) {p : Nat} (hp : p < 8192) (hg : hga (L p) ∨ x = some p) : ∃ k, k < 24 ∧ sP k = nI p := by
  by_cases c : ¬ (L p).2.2.2.1 = [] ∨ x = some p
  · obtain ⟨k, h1, h2, -⟩ := h.2.2.1 p hp c
    exact ⟨k, h1, h2⟩
  · have h2 : ¬ (L p).2.2.2.2 = none := by
      rcases hg with (q | q) | q
      · exact absurd (Or.inl q) c
      · exact q
      · exact absurd (Or.inr q) c
    cases hc : (L p).2.2.2.2 with
    | none => exact absurd hc h2
    | some g =>
      obtain ⟨k, h1, h3, -⟩ := h.2.2.2 p g hp hc
      exact ⟨k, h1, h3⟩
/-- a place is freed -/
theorem sl_rm (h : slR L x sP sY sZ kd wa su ti) {p k : Nat} {z : HL} (hk : k < 24) (he : sP k = nI p) (hp : p < 8192) (hx : x = none ∨ x = some p) (hz : ¬ hga z) : slR (va_up L p z) none (upd sP k (-1)) sY sZ kd wa su ti := by
  have hz1 : z.2.2.2.1 = [] := Classical.not_not.mp (fun q => hz (Or.inl q))
  have hz2 : z.2.2.2.2 = none := Classical.not_not.mp (fun q => hz (Or.inr q))
  refine ⟨fun j hj => ?_, fun i j hi hj he2 hne => ?_, fun q hq hs => ?_, fun q g hq hg => ?_⟩
  · by_cases c : j = k
    · rw [c, pk_us]; exact Or.inl rfl
    · rw [pk_un c]
      rcases h.1 j hj with q | ⟨q, hq, hq2, hq3⟩
      · exact Or.inl q
      · refine Or.inr ⟨q, hq, hq2, Or.inl ?_⟩
        have hqp : q ≠ p := fun q2 => c (h.2.1 j k hj hk (by rw [hq2, he, q2]) (by rw [hq2]; exact nI_neN (by omega)))
        rw [va_up_ne _ _ hqp]
        rcases hq3 with q3 | q3
        · exact q3
        · rcases hx with hx | hx
          · rw [hx] at q3; cases q3
          · rw [hx] at q3; exact absurd (Option.some.inj q3).symm hqp
  · by_cases c1 : i = k
    · rw [c1, pk_us] at hne; exact absurd rfl hne
    · by_cases c2 : j = k
      · rw [pk_un c1] at he2 hne
        rw [c2, pk_us] at he2
        exact absurd he2 hne
      · rw [pk_un c1, pk_un c2] at he2
        rw [pk_un c1] at hne
        exact h.2.1 i j hi hj he2 hne
  · by_cases c : q = p
    · rw [c, va_up_self] at hs
      exact hs.elim (fun q => absurd hz1 q) (fun q => by cases q)
    · rw [va_up_ne _ _ c] at hs ⊢
      obtain ⟨j, h1, h2, h3⟩ := h.2.2.1 q hq (hs.imp id (fun q => by cases q))
      have cj : j ≠ k := fun q2 => c ((nI_eq (by omega) (by omega)).mp (h2.symm.trans (by rw [q2]; exact he)))
      exact ⟨j, h1, by rw [pk_un cj]; exact h2, h3⟩
  · by_cases c : q = p
    · rw [c, va_up_self, hz2] at hg; cases hg
    · rw [va_up_ne _ _ c] at hg
      obtain ⟨j, h1, h2, h3⟩ := h.2.2.2 q g hq hg
      have cj : j ≠ k := fun q2 => c ((nI_eq (by omega) (by omega)).mp (h2.symm.trans (by rw [q2]; exact he)))
      exact ⟨j, h1, by rw [pk_un cj]; exact h2, h3⟩
/-- giving up -/
theorem hr_gu (h : slR L none sP sY sZ kd wa su ti) {p : Nat} {tl : Nat → Int32} (hp : p < 8192) (hx : (L p).2.2.2.1 = [] ∨ (L p).2.2.2.2 = none) : slR (va_up L p (huGz (L p))) none (gvU (sP, tl) (nI p)).1 sY sZ kd wa su ti ∧ (gvU (sP, tl) (nI p)).2 = addc tl (huN1 (L p)) ∧ ∀ k, k < 24 → ¬ (gvU (sP, tl) (nI p)).1 k = nI p := by
  unfold gvU
  by_cases c : hga (L p)
  · obtain ⟨k, hk, he⟩ := sl_yes h hp (Or.inl c)
    have hs := sl_at h hk he hp
    rw [hs, if_neg (nI_neN (by omega)), nI_clamp (by omega), hn1_yes c hx]
    refine ⟨sl_rm h hk he hp (Or.inl rfl) (hga_gz _), rfl, fun j hj hje => ?_⟩
    have hje : upd sP k (-1) j = nI p := hje
    by_cases c2 : j = k
    · rw [c2, pk_us] at hje
      exact nI_neN (by omega) hje.symm
    · rw [pk_un c2] at hje
      exact c2 (h.2.1 j k hj hk (hje.trans he.symm) (by rw [hje]; exact nI_neN (by omega)))
  · have hno := sq_no h hp c (by intro q; cases q)
    rw [sl_ne hp hno, if_pos rfl, gz_id c, vu_id, hn1_no c, addc_0]
    exact ⟨h, rfl, hno⟩
/-- a new place for a section -/
theorem hr_ns (h : slR L none sP sY sZ kd wa su ti) {p k : Nat} (hk : k < 24) (hf : sP k = -1) (hp : p < 8192) (hg : ¬ hga (L p)) : slR L (some p) (upd sP k (nI p)) sY (upd sZ k 0) kd wa su ti := by
  have hno := sq_no h hp hg (by intro q; cases q)
  have h0 : (L p).2.2.2.1 = [] := Classical.not_not.mp (fun q => hg (Or.inl q))
  refine ⟨fun j hj => ?_, fun i j hi hj he2 hne => ?_, fun q hq hs => ?_, fun q g hq hg2 => ?_⟩
  · by_cases c : j = k
    · rw [c, pk_us]; exact Or.inr ⟨p, hp, rfl, Or.inr rfl⟩
    · rw [pk_un c]
      rcases h.1 j hj with q | ⟨q, hq, hq2, hq3⟩
      · exact Or.inl q
      · exact Or.inr ⟨q, hq, hq2, hq3.imp id (fun q => by cases q)⟩
  · by_cases c1 : i = k
    · by_cases c2 : j = k
      · omega
      · rw [c1, pk_us, pk_un c2] at he2
        exact absurd he2.symm (hno j hj)
    · by_cases c2 : j = k
      · rw [c2, pk_us, pk_un c1] at he2
        exact absurd he2 (hno i hi)
      · rw [pk_un c1, pk_un c2] at he2
        rw [pk_un c1] at hne
        exact h.2.1 i j hi hj he2 hne
  · by_cases c : q = p
    · subst c
      refine ⟨k, hk, pk_us, ?_, ?_⟩
      · rw [h0]; exact pk_us
      · rw [h0]; exact fun i hi => absurd hi (Nat.not_lt_zero _)
    · obtain ⟨j, h1, h2, h3, h4⟩ := h.2.2.1 q hq (Or.inl (hs.resolve_right (fun q2 => c (Option.some.inj q2).symm)))
      have cj : j ≠ k := fun q2 => by rw [q2, hf] at h2; exact nI_neN (by omega) h2.symm
      exact ⟨j, h1, by rw [pk_un cj]; exact h2, by rw [pk_un cj]; exact h3, h4⟩
  · obtain ⟨j, h1, h2, h3⟩ := h.2.2.2 q g hq hg2
    have cj : j ≠ k := fun q2 => by rw [q2, hf] at h2; exact nI_neN (by omega) h2.symm
    refine ⟨j, h1, by rw [pk_un cj]; exact h2, ?_⟩
    unfold hgR
    rw [pk_un cj]
    exact h3
/-- a section's place has other bytes -/
theorem hr_gr (h : slR L x sP sY sZ kd wa su ti) {p k : Nat} {sY2 : Nat → Int32} {X : List Nat} {x2 : Option Nat} (hk : k < 24) (he : sP k = nI p) (hp : p < 8192) (hx : x = none ∨ x = some p) (hpi : (L p).2.2.2.2 = none) (hB : slB sY2 k (X.map nI)) (hO : ∀ i, (i < 1024 * k ∨ 1024 * (k + 1) ≤ i) → sY2 i = sY i) (hl : ∀ q, q < 8192 → (L q).2.2.2.1.length ≤ 1024) (hx2 : (X = [] ∧ x2 = some p) ∨ (¬ X = [] ∧ x2 = none)) : slR (va_up L p (huSc (L p) X)) x2 sP sY2 (upd sZ k (nI X.length)) kd wa su ti := by
  have hpg : hga (huSc (L p) X) ∨ x2 = some p := hx2.elim (fun q => Or.inr q.2) (fun q => Or.inl (Or.inl q.1))
  refine ⟨fun j hj => ?_, h.2.1, fun q hq hs => ?_, fun q g hq hg2 => ?_⟩
  · rcases h.1 j hj with q | ⟨q, hq, hq2, hq3⟩
    · exact Or.inl q
    · refine Or.inr ⟨q, hq, hq2, ?_⟩
      by_cases c : q = p
      · rw [c, va_up_self]; exact hpg
      · rw [va_up_ne _ _ c]
        refine Or.inl (hq3.resolve_right (fun q3 => ?_))
        rcases hx with hx | hx
        · rw [hx] at q3; cases q3
        · rw [hx] at q3; exact c (Option.some.inj q3).symm
  · by_cases c : q = p
    · subst c
      rw [va_up_self]
      refine ⟨k, hk, he, ?_, hB⟩
      rw [pk_us]
      rfl
    · rw [va_up_ne _ _ c] at hs ⊢
      have hs2 : ¬ (L q).2.2.2.1 = [] := hs.resolve_right (fun q2 => by
        rcases hx2 with ⟨-, e⟩ | ⟨-, e⟩
        · rw [e] at q2; exact c (Option.some.inj q2).symm
        · rw [e] at q2; cases q2)
      obtain ⟨j, h1, h2, h3, h4⟩ := h.2.2.1 q hq (Or.inl hs2)
      have cj : j ≠ k := fun q2 => c ((nI_eq (by omega) (by omega)).mp (h2.symm.trans (by rw [q2]; exact he)))
      refine ⟨j, h1, h2, by rw [pk_un cj]; exact h3, fun i hi => ?_⟩
      rw [hO _ (by
        have := hl q hq
        rw [List.length_map] at hi
        omega)]
      exact h4 i hi
  · by_cases c : q = p
    · subst c
      rw [va_up_self] at hg2
      have : (L q).2.2.2.2 = some g := hg2
      rw [hpi] at this; cases this
    · rw [va_up_ne _ _ c] at hg2
      obtain ⟨j, h1, h2, h3⟩ := h.2.2.2 q g hq hg2
      have cj : j ≠ k := fun q2 => c ((nI_eq (by omega) (by omega)).mp (h2.symm.trans (by rw [q2]; exact he)))
      refine ⟨j, h1, h2, ?_⟩
      unfold hgR
      rw [pk_un cj]
      exact h3
end SL
/-! Giving up all others -/
theorem hn_congr {L L2 : Nat → HL} {p : Nat} : ∀ m, (∀ q, q < m → q ≠ p → huN1 (L q) = huN1 (L2 q)) → huNn L p m = huNn L2 p m
  | 0, _ => rfl
  | m + 1, h => by
    rw [huNn, huNn, hn_congr m (fun q hq => h q (by omega))]
    by_cases c : m = p
    · rw [if_pos c, if_pos c]
    · rw [if_neg c, if_neg c, h m (by omega) c]
/-- the lanes that the first j places know -/
def huLj (L : Nat → HL) (sP : Nat → Int32) : Nat → Nat → HL
  | 0 => fun q => huGz (L q)
  | j + 1 => if sP j = -1 then huLj L sP j else va_up (huLj L sP j) (sP j).toNatClampNeg (L (sP j).toNatClampNeg)
theorem lj_at {L : Nat → HL} {sP : Nat → Int32} : ∀ j, j ≤ 24 → (∀ k, k < j → sP k = -1 ∨ ∃ q, q < 8192 ∧ sP k = nI q) → ∀ q, q < 8192 → ((∃ k, k < j ∧ sP k = nI q) → huLj L sP j q = L q) ∧ ((∀ k, k < j → ¬ sP k = nI q) → huLj L sP j q = huGz (L q))
  | 0, _, _, q, _ => ⟨fun ⟨k, h, _⟩ => absurd h (Nat.not_lt_zero _), fun _ => rfl⟩
  | j + 1, hj, hs, q, hq => by
    have ih := lj_at (L := L) j (by omega) (fun k hk => hs k (by omega)) q hq
    rw [huLj]
    rcases hs j (by omega) with h1 | ⟨p, hp, h1⟩
    · rw [if_pos h1]
      refine ⟨fun ⟨k, hk, he⟩ => ih.1 ⟨k, ?_, he⟩, fun h => ih.2 (fun k hk => h k (by omega))⟩
      by_cases c : k = j
      · rw [c, h1] at he; exact absurd he.symm (nI_neN (by omega))
      · omega
    · rw [if_neg (by rw [h1]; exact nI_neN (by omega)), h1, nI_clamp (by omega)]
      by_cases c : q = p
      · rw [c, va_up_self]
        exact ⟨fun _ => rfl, fun h => absurd h1 (h j (by omega))⟩
      · rw [va_up_ne _ _ c]
        refine ⟨fun ⟨k, hk, he⟩ => ih.1 ⟨k, ?_, he⟩, fun h => ih.2 (fun k hk => h k (by omega))⟩
        by_cases c2 : k = j
        · rw [c2, h1] at he; exact absurd ((nI_eq (by omega) (by omega)).mp he).symm c
        · omega
/-- how many of the first j places are others' -/
def cntP (sP : Nat → Int32) (v : Int32) : Nat → Int32
  | 0 => 0
  | j + 1 => cntP sP v j + (if sP j = -1 ∨ sP j = v then 0 else 1)
theorem go_at {L : Nat → HL} {sP sY sZ kd wa su tl : Nat → Int32} {ti : Nat → Int64} (h : slR L none sP sY sZ kd wa su ti) {p : Nat} (hp : p < 8192) : ∀ j, j ≤ 24 → (∀ k, k < 24 → (goU (sP, tl) (nI p) j).1 k = if k < j ∧ ¬ sP k = nI p then -1 else sP k) ∧ (goU (sP, tl) (nI p) j).2 = addc tl (cntP sP (nI p) j)
  | 0, _ => ⟨fun k hk => by rw [if_neg (by omega)]; rfl, (addc_0 tl).symm⟩
  | j + 1, hj => by
    obtain ⟨h1, h2⟩ := go_at h hp (tl := tl) j (by omega)
    have hjj : (goU (sP, tl) (nI p) j).1 j = sP j := by rw [h1 j (by omega), if_neg (by omega)]
    rw [goU, cntP, hjj]
    by_cases c : sP j = -1 ∨ sP j = nI p
    · rw [if_pos c, if_pos c, Int32.add_zero]
      refine ⟨fun k hk => ?_, h2⟩
      rw [h1 k hk]
      by_cases c2 : k = j
      · subst c2
        rw [if_neg (by omega)]
        by_cases c3 : sP k = nI p
        · rw [if_neg (fun q => q.2 c3)]
        · rw [if_pos ⟨by omega, c3⟩]; exact c.resolve_right c3
      · exact if_iff ⟨fun q => ⟨by omega, q.2⟩, fun q => ⟨by omega, q.2⟩⟩ _ _
    · rw [if_neg c, if_neg c]
      have hsl : slG (goU (sP, tl) (nI p) j).1 (sP j) 24 = nI j := by
        rcases slG_cs (goU (sP, tl) (nI p) j).1 (sP j) 24 (Nat.le_refl _) with ⟨-, g2⟩ | ⟨i, -, hi, g2, g3⟩
        · exact absurd hjj (g2 j (by omega) (by omega))
        · rw [g2]
          rw [h1 i hi] at g3
          by_cases c2 : i < j ∧ ¬ sP i = nI p
          · rw [if_pos c2] at g3
            exact absurd (Or.inl g3.symm) c
          · rw [if_neg c2] at g3
            rw [h.2.1 i j hi (by omega) g3 (by rw [g3]; exact fun q => c (Or.inl q))]
      unfold gvU
      rw [hsl, if_neg (nI_neN (by omega)), nI_clamp (by omega)]
      refine ⟨fun k hk => ?_, ?_⟩
      · show upd (goU (sP, tl) (nI p) j).1 j (-1) k = _
        by_cases c2 : k = j
        · subst c2
          rw [pk_us, if_pos ⟨by omega, fun q => c (Or.inr q)⟩]
        · rw [pk_un c2, h1 k hk]
          exact if_iff ⟨fun q => ⟨by omega, q.2⟩, fun q => ⟨by omega, q.2⟩⟩ _ _
      · show addc (goU (sP, tl) (nI p) j).2 1 = _
        rw [h2, addc_add]
theorem cnt_hn {L : Nat → HL} {sP sY sZ kd wa su : Nat → Int32} {ti : Nat → Int64} (h : slR L none sP sY sZ kd wa su ti) (hx : ∀ q, q < 8192 → (L q).2.2.2.1 = [] ∨ (L q).2.2.2.2 = none) {p : Nat} (hp : p < 8192) : ∀ j, j ≤ 24 → cntP sP (nI p) j = huNn (huLj L sP j) p 8192
  | 0, _ => by
    have : ∀ m, huNn (huLj L sP 0) p m = 0 := by
      intro m
      induction m with
      | zero => rfl
      | succ m ih =>
        rw [huNn, ih]
        show 0 + (if m = p then 0 else huN1 (huGz (L m))) = 0
        rw [hn1_no (hga_gz _)]
        by_cases c : m = p
        · rw [if_pos c]; rfl
        · rw [if_neg c]; rfl
    rw [this]
    rfl
  | j + 1, hj => by
    rw [cntP, cnt_hn h hx hp j (by omega), huLj]
    have hs : ∀ k, k < j → sP k = -1 ∨ ∃ q, q < 8192 ∧ sP k = nI q := fun k hk => (h.1 k (by omega)).imp id (fun ⟨q, h1, h2, _⟩ => ⟨q, h1, h2⟩)
    rcases h.1 j (by omega) with h1 | ⟨q, hq, h1, h2⟩
    · rw [if_pos (Or.inl h1), if_pos h1, Int32.add_zero]
    · have hne : ¬ sP j = -1 := by rw [h1]; exact nI_neN (by omega)
      rw [if_neg hne]
      have hc : (sP j).toNatClampNeg = q := by rw [h1, nI_clamp (by omega)]
      rw [hc]
      have hg : hga (L q) := h2.resolve_right (by intro z; cases z)
      have hl : huLj L sP j q = huGz (L q) := (lj_at j (by omega) hs q hq).2 (fun k hk he => by
        have := h.2.1 k j (by omega) (by omega) (he.trans h1.symm) (by rw [he]; exact nI_neN (by omega))
        omega)
      rw [hn_up (by rw [hl]; exact hn1_no (hga_gz _)), hn1_yes hg (hx q hq)]
      congr 1
      by_cases c : q = p
      · rw [if_pos (Or.inr (by rw [h1, c])), if_neg (fun z => z.2 c)]
      · rw [if_neg (fun z => z.elim hne (fun z => c ((nI_eq (by omega) (by omega)).mp (h1.symm.trans z)))), if_pos ⟨hq, c⟩]
/-- giving up all others -/
theorem hr_go {L : Nat → HL} {sP sY sZ kd wa su tl : Nat → Int32} {ti : Nat → Int64} (h : slR L none sP sY sZ kd wa su ti) (hx : ∀ q, q < 8192 → (L q).2.2.2.1 = [] ∨ (L q).2.2.2.2 = none) {p : Nat} (hp : p < 8192) (hg : ¬ hga (L p)) : slR (fun q => if q = p then L p else huGz (L q)) none (goU (sP, tl) (nI p) 24).1 sY sZ kd wa su ti ∧ (goU (sP, tl) (nI p) 24).2 = addc tl (huNn L p 8192) := by
  obtain ⟨h1, h2⟩ := go_at h hp (tl := tl) 24 (Nat.le_refl _)
  have hno := sq_no h hp hg (by intro q; cases q)
  have hall : ∀ k, k < 24 → (goU (sP, tl) (nI p) 24).1 k = -1 := fun k hk => by
    rw [h1 k hk, if_pos ⟨hk, hno k hk⟩]
  have hgz : ∀ q, ¬ hga (if q = p then L p else huGz (L q)) := fun q => by
    by_cases c : q = p
    · rw [if_pos c]; exact hg
    · rw [if_neg c]; exact hga_gz _
  refine ⟨⟨fun k hk => Or.inl (hall k hk), fun i j hi hj _ hne => absurd (hall i hi) hne, fun q hq hs => ?_, fun q g hq hg2 => ?_⟩, ?_⟩
  · exact absurd (Or.inl (hs.resolve_right (by intro z; cases z))) (hgz q)
  · exact absurd (Or.inr (by rw [hg2]; intro z; cases z)) (hgz q)
  · rw [h2, cnt_hn h hx hp 24 (Nat.le_refl _)]
    refine congrArg (addc tl) (hn_congr 8192 ?_)
    intro q hq _
    have hs : ∀ k, k < 24 → sP k = -1 ∨ ∃ q, q < 8192 ∧ sP k = nI q := fun k hk => (h.1 k hk).imp id (fun ⟨q, h1, h2, _⟩ => ⟨q, h1, h2⟩)
    by_cases c : hga (L q)
    · obtain ⟨k, hk, he⟩ := sl_yes h hq (Or.inl c)
      rw [(lj_at 24 (Nat.le_refl _) hs q hq).1 ⟨k, hk, he⟩]
    · rw [(lj_at 24 (Nat.le_refl _) hs q hq).2 (sq_no h hq c (by intro z; cases z)), hn1_no (hga_gz _), hn1_no c]


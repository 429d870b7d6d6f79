/-! The reference's packet in the hub, all of it -/
theorem huId_lt {b : Nat → Nat} (hb : ∀ j, b j < 256) : huId b < 8192 := by
  have := hb 2
  unfold huId
  omega
/-- all that holds of the hub's state; M: packets so far -/
def hM (M : Nat) (A : HS) : Prop := hI A ∧ hC A ∧ hB (188 * M) A
theorem hC_up {A B : HS} {p : Nat} {z : HL} (h : hC A) (hB9 : B.2.1 = va_up A.2.1 p z) (hz : (z.1 = -1 ∨ ∃ c, c < 16 ∧ z.1 = nI c) ∧ (z.2.1 = 0 ∨ z.2.1 = 1)) : hC B := by
  intro q hq
  rw [hB9]
  by_cases c : q = p
  · rw [c, va_up_self]; exact hz
  · rw [va_up_ne _ _ c]; exact h q hq
theorem hC_same {A B : HS} (h : hC A) (he : ∀ q, q < 8192 → (B.2.1 q).1 = (A.2.1 q).1 ∧ (B.2.1 q).2.1 = (A.2.1 q).2.1) : hC B := by
  intro q hq
  rw [(he q hq).1, (he q hq).2]
  exact h q hq
theorem hB_le {N M : Nat} {A : HS} (h : hB N A) (hl : N ≤ M) : hB M A := fun p g hp hg => by
  obtain ⟨b, h1, h2⟩ := h p g hp hg
  exact ⟨b, by omega, h2⟩
theorem hB_sub {N : Nat} {A B : HS} (h : hB N A) (he : ∀ q, q < 8192 → (B.2.1 q).2.2.2.2 = none ∨ (B.2.1 q).2.2.2.2 = (A.2.1 q).2.2.2.2) : hB N B := fun p g hp hg => by
  rcases he p hp with q | q
  · rw [q] at hg; cases hg
  · rw [q] at hg; exact h p g hp hg
/-- what sections leave of lanes: counts, twins, clocks; pieces stay or go -/
def lnK (A B : HS) : Prop := ∀ q, q < 8192 → ((B.2.1 q).1, (B.2.1 q).2.1, (B.2.1 q).2.2.1) = ((A.2.1 q).1, (A.2.1 q).2.1, (A.2.1 q).2.2.1) ∧ ((B.2.1 q).2.2.2.2 = none ∨ (B.2.1 q).2.2.2.2 = (A.2.1 q).2.2.2.2)
theorem lnK_r (A : HS) : lnK A A := fun _ _ => ⟨rfl, Or.inr rfl⟩
theorem lnK_t {A B C : HS} (h1 : lnK A B) (h2 : lnK B C) : lnK A C := fun q hq => ⟨(h2 q hq).1.trans (h1 q hq).1, (h2 q hq).2.elim Or.inl (fun z => by rw [z]; exact (h1 q hq).2)⟩
theorem lnK_up {A : HS} {p : Nat} {z : HL} {tl : Nat → Int32} {R : Int32 × List PV9 × (Nat → Option HD) × (Nat → Bool)} (h1 : (z.1, z.2.1, z.2.2.1) = ((A.2.1 p).1, (A.2.1 p).2.1, (A.2.1 p).2.2.1)) (h2 : z.2.2.2.2 = none ∨ z.2.2.2.2 = (A.2.1 p).2.2.2.2) : lnK A (tl, va_up A.2.1 p z, R) := by
  intro q _
  show ((va_up A.2.1 p z q).1, (va_up A.2.1 p z q).2.1, (va_up A.2.1 p z q).2.2.1) = _ ∧ ((va_up A.2.1 p z q).2.2.2.2 = none ∨ (va_up A.2.1 p z q).2.2.2.2 = _)
  by_cases c : q = p
  · rw [c, va_up_self]; exact ⟨h1, h2⟩
  · rw [va_up_ne _ _ c]; exact ⟨rfl, Or.inr rfl⟩
theorem lnK_es (X : List Nat) (p : Nat) (A : HS) : lnK A (huEs X p A) := by
  unfold huEs
  split
  · split
    · intro q _
      show (((if q = p then huSc (A.2.1 p) [] else huGz (A.2.1 q)) : HL).1, ((if q = p then huSc (A.2.1 p) [] else huGz (A.2.1 q)) : HL).2.1, ((if q = p then huSc (A.2.1 p) [] else huGz (A.2.1 q)) : HL).2.2.1) = _ ∧ (((if q = p then huSc (A.2.1 p) [] else huGz (A.2.1 q)) : HL).2.2.2.2 = none ∨ ((if q = p then huSc (A.2.1 p) [] else huGz (A.2.1 q)) : HL).2.2.2.2 = _)
      by_cases c : q = p
      · rw [if_pos c, c]; exact ⟨rfl, Or.inr rfl⟩
      · rw [if_neg c]; exact ⟨rfl, Or.inl rfl⟩
    · exact lnK_up rfl (Or.inr rfl)
  · exact lnK_up rfl (Or.inr rfl)
theorem lnK_gu (p : Nat) (A : HS) : lnK A (huGu p A) := lnK_up rfl (Or.inl rfl)
theorem lnK_gr (b : Nat → Nat) (a e p : Nat) (A : HS) : lnK A (huGr b a e p A).2 := by
  unfold huGr
  split
  · exact lnK_up rfl (Or.inr rfl)
  · split
    · exact lnK_up rfl (Or.inl rfl)
    · exact lnK_es _ p (huRp p A)
theorem lnK_ul (b : Nat → Nat) (p : Nat) : ∀ (m i : Nat) (A : HS), lnK A (huUl b p m i A)
  | 0, _, A => lnK_r A
  | m + 1, i, A => by
    rw [huUl]
    split
    · have h := lnK_gr b i 188 p A
      split
      · rename_i A1 he
        rw [he] at h
        exact h
      · rename_i j A1 he
        rw [he] at h
        exact lnK_t h (lnK_ul b p m j A1)
    · exact lnK_r A
theorem lnK_se (b : Nat → Nat) (p : Nat) (A : HS) : lnK A (huSe b p A) := by
  unfold huSe
  split
  · split
    · exact lnK_r A
    · exact lnK_gr _ _ _ _ _
  · split
    · exact lnK_gu p A
    · split
      · exact lnK_ul _ _ _ _ _
      · have h := lnK_gr b (huPay b + 1) (huPay b + 1 + b (huPay b)) p A
        split
        · rename_i A1 he
          rw [he] at h
          exact h
        · rename_i j A1 he
          rw [he] at h
          exact lnK_t h (lnK_t (lnK_gu p A1) (lnK_ul _ _ _ _ _))
/-- what a packet's piece leaves of lanes -/
def lnP (p : Nat) (A B : HS) : Prop := ∀ q, q < 8192 → ((B.2.1 q).1, (B.2.1 q).2.1, (B.2.1 q).2.2.1) = ((A.2.1 q).1, (A.2.1 q).2.1, (A.2.1 q).2.2.1) ∧ (q ≠ p → (B.2.1 q).2.2.2.2 = (A.2.1 q).2.2.2.2)
theorem lnP_t {p : Nat} {A B C : HS} (h1 : lnP p A B) (h2 : lnP p B C) : lnP p A C := fun q hq => ⟨(h2 q hq).1.trans (h1 q hq).1, fun c => ((h2 q hq).2 c).trans ((h1 q hq).2 c)⟩
theorem lnP_up {A : HS} {p : Nat} {z : HL} {tl : Nat → Int32} {R : Int32 × List PV9 × (Nat → Option HD) × (Nat → Bool)} (h1 : (z.1, z.2.1, z.2.2.1) = ((A.2.1 p).1, (A.2.1 p).2.1, (A.2.1 p).2.2.1)) : lnP p A (tl, va_up A.2.1 p z, R) := by
  intro q _
  show ((va_up A.2.1 p z q).1, (va_up A.2.1 p z q).2.1, (va_up A.2.1 p z q).2.2.1) = _ ∧ (q ≠ p → (va_up A.2.1 p z q).2.2.2.2 = _)
  by_cases c : q = p
  · rw [c, va_up_self]; exact ⟨h1, fun z => absurd rfl z⟩
  · rw [va_up_ne _ _ c]; exact ⟨rfl, fun _ => rfl⟩
theorem lnP_r (p : Nat) (A : HS) : lnP p A A := fun _ _ => ⟨rfl, fun _ => rfl⟩
theorem lnP_dn (p : Nat) (g : HP) (A : HS) : lnP p A (huDn p g A) := lnP_up rfl
theorem lnP_ep (p : Nat) (A : HS) : lnP p A (huEp p A) := by
  unfold huEp
  split
  · split
    · exact lnP_dn _ _ _
    · exact lnP_up rfl
  · exact lnP_up rfl
theorem lnP_bp (b : Nat → Nat) (i p : Nat) (A : HS) : lnP p A (huBp b i p A).2 := by
  unfold huBp
  split
  · exact lnP_up rfl
  · exact lnP_r p A
theorem lnP_gt (b : Nat → Nat) (i p : Nat) (A : HS) : lnP p A (huGt b i p A) := by
  unfold huGt
  split
  · exact lnP_r p A
  · split
    · exact lnP_dn _ _ _
    · exact lnP_up rfl
theorem lnP_pi (b : Nat → Nat) (p : Nat) (A : HS) : lnP p A (huPi b p A) := by
  unfold huPi
  split
  · exact lnP_gt _ _ _ _
  · exact lnP_t (lnP_ep p A) (lnP_t (lnP_bp b (huPay b) p (huEp p A)) (lnP_gt _ _ _ _))
/-- how many bytes a piece gains -/
theorem ga_le (b : Nat → Nat) : ∀ (m i : Nat) (g : Int32 × Int32 × Int32) (x : Nat), g.1 = nI x → ∃ y, y ≤ x + m ∧ (huGa b m i g).1 = nI y
  | 0, i, g, x, h => ⟨x, Nat.le_refl _, h⟩
  | m + 1, i, g, x, h => by
    rw [huGa]
    split
    · exact ⟨x, by omega, h⟩
    · obtain ⟨y, h1, h2⟩ := ga_le b m (i + 1) (g.1 + 1, 31 * g.2.1 + nI (b i), if g.2.2 ≤ 0 then g.2.2 else g.2.2 - 1) (x + 1) (by show g.1 + 1 = _; rw [h, nI_1])
      exact ⟨y, by omega, h2⟩
theorem hB_gt {N : Nat} {b : Nat → Nat} {i p : Nat} {A : HS} (hp : p < 8192) (h : hB N A) : hB (N + 188) (huGt b i p A) := by
  unfold huGt
  cases hc : (A.2.1 p).2.2.2.2 with
  | none => exact hB_le h (by omega)
  | some g =>
    show hB (N + 188) (if (huGa b (188 - i) i g.2.2.2).2.2 = 0 then _ else _)
    split
    · refine hB_le (N := N) (hB_sub h (fun q hq => ?_)) (by omega)
      show (va_up A.2.1 p _ q).2.2.2.2 = none ∨ (va_up A.2.1 p _ q).2.2.2.2 = _
      by_cases c : q = p
      · rw [c, va_up_self]; exact Or.inl rfl
      · rw [va_up_ne _ _ c]; exact Or.inr rfl
    · intro q g2 hq hg
      have hg : (va_up A.2.1 p (huPs (A.2.1 p) (some (g.1, g.2.1, g.2.2.1, huGa b (188 - i) i g.2.2.2))) q).2.2.2.2 = some g2 := hg
      by_cases c : q = p
      · rw [c, va_up_self] at hg
        have e : (g.1, g.2.1, g.2.2.1, huGa b (188 - i) i g.2.2.2) = g2 := Option.some.inj hg
        obtain ⟨x, hx, hxe⟩ := h p g hp hc
        obtain ⟨y, hy, hye⟩ := ga_le b (188 - i) i g.2.2.2 x hxe
        refine ⟨y, by omega, ?_⟩
        rw [← e]
        exact hye
      · rw [va_up_ne _ _ c] at hg
        obtain ⟨x, hx, hxe⟩ := h q g2 hq hg
        exact ⟨x, by omega, hxe⟩
theorem hB_ep {N p : Nat} {A : HS} (h : hB N A) : hB N (huEp p A) := by
  have hu : hB N (huGu p A) := hB_sub h (fun q hq => by
    show (va_up A.2.1 p (huGz (A.2.1 p)) q).2.2.2.2 = none ∨ (va_up A.2.1 p (huGz (A.2.1 p)) q).2.2.2.2 = _
    by_cases c : q = p
    · rw [c, va_up_self]; exact Or.inl rfl
    · rw [va_up_ne _ _ c]; exact Or.inr rfl)
  unfold huEp
  split
  · split
    · refine hB_sub h (fun q hq => ?_)
      show (va_up A.2.1 p (huPs (A.2.1 p) none) q).2.2.2.2 = none ∨ (va_up A.2.1 p (huPs (A.2.1 p) none) q).2.2.2.2 = _
      by_cases c : q = p
      · rw [c, va_up_self]; exact Or.inl rfl
      · rw [va_up_ne _ _ c]; exact Or.inr rfl
    · exact hu
  · exact hu
theorem hB_bp {N : Nat} {b : Nat → Nat} {i p : Nat} {A : HS} (h : hB N A) : hB N (huBp b i p A).2 := by
  unfold huBp
  split
  · intro q g hq hg
    have hg : (va_up A.2.1 p (huPs (A.2.1 p) (some (nI p, nI (b (i + 3)), huBz b i, 0, 0, huBu b i))) q).2.2.2.2 = some g := hg
    by_cases c : q = p
    · rw [c, va_up_self] at hg
      have e : (nI p, nI (b (i + 3)), huBz b i, 0, 0, huBu b i) = g := Option.some.inj hg
      rw [← e]
      exact ⟨0, Nat.zero_le _, rfl⟩
    · rw [va_up_ne _ _ c] at hg
      exact h q g hq hg
  · exact h
theorem hB_pi {N : Nat} {b : Nat → Nat} {p : Nat} {A : HS} (hp : p < 8192) (h : hB N A) : hB (N + 188) (huPi b p A) := by
  unfold huPi
  split
  · exact hB_gt hp h
  · exact hB_gt hp (hB_bp (hB_ep h))
/-- pieces keep the invariant -/
theorem hI_gt {b : Nat → Nat} {i p : Nat} {A : HS} (hA : hI A) (hp : p < 8192) (hu : huUs A.2.2.2.1 p = 4) : hI (huGt b i p A) := by
  unfold huGt
  split
  · exact hA
  · split
    · exact hI_ps hA hp hu (fun _ => rfl)
    · exact hI_ps hA hp hu (fun _ => rfl)
theorem hI_ep {p : Nat} {A : HS} (hA : hI A) (hp : p < 8192) (hu : huUs A.2.2.2.1 p = 4) : hI (huEp p A) ∧ huUs (huEp p A).2.2.2.1 p = 4 := by
  have hg : hI (huGu p A) := by
    unfold huGu
    rw [gz_ps (hI_sec hA hp hu)]
    exact hI_ps hA hp hu (fun _ => rfl)
  unfold huEp
  split
  · split
    · exact ⟨hI_ps hA hp hu (fun _ => rfl), hu⟩
    · exact ⟨hg, hu⟩
  · exact ⟨hg, hu⟩
theorem hI_bp {b : Nat → Nat} {i p : Nat} {A : HS} (hA : hI A) (hp : p < 8192) (hu : huUs A.2.2.2.1 p = 4) : hI (huBp b i p A).2 ∧ huUs (huBp b i p A).2.2.2.2.1 p = 4 := by
  unfold huBp
  split
  · have hm : ∀ q, huUs (if huBm b i then huMn A.2.2.2.1 p (lN (huTm b (i + 9))) else A.2.2.2.1) q = huUs A.2.2.2.1 q := fun q => by
      split
      · exact us_mn _ _ _ _
      · rfl
    exact ⟨hI_ps hA hp hu hm, (hm p).trans hu⟩
  · exact ⟨hA, hu⟩
theorem hI_pi {b : Nat → Nat} {p : Nat} {A : HS} (hA : hI A) (hp : p < 8192) (hu : huUs A.2.2.2.1 p = 4) : hI (huPi b p A) := by
  unfold huPi
  split
  · exact hI_gt hA hp hu
  · have h1 := hI_ep hA hp hu
    have h2 := hI_bp (b := b) (i := huPay b) h1.1 hp h1.2
    exact hI_gt h2.1 hp h2.2


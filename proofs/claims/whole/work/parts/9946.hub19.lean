/-! The reference's packet in the hub -/
theorem sl_eq {L L2 : Nat → HL} {x : Option Nat} {sP sY sZ kd wa su : Nat → Int32} {ti : Nat → Int64} (h : slR L x sP sY sZ kd wa su ti) (he : ∀ q, q < 8192 → (L2 q).2.2.2 = (L q).2.2.2) : slR L2 x sP sY sZ kd wa su ti := by
  have h1 : ∀ q, q < 8192 → (L2 q).2.2.2.1 = (L q).2.2.2.1 := fun q hq => by rw [he q hq]
  have h2 : ∀ q, q < 8192 → (L2 q).2.2.2.2 = (L q).2.2.2.2 := fun q hq => by rw [he q hq]
  refine ⟨fun k hk => (h.1 k hk).imp id (fun ⟨q, hq, a, b⟩ => ⟨q, hq, a, b.imp (fun z => by unfold hga; rw [h1 q hq, h2 q hq]; exact z) id⟩), h.2.1, fun q hq hs => ?_, fun q g hq hg => ?_⟩
  · rw [h1 q hq] at hs ⊢
    exact h.2.2.1 q hq hs
  · rw [h2 q hq] at hg
    exact h.2.2.2 q g hq hg
theorem hI_eq {A B : HS} (h : hI A) (hV : B.2.2.2.1 = A.2.2.2.1) (he : ∀ q, q < 8192 → (B.2.1 q).2.2.2 = (A.2.1 q).2.2.2) : hI B := by
  intro q hq
  rw [hV]
  have := h q hq
  unfold hI1 at this ⊢
  rw [he q hq]
  exact this
/-- counts and twins -/
def hC (A : HS) : Prop := ∀ p, p < 8192 → ((A.2.1 p).1 = -1 ∨ ∃ c, c < 16 ∧ (A.2.1 p).1 = nI c) ∧ ((A.2.1 p).2.1 = 0 ∨ (A.2.1 p).2.1 = 1)
abbrev kZ (y : RK9) : ZT := (y.2.2.2.2.1.1, y.2.2.2.2.1.2.1, y.2.2.2.2.1.2.2.1, y.2.2.2.2.1.2.2.2.1)
abbrev kN (y : RK9) : Nat := y.2.2.2.2.1.2.2.2.2.1
/-- both states are one -/
def hK (A : HS) (y : RK9) : Prop := hQ A none (kq y) (kZ y) ∧ A.1 9 = nI (kN y) ∧ hdR A.2.2.2.2.1 (kN y) y.2.2.2.2.1.2.2.2.2.2 ∧ ∀ p, p < 8192 → y.2.1 p = (A.2.1 p).1 ∧ y.2.2.1 p = (A.2.1 p).2.1 ∧ y.2.2.2.1 p = (A.2.1 p).2.2.1
section KP
variable {pk : Nat → Int32} {b : Nat → Nat}
theorem k_sb (hpk : ∀ j, j < 188 → pk j = nI (b j)) (hb : ∀ j, b j < 256) : kA pk = huA b ∧ kL pk = huLx b ∧ kI pk = huId b ∧ kC pk = b 3 % 16 ∧ kX pk = nI (b 3 / 64) := by
  have s1 := sb_bb hpk hb (show 1 < 188 by omega)
  have s2 := sb_bb hpk hb (show 2 < 188 by omega)
  have s3 := sb_bb hpk hb (show 3 < 188 by omega)
  have s4 := sb_bb hpk hb (show 4 < 188 by omega)
  have eA : kA pk = huA b := by unfold kA huA; rw [s3]
  refine ⟨eA, ?_, ?_, ?_, ?_⟩
  · unfold kL huLx
    rw [eA, s4]
  · unfold kI huId
    rw [s1, s2]
  · unfold kC
    rw [s3]
  · unfold kX
    rw [hpk 3 (by omega)]
    exact op_sh6 _ (hb _)
theorem k_bad (hpk : ∀ j, j < 188 → pk j = nI (b j)) (hb : ∀ j, b j < 256) : kBad pk ↔ huBad b := by
  obtain ⟨e1, e2, -⟩ := k_sb hpk hb
  unfold kBad huBad
  rw [e1, e2, sb_bb hpk hb (show 1 < 188 by omega)]
  constructor
  · rintro (q | q)
    · exact Or.inl (by omega)
    · exact Or.inr q
  · rintro (q | q)
    · exact Or.inl (by omega)
    · exact Or.inr q
theorem k_s (hpk : ∀ j, j < 188 → pk j = nI (b j)) (hb : ∀ j, b j < 256) : kS pk = 0 ↔ b 1 / 64 % 2 = 0 := by
  unfold kS
  rw [hpk 1 (by omega)]
  have h := bt_6 _ (hb 1)
  by_cases c : b 1 / 64 % 2 = 1
  · rw [if_pos (h.mpr c)]
    exact ⟨fun q => absurd q (by decide), fun q => by omega⟩
  · rw [if_neg (mt h.mp c)]
    exact ⟨fun _ => by omega, fun _ => rfl⟩
theorem k_f (hpk : ∀ j, j < 188 → pk j = nI (b j)) (hb : ∀ j, b j < 256) : kF pk = if huFl b < 128 then 0 else 1 := by
  unfold kF huFl
  obtain ⟨-, e2, -⟩ := k_sb hpk hb
  rw [e2, hpk 5 (by omega)]
  have h5 := hb 5
  have h := bt_127 _ h5
  by_cases c : huLx b = 0
  · rw [if_neg (fun q => by have := q.1; omega), if_pos c, if_pos (by decide)]
  · rw [if_neg c]
    by_cases c2 : b 5 < 128
    · rw [if_neg (fun q => by have := h.mp q.2; omega), if_pos c2]
    · rw [if_pos ⟨by omega, h.mpr (by omega)⟩, if_neg c2]
theorem k_k (hpk : ∀ j, j < 188 → pk j = nI (b j)) (hb : ∀ j, b j < 256) (cl : Nat → Int64) : kK pk cl = vp_updL cl (huId b) (huCk b (cl (huId b))) := by
  unfold kK huCk huFl
  obtain ⟨-, e2, e3, -⟩ := k_sb hpk hb
  rw [e2, e3, hpk 5 (by omega)]
  have h := bt_4 _ (hb 5)
  by_cases c : 6 < huLx b ∧ (nI (b 5) >>> ((4 : Int32) &&& 31)) &&& 1 = 1
  · have h1 := h.mp c.2
    rw [if_pos c, if_neg (show ¬ huLx b = 0 by omega), if_neg (show ¬ (b 5 / 16 % 2 = 0 ∨ huLx b < 7) by omega), mb_hu hpk hb 48 33 (by omega), mb_hu hpk hb 87 9 (by omega)]
  · rw [if_neg c]
    have hc : (if huLx b = 0 then 0 else b 5) / 16 % 2 = 0 ∨ huLx b < 7 := by
      by_cases c2 : huLx b < 7
      · exact Or.inr c2
      · refine Or.inl ?_
        rw [if_neg (show ¬ huLx b = 0 by omega)]
        have : ¬ b 5 / 16 % 2 = 1 := fun q => c ⟨by omega, h.mpr q⟩
        omega
    rw [if_pos hc]
    funext j
    by_cases c3 : j = huId b
    · rw [c3, vl_s]
    · rw [vl_n c3]
theorem k_p (hpk : ∀ j, j < 188 → pk j = nI (b j)) (hb : ∀ j, b j < 256) (h : ¬ huBad b) (h2 : ¬ huA b = 2) : kP pk = huPay b ∧ huPay b < 188 := by
  obtain ⟨e1, e2, -⟩ := k_sb hpk hb
  have hx : huA b = b 3 / 16 % 4 := rfl
  have h3 := hb 3
  unfold huBad at h
  unfold kP huPay
  rw [e1, e2]
  have hl : huLx b = if huA b < 2 then 0 else b 4 := rfl
  by_cases c : b 3 / 32 % 2 = 0
  · have hA : huA b = 1 := by omega
    rw [if_pos hA, if_pos c]
    exact ⟨rfl, by omega⟩
  · have hA : huA b = 3 := by omega
    rw [if_neg (by omega), if_neg c]
    rw [if_neg (by omega)] at hl
    exact ⟨by omega, by omega⟩
end KP
theorem kr_eq {x : Int32} (h : x = -1 ∨ ∃ c, c < 16 ∧ x = nI c) : kR x = (x + 1) &&& 15 := by
  unfold kR
  rcases h with rfl | ⟨c, hc, rfl⟩
  · decide
  · have : ∀ c, c < 16 → (nI c + 1) - (nI c + 1) / 16 * 16 = (nI c + 1) &&& 15 := by decide +kernel
    exact this c hc
theorem cup_9 {f : Nat → Int32} {k : Nat} (h : k ≠ 9) : cup f k 9 = f 9 := by unfold cup; exact pk_un (fun q => h q.symm)
theorem addc_9 {f : Nat → Int32} {x : Int32} : addc f x 9 = f 9 := by unfold addc; exact pk_un (by decide)
/-- the state behind the count -/
theorem hr_a1 {A : HS} {y : RK9} {pk : Nat → Int32} {b : Nat → Nat} (h : hK A y) (hA : hI A) (hC9 : hC A) (hpk : ∀ j, j < 188 → pk j = nI (b j)) (hb : ∀ j, b j < 256) (hp : huId b < 8192) (hnt : ¬ kTw y pk) : (huO1 b A).1 = true ∧ hK (huA1 b A) (kY3 y pk) ∧ hI (huA1 b A) ∧ (huA1 b A).2.2 = A.2.2 ∧ (((huA1 b A).2.1 (huId b)).2.2.2.2 = none ∨ ((huA1 b A).2.1 (huId b)).2.2.2.2 = (A.2.1 (huId b)).2.2.2.2) := by
  obtain ⟨⟨htl, hlv, htb, hsl, hse⟩, h9, hd, hall⟩ := h
  obtain ⟨e1, e2, e3, e4, e5⟩ := k_sb hpk hb
  have ef := k_f hpk hb
  have ek := k_k hpk hb y.2.2.2.1
  obtain ⟨a1, a2, a3⟩ := hall _ hp
  obtain ⟨c1, c2⟩ := hC9 _ hp
  have hntw : ¬ (nI (b 3 % 16) = (huCz b (A.2.1 (huId b))).1 ∧ (if huFl b < 128 then (0 : Int32) else 1) = 0 ∧ (huCz b (A.2.1 (huId b))).2.1 = 0) := fun q => hnt (by
    unfold kTw
    rw [e3, e4, ef, a1, a2]
    exact ⟨q.1.symm, q.2.1, q.2.2⟩)
  have hgap : (¬ y.2.1 (kI pk) = -1 ∧ ¬ nI (kC pk) = kR (y.2.1 (kI pk)) ∧ kF pk = 0) ↔ (¬ (huCz b (A.2.1 (huId b))).1 = -1 ∧ ¬ nI (b 3 % 16) = ((huCz b (A.2.1 (huId b))).1 + 1) &&& 15 ∧ (if huFl b < 128 then (0 : Int32) else 1) = 0) := by
    rw [e3, e4, ef, a1, kr_eq c1]
    exact Iff.rfl
  have hlane : ∀ (z : HL), z.1 = nI (b 3 % 16) → z.2.1 = 0 → z.2.2.1 = huCk b (A.2.1 (huId b)).2.2.1 → ∀ q, q < 8192 → upd y.2.1 (kI pk) (nI (kC pk)) q = (va_up A.2.1 (huId b) z q).1 ∧ upd y.2.2.1 (kI pk) (vp_nar .boolean 0) q = (va_up A.2.1 (huId b) z q).2.1 ∧ kK pk y.2.2.2.1 q = (va_up A.2.1 (huId b) z q).2.2.1 := fun z z1 z2 z3 q hq => by
    rw [e3, e4, ek]
    by_cases c : q = huId b
    · rw [c, va_up_self, pk_us, pk_us, vl_s, z1, z2, z3, a3]
      exact ⟨rfl, by decide, rfl⟩
    · rw [va_up_ne _ _ c, pk_un c, pk_un c, vl_n c]
      exact hall q hq
  unfold huA1 huO1 huFo
  rw [if_neg hntw]
  by_cases c : ¬ (huCz b (A.2.1 (huId b))).1 = -1 ∧ ¬ nI (b 3 % 16) = ((huCz b (A.2.1 (huId b))).1 + 1) &&& 15 ∧ (if huFl b < 128 then (0 : Int32) else 1) = 0
  · rw [if_pos c]
    have hG : kG pk y.2.1 ((kq y).sP, cup (kq y).tl 1) = gvU ((kq y).sP, cup (cup (kq y).tl 1) 4) (nI (huId b)) := by
      unfold kG
      rw [if_pos (hgap.mpr c), e3]
    have hg := hr_gu (tl := cup (cup (kq y).tl 1) 4) hsl hp (hA _ hp).1
    refine ⟨rfl, ⟨⟨?_, hlv, htb, ?_, hse⟩, ?_, hd, hlane _ rfl rfl rfl⟩, ?_, rfl, Or.inl (by show (va_up A.2.1 (huId b) _ (huId b)).2.2.2.2 = none; rw [va_up_self])⟩
    · show (kG pk y.2.1 ((kq y).sP, cup (kq y).tl 1)).2 = addc (cup (cup A.1 1) 4) (huN1 (huCz b (A.2.1 (huId b))))
      rw [hG, hg.2.1, htl]
      rfl
    · show slR (va_up A.2.1 (huId b) _) none (kG pk y.2.1 ((kq y).sP, cup (kq y).tl 1)).1 _ _ _ _ _ _
      rw [hG]
      refine sl_eq hg.1 (fun q hq => ?_)
      by_cases c2 : q = huId b
      · rw [c2, va_up_self, va_up_self]; rfl
      · rw [va_up_ne _ _ c2, va_up_ne _ _ c2]
    · show addc (cup (cup A.1 1) 4) (huN1 (huCz b (A.2.1 (huId b)))) 9 = _
      rw [addc_9, cup_9 (by decide), cup_9 (by decide)]; exact h9
    · refine fun q hq => ?_
      show hI1 (va_up A.2.1 (huId b) _ q) _
      by_cases c2 : q = huId b
      · rw [c2, va_up_self]
        exact ⟨Or.inl rfl, fun z => absurd rfl z, fun z => absurd rfl z, gln_0⟩
      · rw [va_up_ne _ _ c2]; exact hA q hq
  · rw [if_neg c]
    have hG : kG pk y.2.1 ((kq y).sP, cup (kq y).tl 1) = ((kq y).sP, cup (kq y).tl 1) := by
      unfold kG
      rw [if_neg (mt hgap.mp c)]
    have hL : ∀ q, q < 8192 → (va_up A.2.1 (huId b) ((nI (b 3 % 16), 0, (huCz b (A.2.1 (huId b))).2.2) : HL) q).2.2.2 = (A.2.1 q).2.2.2 := fun q hq => by
      by_cases c2 : q = huId b
      · rw [c2, va_up_self]; rfl
      · rw [va_up_ne _ _ c2]
    refine ⟨rfl, ⟨⟨?_, hlv, htb, ?_, hse⟩, ?_, hd, hlane _ rfl rfl rfl⟩, hI_eq hA rfl hL, rfl, Or.inr (by show (va_up A.2.1 (huId b) _ (huId b)).2.2.2.2 = _; rw [va_up_self]; rfl)⟩
    · show (kG pk y.2.1 ((kq y).sP, cup (kq y).tl 1)).2 = cup A.1 1
      rw [hG, ← htl]
    · show slR (va_up A.2.1 (huId b) _) none (kG pk y.2.1 ((kq y).sP, cup (kq y).tl 1)).1 _ _ _ _ _ _
      rw [hG]
      exact sl_eq hsl hL
    · show cup A.1 1 9 = _
      rw [cup_9 (by decide)]; exact h9


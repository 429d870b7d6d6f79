/-! The room: rows -/
abbrev hrw (A : HS) : Nat → Bool := A.2.2.2.2.2
theorem hw_es (X : List Nat) (p : Nat) (A : HS) : hrw (huEs X p A) = hrw A := by
  unfold huEs
  split
  · split <;> rfl
  · rfl
theorem hw_gr (b : Nat → Nat) (a e p : Nat) (A : HS) : hrw (huGr b a e p A).2 = va_up (hrw A) p true := by
  unfold huGr
  split
  · rfl
  · split
    · rfl
    · exact hw_es _ _ _
theorem hw_up (r : Nat → Bool) (p q : Nat) (h : r q = true) : va_up r p true q = true := by
  by_cases c : q = p
  · rw [c, va_up_self]
  · rw [va_up_ne _ _ c]; exact h
theorem hw_ul (b : Nat → Nat) (p q : Nat) : ∀ (m i : Nat) (A : HS), hrw A q = true → hrw (huUl b p m i A) q = true
  | 0, _, _, h => h
  | m + 1, i, A, h => by
    unfold huUl
    split
    · have e := hw_gr b i 188 p A
      revert e
      rcases huGr b i 188 p A with ⟨_ | j, A1⟩
      · intro e
        show hrw A1 q = true
        rw [show hrw A1 = _ from e]
        exact hw_up _ _ _ h
      · intro e
        refine hw_ul b p q m j A1 ?_
        rw [show hrw A1 = _ from e]
        exact hw_up _ _ _ h
    · exact h
theorem hw_ul1 (b : Nat → Nat) (p m i : Nat) (A : HS) (h1 : i < 188) (h2 : ¬ b i = 255) : hrw (huUl b p (m + 1) i A) p = true := by
  unfold huUl
  rw [if_pos ⟨h1, h2⟩]
  have e := hw_gr b i 188 p A
  revert e
  rcases huGr b i 188 p A with ⟨_ | j, A1⟩
  · intro e
    show hrw A1 p = true
    rw [show hrw A1 = _ from e, va_up_self]
  · intro e
    refine hw_ul b p p m j A1 ?_
    rw [show hrw A1 = _ from e, va_up_self]
theorem hw_se (b : Nat → Nat) (p q : Nat) (A : HS) (h : hrw A q = true) : hrw (huSe b p A) q = true := by
  unfold huSe
  split
  · split
    · exact h
    · rw [hw_gr]; exact hw_up _ _ _ h
  · split
    · exact h
    · split
      · exact hw_ul _ _ _ _ _ _ h
      · have e := hw_gr b (huPay b + 1) (huPay b + 1 + b (huPay b)) p A
        revert e
        rcases huGr b (huPay b + 1) (huPay b + 1 + b (huPay b)) p A with ⟨_ | j, A1⟩
        · intro e
          show hrw A1 q = true
          rw [show hrw A1 = _ from e]
          exact hw_up _ _ _ h
        · intro e
          refine hw_ul b p q _ _ _ ?_
          show hrw A1 q = true
          rw [show hrw A1 = _ from e]
          exact hw_up _ _ _ h
theorem hw_se1 (b : Nat → Nat) (p : Nat) (A : HS) (hs : ¬ b 1 / 64 % 2 = 0) (h : huB1 b) : hrw (huSe b p A) p = true := by
  have h1 := h.1
  unfold huSe
  rw [if_neg hs, if_neg (by omega)]
  split
  · exact hw_ul1 b p 183 _ A h.1 h.2
  · have e := hw_gr b (huPay b + 1) (huPay b + 1 + b (huPay b)) p A
    revert e
    rcases huGr b (huPay b + 1) (huPay b + 1 + b (huPay b)) p A with ⟨_ | j, A1⟩
    · intro e
      show hrw A1 p = true
      rw [show hrw A1 = _ from e, va_up_self]
    · intro e
      refine hw_ul b p p _ _ _ ?_
      show hrw A1 p = true
      rw [show hrw A1 = _ from e, va_up_self]
theorem hw_gt (b : Nat → Nat) (i p : Nat) (A : HS) : hrw (huGt b i p A) = hrw A := by
  unfold huGt
  split
  · rfl
  · split <;> rfl
theorem hw_ep (p : Nat) (A : HS) : hrw (huEp p A) = hrw A := by
  unfold huEp
  split
  · split <;> rfl
  · rfl
theorem hw_bp (b : Nat → Nat) (i p : Nat) (A : HS) : hrw (huBp b i p A).2 = hrw A := by
  unfold huBp
  split <;> rfl
theorem hw_pi (b : Nat → Nat) (p : Nat) (A : HS) : hrw (huPi b p A) = hrw A := by
  unfold huPi
  split
  · exact hw_gt _ _ _ _
  · rw [hw_gt, hw_bp, hw_ep]
/-- rows stay -/
theorem hw_pk (b : Nat → Nat) (q : Nat) (A : HS) (h : hrw A q = true) : hrw (huPk b A) q = true := by
  unfold huPk
  split
  · exact h
  · split
    · exact h
    · split
      · exact h
      · split
        · exact h
        · split
          · exact h
          · split
            · rw [hw_pi]; exact h
            · exact hw_se _ _ _ _ h
/-- a packet that is charged for a row makes it -/
theorem hw_pk1 {b : Nat → Nat} {A : HS} (hg : huGd b A) (h0 : ¬ huUs A.2.2.2.1 (huId b) = 0) (h4 : ¬ huUs A.2.2.2.1 (huId b) = 4) (hs : ¬ b 1 / 64 % 2 = 0) (h : huB1 b) : hrw (huPk b A) (huId b) = true := by
  unfold huPk
  rw [if_neg hg.1, if_neg hg.2.1, if_neg (by rw [hg.2.2.1]; decide), if_neg (fun q => q hg.2.2.2), if_neg h0, if_neg h4]
  exact hw_se1 _ _ _ hs h
/-- PIDs of G below m that have no row -/
def gfr (G r : Nat → Bool) : Nat → Nat
  | 0 => 0
  | m + 1 => gfr G r m + (if G m = true ∧ r m = false then 1 else 0)
theorem gfr_le (G : Nat → Bool) {r s : Nat → Bool} (h : ∀ q, r q = true → s q = true) : ∀ m, gfr G s m ≤ gfr G r m
  | 0 => Nat.le_refl _
  | m + 1 => by
    have h1 := gfr_le G h m
    unfold gfr
    by_cases c : G m = true ∧ s m = false
    · have c2 : G m = true ∧ r m = false := ⟨c.1, by
        cases hr : r m
        · rfl
        · rw [h m hr] at c; exact absurd c.2 (by decide)⟩
      rw [if_pos c, if_pos c2]
      omega
    · rw [if_neg c]
      omega
theorem gfr_lt (G : Nat → Bool) {r s : Nat → Bool} {p : Nat} (h : ∀ q, r q = true → s q = true) (hG : G p = true) (h0 : r p = false) (h1 : s p = true) : ∀ m, p < m → gfr G s m + 1 ≤ gfr G r m
  | 0, hm => absurd hm (Nat.not_lt_zero _)
  | m + 1, hm => by
    unfold gfr
    by_cases c : p = m
    · have h2 := gfr_le G h m
      rw [c] at hG h0 h1
      rw [if_neg (fun q => by rw [h1] at q; exact absurd q.2 (by decide)), if_pos ⟨hG, h0⟩]
      omega
    · have h2 := gfr_lt G h hG h0 h1 m (by omega)
      by_cases c : G m = true ∧ s m = false
      · have c2 : G m = true ∧ r m = false := ⟨c.1, by
          cases hr : r m
          · rfl
          · rw [h m hr] at c; exact absurd c.2 (by decide)⟩
        rw [if_pos c, if_pos c2]
        omega
      · rw [if_neg c]
        omega


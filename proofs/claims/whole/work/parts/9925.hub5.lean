/-! The class's sections in the hub: growing, a packet's -/
theorem huZ_sec (z : LZ) (se : Option SQ9) (pi : Option PQ9) : (huZ (zq z se pi)).2.2.2.1 = huR (gsQ se) := rfl
theorem huGs_at {z : LZ} {dn : Nat → Option PQ9} {s : GS9} (h : oth z (s.2.2.2.1 ++ s.2.2.2.2.1)) : (huGs z dn s).2.1 z.2.1 = huZ (zq z s.2.1 s.2.2.1) := by
  rw [huGs_eq h]
  exact va_up_self _ _ _
abbrev pkb (f : Nat → Int32) (n k : Nat) : Nat → Nat := fun j => rbN f n 9400 (k + j)
theorem hu_gr {f : Nat → Int32} {n k a e : Nat} {z : LZ} {dn : Nat → Option PQ9} {s u : GS9} {r : Int32} (hk : k + 188 ≤ 9400) (he : e ≤ 188) (hK : gsK (gsQ s.2.1)) (ho : oth z (s.2.2.2.1 ++ s.2.2.2.2.1)) (h : gsP9 f n (k + a) (k + e) z.2.1 z.1 s r u) : oth z (u.2.2.2.1 ++ u.2.2.2.2.1) ∧ gsK (gsQ u.2.1) ∧ ((r = -1 ∧ huGr (pkb f n k) a e z.2.1 (huGs z dn s) = (none, huGs z dn u)) ∨ ∃ j, j ≤ 188 ∧ r = nI (k + j) ∧ huGr (pkb f n k) a e z.2.1 (huGs z dn s) = (some j, huGs z dn u)) := by
  obtain ⟨o, hgo, sa, sb, hsab, h⟩ := h
  rw [show k + e - (k + a) = e - a by omega] at hgo
  have hG := hu_go f n k (e - a) a (gsQ s.2.1) hK
  rw [hgo] at hG
  have g1 : o.1 = (huGo (pkb f n k) (e - a) a (huR (gsQ s.2.1))).1 := congrArg Prod.fst hG
  have g2 : o.2.1 = k + (huGo (pkb f n k) (e - a) a (huR (gsQ s.2.1))).2.1 := congrArg (fun x => x.2.1) hG
  have g3 : huR o.2.2 = (huGo (pkb f n k) (e - a) a (huR (gsQ s.2.1))).2.2 := congrArg (fun x => x.2.2) hG
  unfold huGr
  rw [huGs_at ho, huZ_sec, ← g1, ← g3]
  rcases h with ⟨h0, hr, hgk, rfl⟩ | ⟨h0, hr, rfl⟩ | ⟨h0, hr, hlt, hge, hn, hes, hse, hpi⟩
  · refine ⟨ho, hgk, Or.inr ⟨e, he, hr, ?_⟩⟩
    rw [if_pos h0, huGs_eq ho, huGs_eq (s := (s.1, some (sa, sb, o.2.2), s.2.2.1, s.2.2.2.1, s.2.2.2.2.1, s.2.2.2.2.2.1, s.2.2.2.2.2.2.1, s.2.2.2.2.2.2.2.1, s.2.2.2.2.2.2.2.2.1, s.2.2.2.2.2.2.2.2.2.1, [])) ho]
    show (some e, (s.1, va_up (va_up (huV (s.2.2.2.1 ++ s.2.2.2.2.1)) z.2.1 (huZ (zq z s.2.1 s.2.2.1))) z.2.1 _, _, _, _, va_up (va_up (huRw (s.2.2.2.1 ++ s.2.2.2.2.1)) z.2.1 s.2.1.isSome) z.2.1 true)) = _
    rw [vu_vu, vu_vu]
    rfl
  · refine ⟨ho, Or.inl (by show 0 < 3; omega), Or.inl ⟨hr, ?_⟩⟩
    rw [if_neg (by omega), if_pos h0, huGs_eq ho, huGs_eq (s := (guC s.1 (some (sa, sb, o.2.2)) s.2.2.1, some (sa, sb, 0, o.2.2.2), guI s.2.2.1, s.2.2.2.1, s.2.2.2.2.1, s.2.2.2.2.2.1, s.2.2.2.2.2.2.1, s.2.2.2.2.2.2.2.1, s.2.2.2.2.2.2.2.2.1, s.2.2.2.2.2.2.2.2.2.1, [])) ho]
    show (none, (_, va_up (va_up (huV (s.2.2.2.1 ++ s.2.2.2.2.1)) z.2.1 (huZ (zq z s.2.1 s.2.2.1))) z.2.1 _, _, _, _, va_up (va_up (huRw (s.2.2.2.1 ++ s.2.2.2.2.1)) z.2.1 s.2.1.isSome) z.2.1 true)) = _
    rw [vu_vu, vu_vu]
    have e1 : huGz (huZ (zq z s.2.1 s.2.2.1)) = huZ (zq z (some (sa, sb, 0, o.2.2.2)) (guI s.2.2.1)) := by
      show (_, _, _, [], none) = (_, _, _, huR (0, o.2.2.2), huPq (guI s.2.2.1))
      rw [huPq_gu]
      rfl
    have e2 : addc s.1 (huN1 (huSc (huZ (zq z s.2.1 s.2.2.1)) (huR o.2.2))) = guC s.1 (some (sa, sb, o.2.2)) s.2.2.1 := by
      rw [guC_add, hu_gN (some (sa, sb, o.2.2)) s.2.2.1 z.2.2.2.1 z.2.2.2.2.1 z.2.2.2.2.2.1]
      rfl
    rw [e1, e2]
    rfl
  · have := hu_es (dn := dn) (u := u) hn ho hes ⟨by rw [hse]; rfl, by rw [hse]; rfl⟩ hpi
    refine ⟨this.1, by rw [hse]; exact Or.inl (by show 0 < 3; omega), Or.inr ⟨(huGo (pkb f n k) (e - a) a (huR (gsQ s.2.1))).2.1 + 1, by omega, by rw [hr, g2]; rfl, ?_⟩⟩
    rw [if_neg (by omega), if_neg (by omega), this.2]
theorem huGs_N (z : LZ) (dn : Nat → Option PQ9) (s u : GS9) : huGs z dn (gsN s u) = huGs z dn u := rfl
theorem hu_ul {f : Nat → Int32} {n k : Nat} {z : LZ} {dn : Nat → Option PQ9} (hk : k + 188 ≤ 9400) : ∀ {m i : Nat} {s t : GS9}, gsK (gsQ s.2.1) → oth z (s.2.2.2.1 ++ s.2.2.2.2.1) → usL f n (k + 188) z.2.1 z.1 m (k + i) s t → oth z (t.2.2.2.1 ++ t.2.2.2.2.1) ∧ gsK (gsQ t.2.1) ∧ huGs z dn t = huUl (pkb f n k) z.2.1 m i (huGs z dn s)
  | 0, i, s, t, hK, ho, h => by
    rw [show t = s from h]
    exact ⟨ho, hK, rfl⟩
  | m + 1, i, s, t, hK, ho, h => by
    rw [huUl]
    rcases h with ⟨hc, rfl⟩ | ⟨hi, hb, r, u, hg, h⟩
    · rw [if_neg (fun q => hc ⟨by omega, q.2⟩)]
      exact ⟨ho, hK, rfl⟩
    · rw [if_pos ⟨by omega, hb⟩]
      obtain ⟨ho2, hK2, hr⟩ := hu_gr (dn := dn) hk (Nat.le_refl _) hK ho hg
      rcases h with ⟨hr1, rfl⟩ | ⟨j, hj, hij, hjt, h⟩
      · rcases hr with ⟨-, e⟩ | ⟨j, hj, hr2, -⟩
        · rw [e]
          exact ⟨ho2, hK2, rfl⟩
        · exact absurd (hr2.symm.trans hr1) (nI_no (by omega))
      · rcases hr with ⟨hr1, -⟩ | ⟨j2, hj2, hr2, e⟩
        · exact absurd (hj.symm.trans hr1) (nI_no (by omega))
        · rw [e]
          have : j = k + j2 := (nI_eq (by omega) (by omega)).mp (hj.symm.trans hr2)
          subst this
          exact hu_ul hk (s := gsN s u) hK2 ho2 h
theorem and_64 : ∀ b, b < 256 → (nI b &&& 64 = 0 ↔ b / 64 % 2 = 0) := by decide +kernel
theorem hu_s {f : Nat → Int32} {n k : Nat} : rw_at f n 9400 (nI (k + 1)) &&& 64 = 0 ↔ pkb f n k 1 / 64 % 2 = 0 := by
  rw [rb_eq]
  exact and_64 _ (rb_lt _ _ _ _)
theorem hu_pay (f : Nat → Int32) (n k : Nat) : payN f n 9400 k = k + huPay (pkb f n k) := by
  unfold payN huPay
  by_cases c : rbN f n 9400 (k + 3) / 32 % 2 = 0
  · rw [if_pos c, if_pos c]
  · rw [if_neg c, if_neg c]
    show k + 5 + rbN f n 9400 (k + 4) = k + (5 + rbN f n 9400 (k + 4))
    omega
theorem hu_gu {z : LZ} {dn : Nat → Option PQ9} {s : GS9} (ho : oth z (s.2.2.2.1 ++ s.2.2.2.2.1)) : huGs z dn (guG s) = huGu z.2.1 (huGs z dn s) := by
  unfold huGu
  rw [huGs_at ho, huGs_eq ho, huGs_eq (s := guG s) ho]
  show (guC s.1 s.2.1 s.2.2.1, va_up _ _ (huZ (zq z (guS s.2.1) (guI s.2.2.1))), _, _, _, va_up _ _ (guS s.2.1).isSome) = (_, va_up (va_up (huV (s.2.2.2.1 ++ s.2.2.2.2.1)) z.2.1 (huZ (zq z s.2.1 s.2.2.1))) z.2.1 _, _, _, _, _)
  rw [vu_vu]
  have e1 : huZ (zq z (guS s.2.1) (guI s.2.2.1)) = huGz (huZ (zq z s.2.1 s.2.2.1)) := by
    show (_, _, _, huR (gsQ (guS s.2.1)), huPq (guI s.2.2.1)) = (_, _, _, [], none)
    rw [huPq_gu, huR_gu]
    rfl
  have e2 : guC s.1 s.2.1 s.2.2.1 = addc s.1 (huN1 (huZ (zq z s.2.1 s.2.2.1))) := by
    rw [guC_add, hu_gN s.2.1 s.2.2.1 z.2.2.2.1 z.2.2.2.2.1 z.2.2.2.2.2.1]
    rfl
  have e3 : (guS s.2.1).isSome = s.2.1.isSome := by cases s.2.1 <;> rfl
  rw [e1, e2, e3]
  rfl
theorem hu_sec0 {z : LZ} {dn : Nat → Option PQ9} {s : GS9} (ho : oth z (s.2.2.2.1 ++ s.2.2.2.2.1)) : secN s.2.1 = 0 ↔ ((huGs z dn s).2.1 z.2.1).2.2.2.1.length = 0 := by
  rw [huGs_at ho, huZ_sec, huR_len, gsQ_1]
/-- a packet's sections -/
theorem hu_se {f : Nat → Int32} {n k : Nat} {z : LZ} {dn : Nat → Option PQ9} {s t : GS9} (hk : k + 188 ≤ 9400) (hp : payN f n 9400 k ≤ k + 187) (hK : gsK (gsQ s.2.1)) (ho : oth z (s.2.2.2.1 ++ s.2.2.2.2.1)) (h : ubP f n k z.2.1 z.1 s t) : oth z (t.2.2.2.1 ++ t.2.2.2.2.1) ∧ gsK (gsQ t.2.1) ∧ huGs z dn t = huSe (pkb f n k) z.2.1 (huGs z dn s) := by
  unfold huSe
  have hpy := hu_pay f n k
  have h0 := hu_sec0 (dn := dn) ho
  have ef : payN f n 9400 k + 1 + rbN f n 9400 (payN f n 9400 k) = k + (huPay (pkb f n k) + 1 + pkb f n k (huPay (pkb f n k))) := by
    rw [hpy]
    show _ = k + (huPay (pkb f n k) + 1 + rbN f n 9400 (k + huPay (pkb f n k)))
    omega
  rcases h with ⟨hs, h⟩ | ⟨hs, h⟩
  · rw [if_pos (hu_s.mp hs)]
    rcases h with ⟨hz, rfl⟩ | ⟨hz, r, u, hg, rfl⟩
    · rw [if_pos (h0.mp hz)]
      exact ⟨ho, hK, rfl⟩
    · rw [if_neg (mt h0.mpr hz)]
      rw [hpy] at hg
      obtain ⟨ho2, hK2, ⟨-, e⟩ | ⟨j, -, -, e⟩⟩ := hu_gr (dn := dn) hk (Nat.le_refl _) hK ho hg
      · rw [e]; exact ⟨ho2, hK2, rfl⟩
      · rw [e]; exact ⟨ho2, hK2, rfl⟩
  · rw [if_neg (mt hu_s.mpr hs)]
    rw [ef] at h
    rcases h with ⟨hf, rfl⟩ | ⟨hf, h⟩
    · rw [if_pos (by omega)]
      exact ⟨ho, gsK_gu _, hu_gu ho⟩
    · rw [if_neg (by omega)]
      rcases h with ⟨hz, h⟩ | ⟨hz, r, u, hg, h⟩
      · rw [if_pos (h0.mp hz)]
        exact hu_ul hk hK ho h
      · rw [if_neg (mt h0.mpr hz)]
        rw [show payN f n 9400 k + 1 = k + (huPay (pkb f n k) + 1) by rw [hpy]; omega] at hg
        obtain ⟨ho2, hK2, hr⟩ := hu_gr (dn := dn) hk (by omega) hK ho hg
        rcases h with ⟨hr1, rfl⟩ | ⟨hr1, h⟩
        · rcases hr with ⟨-, e⟩ | ⟨j, hj, hr2, -⟩
          · rw [e]; exact ⟨ho2, hK2, rfl⟩
          · exact absurd (hr2.symm.trans hr1) (nI_no (by omega))
        · rcases hr with ⟨hr2, -⟩ | ⟨j, hj, hr2, e⟩
          · exact absurd hr2 hr1
          · rw [e]
            have e9 := hu_ul (dn := dn) hk (s := guG (gsN s u)) (gsK_gu _) ho2 h
            rw [hu_gu (s := gsN s u) ho2] at e9
            exact e9


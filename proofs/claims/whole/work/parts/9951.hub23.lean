/-! What taking costs, in the hub -/
abbrev huGd (b : Nat → Nat) (A : HS) : Prop := ¬ huBad b ∧ ¬ (huId b = 8191 ∨ huA b = 2) ∧ (huO1 b A).1 = true ∧ b 3 / 64 = 0
/-- a section begins in the packet -/
abbrev huB1 (b : Nat → Nat) : Prop := huPay b + 1 + b (huPay b) < 188 ∧ ¬ b (huPay b + 1 + b (huPay b)) = 255
def huPc (b : Nat → Nat) (A : HS) : Nat × Nat :=
  if huGd b A then
    (if huUs A.2.2.2.1 (huId b) = 0 then (1, 8)
    else if huUs A.2.2.2.1 (huId b) = 4 then (28, 197)
    else if b 1 / 64 % 2 = 0 then (1 + seM (huId b), 8 + seN (huId b))
    else (1 + ((if A.2.2.2.2.2 (huId b) = true ∨ ¬ huB1 b then 0 else 2) + (seM (huId b) + ubM (huId b))), 8 + ((if A.2.2.2.2.2 (huId b) = true ∨ ¬ huB1 b then 0 else 1026) + (seN (huId b) + ubN (huId b)))))
  else (1, 8)
theorem huPc_1 (b : Nat → Nat) (A : HS) : 1 ≤ (huPc b A).1 ∧ 8 ≤ (huPc b A).2 := by
  unfold huPc
  split
  · split
    · exact ⟨Nat.le_refl _, Nat.le_refl _⟩
    · split
      · exact ⟨by show 1 ≤ 28; omega, by show 8 ≤ 197; omega⟩
      · split
        · exact ⟨Nat.le_add_right _ _, Nat.le_add_right _ _⟩
        · exact ⟨Nat.le_add_right _ _, Nat.le_add_right _ _⟩
  · exact ⟨Nat.le_refl _, Nat.le_refl _⟩
/-- the charge of a taking -/
def huCo (B : Nat → Nat) (n : Nat) : Nat → Nat → HS → Nat × Nat
  | 0, _, _ => (0, 0)
  | m + 1, i, A => if n ≤ i ∨ (B i = 71 ∧ n < i + 188) then (0, 0) else if ¬ B i = 71 then huCo B n m (i + 1) (cup A.1 5, A.2) else ((huPc (fun j => B (i + j)) A).1 + (huCo B n m (i + 188) (huPk (fun j => B (i + j)) A)).1, (huPc (fun j => B (i + j)) A).2 + (huCo B n m (i + 188) (huPk (fun j => B (i + j)) A)).2)
theorem co_irr (B : Nat → Nat) (n : Nat) : ∀ (m k i : Nat) (A : HS), n ≤ i + m → n ≤ i + k → huCo B n m i A = huCo B n k i A
  | 0, k, i, A, h1, h2 => by
    cases k with
    | zero => rfl
    | succ k => rw [huCo, huCo, if_pos (Or.inl (by omega))]
  | m + 1, k, i, A, h1, h2 => by
    cases k with
    | zero => rw [huCo, huCo, if_pos (Or.inl (by omega))]
    | succ k =>
      rw [huCo, huCo, co_irr B n m k (i + 1) _ (by omega) (by omega), co_irr B n m k (i + 188) _ (by omega) (by omega)]
/-- a packet that is used -/
theorem hu_gdx {f : Nat → Int32} {n k : Nat} {s : TK9} {T1 T2 : List LZ} {z : LZ} {hf1 : Nat → Option Nat} {a : Nat} {u : OU9} (hb : ¬ opBad f n k) (h : LM s.2.1 T1 T2 z s.2.2.1 hf1 (opI f n k)) (hd : lpd (T1 ++ z :: T2)) (ho : (some a, u) = opR f n k (cup s.1 1) z T1 T2 hf1) : huGd (pkb f n k) (huS s) := by
  have hV : (huS s).2.1 (huId (pkb f n k)) = huZ z := hu_at1 h hd
  have hzp : z.2.1 = opI f n k := h.1
  have hfo := hu_fo (cup s.1 1) z.2.2.2.1 z.2.2.2.2.1 (opK f n k z.2.2.2.2.2.1) z.2.2.2.2.2.2.2.1 z.2.2.2.2.2.2.2.2 (nI (rbN f n 9400 (k + 3) % 16)) (if opF f n k < 128 then 0 else 1)
  have hO : huO1 (pkb f n k) (huS s) = huFo (cup s.1 1) (z.2.2.2.1, z.2.2.2.2.1, opK f n k z.2.2.2.2.2.1, huR (gsQ z.2.2.2.2.2.2.2.1), huPq z.2.2.2.2.2.2.2.2) (nI (rbN f n 9400 (k + 3) % 16)) (if opF f n k < 128 then 0 else 1) := by
    unfold huO1 huCz
    rw [hV, hu_ckE]
    rfl
  unfold opR at ho
  simp only at ho
  by_cases c1 : z.2.1 = 8191 ∨ opP f n k = 2
  · rw [if_pos c1] at ho
    cases ho
  · rw [if_neg c1] at ho
    rw [hzp] at c1
    by_cases c2 : (foU (cup s.1 1) z.2.2.2.1 z.2.2.2.2.1 z.2.2.2.2.2.2.2.1 z.2.2.2.2.2.2.2.2 (nI (rbN f n 9400 (k + 3) % 16)) (if opF f n k < 128 then 0 else 1)).1 = 0
    · rw [if_pos c2] at ho
      cases ho
    · rw [if_neg c2] at ho
      by_cases c3 : rbN f n 9400 (k + 3) / 64 = 0
      · refine ⟨hb, c1, ?_, c3⟩
        rw [hO, hfo.1]
        exact decide_eq_true c2
      · rw [if_neg c3] at ho
        cases ho
theorem rw_is (se : Option SQ9) : rwC se = (if se.isSome = true then 0 else 2) ∧ rwS se = (if se.isSome = true then 0 else 1026) := by
  cases se <;> exact ⟨rfl, rfl⟩
theorem hu_b1 (f : Nat → Int32) (n k : Nat) : ub1 f n k ↔ huB1 (pkb f n k) := by
  have e : ∀ q, k + huPay (pkb f n k) + 1 + q = k + (huPay (pkb f n k) + 1 + q) := fun q => by omega
  unfold ub1 huB1
  rw [hu_pay, e, Nat.add_lt_add_iff_left]
/-- the class's charges -/
theorem hu_chg {f : Nat → Int32} {n k c d uu a : Nat} {s : TK9} {T1 T2 A1 A2 : List LZ} {z x : LZ} {hf1 : Nat → Option Nat} {u : OU9} (hI : tkI s) (hb : ¬ opBad f n k) (hLM : LM s.2.1 T1 T2 z s.2.2.1 hf1 (opI f n k)) (hop : (some a, u) = opR f n k (cup s.1 1) z T1 T2 hf1) (h4 : u.2.1 = A1 ++ x :: A2) (h5 : x.2.1 = opI f n k) (h6 : uoR (pvw s.2.2.2.2.2.2.2.2.1) (opI f n k) (nI uu)) (hu4 : uu ≤ 4) (h : (uu = 4 ∧ c = 28 ∧ d = 197) ∨ (¬ uu = 0 ∧ ¬ uu = 4 ∧ c = 1 + (ubR f n k x.2.2.2.2.2.2.2.1 + ubC f n k (opI f n k)) ∧ d = 8 + (ubT f n k x.2.2.2.2.2.2.2.1 + ubS f n k (opI f n k)))) : c ≤ (huPc (pkb f n k) (huS s)).1 ∧ d ≤ (huPc (pkb f n k) (huS s)).2 := by
  obtain ⟨hLN, hok, hzk, haw, hP4⟩ := hI
  obtain ⟨l1, l2, l3⟩ := lm_inv hLM (opI_lt f n k) hLN hok hzk
  have hd := lok_lpd l2
  have hgd := hu_gdx hb hLM hd hop
  have huse : huUs (huS s).2.2.2.1 (huId (pkb f n k)) = uu := hu_useN (by omega) h6
  obtain ⟨y, hy1, hy2, hy3, -, -, -⟩ := op_res hop
  have hok2 : lok u.2.1 := by rw [hy1]; exact lok_sk (lsk_mid hy3.symm) l2
  rw [h4] at hok2
  have hdx := lpd_mid (lok_lpd hok2)
  have hrow : (huS s).2.2.2.2.2 (huId (pkb f n k)) = x.2.2.2.2.2.2.2.1.isSome := by
    rcases hu_op hb hLM hd hop with ⟨hr, -⟩ | ⟨-, -, e2⟩
    · cases hr
    · have e3 : huRw u.2.1 = (huS s).2.2.2.2.2 := congrArg (fun q : HS => q.2.2.2.2.2) e2
      rw [← e3, h4, hr_mid hdx.2.1]
      show va_up _ x.2.1 _ (opI f n k) = _
      rw [h5, va_up_self]
  unfold huPc
  rw [if_pos hgd, huse]
  rcases h with ⟨rfl, rfl, rfl⟩ | ⟨q0, q4, rfl, rfl⟩
  · rw [if_neg (by decide), if_pos rfl]
    exact ⟨Nat.le_refl _, Nat.le_refl _⟩
  · rw [if_neg q0, if_neg q4, hrow]
    have e1 := rw_is x.2.2.2.2.2.2.2.1
    have eb := hu_b1 f n k
    unfold ubR ubT ubC ubS
    by_cases cs : rw_at f n 9400 (nI (k + 1)) &&& 64 = 0
    · rw [if_pos (Or.inl cs), if_pos (Or.inl cs), if_pos cs, if_pos cs, if_pos (hu_s.mp cs)]
      exact ⟨by rw [Nat.zero_add]; exact Nat.le_refl _, by rw [Nat.zero_add]; exact Nat.le_refl _⟩
    · rw [if_neg cs, if_neg cs, if_neg (mt hu_s.mpr cs)]
      by_cases cb : ub1 f n k
      · have cb2 := eb.mp cb
        have c1 : ¬ (rw_at f n 9400 (nI (k + 1)) &&& 64 = 0 ∨ ¬ ub1 f n k) := fun q => q.elim cs (fun q => q cb)
        rw [if_neg c1, if_neg c1, e1.1, e1.2]
        cases hx : x.2.2.2.2.2.2.2.1.isSome
        · have c2 : ¬ (false = true ∨ ¬ huB1 (pkb f n k)) := fun q => q.elim (fun q => absurd q (by decide)) (fun q => q cb2)
          have c3 : ¬ (false = true) := by decide
          rw [if_neg c3, if_neg c3, if_neg c2, if_neg c2]
          exact ⟨Nat.le_refl _, Nat.le_refl _⟩
        · rw [if_pos rfl, if_pos rfl, if_pos (Or.inl rfl), if_pos (Or.inl rfl)]
          exact ⟨Nat.le_refl _, Nat.le_refl _⟩
      · have cb2 := mt eb.mpr cb
        rw [if_pos (Or.inr cb), if_pos (Or.inr cb), if_pos (Or.inr cb2), if_pos (Or.inr cb2)]
        exact ⟨Nat.le_refl _, Nat.le_refl _⟩
theorem hu_pcP {f : Nat → Int32} {n k c d : Nat} {s t : TK9} (hI : tkI s) (h : pkP f n k s t c d) : c ≤ (huPc (pkb f n k) (huS s)).1 ∧ d ≤ (huPc (pkb f n k) (huS s)).2 := by
  have h1 := huPc_1 (pkb f n k) (huS s)
  obtain ⟨r, u, h2, h3⟩ := h
  rcases h3 with ⟨-, -, rfl, rfl⟩ | ⟨A1, x, A2, uu, rfl, h4, h5, h6, hu4, h7⟩
  · exact h1
  · rcases h2 with ⟨-, hr, -⟩ | ⟨hb, T1, T2, z, hf1, hLM, hop⟩
    · cases hr
    · rcases h7 with ⟨-, -, rfl, rfl⟩ | ⟨q4, v, -, -, rfl, rfl⟩ | ⟨q0, q4, v, -, -, rfl, rfl⟩
      · exact h1
      · exact hu_chg hI hb hLM hop h4 h5 h6 hu4 (Or.inl ⟨q4, rfl, rfl⟩)
      · exact hu_chg hI hb hLM hop h4 h5 h6 hu4 (Or.inr ⟨q0, q4, rfl, rfl⟩)
theorem hu_pcW {f : Nat → Int32} {n k c d : Nat} {s : TK9} (hI : tkI s) (h : pkW f n k s c d) : c ≤ (huPc (pkb f n k) (huS s)).1 ∧ d ≤ (huPc (pkb f n k) (huS s)).2 := by
  have h1 := huPc_1 (pkb f n k) (huS s)
  rcases h with ⟨rfl, rfl⟩ | ⟨u, T1, T2, z, hf1, A1, A2, x, uu, hb, hLM, hop, h4, h5, h6, hu4, h7⟩
  · exact h1
  · exact hu_chg hI hb hLM hop h4 h5 h6 hu4 h7
/-- what take's contract wants of its costs -/
def csC (f : Nat → Int32) (n : Nat) (i : Nat) (s : TK9) : Nat := (huCo (rbN f n 9400) n n i (huS s)).1
def csS (f : Nat → Int32) (n : Nat) (i : Nat) (s : TK9) : Nat := (huCo (rbN f n 9400) n n i (huS s)).2
theorem cs_K {f : Nat → Int32} {n : Nat} : ∀ i s, i < n → ¬ rbN f n 9400 i = 71 → csC f n (i + 1) (cup s.1 5, s.2) ≤ csC f n i s ∧ csS f n (i + 1) (cup s.1 5, s.2) ≤ csS f n i s := by
  intro i s hi h7
  obtain ⟨m, hm⟩ : ∃ m, n = m + 1 := ⟨n - 1, by omega⟩
  have e : huCo (rbN f n 9400) n n i (huS s) = huCo (rbN f n 9400) n n (i + 1) (huS (cup s.1 5, s.2)) := by
    rw [co_irr (rbN f n 9400) n n (m + 1) i (huS s) (by omega) (by omega), huCo, if_neg (fun q => q.elim (fun q => by omega) (fun q => h7 q.1)), if_pos h7]
    exact co_irr _ _ _ _ _ _ (by omega) (by omega)
  unfold csC csS
  rw [e]
  exact ⟨Nat.le_refl _, Nat.le_refl _⟩
theorem cs_eq {f : Nat → Int32} {n i : Nat} (A : HS) (hi : i + 188 ≤ n) (h7 : rbN f n 9400 i = 71) : huCo (rbN f n 9400) n n i A = ((huPc (pkb f n i) A).1 + (huCo (rbN f n 9400) n n (i + 188) (huPk (pkb f n i) A)).1, (huPc (pkb f n i) A).2 + (huCo (rbN f n 9400) n n (i + 188) (huPk (pkb f n i) A)).2) := by
  obtain ⟨m, hm⟩ : ∃ m, n = m + 1 := ⟨n - 1, by omega⟩
  rw [co_irr (rbN f n 9400) n n (m + 1) i A (by omega) (by omega), huCo, if_neg (fun q => q.elim (fun q => by omega) (fun q => by omega)), if_neg (fun q => q h7), co_irr (rbN f n 9400) n n m (i + 188) _ (by omega) (by omega)]
theorem cs_W {f : Nat → Int32} {n : Nat} : ∀ i s c d, tkI s → lad s.2.1 → i + 188 ≤ n → rbN f n 9400 i = 71 → pkW f n i s c d → c ≤ csC f n i s ∧ d ≤ csS f n i s := by
  intro i s c d hI _ hi h7 h
  have h1 := hu_pcW hI h
  unfold csC csS
  rw [cs_eq (huS s) hi h7]
  exact ⟨Nat.le_trans h1.1 (Nat.le_add_right _ _), Nat.le_trans h1.2 (Nat.le_add_right _ _)⟩
theorem cs_S {f : Nat → Int32} {n : Nat} (hn : n ≤ 9400) : ∀ i s t c d, tkI s → lad s.2.1 → tkI t → lad t.2.1 → i + 188 ≤ n → rbN f n 9400 i = 71 → pkP f n i s t c d → c + csC f n (i + 188) t ≤ csC f n i s ∧ d + csS f n (i + 188) t ≤ csS f n i s := by
  intro i s t c d hI _ _ hnd hi h7 h
  have h1 := hu_pcP hI h
  have e := hu_pk (by omega) hI hnd h
  unfold csC csS
  rw [cs_eq (huS s) hi h7, e]
  exact ⟨Nat.add_le_add_right h1.1 _, Nat.add_le_add_right h1.2 _⟩


/-! The hub: pieces -/
def huKd (g : HP) : HD := (g.1, g.2.1, g.2.2.1, g.2.2.2.1, g.2.2.2.2.1)
def huPs (z : HL) (g : Option HP) : HL := (z.1, z.2.1, z.2.2.1, z.2.2.2.1, g)
/-- a piece is done -/
def huDn (p : Nat) (g : HP) (A : HS) : HS := (cup A.1 9, va_up A.2.1 p (huPs (A.2.1 p) none), A.2.2.1, A.2.2.2.1, va_up A.2.2.2.2.1 (kdI (A.1 9)) (some (huKd g)), A.2.2.2.2.2)
/-- a piece ends -/
def huEp (p : Nat) (A : HS) : HS := match (A.2.1 p).2.2.2.2 with
  | some g => if g.2.2.2.2.2 = -1 then huDn p g A else huGu p A
  | none => huGu p A
def huBe (b : Nat → Nat) (i : Nat) : Nat := b (i + 8)
def huBt (b : Nat → Nat) (i : Nat) : Nat := huB b (8 * (i + 4)) 16
def huBu (b : Nat → Nat) (i : Nat) : Int32 := if huBt b i = 0 then -1 else nI (huBt b i) - 3 - nI (huBe b i)
abbrev huBm (b : Nat → Nat) (i : Nat) : Prop := ¬ b (i + 7) / 64 < 2 ∧ ¬ huBe b i < 5
def huTm (b : Nat → Nat) (i : Nat) : Nat := huB b (8 * i + 4) 3 * 2 ^ 30 + (huB b (8 * i + 8) 15 * 2 ^ 15 + huB b (8 * i + 24) 15)
def huBz (b : Nat → Nat) (i : Nat) : Int64 := if huBm b i then lN (huTm b (i + 9)) else -1
abbrev huBok (b : Nat → Nat) (i : Nat) : Prop := i + 9 + huBe b i ≤ 188 ∧ huB b (8 * i) 24 = 1 ∧ b (i + 6) / 64 = 2 ∧ (huBt b i = 0 ∨ ¬ huBu b i < 0)
/-- a piece begins, or not: where its data stand -/
def huBp (b : Nat → Nat) (i p : Nat) (A : HS) : Nat × HS := if huBok b i then (i + 9 + huBe b i, (A.1, va_up A.2.1 p (huPs (A.2.1 p) (some (nI p, nI (b (i + 3)), huBz b i, 0, 0, huBu b i))), A.2.2.1, (if huBm b i then huMn A.2.2.2.1 p (lN (huTm b (i + 9))) else A.2.2.2.1), A.2.2.2.2)) else (188, A)
def huGa (b : Nat → Nat) : Nat → Nat → Int32 × Int32 × Int32 → Int32 × Int32 × Int32
  | 0, _, g => g
  | m + 1, i, g => if g.2.2 = 0 then g else huGa b m (i + 1) (g.1 + 1, 31 * g.2.1 + nI (b i), if g.2.2 ≤ 0 then g.2.2 else g.2.2 - 1)
/-- a piece's data -/
def huGt (b : Nat → Nat) (i p : Nat) (A : HS) : HS := match (A.2.1 p).2.2.2.2 with
  | none => A
  | some g => if (huGa b (188 - i) i g.2.2.2).2.2 = 0 then huDn p (g.1, g.2.1, g.2.2.1, huGa b (188 - i) i g.2.2.2) A
    else (A.1, va_up A.2.1 p (huPs (A.2.1 p) (some (g.1, g.2.1, g.2.2.1, huGa b (188 - i) i g.2.2.2))), A.2.2)
/-- a packet's piece -/
def huPi (b : Nat → Nat) (p : Nat) (A : HS) : HS := if b 1 / 64 % 2 = 0 then huGt b (huPay b) p A else huGt b (huBp b (huPay b) p (huEp p A)).1 p (huBp b (huPay b) p (huEp p A)).2
/-! The class's pieces in the hub -/
theorem huB_sh (f : Nat → Int32) (n k x : Nat) : ∀ c, huB (rbN f n 9400) (8 * k + x) c = huB (pkb f n k) x c
  | 0 => rfl
  | c + 1 => by
    rw [huB, huB, huB_sh f n k x c]
    show _ + rbN f n 9400 ((8 * k + x + c) / 8) / 2 ^ (7 - (8 * k + x + c) % 8) % 2 = _ + rbN f n 9400 (k + (x + c) / 8) / 2 ^ (7 - (x + c) % 8) % 2
    rw [show (8 * k + x + c) / 8 = k + (x + c) / 8 by omega, show (8 * k + x + c) % 8 = (x + c) % 8 by omega]
theorem bN_sh {f : Nat → Int32} {n k y x c : Nat} (h : y = 8 * k + x) : bN f n 9400 y c = huB (pkb f n k) x c := by rw [h, hu_bN, huB_sh]
def huPv (z : LZ) (T1 T2 : List LZ) (lv : Int32) (cn : Nat → Int32) (se : Option SQ9) (pi : Option PQ9) (dn : Nat → Option PQ9) (P : List PR9) : HS := huGs z dn (cn, se, pi, T1, T2, lv, 0, 0, none, P, [])
section PV
variable {z : LZ} {T1 T2 : List LZ} {lv : Int32} {cn : Nat → Int32} {se : Option SQ9} {pi : Option PQ9} {dn : Nat → Option PQ9} {P : List PR9}
theorem huPv_eq (ho : oth z (T1 ++ T2)) : huPv z T1 T2 lv cn se pi dn P = (cn, va_up (huV (T1 ++ T2)) z.2.1 (huZ (zq z se pi)), lv, P.map pv9, (fun k => (dn k).map huDq), va_up (huRw (T1 ++ T2)) z.2.1 se.isSome) := huGs_eq ho
theorem huPv_at (ho : oth z (T1 ++ T2)) : (huPv z T1 T2 lv cn se pi dn P).2.1 z.2.1 = huZ (zq z se pi) := huGs_at ho
theorem huPv_gu (ho : oth z (T1 ++ T2)) : huPv z T1 T2 lv (guC cn se pi) (guS se) (guI pi) dn P = huGu z.2.1 (huPv z T1 T2 lv cn se pi dn P) := hu_gu (s := (cn, se, pi, T1, T2, lv, 0, 0, none, P, [])) ho
theorem huPv_dn (ho : oth z (T1 ++ T2)) {pi2 : Option PQ9} {v : PQ9} {g : HP} (h1 : huPq pi2 = none) (hv : huDq v = huKd g) : huPv z T1 T2 lv (cup cn 9) se pi2 (va_up dn (kdI (cn 9)) (some v)) P = huDn z.2.1 g (huPv z T1 T2 lv cn se pi dn P) := by
  unfold huDn
  rw [huPv_at ho, huPv_eq ho, huPv_eq ho]
  show (_, _, _, _, _, _) = (_, va_up (va_up (huV (T1 ++ T2)) z.2.1 (huZ (zq z se pi))) z.2.1 _, _, _, va_up (fun k => (dn k).map huDq) _ _, _)
  rw [vu_vu]
  have e1 : huZ (zq z se pi2) = huPs (huZ (zq z se pi)) none := by
    show (_, _, _, _, huPq pi2) = _
    rw [h1]
    rfl
  have e2 : (fun k => (va_up dn (kdI (cn 9)) (some v) k).map huDq) = va_up (fun k => (dn k).map huDq) (kdI (cn 9)) (some (huKd g)) := by
    funext q
    by_cases c : q = kdI (cn 9)
    · rw [c, va_up_self, va_up_self, ← hv]; rfl
    · rw [va_up_ne _ _ c, va_up_ne _ _ c]
  rw [e1, e2]
theorem hu_ep (ho : oth z (T1 ++ T2)) {u : EU9} (h : epP cn se pi dn u) : huPv z T1 T2 lv u.1 u.2.1 u.2.2.1 u.2.2.2.1 P = huEp z.2.1 (huPv z T1 T2 lv cn se pi dn P) ∧ huPq u.2.2.1 = none := by
  unfold huEp
  rw [huPv_at ho]
  rcases h with ⟨q, v, rfl, h1, h2, hv, e1, e2, e3, e4⟩ | ⟨h0, e1, e2, e3, e4⟩
  · refine ⟨?_, by rw [e3]; exact huPq_gu _⟩
    have hq : (huZ (zq z se (some q))).2.2.2.2 = some q.2.2 := if_neg h1
    rw [hq, e1, e2, e3, e4]
    show _ = if q.2.2.2.2.2.2.2 = -1 then _ else _
    rw [if_pos h2]
    refine huPv_dn ho (huPq_gu _) ?_
    unfold huDq huKd
    rw [hv]
  · refine ⟨?_, by rw [e3]; exact huPq_gu _⟩
    rw [e1, e2, e3, e4, huPv_gu ho]
    cases c : pi with
    | none => rfl
    | some q =>
      by_cases c2 : q.2.1 = 0
      · have hq : (huZ (zq z se (some q))).2.2.2.2 = none := if_pos c2
        rw [hq]
      · have hq : (huZ (zq z se (some q))).2.2.2.2 = some q.2.2 := if_neg c2
        rw [hq]
        show _ = if q.2.2.2.2.2.2.2 = -1 then _ else _
        rw [if_neg (fun c3 => h0 ⟨q, c, c2, c3⟩)]
theorem hu_bp (ho : oth z (T1 ++ T2)) {f : Nat → Int32} {n k i : Nat} {r : Int32} {v : BU9} (h : bpP f n (k + i) (k + 188) z.2.1 pi P r v) : ∃ j, (huBp (pkb f n k) i z.2.1 (huPv z T1 T2 lv cn se pi dn P)) = (j, huPv z T1 T2 lv cn se v.1 dn v.2.1) ∧ j ≤ 188 ∧ r = nI (k + j) := by
  unfold huBp
  have e1 : bpE f n (k + i) = huBe (pkb f n k) i := by
    unfold bpE huBe
    rw [Nat.add_assoc]
  have e2 : bpT f n (k + i) = huBt (pkb f n k) i := bN_sh (by omega)
  have e3 : bpU f n (k + i) = huBu (pkb f n k) i := by
    unfold bpU huBu
    rw [e1, e2]
  have e4 : bpM f n (k + i) ↔ huBm (pkb f n k) i := by
    unfold bpM huBm
    rw [e1]
    show (¬ rbN f n 9400 (k + i + 7) / 64 < 2 ∧ _) ↔ (¬ rbN f n 9400 (k + (i + 7)) / 64 < 2 ∧ _)
    rw [Nat.add_assoc]
  have e5 : tmN f n (k + i + 9) = huTm (pkb f n k) (i + 9) := by
    unfold tmN huTm
    rw [bN_sh (k := k) (x := 8 * (i + 9) + 4) (by omega), bN_sh (k := k) (x := 8 * (i + 9) + 8) (by omega), bN_sh (k := k) (x := 8 * (i + 9) + 24) (by omega)]
  have e6 : bpZ f n (k + i) = huBz (pkb f n k) i := by
    unfold bpZ huBz
    rw [if_iff e4, e5]
  have e7 : bpOk f n (k + i) (k + 188) ↔ huBok (pkb f n k) i := by
    unfold bpOk huBok
    rw [e1, e2, e3, bN_sh (k := k) (x := 8 * i) (by omega)]
    show (_ ∧ _ ∧ rbN f n 9400 (k + i + 6) / 64 = 2 ∧ _) ↔ (_ ∧ _ ∧ rbN f n 9400 (k + (i + 6)) / 64 = 2 ∧ _)
    rw [Nat.add_assoc k i 6]
    constructor
    · rintro ⟨h1, h2⟩
      exact ⟨by omega, h2⟩
    · rintro ⟨h1, h2⟩
      exact ⟨by omega, h2⟩
  rcases h with ⟨h1, h2, rfl⟩ | ⟨h1, h2, ⟨a, -, h3⟩, h4⟩
  · rw [if_neg (mt e7.mpr h1)]
    exact ⟨188, rfl, Nat.le_refl _, h2⟩
  · rw [if_pos (e7.mp h1), huPv_at ho]
    refine ⟨i + 9 + huBe (pkb f n k) i, ?_, (e7.mp h1).1, ?_⟩
    · congr 1
      rw [huPv_eq ho, huPv_eq ho]
      show (_, va_up (va_up (huV (T1 ++ T2)) z.2.1 (huZ (zq z se pi))) z.2.1 _, _, _, _, _) = _
      rw [vu_vu, h3]
      have ep : huZ (zq z se (some (a, 1, nI z.2.1, nI (rbN f n 9400 (k + i + 3)), bpZ f n (k + i), 0, 0, bpU f n (k + i)))) = huPs (huZ (zq z se pi)) (some (nI z.2.1, nI (pkb f n k (i + 3)), huBz (pkb f n k) i, 0, 0, huBu (pkb f n k) i)) := by
        show (_, _, _, _, huPq _) = _
        unfold huPq
        show (_, _, _, _, if (1 : Int32) = 0 then none else _) = _
        rw [if_neg (by decide), e6, e3]
        show (_, _, _, _, some (nI z.2.1, nI (rbN f n 9400 (k + i + 3)), _)) = (_, _, _, _, some (nI z.2.1, nI (rbN f n 9400 (k + (i + 3))), _))
        rw [Nat.add_assoc k i 3]
        rfl
      rw [ep]
      congr 3
      rcases h4 with ⟨h5, h6⟩ | ⟨h5, h6⟩
      · rw [if_pos (e4.mp h5), ← e5]
        congr 1
        exact (hu_mn h6).symm
      · rw [if_neg (mt e4.mpr h5), show v.2.1 = P from congrArg Prod.fst h6]
    · rw [h2, e1]
      congr 1
      omega
theorem hu_ga (f : Nat → Int32) (n k : Nat) : ∀ m i b s d, gaL f n m (k + i) b s d = huGa (pkb f n k) m i (b, s, d)
  | 0, _, _, _, _ => rfl
  | m + 1, i, b, s, d => by
    rw [gaL, huGa, Nat.add_assoc, hu_ga f n k m (i + 1)]
theorem hu_gt (ho : oth z (T1 ++ T2)) {f : Nat → Int32} {n k i : Nat} {b : UB9} {cn2 : Nat → Int32} {pi2 : Option PQ9} {dn2 : Nat → Option PQ9} (hb : b.2.2.2.2.2.2 = k + i) (h : upE f n (k + 188) b cn2 pi2 dn2) : huPv z T1 T2 lv cn2 se pi2 dn2 P = huGt (pkb f n k) i z.2.1 (huPv z T1 T2 lv b.1 se b.2.2.1 b.2.2.2.1 P) := by
  unfold huGt
  rw [huPv_at ho]
  rcases h with ⟨h0, rfl, rfl, rfl⟩ | ⟨q, g, hq, h1, hg, h⟩
  · have : (huZ (zq z se b.2.2.1)).2.2.2.2 = none := by
      show huPq b.2.2.1 = none
      cases c : b.2.2.1 with
      | none => rfl
      | some q => exact if_pos (h0 q c)
    rw [this]
  · have : (huZ (zq z se b.2.2.1)).2.2.2.2 = some q.2.2 := by
      show huPq b.2.2.1 = _
      rw [hq]
      exact if_neg h1
    rw [this]
    have hg2 : g = huGa (pkb f n k) (188 - i) i q.2.2.2.2.2 := by
      rw [← hg, hb, show k + 188 - (k + i) = 188 - i by omega, hu_ga]
    show _ = if (huGa (pkb f n k) (188 - i) i q.2.2.2.2.2).2.2 = 0 then huDn z.2.1 (q.2.2.1, q.2.2.2.1, q.2.2.2.2.1, huGa (pkb f n k) (188 - i) i q.2.2.2.2.2) _ else (b.1, va_up _ z.2.1 (huPs _ (some (q.2.2.1, q.2.2.2.1, q.2.2.2.2.1, huGa (pkb f n k) (188 - i) i q.2.2.2.2.2))), _)
    rw [← hg2]
    rcases h with ⟨h2, rfl, rfl, rfl⟩ | ⟨h2, rfl, rfl, v, hv, rfl⟩
    · rw [if_neg h2, huPv_eq ho, huPv_eq ho]
      show (_, _, _, _, _, _) = (_, va_up (va_up (huV (T1 ++ T2)) z.2.1 (huZ (zq z se b.2.2.1))) z.2.1 _, _, _, _, _)
      rw [vu_vu]
      have : huZ (zq z se (some (q.1, q.2.1, q.2.2.1, q.2.2.2.1, q.2.2.2.2.1, g))) = huPs (huZ (zq z se b.2.2.1)) (some (q.2.2.1, q.2.2.2.1, q.2.2.2.2.1, g)) := by
        show (_, _, _, _, if q.2.1 = 0 then none else some _) = _
        rw [if_neg h1]
        rfl
      rw [this]
    · rw [if_pos h2]
      refine huPv_dn ho (by unfold huPq; exact if_pos rfl) ?_
      unfold huDq huKd
      rw [hv]
theorem hu_pi (ho : oth z (T1 ++ T2)) {f : Nat → Int32} {n k : Nat} {u : UU9} (hk : k + 188 ≤ 9400) (h : upP f n k z.2.1 cn se pi dn P u) : huPv z T1 T2 lv u.1 u.2.1 u.2.2.1 u.2.2.2.1 u.2.2.2.2.2.1 = huPi (pkb f n k) z.2.1 (huPv z T1 T2 lv cn se pi dn P) := by
  obtain ⟨b, hb, he, e1, e2, -⟩ := h
  unfold huPi
  rw [e1, e2]
  rcases hb with ⟨hs, rfl⟩ | ⟨hs, u1, v, hep, hbp, b1, b2, b3, b4, b5, -, b7⟩
  · rw [if_pos (hu_s.mp hs)]
    exact hu_gt ho (b := (cn, se, pi, dn, P, [], payN f n 9400 k)) (hu_pay f n k) he
  · rw [if_neg (mt hu_s.mpr hs)]
    have h1 := (hu_ep (lv := lv) (P := P) ho hep).1
    rw [hu_pay] at hbp
    obtain ⟨j, h2, hj, hr⟩ := hu_bp (lv := lv) (cn := u1.1) (se := u1.2.1) (dn := u1.2.2.2.1) ho hbp
    rw [← h1, h2]
    have hj2 : b.2.2.2.2.2.2 = k + j := (nI_eq (by omega) (by omega)).mp hr
    have := hu_gt (lv := lv) (se := b.2.1) (P := b.2.2.2.2.1) ho hj2 he
    rw [this, b1, b2, b3, b4, b5]
end PV


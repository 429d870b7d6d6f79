theorem bz_0 {f : Nat → Int32} {n k : Nat} (h : nI (rbN f n 9400 (k + 7) / 64) < 2) : -1 = bpZ f n k := by
  have h7 := rb_lt f n 9400 (k + 7)
  unfold bpZ
  rw [if_neg (fun z => z.1 ((nI_ltI (b := 2) (by omega) (by omega)).mp h))]
theorem bz_2 {f : Nat → Int32} {n k : Nat} (h : nI (rbN f n 9400 (k + 8)) < 5) : -1 = bpZ f n k := by
  have h8 : bpE f n k < 256 := rb_lt f n 9400 (k + 8)
  unfold bpZ
  rw [if_neg (fun z => z.2 ((nI_ltI (b := 5) (by omega) (by omega)).mp h))]
theorem bz_1 {f : Nat → Int32} {n k : Nat} (h : ¬ nI (rbN f n 9400 (k + 7) / 64) < 2) (h2 : ¬ nI (rbN f n 9400 (k + 8)) < 5) : ((rw_bits f n 9400 (8 * (k + 9) + 4) 3 <<< ((30 : Int32).toInt64 &&& 63)) ||| (rw_bits f n 9400 (8 * (k + 9) + 8) 15 <<< ((15 : Int32).toInt64 &&& 63))) ||| rw_bits f n 9400 (8 * (k + 9) + 24) 15 = bpZ f n k := by
  have h7 := rb_lt f n 9400 (k + 7)
  have h8 : bpE f n k < 256 := rb_lt f n 9400 (k + 8)
  unfold bpZ
  rw [if_pos ⟨mt (nI_ltI (b := 2) (by omega) (by omega)).mpr h, mt (nI_ltI (b := 5) (by omega) (by omega)).mpr h2⟩]
  exact tm_eq f n (k + 9)
abbrev BU9 : Type := Option PQ9 × List PR9 × va_W
/-- what beginPiece does to the lane's piece and the tables -/
def bpP (f : Nat → Int32) (n k te pid : Nat) (pi : Option PQ9) (P : List PR9) (r : Int32) (u : BU9) : Prop :=
  (¬ bpOk f n k te ∧ r = nI te ∧ u = (pi, P, [])) ∨ (bpOk f n k te ∧ r = nI (k + 9 + bpE f n k) ∧ (∃ a, (∀ q, pi = some q → a = q.1) ∧ u.1 = some (a, 1, nI pid, nI (rbN f n 9400 (k + 3)), bpZ f n k, 0, 0, bpU f n k)) ∧ ((bpM f n k ∧ mnP P pid (lN (tmN f n (k + 9))) u.2.1 u.2.2) ∨ (¬ bpM f n k ∧ u.2 = (P, []))))
theorem tok_mono {Q Q2 : va_W} {cO : ClassId} {pst : Option (Nat × (Nat → Option Nat))} {P : List PR9} (h : tok Q cO pst P) (hq : ∀ y ∈ Q, y ∈ Q2) : tok Q2 cO pst P := ⟨h.1, h.2.1, fun x hx => pok_mono (h.2.2 x hx) hq⟩
theorem tok_fix {Q2 Q3 : va_W} {cO : ClassId} {pst : Option (Nat × (Nat → Option Nat))} {P : List PR9} (h : tok Q2 cO pst P) (hS : ∀ x ∈ P, isS Q3 cO x.1.2.2.2.2.2.1 x.2.1) (hO : ∀ x ∈ P, ∀ y ∈ x.2.2.1, (y.1, orE y.2) ∈ Q3) : tok Q3 cO pst P := ⟨h.1, h.2.1, fun x hx => ⟨(h.2.2 x hx).1, hS x hx, wok_fix (h.2.2 x hx).2.2.1 (hO x hx), (h.2.2 x hx).2.2.2⟩⟩
theorem mn_tok {Im Q2 nc : va_W} {cO : ClassId} {pst : Option (Nat × (Nat → Option Nat))} {P P2 : List PR9} {pid : Nat} {t : Int64} (h0 : tok Im cO pst P) (h : mnP P pid t P2 nc) (h2 : tok Q2 cO pst P2) : tok (nc ++ Im) cO pst P2 := by
  have hq : ∀ y ∈ Im, y ∈ nc ++ Im := fun y hy => List.mem_append_right _ hy
  rcases h with ⟨-, rfl, -⟩ | ⟨j, aw, Wl2, mo2, wst2, hj, -, -, h3, rfl⟩
  · exact tok_mono h0 hq
  · have hpk := h0.2.2 _ (p_mem hj)
    refine tok_fix h2 (fun x hx => ?_) (fun x hx y hy => ?_)
    · rcases List.mem_or_eq_of_mem_set hx with q | q
      · exact isS_mono (h0.2.2 x q).2.1 hq
      · rw [q]; exact isS_mono hpk.2.1 hq
    · rcases List.mem_or_eq_of_mem_set hx with q | q
      · exact hq _ (wok_in (h0.2.2 x q).2.2.1 y hy)
      · rw [q] at hy
        rcases od_mem 12 h3 y hy with e | e
        · exact hq _ (wok_in hpk.2.2.1 y e)
        · exact List.mem_append_left _ e


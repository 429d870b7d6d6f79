/-! A taking: both sides the same -/
abbrev rtJ (M N i : Nat) (y : RK9) : Prop := rtI M N (min i 9400) y
theorem rtJ_5 {M N : Nat} (i : Nat) (y : RK9) (h : rtJ M N i y) : rtJ M N (i + 1) (k5 y) := by
  obtain ⟨A, m, h1, h2, h3, h4⟩ := h
  exact ⟨_, m, hK_5 h1, h2, by omega, by show kN y ≤ _; omega⟩
theorem RT_B {T : List Int32} {f tp : Nat → Int32} (h : RT T f tp) : ∀ j, j < T.length → tp j = nI (rbN f T.length 9400 j) := by
  intro j hj
  rw [← rb_eq, sp_at h.1 h.2.2 hj, h.2.1 j hj]
theorem RT_B2 {T : List Int32} {f tp : Nat → Int32} (h : RT T f tp) : ∀ j, j < T.length → ∃ b, b < 256 ∧ tp j = nI b := fun j hj => ⟨_, rb_lt _ _ _ _, RT_B h j hj⟩
theorem rtJ_p {M N : Nat} {T : List Int32} {f tp : Nat → Int32} (h : RT T f tp) (hM : M ≤ 4803400) (hN : N ≤ 9606800) (i : Nat) (y t : RK9) (hi : i + 188 ≤ T.length) (hI : rtJ M N i y) (hk : kpP tp i y t) : rtJ M N (i + 188) t := by
  have hl := h.2.2
  have hI : rtI M N (min i 9400) y := hI
  rw [show min i 9400 = i by omega] at hI
  have := rtI_p (B := rbN f T.length 9400) (by omega) (by omega) (RT_B h) (fun j => rb_lt _ _ _ _) hi hI hk
  show rtI M N (min (i + 188) 9400) t
  rw [show min (i + 188) 9400 = i + 188 by omega]
  exact this
theorem rtJ_u {M N : Nat} (hN : N ≤ 9606800) (i : Nat) (y : RK9) (h : rtJ M N i y) : rtU y := rtI_u (by omega) h
theorem rtJ_0 {k : Nat} {s : TK9} {y : RK9} (h : RH k s y) : rtJ (9400 * k) (18800 * k) 0 y := by
  obtain ⟨-, h2, ⟨m, h3, h4⟩, h5⟩ := h
  exact ⟨_, m, h2, h3, by omega, by omega⟩
theorem take_OK {k : Nat} {T : List Int32} {f tp : Nat → Int32} {s : TK9} {y : RK9} {r1 r2 : Int32} {u1 : Nat} {s2 : TK9} {u2 : Nat × RK9} {c d : Nat} (hk : k ≤ 511) (hRT : RT T f tp) (hRH : RH k s y) (hRM : RM k T (huS s) c d) (h1 : ∃ pk, tkL f T.length T.length 0 s (u1, pk, s2) ∧ r1 = nI pk ∧ pk ≤ 9400) (h1l : u1 ≤ T.length) (hI : tkI s2) (h2 : ∃ c, rtL tp T.length T.length 0 y (u2.1, c, u2.2) ∧ r2 = nI c ∧ c ≤ 9400) : r1 = r2 ∧ RT (T.take 0 ++ T.drop (0 + u1)) (va_cpy f f (0 + u1) 0 (T.length - 0 - u1)) (rm_f tp u2.1 0 (T.length - u2.1 - 0)) ∧ T.length - u1 = (T.take 0 ++ T.drop (0 + u1)).length ∧ T.length - u2.1 = (T.take 0 ++ T.drop (0 + u1)).length ∧ RH (k + 1) s2 u2.2 ∧ lwq s2.2.1 s.2.1 ∧ RM (k + 1) (T.take 0 ++ T.drop (0 + u1)) (huS s2) (c + csC f T.length 0 s) (d + csS f T.length 0 s) := by
  obtain ⟨pk, ht, hr1, -⟩ := h1
  obtain ⟨c2, hrt, hr2, -⟩ := h2
  obtain ⟨hI0, hK0, ⟨m, hM0, hm⟩, hN0⟩ := hRH
  have e1 := hu_tk hRT.2.2 ht
  have e2 := hr_tk (M := 9400 * k) (N := 18800 * k) hRT.2.2 (by omega) (by omega) (RT_B hRT) (fun j => rb_lt _ _ _ _) (Nat.zero_le _) hK0 hM0 (by omega) (by omega) hrt
  obtain ⟨a1, a2, ⟨k2, a3, a4⟩, a5, a6⟩ := e2
  rw [← e1] at a1 a2 a3
  have a1 : (u2.1, c2) = (u1, pk) := a1
  obtain ⟨b1, b2⟩ := Prod.mk.inj a1
  have a2 : hK (huS s2) u2.2 := a2
  have a3 : hM k2 (huS s2) := a3
  have a4 : k2 ≤ 9400 * k + u2.1 := a4
  have a5 : kN u2.2 ≤ 18800 * k + 2 * u2.1 := a5
  have hk0 : 0 + u1 ≤ T.length := by omega
  have hl := dr_len hk0
  have hl9 := hRT.2.2
  obtain ⟨C, hC1, hC2, hC3⟩ := hRM
  obtain ⟨D, d1, d2, d3, d4, d5, d6⟩ := tk_room hRT.1 hRT.2.2 hC1 (s := s) rfl
  rw [← e1] at d1 d2 d5 d6
  have d5 : csC f T.length 0 s + 2 * gfh gG (huS s2) + 80 * D.length + 40 * (T.length - u1) / 188 ≤ 19 * 50 + 2 * gfh gG (huS s) + 80 * C.length + 40 * T.length / 188 := d5
  have d6 : csS f T.length 0 s + 1026 * gfh gG (huS s2) + 1554 * D.length + 305 * (T.length - u1) / 188 ≤ 1026 * gfh gG (huS s) + 1554 * C.length + 305 * T.length / 188 := d6
  refine ⟨by rw [hr1, hr2, b2], ⟨cpy_rc hRT.1 hk0, ?_, by rw [hl]; omega⟩, hl.symm, by rw [hl, b1], ⟨hI, a2, ⟨k2, a3, by omega⟩, by omega⟩, tk_lwq ht, D, ?_, ?_, ?_⟩
  · rw [b1]
    exact rm_rl hRT.2.1 hk0
  · rw [List.take_zero, List.nil_append, Nat.zero_add]
    exact d1
  · rw [hl]; omega
  · rw [hl]; omega
theorem take_RM {k : Nat} {T : List Int32} {f tp : Nat → Int32} {s : TK9} {c d : Nat} (hk : k ≤ 511) (hRT : RT T f tp) (hRM : RM k T (huS s) c d) : c + csC f T.length 0 s ≤ 601024 ∧ d + csS f T.length 0 s ≤ 7293033 := by
  obtain ⟨C, hC1, hC2, hC3⟩ := hRM
  obtain ⟨D, d1, d2, d3, d4, d5, d6⟩ := tk_room hRT.1 hRT.2.2 hC1 (s := s) rfl
  omega


/-! An order section -/
theorem tok_set {Q Q2 : va_W} {cO : ClassId} {pst : Option (Nat × (Nat → Option Nat))} {P : List PR9} {j : Nat} {x : PR9} (htk : tok Q cO pst P) (hj : j < P.length) (hx : x.1.1 = (P.getD j pr9).1.1) (hq : ∀ y ∈ Q, y ∈ Q2) (hp : pok Q2 cO x) : tok Q2 cO pst (P.set j x) := by
  refine ⟨by rw [List.length_set]; exact htk.1, ?_, fun y hy => ?_⟩
  · have h2 := htk.2.1
    cases pst with
    | none => rw [show P = [] from h2] at hj; exact absurd hj (Nat.not_lt_zero j)
    | some q =>
      intro i hi
      rw [List.length_set] at hi
      have h3 := (show ∀ j, j < P.length → q.2 j = some (P.getD j pr9).1.1 from h2) i hi
      rw [h3]
      by_cases c : j = i
      · subst c
        rw [List.getD_eq_getElem?_getD (l := P.set j _), List.getElem?_set, if_pos rfl, if_pos hi, ← hx]
        rfl
      · rw [List.getD_eq_getElem?_getD (l := P.set j _), List.getElem?_set, if_neg c, ← List.getD_eq_getElem?_getD]
  · rcases List.mem_or_eq_of_mem_set hy with q | q
    · exact pok_mono (htk.2.2 y q) hq
    · rw [q]; exact hp
theorem ke_mem {Wl W1 : WL9} {w : Nat × Int64 × Int32 × Int32 × Int64} (h : keP Wl w W1) : ∀ y ∈ W1, y ∈ Wl ∨ y = w := by
  rcases h with ⟨j, -, -, -, rfl⟩ | ⟨-, rfl⟩
  · intro y hy
    rcases List.mem_or_eq_of_mem_set hy with q | q
    · exact Or.inl q
    · exact Or.inr q
  · intro y hy
    split at hy
    · rcases List.mem_append.mp hy with q | q
      · exact Or.inl q
      · exact Or.inr (List.mem_singleton.mp q)
    · exact Or.inl hy
theorem sw_mem {f : Nat → Int32} {n : Nat} {nw : Int64} {aw aw2 : Int32} {Wl Wl2 : WL9} {nc : va_W} (h : swP f n nw aw Wl aw2 Wl2 nc) : ∀ y ∈ Wl2, y ∈ Wl ∨ (y.1, orE y.2) ∈ nc := by
  rcases h with ⟨-, -, rfl, -⟩ | ⟨-, -, -, oa, h1, -, rfl⟩ | ⟨-, -, -, oa, w, h1, -, rfl⟩
  · exact fun y hy => Or.inl hy
  · intro y hy
    rcases ke_mem h1 y hy with q | q
    · exact Or.inl q
    · rw [q]; exact Or.inr List.mem_cons_self
  · intro y hy
    rcases ob_mem h1 y hy with q | q
    · exact Or.inl q
    · exact Or.inr (List.mem_append_left _ q)
abbrev ioP (f : Nat → Int32) (n : Nat) : Prop := rw_at f n 1024 0 = 252 ∧ rw_at f n 1024 3 = 0 ∧ ¬ rw_bit f n 1024 32 = 1 ∧ rw_at f n 1024 13 = 5 ∧ 19 ≤ n
/-- what an order section does -/
def uoP (f : Nat → Int32) (n : Nat) (P : List PR9) (pid : Nat) (P2 : List PR9) (nc : va_W) : Prop :=
  (((∀ j, j < P.length → ¬ hasP (P.getD j pr9).2.1 pid) ∨ ¬ ioP f n) ∧ P2 = P ∧ nc = [])
  ∨ (ioP f n ∧ ∃ j mo2 wst2 aw2 Wl2, j < P.length ∧ hasP (P.getD j pr9).2.1 pid ∧ (∀ i, i < j → ¬ hasP (P.getD i pr9).2.1 pid) ∧ ((bt9 f n 144 ∧ aw2 = (P.getD j pr9).1.2.2.2.2.2.2.1 ∧ Wl2 = (P.getD j pr9).2.2.1.filter (cnP (rw_bits f n 1024 112 32).toInt32) ∧ nc = []) ∨ (¬ bt9 f n 144 ∧ swP f n (P.getD j pr9).1.2.2.2.2.2.2.2.1 (P.getD j pr9).1.2.2.2.2.2.2.1 (P.getD j pr9).2.2.1 aw2 Wl2 nc)) ∧ P2 = P.set j (pzA (P.getD j pr9).1 aw2, (P.getD j pr9).2.1, Wl2, mo2, wst2))
theorem obl_fi {Wl : WL9} {p : Nat × Int64 × Int32 × Int32 × Int64 → Bool} (h : obl Wl) : obl (Wl.filter p) := by
  intro j hj
  have hm := w_mem hj
  have h2 := (List.mem_filter.mp hm).1
  obtain ⟨i, hi, e⟩ := List.getElem_of_mem h2
  have h3 := h i hi
  rw [List.getD_eq_getElem?_getD, List.getElem?_eq_getElem hi] at h3
  rw [← e]
  exact h3
theorem uo_cn {Q R0 : va_W} {cO : ClassId} {pst : Option (Nat × (Nat → Option Nat))} {P P2 : List PR9} {f : Nat → Int32} {n j pid : Nat} {z : PZ} {S : List (Int32 × Nat)} {Wl : WL9} {mo : Int32} {wst : Option (Nat × (Nat → Option Nat))} {o : WU9} (htk : tok Q cO pst P) (hj : j < P.length) (hxe : (z, S, Wl, mo, wst) = P.getD j pr9) (hh : hasP S pid) (hf : ∀ i, i < j → ¬ hasP (P.getD i pr9).2.1 pid) (hio : ioP f n) (hb : bt9 f n 144)
    (e : o.1 = Wl.filter (cnP (rw_bits f n 1024 112 32).toInt32) ∧ wok (R0 ++ Q) o.2.2 o.1 ∧ o.1.length ≤ 6) (hset : P.set j (pzA z z.2.2.2.2.2.2.1, S, o.1, o.2.1, o.2.2) = P2) : uoP f n P pid P2 [] ∧ tok ([] ++ Q) cO pst P2 := by
  obtain ⟨e1, e2, e3⟩ := e
  have hpk := htk.2.2 _ (p_mem hj)
  rw [← hxe] at hpk
  refine ⟨Or.inr ⟨hio, j, o.2.1, o.2.2, z.2.2.2.2.2.2.1, o.1, hj, by rw [← hxe]; exact hh, hf, Or.inl ⟨hb, by rw [← hxe], by rw [← hxe]; exact e1, rfl⟩, by rw [← hset, ← hxe]⟩, ?_⟩
  rw [← hset]
  refine tok_set htk hj (by rw [← hxe]; rfl) (fun y hy => hy) ⟨hpk.1, hpk.2.1, wok_fix e2 (fun y hy => ?_), e3, by show obl o.1; rw [e1]; exact obl_fi hpk.2.2.2.2⟩
  rw [e1] at hy
  exact wok_in hpk.2.2.1 y (List.mem_filter.mp hy).1
theorem uo_sw {Q R0 : va_W} {cO : ClassId} {pst : Option (Nat × (Nat → Option Nat))} {P P2 : List PR9} {f : Nat → Int32} {n j pid : Nat} {z : PZ} {S : List (Int32 × Nat)} {Wl : WL9} {mo : Int32} {wst : Option (Nat × (Nat → Option Nat))} {o : Int32 × WU9 × va_W} (htk : tok Q cO pst P) (hj : j < P.length) (hxe : (z, S, Wl, mo, wst) = P.getD j pr9) (hh : hasP S pid) (hf : ∀ i, i < j → ¬ hasP (P.getD i pr9).2.1 pid) (hio : ioP f n) (hb : ¬ bt9 f n 144)
    (e : swP f n z.2.2.2.2.2.2.2.1 z.2.2.2.2.2.2.1 Wl o.1 o.2.1.1 o.2.2 ∧ wok (o.2.2 ++ (R0 ++ Q)) o.2.1.2.2 o.2.1.1 ∧ o.2.1.1.length ≤ 6 ∧ obl o.2.1.1) (hset : P.set j (pzA z o.1, S, o.2.1.1, o.2.1.2.1, o.2.1.2.2) = P2) : uoP f n P pid P2 o.2.2 ∧ tok (o.2.2 ++ Q) cO pst P2 := by
  obtain ⟨e1, e2, e3, e4⟩ := e
  have hpk := htk.2.2 _ (p_mem hj)
  rw [← hxe] at hpk
  refine ⟨Or.inr ⟨hio, j, o.2.1.2.1, o.2.1.2.2, o.1, o.2.1.1, hj, by rw [← hxe]; exact hh, hf, Or.inr ⟨hb, by rw [← hxe]; exact e1⟩, by rw [← hset, ← hxe]⟩, ?_⟩
  rw [← hset]
  refine tok_set htk hj (by rw [← hxe]; rfl) (fun y hy => List.mem_append_right _ hy) ⟨hpk.1, isS_mono hpk.2.1 (fun y hy => List.mem_append_right _ hy), wok_fix e2 (fun y hy => ?_), e3, e4⟩
  rcases sw_mem e1 y hy with q | q
  · exact List.mem_append_right _ (wok_in hpk.2.2.1 y q)
  · exact List.mem_append_left _ q
theorem uo_perm {cO : ClassId} {e0 tb pr n : Nat} {lv pmo : Int32} {pst : Option (Nat × (Nat → Option Nat))} {A B : List PR9} {x : PR9} {X ex Q : va_W} : (X ++ (pgc cO e0 x ++ (ex ++ (tplr cO e0 tb lv pr n pmo pst (A ++ B) ++ Q)))).Perm (X ++ (tplr cO e0 tb lv pr n pmo pst (A ++ x :: B) ++ (ex ++ Q))) := by
  refine List.Perm.append_left X ?_
  have h := mn_perm (cO := cO) (e0 := e0) (tb := tb) (pr := pr) (n := n) (lv := lv) (pmo := pmo) (pst := pst) (A := A) (B := B) (x := x) (ex := ex) (Q := Q)
  rw [List.nil_append] at h
  exact h


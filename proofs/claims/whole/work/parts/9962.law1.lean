/-! What the lanes have written stays through a taking -/
def lww (Ls : List LZ) : List (Nat × Int32) := Ls.map (fun z => (z.2.1, z.2.2.2.2.2.2.1))
def lwv (W : List (Nat × Int32)) (x : Nat) : Int32 := ((W.find? (fun p => p.1 == x)).map (fun p => p.2)).getD 0
theorem lww_app (A B : List LZ) : lww (A ++ B) = lww A ++ lww B := List.map_append ..
theorem lww_gv (ka : Nat) (A : List LZ) : lww (A.map (gvz ka)) = lww A := by
  unfold lww
  rw [List.map_map]
  apply List.map_congr_left
  intro z _
  show ((gvz ka z).2.1, (gvz ka z).2.2.2.2.2.2.1) = _
  unfold gvz
  split <;> rfl
theorem lww_es {f : Nat → Int32} {n pid la : Nat} {cn : Nat → Int32} {T1 T2 : List LZ} {lv : Int32} {pr : Nat} {pmo : Int32} {pst : Option (Nat × (Nat → Option Nat))} {P : List PR9} {u : ES9} (h : esP f n pid la cn T1 T2 lv pr pmo pst P u) : lww u.2.1 = lww T1 ∧ lww u.2.2.1 = lww T2 := by
  rcases h with ⟨-, e⟩ | ⟨-, fr, -, ⟨-, -, e1, e2⟩ | ⟨-, -, e1, e2⟩⟩
  · rw [e]; exact ⟨rfl, rfl⟩
  · rw [e1, e2]; exact ⟨rfl, rfl⟩
  · rw [e1, e2]; exact ⟨lww_gv _ _, lww_gv _ _⟩
theorem lww_gs {f : Nat → Int32} {n i0 te pid la : Nat} {s u : GS9} {r : Int32} (h : gsP9 f n i0 te pid la s r u) : lww u.2.2.2.1 = lww s.2.2.2.1 ∧ lww u.2.2.2.2.1 = lww s.2.2.2.2.1 := by
  obtain ⟨o, -, sa, sb, -, ⟨-, -, -, e⟩ | ⟨-, -, e⟩ | ⟨-, -, -, -, -, he, -, -⟩⟩ := h
  · rw [e]; exact ⟨rfl, rfl⟩
  · rw [e]; exact ⟨rfl, rfl⟩
  · exact lww_es he
theorem lww_us {f : Nat → Int32} {n te pid la : Nat} : ∀ {m i : Nat} {s t : GS9}, usL f n te pid la m i s t → lww t.2.2.2.1 = lww s.2.2.2.1 ∧ lww t.2.2.2.2.1 = lww s.2.2.2.2.1
  | 0, _, s, t, h => by rw [show t = s from h]; exact ⟨rfl, rfl⟩
  | m + 1, i, s, t, h => by
    rcases h with ⟨-, e⟩ | ⟨-, -, r, u, hg, ⟨-, e⟩ | ⟨j, -, -, -, hu⟩⟩
    · rw [e]; exact ⟨rfl, rfl⟩
    · rw [e]
      show lww u.2.2.2.1 = _ ∧ lww u.2.2.2.2.1 = _
      exact lww_gs hg
    · have h1 := lww_us hu
      have h2 := lww_gs hg
      exact ⟨h1.1.trans h2.1, h1.2.trans h2.2⟩
theorem lww_ub {f : Nat → Int32} {n k pid la : Nat} {s t : GS9} (h : ubP f n k pid la s t) : lww t.2.2.2.1 = lww s.2.2.2.1 ∧ lww t.2.2.2.2.1 = lww s.2.2.2.2.1 := by
  rcases h with ⟨-, ⟨-, e⟩ | ⟨-, r, u, hg, e⟩⟩ | ⟨-, ⟨-, e⟩ | ⟨-, ⟨-, hu⟩ | ⟨-, r, u, hg, ⟨-, e⟩ | ⟨-, hu⟩⟩⟩⟩
  · rw [e]; exact ⟨rfl, rfl⟩
  · rw [e]
    show lww u.2.2.2.1 = _ ∧ lww u.2.2.2.2.1 = _
    exact lww_gs hg
  · rw [e]; exact ⟨rfl, rfl⟩
  · exact lww_us hu
  · rw [e]
    show lww u.2.2.2.1 = _ ∧ lww u.2.2.2.2.1 = _
    exact lww_gs hg
  · have h1 := lww_us hu
    have h2 := lww_gs hg
    exact ⟨h1.1.trans h2.1, h1.2.trans h2.2⟩
/-- lanes found or made: what is written by PID is the same -/
theorem lwv_lm {Ls T1 T2 : List LZ} {z : LZ} {hf hf1 : Nat → Option Nat} {pid : Nat} (h : LM Ls T1 T2 z hf hf1 pid) (x : Nat) : lwv (lww (T1 ++ z :: T2)) x = lwv (lww Ls) x := by
  obtain ⟨h0, ⟨rfl, -⟩ | ⟨hn, rfl, rfl, he, -⟩⟩ := h
  · rfl
  · have hno := lf_no hn
    show lwv ((z.2.1, z.2.2.2.2.2.2.1) :: lww T2) x = _
    unfold lwv
    rw [List.find?_cons]
    by_cases c : z.2.1 = x
    · have c2 : (z.2.1 == x) = true := by simpa using c
      rw [c2]
      have e : (lww T2).find? (fun p => p.1 == x) = none := by
        apply List.find?_eq_none.mpr
        intro p hp
        obtain ⟨y, hy, rfl⟩ := List.mem_map.mp hp
        have := hno y hy
        rw [h0] at c
        subst c
        simpa using this
      rw [e, he]
      rfl
    · have c2 : (z.2.1 == x) = false := by simpa using c
      rw [c2]
def lwq (A B : List LZ) : Prop := ∀ x, lwv (lww A) x = lwv (lww B) x
theorem op_lww {f : Nat → Int32} {n k : Nat} {cn : Nat → Int32} {z : LZ} {T1 T2 : List LZ} {hf1 : Nat → Option Nat} {r : Option Nat} {u : OU9} (h : (r, u) = opR f n k cn z T1 T2 hf1) : lww u.2.1 = lww (T1 ++ z :: T2) := by
  unfold opR at h
  simp only at h
  generalize foU cn z.2.2.2.1 z.2.2.2.2.1 z.2.2.2.2.2.2.2.1 z.2.2.2.2.2.2.2.2 (nI (rbN f n 9400 (k + 3) % 16)) (if opF f n k < 128 then 0 else 1) = o at h
  by_cases c1 : z.2.1 = 8191 ∨ opP f n k = 2
  · rw [if_pos c1] at h
    cases h
    rw [lww_app, lww_app]; rfl
  · rw [if_neg c1] at h
    by_cases c2 : o.1 = 0
    · rw [if_pos c2] at h
      cases h
      rw [lww_app, lww_app]; rfl
    · rw [if_neg c2] at h
      by_cases c3 : rbN f n 9400 (k + 3) / 64 = 0
      · rw [if_pos c3] at h
        cases h
        rw [lww_app, lww_app]; rfl
      · rw [if_neg c3] at h
        cases h
        rw [lww_app, lww_app]; rfl
theorem pk_lwq {f : Nat → Int32} {n k : Nat} {s t : TK9} {c d : Nat} (h : pkP f n k s t c d) : lwq t.2.1 s.2.1 := by
  obtain ⟨r, u, ho, hr⟩ := h
  have h1 : lwq u.2.1 s.2.1 := by
    rcases ho with ⟨-, -, e⟩ | ⟨-, T1, T2, z, hf1, hLM, e⟩
    · rw [e]; exact fun _ => rfl
    · intro x
      rw [op_lww e]
      exact lwv_lm hLM x
  rcases hr with ⟨-, e, -, -⟩ | ⟨T1, z, T2, uu, -, hu, -, -, -, ⟨-, e, -, -⟩ | ⟨-, v, -, e, -, -⟩ | ⟨-, -, v, hb, e, -, -⟩⟩
  · rw [e]; exact h1
  · rw [e]; exact h1
  · rw [e]
    intro x
    have := h1 x
    rw [hu, lww_app] at this
    show lwv (lww (T1 ++ _ :: T2)) x = _
    rw [lww_app]
    exact this
  · rw [e]
    intro x
    have := h1 x
    rw [hu, lww_app] at this
    have h2 := lww_ub hb
    show lwv (lww (v.2.2.2.1 ++ (z.1, z.2.1, z.2.2.1, z.2.2.2.1, z.2.2.2.2.1, z.2.2.2.2.2.1, z.2.2.2.2.2.2.1, v.2.1, v.2.2.1) :: v.2.2.2.2.1)) x = _
    rw [lww_app]
    show lwv (lww v.2.2.2.1 ++ (z.2.1, z.2.2.2.2.2.2.1) :: lww v.2.2.2.2.1) x = _
    rw [h2.1, h2.2]
    exact this
theorem tk_lwq {f : Nat → Int32} {n : Nat} : ∀ {m i : Nat} {s : TK9} {r : Nat × Nat × TK9}, tkL f n m i s r → lwq r.2.2.2.1 s.2.1
  | 0, i, s, r, h => by rw [show r = (i, 0, s) from h]; exact fun _ => rfl
  | m + 1, i, s, r, h => by
    rcases h with ⟨-, rfl⟩ | ⟨-, -, h⟩ | ⟨-, -, t, w, c, d, -, hp, h, rfl⟩
    · exact fun _ => rfl
    · exact tk_lwq (s := (cup s.1 5, s.2)) h
    · exact fun x => (tk_lwq h x).trans (pk_lwq hp x)
/-- one lane's count put: by PID -/
theorem lwv_mid {T1 T2 : List LZ} {z : LZ} {w : Int32} (h : ∀ y ∈ T1 ++ T2, y.2.1 ≠ z.2.1) (x : Nat) : lwv (lww (T1 ++ lzW z w :: T2)) x = if x = z.2.1 then w else lwv (lww (T1 ++ z :: T2)) x := by
  have hn : (lww T1).find? (fun p => p.1 == z.2.1) = none := by
    apply List.find?_eq_none.mpr
    intro p hp
    obtain ⟨y, hy, rfl⟩ := List.mem_map.mp hp
    have := h y (List.mem_append_left _ hy)
    simpa using this
  unfold lwv
  rw [lww_app, lww_app, List.find?_append, List.find?_append]
  by_cases c : x = z.2.1
  · rw [if_pos c, c, hn]
    show (((lww (lzW z w :: T2)).find? (fun p => p.1 == z.2.1)).map (fun p => p.2)).getD 0 = w
    show ((((z.2.1, w) :: lww T2).find? (fun p => p.1 == z.2.1)).map (fun p => p.2)).getD 0 = w
    rw [List.find?_cons, show (((z.2.1, w) : Nat × Int32).1 == z.2.1) = true by simp]
    rfl
  · rw [if_neg c]
    have e : (lww (lzW z w :: T2)).find? (fun p => p.1 == x) = (lww (z :: T2)).find? (fun p => p.1 == x) := by
      show ((z.2.1, w) :: lww T2).find? (fun p => p.1 == x) = ((z.2.1, z.2.2.2.2.2.2.1) :: lww T2).find? (fun p => p.1 == x)
      rw [List.find?_cons, List.find?_cons]
      have c2 : (z.2.1 == x) = false := by simpa using fun q => c q.symm
      show (match (z.2.1 == x) with | true => _ | false => _) = (match (z.2.1 == x) with | true => _ | false => _)
      rw [c2]
    rw [e]
/-- the lanes' counts stay small, and are the reference's -/
def RW (b : Nat) (Ls : List LZ) (wr : Nat → Int32) : Prop := ∃ wf : Nat → Nat, (∀ x, lwv (lww Ls) x = nI (wf x)) ∧ (∀ x, wf x ≤ b) ∧ ∀ x, x < 8192 → wr x = nI (wf x)


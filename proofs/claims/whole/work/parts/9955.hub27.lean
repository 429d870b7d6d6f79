/-! The room: dear heads of a list of bytes -/
def tB (T : List Int32) (i : Nat) : Nat := (T.getD i 0).toNatClampNeg
/-- a dear head stands at h -/
def exh (T : List Int32) (h : Nat) : Prop := h + 4 ≤ T.length ∧ tB T h = 71 ∧ exb gG (fun j => tB T (h + j))
/-- stretches of 188 bytes, told by their ends, that hold all dear heads -/
def cvT (T : List Int32) (C : List Nat) : Prop := ∀ h, exh T h → ∃ e ∈ C, h < e ∧ e ≤ h + 188
theorem exb_c {G : Nat → Bool} {b c : Nat → Nat} (h1 : b 1 = c 1) (h2 : b 2 = c 2) (h3 : b 3 = c 3) (h : exb G b) : exb G c := by
  unfold exb huId at h ⊢
  rw [← h1, ← h2, ← h3]
  exact h
theorem exh_c {T U : List Int32} {h k : Nat} (he : exh U k) (hl : h + 4 ≤ T.length) (hb : ∀ j, j < 4 → U.getD (k + j) 0 = T.getD (h + j) 0) : exh T h := by
  obtain ⟨-, h2, h3⟩ := he
  have hb2 : ∀ j, j < 4 → tB U (k + j) = tB T (h + j) := fun j hj => by unfold tB; rw [hb j hj]
  exact ⟨hl, by rw [← h2]; exact (hb2 0 (by omega)).symm, exb_c (hb2 1 (by omega)) (hb2 2 (by omega)) (hb2 3 (by omega)) h3⟩
theorem cv_cov {T : List Int32} {C : List Nat} {B : Nat → Nat} (hB : ∀ i, i < T.length → B i = tB T i) : cvT T C → cov gG B T.length 0 C := by
  intro h q _ q2 q3 q4
  refine h q ⟨q2, by rw [← q3, hB q (by omega)], exb_c ?_ ?_ ?_ q4⟩
  · exact hB (q + 1) (by omega)
  · exact hB (q + 2) (by omega)
  · exact hB (q + 3) (by omega)
/-- what is left of the tape behind k bytes -/
theorem cov_cv {T : List Int32} {C : List Nat} {B : Nat → Nat} {k : Nat} (hB : ∀ i, i < T.length → B i = tB T i) (h : cov gG B T.length k C) : cvT (T.drop k) (C.map (fun e => e - k)) := by
  intro q hq
  have hl := hq.1
  rw [List.length_drop] at hl
  have h1 : exh T (k + q) := exh_c hq (by omega) (fun j _ => by
    rw [List.getD_eq_getElem?_getD, List.getD_eq_getElem?_getD, List.getElem?_drop, Nat.add_assoc])
  obtain ⟨a1, a2, a3⟩ := h1
  obtain ⟨e, e1, e2, e3⟩ := h (k + q) (by omega) a1 (by rw [hB _ (by omega)]; exact a2) (exb_c (hB (k + q + 1) (by omega)).symm (hB (k + q + 2) (by omega)).symm (hB (k + q + 3) (by omega)).symm a3)
  exact ⟨e - k, List.mem_map.mpr ⟨e, e1, rfl⟩, by omega, by omega⟩
/-- bytes are put behind -/
theorem cv_app {T W : List Int32} {C : List Nat} (h : cvT T C) (hW : ∀ q, T.length + 185 ≤ q → ¬ exh (T ++ W) q) : cvT (T ++ W) ((T.length + 185) :: C) := by
  intro q hq
  by_cases c : q + 4 ≤ T.length
  · have h1 : exh T q := exh_c hq c (fun j hj => by
      rw [List.getD_eq_getElem?_getD, List.getD_eq_getElem?_getD, List.getElem?_append_left (by omega)])
    obtain ⟨e, e1, e2⟩ := h q h1
    exact ⟨e, List.mem_cons_of_mem _ e1, e2⟩
  · refine ⟨T.length + 185, List.mem_cons_self .., ?_, by omega⟩
    exact Classical.byContradiction fun c2 => hW q (by omega) hq
theorem cv_app1 {T W : List Int32} {C : List Nat} (h : cvT T C) (hW : W.length ≤ 188) : cvT (T ++ W) ((T.length + 185) :: C) :=
  cv_app h (fun q hq he => by have := he.1; rw [List.length_append] at this; omega)
/-- bytes k to k + c are changed, c at most 100 -/
theorem cv_set {T U : List Int32} {C : List Nat} {k c : Nat} (h : cvT T C) (hl : U.length = T.length) (hc : c ≤ 100) (hU : ∀ i, i < k ∨ k + c ≤ i → U.getD i 0 = T.getD i 0) : cvT U ((k + c) :: C) := by
  intro q hq
  by_cases c1 : q + 4 ≤ k ∨ k + c ≤ q
  · have h1 : exh T q := exh_c hq (by have := hq.1; omega) (fun j hj => hU _ (by omega))
    obtain ⟨e, e1, e2⟩ := h q h1
    exact ⟨e, List.mem_cons_of_mem _ e1, e2⟩
  · exact ⟨k + c, List.mem_cons_self .., by omega, by omega⟩
/-- bytes k to k + c are taken out -/
theorem cv_rm {T U : List Int32} {C : List Nat} {k c : Nat} (h : cvT T C) (hl : U.length + c = T.length) (hk : k + c ≤ T.length) (h1 : ∀ i, i < k → U.getD i 0 = T.getD i 0) (h2 : ∀ i, k ≤ i → U.getD i 0 = T.getD (i + c) 0) : cvT U (k :: C.map (fun e => if e ≤ k then e else max k (e - c))) := by
  intro q hq
  have hq1 := hq.1
  by_cases c1 : q + 4 ≤ k
  · obtain ⟨e, e1, e2, e3⟩ := h q (exh_c hq (by omega) (fun j hj => h1 _ (by omega)))
    refine ⟨_, List.mem_cons_of_mem _ (List.mem_map.mpr ⟨e, e1, rfl⟩), ?_⟩
    by_cases c2 : e ≤ k
    · rw [if_pos c2]; exact ⟨e2, e3⟩
    · rw [if_neg c2]; omega
  · by_cases c3 : k ≤ q
    · obtain ⟨e, e1, e2, e3⟩ := h (q + c) (exh_c hq (by omega) (fun j hj => by rw [h2 _ (by omega)]; congr 1; omega))
      refine ⟨_, List.mem_cons_of_mem _ (List.mem_map.mpr ⟨e, e1, rfl⟩), ?_⟩
      rw [if_neg (by omega)]
      omega
    · exact ⟨k, List.mem_cons_self .., by omega, by omega⟩
theorem cv_nil : cvT [] [] := fun q hq => absurd hq.1 (by show ¬ q + 4 ≤ 0; omega)


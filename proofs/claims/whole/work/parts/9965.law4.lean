/-! The drafts: both sides the same -/
theorem dr_appL {DL : List DR9} {x : DR9} {k : Nat} (h : k < DL.length) : (DL ++ [x]).getD k dr0 = DL.getD k dr0 := by
  rw [List.getD_eq_getElem?_getD, List.getElem?_append_left h, ← List.getD_eq_getElem?_getD]
theorem dr_appR {DL : List DR9} {x : DR9} : (DL ++ [x]).getD DL.length dr0 = x := by
  rw [List.getD_eq_getElem?_getD, List.getElem?_append_right (Nat.le_refl _), Nat.sub_self]
  rfl
theorem upd_ne {f : Nat → Int32} {k i : Nat} {v : Int32} (h : ¬ i = k) : upd f k v i = f i := if_neg h
theorem upd_eq {f : Nat → Int32} {k : Nat} {v : Int32} : upd f k v k = v := if_pos rfl
theorem plan_RD {DL : List DR9} {pN pP pS pT pQ : Nat → Int32} {i r2 : Int32} {pid a b : Nat} {u2 : Int32 × Nat × (Nat → Int32) × (Nat → Int32) × (Nat → Int32)} (h : RD DL pN pP pS pT pQ) (hlt : DL.length < 4) (hok : ¬ (i < 1 ∨ 65535 < i ∨ nI pid < 0 ∨ 8191 < nI pid)) (h2 : ((i < 1 ∨ 65535 < i ∨ nI pid < 0 ∨ 8191 < nI pid) ∧ r2 = 0 ∧ u2 = (1, DL.length, pN, pP, pS)) ∨ (¬ (i < 1 ∨ 65535 < i ∨ nI pid < 0 ∨ 8191 < nI pid) ∧ ((DL.length = 4 ∧ r2 = -1 ∧ u2 = (0, DL.length, pN, pP, pS)) ∨ (DL.length < 4 ∧ r2 = nI (DL.length + 1) ∧ u2 = (0, DL.length + 1, upd pN DL.length i, upd pP DL.length (nI pid), upd pS DL.length 0))))) : u2.1 = 0 ∧ nI (DL.length + 1) = r2 ∧ u2.2.1 = (DL ++ [(a, i, pid, b, [], 0, none)]).length ∧ RD (DL ++ [(a, i, pid, b, [], 0, none)]) u2.2.2.1 u2.2.2.2.1 u2.2.2.2.2 pT pQ := by
  rcases h2 with ⟨z, -⟩ | ⟨-, ⟨z, -⟩ | ⟨-, rfl, rfl⟩⟩
  · exact absurd z hok
  · omega
  · refine ⟨rfl, rfl, by rw [List.length_append]; rfl, fun k hk => ?_⟩
    rw [List.length_append, List.length_singleton] at hk
    show upd pN DL.length i k = _ ∧ upd pP DL.length (nI pid) k = _ ∧ upd pS DL.length 0 k = _ ∧ _
    by_cases c : k = DL.length
    · subst c
      rw [dr_appR, upd_eq, upd_eq, upd_eq]
      exact ⟨rfl, rfl, rfl, fun j hj => absurd hj (Nat.not_lt_zero j)⟩
    · rw [dr_appL (by omega), upd_ne c, upd_ne c, upd_ne c]
      exact h k (by omega)
theorem planF {DL : List DR9} {pN pP pS : Nat → Int32} {i c r2 : Int32} {u2 : Int32 × Nat × (Nat → Int32) × (Nat → Int32) × (Nat → Int32)} (hge : DL.length = 4) (hok : ¬ (i < 1 ∨ 65535 < i ∨ c < 0 ∨ 8191 < c)) (h2 : ((i < 1 ∨ 65535 < i ∨ c < 0 ∨ 8191 < c) ∧ r2 = 0 ∧ u2 = (1, DL.length, pN, pP, pS)) ∨ (¬ (i < 1 ∨ 65535 < i ∨ c < 0 ∨ 8191 < c) ∧ ((DL.length = 4 ∧ r2 = -1 ∧ u2 = (0, DL.length, pN, pP, pS)) ∨ (DL.length < 4 ∧ r2 = nI (DL.length + 1) ∧ u2 = (0, DL.length + 1, upd pN DL.length i, upd pP DL.length c, upd pS DL.length 0))))) : u2 = (0, DL.length, pN, pP, pS) ∧ r2 = -1 := by
  rcases h2 with ⟨z, -⟩ | ⟨-, ⟨-, e1, e2⟩ | ⟨z, -⟩⟩
  · exact absurd z hok
  · exact ⟨e2, e1⟩
  · omega
theorem rd_ns {DL : List DR9} {pN pP pS pT pQ : Nat → Int32} (h : RD DL pN pP pS pT pQ) {X : va_W} {dst : Option (Nat × (Nat → Option Nat))} (hd : dtk X dst DL) : ∀ k, k < DL.length → pS k = nI (DL.getD k dr0).2.2.2.2.1.length ∧ (DL.getD k dr0).2.2.2.2.1.length ≤ 4 := fun k hk => ⟨(h k hk).2.2.1, (hd.2.2 _ (d_mem hk)).2.2⟩
theorem rd_pp {DL : List DR9} {pN pP pS pT pQ : Nat → Int32} (h : RD DL pN pP pS pT pQ) {X : va_W} {dst : Option (Nat × (Nat → Option Nat))} (hd : dtk X dst DL) : ∀ k, k < DL.length → pP k = nI (DL.getD k dr0).2.2.1 ∧ (DL.getD k dr0).2.2.1 < 8192 := fun k hk => ⟨(h k hk).2.1, (hd.2.2 _ (d_mem hk)).1⟩
abbrev asP (n : Nat) (pS pT pQ : Nat → Int32) (ns : Nat → Nat) (i ty c r0 : Int32) (u : Int32 × (Nat → Int32) × (Nat → Int32) × (Nat → Int32)) : Prop := ((i < 0 ∨ ¬ i < nI n) ∧ r0 = 0 ∧ u = (1, pS, pT, pQ)) ∨ (∃ a9 : Nat, i = nI a9 ∧ a9 < n ∧ (((ty < 0 ∨ 255 < ty ∨ c < 0 ∨ 8191 < c) ∧ r0 = 0 ∧ u = (2, pS, pT, pQ)) ∨ (¬ (ty < 0 ∨ 255 < ty ∨ c < 0 ∨ 8191 < c) ∧ ((ns a9 = 4 ∧ r0 = -1 ∧ u = (0, pS, pT, pQ)) ∨ (ns a9 < 4 ∧ r0 = nI (ns a9 + 1) ∧ u = (0, upd pS a9 (nI (ns a9 + 1)), upd pT (4 * a9 + ns a9) ty, upd pQ (4 * a9 + ns a9) c))))))
theorem as_N {n : Nat} {pS pT pQ : Nat → Int32} {ns : Nat → Nat} {i ty c r0 : Int32} {u : Int32 × (Nat → Int32) × (Nat → Int32) × (Nat → Int32)} (hn : n ≤ 4) (hb : i < 0 ∨ ¬ i < nI n) (h : asP n pS pT pQ ns i ty c r0 u) : u = (1, pS, pT, pQ) := by
  rcases h with ⟨-, -, e⟩ | ⟨a9, rfl, ha, -⟩
  · exact e
  · exact (hb.elim (nI_pos (by omega)) (fun q => q (nI_lt ha (by omega)))).elim
theorem as_A {n k : Nat} {pS pT pQ : Nat → Int32} {ns : Nat → Nat} {ty c r0 : Int32} {u : Int32 × (Nat → Int32) × (Nat → Int32) × (Nat → Int32)} (hn : n ≤ 4) (hk : k < n) (hb : ty < 0 ∨ 255 < ty ∨ c < 0 ∨ 8191 < c) (h : asP n pS pT pQ ns (nI k) ty c r0 u) : u = (2, pS, pT, pQ) := by
  rcases h with ⟨z, -⟩ | ⟨a9, -, -, ⟨-, -, e⟩ | ⟨z, -⟩⟩
  · exact (z.elim (nI_pos (by omega)) (fun q => q (nI_lt hk (by omega)))).elim
  · exact e
  · exact absurd hb z
theorem as_ok {n k : Nat} {pS pT pQ : Nat → Int32} {ns : Nat → Nat} {ty c r0 : Int32} {u : Int32 × (Nat → Int32) × (Nat → Int32) × (Nat → Int32)} (hn : n ≤ 4) (hk : k < n) (hb : ¬ (ty < 0 ∨ 255 < ty ∨ c < 0 ∨ 8191 < c)) (h : asP n pS pT pQ ns (nI k) ty c r0 u) : (ns k = 4 ∧ r0 = -1 ∧ u = (0, pS, pT, pQ)) ∨ (ns k < 4 ∧ r0 = nI (ns k + 1) ∧ u = (0, upd pS k (nI (ns k + 1)), upd pT (4 * k + ns k) ty, upd pQ (4 * k + ns k) c)) := by
  rcases h with ⟨z, -⟩ | ⟨a9, ea, ha, ⟨z, -⟩ | ⟨-, z⟩⟩
  · exact (z.elim (nI_pos (by omega)) (fun q => q (nI_lt hk (by omega)))).elim
  · exact absurd z hb
  · obtain rfl := nI_inj (by omega) (by omega) ea
    exact z
theorem as_F {DL : List DR9} {k : Nat} {pS pT pQ : Nat → Int32} {ty c r0 : Int32} {u : Int32 × (Nat → Int32) × (Nat → Int32) × (Nat → Int32)} (hn : DL.length ≤ 4) (hk : k < DL.length) (hb : ¬ (ty < 0 ∨ 255 < ty ∨ c < 0 ∨ 8191 < c)) (hg : (DL.getD k dr0).2.2.2.2.1.length = 4) (h : asP DL.length pS pT pQ (fun k => (DL.getD k dr0).2.2.2.2.1.length) (nI k) ty c r0 u) : u = (0, pS, pT, pQ) ∧ r0 = -1 := by
  rcases as_ok hn hk hb h with ⟨-, e1, e2⟩ | ⟨z, -⟩
  · exact ⟨e2, e1⟩
  · have z : (DL.getD k dr0).2.2.2.2.1.length < 4 := z
    omega
theorem dr_set {DL : List DR9} {x : DR9} {k j : Nat} (hk : k < DL.length) : (DL.set k x).getD j dr0 = if j = k then x else DL.getD j dr0 := by
  rw [List.getD_eq_getElem?_getD, List.getElem?_set]
  by_cases c : k = j
  · subst c
    rw [if_pos rfl, if_pos hk, if_pos rfl]
    rfl
  · rw [if_neg c, if_neg (fun q => c q.symm), ← List.getD_eq_getElem?_getD]
theorem sm_app {S : List (Int32 × Nat)} {y : Int32 × Nat} {j : Nat} (hj : j < S.length + 1) : (S ++ [y]).getD j (0, 0) = if j = S.length then y else S.getD j (0, 0) := by
  by_cases c : j = S.length
  · subst c
    rw [if_pos rfl, List.getD_eq_getElem?_getD, List.getElem?_append_right (Nat.le_refl _), Nat.sub_self]
    rfl
  · rw [if_neg c, List.getD_eq_getElem?_getD, List.getElem?_append_left (by omega), ← List.getD_eq_getElem?_getD]
theorem as_RD {DL : List DR9} {k pid : Nat} {pN pP pS pT pQ : Nat → Int32} {ty r0 : Int32} {u : Int32 × (Nat → Int32) × (Nat → Int32) × (Nat → Int32)} {x : DR9} (h : RD DL pN pP pS pT pQ) (h4 : ∀ j, j < DL.length → (DL.getD j dr0).2.2.2.2.1.length ≤ 4) (hn : DL.length ≤ 4) (hk : k < DL.length) (hb : ¬ (ty < 0 ∨ 255 < ty ∨ nI pid < 0 ∨ 8191 < nI pid)) (hg : (DL.getD k dr0).2.2.2.2.1.length < 4) (hx : (x.2.1, x.2.2.1, x.2.2.2.2.1) = ((DL.getD k dr0).2.1, (DL.getD k dr0).2.2.1, (DL.getD k dr0).2.2.2.2.1 ++ [(ty, pid)])) (h2 : asP DL.length pS pT pQ (fun k => (DL.getD k dr0).2.2.2.2.1.length) (nI k) ty (nI pid) r0 u) : u.1 = 0 ∧ nI ((DL.getD k dr0).2.2.2.2.1.length + 1) = r0 ∧ RD (DL.set k x) pN pP u.2.1 u.2.2.1 u.2.2.2 := by
  rcases as_ok hn hk hb h2 with ⟨z, -⟩ | ⟨-, rfl, rfl⟩
  · have z : (DL.getD k dr0).2.2.2.2.1.length = 4 := z
    omega
  · refine ⟨rfl, rfl, fun j hj => ?_⟩
    rw [List.length_set] at hj
    obtain ⟨x1, hx⟩ := Prod.mk.inj hx
    obtain ⟨x2, x3⟩ := Prod.mk.inj hx
    obtain ⟨a1, a2, a3, a4⟩ := h j hj
    rw [dr_set hk]
    show pN j = _ ∧ pP j = _ ∧ upd pS k (nI ((DL.getD k dr0).2.2.2.2.1.length + 1)) j = _ ∧ ∀ i, i < _ → upd pT (4 * k + (DL.getD k dr0).2.2.2.2.1.length) ty (4 * j + i) = _ ∧ upd pQ (4 * k + (DL.getD k dr0).2.2.2.2.1.length) (nI pid) (4 * j + i) = _
    by_cases c : j = k
    · subst c
      rw [if_pos rfl, x1, x2, x3, upd_eq, List.length_append, List.length_singleton]
      refine ⟨a1, a2, rfl, fun i hi => ?_⟩
      rw [sm_app hi]
      by_cases c : i = (DL.getD j dr0).2.2.2.2.1.length
      · rw [if_pos c, c, upd_eq, upd_eq]; exact ⟨rfl, rfl⟩
      · rw [if_neg c, upd_ne (by omega), upd_ne (by omega)]
        exact a4 i (by omega)
    · rw [if_neg c, upd_ne c]
      refine ⟨a1, a2, a3, fun i hi => ?_⟩
      have := h4 j hj
      rw [upd_ne (by omega), upd_ne (by omega)]
      exact a4 i hi


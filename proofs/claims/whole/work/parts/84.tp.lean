/-! The tables: list, programmes, each with its orders -/
abbrev WL9 : Type := List (Nat × Int64 × Int32 × Int32 × Int64)
/-- a programme, its streams, its orders, and their list's object -/
abbrev PR9 : Type := PZ × List (Int32 × Nat) × WL9 × Int32 × Option (Nat × (Nat → Option Nat))
def pgc (cO : ClassId) (e0 : Nat) (x : PR9) : va_W := (x.1.1, pgE x.1) :: wlc cO e0 x.1.2.2.2.2.2.2.2.2 x.2.2.1.length x.2.2.2.1 x.2.2.2.2
def tplr (cO : ClassId) (e0 tb : Nat) (lv : Int32) (pr n : Nat) (pmo : Int32) (pst : Option (Nat × (Nat → Option Nat))) (L : List PR9) : va_W := (tb, .inr (8, [.int lv, .ref pr])) :: (wlc cO e0 pr n pmo pst ++ L.flatMap (pgc cO e0))
def pr9 : PR9 := (pz0, [], [], 0, none)
/-- what holds of a programme; the cells that never change lie in Q -/
def pok (Q : va_W) (cO : ClassId) (x : PR9) : Prop := x.1.2.2.1 < 8192 ∧ isS Q cO x.1.2.2.2.2.2.1 x.2.1 ∧ wok Q x.2.2.2.2 x.2.2.1 ∧ x.2.2.1.length ≤ 6 ∧ obl x.2.2.1
def tok (Q : va_W) (cO : ClassId) (pst : Option (Nat × (Nat → Option Nat))) (P : List PR9) : Prop := P.length ≤ 4 ∧ (match pst with
  | none => P = []
  | some q => ∀ j, j < P.length → q.2 j = some (P.getD j pr9).1.1) ∧ ∀ x ∈ P, pok Q cO x
def pvw (P : List PR9) : List (PZ × List (Int32 × Nat)) := P.map (fun x => (x.1, x.2.1))
theorem isS_mono {Q Q2 : va_W} {cO : ClassId} {sa : Nat} {S : List (Int32 × Nat)} (h : isS Q cO sa S) (hq : ∀ x ∈ Q, x ∈ Q2) : isS Q2 cO sa S := by
  obtain ⟨b, mo, g, ⟨h1, h2, h3⟩, h4⟩ := h
  exact ⟨b, mo, g, ⟨hq _ h1, h2, h3.imp id (hq _)⟩, fun j hj => by
    obtain ⟨a, g1, g2, g3⟩ := h4 j hj
    exact ⟨a, g1, hq _ g2, g3⟩⟩
theorem pok_mono {Q Q2 : va_W} {cO : ClassId} {x : PR9} (h : pok Q cO x) (hq : ∀ y ∈ Q, y ∈ Q2) : pok Q2 cO x := ⟨h.1, isS_mono h.2.1 hq, wk_mono h.2.2.1 hq, h.2.2.2⟩
theorem pvw_len (P : List PR9) : (pvw P).length = P.length := List.length_map ..
theorem pvw_get {P : List PR9} {j : Nat} (h : j < P.length) : (pvw P).getD j (pz0, []) = ((P.getD j pr9).1, (P.getD j pr9).2.1) := by
  unfold pvw
  rw [List.getD_eq_getElem?_getD, List.getElem?_map, List.getElem?_eq_getElem h, List.getD_eq_getElem?_getD, List.getElem?_eq_getElem h]
  rfl
theorem p_mem {P : List PR9} {j : Nat} (h : j < P.length) : P.getD j pr9 ∈ P := by
  rw [List.getD_eq_getElem?_getD, List.getElem?_eq_getElem h]
  exact List.getElem_mem h
theorem tok_isT {X Q : va_W} {cO : ClassId} {e0 tb pr : Nat} {lv pmo : Int32} {pst : Option (Nat × (Nat → Option Nat))} {P : List PR9} (h : tok Q cO pst P) : isT (X ++ (tplr cO e0 tb lv pr P.length pmo pst P ++ Q)) cO tb pr lv (pvw P) := by
  obtain ⟨h4, hp, hx⟩ := h
  have hin : ∀ y ∈ tplr cO e0 tb lv pr P.length pmo pst P, y ∈ X ++ (tplr cO e0 tb lv pr P.length pmo pst P ++ Q) := fun y hy => List.mem_append_right _ (List.mem_append_left _ hy)
  have hq : ∀ y ∈ Q, y ∈ X ++ (tplr cO e0 tb lv pr P.length pmo pst P ++ Q) := fun y hy => List.mem_append_right _ (List.mem_append_right _ hy)
  have hw : ∀ y ∈ wlc cO e0 pr P.length pmo pst, y ∈ tplr cO e0 tb lv pr P.length pmo pst P := fun y hy => List.mem_cons_of_mem _ (List.mem_append_left _ hy)
  have hg : ∀ y ∈ P, ∀ u ∈ pgc cO e0 y, u ∈ tplr cO e0 tb lv pr P.length pmo pst P := fun y hy u hu => List.mem_cons_of_mem _ (List.mem_append_right _ (List.mem_flatMap.mpr ⟨y, hy, hu⟩))
  refine ⟨hin _ List.mem_cons_self, ?_⟩
  have key : ∀ g : Nat → Option Nat, (∀ j, j < P.length → g j = some (P.getD j pr9).1.1) → ∀ j, j < (pvw P).length → g j = some ((pvw P).getD j (pz0, [])).1.1 ∧ (((pvw P).getD j (pz0, [])).1.1, pgE ((pvw P).getD j (pz0, [])).1) ∈ X ++ (tplr cO e0 tb lv pr P.length pmo pst P ++ Q) ∧ ((pvw P).getD j (pz0, [])).1.2.2.1 < 8192 ∧ isS (X ++ (tplr cO e0 tb lv pr P.length pmo pst P ++ Q)) cO ((pvw P).getD j (pz0, [])).1.2.2.2.2.2.1 ((pvw P).getD j (pz0, [])).2 := by
    intro g hgj j hj
    rw [pvw_len] at hj
    rw [pvw_get hj]
    have hm := p_mem hj
    have hk := hx _ hm
    exact ⟨hgj j hj, hin _ (hg _ hm _ List.mem_cons_self), hk.1, isS_mono hk.2.1 hq⟩
  cases pst with
  | none =>
    have e : P = [] := hp
    exact ⟨e0, pmo, fun _ => none, ⟨by rw [pvw_len]; exact hin _ (hw _ List.mem_cons_self), by rw [pvw_len]; omega, Or.inl (by rw [pvw_len, e]; rfl)⟩, fun j hj => absurd hj (by rw [pvw_len, e]; exact Nat.not_lt_zero j)⟩
  | some q =>
    exact ⟨q.1, pmo, q.2, ⟨by rw [pvw_len]; exact hin _ (hw _ List.mem_cons_self), by rw [pvw_len]; omega, Or.inr (hin _ (hw _ (List.mem_cons_of_mem _ List.mem_cons_self)))⟩, key q.2 hp⟩
theorem tp_foc {X Q : va_W} {cO : ClassId} {e0 tb pr n : Nat} {lv pmo : Int32} {pst : Option (Nat × (Nat → Option Nat))} {A B : List PR9} {x : PR9} : (X ++ (tplr cO e0 tb lv pr n pmo pst (A ++ x :: B) ++ Q)).Perm (X ++ (pgc cO e0 x ++ (tplr cO e0 tb lv pr n pmo pst (A ++ B) ++ Q))) := by
  refine List.Perm.append_left X ?_
  rw [← List.append_assoc]
  refine List.Perm.append_right Q ?_
  unfold tplr
  rw [List.flatMap_append, List.flatMap_cons, List.flatMap_append]
  have h1 : (wlc cO e0 pr n pmo pst ++ (A.flatMap (pgc cO e0) ++ (pgc cO e0 x ++ B.flatMap (pgc cO e0)))).Perm (pgc cO e0 x ++ (wlc cO e0 pr n pmo pst ++ (A.flatMap (pgc cO e0) ++ B.flatMap (pgc cO e0)))) := by
    refine (List.Perm.append_left _ (List.perm_append_comm_assoc _ _ _)).trans ?_
    exact List.perm_append_comm_assoc _ _ _
  exact (List.Perm.cons _ h1).trans (List.perm_middle.symm)
theorem p_split {P : List PR9} {j : Nat} (h : j < P.length) : P = P.take j ++ P.getD j pr9 :: P.drop (j + 1) := by
  rw [List.getD_eq_getElem?_getD, List.getElem?_eq_getElem h]
  show P = P.take j ++ P[j] :: P.drop (j + 1)
  rw [← List.drop_eq_getElem_cons h, List.take_append_drop]
/-- NOW of a programme is set -/
def pzN (z : PZ) (t : Int64) : PZ := (z.1, z.2.1, z.2.2.1, z.2.2.2.1, z.2.2.2.2.1, z.2.2.2.2.2.1, z.2.2.2.2.2.2.1, t, z.2.2.2.2.2.2.2.2)
theorem ob_mem {Wl W1 : WL9} {o : Int64 × Int32 × Int32 × Int64} {w : Option (Nat × Int64 × Int32 × Int32 × Int64)} (h : obP Wl o W1 w) : ∀ y ∈ W1, y ∈ Wl ∨ (y.1, orE y.2) ∈ onw w := by
  rcases h with ⟨-, rfl, -⟩ | ⟨-, q, rfl, rfl⟩
  · exact fun y hy => Or.inl hy
  · intro y hy
    rcases List.mem_append.mp hy with e | e
    · exact Or.inl e
    · rw [List.mem_singleton.mp e]; exact Or.inr List.mem_cons_self
theorem od_mem : ∀ (n : Nat) {nw : Int64} {aw aw2 : Int32} {Wl Wl2 : WL9} {nc : va_W}, odR n nw aw Wl aw2 Wl2 nc → ∀ y ∈ Wl2, y ∈ Wl ∨ (y.1, orE y.2) ∈ nc
  | 0, _, _, _, _, _, _, h => by
    obtain ⟨-, rfl, -⟩ := h
    exact fun y hy => Or.inl hy
  | n + 1, _, _, _, _, _, _, h => by
    rcases h with ⟨-, -, rfl, -⟩ | ⟨j, W1, w, nc1, -, -, -, h1, h2, rfl⟩
    · exact fun y hy => Or.inl hy
    · intro y hy
      rcases od_mem n h2 y hy with e | e
      · rcases ob_mem h1 y e with e2 | e2
        · exact Or.inl (List.mem_of_mem_eraseIdx e2)
        · exact Or.inr (List.mem_append_right _ e2)
      · exact Or.inr (List.mem_append_left _ e)
theorem w_mem {Wl : WL9} {j : Nat} (h : j < Wl.length) : Wl.getD j (0, oz0) ∈ Wl := by
  rw [List.getD_eq_getElem?_getD, List.getElem?_eq_getElem h]
  exact List.getElem_mem h
theorem wok_fix {Q Q2 : va_W} {wst : Option (Nat × (Nat → Option Nat))} {Wl : WL9} (h : wok Q wst Wl) (hm : ∀ y ∈ Wl, (y.1, orE y.2) ∈ Q2) : wok Q2 wst Wl := by
  cases wst with
  | none => exact h
  | some q => exact fun j hj => ⟨(show elO Q q.2 Wl from h) j hj |>.1, hm _ (w_mem hj)⟩
theorem wok_in {Q : va_W} {wst : Option (Nat × (Nat → Option Nat))} {Wl : WL9} (h : wok Q wst Wl) : ∀ y ∈ Wl, (y.1, orE y.2) ∈ Q := by
  intro y hy
  cases wst with
  | none => rw [show Wl = [] from h] at hy; cases hy
  | some q =>
    obtain ⟨j, hj, e⟩ := List.getElem_of_mem hy
    have h2 := (show elO Q q.2 Wl from h) j hj
    rw [List.getD_eq_getElem?_getD, List.getElem?_eq_getElem hj] at h2
    rw [← e]
    exact h2.2
theorem mn_perm {cO : ClassId} {e0 tb pr n : Nat} {lv pmo : Int32} {pst : Option (Nat × (Nat → Option Nat))} {A B : List PR9} {x : PR9} {ex Q : va_W} : (pgc cO e0 x ++ (ex ++ (tplr cO e0 tb lv pr n pmo pst (A ++ B) ++ Q))).Perm ([] ++ (tplr cO e0 tb lv pr n pmo pst (A ++ x :: B) ++ (ex ++ Q))) := by
  refine List.Perm.trans ?_ (tp_foc (X := []) (Q := ex ++ Q)).symm
  rw [List.nil_append]
  exact List.Perm.append_left _ (List.perm_append_comm_assoc _ _ _)
theorem p_set {P : List PR9} {j : Nat} {y x : PR9} (h : j < P.length) : (P.take j ++ x :: P.drop (j + 1)).set j y = P.take j ++ y :: P.drop (j + 1) := by
  have hl : (P.take j).length = j := by rw [List.length_take]; omega
  rw [List.set_append, if_neg (by omega), hl, Nat.sub_self]
  rfl
/-- what moving NOW does: nothing, or one programme obeys what is due -/
def mnP (P : List PR9) (pid : Nat) (t : Int64) (P2 : List PR9) (nc : va_W) : Prop :=
  ((∀ j, j < P.length → ¬ hasP (P.getD j pr9).2.1 pid) ∧ P2 = P ∧ nc = []) ∨ ∃ j aw Wl2 mo2 wst2, j < P.length ∧ hasP (P.getD j pr9).2.1 pid ∧ (∀ i, i < j → ¬ hasP (P.getD i pr9).2.1 pid) ∧ odR 12 t (P.getD j pr9).1.2.2.2.2.2.2.1 (P.getD j pr9).2.2.1 aw Wl2 nc ∧ P2 = P.set j (pzA (pzN (P.getD j pr9).1 t) aw, (P.getD j pr9).2.1, Wl2, mo2, wst2)
theorem mn_post {Q R0 : va_W} {cO : ClassId} {pst : Option (Nat × (Nat → Option Nat))} {P P2 : List PR9} {j pid : Nat} {t : Int64} {z zn : PZ} {S : List (Int32 × Nat)} {Wl : WL9} {mo : Int32} {wst : Option (Nat × (Nat → Option Nat))} {o : Int32 × WU9 × va_W} (htk : tok Q cO pst P) (hj : j < P.length) (hxe : (z, S, Wl, mo, wst) = P.getD j pr9) (hh : hasP S pid) (hf : ∀ i, i < j → ¬ hasP (P.getD i pr9).2.1 pid) (hzn : zn = pzN z t)
    (e : odR 12 zn.2.2.2.2.2.2.2.1 zn.2.2.2.2.2.2.1 Wl o.1 o.2.1.1 o.2.2 ∧ wok (o.2.2 ++ (R0 ++ Q)) o.2.1.2.2 o.2.1.1 ∧ o.2.1.1.length ≤ 6 ∧ obl o.2.1.1) (hset : P.set j (pzA zn o.1, S, o.2.1.1, o.2.1.2.1, o.2.1.2.2) = P2) : mnP P pid t P2 o.2.2 ∧ tok (o.2.2 ++ Q) cO pst P2 := by
  subst hzn
  obtain ⟨e1, e2, e3, e4⟩ := e
  have hpk := htk.2.2 _ (p_mem hj)
  rw [← hxe] at hpk
  refine ⟨Or.inr ⟨j, o.1, o.2.1.1, o.2.1.2.1, o.2.1.2.2, hj, by rw [← hxe]; exact hh, hf, by rw [← hxe]; exact e1, by rw [← hset, ← hxe]⟩, ?_⟩
  have hql : ∀ y ∈ Q, y ∈ o.2.2 ++ Q := fun y hy => List.mem_append_right _ hy
  have hw : wok (o.2.2 ++ Q) o.2.1.2.2 o.2.1.1 := wok_fix e2 (fun y hy => by
    rcases od_mem 12 e1 y hy with q | q
    · exact List.mem_append_right _ (wok_in hpk.2.2.1 y q)
    · exact List.mem_append_left _ q)
  have hnew : pok (o.2.2 ++ Q) cO (pzA (pzN z t) o.1, S, o.2.1.1, o.2.1.2.1, o.2.1.2.2) := ⟨hpk.1, isS_mono hpk.2.1 hql, hw, e3, e4⟩
  rw [← hset]
  refine ⟨by rw [List.length_set]; exact htk.1, ?_, fun y hy => ?_⟩
  · have h2 := htk.2.1
    cases pst with
    | none => rw [show P = [] from h2] at hj; exact absurd hj (Nat.not_lt_zero j)
    | some q =>
      intro i hi
      rw [List.length_set] at hi
      have h3 := (show ∀ j, j < P.length → q.2 j = some (P.getD j pr9).1.1 from h2) i hi
      rw [h3]
      by_cases c : j = i
      · subst c
        rw [List.getD_eq_getElem?_getD (l := P.set j _), List.getElem?_set, if_pos rfl, if_pos hi, ← hxe]
        rfl
      · rw [List.getD_eq_getElem?_getD (l := P.set j _), List.getElem?_set, if_neg c, ← List.getD_eq_getElem?_getD]
  · rcases List.mem_or_eq_of_mem_set hy with q | q
    · exact pok_mono (htk.2.2 y q) hql
    · rw [q]; exact hnew


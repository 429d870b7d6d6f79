/-! The class's sections in the hub -/
theorem hu_ck (f : Nat → Int32) (n : Nat) : ∀ c, rw_ck f n 1024 0 c = ckl (((List.range c).map (fun i => rbN f n 1024 i)).map nI)
  | 0 => rfl
  | c + 1 => by
    rw [rw_ck, Nat.zero_add, rb_eq, ck_eq, hu_ck f n c, List.range_succ, List.map_append, List.map_append]
    unfold ckl
    rw [List.foldl_append]
    rfl
theorem hu_gd {f : Nat → Int32} {n : Nat} : gdS f n ↔ (12 ≤ (huR (n, f)).length ∧ ckl ((huR (n, f)).map nI) = 0) := by
  unfold gdS
  rw [hu_ck, huR_len]
  exact Iff.rfl
/-- different PIDs -/
def lpd (T : List LZ) : Prop := T.Pairwise (fun a b => a.2.1 ≠ b.2.1) ∧ ∀ z ∈ T, z.2.1 < 8192
theorem lok_lpd : ∀ {T : List LZ}, lok T → lpd T
  | [], _ => ⟨List.Pairwise.nil, fun z hz => absurd hz List.not_mem_nil⟩
  | z :: T, h => by
    obtain ⟨h1, -, h3, h4⟩ := h
    have ih := lok_lpd h4
    exact ⟨List.Pairwise.cons (fun y hy => (h3 y hy).symm) ih.1, fun y hy => (List.mem_cons.mp hy).elim (fun q => by rw [q]; exact h1) (ih.2 y)⟩
theorem lpd_sub {T T2 : List LZ} (h : lpd T) (hs : T2.Sublist T) : lpd T2 := ⟨h.1.sublist hs, fun z hz => h.2 z (hs.subset hz)⟩
theorem lpd_mid {T1 T2 : List LZ} {z : LZ} (h : lpd (T1 ++ z :: T2)) : lpd (T1 ++ T2) ∧ (∀ y ∈ T1 ++ T2, y.2.1 ≠ z.2.1) ∧ z.2.1 < 8192 := by
  refine ⟨lpd_sub h (List.Sublist.append_left (List.sublist_cons_self _ _) _), fun y hy => ?_, h.2 z (List.mem_append_right _ List.mem_cons_self)⟩
  obtain ⟨-, h2, h3⟩ := List.pairwise_append.mp h.1
  rcases List.mem_append.mp hy with q | q
  · exact h3 y q z List.mem_cons_self
  · exact ((List.pairwise_cons.mp h2).1 y q).symm
theorem fnd_mid {T1 T2 : List LZ} {z : LZ} {q : Nat} (h : ∀ y ∈ T1 ++ T2, y.2.1 ≠ z.2.1) : (T1 ++ z :: T2).find? (fun z => z.2.1 == q) = if q = z.2.1 then some z else (T1 ++ T2).find? (fun z => z.2.1 == q) := by
  rw [List.find?_append, List.find?_append]
  by_cases c : q = z.2.1
  · subst c
    rw [if_pos rfl, List.find?_eq_none.mpr (fun y hy => by have := h y (List.mem_append_left _ hy); simpa using this), List.find?_cons_of_pos (by simp)]
    rfl
  · rw [if_neg c, List.find?_cons_of_neg (by simpa using fun q2 => c q2.symm)]
theorem hv_mid {T1 T2 : List LZ} {z : LZ} (h : ∀ y ∈ T1 ++ T2, y.2.1 ≠ z.2.1) : huV (T1 ++ z :: T2) = va_up (huV (T1 ++ T2)) z.2.1 (huZ z) := by
  funext q
  unfold huV
  rw [fnd_mid h]
  by_cases c : q = z.2.1
  · rw [if_pos c, c, va_up_self]
  · rw [if_neg c, va_up_ne _ _ c]
theorem hr_mid {T1 T2 : List LZ} {z : LZ} (h : ∀ y ∈ T1 ++ T2, y.2.1 ≠ z.2.1) : huRw (T1 ++ z :: T2) = va_up (huRw (T1 ++ T2)) z.2.1 z.2.2.2.2.2.2.2.1.isSome := by
  funext q
  unfold huRw
  rw [fnd_mid h]
  by_cases c : q = z.2.1
  · rw [if_pos c, c, va_up_self]
  · rw [if_neg c, va_up_ne _ _ c]
theorem hv_no {T : List LZ} {q : Nat} (h : ∀ y ∈ T, y.2.1 ≠ q) : huV T q = huZ0 := by
  unfold huV
  rw [List.find?_eq_none.mpr (fun y hy => by have := h y hy; simpa using this)]
theorem vu_vu {α : Type} (f : Nat → α) (k : Nat) (x y : α) : va_up (va_up f k x) k y = va_up f k y := by
  funext q
  by_cases c : q = k
  · rw [c, va_up_self, va_up_self]
  · rw [va_up_ne _ _ c, va_up_ne _ _ c, va_up_ne _ _ c]
theorem vu_id {α : Type} (f : Nat → α) (k : Nat) : va_up f k (f k) = f := by
  funext q
  by_cases c : q = k
  · rw [c, va_up_self]
  · rw [va_up_ne _ _ c]
theorem huPq_gu (pi : Option PQ9) : huPq (guI pi) = none := by
  cases pi with
  | none => rfl
  | some q =>
    show (if (0 : Int32) = 0 then none else some q.2.2) = none
    exact if_pos rfl
theorem huR_gu (se : Option SQ9) : huR (gsQ (guS se)) = [] := by
  have := gsQ_gu se
  unfold huR
  rw [this]
  rfl
theorem huPq_0 (pi : Option PQ9) : (if pieO pi = 0 then (0 : Int32) else 1) = if (huPq pi).isNone = true then 0 else 1 := by
  cases pi with
  | none => rfl
  | some q =>
    unfold pieO huPq
    by_cases c : q.2.1 = 0
    · show (if q.2.1 = 0 then (0 : Int32) else 1) = if (if q.2.1 = 0 then none else some q.2.2).isNone = true then 0 else 1
      rw [if_pos c, if_pos c]; rfl
    · show (if q.2.1 = 0 then (0 : Int32) else 1) = if (if q.2.1 = 0 then none else some q.2.2).isNone = true then 0 else 1
      rw [if_neg c, if_neg c]; rfl
theorem hu_gN (se : Option SQ9) (pi : Option PQ9) (a b : Int32) (c : Int64) : gN se pi = huN1 (a, b, c, huR (gsQ se), huPq pi) := by
  unfold gN huN1
  rw [huPq_0]
  show _ = (if (huR (gsQ se)).length = 0 then (0 : Int32) else 1) + _
  rw [huR_len, gsQ_1]
theorem hz_gv {la : Nat} {z : LZ} (h : z.1 ≠ la) : huZ (gvz la z) = huGz (huZ z) ∧ (gvz la z).2.1 = z.2.1 ∧ (gvz la z).2.2.2.2.2.2.2.1.isSome = z.2.2.2.2.2.2.2.1.isSome := by
  rw [(gv_ne h).1]
  refine ⟨?_, rfl, ?_⟩
  · show (_, _, _, huR (gsQ (guS z.2.2.2.2.2.2.2.1)), huPq (guI z.2.2.2.2.2.2.2.2)) = _
    rw [huR_gu, huPq_gu]
    rfl
  · cases c : z.2.2.2.2.2.2.2.1 <;> rfl
theorem fnd_gv {la q : Nat} : ∀ {T : List LZ}, (∀ y ∈ T, y.1 ≠ la) → (T.map (gvz la)).find? (fun z => z.2.1 == q) = (T.find? (fun z => z.2.1 == q)).map (gvz la)
  | [], _ => rfl
  | z :: T, h => by
    have e := (hz_gv (h z List.mem_cons_self)).2.1
    rw [List.map_cons]
    by_cases c : (z.2.1 == q) = true
    · rw [List.find?_cons_of_pos (by rw [e]; exact c), List.find?_cons_of_pos (p := fun z : LZ => z.2.1 == q) c]; rfl
    · rw [List.find?_cons_of_neg (by rw [e]; exact c), List.find?_cons_of_neg (p := fun z : LZ => z.2.1 == q) c]
      exact fnd_gv (fun y hy => h y (List.mem_cons_of_mem _ hy))
theorem hv_gv {la : Nat} {T : List LZ} (h : ∀ y ∈ T, y.1 ≠ la) : huV (T.map (gvz la)) = (fun q => huGz (huV T q)) ∧ huRw (T.map (gvz la)) = huRw T := by
  constructor
  · funext q
    unfold huV
    rw [fnd_gv h]
    cases c : T.find? (fun z => z.2.1 == q) with
    | none => rfl
    | some z => exact (hz_gv (h z (List.mem_of_find?_eq_some c))).1
  · funext q
    unfold huRw
    rw [fnd_gv h]
    cases c : T.find? (fun z => z.2.1 == q) with
    | none => rfl
    | some z => exact (hz_gv (h z (List.mem_of_find?_eq_some c))).2.2
theorem hn_up {L : Nat → HL} {q p : Nat} {v : HL} (h0 : huN1 (L q) = 0) : ∀ m, huNn (va_up L q v) p m = huNn L p m + (if q < m ∧ q ≠ p then huN1 v else 0)
  | 0 => by
    rw [if_neg (fun q => absurd q.1 (Nat.not_lt_zero _))]
    rfl
  | m + 1 => by
    rw [huNn, huNn, hn_up h0 m]
    by_cases c : m = q
    · subst c
      rw [if_neg (fun q => absurd q.1 (Nat.lt_irrefl _)), va_up_self, h0]
      by_cases c2 : m = p
      · rw [if_pos c2, if_pos c2, if_neg (fun q => q.2 c2)]
      · rw [if_neg c2, if_neg c2, if_pos ⟨Nat.lt_succ_self _, c2⟩, Int32.add_zero]
    · rw [va_up_ne _ _ c]
      have e : (q < m ∧ q ≠ p) ↔ (q < m + 1 ∧ q ≠ p) := ⟨fun z => ⟨by omega, z.2⟩, fun z => ⟨by omega, z.2⟩⟩
      rw [if_iff e, Int32.add_assoc, Int32.add_assoc, Int32.add_comm (if q < m + 1 ∧ q ≠ p then huN1 v else 0)]
theorem huN1_0 : huN1 huZ0 = 0 := by decide
theorem hn_0 (p : Nat) : ∀ m, huNn (huV []) p m = 0
  | 0 => rfl
  | m + 1 => by
    rw [huNn, hn_0 p m]
    show 0 + (if m = p then 0 else huN1 huZ0) = 0
    rw [huN1_0]
    by_cases c : m = p
    · rw [if_pos c]; rfl
    · rw [if_neg c]; rfl
theorem hn_eq {la p : Nat} : ∀ {T : List LZ}, (∀ y ∈ T, y.1 ≠ la) → (∀ y ∈ T, y.2.1 ≠ p) → lpd T → pNs la 256 T = huNn (huV T) p 8192
  | [], _, _, _ => (hn_0 p 8192).symm
  | z :: T, ha, hp, hd => by
    have hd2 := lpd_mid (T1 := []) hd
    have ih := hn_eq (fun y hy => ha y (List.mem_cons_of_mem _ hy)) (fun y hy => hp y (List.mem_cons_of_mem _ hy)) hd2.1
    have hz : pNz la 256 z = huN1 (huZ z) := by
      unfold pNz
      rw [if_pos (Nat.mod_lt _ (by decide))]
      unfold gNz
      rw [if_neg (ha z List.mem_cons_self)]
      exact hu_gN _ _ _ _ _
    rw [pNs, ih, hz]
    rw [show z :: T = [] ++ z :: T from rfl, hv_mid hd2.2.1, hn_up (by rw [hv_no hd2.2.1]; exact huN1_0), if_pos ⟨hd2.2.2, hp z List.mem_cons_self⟩, Int32.add_comm]
    rfl
/-- a lane with another section and piece -/
def zq (z : LZ) (se : Option SQ9) (pi : Option PQ9) : LZ := (z.1, z.2.1, z.2.2.1, z.2.2.2.1, z.2.2.2.2.1, z.2.2.2.2.2.1, z.2.2.2.2.2.2.1, se, pi)
def huGs (z : LZ) (dn : Nat → Option PQ9) (s : GS9) : HS := huH s.1 (s.2.2.2.1 ++ zq z s.2.1 s.2.2.1 :: s.2.2.2.2.1) s.2.2.2.2.2.1 s.2.2.2.2.2.2.2.2.2.1 dn
/-- the other lanes: other places, other PIDs -/
def oth (z : LZ) (T : List LZ) : Prop := (∀ y ∈ T, y.1 ≠ z.1) ∧ (∀ y ∈ T, y.2.1 ≠ z.2.1) ∧ lpd T
theorem oth_gv {z : LZ} {T : List LZ} (h : oth z T) (la : Nat) : oth z (T.map (gvz la)) := by
  have hp : ∀ y, (gvz la y).1 = y.1 ∧ (gvz la y).2.1 = y.2.1 := fun y => by unfold gvz; split <;> exact ⟨rfl, rfl⟩
  refine ⟨fun y hy => ?_, fun y hy => ?_, ?_, fun y hy => ?_⟩
  · obtain ⟨x, hx, rfl⟩ := List.mem_map.mp hy
    rw [(hp x).1]; exact h.1 x hx
  · obtain ⟨x, hx, rfl⟩ := List.mem_map.mp hy
    rw [(hp x).2]; exact h.2.1 x hx
  · rw [List.pairwise_map]
    exact h.2.2.1.imp (fun {a b} q => by rw [(hp a).2, (hp b).2]; exact q)
  · obtain ⟨x, hx, rfl⟩ := List.mem_map.mp hy
    rw [(hp x).2]; exact h.2.2.2 x hx
theorem huGs_eq {z : LZ} {dn : Nat → Option PQ9} {s : GS9} (h : oth z (s.2.2.2.1 ++ s.2.2.2.2.1)) : huGs z dn s = (s.1, va_up (huV (s.2.2.2.1 ++ s.2.2.2.2.1)) z.2.1 (huZ (zq z s.2.1 s.2.2.1)), s.2.2.2.2.2.1, s.2.2.2.2.2.2.2.2.2.1.map pv9, (fun k => (dn k).map huDq), va_up (huRw (s.2.2.2.1 ++ s.2.2.2.2.1)) z.2.1 s.2.1.isSome) := by
  unfold huGs huH
  rw [hv_mid (z := zq z s.2.1 s.2.2.1) h.2.1, hr_mid (z := zq z s.2.1 s.2.2.1) h.2.1]
  rfl
/-- a whole section -/
theorem hu_es {f : Nat → Int32} {n : Nat} {z : LZ} {dn : Nat → Option PQ9} {s u : GS9} (hn : n ≤ 1024) (ho : oth z (s.2.2.2.1 ++ s.2.2.2.2.1)) (h : esP f n z.2.1 z.1 s.1 s.2.2.2.1 s.2.2.2.2.1 s.2.2.2.2.2.1 s.2.2.2.2.2.2.1 s.2.2.2.2.2.2.2.1 s.2.2.2.2.2.2.2.2.1 s.2.2.2.2.2.2.2.2.2.1 (u.1, u.2.2.2)) (h1 : gsQ u.2.1 = (0, (gsQ u.2.1).2) ∧ u.2.1.isSome = true) (h2 : u.2.2.1 = s.2.2.1) : oth z (u.2.2.2.1 ++ u.2.2.2.2.1) ∧ huGs z dn u = huEs (huR (n, f)) z.2.1 (huRp z.2.1 (huGs z dn s)) := by
  have hz : huZ (zq z u.2.1 u.2.2.1) = huSc (huZ (zq z s.2.1 s.2.2.1)) [] := by
    show (_, _, _, huR (gsQ u.2.1), huPq u.2.2.1) = (_, _, _, [], huPq s.2.2.1)
    rw [h1.1, h2]
    rfl
  have hA : (huRp z.2.1 (huGs z dn s)).2.1 z.2.1 = huZ (zq z s.2.1 s.2.2.1) := by
    rw [huGs_eq ho]
    exact va_up_self _ _ _
  unfold huEs
  rcases h with ⟨hg, he⟩ | ⟨hg, fr, ht, h⟩
  · have ho2 : oth z (u.2.2.2.1 ++ u.2.2.2.2.1) := by
      have e1 : u.2.2.2.1 = s.2.2.2.1 := congrArg (fun x => x.2.1) he
      have e2 : u.2.2.2.2.1 = s.2.2.2.2.1 := congrArg (fun x => x.2.2.1) he
      rw [e1, e2]; exact ho
    refine ⟨ho2, ?_⟩
    rw [if_neg (mt hu_gd.mpr hg), huGs_eq ho2, hA, huGs_eq ho, hz, h1.2]
    have e1 : u.2.2.2.1 = s.2.2.2.1 := congrArg (fun x => x.2.1) he
    have e2 : u.2.2.2.2.1 = s.2.2.2.2.1 := congrArg (fun x => x.2.2.1) he
    have e3 : u.1 = cup s.1 7 := congrArg (fun x => x.1) he
    have e4 : u.2.2.2.2.2.1 = s.2.2.2.2.2.1 := congrArg (fun x => x.2.2.2.1) he
    have e5 : u.2.2.2.2.2.2.2.2.2.1 = s.2.2.2.2.2.2.2.2.2.1 := congrArg (fun x => x.2.2.2.2.2.2.2.1) he
    rw [e1, e2, e3, e4, e5]
    show (_, _, _, _, _, _) = (cup s.1 7, va_up (va_up (huV (s.2.2.2.1 ++ s.2.2.2.2.1)) z.2.1 (huZ (zq z s.2.1 s.2.2.1))) z.2.1 _, _, _, _, va_up (va_up (huRw (s.2.2.2.1 ++ s.2.2.2.2.1)) z.2.1 s.2.1.isSome) z.2.1 true)
    rw [vu_vu, vu_vu]
  · have hT := hu_tb ht
    rw [huR_sx (by omega), ← huR_take hn (Nat.sub_le _ _)] at hT
    have hlen : (huR (n, f)).length = n := huR_len _
    have hV : (huRp z.2.1 (huGs z dn s)).2.2.1 = s.2.2.2.2.2.1 ∧ (huRp z.2.1 (huGs z dn s)).2.2.2.1 = s.2.2.2.2.2.2.2.2.2.1.map pv9 := ⟨rfl, rfl⟩
    rw [if_pos (hu_gd.mp hg), hV.1, hV.2, hlen, ← hT]
    rcases h with ⟨rfl, e3, e1, e2⟩ | ⟨hfr, e3, e1, e2⟩
    · have e1 : u.2.2.2.1 = s.2.2.2.1 := e1
      have e2 : u.2.2.2.2.1 = s.2.2.2.2.1 := e2
      have e3 : u.1 = cup s.1 6 := e3
      have ho2 : oth z (u.2.2.2.1 ++ u.2.2.2.2.1) := by rw [e1, e2]; exact ho
      refine ⟨ho2, ?_⟩
      show _ = if decide (¬ (0 : Int32) = 0) = true then _ else _
      rw [if_neg (by decide), huGs_eq ho2, hA, huGs_eq ho, hz, h1.2, e1, e2, e3]
      show (_, _, _, _, _, _) = (cup s.1 6, va_up (va_up (huV (s.2.2.2.1 ++ s.2.2.2.2.1)) z.2.1 (huZ (zq z s.2.1 s.2.2.1))) z.2.1 _, _, _, _, va_up (va_up (huRw (s.2.2.2.1 ++ s.2.2.2.2.1)) z.2.1 s.2.1.isSome) z.2.1 true)
      rw [vu_vu, vu_vu]
    · have e1 : u.2.2.2.1 = s.2.2.2.1.map (gvz z.1) := e1
      have e2 : u.2.2.2.2.1 = s.2.2.2.2.1.map (gvz z.1) := e2
      have e3 : u.1 = addc (cup s.1 6) (pNs z.1 256 (s.2.2.2.1 ++ s.2.2.2.2.1)) := e3
      have ho2 : oth z (u.2.2.2.1 ++ u.2.2.2.2.1) := by rw [e1, e2, ← List.map_append]; exact oth_gv ho _
      refine ⟨ho2, ?_⟩
      show _ = if decide (¬ fr = 0) = true then _ else _
      have hn2 : huNn (huRp z.2.1 (huGs z dn s)).2.1 z.2.1 8192 = pNs z.1 256 (s.2.2.2.1 ++ s.2.2.2.2.1) := by
        rw [hn_eq ho.1 ho.2.1 ho.2.2, huGs_eq ho]
        show huNn (va_up _ _ _) _ _ = _
        rw [hn_up (by rw [hv_no ho.2.1]; exact huN1_0), if_neg (fun q => q.2 rfl), Int32.add_zero]
      rw [if_pos (decide_eq_true hfr), hn2, huGs_eq ho2, hA, hz, h1.2, e1, e2, e3, ← List.map_append, (hv_gv ho.1).1, (hv_gv ho.1).2, huGs_eq ho]
      show (_, _, _, _, _, _) = (_, (fun q => if q = z.2.1 then huSc (huZ (zq z s.2.1 s.2.2.1)) [] else huGz (va_up (huV (s.2.2.2.1 ++ s.2.2.2.2.1)) z.2.1 (huZ (zq z s.2.1 s.2.2.1)) q)), _, _, _, va_up (va_up (huRw (s.2.2.2.1 ++ s.2.2.2.2.1)) z.2.1 s.2.1.isSome) z.2.1 true)
      rw [vu_vu]
      congr 2
      funext q
      by_cases c : q = z.2.1
      · rw [if_pos c, c, va_up_self]
      · rw [if_neg c, va_up_ne _ _ c, va_up_ne _ _ c]


theorem wd_87 : (Jvm.Cond.instantiable "StreamSplitter" (2 : Nat)) ∈ lw_ok := List.mem_filter.mpr ⟨List.mem_of_getElem? (i := 87) (by decide +kernel), rfl⟩
theorem wd_352 : (Jvm.Cond.instantiable "StreamSplitter$Piece" (7 : Nat)) ∈ lw_ok := List.mem_filter.mpr ⟨List.mem_of_getElem? (i := 352) (by decide +kernel), rfl⟩
theorem wd_415 : (Jvm.Cond.instantiable "StreamSplitter$Programme" (8 : Nat)) ∈ lw_ok := List.mem_filter.mpr ⟨List.mem_of_getElem? (i := 415) (by decide +kernel), rfl⟩
theorem wd_436 : (Jvm.Cond.instantiable "StreamSplitter$Order" (4 : Nat)) ∈ lw_ok := List.mem_filter.mpr ⟨List.mem_of_getElem? (i := 436) (by decide +kernel), rfl⟩
theorem wd_629 : (Jvm.Cond.instantiable "StreamSplitter$Stream" (2 : Nat)) ∈ lw_ok := List.mem_filter.mpr ⟨List.mem_of_getElem? (i := 629) (by decide +kernel), rfl⟩
theorem wd_1082 : (Jvm.Cond.instantiable "StreamSplitterModel" (54 : Nat)) ∈ lw_ok := List.mem_filter.mpr ⟨List.mem_of_getElem? (i := 1082) (by decide +kernel), rfl⟩
/-! The law's start: classes, array classes, the shared empty array. -/
theorem fl0 {l : Launch} (h : l.flags = flags0) : l.stackTraces = false := by
  unfold Launch.stackTraces
  rw [h]
  decide +kernel
theorem z_arP {s : State} {args : Array Value} {ty : FieldType} (h : (Cond.arrayClass ty).before args s = true) (hm : ∀ cA, s.vm.findClass ("[" ++ ty.toString) = some cA → va_RA s cA ty) : ∃ cA : ClassId, ArrOfT s cA ty ∧ va_RA s cA ty := by
  obtain ⟨c, k, comp, h1, h2, h3⟩ := Cond.arrayClass_spec h
  exact ⟨c, fun n z => ⟨(fun k h => by cases h), k, h2, comp, h3⟩, hm c h1⟩
theorem z_arO {s : State} {args : Array Value} {C : String} (h : (Cond.arrayOver (.object C)).before args s = true) : ∃ cA : ClassId, ArrOfT s cA (.object C) ∧ va_RA s cA (.object C) := by
  obtain ⟨comp, c, k, h1, -, h2, h3, h4⟩ := Cond.arrayOver_spec h
  exact ⟨c, fun n z => ⟨(fun k h => by cases h), k, h2, comp, h3⟩, k, comp, h2, h3, h1, h4⟩
theorem z_kk {s : State} {cl : List vw_C} (h : ∀ c : Nat, ∃ x : ClassId × (Nat → Nat), ∀ q : vw_C, cl[c]? = some q → u_Kn s q.1 q.2.1 q.2.2 x.1 x.2) : ∃ D : va_G, va_K D cl [] s :=
  ⟨(fun c => (Classical.choose (h c)).1, fun c => (Classical.choose (h c)).2), fun c q hq => Classical.choose_spec (h c) q hq, fun k q hq => by cases hq⟩
theorem z_kt {s : State} {cl : List vw_C} {D : va_G} {tys : List (ClassId × FieldType)} {cA : ClassId} {ty : FieldType} (hK : va_K D cl tys s) (h : ArrOfT s cA ty ∧ va_RA s cA ty) : va_K D cl (tys ++ [(cA, ty)]) s := by
  refine hK.app ⟨hK.1, fun k q hq => ?_⟩
  have hz : k < 1 := (List.getElem?_eq_some_iff.mp hq).1
  rw [show k = 0 by omega] at hq
  cases hq
  exact h
theorem z_kn {s : State} {C : String} {T : u_T} {N : Nat} {args : Array Value} (hts : ∀ w ∈ lw_ok, w.before args s = true) (hin : ∀ w ∈ u_ws C T N, w ∈ lw_ok) (hi : Cond.instantiable C N ∈ lw_ok) {q0 : Option vw_C} (hq0 : q0 = some (C, T, N)) : ∃ x : ClassId × (Nat → Nat), ∀ q : vw_C, q0 = some q → u_Kn s q.1 q.2.1 q.2.2 x.1 x.2 := by
  obtain ⟨cC, iS, h⟩ := u_known hts hin (hts _ hi)
  exact ⟨(cC, iS), fun q hq => by rw [hq0] at hq; cases hq; exact h⟩
theorem z_e0 {s : State} (hG : zG s) (hl : Cond.laysStatic alN alF alD ∈ lw_tbl) (hi : Cond.initialized alN ∈ lw_tbl) (hr : Cond.isRef (.static alN alF alD) ∈ flatC (Jvm.Cond.and given_1 narrow_1)) (ha : Cond.arrayOf (.static alN alF alD) (.object "java/lang/Object") ∈ flatC (Jvm.Cond.and given_1 narrow_1)) (hz : Cond.eq (.length (.static alN alF alD)) (.int 0) ∈ flatC (Jvm.Cond.and given_1 narrow_1)) : ∃ e0, zE0 s e0 := by
  obtain ⟨b, hw, hn⟩ := hG
  have hs := flat_of_before _ hn
  have h1 := hs _ hr
  have h2 := hs _ ha
  have h3 := hs _ hz
  have hlen : (Term.length (.static alN alF alD)).eval #[Value.ref b] s none [] s = some (.int (Int32.ofNat 0)) := by
    cases hv : (Term.length (.static alN alF alD)).eval #[Value.ref b] s none [] s with
    | none => simp [Cond.before, Cond.holds, Cond.value, hv] at h3
    | some v =>
      obtain ⟨t, cell, -, -, e⟩ := Term.length_spec hv
      subst e
      have h4 := Cond.eq_ints hv (show (Term.int 0).eval #[Value.ref b] s none [] s = some (.int 0) from rfl)
      have h5 : cell.slots.size.toInt32 = 0 := by simpa [Cond.before, Cond.holds, h4] using h3
      rw [h5]; rfl
  obtain ⟨t, ht, hT⟩ := va_Tof (N := 0) (f := fun _ => .null) (A := fun q => s.heap.size ≤ q) (by decide) h2 hlen (fun j hj => absurd hj (Nat.not_lt_zero j)) (fun a ha => Nat.not_le.mpr ha)
  exact ⟨t, va_Zof (hw _ hl) (hw _ hi) ht (fun a ha => Nat.not_le.mpr ha), hT⟩

theorem z_K {s : State} {args : Array Value} (hts : ∀ w ∈ lw_ok, w.before args s = true) : ∃ D : va_G, va_K D classes [] s := z_kk (fun c => match c with
  | 0 => z_kn hts i_Row wd_101 rfl
  | 1 => z_kn hts i_Lane wd_234 rfl
  | 2 => z_kn hts i_Lanes wd_120 rfl
  | 3 => z_kn hts i_Piece wd_352 rfl
  | 4 => z_kn hts i_Receiver wd_95 rfl
  | 5 => z_kn hts i_Stream wd_629 rfl
  | 6 => z_kn hts i_Order wd_436 rfl
  | 7 => z_kn hts i_Programme wd_415 rfl
  | 8 => z_kn hts i_Tables wd_133 rfl
  | 9 => z_kn hts i_Draft wd_896 rfl
  | 10 => z_kn hts i_Writer wd_946 rfl
  | 11 => z_kn hts i_SS wd_87 rfl
  | 12 => z_kn hts i_AL wd_139 rfl
  | 13 => z_kn hts i_Mo wd_1082 rfl
  | k + 14 => ⟨(0, fun _ => 0), fun q hq => by cases hq⟩)
theorem z_Kall {s : State} {b : Nat} (htl : ∀ w ∈ lw_tbl, w.before #[Value.ref b] s = true) (hts : ∀ w ∈ lw_ok, w.before #[Value.ref b] s = true) : ∃ (D : va_G) (cB cI cJ cZ cN cQ cO : ClassId), va_K D classes [(cB, .byte), (cI, .int), (cJ, .long), (cZ, .boolean), (cN, .object "StreamSplitter$Lane"), (cQ, .object "StreamSplitter$Piece"), (cO, .object "java/lang/Object")] s := by
  obtain ⟨D, hK⟩ := z_K hts
  obtain ⟨cB, h_cB⟩ := z_arP (hts _ wd_118) (fun _ h => h)
  obtain ⟨cI, h_cI⟩ := z_arP (hts _ wd_195) (fun _ h => h)
  obtain ⟨cJ, h_cJ⟩ := z_arP (hts _ wd_1252) (fun _ h => h)
  obtain ⟨cZ, h_cZ⟩ := z_arP (hts _ wd_1251) (fun _ h => h)
  obtain ⟨cN, h_cN⟩ := z_arO (htl (Cond.arrayOver (.object "StreamSplitter$Lane")) (by decide +kernel))
  obtain ⟨cQ, h_cQ⟩ := z_arO (htl (Cond.arrayOver (.object "StreamSplitter$Piece")) (by decide +kernel))
  obtain ⟨cO, h_cO⟩ := z_arO (htl (Cond.arrayOver (.object "java/lang/Object")) (by decide +kernel))
  exact ⟨D, cB, cI, cJ, cZ, cN, cQ, cO, z_kt (z_kt (z_kt (z_kt (z_kt (z_kt (z_kt hK h_cB) h_cI) h_cJ) h_cZ) h_cN) h_cQ) h_cO⟩
theorem z_E0 {s : State} (hG : zG s) : ∃ e0, zE0 s e0 := z_e0 hG (by decide +kernel) (by decide +kernel) (by decide +kernel) (by decide +kernel) (by decide +kernel)

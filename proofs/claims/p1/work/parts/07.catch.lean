/-! A handler of the method's own takes the exception. -/
section ZV
variable {p : Program} {l : Launch} {e : Env} {R : Room} {s : State} {m : MethodId} {args : Array Value} {below : List Frame} {meth : Method} {c : Code} {H : Heap} {locs : List Loc} {cells slots : Nat} {Q : State → Prop}
variable {pc : Nat} {ls : Array Slot} {rest : List Value} {T : State} {a : Addr}
theorem z_hand (X : Stand p l e R s m args below meth c T locs cells slots) {own nm Xn : String} (hown : s.vm.findClass own = some m.cls) {ct : Nat} (hlink : (Cond.classLink own ct nm).before args s = true) {ce : Cell} (hcell : T.heap[a]? = some ce) (hnv : ce.vm = .none) (hX : s.vm.findClass Xn = some ce.cls) :
    ∃ (vm' : Vm) (cT : ClassId), Stand p l e R s m args below meth c (T.setVm vm') locs cells slots ∧ s.vm.findClass nm = some cT ∧ ∀ (g : JFrame), g.method = m → ∀ (x : ExceptionTableEntry), x.catchType = ct → ct ≠ 0 → covers x g.pc = true → ∀ (q : List ExceptionTableEntry) (Q : Handler → Pre) (E : CtlPost) (d : Bool) (acts : List Action),
      (wp (findHandler.go g a (x :: q)) Q E e d acts ((T.setTop g).pushFrame (.throwing a)) ↔ if s.vm.assignable ce.cls cT = true then Q (.found x.handlerPc) d acts ((((T.setVm vm').setTop g).pushFrame (.throwing a))) else wp (findHandler.go g a q) Q E e d acts (((T.setVm vm').setTop g).pushFrame (.throwing a))) := by
  have hpl : e.platform.magicAccessors = ({} : Platform).magicAccessors := by rw [X.admits.platform]
  obtain ⟨cT, hcT, hcl⟩ := Cond.classLink_spec hown hlink e.platform hpl
  obtain ⟨dk, _, _, kt, hd, _, _, _, _, hkt, _, hopen⟩ := hcl.here
  have hcl₀ := X.warmed.classLinks hcl
  have hW' : s.WarmedH (T.vm.noted m.cls ct (.cls cT)) := X.warmed.noted hd hopen (State.rightAt_cls hcl)
  have hg := resolveClass_links e.toSetting hcl₀
  obtain ⟨k1, hk1⟩ := Vm.classAt_of_findClass hX
  obtain ⟨ks', hks', -⟩ := hW'.alike.2.2 _ _ hk1
  obtain ⟨kt', hkt', -⟩ := hW'.alike.2.2 _ _ hkt
  have hsz : (T.vm.noted m.cls ct (.cls cT)).classes.size ≤ T.vm.classes.size := by no_record
  have has : (T.vm.noted m.cls ct (.cls cT)).assignable ce.cls cT = s.vm.assignable ce.cls cT := by rw [hW'.alike.assignable]
  refine ⟨_, cT, X.noted hW', hcT, fun g hgm x hx h0 hcov q Q E d acts => ?_⟩
  subst hgm; subst hx
  have hvm : ((T.setTop g).pushFrame (.throwing a)).vm = T.vm := Stand.throwing_vm T g a
  have hhp : ((T.setTop g).pushFrame (.throwing a)).heap = T.heap := Stand.throwing_heap T g a
  have key := z_goCold (E := E) (e := e) (d := d) (acts := acts) (s := (T.setTop g).pushFrame (.throwing a)) (f := g) (a := a) (Q := Q) (x := x) (t := q) (c := cT) (cell := ce) (vm' := T.vm.noted g.method.cls x.catchType (.cls cT)) hcov h0 (by rw [hvm]; exact hg) (by rw [hvm]; exact hsz) (by rw [hhp]; exact hcell) (fun k h => by rw [hnv] at h; cases h) ⟨_, hks'⟩ ⟨_, hkt'⟩
  rw [has] at key
  exact key
theorem z_catch1 {own nm Xn : String} {s1 e1 h1 ct1 : Nat} (hh : c.exceptionTable.toList.map (fun h => (h.startPc, h.endPc, h.handlerPc, h.catchType)) = [(s1, e1, h1, ct1)]) (hcov : s1 ≤ pc ∧ pc < e1) (h0 : ct1 ≠ 0) (hown : s.vm.findClass own = some m.cls) (hlink : (Cond.classLink own ct1 nm).before args s = true) (hcast : (Cond.castable Xn nm).before args s = true)
    (hx : ∃ ce : Cell, H[a]? = some ce ∧ ce.vm = .none ∧ s.vm.findClass Xn = some ce.cls) (kk : W p l e R s m args below meth c H locs cells slots Q (F0 m h1 ls [.ref a])) : WT p l e R s m args below meth c H locs cells slots Q (F0 m pc ls rest) a := by
  intro T hT X
  obtain ⟨ce, hce, hnv, hX⟩ := hx
  obtain ⟨vm', cT, X', hcT, key⟩ := z_hand (a := a) X hown hlink (by rw [hT]; exact hce) hnv hX
  obtain ⟨c0, t0, f1, f2, f3⟩ := Cond.castable_spec hcast
  cases hX.symm.trans f1
  cases hcT.symm.trans f2
  obtain ⟨t2, a1, b1⟩ := kk (T.setVm vm') hT X'
  cases hl : c.exceptionTable.toList with
  | nil => rw [hl] at hh; cases hh
  | cons x q =>
    rw [hl] at hh
    simp only [List.map_cons, List.cons.injEq, Prod.mk.injEq] at hh
    obtain ⟨⟨q1, q2, q3, q4⟩, q5⟩ := hh
    refine ⟨t2, z_caughtTo (vm' := vm') (pc := h1) (g := F0 m pc ls rest) X.here (fun Q E d acts => ?_) a1, b1⟩
    rw [W.findHandler_eq (meth := meth) (code := c) (by rw [Stand.throwing_vm]; exact X.method') X.code, hl, key (F0 m pc ls rest) rfl x q4 h0 (by simp only [covers, q1, q2]; simp [hcov.1, hcov.2]) q Q E d acts, if_pos f3, q3]
    rfl
theorem z_catch2 {own n1 n2 Xn : String} {s1 e1 h1 ct1 s2 e2 h2 ct2 : Nat} (hh : c.exceptionTable.toList.map (fun h => (h.startPc, h.endPc, h.handlerPc, h.catchType)) = [(s1, e1, h1, ct1), (s2, e2, h2, ct2)]) (hcov : s1 ≤ pc ∧ pc < e1) (hcov2 : s2 ≤ pc ∧ pc < e2) (h0 : ct1 ≠ 0) (h02 : ct2 ≠ 0) (hown : s.vm.findClass own = some m.cls) (hlink : (Cond.classLink own ct1 n1).before args s = true) (hlink2 : (Cond.classLink own ct2 n2).before args s = true) (hno : (Cond.not (.castable Xn n1)).before args s = true) (hcast : (Cond.castable Xn n2).before args s = true)
    (hx : ∃ ce : Cell, H[a]? = some ce ∧ ce.vm = .none ∧ s.vm.findClass Xn = some ce.cls) (kk : W p l e R s m args below meth c H locs cells slots Q (F0 m h2 ls [.ref a])) : WT p l e R s m args below meth c H locs cells slots Q (F0 m pc ls rest) a := by
  intro T hT X
  obtain ⟨ce, hce, hnv, hX⟩ := hx
  obtain ⟨vm', cT, X', hcT, key⟩ := z_hand (a := a) X hown hlink (by rw [hT]; exact hce) hnv hX
  obtain ⟨vm2, cT2, X2, hcT2, key2⟩ := z_hand (a := a) X' hown hlink2 (by show T.heap[a]? = _; rw [hT]; exact hce) hnv hX
  obtain ⟨c0, t0, f1, f2, f3⟩ := Cond.castable_spec hcast
  cases hX.symm.trans f1
  cases hcT2.symm.trans f2
  obtain ⟨cn, tn, g1, g2, g3⟩ := va_Nc.of hno
  cases hX.symm.trans g1
  cases hcT.symm.trans g2
  obtain ⟨t2, a1, b1⟩ := kk ((T.setVm vm').setVm vm2) hT X2
  cases hl : c.exceptionTable.toList with
  | nil => rw [hl] at hh; cases hh
  | cons x q =>
    rw [hl] at hh
    simp only [List.map_cons, List.cons.injEq, Prod.mk.injEq] at hh
    obtain ⟨⟨q1, q2, q3, q4⟩, q5⟩ := hh
    cases q with
    | nil => cases q5
    | cons x2 q' =>
      simp only [List.map_cons, List.cons.injEq, Prod.mk.injEq] at q5
      obtain ⟨⟨r1, r2, r3, r4⟩, r5⟩ := q5
      have a1' : Steps p.tables e below ((T.setVm vm2).setTop { (F0 m pc ls rest) with pc := h2, stack := [.ref a] }) t2 := a1
      refine ⟨t2, z_caughtTo (vm' := vm2) (pc := h2) (g := F0 m pc ls rest) X.here (fun Q E d acts => ?_) a1', b1⟩
      rw [W.findHandler_eq (meth := meth) (code := c) (by rw [Stand.throwing_vm]; exact X.method') X.code, hl, key (F0 m pc ls rest) rfl x q4 h0 (by simp only [covers, q1, q2]; simp [hcov.1, hcov.2]) (x2 :: q') Q E d acts, if_neg (by rw [g3]; decide), key2 (F0 m pc ls rest) rfl x2 r4 h02 (by simp only [covers, r1, r2]; simp [hcov2.1, hcov2.2]) q' Q E d acts, if_pos f3, r3]
      rfl
end ZV


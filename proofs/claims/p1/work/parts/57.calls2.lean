/-! A handler that stands first; a wrapper's table. -/
section ZV3
variable {p : Program} {l : Launch} {e : Env} {R : Room} {s : State} {m : MethodId} {args : Array Value} {below : List Frame} {meth : Method} {c : Code} {H : Heap} {locs : List Loc} {cells slots : Nat} {Q : State → Prop}
variable {pc : Nat} {ls : Array Slot} {rest : List Value} {T : State} {a : Addr}
theorem z_catch1h {own nm Xn : String} {s1 e1 h1 ct1 : Nat} {tl : List (Nat × Nat × Nat × Nat)} (hh : c.exceptionTable.toList.map (fun h => (h.startPc, h.endPc, h.handlerPc, h.catchType)) = (s1, e1, h1, ct1) :: tl) (hcov : s1 ≤ pc ∧ pc < e1) (h0 : ct1 ≠ 0) (hown : s.vm.findClass own = some m.cls) (hlink : (Cond.classLink own ct1 nm).before args s = true) (hcast : (Cond.castable Xn nm).before args s = true)
    (hx : ∃ ce : Cell, H[a]? = some ce ∧ ce.vm = .none ∧ s.vm.findClass Xn = some ce.cls) (kk : W p l e R s m args below meth c H locs cells slots Q (F0 m h1 ls [.ref a])) : WT p l e R s m args below meth c H locs cells slots Q (F0 m pc ls rest) a := by
  intro T hT X
  obtain ⟨ce, hce, hnv, hX⟩ := hx
  obtain ⟨vm', cT, X', hcT, key⟩ := z_hand (a := a) X hown hlink (by rw [hT]; exact hce) hnv hX
  obtain ⟨c0, t0, f1, f2, f3⟩ := Cond.castable_spec hcast
  cases hX.symm.trans f1
  cases hcT.symm.trans f2
  obtain ⟨t2, a1, b1⟩ := kk (T.setVm vm') hT X'
  cases hl : c.exceptionTable.toList with
  | nil => rw [hl] at hh; cases hh
  | cons x q =>
    rw [hl] at hh
    simp only [List.map_cons, List.cons.injEq, Prod.mk.injEq] at hh
    obtain ⟨⟨q1, q2, q3, q4⟩, q5⟩ := hh
    refine ⟨t2, z_caughtTo (vm' := vm') (pc := h1) (g := F0 m pc ls rest) X.here (fun Q E d acts => ?_) a1, b1⟩
    rw [W.findHandler_eq (meth := meth) (code := c) (by rw [Stand.throwing_vm]; exact X.method') X.code, hl, key (F0 m pc ls rest) rfl x q4 h0 (by simp only [covers, q1, q2]; simp [hcov.1, hcov.2]) q Q E d acts, if_pos f3, q3]
    rfl
theorem z_tab {y : MethodName} {rm : Room} {cc : ByteArray} {maxL : Nat} {ret : Option FieldType} {hh : List (Nat × Nat × Nat × Nat)} {s₁ : State} (B : BodyLoose p l y (headSpec [Cond.codeWith y cc maxL ret hh] rm) cc maxL ret e s m args below meth c s₁) : c.exceptionTable.toList.map (fun h => (h.startPc, h.endPc, h.handlerPc, h.catchType)) = hh := by
  obtain ⟨m9, meth', c', hn9, hm', hc', -, -, ht, -⟩ := Cond.codeWith_spec (atoms_spec (ws := [Cond.codeWith y cc maxL ret hh]) B.pre _ List.mem_cons_self)
  cases B.named.symm.trans hn9
  cases B.method.symm.trans hm'
  cases (Stand.of_body B).code.symm.trans hc'
  exact ht
end ZV3


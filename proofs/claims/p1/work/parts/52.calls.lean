/-! Calls out of the law's wrappers: a method that may throw; a method with handlers of its own. -/
section ZV2
variable {p : Program} {l : Launch} {e : Env} {R : Room} {s : State} {m : MethodId} {args : Array Value} {below : List Frame} {meth : Method} {c : Code} {H : Heap} {locs : List Loc} {cells slots : Nat} {Q : State → Prop}
variable {pc : Nat} {ls : Array Slot} {rest : List Value} {T : State} {a : Addr}
theorem z_catch2N {own n1 n2 Xn : String} {s1 e1 h1 ct1 s2 e2 h2 ct2 : Nat} (hh : c.exceptionTable.toList.map (fun h => (h.startPc, h.endPc, h.handlerPc, h.catchType)) = [(s1, e1, h1, ct1), (s2, e2, h2, ct2)]) (hcov : s1 ≤ pc ∧ pc < e1) (hcov2 : s2 ≤ pc ∧ pc < e2) (h0 : ct1 ≠ 0) (h02 : ct2 ≠ 0) (hown : s.vm.findClass own = some m.cls) (hlink : (Cond.classLink own ct1 n1).before args s = true) (hlink2 : (Cond.classLink own ct2 n2).before args s = true) (hno : va_Nc Xn n1 s) (hcast : (Cond.castable Xn n2).before args s = true)
    (hx : ∃ ce : Cell, H[a]? = some ce ∧ ce.vm = .none ∧ s.vm.findClass Xn = some ce.cls) (kk : W p l e R s m args below meth c H locs cells slots Q (F0 m h2 ls [.ref a])) : WT p l e R s m args below meth c H locs cells slots Q (F0 m pc ls rest) a := by
  intro T hT X
  obtain ⟨ce, hce, hnv, hX⟩ := hx
  obtain ⟨vm', cT, X', hcT, key⟩ := z_hand (a := a) X hown hlink (by rw [hT]; exact hce) hnv hX
  obtain ⟨vm2, cT2, X2, hcT2, key2⟩ := z_hand (a := a) X' hown hlink2 (by show T.heap[a]? = _; rw [hT]; exact hce) hnv hX
  obtain ⟨c0, t0, f1, f2, f3⟩ := Cond.castable_spec hcast
  cases hX.symm.trans f1
  cases hcT2.symm.trans f2
  obtain ⟨cn, tn, g1, g2, g3⟩ := hno
  cases hX.symm.trans g1
  cases hcT.symm.trans g2
  obtain ⟨t2, a1, b1⟩ := kk ((T.setVm vm').setVm vm2) hT X2
  cases hl : c.exceptionTable.toList with
  | nil => rw [hl] at hh; cases hh
  | cons x q =>
    rw [hl] at hh
    simp only [List.map_cons, List.cons.injEq, Prod.mk.injEq] at hh
    obtain ⟨⟨q1, q2, q3, q4⟩, q5⟩ := hh
    cases q with
    | nil => cases q5
    | cons x2 q' =>
      simp only [List.map_cons, List.cons.injEq, Prod.mk.injEq] at q5
      obtain ⟨⟨r1, r2, r3, r4⟩, r5⟩ := q5
      have a1' : Steps p.tables e below ((T.setVm vm2).setTop { (F0 m pc ls rest) with pc := h2, stack := [.ref a] }) t2 := a1
      refine ⟨t2, z_caughtTo (vm' := vm2) (pc := h2) (g := F0 m pc ls rest) X.here (fun Q E d acts => ?_) a1', b1⟩
      rw [W.findHandler_eq (meth := meth) (code := c) (by rw [Stand.throwing_vm]; exact X.method') X.code, hl, key (F0 m pc ls rest) rfl x q4 h0 (by simp only [covers, q1, q2]; simp [hcov.1, hcov.2]) (x2 :: q') Q E d acts, if_neg (by rw [g3]; decide), key2 (F0 m pc ls rest) rfl x2 r4 h02 (by simp only [covers, r1, r2]; simp [hcov2.1, hcov2.2]) q' Q E d acts, if_pos f3, r3]
      rfl
end ZV2
section ZX
variable {p : Program} {l : Launch} {e : Env} {R : Room} {s : State} {m : MethodId} {args : Array Value} {below : List Frame} {meth : Method} {c : Code} {H : Heap} {locs : List Loc} {cells slots : Nat} {Q : State → Prop}
variable {cc : ByteArray} {pc : Nat} {ls : Array Slot} {rest st0 : List Value}
variable {y : MethodName} {ws Ts : List Cond} {rm : Room} {Pc : Array Value → State → Prop} {mc ms n index nL : Nat} {free : Addr → Prop} {bytes : ByteArray} {maxL : Nat} {ret : Option FieldType} {own C : String} {b : Addr} {As : List Value}
variable {A0 A1 : Nat → Prop} {H0 : Heap} {S : Type} {B : S → State → Prop} {thr : String → Prop}
theorem z_Sgo {A0 A1 : Nat → Prop} {H0 H H1 : Heap} {locs L : List Loc} {free : Addr → Prop} (hS : va_S A0 H0 H locs) (hA : ∀ q, q < H.size → A1 q → A0 q) (hf : ∀ q, free q → A0 q) (hL : ∀ q ∈ L, free q.base) (hz : H.size ≤ H1.size) (hk : ∀ q : Nat, q < H.size → ¬ A1 q → H1[q]? = H[q]?) : va_S A0 H0 H1 (locs ++ L) :=
  ⟨Nat.le_trans hS.1 hz, fun q h1 h2 => by rw [hk q (Nat.lt_of_lt_of_le h1 hS.1) (fun z => h2 (hA q (Nat.lt_of_lt_of_le h1 hS.1) z))]; exact hS.2.1 q h1 h2, fun q hq => by
      rcases List.mem_append.mp hq with h | h
      · exact hS.2.2 q h
      · exact hf _ (hL q h)⟩
theorem z_callVTi {post : Int32 → S → Prop} (F : CallFix p m c cc nL s args Ts own) (hM : MetT l y ws rm Pc (zQi post B A1 thr) mc ms free) (cw : CallW R s args own C index y bytes maxL ret ws rm mc ms n) (hp : PreV s H C b Pc As) (hn : As.length = n) (hsize : ls.size = nL) (hstack : st0 = As.reverse ++ .ref b :: rest) (hW : 2 * (F0 m pc ls rest).monitorRoom + (rest.map fun v => v.category).sum ≤ 8) (hdg : decode cc pc = .ok (.invokevirtual index, 3)) (hf : cells + mc ≤ R.cells ∧ slots + ms ≤ R.slots)
    (hS : va_S A0 H0 H locs) (hA : ∀ q, q < H.size → A1 q → A0 q) (hfr : ∀ q, free q → A0 q)
    (kr : ∀ (r : Int32) (u : S) (t : State) (H1 : Heap) (locs1 : List Loc), t.heap = H1 → s.vm.Alike t.vm → post r u → B u t → H.size ≤ H1.size → (∀ q : Nat, q < H.size → ¬ A1 q → H1[q]? = H[q]?) → va_S A0 H0 H1 locs1 → W p l e R s m args below meth c H1 locs1 (cells + mc) (slots + ms) Q (F0 m (pc + 3) ls (.int r :: rest)))
    (kt : ∀ (X : String) (x : Addr) (H1 : Heap) (locs1 : List Loc), thr X → (∃ ce : Cell, H1[x]? = some ce ∧ ce.vm = .none ∧ s.vm.findClass X = some ce.cls) → H.size ≤ H1.size → (∀ q : Nat, q < H.size → H1[q]? = H[q]?) → va_S A0 H0 H1 locs1 → WT p l e R s m args below meth c H1 locs1 (cells + mc) (slots + ms) Q (F0 m pc ls rest) x) :
    W p l e R s m args below meth c H locs cells slots Q (F0 m pc ls st0) := by
  refine z_callVT F hM cw hp hn hsize hstack hW hdg hf (fun v st₀ t L h0 hal hq hL => ?_) (fun x st₀ t L h0 hal hal0 hq hL => ?_)
  · rcases hq with ⟨r, u, hv, h1, h2, h3, h4⟩ | ⟨X, a, -, h, -⟩
    · cases hv
      rw [h0] at h3 h4
      exact kr r u t t.heap (locs ++ L) rfl hal h1 h2 h3 h4 (z_Sgo hS hA hfr hL h3 h4)
    · cases h
  · rcases hq with ⟨r, u, hv, -⟩ | ⟨X, a, h1, h, h2, ⟨ce, g1, g2, g3⟩, h4, h5⟩
    · cases hv
    · cases h
      rw [h0] at h4 h5
      rw [hal0.findClass] at g3
      exact kt X x t.heap (locs ++ L) h1 ⟨ce, g1, g2, g3⟩ h4 h5 (z_Sgo hS hA hfr hL h4 (fun q h _ => h5 q h))
theorem z_callVTl {post : Int64 → S → Prop} (F : CallFix p m c cc nL s args Ts own) (hM : MetT l y ws rm Pc (zQl post B A1 thr) mc ms free) (cw : CallW R s args own C index y bytes maxL ret ws rm mc ms n) (hp : PreV s H C b Pc As) (hn : As.length = n) (hsize : ls.size = nL) (hstack : st0 = As.reverse ++ .ref b :: rest) (hW : 2 * (F0 m pc ls rest).monitorRoom + (rest.map fun v => v.category).sum ≤ 8) (hdg : decode cc pc = .ok (.invokevirtual index, 3)) (hf : cells + mc ≤ R.cells ∧ slots + ms ≤ R.slots)
    (hS : va_S A0 H0 H locs) (hA : ∀ q, q < H.size → A1 q → A0 q) (hfr : ∀ q, free q → A0 q)
    (kr : ∀ (r : Int64) (u : S) (t : State) (H1 : Heap) (locs1 : List Loc), t.heap = H1 → s.vm.Alike t.vm → post r u → B u t → H.size ≤ H1.size → (∀ q : Nat, q < H.size → ¬ A1 q → H1[q]? = H[q]?) → va_S A0 H0 H1 locs1 → W p l e R s m args below meth c H1 locs1 (cells + mc) (slots + ms) Q (F0 m (pc + 3) ls (.long r :: rest)))
    (kt : ∀ (X : String) (x : Addr) (H1 : Heap) (locs1 : List Loc), thr X → (∃ ce : Cell, H1[x]? = some ce ∧ ce.vm = .none ∧ s.vm.findClass X = some ce.cls) → H.size ≤ H1.size → (∀ q : Nat, q < H.size → H1[q]? = H[q]?) → va_S A0 H0 H1 locs1 → WT p l e R s m args below meth c H1 locs1 (cells + mc) (slots + ms) Q (F0 m pc ls rest) x) :
    W p l e R s m args below meth c H locs cells slots Q (F0 m pc ls st0) := by
  refine z_callVT F hM cw hp hn hsize hstack hW hdg hf (fun v st₀ t L h0 hal hq hL => ?_) (fun x st₀ t L h0 hal hal0 hq hL => ?_)
  · rcases hq with ⟨r, u, hv, h1, h2, h3, h4⟩ | ⟨X, a, -, h, -⟩
    · cases hv
      rw [h0] at h3 h4
      exact kr r u t t.heap (locs ++ L) rfl hal h1 h2 h3 h4 (z_Sgo hS hA hfr hL h3 h4)
    · cases h
  · rcases hq with ⟨r, u, hv, -⟩ | ⟨X, a, h1, h, h2, ⟨ce, g1, g2, g3⟩, h4, h5⟩
    · cases hv
    · cases h
      rw [h0] at h4 h5
      rw [hal0.findClass] at g3
      exact kt X x t.heap (locs ++ L) h1 ⟨ce, g1, g2, g3⟩ h4 h5 (z_Sgo hS hA hfr hL h4 (fun q h _ => h5 q h))
theorem z_callVTv {post : S → Prop} (F : CallFix p m c cc nL s args Ts own) (hM : MetT l y ws rm Pc (zQv post B A1 thr) mc ms free) (cw : CallW R s args own C index y bytes maxL ret ws rm mc ms n) (hp : PreV s H C b Pc As) (hn : As.length = n) (hsize : ls.size = nL) (hstack : st0 = As.reverse ++ .ref b :: rest) (hW : 2 * (F0 m pc ls rest).monitorRoom + (rest.map fun v => v.category).sum ≤ 8) (hdg : decode cc pc = .ok (.invokevirtual index, 3)) (hf : cells + mc ≤ R.cells ∧ slots + ms ≤ R.slots)
    (hS : va_S A0 H0 H locs) (hA : ∀ q, q < H.size → A1 q → A0 q) (hfr : ∀ q, free q → A0 q)
    (kr : ∀ (u : S) (t : State) (H1 : Heap) (locs1 : List Loc), t.heap = H1 → s.vm.Alike t.vm → post u → B u t → H.size ≤ H1.size → (∀ q : Nat, q < H.size → ¬ A1 q → H1[q]? = H[q]?) → va_S A0 H0 H1 locs1 → W p l e R s m args below meth c H1 locs1 (cells + mc) (slots + ms) Q (F0 m (pc + 3) ls rest))
    (kt : ∀ (X : String) (x : Addr) (H1 : Heap) (locs1 : List Loc), thr X → (∃ ce : Cell, H1[x]? = some ce ∧ ce.vm = .none ∧ s.vm.findClass X = some ce.cls) → H.size ≤ H1.size → (∀ q : Nat, q < H.size → H1[q]? = H[q]?) → va_S A0 H0 H1 locs1 → WT p l e R s m args below meth c H1 locs1 (cells + mc) (slots + ms) Q (F0 m pc ls rest) x) :
    W p l e R s m args below meth c H locs cells slots Q (F0 m pc ls st0) := by
  refine z_callVT F hM cw hp hn hsize hstack hW hdg hf (fun v st₀ t L h0 hal hq hL => ?_) (fun x st₀ t L h0 hal hal0 hq hL => ?_)
  · rcases hq with ⟨u, hv, h1, h2, h3, h4⟩ | ⟨X, a, -, h, -⟩
    · cases hv
      rw [h0] at h3 h4
      exact kr u t t.heap (locs ++ L) rfl hal h1 h2 h3 h4 (z_Sgo hS hA hfr hL h3 h4)
    · cases h
  · rcases hq with ⟨u, hv, -⟩ | ⟨X, a, h1, h, h2, ⟨ce, g1, g2, g3⟩, h4, h5⟩
    · cases hv
    · cases h
      rw [h0] at h4 h5
      rw [hal0.findClass] at g3
      exact kt X x t.heap (locs ++ L) h1 ⟨ce, g1, g2, g3⟩ h4 h5 (z_Sgo hS hA hfr hL h4 (fun q h _ => h5 q h))
/-- the cells of a world are where they were -/
theorem z_Pkept {D : va_G} {cl : List vw_C} {ws : va_W} {H H1 : Heap} (h : va_P D cl ws H) (hk : ∀ q : Nat, q < H.size → H1[q]? = H[q]?) : va_P D cl ws H1 := h.kept (fun k q hq => hk q.1 ((h k q hq).lt))
/-- a static method with handlers of its own is called -/
def zCW (R : Room) (s : State) (args : Array Value) (own : String) (index : Nat) (y : MethodName) (bytes : ByteArray) (maxL : Nat) (ret : Option FieldType) (hh : List (Nat × Nat × Nat × Nat)) (rm : Room) (mc ms n : Nat) : Prop :=
  (rm.cells = mc ∧ rm.slots = ms ∧ rm.frames + 1 ≤ R.frames ∧ 8 + (maxL + 11) + rm.locals ≤ R.locals) ∧ (∀ (a' : Array Value) (U : State), s.WarmedH U.vm → (Cond.codeWith y bytes maxL ret hh).before a' U = true) ∧ (∀ (a' : Array Value) (U : State), s.WarmedH U.vm → (Cond.initialized y.cls).before a' U = true) ∧ (y.cls ≠ "java/lang/invoke/MethodHandle" ∧ y.cls ≠ "java/lang/invoke/VarHandle") ∧ (∀ sig, parseMethodDescriptor y.desc = some sig → n = sig.parameters.length) ∧ (Cond.methodLink own index y).before args s = true ∧ (Cond.static y).before args s = true
theorem z_cSW {hh : List (Nat × Nat × Nat × Nat)} (hN : zN s) (hc : Cond.codeWith y bytes maxL ret hh ∈ lw_ok) (hi : Cond.initialized y.cls ∈ lw_ok) (hl : Cond.methodLink own index y ∈ lw_ok) (hd : y.cls ≠ "java/lang/invoke/MethodHandle" ∧ y.cls ≠ "java/lang/invoke/VarHandle" ∧ (parseMethodDescriptor y.desc).map (fun d => d.parameters.length) = some n) (hrc : rm.cells = mc) (hrs : rm.slots = ms) (hR : rm.frames + 1 ≤ R.frames ∧ 8 + (maxL + 11) + rm.locals ≤ R.locals) (hm : Cond.static y ∈ lw_ok) : zCW R s args own index y bytes maxL ret hh rm mc ms n := by
  refine ⟨⟨hrc, hrs, hR.1, hR.2⟩, fun a' U hW => (hN.warm hW).use _ hc, fun a' U hW => (hN.warm hW).use _ hi, ⟨hd.1, hd.2.1⟩, fun sig h => ?_, hN.use _ hl, hN.use _ hm⟩
  have h2 := hd.2.2
  rw [h] at h2
  exact (Option.some.inj h2).symm
theorem z_runSW {Qc : Array Value → State → Outcome → State → Prop} {g : JFrame} {hh : List (Nat × Nat × Nat × Nat)} (F : CallFix p m c cc nL s args Ts own) (hM : Met l y [Cond.codeWith y bytes maxL ret hh] rm Pc Qc mc ms free) (cw : zCW R s args own index y bytes maxL ret hh rm mc ms n) (hp : PreS s H Pc As)
    (hg : g.method = m) (hn : As.length = n) (hsize : g.locals.size = nL) (hstack : g.stack = As.reverse ++ rest) (hW : 2 * g.monitorRoom + (rest.map fun v => v.category).sum ≤ 8) (hdg : decode cc g.pc = .ok (.invokestatic index, 3)) (hf : cells + mc ≤ R.cells ∧ slots + ms ≤ R.slots) :
    va_Run p l e R s m args below meth c H locs cells slots mc ms g rest (Qc As.toArray) (free) := by
  obtain ⟨⟨hrc, hrs, hfr, hlo⟩, hcode, hini, hy, hlen, hl, hstt⟩ := cw
  have hK : Back l R p e below s args y 3 8 (PreOf R mc ms Pc) (PostOf Qc mc ms free) := va_backW hM hp.1 hrc hrs hfr hlo (fun w hw a' U hW => by rw [List.mem_singleton.mp hw]; exact hcode a' U hW) (List.mem_singleton.mpr rfl) hini
  obtain ⟨hx, hb, hml, ho, -⟩ := F
  intro T hT X
  have hcode0 := hcode args s (State.WarmedH.refl s)
  have hini0 := hini args s (State.WarmedH.refl s)
  obtain ⟨mk, methM, cM, hnamed, hmethM, -, -, -, -, -, -, hsigM⟩ := Cond.codeWith_spec hcode0
  have hstatic : methM.isStatic = true := Cond.static_spec hnamed hmethM hstt
  obtain ⟨kP, hkP, -⟩ := className_of_methodNamed hnamed
  have hinitP : kP.init = .initialized := Cond.initialized_spec (findClass_of_methodNamed hnamed) hkP hini0
  obtain ⟨vm₁, X₁, hstep₁⟩ := X.invokestatic hx ho hl hnamed hmethM hstatic hkP hinitP hy (g := g) hg (argsL := As) (rest := rest) (hn.trans (hlen _ hsigM)) hstack (by rw [hb]; exact hdg)
  obtain ⟨v, ⟨U', l2, c2, s2⟩, X', ⟨g', mk', t, L, e1, e2, hq, h1, hL, h2, h3⟩, hsteps⟩ := hK m meth c ⟨T.setVm vm₁, locs, cells, slots⟩ { g with stack := rest } (.invokestatic index) mk As.toArray X₁ hg (hsize.trans hml.symm) (by rw [hb]; exact hdg) hW (X₁.named hnamed) ⟨hf.1, hf.2, hp.2 (T.setVm vm₁) hT X₁.warmed⟩
  dsimp only [Pt.U, Pt.locs, Pt.cells, Pt.slots] at X' e1 e2 h1 h2 h3 hsteps
  subst h1; subst h2; subst h3
  exact ⟨v, (T.setVm vm₁).calling g' mk' As.toArray, t, U', L, hT, X', hL, e1, e2, hq, fun target h => hstep₁ _ fun acts => by rw [doInvoke_state]; exact hsteps.trans h⟩
end ZX
/-- what the law's start says of two exceptions -/
theorem z_no {B0 U : State} (hG : zG B0) (h : zO B0 U) {X Y : String} (hm : Cond.not (.castable X Y) ∈ flatC (Jvm.Cond.and given_1 narrow_1)) : va_Nc X Y U := by
  obtain ⟨b, -, hn⟩ := hG
  exact (va_Nc.of (flat_of_before _ hn _ hm)).moved h.1.alike


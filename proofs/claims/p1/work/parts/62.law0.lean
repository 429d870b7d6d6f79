theorem d_Law_law_23 : decode b_Law_law 23 = .ok (.iload 4, 2) := by decide +kernel
theorem d_Law_law_25 : decode b_Law_law 25 = .ok (.aload_n 0, 1) := by decide +kernel
theorem d_Law_law_26 : decode b_Law_law 26 = .ok (.arraylength, 1) := by decide +kernel
theorem d_Law_law_27 : decode b_Law_law 27 = .ok (.bipush 8, 2) := by decide +kernel
theorem d_Law_law_29 : decode b_Law_law 29 = .ok (.isub, 1) := by decide +kernel
theorem d_Law_law_30 : decode b_Law_law 30 = .ok (.if_icmp .gt 1420, 3) := by decide +kernel
theorem d_Law_law_1444 : decode b_Law_law 1444 = .ok (.iinc 4 8, 3) := by decide +kernel
theorem d_Law_law_1447 : decode b_Law_law 1447 = .ok (.goto (-1424), 3) := by decide +kernel
theorem d_Law_law_1450 : decode b_Law_law 1450 = .ok (.iconst 1, 1) := by decide +kernel
theorem d_Law_law_1451 : decode b_Law_law 1451 = .ok (.ireturn, 1) := by decide +kernel
/-! THE CLAIM OUT OF ONE WALK OF THE LAW'S BODY. Your part is whole_start (and what it stands on); all else here is the same for every law, but numbers. -/
def R_law : String := "StreamSplitterLaw"
def lw_P (b : Addr) (xs : List Int32) (args : Array Value) (s : State) : Prop := args = #[.ref b] ∧ s.IntsAt b xs ∧ xs.length ≤ 8 ∧ (Jvm.Cond.and given_1 narrow_1).before args s = true
def lw_Q (_ : Array Value) (s : State) (o : Outcome) (t : State) : Prop := o = .returned (some (.int 1)) ∧ Framed s o t [] 600002 7302232
def lw_Z (below : List Frame) (a : Array Value) (s : State) : State → Prop := fun t => ∃ o, t.status = .running ∧ Ended t below o ∧ lw_Q a s o t
/-- the law's own end, with 1 on the stack, nothing written that was there before, its room as the claim has it -/
theorem lw_ret {p : Program} {l : Launch} {e : Env} {s : State} {m : MethodId} {below : List Frame} {meth : Method} {c : Code} {b : Nat} (hx : p.tables.exec = Jvm.exec) (hb : c.code = code) (hr : meth.sig.returnType = ret) (hlocks : meth.locks = false) {pc : Nat} {H : Heap} {ls : Array Slot} (hdg : decode code pc = .ok (.ireturn, 1)) : W p l e room_1 s m #[Value.ref b] below meth c H [] 600002 7302232 (lw_Z below #[Value.ref b] s) (F0 m pc ls [.int 1]) := by
  intro T hT X
  obtain ⟨fs, hret, hrun, hended, hW, hframe⟩ := X.leave (v := some (.int 1)) (hlocks := hlocks) (fun h => by rw [hr] at h; cases h)
  have hmeth' : T.vm.method? m = some meth := X.method'
  refine ⟨T.setFrames fs, ?_, .returned (some (.int 1)), hrun, hended, rfl, ⟨_, rfl⟩, hW, hframe⟩
  jvm_step X.here [X.here.top, hx, hb, hdg, hmeth', hr, ret, narrow_b1]
  (try refine ⟨rfl, ?_⟩); (try refine ⟨rfl, ?_⟩)
  first | (intro acts; rw [hret _ acts rfl rfl rfl]) | rw [hret _ _ rfl rfl rfl]
  exact Steps.refl _
/-- what holds at the law's entry: the machine, the code, the tables' words (any of lw_tbl by 'hts w (by decide +kernel)'), the script of L ints xs at the cell b, what the Statement gives of the start (any of its parts by flat_of_before) -/
def lw_At (p : Program) (s : State) (m : MethodId) (meth : Method) (c : Code) (b L : Nat) (xs : Nat → Int32) : Prop :=
  p.tables.exec = Jvm.exec ∧ c.code = code ∧ meth.sig.returnType = ret ∧ c.maxLocals = 8 ∧ s.vm.findClass R_law = some m.cls ∧ (∀ w ∈ lw_tbl, w.before #[Value.ref b] s = true) ∧ va_X b L xs s s.heap ∧ b < s.heap.size ∧ meth.locks = false ∧ (Jvm.Cond.and given_1 narrow_1).before #[Value.ref b] s = true

abbrev fw9 (cB cI cJ cZ cN cQ : ClassId) (e0 x9 m9 o9 : Nat) (v r : Nat → Nat) : va_W := [(x9, .inr (11, [.ref (v 8), .ref (v 9)])), (v 8, .inr (4, [.ref (v 0), .ref (v 2), .ref (v 4), .ref (v 6), .ref (v 7)])), (v 0, .inr (0, [.ref (v 1), .int (nI 0)])), (v 1, .inl (cB, 9400, .inl (fun _ => 0))), (v 2, .inr (2, [.ref (v 3)])), (v 3, .inl (cN, 256, .inr (.inr (.inr (.inr (fun _ => none)))))), (v 4, .inr (8, [.int (-1), .ref (v 5)])), (v 5, .inr (12, [.ref e0, .int 0, .int 0])), (v 6, .inl (cI, 10, .inl (fun _ => 0))), (v 7, .inl (cQ, 16, .inr (.inr (.inr (.inr (fun _ => none)))))), (v 9, .inr (12, [.ref e0, .int 0, .int 0])), (m9, .inr (13, mO r 0 0 0 (-1) 0 0 0 0)), (r 1, .inl (cI, 9400, .inl (fun _ => 0))), (r 3, .inl (cI, 10, .inl (fun _ => 0))), (r 4, .inl (cI, 8192, .inl (ini (-1) 8192))), (r 5, .inl (cZ, 8192, .inl (fun _ => 0))), (r 6, .inl (cJ, 8192, .inr (.inl (iniL (-1) 8192)))), (r 7, .inl (cI, 24, .inl (ini (-1) 24))), (r 8, .inl (cZ, 24, .inl (fun _ => 0))), (r 9, .inl (cI, 24576, .inl (fun _ => 0))), (r 10, .inl (cI, 24, .inl (fun _ => 0))), (r 11, .inl (cI, 24, .inl (fun _ => 0))), (r 12, .inl (cI, 24, .inl (fun _ => 0))), (r 13, .inl (cI, 24, .inl (fun _ => 0))), (r 14, .inl (cJ, 24, .inr (.inl (fun _ => 0)))), (r 15, .inl (cI, 1024, .inl (fun _ => 0))), (r 17, .inl (cI, 188, .inl (fun _ => 0))), (r 20, .inl (cI, 4, .inl (fun _ => 0))), (r 21, .inl (cI, 4, .inl (fun _ => 0))), (r 22, .inl (cI, 4, .inl (fun _ => 0))), (r 23, .inl (cI, 4, .inl (fun _ => 0))), (r 24, .inl (cI, 4, .inl (fun _ => 0))), (r 25, .inl (cZ, 4, .inl (fun _ => 0))), (r 26, .inl (cJ, 4, .inr (.inl (fun _ => 0)))), (r 27, .inl (cI, 4, .inl (fun _ => 0))), (r 28, .inl (cI, 16, .inl (fun _ => 0))), (r 29, .inl (cI, 16, .inl (fun _ => 0))), (r 30, .inl (cJ, 24, .inr (.inl (fun _ => 0)))), (r 31, .inl (cI, 24, .inl (fun _ => 0))), (r 32, .inl (cZ, 24, .inl (fun _ => 0))), (r 33, .inl (cJ, 24, .inr (.inl (fun _ => 0)))), (r 34, .inl (cI, 24, .inl (fun _ => 0))), (r 35, .inl (cZ, 4, .inl (fun _ => 0))), (r 36, .inl (cJ, 4, .inr (.inl (fun _ => 0)))), (r 37, .inl (cI, 16, .inl (fun _ => 0))), (r 38, .inl (cI, 16, .inl (fun _ => 0))), (r 39, .inl (cJ, 24, .inr (.inl (fun _ => 0)))), (r 40, .inl (cI, 24, .inl (fun _ => 0))), (r 41, .inl (cZ, 24, .inl (fun _ => 0))), (r 42, .inl (cJ, 24, .inr (.inl (fun _ => 0)))), (r 43, .inl (cJ, 80, .inr (.inl (fun _ => 0)))), (r 46, .inl (cI, 4, .inl (fun _ => 0))), (r 47, .inl (cI, 4, .inl (fun _ => 0))), (r 48, .inl (cI, 4, .inl (fun _ => 0))), (r 49, .inl (cI, 16, .inl (fun _ => 0))), (r 50, .inl (cI, 16, .inl (fun _ => 0))), (r 51, .inl (cI, 8192, .inl (fun _ => 0))), (r 52, .inl (cI, 4200, .inl (fun _ => 0))), (o9, .inl (cJ, 1, .inr (.inl (fun _ => 0))))]
theorem law_ret {p : Program} {e : Env} {s : State} {m : MethodId} {below : List Frame} {meth : Method} {cd : Code} (l : Launch) {b L : Nat} {xs : Nat → Int32} (C9 : lw_At p s m meth cd b L xs) {A : Nat → Prop} (hAO : ∀ q, A q → s.heap.size ≤ q) {H : Heap} {locs : List Loc} {ls : Array Slot} {cells slots : Nat} (hS : va_S A s.heap H locs) (hc : cells ≤ 600002) (hs : slots ≤ 7302232) : W p l e room_1 s m #[Value.ref b] below meth cd H locs cells slots (lw_Z below #[Value.ref b] s) (F0 m 1450 ls []) := by
  obtain ⟨hx, hb, hr, hml, hown, htl, hX, hbl, hlocks, hgv⟩ := C9
  refine lv_iconst (v := 1) hx hb d_Law_law_1450 (by decide) ?_
  refine W.widen (k := 600002) (n := 7302232) hc hs ?_
  intro T hT X
  exact lw_ret hx hb hr hlocks d_Law_law_1451 T hT (Stand.forget (locs := []) (extra := locs) X (fun y hy => hAO _ (hS.2.2 y hy)))
theorem law_end {p : Program} {e : Env} {s : State} {m : MethodId} {below : List Frame} {meth : Method} {cd : Code} (l : Launch) {b L : Nat} {xs : Nat → Int32} (C9 : lw_At p s m meth cd b L xs) {i0 : Nat} (hi : i0 + 8 ≤ L) (hL : L ≤ 8) {A : Nat → Prop} (hAO : ∀ q, A q → s.heap.size ≤ q) {H : Heap} {locs : List Loc} {ls : Array Slot} {cells slots : Nat} (hl : lv_has ls 8 [(4, .int (nI i0)), (0, .ref b)]) (hS : va_S A s.heap H locs) (hc : cells ≤ 600002) (hs : slots ≤ 7302232) : W p l e room_1 s m #[Value.ref b] below meth cd H locs cells slots (lw_Z below #[Value.ref b] s) (F0 m 1444 ls []) := by
  obtain ⟨hx, hb, hr, hml, hown, htl, hX, hbl, hlocks, hgv⟩ := id C9
  have hbA : ¬ A b := fun z => absurd (hAO b z) (Nat.not_le.mpr hbl)
  obtain rfl : i0 = 0 := by omega
  obtain rfl : L = 8 := by omega
  refine lv_iinc (k := 0) (v := 8) (lv' := [(4, .int 8), (0, .ref b)]) hx hb d_Law_law_1444 hl rfl (by decide) (by decide) rfl (fun ls hl => ?_)
  refine lv_goto (tgt := 23) hx hb d_Law_law_1447 rfl ?_
  refine lv_iload hx hb d_Law_law_23 (lv_at hl 0 rfl) ?_
  refine lv_aload_n hx hb d_Law_law_25 rfl (lv_at hl 1 rfl) ?_
  refine va_slen hx hb hX hbl hbA hS d_Law_law_26 ?_
  refine lv_bipush (v := 8) hx hb d_Law_law_27 (by decide) ?_
  refine lv_isub hx hb d_Law_law_29 ?_
  refine lv_icmp_gt (tgt := 1450) hx hb d_Law_law_30 rfl (fun _ => ?_) (fun h9 => absurd (by decide) h9)
  exact law_ret l C9 hAO hS hc hs


/-! Copying references within an array -/
section ZCQ
variable {p : Program} {l : Launch} {e : Env} {R : Room} {s : State} {m : MethodId} {args : Array Value} {below : List Frame} {meth : Method} {c : Code} {H : Heap} {locs : List Loc} {cells slots : Nat} {Q : State → Prop}
variable {cc : ByteArray} {pc : Nat} {ls : Array Slot} {rest : List Value} {D : va_G} {cl : List vw_C} {A : Nat → Prop} {a : Nat} {tys : List (ClassId × FieldType)} {ws : va_W} {H0 : Heap}
theorem z_copyq (hexec : p.tables.exec = Jvm.exec) (hb : c.code = cc) (hml : c.maxLocals = ls.size) {own : String} {index : Nat} (hown : s.vm.findClass own = some m.cls) (hlink : (Cond.methodLink own index arraycopyName).before args s = true) (hnat : (Cond.native arraycopyName).before args s = true) (hstat : (Cond.static arraycopyName).before args s = true) (hini : (Cond.initialized "java/lang/System").before args s = true)
    (hK : va_K D cl tys s) (hP : va_P D cl ws H) (hD : va_D A ws) (hS : va_S A H0 H locs) (q0 t0 : Nat) {cA : ClassId} {n : Nat} {f : Nat → Option Nat} {E1 C : String} (ha : ws[q0]? = some (a, .inl (cA, n, .inr (.inr (.inr (.inr f)))))) (ht : tys[t0]? = some (cA, .object E1)) {sp dp x : Int32} (a1 b1 c1 : Nat) (e1 : sp = nI a1) (e2 : dp = nI b1) (e3 : x = nI c1) (h4 : a1 + c1 ≤ n) (h5 : b1 + c1 ≤ n) (hn : n < 2 ^ 31)
    (hel : ∀ i : Nat, i < c1 → ∀ y : Nat, f (a1 + i) = some y → ∃ cellV : Cell, H[y]? = some cellV ∧ cellV.vm.isStatics = false ∧ s.vm.findClass C = some cellV.cls) (hca : va_Nw (.castable C E1) s)
    (hframes : 1 ≤ R.frames) (hlocals : (rest.map fun v => v.category).sum + 18 ≤ R.locals) (hdg : decode cc pc = .ok (.invokestatic index, 3))
    (kk : ∀ (H1 : Heap) (locs1 : List Loc), va_P D cl (ws.set q0 (a, .inl (cA, n, .inr (.inr (.inr (.inr (va_cpy f f a1 b1 c1))))))) H1 → va_D A (ws.set q0 (a, .inl (cA, n, .inr (.inr (.inr (.inr (va_cpy f f a1 b1 c1))))))) → va_S A H0 H1 locs1 → W p l e R s m args below meth c H1 locs1 cells slots Q (F0 m (pc + 3) ls rest)) : W p l e R s m args below meth c H locs cells slots Q (F0 m pc ls (.int x :: .int dp :: .ref a :: .int sp :: .ref a :: rest)) := by
  subst e1; subst e2; subst e3
  have k1 : (nI a1).toNatClampNeg = a1 := nI_clamp (by omega)
  have k2 : (nI b1).toNatClampNeg = b1 := nI_clamp (by omega)
  have k3 : (nI c1).toNatClampNeg = c1 := nI_clamp (by omega)
  refine va_copyq (C := C) hexec hb hml hown hlink hnat hstat hini hK hP hD hS q0 q0 t0 t0 ha ha ht ht (nI_pos (by omega)) (nI_pos (by omega)) (nI_pos (by omega)) (by rw [k1, k3]; exact h4) (by rw [k2, k3]; exact h5) (by rw [k1, k3]; exact hel) (fun comp c0 g1 g2 => ?_) hframes hlocals hdg ?_
  · obtain ⟨c9, t9, f1, f2, f3⟩ := Cond.castable_spec (va_Nw.use (A := args) rfl hca)
    cases g2.symm.trans f1
    cases g1.symm.trans f2
    exact f3
  · rw [k1, k2, k3]
    exact kk
end ZCQ
/-- the elements of a list are orders that lie there -/
def elO (Q : va_W) (g : Nat → Option Nat) (Wl : List (Nat × Int64 × Int32 × Int32 × Int64)) : Prop := ∀ j, j < Wl.length → g j = some (Wl.getD j (0, oz0)).1 ∧ ((Wl.getD j (0, oz0)).1, orE (Wl.getD j (0, oz0)).2) ∈ Q
def rmG (g : Nat → Option Nat) (k c : Nat) : Nat → Option Nat := va_up (if k < c - 1 then va_cpy g g (k + 1) k (c - 1 - k) else g) (c - 1) none
theorem el_rm {Q : va_W} {g : Nat → Option Nat} {Wl : List (Nat × Int64 × Int32 × Int32 × Int64)} {k : Nat} (h : elO Q g Wl) (hk : k < Wl.length) : elO Q (rmG g k Wl.length) (Wl.eraseIdx k) := by
  intro j hj
  rw [List.length_eraseIdx_of_lt hk] at hj
  have e1 : (Wl.eraseIdx k).getD j (0, oz0) = if j < k then Wl.getD j (0, oz0) else Wl.getD (j + 1) (0, oz0) := by
    rw [List.getD_eq_getElem?_getD, List.getElem?_eraseIdx]
    by_cases c : j < k
    · rw [if_pos c, if_pos c, List.getD_eq_getElem?_getD]
    · rw [if_neg c, if_neg c, List.getD_eq_getElem?_getD]
  have e2 : rmG g k Wl.length j = if j < k then g j else g (j + 1) := by
    unfold rmG
    rw [va_up_ne _ _ (by omega)]
    by_cases c1 : k < Wl.length - 1
    · rw [if_pos c1]
      unfold va_cpy
      by_cases c : j < k
      · rw [if_neg (by omega), if_pos c]
      · rw [if_pos (by omega), if_neg c]
        congr 1
        omega
    · rw [if_neg c1, if_pos (by omega)]
  rw [e1, e2]
  by_cases c : j < k
  · rw [if_pos c, if_pos c]; exact h j (by omega)
  · rw [if_neg c, if_neg c]; exact h (j + 1) (by omega)
theorem el_set {Q : va_W} {g : Nat → Option Nat} {Wl : List (Nat × Int64 × Int32 × Int32 × Int64)} {k : Nat} {o : Nat × Int64 × Int32 × Int32 × Int64} (h : elO Q g Wl) : elO ((o.1, orE o.2) :: Q) (va_up g k (some o.1)) (Wl.set k o) := by
  intro j hj
  rw [List.length_set] at hj
  rw [List.getD_eq_getElem?_getD, List.getElem?_set]
  by_cases c : k = j
  · subst c
    rw [if_pos rfl, if_pos hj, va_up_self]
    exact ⟨rfl, List.mem_cons_self⟩
  · rw [if_neg c, va_up_ne _ _ (fun q => c q.symm), ← List.getD_eq_getElem?_getD]
    exact ⟨(h j hj).1, List.mem_cons_of_mem _ (h j hj).2⟩
theorem el_add {Q : va_W} {g : Nat → Option Nat} {Wl : List (Nat × Int64 × Int32 × Int32 × Int64)} {o : Nat × Int64 × Int32 × Int32 × Int64} (h : elO Q g Wl) : elO ((o.1, orE o.2) :: Q) (va_up g Wl.length (some o.1)) (Wl ++ [o]) := by
  intro j hj
  rw [List.length_append, List.length_singleton] at hj
  by_cases c : j = Wl.length
  · subst c
    rw [va_up_self, List.getD_eq_getElem?_getD, List.getElem?_append_right (by omega), Nat.sub_self]
    exact ⟨rfl, List.mem_cons_self⟩
  · rw [va_up_ne _ _ c, List.getD_eq_getElem?_getD, List.getElem?_append_left (by omega), ← List.getD_eq_getElem?_getD]
    exact ⟨(h j (by omega)).1, List.mem_cons_of_mem _ (h j (by omega)).2⟩
theorem el_mono {Q Q2 : va_W} {g : Nat → Option Nat} {Wl : List (Nat × Int64 × Int32 × Int32 × Int64)} (h : elO Q g Wl) (hq : ∀ x ∈ Q, x ∈ Q2) : elO Q2 g Wl := fun j hj => ⟨(h j hj).1, hq _ (h j hj).2⟩
/-- an order is an object -/
theorem el_cell {D : va_G} {s : State} {H : Heap} {tys : List (ClassId × FieldType)} {X Q : va_W} {a : Nat} {o : Int64 × Int32 × Int32 × Int64} (hK : va_K D classes tys s) (hP : va_P D classes (X ++ Q) H) (h : (a, orE o) ∈ Q) : ∃ cellV : Cell, H[a]? = some cellV ∧ cellV.vm.isStatics = false ∧ s.vm.findClass R_Order = some cellV.cls := by
  obtain ⟨q0, hq0⟩ := List.getElem?_of_mem (List.mem_append_right X h)
  exact va_recv (ci := 6) (q0 := q0) hK hP rfl hq0


theorem wd_569 : (Jvm.Cond.methodLink "StreamSplitter$Tables" (79 : Nat) ({ cls := "StreamSplitter$Programme", name := "<init>", desc := "(II)V" } : Jvm.MethodName)) ∈ lw_ok := List.mem_filter.mpr ⟨List.mem_of_getElem? (i := 569) (by decide +kernel), rfl⟩
theorem wd_614 : (Jvm.Cond.methodLink "StreamSplitter$Tables" (82 : Nat) ({ cls := "StreamSplitter$Programme", name := "copied", desc := "()LStreamSplitter$Programme;" } : Jvm.MethodName)) ∈ lw_ok := List.mem_filter.mpr ⟨List.mem_of_getElem? (i := 614) (by decide +kernel), rfl⟩
theorem wd_615 : (Jvm.Cond.instanceMethod ({ cls := "StreamSplitter$Programme", name := "copied", desc := "()LStreamSplitter$Programme;" } : Jvm.MethodName)) ∈ lw_ok := List.mem_filter.mpr ⟨List.mem_of_getElem? (i := 615) (by decide +kernel), rfl⟩
theorem wd_616 : (Jvm.Cond.selects "StreamSplitter$Programme" ({ cls := "StreamSplitter$Programme", name := "copied", desc := "()LStreamSplitter$Programme;" } : Jvm.MethodName) ({ cls := "StreamSplitter$Programme", name := "copied", desc := "()LStreamSplitter$Programme;" } : Jvm.MethodName)) ∈ lw_ok := List.mem_filter.mpr ⟨List.mem_of_getElem? (i := 616) (by decide +kernel), rfl⟩
set_option maxRecDepth 100000 in
theorem wd_617 : (Jvm.Cond.code ({ cls := "StreamSplitter$Programme", name := "copied", desc := "()LStreamSplitter$Programme;" } : Jvm.MethodName) prog_7_method_2_code (3 : Nat) (Option.some (Jvm.ClassFile.FieldType.object "StreamSplitter$Programme"))) ∈ lw_ok := List.mem_filter.mpr ⟨List.mem_of_getElem? (i := 617) (by rfl), rfl⟩
theorem wd_1501 : (Jvm.Cond.castable "StreamSplitter$Programme" "java/lang/Object") ∈ lw_ok := List.mem_filter.mpr ⟨List.mem_of_getElem? (i := 1501) (by decide +kernel), rfl⟩
theorem hd_Programme_copied : y_Programme_copied.cls ≠ "java/lang/invoke/MethodHandle" ∧ y_Programme_copied.cls ≠ "java/lang/invoke/VarHandle" ∧ (parseMethodDescriptor y_Programme_copied.desc).map (fun d => d.parameters.length) = some 0 := by decide +kernel
theorem d_Tables_useList_0 : decode b_Tables_useList 0 = .ok (.aload_n 1, 1) := by decide +kernel
theorem d_Tables_useList_1 : decode b_Tables_useList 1 = .ok (.invokestatic 65, 3) := by decide +kernel
theorem d_Tables_useList_4 : decode b_Tables_useList 4 = .ok (.istore_n 2, 1) := by decide +kernel
theorem d_Tables_useList_5 : decode b_Tables_useList 5 = .ok (.aload_n 1, 1) := by decide +kernel
theorem d_Tables_useList_6 : decode b_Tables_useList 6 = .ok (.iconst 0, 1) := by decide +kernel
theorem d_Tables_useList_7 : decode b_Tables_useList 7 = .ok (.invokestatic 69, 3) := by decide +kernel
theorem d_Tables_useList_10 : decode b_Tables_useList 10 = .ok (.ifCond .eq 20, 3) := by decide +kernel
theorem d_Tables_useList_13 : decode b_Tables_useList 13 = .ok (.iload_n 2, 1) := by decide +kernel
theorem d_Tables_useList_14 : decode b_Tables_useList 14 = .ok (.aload_n 0, 1) := by decide +kernel
theorem d_Tables_useList_15 : decode b_Tables_useList 15 = .ok (.getfield 9, 3) := by decide +kernel
theorem d_Tables_useList_18 : decode b_Tables_useList 18 = .ok (.if_icmp .eq 12, 3) := by decide +kernel
theorem d_Tables_useList_21 : decode b_Tables_useList 21 = .ok (.aload_n 1, 1) := by decide +kernel
theorem d_Tables_useList_22 : decode b_Tables_useList 22 = .ok (.getfield 73, 3) := by decide +kernel
theorem d_Tables_useList_25 : decode b_Tables_useList 25 = .ok (.iconst 4, 1) := by decide +kernel
theorem d_Tables_useList_26 : decode b_Tables_useList 26 = .ok (.irem, 1) := by decide +kernel
theorem d_Tables_useList_27 : decode b_Tables_useList 27 = .ok (.ifCond .eq 5, 3) := by decide +kernel
theorem d_Tables_useList_30 : decode b_Tables_useList 30 = .ok (.iconst 0, 1) := by decide +kernel
theorem d_Tables_useList_31 : decode b_Tables_useList 31 = .ok (.ireturn, 1) := by decide +kernel
theorem d_Tables_useList_32 : decode b_Tables_useList 32 = .ok (.new 15, 3) := by decide +kernel
theorem d_Tables_useList_35 : decode b_Tables_useList 35 = .ok (.dup, 1) := by decide +kernel
theorem d_Tables_useList_36 : decode b_Tables_useList 36 = .ok (.invokespecial 17, 3) := by decide +kernel
theorem d_Tables_useList_39 : decode b_Tables_useList 39 = .ok (.astore_n 3, 1) := by decide +kernel
theorem d_Tables_useList_40 : decode b_Tables_useList 40 = .ok (.bipush 8, 2) := by decide +kernel
theorem d_Tables_useList_42 : decode b_Tables_useList 42 = .ok (.istore 4, 2) := by decide +kernel
theorem d_Tables_useList_44 : decode b_Tables_useList 44 = .ok (.iload 4, 2) := by decide +kernel
theorem d_Tables_useList_46 : decode b_Tables_useList 46 = .ok (.aload_n 1, 1) := by decide +kernel
theorem d_Tables_useList_47 : decode b_Tables_useList 47 = .ok (.getfield 73, 3) := by decide +kernel
theorem d_Tables_useList_50 : decode b_Tables_useList 50 = .ok (.if_icmp .ge 92, 3) := by decide +kernel
theorem d_Tables_useList_53 : decode b_Tables_useList 53 = .ok (.aload_n 3, 1) := by decide +kernel
theorem d_Tables_useList_54 : decode b_Tables_useList 54 = .ok (.invokevirtual 22, 3) := by decide +kernel
theorem d_Tables_useList_57 : decode b_Tables_useList 57 = .ok (.iconst 4, 1) := by decide +kernel
theorem d_Tables_useList_58 : decode b_Tables_useList 58 = .ok (.if_icmp .ge 84, 3) := by decide +kernel
theorem d_Tables_useList_61 : decode b_Tables_useList 61 = .ok (.aload_n 1, 1) := by decide +kernel
theorem d_Tables_useList_62 : decode b_Tables_useList 62 = .ok (.bipush 8, 2) := by decide +kernel
theorem d_Tables_useList_64 : decode b_Tables_useList 64 = .ok (.iload 4, 2) := by decide +kernel
theorem d_Tables_useList_66 : decode b_Tables_useList 66 = .ok (.imul, 1) := by decide +kernel
theorem d_Tables_useList_67 : decode b_Tables_useList 67 = .ok (.bipush 16, 2) := by decide +kernel
theorem d_Tables_useList_69 : decode b_Tables_useList 69 = .ok (.invokevirtual 61, 3) := by decide +kernel
theorem d_Tables_useList_72 : decode b_Tables_useList 72 = .ok (.l2i, 1) := by decide +kernel
theorem d_Tables_useList_73 : decode b_Tables_useList 73 = .ok (.istore 5, 2) := by decide +kernel
theorem d_Tables_useList_75 : decode b_Tables_useList 75 = .ok (.aload_n 1, 1) := by decide +kernel
theorem d_Tables_useList_76 : decode b_Tables_useList 76 = .ok (.bipush 8, 2) := by decide +kernel
theorem d_Tables_useList_78 : decode b_Tables_useList 78 = .ok (.iload 4, 2) := by decide +kernel
theorem d_Tables_useList_80 : decode b_Tables_useList 80 = .ok (.imul, 1) := by decide +kernel
theorem d_Tables_useList_81 : decode b_Tables_useList 81 = .ok (.bipush 19, 2) := by decide +kernel
theorem d_Tables_useList_83 : decode b_Tables_useList 83 = .ok (.iadd, 1) := by decide +kernel
theorem d_Tables_useList_84 : decode b_Tables_useList 84 = .ok (.bipush 13, 2) := by decide +kernel
theorem d_Tables_useList_86 : decode b_Tables_useList 86 = .ok (.invokevirtual 61, 3) := by decide +kernel
theorem d_Tables_useList_89 : decode b_Tables_useList 89 = .ok (.l2i, 1) := by decide +kernel
theorem d_Tables_useList_90 : decode b_Tables_useList 90 = .ok (.istore 6, 2) := by decide +kernel
theorem d_Tables_useList_92 : decode b_Tables_useList 92 = .ok (.iload 5, 2) := by decide +kernel
theorem d_Tables_useList_94 : decode b_Tables_useList 94 = .ok (.ifCond .eq 42, 3) := by decide +kernel
theorem d_Tables_useList_97 : decode b_Tables_useList 97 = .ok (.aload_n 0, 1) := by decide +kernel
theorem d_Tables_useList_98 : decode b_Tables_useList 98 = .ok (.iload 5, 2) := by decide +kernel
theorem d_Tables_useList_100 : decode b_Tables_useList 100 = .ok (.iload 6, 2) := by decide +kernel
theorem d_Tables_useList_102 : decode b_Tables_useList 102 = .ok (.invokevirtual 75, 3) := by decide +kernel
theorem d_Tables_useList_105 : decode b_Tables_useList 105 = .ok (.astore 7, 2) := by decide +kernel
theorem d_Tables_useList_107 : decode b_Tables_useList 107 = .ok (.aload_n 3, 1) := by decide +kernel
theorem d_Tables_useList_108 : decode b_Tables_useList 108 = .ok (.aload 7, 2) := by decide +kernel
theorem d_Tables_useList_110 : decode b_Tables_useList 110 = .ok (.ifnonnull 17, 3) := by decide +kernel
theorem d_Tables_useList_113 : decode b_Tables_useList 113 = .ok (.new 30, 3) := by decide +kernel
theorem d_Tables_useList_116 : decode b_Tables_useList 116 = .ok (.dup, 1) := by decide +kernel
theorem d_Tables_useList_117 : decode b_Tables_useList 117 = .ok (.iload 5, 2) := by decide +kernel
theorem d_Tables_useList_119 : decode b_Tables_useList 119 = .ok (.iload 6, 2) := by decide +kernel
theorem d_Tables_useList_121 : decode b_Tables_useList 121 = .ok (.invokespecial 79, 3) := by decide +kernel
theorem d_Tables_useList_124 : decode b_Tables_useList 124 = .ok (.goto 8, 3) := by decide +kernel
theorem d_Tables_useList_127 : decode b_Tables_useList 127 = .ok (.aload 7, 2) := by decide +kernel
theorem d_Tables_useList_129 : decode b_Tables_useList 129 = .ok (.invokevirtual 82, 3) := by decide +kernel
theorem d_Tables_useList_132 : decode b_Tables_useList 132 = .ok (.invokevirtual 86, 3) := by decide +kernel
theorem d_Tables_useList_135 : decode b_Tables_useList 135 = .ok (.pop, 1) := by decide +kernel
theorem d_Tables_useList_136 : decode b_Tables_useList 136 = .ok (.iinc 4 4, 3) := by decide +kernel
theorem d_Tables_useList_139 : decode b_Tables_useList 139 = .ok (.goto (-95), 3) := by decide +kernel
theorem d_Tables_useList_142 : decode b_Tables_useList 142 = .ok (.aload_n 0, 1) := by decide +kernel
theorem d_Tables_useList_143 : decode b_Tables_useList 143 = .ok (.aload_n 3, 1) := by decide +kernel
theorem d_Tables_useList_144 : decode b_Tables_useList 144 = .ok (.putfield 18, 3) := by decide +kernel
theorem d_Tables_useList_147 : decode b_Tables_useList 147 = .ok (.aload_n 0, 1) := by decide +kernel
theorem d_Tables_useList_148 : decode b_Tables_useList 148 = .ok (.iload_n 2, 1) := by decide +kernel
theorem d_Tables_useList_149 : decode b_Tables_useList 149 = .ok (.putfield 9, 3) := by decide +kernel
theorem d_Tables_useList_152 : decode b_Tables_useList 152 = .ok (.iconst 1, 1) := by decide +kernel
theorem d_Tables_useList_153 : decode b_Tables_useList 153 = .ok (.ireturn, 1) := by decide +kernel
/-! A list comes into force -/
abbrev PV9 : Type := Int32 × Nat × Int32 × Int32 × Int32 × Int64 × List (Int32 × Nat) × List (Int64 × Int32 × Int32 × Int64)
/-- a programme without its places -/
def pv9 (x : PR9) : PV9 := (x.1.2.1, x.1.2.2.1, x.1.2.2.2.1, x.1.2.2.2.2.1, x.1.2.2.2.2.2.2.1, x.1.2.2.2.2.2.2.2.1, x.2.1, x.2.2.1.map (fun y => y.2))
def nwX (q a b : Nat) (nu : Int32) (pid : Nat) : PR9 := ((q, nu, pid, -1, -1, a, 0, -1, b), [], [], 0, none)
def cpX (r wa : Nat) (x : PR9) (mo : Int32) (wst : Option (Nat × (Nat → Option Nat))) : PR9 := ((r, x.1.2.1, x.1.2.2.1, x.1.2.2.2.1, x.1.2.2.2.2.1, x.1.2.2.2.2.2.1, x.1.2.2.2.2.2.2.1, x.1.2.2.2.2.2.2.2.1, wa), x.2.1, x.2.2.1, mo, wst)
def awk (P : List PR9) : Prop := ∀ x ∈ P, x.1.2.2.2.2.2.2.1 = 0 ∨ x.1.2.2.2.2.2.2.1 = 1
def nwV (nu : Int32) (pid : Nat) : PV9 := (nu, pid, -1, -1, 0, -1, [], [])
def liE (f : Nat → Int32) (n : Nat) (V : List PV9) (i : Nat) : PV9 := (V.find? (fun v => decide (v.1 = nI (bN f n 1024 (8 * i) 16) ∧ v.2.1 = bN f n 1024 (8 * i + 19) 13))).getD (nwV (nI (bN f n 1024 (8 * i) 16)) (bN f n 1024 (8 * i + 19) 13))
def liL (f : Nat → Int32) (n : Nat) (V : List PV9) : Nat → Nat → Nat → List PV9
  | 0, _, _ => []
  | m + 1, i, k => if n ≤ i ∨ 4 ≤ k then [] else if bN f n 1024 (8 * i) 16 = 0 then liL f n V m (i + 4) k else liE f n V i :: liL f n V m (i + 4) (k + 1)
def liM (n : Nat) : Nat := min 4 ((n - 8) / 4)
def llC (n : Nat) : Nat := 2 + 4 * liM n
def llS (n : Nat) : Nat := 13 + 24 * liM n
abbrev LU9 : Type := Int32 × Nat × Int32 × Option (Nat × (Nat → Option Nat)) × List PR9 × va_W
def ulC (f : Nat → Int32) (n : Nat) (lv : Int32) : Prop := itP f n 0 ∧ ¬ vrV f n = lv ∧ n % 4 = 0
def ulP (f : Nat → Int32) (n : Nat) (lv : Int32) (pr : Nat) (pmo : Int32) (pst : Option (Nat × (Nat → Option Nat))) (P : List PR9) (r : Int32) (u : LU9) : Prop := (r = 0 ∧ ¬ ulC f n lv ∧ u = (lv, pr, pmo, pst, P, [])) ∨ (r = 1 ∧ ulC f n lv ∧ u.1 = vrV f n ∧ u.2.2.2.2.1.map pv9 = liL f n (P.map pv9) 255 8 0)
theorem fnd_1 {α : Type} {p : α → Bool} : ∀ {V : List α} {j : Nat} (h : j < V.length), p V[j] = true → (∀ i (hi : i < j), p (V[i]'(by omega)) = false) → V.find? p = some V[j]
  | [], _, h, _, _ => absurd h (Nat.not_lt_zero _)
  | v :: V, 0, _, hp, _ => List.find?_cons_of_pos hp
  | v :: V, j + 1, h, hp, hf => by
    have h0 := hf 0 (Nat.succ_pos _)
    rw [List.find?_cons_of_neg (by rw [show p v = false from h0]; exact Bool.false_ne_true)]
    exact fnd_1 (V := V) (j := j) (by simpa using h) hp (fun i hi => hf (i + 1) (Nat.succ_lt_succ hi))
theorem pv_get {P : List PR9} {j : Nat} (h : j < P.length) : P.getD j pr9 = P[j] := by
  rw [List.getD_eq_getElem?_getD, List.getElem?_eq_getElem h]
  rfl
theorem li_old {f : Nat → Int32} {n i j : Nat} {P : List PR9} (hf : fst9 P (nI (bN f n 1024 (8 * i) 16)) (bN f n 1024 (8 * i + 19) 13) j) : liE f n (P.map pv9) i = pv9 (P.getD j pr9) := by
  obtain ⟨hj, h1, h2⟩ := hf
  unfold liE
  rw [pv_get hj] at *
  rw [fnd_1 (j := j) (by rw [List.length_map]; exact hj) (by rw [List.getElem_map]; exact decide_eq_true h1) (fun k hk => by
    rw [List.getElem_map]
    have h3 := h2 k hk
    rw [pv_get (by omega)] at h3
    exact decide_eq_false h3)]
  rw [List.getElem_map]
  rfl
theorem li_new {f : Nat → Int32} {n i : Nat} {P : List PR9} (h : ∀ j, j < P.length → ¬ isNP (P.getD j pr9).1 (nI (bN f n 1024 (8 * i) 16)) (bN f n 1024 (8 * i + 19) 13)) : liE f n (P.map pv9) i = nwV (nI (bN f n 1024 (8 * i) 16)) (bN f n 1024 (8 * i + 19) 13) := by
  unfold liE
  rw [List.find?_eq_none.mpr (fun v hv => ?_)]
  · rfl
  · obtain ⟨x, hx, rfl⟩ := List.mem_map.mp hv
    obtain ⟨j, hj, rfl⟩ := List.getElem_of_mem hx
    have h3 := h j hj
    rw [pv_get hj] at h3
    rw [decide_eq_false (show ¬ ((pv9 P[j]).1 = nI (bN f n 1024 (8 * i) 16) ∧ (pv9 P[j]).2.1 = bN f n 1024 (8 * i + 19) 13) from h3)]
    exact Bool.false_ne_true
theorem li_skip {f : Nat → Int32} {n fu i k : Nat} {V L : List PV9} (h : L ++ liL f n V fu i k = liL f n V 255 8 0) (hi : i < n) (hk : k < 4) (hf : 0 < fu) (h0 : bN f n 1024 (8 * i) 16 = 0) : L ++ liL f n V (fu - 1) (i + 4) k = liL f n V 255 8 0 := by
  obtain ⟨fu, rfl⟩ : ∃ w, fu = w + 1 := ⟨fu - 1, by omega⟩
  rw [liL, if_neg (by omega), if_pos h0] at h
  exact h
theorem li_step {f : Nat → Int32} {n fu i : Nat} {V : List PV9} {N9 : List PR9} {x : PR9} (h : N9.map pv9 ++ liL f n V fu i N9.length = liL f n V 255 8 0) (hi : i < n) (hk : N9.length < 4) (hf : 0 < fu) (h0 : ¬ bN f n 1024 (8 * i) 16 = 0) (hx : liE f n V i = pv9 x) : (N9 ++ [x]).map pv9 ++ liL f n V (fu - 1) (i + 4) (N9 ++ [x]).length = liL f n V 255 8 0 := by
  obtain ⟨fu, rfl⟩ : ∃ w, fu = w + 1 := ⟨fu - 1, by omega⟩
  rw [liL, if_neg (by omega), if_neg h0, hx] at h
  rw [← h, List.map_append, List.append_assoc, List.length_append, List.length_singleton]
  rfl
theorem li_end {f : Nat → Int32} {n fu i k : Nat} {V L : List PV9} (h : L ++ liL f n V fu i k = liL f n V 255 8 0) (he : n ≤ i ∨ 4 ≤ k) : L = liL f n V 255 8 0 := by
  rw [← h]
  cases fu with
  | zero => exact (List.append_nil _).symm
  | succ w => rw [liL, if_pos he, List.append_nil]
theorem isT_mono {WS W2 : va_W} {cO : ClassId} {tb pr : Nat} {lv : Int32} {P : List (PZ × List (Int32 × Nat))} (h : isT WS cO tb pr lv P) (hq : ∀ y ∈ WS, y ∈ W2) : isT W2 cO tb pr lv P := by
  obtain ⟨h0, b, mo, g, ⟨h1, h2, h3⟩, h4⟩ := h
  exact ⟨hq _ h0, b, mo, g, ⟨hq _ h1, h2, h3.imp id (hq _)⟩, fun j hj => ⟨(h4 j hj).1, hq _ (h4 j hj).2.1, (h4 j hj).2.2.1, isS_mono (h4 j hj).2.2.2 hq⟩⟩
theorem isW_mono {WS W2 : va_W} {cO : ClassId} {wa : Nat} {Wl : WL9} (h : isW WS cO wa Wl) (hq : ∀ y ∈ WS, y ∈ W2) : isW W2 cO wa Wl := by
  obtain ⟨b, mo, g, ⟨h1, h2, h3⟩, h4⟩ := h
  exact ⟨b, mo, g, ⟨hq _ h1, h2, h3.imp id (hq _)⟩, fun j hj => ⟨(h4 j hj).1, hq _ (h4 j hj).2⟩⟩
theorem tok_app {Q Q2 : va_W} {cO : ClassId} {g : Nat → Option Nat} {N9 : List PR9} {b : Nat} {x : PR9} (h4 : N9.length < 4) (hg : ∀ j, j < N9.length → g j = some (N9.getD j pr9).1.1) (hp : ∀ y ∈ N9, pok Q cO y) (hq : ∀ y ∈ Q, y ∈ Q2) (hx : pok Q2 cO x) : tok Q2 cO (some (b, va_up g N9.length (some x.1.1))) (N9 ++ [x]) := by
  refine ⟨by rw [List.length_append, List.length_singleton]; omega, fun j hj => ?_, fun y hy => ?_⟩
  · rw [List.length_append, List.length_singleton] at hj
    by_cases c : j = N9.length
    · subst c
      show va_up g N9.length (some x.1.1) N9.length = _
      rw [va_up_self, List.getD_eq_getElem?_getD, List.getElem?_append_right (by omega), Nat.sub_self]
      rfl
    · show va_up g N9.length (some x.1.1) j = _
      rw [va_up_ne _ _ c, hg j (by omega), List.getD_eq_getElem?_getD (l := N9 ++ [x]), List.getElem?_append_left (by omega), ← List.getD_eq_getElem?_getD]
  · rcases List.mem_append.mp hy with q | q
    · exact pok_mono (hp y q) hq
    · rw [List.mem_singleton.mp q]; exact hx
theorem awk_app {N9 : List PR9} {x : PR9} (h : awk N9) (hx : x.1.2.2.2.2.2.2.1 = 0 ∨ x.1.2.2.2.2.2.2.1 = 1) : awk (N9 ++ [x]) := by
  intro y hy
  rcases List.mem_append.mp hy with q | q
  · exact h y q
  · rw [List.mem_singleton.mp q]; exact hx
theorem li_perm {X ex R s1 : va_W} {cO : ClassId} {e0 q : Nat} {mo : Int32} {lst : Option (Nat × (Nat → Option Nat))} {N9 : List PR9} {x : PR9} : (X ++ (wlc cO e0 q (N9.length + 1) mo lst ++ (pgc cO e0 x ++ (s1 ++ (N9.flatMap (pgc cO e0) ++ (ex ++ R)))))).Perm (X ++ (wlc cO e0 q (N9 ++ [x]).length mo lst ++ ((N9 ++ [x]).flatMap (pgc cO e0) ++ ((s1 ++ ex) ++ R)))) := by
  rw [List.length_append, List.length_singleton, List.flatMap_append, List.flatMap_singleton, List.append_assoc s1 ex R, List.append_assoc (N9.flatMap (pgc cO e0))]
  refine List.Perm.append_left X (List.Perm.append_left _ ?_)
  refine (List.Perm.append_left _ (List.perm_append_comm_assoc _ _ _)).trans ?_
  exact List.perm_append_comm_assoc _ _ _
theorem li_out {X L N9 ex T Q : va_W} {c : Nat × va_E} : (X ++ (L ++ (N9 ++ (ex ++ ((c :: T) ++ Q))))).Perm ((X ++ [c]) ++ (L ++ (N9 ++ (ex ++ (T ++ Q))))) := by
  rw [List.append_assoc X]
  refine List.Perm.append_left X ?_
  have h := List.perm_middle (l₁ := L ++ (N9 ++ ex)) (a := c) (l₂ := T ++ Q)
  rw [List.append_assoc, List.append_assoc, List.append_assoc, List.append_assoc] at h
  exact h
theorem li_in {X L N9 ex T Q : va_W} {c : Nat × va_E} : ((X ++ [c]) ++ (L ++ (N9 ++ (ex ++ (T ++ Q))))).Perm (X ++ ((c :: (L ++ N9)) ++ ((ex ++ T) ++ Q))) := by
  refine List.Perm.of_eq ?_
  simp [List.append_assoc]
theorem li_nw {Q ex : va_W} {cO : ClassId} {e0 q a b pid : Nat} {nu : Int32} (hp : pid < 8192) : pok (((a, alE e0 0 0) :: ex) ++ Q) cO (nwX q a b nu pid) :=
  ⟨hp, ⟨e0, 0, fun _ => none, ⟨List.mem_append_left _ List.mem_cons_self, by show 0 ≤ _; omega, Or.inl rfl⟩, fun j hj => absurd hj (Nat.not_lt_zero j)⟩, rfl, by show 0 ≤ 6; omega, fun j hj => absurd hj (Nat.not_lt_zero j)⟩
theorem li_cp {Im ex WS : va_W} {cO : ClassId} {r wa : Nat} {x : PR9} {mo : Int32} {wst : Option (Nat × (Nat → Option Nat))} (hx : pok Im cO x) (hw : wok WS wst x.2.2.1) : pok (ex ++ Im) cO (cpX r wa x mo wst) :=
  ⟨hx.1, isS_mono hx.2.1 (fun y hy => List.mem_append_right _ hy), wok_fix hw (fun y hy => List.mem_append_right _ (wok_in hx.2.2.1 y hy)), hx.2.2.2⟩

set_option maxHeartbeats 16000000 in
set_option maxRecDepth 100000 in
theorem c_Tables_useList (l : Launch) (D : va_G) (B0 : State) (hG : zG B0) (sz : Nat) (cB : ClassId) (h a n : Nat) (f : Nat → Int32) (cO : ClassId) (e0 tb pr : Nat) (lv pmo : Int32) (pst : Option (Nat × (Nat → Option Nat))) (P : List PR9) (Q : va_W) (Im : va_W) (hn : n ≤ 1024) (he0 : zE0 B0 e0) (htk : tok Im cO pst P) (hIm : ∀ y ∈ Im, y ∈ Q) (haw : awk P) : Met l y_Tables_useList [Cond.code y_Tables_useList b_Tables_useList 8 (some .boolean)] ({ frames := 6, cells := llC n, slots := llS n, locals := 123 }) (zMo [.ref tb, .ref h] D ([(h, .inr (0, [.ref a, .int (nI n)])), (a, .inl (cB, 1024, .inl f))] ++ (tplr cO e0 tb lv pr P.length pmo pst P ++ Q)) [(cB, .byte), (cO, .object "java/lang/Object")] sz B0) (va_Qi (fun r (u : LU9) => ulP f n lv pr pmo pst P r u ∧ tok (u.2.2.2.2.2 ++ Im) cO u.2.2.2.1 u.2.2.2.2.1 ∧ awk u.2.2.2.2.1) (fun (u : LU9) t => zW D (va_A ([(h, .inr (0, [.ref a, .int (nI n)])), (a, .inl (cB, 1024, .inl f))] ++ (tplr cO e0 tb lv pr P.length pmo pst P ++ Q)) sz) ([(h, .inr (0, [.ref a, .int (nI n)])), (a, .inl (cB, 1024, .inl f))] ++ (tplr cO e0 tb u.1 u.2.1 u.2.2.2.2.1.length u.2.2.1 u.2.2.2.1 u.2.2.2.2.1 ++ (u.2.2.2.2.2 ++ Q))) [(cB, .byte), (cO, .object "java/lang/Object")] t) (va_A ([(h, .inr (0, [.ref a, .int (nI n)])), (a, .inl (cB, 1024, .inl f))] ++ (tplr cO e0 tb lv pr P.length pmo pst P ++ Q)) sz)) (llC n) (llS n) (va_A ([(h, .inr (0, [.ref a, .int (nI n)])), (a, .inl (cB, 1024, .inl f))] ++ (tplr cO e0 tb lv pr P.length pmo pst P ++ Q)) sz) := by
  refine Met.ofW (cc := b_Tables_useList) (maxL := 8) (ret := (some .boolean)) (by decide) rfl ?_
  intro p e s m args below meth cd s₁ Bd hml hv
  obtain ⟨rfl, hsz, hP, hK, hN, hD0, hO⟩ := hv
  have hx := Bd.exec
  have hb := Bd.bytes
  have hr := Bd.returns
  have hts := hN.use (a := ([.ref tb, .ref h]).toArray)
  have hown : s.vm.findClass R_Tables = some m.cls := findClass_of_methodNamed Bd.named
  have hlocks := Bd.notSynchronized
  subst hsz
  have hD := hD0.self (sz := s.heap.size)
  have hAO := z_AO hD0 hO
  clear hD0
  have hA : ∀ q : Nat, s.heap.size ≤ q → va_A ([(h, .inr (0, [.ref a, .int (nI n)])), (a, .inl (cB, 1024, .inl f))] ++ (tplr cO e0 tb lv pr P.length pmo pst P ++ Q)) s.heap.size q := fun q h => Or.inr h
  have hS : va_S (va_A ([(h, .inr (0, [.ref a, .int (nI n)])), (a, .inl (cB, 1024, .inl f))] ++ (tplr cO e0 tb lv pr P.length pmo pst P ++ Q)) s.heap.size) s.heap s.heap [] := va_S.rf
  generalize hAe : va_A ([(h, .inr (0, [.ref a, .int (nI n)])), (a, .inl (cB, 1024, .inl f))] ++ (tplr cO e0 tb lv pr P.length pmo pst P ++ Q)) s.heap.size = A at hD hA hS hAO ⊢
  have hP : va_P D classes ([(h, .inr (0, [.ref a, .int (nI n)])), (a, .inl (cB, 1024, .inl f))] ++ (tplr cO e0 tb lv pr P.length pmo pst P ++ Q)) s.heap := hP
  have hl := lv_entry ([.ref tb, .ref h]) (n := 8) (Nat.le_of_ble_eq_true rfl)
  rw [lg_entry_eq]
  generalize (lg_sl ([.ref tb, .ref h]) ++ List.replicate (8 - (lg_sl ([.ref tb, .ref h])).length) Slot.unset).toArray = ls at hl ⊢
  have hl : lv_has ls 8 [(0, .ref tb), (1, .ref h)] := hl
  have hC9 : llC n = 2 + 4 * liM n := rfl
  have hS9 : llS n = 13 + 24 * liM n := rfl
  refine lv_aload_n hx hb d_Tables_useList_0 rfl (lv_at hl 1 rfl) ?_
  have hPc := hP.sub (ws' := [(h, .inr (0, [.ref a, .int (nI n)])), (a, .inl (cB, 1024, .inl f))]) [0, 1] rfl
  have hKc := hK.sub (tys' := [(cB, .byte)]) [0] rfl
  refine z_ci (va_runS (As := [.ref h]) (rest := []) ⟨hx, hb, hml, hown, hts⟩ (c_Tables_versionOf l D cB h a n 1024 f (by omega)) (z_cS hN wd_555 wd_63 wd_553 hd_Tables_versionOf rfl rfl ⟨Nat.le_of_ble_eq_true rfl, Nat.le_of_ble_eq_true rfl⟩ wd_554) (z_preS hPc hKc hN) rfl rfl hl.1 rfl (lv_room (Nat.le_of_ble_eq_true rfl)) d_Tables_useList_1 ⟨by show 0 + 0 ≤ llC n; omega, by show 0 + 0 ≤ llS n; omega⟩) (fun r1 e1 => ?_)
  refine z_topi (w := ((rw_at f n 1024 5) >>> ((1 : Int32) &&& 31)) &&& 31) e1 ?_
  refine z_topi (w := vrV f n) rfl ?_
  refine lv_istore_n (lv' := [(2, .int (vrV f n)), (0, .ref tb), (1, .ref h)]) hx hb d_Tables_useList_4 rfl hl (by decide) rfl (fun ls hl => ?_)
  refine lv_aload_n hx hb d_Tables_useList_5 rfl (lv_at hl 2 rfl) ?_
  refine lv_iconst (v := 0) hx hb d_Tables_useList_6 (by decide) ?_
  have hPc := hP.sub (ws' := [(h, .inr (0, [.ref a, .int (nI n)])), (a, .inl (cB, 1024, .inl f))]) [0, 1] rfl
  have hKc := hK.sub (tys' := [(cB, .byte)]) [0] rfl
  refine z_ci (va_runS (As := [.ref h, .int 0]) (rest := []) ⟨hx, hb, hml, hown, hts⟩ (c_Tables_isTable l D cB h a n 1024 f 0 (by omega)) (z_cS hN wd_559 wd_63 wd_557 hd_Tables_isTable rfl rfl ⟨Nat.le_of_ble_eq_true rfl, Nat.le_of_ble_eq_true rfl⟩ wd_558) (z_preS hPc hKc hN) rfl rfl hl.1 rfl (lv_room (Nat.le_of_ble_eq_true rfl)) d_Tables_useList_7 ⟨by show 0 + 0 ≤ llC n; omega, by show 0 + 0 ≤ llS n; omega⟩) (fun r7 e7 => ?_)
  refine z_topi (w := if rw_at f n 1024 0 = 0 ∧ rw_bit f n 1024 47 = 1 ∧ rw_bits f n 1024 48 16 = 0 then 1 else 0) e7 ?_
  refine lv_if_eq (tgt := 30) hx hb d_Tables_useList_10 rfl (fun h10 => ?_) (fun h10 => ?_)
  · have h10 : ¬ itP f n 0 := b_0 h10
    refine lv_iconst (v := 0) hx hb d_Tables_useList_30 (by decide) ?_
    have hP9 := hP.part (cx := [(h, .inr (0, [.ref a, .int (nI n)])), (a, .inl (cB, 1024, .inl f))]) [0, 1] rfl
    have hD9 := hD.part (cx := [(h, .inr (0, [.ref a, .int (nI n)])), (a, .inl (cB, 1024, .inl f))]) [0, 1] (by decide) rfl
    have hK9 := hK.sub (tys' := [(cB, .byte), (cO, .object "java/lang/Object")]) [0, 1] rfl
    refine W.widen (k := llC n) (n := llS n) (by show 0 ≤ llC n; omega) (by show 0 ≤ llS n; omega) ?_
    exact W.zret (v := 0) hx hb hr rfl (fun t ht hW => ⟨⟨_, (lv, pr, pmo, pst, P, []), rfl, ⟨Or.inl ⟨rfl, (by first | exact fun q => h10 q.1 | exact fun q => q.2.1 h18 | exact fun q => h27 q.2.2), rfl⟩, htk, haw⟩, ⟨by rw [ht]; exact hP9, va_K.moved hW.alike hK9, hD9⟩⟩, hS.F ht⟩) hS.2.2 d_Tables_useList_31
  · have h10 : itP f n 0 := b_1 h10
    refine lv_iload_n hx hb d_Tables_useList_13 rfl (lv_at hl 0 rfl) ?_
    refine lv_aload_n hx hb d_Tables_useList_14 rfl (lv_at hl 1 rfl) ?_
    obtain ⟨q15, hq15⟩ : ∃ q15 : Nat, ([(h, .inr (0, [.ref a, .int (nI n)])), (a, .inl (cB, 1024, .inl f))] ++ (tplr cO e0 tb lv pr P.length pmo pst P ++ Q))[q15]? = some (tb, .inr (8, [.int lv, .ref pr])) := ⟨2, rfl⟩
    refine va_get (D := D) (ci := 8) (v := .int lv) (C := R_Tables) (T := F_Tables) (N := 2) hx hb hts i_Tables hown hK hP q15 hq15 rfl 0 (by decide) (hts _ wd_164) (fun _ h9 => h9) rfl d_Tables_useList_15 ?_
    refine lv_icmp_eq (tgt := 30) hx hb d_Tables_useList_18 rfl (fun h18 => ?_) (fun h18 => ?_)
    · refine lv_iconst (v := 0) hx hb d_Tables_useList_30 (by decide) ?_
      have hP9 := hP.part (cx := [(h, .inr (0, [.ref a, .int (nI n)])), (a, .inl (cB, 1024, .inl f))]) [0, 1] rfl
      have hD9 := hD.part (cx := [(h, .inr (0, [.ref a, .int (nI n)])), (a, .inl (cB, 1024, .inl f))]) [0, 1] (by decide) rfl
      have hK9 := hK.sub (tys' := [(cB, .byte), (cO, .object "java/lang/Object")]) [0, 1] rfl
      refine W.widen (k := llC n) (n := llS n) (by show 0 ≤ llC n; omega) (by show 0 ≤ llS n; omega) ?_
      exact W.zret (v := 0) hx hb hr rfl (fun t ht hW => ⟨⟨_, (lv, pr, pmo, pst, P, []), rfl, ⟨Or.inl ⟨rfl, (by first | exact fun q => h10 q.1 | exact fun q => q.2.1 h18 | exact fun q => h27 q.2.2), rfl⟩, htk, haw⟩, ⟨by rw [ht]; exact hP9, va_K.moved hW.alike hK9, hD9⟩⟩, hS.F ht⟩) hS.2.2 d_Tables_useList_31
    · refine lv_aload_n hx hb d_Tables_useList_21 rfl (lv_at hl 2 rfl) ?_
      refine va_getN (D := D) (ci := 0) (v := .int (nI n)) (C := R_Row) (T := F_Row) (N := 2) hx hb hts i_Row hown hK hP 0 rfl rfl 1 (by decide) (hts _ wd_112) (fun _ h9 => h9) rfl d_Tables_useList_22 ?_
      refine lv_iconst (v := 4) hx hb d_Tables_useList_25 (by decide) ?_
      refine lv_irem hx hb d_Tables_useList_26 (by decide) ?_
      refine z_topi (w := nI (n % 4)) (pk_rem (d := 4) (by omega) (by omega) (by omega)) ?_
      refine lv_if_eq (tgt := 32) hx hb d_Tables_useList_27 rfl (fun h27 => ?_) (fun h27 => ?_)
      · have h27 : n % 4 = 0 := (nI_eq (b := 0) (by omega) (by omega)).mp h27
        refine va_new (ci := 12) (fs := [.null, .int 0, .int 0]) (C := R_AL) (T := F_AL) (N := 3) hx hb hts i_AL t_AL t_AL_ok hown (hts _ wd_138) (hts _ wd_139) (hts _ wd_66) hK hP hD hS hA rfl (fs_AL) (by show 0 + 1 ≤ llC n; omega) (by show 0 + 3 ≤ llS n; omega) d_Tables_useList_32 (fun q32 H hP hD hS => ?_)
        have hP := hP.swap
        have hD := hD.swap
        have hP : va_P D classes ([(h, .inr (0, [.ref a, .int (nI n)])), (a, .inl (cB, 1024, .inl f)), (q32, .inr (12, [.null, .int 0, .int 0]))] ++ (tplr cO e0 tb lv pr P.length pmo pst P ++ Q)) H := hP
        have hD : va_D A ([(h, .inr (0, [.ref a, .int (nI n)])), (a, .inl (cB, 1024, .inl f)), (q32, .inr (12, [.null, .int 0, .int 0]))] ++ (tplr cO e0 tb lv pr P.length pmo pst P ++ Q)) := hD
        refine lv_dup hx hb d_Tables_useList_35 rfl ?_
        have hPc := hP.sub (ws' := [(q32, .inr (12, [.null, .int 0, .int 0]))]) [2] rfl
        have hKc := hK.sub (tys' := []) [] rfl
        have hDc := hD.sub (ws' := [(q32, .inr (12, [.null, .int 0, .int 0]))]) [2] (by decide) rfl
        have hFc := va_free (wc := [(q32, .inr (12, [.null, .int 0, .int 0]))]) hD hS hA [2] rfl
        refine va_callv (va_runI (As := []) (rest := [.ref q32]) ⟨hx, hb, hml, hown, hts⟩ (c_AL_init l D B0 hG H.size q32 e0 he0) (z_cI hN wd_142 wd_66 wd_140 hd_AL_init rfl rfl ⟨Nat.le_of_ble_eq_true rfl, Nat.le_of_ble_eq_true rfl⟩ wd_141 rfl) (z_preSo hPc hKc hN hDc hO hS hAO) rfl rfl hl.1 rfl (lv_room (Nat.le_of_ble_eq_true rfl)) d_Tables_useList_36 ⟨by show 0 + 1 + 0 ≤ llC n; omega, by show 0 + 3 + 0 ≤ llS n; omega⟩) hS (fun q _ h => hFc q h) hFc (fun u36 t H locs ht hvm e36 hB hz1 hk1 hS => ?_)
        obtain ⟨hP1, hK1, hD1⟩ := hB
        rw [ht] at hP1
        obtain ⟨hP, hD⟩ := va_joinQ (cx := [(q32, .inr (12, [.null, .int 0, .int 0]))]) (wr := [(h, .inr (0, [.ref a, .int (nI n)])), (a, .inl (cB, 1024, .inl f))]) (w1 := [(q32, .inr (12, [.ref e0, .int 0, .int 0]))]) hP hD [2] [0, 1] rfl rfl (by decide) (by decide) hk1 hFc hP1 hD1
        clear hk1 hP1 hD1 hFc hPc hDc hz1
        have hP : va_P D classes ([(h, .inr (0, [.ref a, .int (nI n)])), (a, .inl (cB, 1024, .inl f)), (q32, .inr (12, [.ref e0, .int 0, .int 0]))] ++ (tplr cO e0 tb lv pr P.length pmo pst P ++ Q)) H := hP
        have hD : va_D A ([(h, .inr (0, [.ref a, .int (nI n)])), (a, .inl (cB, 1024, .inl f)), (q32, .inr (12, [.ref e0, .int 0, .int 0]))] ++ (tplr cO e0 tb lv pr P.length pmo pst P ++ Q)) := hD
        refine lv_astore_n (lv' := [(3, .ref q32), (2, .int (vrV f n)), (0, .ref tb), (1, .ref h)]) hx hb d_Tables_useList_39 rfl hl (by decide) rfl (fun ls hl => ?_)
        refine lv_bipush (v := 8) hx hb d_Tables_useList_40 (by decide) ?_
        refine lv_istore (lv' := [(4, .int 8), (3, .ref q32), (2, .int (vrV f n)), (0, .ref tb), (1, .ref h)]) hx hb d_Tables_useList_42 hl (by decide) rfl (fun ls hl => ?_)
        have hP : va_P D classes ([(h, .inr (0, [.ref a, .int (nI n)])), (a, .inl (cB, 1024, .inl f))] ++ (wlc cO e0 q32 (([] : List PR9).length) 0 none ++ (([] : List PR9).flatMap (pgc cO e0) ++ ([] ++ (tplr cO e0 tb lv pr P.length pmo pst P ++ Q))))) H := hP
        have hD : va_D A ([(h, .inr (0, [.ref a, .int (nI n)])), (a, .inl (cB, 1024, .inl f))] ++ (wlc cO e0 q32 (([] : List PR9).length) 0 none ++ (([] : List PR9).flatMap (pgc cO e0) ++ ([] ++ (tplr cO e0 tb lv pr P.length pmo pst P ++ Q))))) := hD
        have loop44 : ∀ (N : Nat) (fu : Nat) (i : Nat) (N9 : List PR9) (lst : Option (Nat × (Nat → Option Nat))) (mo1 : Int32) (ex : va_W) (H : Heap) (locs : List Loc) (ls : Array Slot) (hm : fu < N) (hfi : i + 4 * fu = 1028) (hi8 : 4 * N9.length + 8 ≤ i) (hM : N9.length ≤ liM n) (hlk : tok (ex ++ Im) cO lst N9) (haN : awk N9) (hrun : N9.map pv9 ++ liL f n (P.map pv9) fu i N9.length = liL f n (P.map pv9) 255 8 0) (hl : lv_has ls 8 [(0, .ref tb), (1, .ref h), (2, .int (vrV f n)), (3, .ref q32), (4, .int (nI i))]) (hP : va_P D classes ([(h, .inr (0, [.ref a, .int (nI n)])), (a, .inl (cB, 1024, .inl f))] ++ (wlc cO e0 q32 N9.length mo1 lst ++ (N9.flatMap (pgc cO e0) ++ (ex ++ (tplr cO e0 tb lv pr P.length pmo pst P ++ Q))))) H) (hD : va_D A ([(h, .inr (0, [.ref a, .int (nI n)])), (a, .inl (cB, 1024, .inl f))] ++ (wlc cO e0 q32 N9.length mo1 lst ++ (N9.flatMap (pgc cO e0) ++ (ex ++ (tplr cO e0 tb lv pr P.length pmo pst P ++ Q)))))) (hS : va_S A s.heap H locs), W p l e ({ frames := 6, cells := llC n, slots := llS n, locals := 123 }) s m ([.ref tb, .ref h]).toArray below meth cd H locs (1 + (scn lst + 4 * N9.length)) (3 + (10 * scn lst + 24 * N9.length)) (MQ below (va_Qi (fun r (u : LU9) => ulP f n lv pr pmo pst P r u ∧ tok (u.2.2.2.2.2 ++ Im) cO u.2.2.2.1 u.2.2.2.2.1 ∧ awk u.2.2.2.2.1) (fun (u : LU9) t => zW D (A) ([(h, .inr (0, [.ref a, .int (nI n)])), (a, .inl (cB, 1024, .inl f))] ++ (tplr cO e0 tb u.1 u.2.1 u.2.2.2.2.1.length u.2.2.1 u.2.2.2.1 u.2.2.2.2.1 ++ (u.2.2.2.2.2 ++ Q))) [(cB, .byte), (cO, .object "java/lang/Object")] t) (A)) ([.ref tb, .ref h]).toArray s (llC n) (llS n) (A)) (F0 m 44 ls []) := by
          intro N44
          induction N44 with
          | zero => intro fu i N9 lst mo1 ex H locs ls hm hfi hi8 hM hlk haN hrun hl hP hD hS; exact absurd hm (Nat.not_lt_zero _)
          | succ N44 ih44 =>
            intro fu i N9 lst mo1 ex H locs ls hm hfi hi8 hM hlk haN hrun hl hP hD hS
            have hs9 := scn_le lst
            refine lv_iload hx hb d_Tables_useList_44 (lv_at hl 4 rfl) ?_
            refine lv_aload_n hx hb d_Tables_useList_46 rfl (lv_at hl 1 rfl) ?_
            refine va_getN (D := D) (ci := 0) (v := .int (nI n)) (C := R_Row) (T := F_Row) (N := 2) hx hb hts i_Row hown hK hP 0 rfl rfl 1 (by decide) (hts _ wd_112) (fun _ h9 => h9) rfl d_Tables_useList_47 ?_
            refine lv_icmp_ge (tgt := 142) hx hb d_Tables_useList_50 rfl (fun h50 => ?_) (fun h50 => ?_)
            · have h50 := (nI_leI (by omega) (by omega)).mp h50
              have hend := li_end hrun (by first | exact Or.inl h50 | exact Or.inr h58)
              have hP := z_Pp (li_out (X := [(h, .inr (0, [.ref a, .int (nI n)])), (a, .inl (cB, 1024, .inl f))])) hP
              have hD := z_Dp (li_out (X := [(h, .inr (0, [.ref a, .int (nI n)])), (a, .inl (cB, 1024, .inl f))])) hD
              have hP : va_P D classes ([(h, .inr (0, [.ref a, .int (nI n)])), (a, .inl (cB, 1024, .inl f)), (tb, .inr (8, [.int lv, .ref pr]))] ++ (wlc cO e0 q32 N9.length mo1 lst ++ (N9.flatMap (pgc cO e0) ++ (ex ++ ((wlc cO e0 pr P.length pmo pst ++ P.flatMap (pgc cO e0)) ++ Q))))) H := hP
              have hD : va_D A ([(h, .inr (0, [.ref a, .int (nI n)])), (a, .inl (cB, 1024, .inl f)), (tb, .inr (8, [.int lv, .ref pr]))] ++ (wlc cO e0 q32 N9.length mo1 lst ++ (N9.flatMap (pgc cO e0) ++ (ex ++ ((wlc cO e0 pr P.length pmo pst ++ P.flatMap (pgc cO e0)) ++ Q))))) := hD
              refine lv_aload_n hx hb d_Tables_useList_142 rfl (lv_at hl 0 rfl) ?_
              refine lv_aload_n hx hb d_Tables_useList_143 rfl (lv_at hl 3 rfl) ?_
              refine va_put (D := D) (ci := 8) (v := .ref q32) (ty := (.object "java/util/ArrayList")) (C := R_Tables) (T := F_Tables) (N := 2) hx hb hts i_Tables t_Tables t_Tables_ok n_Tables hown hK hP hD hS 2 rfl rfl 1 (by decide) (hts _ wd_166) (fun _ h9 => h9) rfl (by decide +kernel) rfl rfl (Nat.le_of_ble_eq_true rfl) d_Tables_useList_144 (fun H locs hP hD hS => ?_)
              have hP : va_P D classes ([(h, .inr (0, [.ref a, .int (nI n)])), (a, .inl (cB, 1024, .inl f)), (tb, .inr (8, [.int lv, .ref q32]))] ++ (wlc cO e0 q32 N9.length mo1 lst ++ (N9.flatMap (pgc cO e0) ++ (ex ++ ((wlc cO e0 pr P.length pmo pst ++ P.flatMap (pgc cO e0)) ++ Q))))) H := hP
              have hD : va_D A ([(h, .inr (0, [.ref a, .int (nI n)])), (a, .inl (cB, 1024, .inl f)), (tb, .inr (8, [.int lv, .ref q32]))] ++ (wlc cO e0 q32 N9.length mo1 lst ++ (N9.flatMap (pgc cO e0) ++ (ex ++ ((wlc cO e0 pr P.length pmo pst ++ P.flatMap (pgc cO e0)) ++ Q))))) := hD
              refine lv_aload_n hx hb d_Tables_useList_147 rfl (lv_at hl 0 rfl) ?_
              refine lv_iload_n hx hb d_Tables_useList_148 rfl (lv_at hl 2 rfl) ?_
              refine va_put (D := D) (ci := 8) (v := .int (vrV f n)) (ty := .int) (C := R_Tables) (T := F_Tables) (N := 2) hx hb hts i_Tables t_Tables t_Tables_ok n_Tables hown hK hP hD hS 2 rfl rfl 0 (by decide) (hts _ wd_164) (fun _ h9 => h9) rfl (by decide +kernel) rfl rfl (Nat.le_of_ble_eq_true rfl) d_Tables_useList_149 (fun H locs hP hD hS => ?_)
              have hP : va_P D classes ([(h, .inr (0, [.ref a, .int (nI n)])), (a, .inl (cB, 1024, .inl f)), (tb, .inr (8, [.int (vrV f n), .ref q32]))] ++ (wlc cO e0 q32 N9.length mo1 lst ++ (N9.flatMap (pgc cO e0) ++ (ex ++ ((wlc cO e0 pr P.length pmo pst ++ P.flatMap (pgc cO e0)) ++ Q))))) H := hP
              have hD : va_D A ([(h, .inr (0, [.ref a, .int (nI n)])), (a, .inl (cB, 1024, .inl f)), (tb, .inr (8, [.int (vrV f n), .ref q32]))] ++ (wlc cO e0 q32 N9.length mo1 lst ++ (N9.flatMap (pgc cO e0) ++ (ex ++ ((wlc cO e0 pr P.length pmo pst ++ P.flatMap (pgc cO e0)) ++ Q))))) := hD
              refine lv_iconst (v := 1) hx hb d_Tables_useList_152 (by decide) ?_
              have hP := z_Pp (li_in (X := [(h, .inr (0, [.ref a, .int (nI n)])), (a, .inl (cB, 1024, .inl f))])) hP
              have hD := z_Dp (li_in (X := [(h, .inr (0, [.ref a, .int (nI n)])), (a, .inl (cB, 1024, .inl f))])) hD
              have hP : va_P D classes ([(h, .inr (0, [.ref a, .int (nI n)])), (a, .inl (cB, 1024, .inl f))] ++ (tplr cO e0 tb (vrV f n) q32 N9.length mo1 lst N9 ++ ((ex ++ (wlc cO e0 pr P.length pmo pst ++ P.flatMap (pgc cO e0))) ++ Q))) H := hP
              have hD : va_D A ([(h, .inr (0, [.ref a, .int (nI n)])), (a, .inl (cB, 1024, .inl f))] ++ (tplr cO e0 tb (vrV f n) q32 N9.length mo1 lst N9 ++ ((ex ++ (wlc cO e0 pr P.length pmo pst ++ P.flatMap (pgc cO e0))) ++ Q))) := hD
              have hP9 := hP.part (cx := [(h, .inr (0, [.ref a, .int (nI n)])), (a, .inl (cB, 1024, .inl f))]) [0, 1] rfl
              have hD9 := hD.part (cx := [(h, .inr (0, [.ref a, .int (nI n)])), (a, .inl (cB, 1024, .inl f))]) [0, 1] (by decide) rfl
              have hK9 := hK.sub (tys' := [(cB, .byte), (cO, .object "java/lang/Object")]) [0, 1] rfl
              refine W.widen (k := llC n) (n := llS n) (by show 1 + (scn lst + 4 * N9.length) ≤ llC n; omega) (by show 3 + (10 * scn lst + 24 * N9.length) ≤ llS n; omega) ?_
              exact W.zret (v := 1) hx hb hr rfl (fun t ht hW => ⟨⟨_, (vrV f n, q32, mo1, lst, N9, ex ++ (wlc cO e0 pr P.length pmo pst ++ P.flatMap (pgc cO e0))), rfl, ⟨Or.inr ⟨rfl, ⟨h10, h18, h27⟩, rfl, hend⟩, tok_mono hlk (fun y hy => by rcases List.mem_append.mp hy with q | q; exact List.mem_append_left _ (List.mem_append_left _ q); exact List.mem_append_right _ q), haN⟩, ⟨by rw [ht]; exact hP9, va_K.moved hW.alike hK9, hD9⟩⟩, hS.F ht⟩) hS.2.2 d_Tables_useList_153
            · have h50 : i < n := by have := mt (nI_leI (a := n) (by omega) (by omega)).mpr h50; omega
              refine lv_aload_n hx hb d_Tables_useList_53 rfl (lv_at hl 3 rfl) ?_
              obtain ⟨b9, hb9⟩ := wl_mem cO e0 q32 N9.length mo1 lst
              have hL54 : (q32, alE b9 N9.length mo1) ∈ ([(h, .inr (0, [.ref a, .int (nI n)])), (a, .inl (cB, 1024, .inl f))] ++ (wlc cO e0 q32 N9.length mo1 lst ++ (N9.flatMap (pgc cO e0) ++ (ex ++ (tplr cO e0 tb lv pr P.length pmo pst P ++ Q))))) := List.mem_append_right _ (List.mem_append_left _ hb9)
              obtain ⟨q54, hq54⟩ := List.getElem?_of_mem hL54
              have hPc : va_P D classes [(q32, .inr (12, [.ref b9, .int (nI N9.length), .int mo1]))] H := z_Pm1 hL54 hP
              have hKc := hK.sub (tys' := []) [] rfl
              refine z_ci (va_runV (As := []) (rest := []) ⟨hx, hb, hml, hown, hts⟩ (c_AL_size l D q32 b9 (nI N9.length) mo1 ) (z_cV hN wd_305 wd_66 wd_302 hd_AL_size rfl rfl ⟨Nat.le_of_ble_eq_true rfl, Nat.le_of_ble_eq_true rfl⟩ wd_303 wd_304) (z_preV (va_recv (ci := 12) (q0 := q54) hK hP rfl hq54) hPc hKc hN) rfl rfl hl.1 rfl (lv_room (Nat.le_of_ble_eq_true rfl)) d_Tables_useList_54 ⟨by show 1 + (scn lst + 4 * N9.length) + 0 ≤ llC n; omega, by show 3 + (10 * scn lst + 24 * N9.length) + 0 ≤ llS n; omega⟩) (fun r54 e54 => ?_)
              refine z_topi (w := (nI N9.length)) e54 ?_
              refine lv_iconst (v := 4) hx hb d_Tables_useList_57 (by decide) ?_
              refine lv_icmp_ge (tgt := 142) hx hb d_Tables_useList_58 rfl (fun h58 => ?_) (fun h58 => ?_)
              · have h58 := (nI_leI (a := 4) (by omega) (by omega)).mp h58
                have hend := li_end hrun (by first | exact Or.inl h50 | exact Or.inr h58)
                have hP := z_Pp (li_out (X := [(h, .inr (0, [.ref a, .int (nI n)])), (a, .inl (cB, 1024, .inl f))])) hP
                have hD := z_Dp (li_out (X := [(h, .inr (0, [.ref a, .int (nI n)])), (a, .inl (cB, 1024, .inl f))])) hD
                have hP : va_P D classes ([(h, .inr (0, [.ref a, .int (nI n)])), (a, .inl (cB, 1024, .inl f)), (tb, .inr (8, [.int lv, .ref pr]))] ++ (wlc cO e0 q32 N9.length mo1 lst ++ (N9.flatMap (pgc cO e0) ++ (ex ++ ((wlc cO e0 pr P.length pmo pst ++ P.flatMap (pgc cO e0)) ++ Q))))) H := hP
                have hD : va_D A ([(h, .inr (0, [.ref a, .int (nI n)])), (a, .inl (cB, 1024, .inl f)), (tb, .inr (8, [.int lv, .ref pr]))] ++ (wlc cO e0 q32 N9.length mo1 lst ++ (N9.flatMap (pgc cO e0) ++ (ex ++ ((wlc cO e0 pr P.length pmo pst ++ P.flatMap (pgc cO e0)) ++ Q))))) := hD
                refine lv_aload_n hx hb d_Tables_useList_142 rfl (lv_at hl 0 rfl) ?_
                refine lv_aload_n hx hb d_Tables_useList_143 rfl (lv_at hl 3 rfl) ?_
                refine va_put (D := D) (ci := 8) (v := .ref q32) (ty := (.object "java/util/ArrayList")) (C := R_Tables) (T := F_Tables) (N := 2) hx hb hts i_Tables t_Tables t_Tables_ok n_Tables hown hK hP hD hS 2 rfl rfl 1 (by decide) (hts _ wd_166) (fun _ h9 => h9) rfl (by decide +kernel) rfl rfl (Nat.le_of_ble_eq_true rfl) d_Tables_useList_144 (fun H locs hP hD hS => ?_)
                have hP : va_P D classes ([(h, .inr (0, [.ref a, .int (nI n)])), (a, .inl (cB, 1024, .inl f)), (tb, .inr (8, [.int lv, .ref q32]))] ++ (wlc cO e0 q32 N9.length mo1 lst ++ (N9.flatMap (pgc cO e0) ++ (ex ++ ((wlc cO e0 pr P.length pmo pst ++ P.flatMap (pgc cO e0)) ++ Q))))) H := hP
                have hD : va_D A ([(h, .inr (0, [.ref a, .int (nI n)])), (a, .inl (cB, 1024, .inl f)), (tb, .inr (8, [.int lv, .ref q32]))] ++ (wlc cO e0 q32 N9.length mo1 lst ++ (N9.flatMap (pgc cO e0) ++ (ex ++ ((wlc cO e0 pr P.length pmo pst ++ P.flatMap (pgc cO e0)) ++ Q))))) := hD
                refine lv_aload_n hx hb d_Tables_useList_147 rfl (lv_at hl 0 rfl) ?_
                refine lv_iload_n hx hb d_Tables_useList_148 rfl (lv_at hl 2 rfl) ?_
                refine va_put (D := D) (ci := 8) (v := .int (vrV f n)) (ty := .int) (C := R_Tables) (T := F_Tables) (N := 2) hx hb hts i_Tables t_Tables t_Tables_ok n_Tables hown hK hP hD hS 2 rfl rfl 0 (by decide) (hts _ wd_164) (fun _ h9 => h9) rfl (by decide +kernel) rfl rfl (Nat.le_of_ble_eq_true rfl) d_Tables_useList_149 (fun H locs hP hD hS => ?_)
                have hP : va_P D classes ([(h, .inr (0, [.ref a, .int (nI n)])), (a, .inl (cB, 1024, .inl f)), (tb, .inr (8, [.int (vrV f n), .ref q32]))] ++ (wlc cO e0 q32 N9.length mo1 lst ++ (N9.flatMap (pgc cO e0) ++ (ex ++ ((wlc cO e0 pr P.length pmo pst ++ P.flatMap (pgc cO e0)) ++ Q))))) H := hP
                have hD : va_D A ([(h, .inr (0, [.ref a, .int (nI n)])), (a, .inl (cB, 1024, .inl f)), (tb, .inr (8, [.int (vrV f n), .ref q32]))] ++ (wlc cO e0 q32 N9.length mo1 lst ++ (N9.flatMap (pgc cO e0) ++ (ex ++ ((wlc cO e0 pr P.length pmo pst ++ P.flatMap (pgc cO e0)) ++ Q))))) := hD
                refine lv_iconst (v := 1) hx hb d_Tables_useList_152 (by decide) ?_
                have hP := z_Pp (li_in (X := [(h, .inr (0, [.ref a, .int (nI n)])), (a, .inl (cB, 1024, .inl f))])) hP
                have hD := z_Dp (li_in (X := [(h, .inr (0, [.ref a, .int (nI n)])), (a, .inl (cB, 1024, .inl f))])) hD
                have hP : va_P D classes ([(h, .inr (0, [.ref a, .int (nI n)])), (a, .inl (cB, 1024, .inl f))] ++ (tplr cO e0 tb (vrV f n) q32 N9.length mo1 lst N9 ++ ((ex ++ (wlc cO e0 pr P.length pmo pst ++ P.flatMap (pgc cO e0))) ++ Q))) H := hP
                have hD : va_D A ([(h, .inr (0, [.ref a, .int (nI n)])), (a, .inl (cB, 1024, .inl f))] ++ (tplr cO e0 tb (vrV f n) q32 N9.length mo1 lst N9 ++ ((ex ++ (wlc cO e0 pr P.length pmo pst ++ P.flatMap (pgc cO e0))) ++ Q))) := hD
                have hP9 := hP.part (cx := [(h, .inr (0, [.ref a, .int (nI n)])), (a, .inl (cB, 1024, .inl f))]) [0, 1] rfl
                have hD9 := hD.part (cx := [(h, .inr (0, [.ref a, .int (nI n)])), (a, .inl (cB, 1024, .inl f))]) [0, 1] (by decide) rfl
                have hK9 := hK.sub (tys' := [(cB, .byte), (cO, .object "java/lang/Object")]) [0, 1] rfl
                refine W.widen (k := llC n) (n := llS n) (by show 1 + (scn lst + 4 * N9.length) ≤ llC n; omega) (by show 3 + (10 * scn lst + 24 * N9.length) ≤ llS n; omega) ?_
                exact W.zret (v := 1) hx hb hr rfl (fun t ht hW => ⟨⟨_, (vrV f n, q32, mo1, lst, N9, ex ++ (wlc cO e0 pr P.length pmo pst ++ P.flatMap (pgc cO e0))), rfl, ⟨Or.inr ⟨rfl, ⟨h10, h18, h27⟩, rfl, hend⟩, tok_mono hlk (fun y hy => by rcases List.mem_append.mp hy with q | q; exact List.mem_append_left _ (List.mem_append_left _ q); exact List.mem_append_right _ q), haN⟩, ⟨by rw [ht]; exact hP9, va_K.moved hW.alike hK9, hD9⟩⟩, hS.F ht⟩) hS.2.2 d_Tables_useList_153
              · have h58 : N9.length < 4 := by have := mt (nI_leI (a := 4) (by omega) (by omega)).mpr h58; omega
                refine lv_aload_n hx hb d_Tables_useList_61 rfl (lv_at hl 1 rfl) ?_
                refine lv_bipush (v := 8) hx hb d_Tables_useList_62 (by decide) ?_
                refine lv_iload hx hb d_Tables_useList_64 (lv_at hl 4 rfl) ?_
                refine lv_imul hx hb d_Tables_useList_66 ?_
                refine z_topi (w := nI (8 * i)) (pk_mul 8 _) ?_
                refine lv_bipush (v := 16) hx hb d_Tables_useList_67 (by decide) ?_
                have hPc := hP.sub (ws' := [(h, .inr (0, [.ref a, .int (nI n)])), (a, .inl (cB, 1024, .inl f))]) [0, 1] rfl
                have hKc := hK.sub (tys' := [(cB, .byte)]) [0] rfl
                refine z_cl (va_runV (As := [.int (nI (8 * i)), .int (nI 16)]) (rest := []) ⟨hx, hb, hml, hown, hts⟩ (c_Row_bits l D cB h a n 1024 f (8 * i) 16 (by omega) (by omega)) (z_cV hN wd_280 wd_61 wd_564 hd_Row_bits rfl rfl ⟨Nat.le_of_ble_eq_true rfl, Nat.le_of_ble_eq_true rfl⟩ wd_278 wd_279) (z_preV (va_recv (ci := 0) (q0 := 0) hK hP rfl rfl) hPc hKc hN) rfl rfl hl.1 rfl (lv_room (Nat.le_of_ble_eq_true rfl)) d_Tables_useList_69 ⟨by show 1 + (scn lst + 4 * N9.length) + 0 ≤ llC n; omega, by show 3 + (10 * scn lst + 24 * N9.length) + 0 ≤ llS n; omega⟩) (fun r69 e69 => ?_)
                refine z_topl (w := rw_bits f n 1024 (8 * i) 16) e69 ?_
                refine lv_l2i (v := (rw_bits f n 1024 (8 * i) 16).toInt32) hx hb d_Tables_useList_72 rfl ?_
                refine z_topi (w := nI (bN f n 1024 (8 * i) 16)) (bits_i (by omega)) ?_
                refine lv_istore (lv' := [(5, .int (nI (bN f n 1024 (8 * i) 16))), (0, .ref tb), (1, .ref h), (2, .int (vrV f n)), (3, .ref q32), (4, .int (nI i))]) hx hb d_Tables_useList_73 hl (by decide) rfl (fun ls hl => ?_)
                refine lv_aload_n hx hb d_Tables_useList_75 rfl (lv_at hl 2 rfl) ?_
                refine lv_bipush (v := 8) hx hb d_Tables_useList_76 (by decide) ?_
                refine lv_iload hx hb d_Tables_useList_78 (lv_at hl 5 rfl) ?_
                refine lv_imul hx hb d_Tables_useList_80 ?_
                refine z_topi (w := nI (8 * i)) (pk_mul 8 _) ?_
                refine lv_bipush (v := 19) hx hb d_Tables_useList_81 (by decide) ?_
                refine lv_iadd hx hb d_Tables_useList_83 ?_
                refine z_topi (w := nI (8 * i + 19)) (nI_add _ 19) ?_
                refine lv_bipush (v := 13) hx hb d_Tables_useList_84 (by decide) ?_
                have hPc := hP.sub (ws' := [(h, .inr (0, [.ref a, .int (nI n)])), (a, .inl (cB, 1024, .inl f))]) [0, 1] rfl
                have hKc := hK.sub (tys' := [(cB, .byte)]) [0] rfl
                refine z_cl (va_runV (As := [.int (nI (8 * i + 19)), .int (nI 13)]) (rest := []) ⟨hx, hb, hml, hown, hts⟩ (c_Row_bits l D cB h a n 1024 f (8 * i + 19) 13 (by omega) (by omega)) (z_cV hN wd_280 wd_61 wd_564 hd_Row_bits rfl rfl ⟨Nat.le_of_ble_eq_true rfl, Nat.le_of_ble_eq_true rfl⟩ wd_278 wd_279) (z_preV (va_recv (ci := 0) (q0 := 0) hK hP rfl rfl) hPc hKc hN) rfl rfl hl.1 rfl (lv_room (Nat.le_of_ble_eq_true rfl)) d_Tables_useList_86 ⟨by show 1 + (scn lst + 4 * N9.length) + 0 ≤ llC n; omega, by show 3 + (10 * scn lst + 24 * N9.length) + 0 ≤ llS n; omega⟩) (fun r86 e86 => ?_)
                refine z_topl (w := rw_bits f n 1024 (8 * i + 19) 13) e86 ?_
                refine lv_l2i (v := (rw_bits f n 1024 (8 * i + 19) 13).toInt32) hx hb d_Tables_useList_89 rfl ?_
                refine z_topi (w := nI (bN f n 1024 (8 * i + 19) 13)) (bits_i (by omega)) ?_
                refine lv_istore (lv' := [(6, .int (nI (bN f n 1024 (8 * i + 19) 13))), (5, .int (nI (bN f n 1024 (8 * i) 16))), (0, .ref tb), (1, .ref h), (2, .int (vrV f n)), (3, .ref q32), (4, .int (nI i))]) hx hb d_Tables_useList_90 hl (by decide) rfl (fun ls hl => ?_)
                refine lv_iload hx hb d_Tables_useList_92 (lv_at hl 1 rfl) ?_
                refine lv_if_eq (tgt := 136) hx hb d_Tables_useList_94 rfl (fun h94 => ?_) (fun h94 => ?_)
                · have h94 : bN f n 1024 (8 * i) 16 = 0 := (nI_eq (b := 0) (by have := bN_lt f n 1024 (8 * i) 16; omega) (by omega)).mp h94
                  refine lv_iinc (k := 6) (v := nI (i + 4)) (lv' := [(4, .int (nI (i + 4))), (6, .int (nI (bN f n 1024 (8 * i + 19) 13))), (5, .int (nI (bN f n 1024 (8 * i) 16))), (0, .ref tb), (1, .ref h), (2, .int (vrV f n)), (3, .ref q32)]) hx hb d_Tables_useList_136 hl rfl (nI_add _ 4) (by decide) rfl (fun ls hl => ?_)
                  refine lv_goto (tgt := 44) hx hb d_Tables_useList_139 rfl ?_
                  exact ih44 (fu - 1) (i + 4) N9 lst mo1 ex H locs ls (by omega) (by omega) (by omega) hM hlk haN (li_skip hrun h50 h58 (by omega) h94) (lv_sub hl [3, 4, 5, 6, 0] rfl) hP hD hS
                · have h94 : ¬ bN f n 1024 (8 * i) 16 = 0 := fun q => h94 (by rw [q]; rfl)
                  have hpid : bN f n 1024 (8 * i + 19) 13 < 8192 := bN_lt f n 1024 (8 * i + 19) 13
                  cases lst with
                  | none =>
                    obtain rfl : N9 = [] := hlk.2.1
                    have hN4 : ([] : List PR9).length < 4 := by show 0 < 4; omega
                    have hM1 : 0 + 1 ≤ liM n := by show 0 + 1 ≤ min 4 ((n - 8) / 4); have : ([] : List PR9).length = 0 := rfl; omega
                    have hP : va_P D classes ([(h, .inr (0, [.ref a, .int (nI n)])), (a, .inl (cB, 1024, .inl f)), (q32, .inr (12, [.ref e0, .int 0, .int mo1]))] ++ (([] : List PR9).flatMap (pgc cO e0) ++ (ex ++ (tplr cO e0 tb lv pr P.length pmo pst P ++ Q)))) H := hP
                    have hD : va_D A ([(h, .inr (0, [.ref a, .int (nI n)])), (a, .inl (cB, 1024, .inl f)), (q32, .inr (12, [.ref e0, .int 0, .int mo1]))] ++ (([] : List PR9).flatMap (pgc cO e0) ++ (ex ++ (tplr cO e0 tb lv pr P.length pmo pst P ++ Q)))) := hD
                    refine lv_aload_n hx hb d_Tables_useList_97 rfl (lv_at hl 2 rfl) ?_
                    refine lv_iload hx hb d_Tables_useList_98 (lv_at hl 1 rfl) ?_
                    refine lv_iload hx hb d_Tables_useList_100 (lv_at hl 0 rfl) ?_
                    have hin9 : ∀ y ∈ tplr cO e0 tb lv pr P.length pmo pst P ++ Q, y ∈ ([(h, .inr (0, [.ref a, .int (nI n)])), (a, .inl (cB, 1024, .inl f)), (q32, .inr (12, [.ref e0, .int 0, .int mo1]))] ++ (([] : List PR9).flatMap (pgc cO e0) ++ (ex ++ (tplr cO e0 tb lv pr P.length pmo pst P ++ Q)))) := fun y hy => List.mem_append_right _ (List.mem_append_right _ (List.mem_append_right _ hy))
                    have hT9 : isT ([(h, .inr (0, [.ref a, .int (nI n)])), (a, .inl (cB, 1024, .inl f)), (q32, .inr (12, [.ref e0, .int 0, .int mo1]))] ++ (([] : List PR9).flatMap (pgc cO e0) ++ (ex ++ (tplr cO e0 tb lv pr P.length pmo pst P ++ Q)))) cO tb pr lv (pvw P) := isT_mono (tok_isT (X := []) (e0 := e0) (tb := tb) (pr := pr) (lv := lv) (pmo := pmo) (tok_mono htk hIm)) hin9
                    obtain ⟨q0, hq0⟩ := List.getElem?_of_mem (hin9 _ (List.mem_append_left _ List.mem_cons_self))
                    have hPc : va_P D classes ([] ++ ([(h, .inr (0, [.ref a, .int (nI n)])), (a, .inl (cB, 1024, .inl f)), (q32, .inr (12, [.ref e0, .int 0, .int mo1]))] ++ (([] : List PR9).flatMap (pgc cO e0) ++ (ex ++ (tplr cO e0 tb lv pr P.length pmo pst P ++ Q))))) H := hP
                    have hKc := hK.sub (tys' := [(cO, .object "java/lang/Object")]) [1] rfl
                    refine z_cq (va_runV (As := [.int (nI (bN f n 1024 (8 * i) 16)), .int (nI (bN f n 1024 (8 * i + 19) 13))]) (rest := []) ⟨hx, hb, hml, hown, hts⟩ (c_Tables_firstWith l D cO ([(h, .inr (0, [.ref a, .int (nI n)])), (a, .inl (cB, 1024, .inl f)), (q32, .inr (12, [.ref e0, .int 0, .int mo1]))] ++ (([] : List PR9).flatMap (pgc cO e0) ++ (ex ++ (tplr cO e0 tb lv pr P.length pmo pst P ++ Q)))) tb pr lv (pvw P) (nI (bN f n 1024 (8 * i) 16)) (bN f n 1024 (8 * i + 19) 13) hT9 hpid) (z_cV hN wd_568 wd_63 wd_565 hd_Tables_firstWith rfl rfl ⟨Nat.le_of_ble_eq_true rfl, Nat.le_of_ble_eq_true rfl⟩ wd_567 wd_17) (z_preV (va_recv (ci := 8) (q0 := q0) hK hP rfl hq0) hPc hKc hN) rfl rfl hl.1 rfl (lv_room (Nat.le_of_ble_eq_true rfl)) d_Tables_useList_102 ⟨by show 1 + 0 ≤ llC n; omega, by show 3 + 0 ≤ llS n; omega⟩) (fun r102 e102 => ?_)
                    refine z_astoreq (lv' := [(7, va_rf r102), (6, .int (nI (bN f n 1024 (8 * i + 19) 13))), (5, .int (nI (bN f n 1024 (8 * i) 16))), (0, .ref tb), (1, .ref h), (2, .int (vrV f n)), (3, .ref q32), (4, .int (nI i))]) hx hb d_Tables_useList_105 hl (by decide) rfl (fun ls hl => ?_)
                    refine lv_aload_n hx hb d_Tables_useList_107 rfl (lv_at hl 6 rfl) ?_
                    refine z_aloadq hx hb d_Tables_useList_108 (lv_at hl 0 rfl) ?_
                    cases h110 : r102 with
                    | none =>
                      rw [h110] at hl
                      have hl : lv_has ls 8 [(7, .null), (6, .int (nI (bN f n 1024 (8 * i + 19) 13))), (5, .int (nI (bN f n 1024 (8 * i) 16))), (0, .ref tb), (1, .ref h), (2, .int (vrV f n)), (3, .ref q32), (4, .int (nI i))] := hl
                      try rw [h110]
                      refine lv_ifnonnullN hx hb d_Tables_useList_110 ?_
                      have hfn : ∀ j, j < (pvw P).length → ¬ isNP ((pvw P).getD j (pz0, [])).1 (nI (bN f n 1024 (8 * i) 16)) (bN f n 1024 (8 * i + 19) 13) := by
                        rcases e102 with ⟨-, z9⟩ | ⟨_, _, _, _, z9⟩
                        · exact z9
                        · rw [h110] at z9; cases z9
                      refine va_new (ci := 7) (fs := [.int 0, .int 0, .int 0, .int 0, .null, .int 0, .long 0, .null]) (C := R_Programme) (T := F_Programme) (N := 8) hx hb hts i_Programme t_Programme t_Programme_ok hown (hts _ wd_320) (hts _ wd_415) (hts _ wd_82) hK hP hD hS hA rfl (fs_Programme) (by show 1 + 1 ≤ llC n; omega) (by show 3 + 8 ≤ llS n; omega) d_Tables_useList_113 (fun q113 H hP hD hS => ?_)
                      have hP := hP.swap
                      have hD := hD.swap
                      have hP : va_P D classes ([(h, .inr (0, [.ref a, .int (nI n)])), (a, .inl (cB, 1024, .inl f)), (q32, .inr (12, [.ref e0, .int 0, .int mo1])), (q113, .inr (7, [.int 0, .int 0, .int 0, .int 0, .null, .int 0, .long 0, .null]))] ++ (([] : List PR9).flatMap (pgc cO e0) ++ (ex ++ (tplr cO e0 tb lv pr P.length pmo pst P ++ Q)))) H := hP
                      have hD : va_D A ([(h, .inr (0, [.ref a, .int (nI n)])), (a, .inl (cB, 1024, .inl f)), (q32, .inr (12, [.ref e0, .int 0, .int mo1])), (q113, .inr (7, [.int 0, .int 0, .int 0, .int 0, .null, .int 0, .long 0, .null]))] ++ (([] : List PR9).flatMap (pgc cO e0) ++ (ex ++ (tplr cO e0 tb lv pr P.length pmo pst P ++ Q)))) := hD
                      refine lv_dup hx hb d_Tables_useList_116 rfl ?_
                      refine lv_iload hx hb d_Tables_useList_117 (lv_at hl 2 rfl) ?_
                      refine lv_iload hx hb d_Tables_useList_119 (lv_at hl 1 rfl) ?_
                      have hPc := hP.sub (ws' := [(q113, .inr (7, [.int 0, .int 0, .int 0, .int 0, .null, .int 0, .long 0, .null]))]) [3] rfl
                      have hKc := hK.sub (tys' := []) [] rfl
                      have hDc := hD.sub (ws' := [(q113, .inr (7, [.int 0, .int 0, .int 0, .int 0, .null, .int 0, .long 0, .null]))]) [3] (by decide) rfl
                      have hFc := va_free (wc := [(q113, .inr (7, [.int 0, .int 0, .int 0, .int 0, .null, .int 0, .long 0, .null]))]) hD hS hA [3] rfl
                      refine va_callv (va_runI (As := [.int (nI (bN f n 1024 (8 * i) 16)), .int (nI (bN f n 1024 (8 * i + 19) 13))]) (rest := [.ref q113, .ref q32]) ⟨hx, hb, hml, hown, hts⟩ (c_Programme_init l D B0 hG H.size q113 e0 (nI (bN f n 1024 (8 * i) 16)) (nI (bN f n 1024 (8 * i + 19) 13)) he0) (z_cI hN wd_571 wd_82 wd_569 hd_Programme_init rfl rfl ⟨Nat.le_of_ble_eq_true rfl, Nat.le_of_ble_eq_true rfl⟩ wd_570 rfl) (z_preSo hPc hKc hN hDc hO hS hAO) rfl rfl hl.1 rfl (lv_room (Nat.le_of_ble_eq_true rfl)) d_Tables_useList_121 ⟨by show 1 + 1 + 2 ≤ llC n; omega, by show 3 + 8 + 6 ≤ llS n; omega⟩) hS (fun q _ h => hFc q h) hFc (fun i9 t H locs ht hvm e121 hB hz1 hk1 hS => ?_)
                      obtain ⟨hP1, hK1, hD1⟩ := hB
                      rw [ht] at hP1
                      obtain ⟨hP, hD⟩ := va_joinQ (cx := [(q113, .inr (7, [.int 0, .int 0, .int 0, .int 0, .null, .int 0, .long 0, .null]))]) (wr := [(h, .inr (0, [.ref a, .int (nI n)])), (a, .inl (cB, 1024, .inl f)), (q32, .inr (12, [.ref e0, .int 0, .int mo1]))]) (w1 := [(q113, .inr (7, [.int (nI (bN f n 1024 (8 * i) 16)), .int (nI (bN f n 1024 (8 * i + 19) 13)), .int (-1), .int (-1), .ref i9.1, .int 0, .long (-1), .ref i9.2])), (i9.1, .inr (12, [.ref e0, .int 0, .int 0])), (i9.2, .inr (12, [.ref e0, .int 0, .int 0]))]) hP hD [3] [0, 1, 2] rfl rfl (by decide) (by decide) hk1 hFc hP1 hD1
                      clear hk1 hP1 hD1 hFc hPc hDc hz1
                      have hP : va_P D classes ([(h, .inr (0, [.ref a, .int (nI n)])), (a, .inl (cB, 1024, .inl f)), (q32, .inr (12, [.ref e0, .int 0, .int mo1])), (q113, .inr (7, [.int (nI (bN f n 1024 (8 * i) 16)), .int (nI (bN f n 1024 (8 * i + 19) 13)), .int (-1), .int (-1), .ref i9.1, .int 0, .long (-1), .ref i9.2])), (i9.1, .inr (12, [.ref e0, .int 0, .int 0])), (i9.2, .inr (12, [.ref e0, .int 0, .int 0]))] ++ (([] : List PR9).flatMap (pgc cO e0) ++ (ex ++ (tplr cO e0 tb lv pr P.length pmo pst P ++ Q)))) H := hP
                      have hD : va_D A ([(h, .inr (0, [.ref a, .int (nI n)])), (a, .inl (cB, 1024, .inl f)), (q32, .inr (12, [.ref e0, .int 0, .int mo1])), (q113, .inr (7, [.int (nI (bN f n 1024 (8 * i) 16)), .int (nI (bN f n 1024 (8 * i + 19) 13)), .int (-1), .int (-1), .ref i9.1, .int 0, .long (-1), .ref i9.2])), (i9.1, .inr (12, [.ref e0, .int 0, .int 0])), (i9.2, .inr (12, [.ref e0, .int 0, .int 0]))] ++ (([] : List PR9).flatMap (pgc cO e0) ++ (ex ++ (tplr cO e0 tb lv pr P.length pmo pst P ++ Q)))) := hD
                      refine lv_goto (tgt := 132) hx hb d_Tables_useList_124 rfl ?_
                      have hPc := hP.sub (ws' := [(q32, .inr (12, [.ref e0, .int 0, .int mo1])), (q113, .inr (7, [.int (nI (bN f n 1024 (8 * i) 16)), .int (nI (bN f n 1024 (8 * i + 19) 13)), .int (-1), .int (-1), .ref i9.1, .int 0, .long (-1), .ref i9.2]))]) [2, 3] rfl
                      have hKc := hK.sub (tys' := [(cO, .object "java/lang/Object")]) [1] rfl
                      have hDc := hD.sub (ws' := [(q32, .inr (12, [.ref e0, .int 0, .int mo1])), (q113, .inr (7, [.int (nI (bN f n 1024 (8 * i) 16)), .int (nI (bN f n 1024 (8 * i + 19) 13)), .int (-1), .int (-1), .ref i9.1, .int 0, .long (-1), .ref i9.2]))]) [2, 3] (by decide) rfl
                      have hFc := va_free (wc := [(q32, .inr (12, [.ref e0, .int 0, .int mo1])), (q113, .inr (7, [.int (nI (bN f n 1024 (8 * i) 16)), .int (nI (bN f n 1024 (8 * i + 19) 13)), .int (-1), .int (-1), .ref i9.1, .int 0, .long (-1), .ref i9.2]))]) hD hS hA [2, 3] rfl
                      refine va_calli (va_runV (As := [.ref q113]) (rest := []) ⟨hx, hb, hml, hown, hts⟩ (c_AL_add0e l D B0 hG H.size cO q32 e0 mo1 q113 7 [.int (nI (bN f n 1024 (8 * i) 16)), .int (nI (bN f n 1024 (8 * i + 19) 13)), .int (-1), .int (-1), .ref i9.1, .int 0, .long (-1), .ref i9.2] (R_Programme, F_Programme, 8) he0 rfl wd_1501) (z_cV hN wd_465 wd_66 wd_620 hd_AL_add0 rfl rfl ⟨Nat.le_of_ble_eq_true rfl, Nat.le_of_ble_eq_true rfl⟩ wd_463 wd_464) (z_preVo (va_recv (ci := 12) (q0 := 2) hK hP rfl rfl) hPc hKc hN hDc hO hS hAO) rfl rfl hl.1 rfl (lv_room (Nat.le_of_ble_eq_true rfl)) d_Tables_useList_132 ⟨by show 1 + 1 + 2 + 1 ≤ llC n; omega, by show 3 + 8 + 6 + 10 ≤ llS n; omega⟩) hS (fun q _ h => hFc q h) hFc (fun r132 q9 t H locs ht hvm e132 hB hz1 hk1 hS => ?_)
                      obtain ⟨hP1, hK1, hD1⟩ := hB
                      rw [ht] at hP1
                      obtain ⟨hP, hD⟩ := va_joinQ (cx := [(q32, .inr (12, [.ref e0, .int 0, .int mo1])), (q113, .inr (7, [.int (nI (bN f n 1024 (8 * i) 16)), .int (nI (bN f n 1024 (8 * i + 19) 13)), .int (-1), .int (-1), .ref i9.1, .int 0, .long (-1), .ref i9.2]))]) (wr := [(h, .inr (0, [.ref a, .int (nI n)])), (a, .inl (cB, 1024, .inl f)), (i9.1, .inr (12, [.ref e0, .int 0, .int 0])), (i9.2, .inr (12, [.ref e0, .int 0, .int 0]))]) (w1 := [(q32, .inr (12, [.ref q9, .int 1, .int (mo1 + 1)])), (q9, .inl (cO, 10, .inr (.inr (.inr (.inr (va_up (fun _ => none) 0 (some q113))))))), (q113, .inr (7, [.int (nI (bN f n 1024 (8 * i) 16)), .int (nI (bN f n 1024 (8 * i + 19) 13)), .int (-1), .int (-1), .ref i9.1, .int 0, .long (-1), .ref i9.2]))]) hP hD [2, 3] [0, 1, 4, 5] rfl rfl (by decide) (by decide) hk1 hFc hP1 hD1
                      clear hk1 hP1 hD1 hFc hPc hDc hz1
                      have hP : va_P D classes ([(h, .inr (0, [.ref a, .int (nI n)])), (a, .inl (cB, 1024, .inl f)), (i9.1, .inr (12, [.ref e0, .int 0, .int 0])), (i9.2, .inr (12, [.ref e0, .int 0, .int 0])), (q32, .inr (12, [.ref q9, .int 1, .int (mo1 + 1)])), (q9, .inl (cO, 10, .inr (.inr (.inr (.inr (va_up (fun _ => none) 0 (some q113))))))), (q113, .inr (7, [.int (nI (bN f n 1024 (8 * i) 16)), .int (nI (bN f n 1024 (8 * i + 19) 13)), .int (-1), .int (-1), .ref i9.1, .int 0, .long (-1), .ref i9.2]))] ++ (([] : List PR9).flatMap (pgc cO e0) ++ (ex ++ (tplr cO e0 tb lv pr P.length pmo pst P ++ Q)))) H := hP
                      have hD : va_D A ([(h, .inr (0, [.ref a, .int (nI n)])), (a, .inl (cB, 1024, .inl f)), (i9.1, .inr (12, [.ref e0, .int 0, .int 0])), (i9.2, .inr (12, [.ref e0, .int 0, .int 0])), (q32, .inr (12, [.ref q9, .int 1, .int (mo1 + 1)])), (q9, .inl (cO, 10, .inr (.inr (.inr (.inr (va_up (fun _ => none) 0 (some q113))))))), (q113, .inr (7, [.int (nI (bN f n 1024 (8 * i) 16)), .int (nI (bN f n 1024 (8 * i + 19) 13)), .int (-1), .int (-1), .ref i9.1, .int 0, .long (-1), .ref i9.2]))] ++ (([] : List PR9).flatMap (pgc cO e0) ++ (ex ++ (tplr cO e0 tb lv pr P.length pmo pst P ++ Q)))) := hD
                      refine lv_pop hx hb d_Tables_useList_135 rfl ?_
                      refine lv_iinc (k := 7) (v := nI (i + 4)) (lv' := [(4, .int (nI (i + 4))), (7, .null), (6, .int (nI (bN f n 1024 (8 * i + 19) 13))), (5, .int (nI (bN f n 1024 (8 * i) 16))), (0, .ref tb), (1, .ref h), (2, .int (vrV f n)), (3, .ref q32)]) hx hb d_Tables_useList_136 hl rfl (nI_add _ 4) (by decide) rfl (fun ls hl => ?_)
                      refine lv_goto (tgt := 44) hx hb d_Tables_useList_139 rfl ?_
                      have hP := hP.part (cx := [(h, .inr (0, [.ref a, .int (nI n)])), (a, .inl (cB, 1024, .inl f)), (q32, .inr (12, [.ref q9, .int 1, .int (mo1 + 1)])), (q9, .inl (cO, 10, .inr (.inr (.inr (.inr (va_up (fun _ => none) 0 (some q113))))))), (q113, .inr (7, [.int (nI (bN f n 1024 (8 * i) 16)), .int (nI (bN f n 1024 (8 * i + 19) 13)), .int (-1), .int (-1), .ref i9.1, .int 0, .long (-1), .ref i9.2])), (i9.2, .inr (12, [.ref e0, .int 0, .int 0])), (i9.1, .inr (12, [.ref e0, .int 0, .int 0]))]) [0, 1, 4, 5, 6, 3, 2] rfl
                      have hD := hD.part (cx := [(h, .inr (0, [.ref a, .int (nI n)])), (a, .inl (cB, 1024, .inl f)), (q32, .inr (12, [.ref q9, .int 1, .int (mo1 + 1)])), (q9, .inl (cO, 10, .inr (.inr (.inr (.inr (va_up (fun _ => none) 0 (some q113))))))), (q113, .inr (7, [.int (nI (bN f n 1024 (8 * i) 16)), .int (nI (bN f n 1024 (8 * i + 19) 13)), .int (-1), .int (-1), .ref i9.1, .int 0, .long (-1), .ref i9.2])), (i9.2, .inr (12, [.ref e0, .int 0, .int 0])), (i9.1, .inr (12, [.ref e0, .int 0, .int 0]))]) [0, 1, 4, 5, 6, 3, 2] (by decide) rfl
                      have hP := z_Pp (li_perm (X := [(h, .inr (0, [.ref a, .int (nI n)])), (a, .inl (cB, 1024, .inl f))]) (N9 := ([] : List PR9)) (x := (nwX q113 i9.1 i9.2 (nI (bN f n 1024 (8 * i) 16)) (bN f n 1024 (8 * i + 19) 13))) (s1 := [(i9.1, alE e0 0 0)]) (ex := ex)) (show va_P D classes ([(h, .inr (0, [.ref a, .int (nI n)])), (a, .inl (cB, 1024, .inl f))] ++ (wlc cO e0 q32 (([] : List PR9).length + 1) (mo1 + 1) (some (q9, va_up (fun _ => none) 0 (some q113))) ++ (pgc cO e0 (nwX q113 i9.1 i9.2 (nI (bN f n 1024 (8 * i) 16)) (bN f n 1024 (8 * i + 19) 13)) ++ ([(i9.1, alE e0 0 0)] ++ (([] : List PR9).flatMap (pgc cO e0) ++ (ex ++ (tplr cO e0 tb lv pr P.length pmo pst P ++ Q))))))) H from hP)
                      have hD := z_Dp (li_perm (X := [(h, .inr (0, [.ref a, .int (nI n)])), (a, .inl (cB, 1024, .inl f))]) (N9 := ([] : List PR9)) (x := (nwX q113 i9.1 i9.2 (nI (bN f n 1024 (8 * i) 16)) (bN f n 1024 (8 * i + 19) 13))) (s1 := [(i9.1, alE e0 0 0)]) (ex := ex)) (show va_D A ([(h, .inr (0, [.ref a, .int (nI n)])), (a, .inl (cB, 1024, .inl f))] ++ (wlc cO e0 q32 (([] : List PR9).length + 1) (mo1 + 1) (some (q9, va_up (fun _ => none) 0 (some q113))) ++ (pgc cO e0 (nwX q113 i9.1 i9.2 (nI (bN f n 1024 (8 * i) 16)) (bN f n 1024 (8 * i + 19) 13)) ++ ([(i9.1, alE e0 0 0)] ++ (([] : List PR9).flatMap (pgc cO e0) ++ (ex ++ (tplr cO e0 tb lv pr P.length pmo pst P ++ Q))))))) from hD)
                      have hP : va_P D classes ([(h, .inr (0, [.ref a, .int (nI n)])), (a, .inl (cB, 1024, .inl f))] ++ (wlc cO e0 q32 ((([] : List PR9) ++ [(nwX q113 i9.1 i9.2 (nI (bN f n 1024 (8 * i) 16)) (bN f n 1024 (8 * i + 19) 13))]).length) (mo1 + 1) (some (q9, va_up (fun _ => none) 0 (some q113))) ++ ((([] : List PR9) ++ [(nwX q113 i9.1 i9.2 (nI (bN f n 1024 (8 * i) 16)) (bN f n 1024 (8 * i + 19) 13))]).flatMap (pgc cO e0) ++ (([(i9.1, alE e0 0 0)] ++ ex) ++ (tplr cO e0 tb lv pr P.length pmo pst P ++ Q))))) H := hP
                      have hD : va_D A ([(h, .inr (0, [.ref a, .int (nI n)])), (a, .inl (cB, 1024, .inl f))] ++ (wlc cO e0 q32 ((([] : List PR9) ++ [(nwX q113 i9.1 i9.2 (nI (bN f n 1024 (8 * i) 16)) (bN f n 1024 (8 * i + 19) 13))]).length) (mo1 + 1) (some (q9, va_up (fun _ => none) 0 (some q113))) ++ ((([] : List PR9) ++ [(nwX q113 i9.1 i9.2 (nI (bN f n 1024 (8 * i) 16)) (bN f n 1024 (8 * i + 19) 13))]).flatMap (pgc cO e0) ++ (([(i9.1, alE e0 0 0)] ++ ex) ++ (tplr cO e0 tb lv pr P.length pmo pst P ++ Q))))) := hD
                      refine W.widen (k := 1 + (scn (some (q9, va_up (fun _ => none) 0 (some q113))) + 4 * (([] : List PR9) ++ [(nwX q113 i9.1 i9.2 (nI (bN f n 1024 (8 * i) 16)) (bN f n 1024 (8 * i + 19) 13))]).length)) (n := 3 + (10 * scn (some (q9, va_up (fun _ => none) 0 (some q113))) + 24 * (([] : List PR9) ++ [(nwX q113 i9.1 i9.2 (nI (bN f n 1024 (8 * i) 16)) (bN f n 1024 (8 * i + 19) 13))]).length)) (by show 1 + 1 + 2 + 1 ≤ 1 + (1 + 4 * (([] : List PR9) ++ [(nwX q113 i9.1 i9.2 (nI (bN f n 1024 (8 * i) 16)) (bN f n 1024 (8 * i + 19) 13))]).length); rw [List.length_append, List.length_singleton]; show _ ≤ 1 + (1 + 4 * (0 + 1)); omega) (by show 3 + 8 + 6 + 10 ≤ 3 + (10 * 1 + 24 * (([] : List PR9) ++ [(nwX q113 i9.1 i9.2 (nI (bN f n 1024 (8 * i) 16)) (bN f n 1024 (8 * i + 19) 13))]).length); rw [List.length_append, List.length_singleton]; show _ ≤ 3 + (10 * 1 + 24 * (0 + 1)); omega) ?_
                      exact ih44 (fu - 1) (i + 4) (([] : List PR9) ++ [(nwX q113 i9.1 i9.2 (nI (bN f n 1024 (8 * i) 16)) (bN f n 1024 (8 * i + 19) 13))]) (some (q9, va_up (fun _ => none) 0 (some q113))) (mo1 + 1) ([(i9.1, alE e0 0 0)] ++ ex) H locs ls (by omega) (by omega) (by rw [List.length_append, List.length_singleton]; omega) (by rw [List.length_append, List.length_singleton]; omega) (tok_app (N9 := ([] : List PR9)) (Q := ex ++ Im) (g := (fun _ => none)) (x := (nwX q113 i9.1 i9.2 (nI (bN f n 1024 (8 * i) 16)) (bN f n 1024 (8 * i + 19) 13))) hN4 (fun j hj => absurd hj (Nat.not_lt_zero j)) (fun y hy => by cases hy) (fun y hy => by rcases List.mem_append.mp hy with q | q; exact List.mem_append_left _ (List.mem_append_right _ q); exact List.mem_append_right _ q) (li_nw hpid)) (awk_app haN (Or.inl rfl)) (li_step hrun h50 hN4 (by omega) h94 (li_new (fun j hj => by have z9 := hfn j (by rw [pvw_len]; exact hj); rw [pvw_get hj] at z9; exact z9))) (lv_sub hl [4, 5, 6, 7, 0] rfl) hP hD hS
                    | some x110 =>
                      rw [h110] at hl
                      have hl : lv_has ls 8 [(7, .ref x110), (6, .int (nI (bN f n 1024 (8 * i + 19) 13))), (5, .int (nI (bN f n 1024 (8 * i) 16))), (0, .ref tb), (1, .ref h), (2, .int (vrV f n)), (3, .ref q32), (4, .int (nI i))] := hl
                      try rw [h110]
                      refine lv_ifnonnull (x := x110) (tgt := 127) hx hb d_Tables_useList_110 rfl ?_
                      rcases e102 with ⟨e102, -⟩ | ⟨j, hj, hh, hf, he⟩
                      · rw [h110] at e102; cases e102
                      rw [h110] at he
                      rw [pvw_len] at hj
                      rw [pvw_get hj] at hh he
                      obtain ⟨x, hxe⟩ : ∃ x : PR9, x = P.getD j pr9 := ⟨_, rfl⟩
                      rw [← hxe] at hh he
                      have hxm := p_mem hj
                      rw [← hxe] at hxm
                      have hpk := htk.2.2 x hxm
                      have hff : fst9 P (nI (bN f n 1024 (8 * i) 16)) (bN f n 1024 (8 * i + 19) 13) j := ⟨hj, by rw [← hxe]; exact hh, fun i hi => by have z9 := hf i hi; rw [pvw_get (by omega)] at z9; exact z9⟩
                      obtain rfl : x110 = x.1.1 := Option.some.inj he
                      have hpm : (x.1.1, pgE x.1) ∈ ([] : List PR9).flatMap (pgc cO e0) ++ (ex ++ (tplr cO e0 tb lv pr P.length pmo pst P ++ Q)) := List.mem_append_right _ (List.mem_append_right _ (tp_memP (X := []) hxm List.mem_cons_self))
                      obtain ⟨q1, hq1⟩ := List.getElem?_of_mem (List.mem_append_right [(h, .inr (0, [.ref a, .int (nI n)])), (a, .inl (cB, 1024, .inl f)), (q32, .inr (12, [.ref e0, .int 0, .int mo1]))] hpm)
                      have hw0 : isW (wlc cO e0 x.1.2.2.2.2.2.2.2.2 x.2.2.1.length x.2.2.2.1 x.2.2.2.2 ++ Im) cO x.1.2.2.2.2.2.2.2.2 x.2.2.1 := wk_isW (X := []) hpk.2.2.1 hpk.2.2.2.1
                      have hwW : isW (([] : List PR9).flatMap (pgc cO e0) ++ (ex ++ (tplr cO e0 tb lv pr P.length pmo pst P ++ Q))) cO x.1.2.2.2.2.2.2.2.2 x.2.2.1 := isW_mono hw0 (fun y hy => by rcases List.mem_append.mp hy with q | q; exact List.mem_append_right _ (List.mem_append_right _ (tp_memP (X := []) hxm (List.mem_cons_of_mem _ q))); exact List.mem_append_right _ (List.mem_append_right _ (List.mem_append_right _ (hIm y q))))
                      refine lv_aload hx hb d_Tables_useList_127 (lv_at hl 0 rfl) ?_
                      have hPc := hP.part (cx := []) [] rfl
                      have hKc := hK.sub (tys' := [(cO, .object "java/lang/Object")]) [1] rfl
                      have hDc := hD.part (cx := []) [] (by decide) rfl
                      have hFc := va_freeP (cx := []) hD hS hA [] rfl
                      refine va_callr (va_runV (As := []) (rest := [.ref q32]) ⟨hx, hb, hml, hown, hts⟩ (c_Programme_copied l D B0 hG H.size cO e0 (([] : List PR9).flatMap (pgc cO e0) ++ (ex ++ (tplr cO e0 tb lv pr P.length pmo pst P ++ Q))) x.1 x.2.2.1 he0 hpm hwW (haw x hxm)) (z_cV hN wd_617 wd_82 wd_614 hd_Programme_copied rfl rfl ⟨Nat.le_of_ble_eq_true rfl, Nat.le_of_ble_eq_true rfl⟩ wd_615 wd_616) (z_preVo (va_recv (ci := 7) (q0 := q1) hK hP rfl hq1) hPc hKc hN hDc hO hS hAO) rfl rfl hl.1 rfl (lv_room (Nat.le_of_ble_eq_true rfl)) d_Tables_useList_129 ⟨by show 1 + 4 ≤ llC n; omega, by show 3 + 24 ≤ llS n; omega⟩) hS (fun q _ h => hFc q h) hFc (fun c9 r129 t H locs ht hvm e129 hB hz1 hk1 hS => ?_)
                      obtain ⟨hP1, hK1, hD1⟩ := hB
                      rw [ht] at hP1
                      obtain ⟨hP, hD⟩ := va_joinP (wr := [(h, .inr (0, [.ref a, .int (nI n)])), (a, .inl (cB, 1024, .inl f)), (q32, .inr (12, [.ref e0, .int 0, .int mo1]))]) (rx := [(r129, .inr (7, [.int x.1.2.1, .int (nI x.1.2.2.1), .int x.1.2.2.2.1, .int x.1.2.2.2.2.1, .ref x.1.2.2.2.2.2.1, .int x.1.2.2.2.2.2.2.1, .long x.1.2.2.2.2.2.2.2.1, .ref c9.1]))]) hP hD [] [0, 1, 2] rfl rfl (by decide) (by decide) hk1 hFc hP1 hD1
                      clear hk1 hP1 hD1 hFc hPc hDc hz1
                      have hP : va_P D classes ([(h, .inr (0, [.ref a, .int (nI n)])), (a, .inl (cB, 1024, .inl f)), (q32, .inr (12, [.ref e0, .int 0, .int mo1])), (r129, .inr (7, [.int x.1.2.1, .int (nI x.1.2.2.1), .int x.1.2.2.2.1, .int x.1.2.2.2.2.1, .ref x.1.2.2.2.2.2.1, .int x.1.2.2.2.2.2.2.1, .long x.1.2.2.2.2.2.2.2.1, .ref c9.1]))] ++ (wlc cO e0 c9.1 x.2.2.1.length c9.2.1 c9.2.2 ++ (([] : List PR9).flatMap (pgc cO e0) ++ (ex ++ (tplr cO e0 tb lv pr P.length pmo pst P ++ Q))))) H := hP
                      have hD : va_D A ([(h, .inr (0, [.ref a, .int (nI n)])), (a, .inl (cB, 1024, .inl f)), (q32, .inr (12, [.ref e0, .int 0, .int mo1])), (r129, .inr (7, [.int x.1.2.1, .int (nI x.1.2.2.1), .int x.1.2.2.2.1, .int x.1.2.2.2.2.1, .ref x.1.2.2.2.2.2.1, .int x.1.2.2.2.2.2.2.1, .long x.1.2.2.2.2.2.2.2.1, .ref c9.1]))] ++ (wlc cO e0 c9.1 x.2.2.1.length c9.2.1 c9.2.2 ++ (([] : List PR9).flatMap (pgc cO e0) ++ (ex ++ (tplr cO e0 tb lv pr P.length pmo pst P ++ Q))))) := hD
                      have hPc := hP.sub (ws' := [(q32, .inr (12, [.ref e0, .int 0, .int mo1])), (r129, .inr (7, [.int x.1.2.1, .int (nI x.1.2.2.1), .int x.1.2.2.2.1, .int x.1.2.2.2.2.1, .ref x.1.2.2.2.2.2.1, .int x.1.2.2.2.2.2.2.1, .long x.1.2.2.2.2.2.2.2.1, .ref c9.1]))]) [2, 3] rfl
                      have hKc := hK.sub (tys' := [(cO, .object "java/lang/Object")]) [1] rfl
                      have hDc := hD.sub (ws' := [(q32, .inr (12, [.ref e0, .int 0, .int mo1])), (r129, .inr (7, [.int x.1.2.1, .int (nI x.1.2.2.1), .int x.1.2.2.2.1, .int x.1.2.2.2.2.1, .ref x.1.2.2.2.2.2.1, .int x.1.2.2.2.2.2.2.1, .long x.1.2.2.2.2.2.2.2.1, .ref c9.1]))]) [2, 3] (by decide) rfl
                      have hFc := va_free (wc := [(q32, .inr (12, [.ref e0, .int 0, .int mo1])), (r129, .inr (7, [.int x.1.2.1, .int (nI x.1.2.2.1), .int x.1.2.2.2.1, .int x.1.2.2.2.2.1, .ref x.1.2.2.2.2.2.1, .int x.1.2.2.2.2.2.2.1, .long x.1.2.2.2.2.2.2.2.1, .ref c9.1]))]) hD hS hA [2, 3] rfl
                      refine va_calli (va_runV (As := [.ref r129]) (rest := []) ⟨hx, hb, hml, hown, hts⟩ (c_AL_add0e l D B0 hG H.size cO q32 e0 mo1 r129 7 [.int x.1.2.1, .int (nI x.1.2.2.1), .int x.1.2.2.2.1, .int x.1.2.2.2.2.1, .ref x.1.2.2.2.2.2.1, .int x.1.2.2.2.2.2.2.1, .long x.1.2.2.2.2.2.2.2.1, .ref c9.1] (R_Programme, F_Programme, 8) he0 rfl wd_1501) (z_cV hN wd_465 wd_66 wd_620 hd_AL_add0 rfl rfl ⟨Nat.le_of_ble_eq_true rfl, Nat.le_of_ble_eq_true rfl⟩ wd_463 wd_464) (z_preVo (va_recv (ci := 12) (q0 := 2) hK hP rfl rfl) hPc hKc hN hDc hO hS hAO) rfl rfl hl.1 rfl (lv_room (Nat.le_of_ble_eq_true rfl)) d_Tables_useList_132 ⟨by show 1 + 4 + 1 ≤ llC n; omega, by show 3 + 24 + 10 ≤ llS n; omega⟩) hS (fun q _ h => hFc q h) hFc (fun r132 q9 t H locs ht hvm e132 hB hz1 hk1 hS => ?_)
                      obtain ⟨hP1, hK1, hD1⟩ := hB
                      rw [ht] at hP1
                      obtain ⟨hP, hD⟩ := va_joinQ (cx := [(q32, .inr (12, [.ref e0, .int 0, .int mo1])), (r129, .inr (7, [.int x.1.2.1, .int (nI x.1.2.2.1), .int x.1.2.2.2.1, .int x.1.2.2.2.2.1, .ref x.1.2.2.2.2.2.1, .int x.1.2.2.2.2.2.2.1, .long x.1.2.2.2.2.2.2.2.1, .ref c9.1]))]) (wr := [(h, .inr (0, [.ref a, .int (nI n)])), (a, .inl (cB, 1024, .inl f))]) (w1 := [(q32, .inr (12, [.ref q9, .int 1, .int (mo1 + 1)])), (q9, .inl (cO, 10, .inr (.inr (.inr (.inr (va_up (fun _ => none) 0 (some r129))))))), (r129, .inr (7, [.int x.1.2.1, .int (nI x.1.2.2.1), .int x.1.2.2.2.1, .int x.1.2.2.2.2.1, .ref x.1.2.2.2.2.2.1, .int x.1.2.2.2.2.2.2.1, .long x.1.2.2.2.2.2.2.2.1, .ref c9.1]))]) hP hD [2, 3] [0, 1] rfl rfl (by decide) (by decide) hk1 hFc hP1 hD1
                      clear hk1 hP1 hD1 hFc hPc hDc hz1
                      have hP : va_P D classes ([(h, .inr (0, [.ref a, .int (nI n)])), (a, .inl (cB, 1024, .inl f)), (q32, .inr (12, [.ref q9, .int 1, .int (mo1 + 1)])), (q9, .inl (cO, 10, .inr (.inr (.inr (.inr (va_up (fun _ => none) 0 (some r129))))))), (r129, .inr (7, [.int x.1.2.1, .int (nI x.1.2.2.1), .int x.1.2.2.2.1, .int x.1.2.2.2.2.1, .ref x.1.2.2.2.2.2.1, .int x.1.2.2.2.2.2.2.1, .long x.1.2.2.2.2.2.2.2.1, .ref c9.1]))] ++ (wlc cO e0 c9.1 x.2.2.1.length c9.2.1 c9.2.2 ++ (([] : List PR9).flatMap (pgc cO e0) ++ (ex ++ (tplr cO e0 tb lv pr P.length pmo pst P ++ Q))))) H := hP
                      have hD : va_D A ([(h, .inr (0, [.ref a, .int (nI n)])), (a, .inl (cB, 1024, .inl f)), (q32, .inr (12, [.ref q9, .int 1, .int (mo1 + 1)])), (q9, .inl (cO, 10, .inr (.inr (.inr (.inr (va_up (fun _ => none) 0 (some r129))))))), (r129, .inr (7, [.int x.1.2.1, .int (nI x.1.2.2.1), .int x.1.2.2.2.1, .int x.1.2.2.2.2.1, .ref x.1.2.2.2.2.2.1, .int x.1.2.2.2.2.2.2.1, .long x.1.2.2.2.2.2.2.2.1, .ref c9.1]))] ++ (wlc cO e0 c9.1 x.2.2.1.length c9.2.1 c9.2.2 ++ (([] : List PR9).flatMap (pgc cO e0) ++ (ex ++ (tplr cO e0 tb lv pr P.length pmo pst P ++ Q))))) := hD
                      refine lv_pop hx hb d_Tables_useList_135 rfl ?_
                      refine lv_iinc (k := 7) (v := nI (i + 4)) (lv' := [(4, .int (nI (i + 4))), (7, .ref x.1.1), (6, .int (nI (bN f n 1024 (8 * i + 19) 13))), (5, .int (nI (bN f n 1024 (8 * i) 16))), (0, .ref tb), (1, .ref h), (2, .int (vrV f n)), (3, .ref q32)]) hx hb d_Tables_useList_136 hl rfl (nI_add _ 4) (by decide) rfl (fun ls hl => ?_)
                      refine lv_goto (tgt := 44) hx hb d_Tables_useList_139 rfl ?_
                      have hP := z_Pp (li_perm (X := [(h, .inr (0, [.ref a, .int (nI n)])), (a, .inl (cB, 1024, .inl f))]) (N9 := ([] : List PR9)) (x := (cpX r129 c9.1 x c9.2.1 c9.2.2)) (s1 := []) (ex := ex)) (show va_P D classes ([(h, .inr (0, [.ref a, .int (nI n)])), (a, .inl (cB, 1024, .inl f))] ++ (wlc cO e0 q32 (([] : List PR9).length + 1) (mo1 + 1) (some (q9, va_up (fun _ => none) 0 (some r129))) ++ (pgc cO e0 (cpX r129 c9.1 x c9.2.1 c9.2.2) ++ ([] ++ (([] : List PR9).flatMap (pgc cO e0) ++ (ex ++ (tplr cO e0 tb lv pr P.length pmo pst P ++ Q))))))) H from hP)
                      have hD := z_Dp (li_perm (X := [(h, .inr (0, [.ref a, .int (nI n)])), (a, .inl (cB, 1024, .inl f))]) (N9 := ([] : List PR9)) (x := (cpX r129 c9.1 x c9.2.1 c9.2.2)) (s1 := []) (ex := ex)) (show va_D A ([(h, .inr (0, [.ref a, .int (nI n)])), (a, .inl (cB, 1024, .inl f))] ++ (wlc cO e0 q32 (([] : List PR9).length + 1) (mo1 + 1) (some (q9, va_up (fun _ => none) 0 (some r129))) ++ (pgc cO e0 (cpX r129 c9.1 x c9.2.1 c9.2.2) ++ ([] ++ (([] : List PR9).flatMap (pgc cO e0) ++ (ex ++ (tplr cO e0 tb lv pr P.length pmo pst P ++ Q))))))) from hD)
                      have hP : va_P D classes ([(h, .inr (0, [.ref a, .int (nI n)])), (a, .inl (cB, 1024, .inl f))] ++ (wlc cO e0 q32 ((([] : List PR9) ++ [(cpX r129 c9.1 x c9.2.1 c9.2.2)]).length) (mo1 + 1) (some (q9, va_up (fun _ => none) 0 (some r129))) ++ ((([] : List PR9) ++ [(cpX r129 c9.1 x c9.2.1 c9.2.2)]).flatMap (pgc cO e0) ++ (([] ++ ex) ++ (tplr cO e0 tb lv pr P.length pmo pst P ++ Q))))) H := hP
                      have hD : va_D A ([(h, .inr (0, [.ref a, .int (nI n)])), (a, .inl (cB, 1024, .inl f))] ++ (wlc cO e0 q32 ((([] : List PR9) ++ [(cpX r129 c9.1 x c9.2.1 c9.2.2)]).length) (mo1 + 1) (some (q9, va_up (fun _ => none) 0 (some r129))) ++ ((([] : List PR9) ++ [(cpX r129 c9.1 x c9.2.1 c9.2.2)]).flatMap (pgc cO e0) ++ (([] ++ ex) ++ (tplr cO e0 tb lv pr P.length pmo pst P ++ Q))))) := hD
                      refine W.widen (k := 1 + (scn (some (q9, va_up (fun _ => none) 0 (some r129))) + 4 * (([] : List PR9) ++ [(cpX r129 c9.1 x c9.2.1 c9.2.2)]).length)) (n := 3 + (10 * scn (some (q9, va_up (fun _ => none) 0 (some r129))) + 24 * (([] : List PR9) ++ [(cpX r129 c9.1 x c9.2.1 c9.2.2)]).length)) (by show 1 + 4 + 1 ≤ 1 + (1 + 4 * (([] : List PR9) ++ [(cpX r129 c9.1 x c9.2.1 c9.2.2)]).length); rw [List.length_append, List.length_singleton]; show _ ≤ 1 + (1 + 4 * (0 + 1)); omega) (by show 3 + 24 + 10 ≤ 3 + (10 * 1 + 24 * (([] : List PR9) ++ [(cpX r129 c9.1 x c9.2.1 c9.2.2)]).length); rw [List.length_append, List.length_singleton]; show _ ≤ 3 + (10 * 1 + 24 * (0 + 1)); omega) ?_
                      exact ih44 (fu - 1) (i + 4) (([] : List PR9) ++ [(cpX r129 c9.1 x c9.2.1 c9.2.2)]) (some (q9, va_up (fun _ => none) 0 (some r129))) (mo1 + 1) ([] ++ ex) H locs ls (by omega) (by omega) (by rw [List.length_append, List.length_singleton]; omega) (by rw [List.length_append, List.length_singleton]; omega) (tok_app (N9 := ([] : List PR9)) (Q := ex ++ Im) (g := (fun _ => none)) (x := (cpX r129 c9.1 x c9.2.1 c9.2.2)) hN4 (fun j hj => absurd hj (Nat.not_lt_zero j)) (fun y hy => by cases hy) (fun y hy => by rcases List.mem_append.mp hy with q | q; exact List.mem_append_left _ (List.mem_append_right _ q); exact List.mem_append_right _ q) (li_cp hpk e129)) (awk_app haN (haw x hxm)) (li_step hrun h50 hN4 (by omega) h94 ((li_old hff).trans (by rw [← hxe]; rfl))) (lv_sub hl [4, 5, 6, 7, 0] rfl) hP hD hS
                  | some wq =>
                    have hlk9 : ∀ j, j < N9.length → wq.2 j = some (N9.getD j pr9).1.1 := hlk.2.1
                    have hN4 := h58
                    have hM1 : N9.length + 1 ≤ liM n := by show N9.length + 1 ≤ min 4 ((n - 8) / 4); omega
                    have hP : va_P D classes ([(h, .inr (0, [.ref a, .int (nI n)])), (a, .inl (cB, 1024, .inl f)), (q32, .inr (12, [.ref wq.1, .int (nI N9.length), .int mo1])), (wq.1, .inl (cO, 10, .inr (.inr (.inr (.inr wq.2)))))] ++ (N9.flatMap (pgc cO e0) ++ (ex ++ (tplr cO e0 tb lv pr P.length pmo pst P ++ Q)))) H := hP
                    have hD : va_D A ([(h, .inr (0, [.ref a, .int (nI n)])), (a, .inl (cB, 1024, .inl f)), (q32, .inr (12, [.ref wq.1, .int (nI N9.length), .int mo1])), (wq.1, .inl (cO, 10, .inr (.inr (.inr (.inr wq.2)))))] ++ (N9.flatMap (pgc cO e0) ++ (ex ++ (tplr cO e0 tb lv pr P.length pmo pst P ++ Q)))) := hD
                    refine lv_aload_n hx hb d_Tables_useList_97 rfl (lv_at hl 2 rfl) ?_
                    refine lv_iload hx hb d_Tables_useList_98 (lv_at hl 1 rfl) ?_
                    refine lv_iload hx hb d_Tables_useList_100 (lv_at hl 0 rfl) ?_
                    have hin9 : ∀ y ∈ tplr cO e0 tb lv pr P.length pmo pst P ++ Q, y ∈ ([(h, .inr (0, [.ref a, .int (nI n)])), (a, .inl (cB, 1024, .inl f)), (q32, .inr (12, [.ref wq.1, .int (nI N9.length), .int mo1])), (wq.1, .inl (cO, 10, .inr (.inr (.inr (.inr wq.2)))))] ++ (N9.flatMap (pgc cO e0) ++ (ex ++ (tplr cO e0 tb lv pr P.length pmo pst P ++ Q)))) := fun y hy => List.mem_append_right _ (List.mem_append_right _ (List.mem_append_right _ hy))
                    have hT9 : isT ([(h, .inr (0, [.ref a, .int (nI n)])), (a, .inl (cB, 1024, .inl f)), (q32, .inr (12, [.ref wq.1, .int (nI N9.length), .int mo1])), (wq.1, .inl (cO, 10, .inr (.inr (.inr (.inr wq.2)))))] ++ (N9.flatMap (pgc cO e0) ++ (ex ++ (tplr cO e0 tb lv pr P.length pmo pst P ++ Q)))) cO tb pr lv (pvw P) := isT_mono (tok_isT (X := []) (e0 := e0) (tb := tb) (pr := pr) (lv := lv) (pmo := pmo) (tok_mono htk hIm)) hin9
                    obtain ⟨q0, hq0⟩ := List.getElem?_of_mem (hin9 _ (List.mem_append_left _ List.mem_cons_self))
                    have hPc : va_P D classes ([] ++ ([(h, .inr (0, [.ref a, .int (nI n)])), (a, .inl (cB, 1024, .inl f)), (q32, .inr (12, [.ref wq.1, .int (nI N9.length), .int mo1])), (wq.1, .inl (cO, 10, .inr (.inr (.inr (.inr wq.2)))))] ++ (N9.flatMap (pgc cO e0) ++ (ex ++ (tplr cO e0 tb lv pr P.length pmo pst P ++ Q))))) H := hP
                    have hKc := hK.sub (tys' := [(cO, .object "java/lang/Object")]) [1] rfl
                    refine z_cq (va_runV (As := [.int (nI (bN f n 1024 (8 * i) 16)), .int (nI (bN f n 1024 (8 * i + 19) 13))]) (rest := []) ⟨hx, hb, hml, hown, hts⟩ (c_Tables_firstWith l D cO ([(h, .inr (0, [.ref a, .int (nI n)])), (a, .inl (cB, 1024, .inl f)), (q32, .inr (12, [.ref wq.1, .int (nI N9.length), .int mo1])), (wq.1, .inl (cO, 10, .inr (.inr (.inr (.inr wq.2)))))] ++ (N9.flatMap (pgc cO e0) ++ (ex ++ (tplr cO e0 tb lv pr P.length pmo pst P ++ Q)))) tb pr lv (pvw P) (nI (bN f n 1024 (8 * i) 16)) (bN f n 1024 (8 * i + 19) 13) hT9 hpid) (z_cV hN wd_568 wd_63 wd_565 hd_Tables_firstWith rfl rfl ⟨Nat.le_of_ble_eq_true rfl, Nat.le_of_ble_eq_true rfl⟩ wd_567 wd_17) (z_preV (va_recv (ci := 8) (q0 := q0) hK hP rfl hq0) hPc hKc hN) rfl rfl hl.1 rfl (lv_room (Nat.le_of_ble_eq_true rfl)) d_Tables_useList_102 ⟨by show 1 + (1 + 4 * N9.length) + 0 ≤ llC n; omega, by show 3 + (10 * 1 + 24 * N9.length) + 0 ≤ llS n; omega⟩) (fun r102 e102 => ?_)
                    refine z_astoreq (lv' := [(7, va_rf r102), (6, .int (nI (bN f n 1024 (8 * i + 19) 13))), (5, .int (nI (bN f n 1024 (8 * i) 16))), (0, .ref tb), (1, .ref h), (2, .int (vrV f n)), (3, .ref q32), (4, .int (nI i))]) hx hb d_Tables_useList_105 hl (by decide) rfl (fun ls hl => ?_)
                    refine lv_aload_n hx hb d_Tables_useList_107 rfl (lv_at hl 6 rfl) ?_
                    refine z_aloadq hx hb d_Tables_useList_108 (lv_at hl 0 rfl) ?_
                    cases h110 : r102 with
                    | none =>
                      rw [h110] at hl
                      have hl : lv_has ls 8 [(7, .null), (6, .int (nI (bN f n 1024 (8 * i + 19) 13))), (5, .int (nI (bN f n 1024 (8 * i) 16))), (0, .ref tb), (1, .ref h), (2, .int (vrV f n)), (3, .ref q32), (4, .int (nI i))] := hl
                      try rw [h110]
                      refine lv_ifnonnullN hx hb d_Tables_useList_110 ?_
                      have hfn : ∀ j, j < (pvw P).length → ¬ isNP ((pvw P).getD j (pz0, [])).1 (nI (bN f n 1024 (8 * i) 16)) (bN f n 1024 (8 * i + 19) 13) := by
                        rcases e102 with ⟨-, z9⟩ | ⟨_, _, _, _, z9⟩
                        · exact z9
                        · rw [h110] at z9; cases z9
                      refine va_new (ci := 7) (fs := [.int 0, .int 0, .int 0, .int 0, .null, .int 0, .long 0, .null]) (C := R_Programme) (T := F_Programme) (N := 8) hx hb hts i_Programme t_Programme t_Programme_ok hown (hts _ wd_320) (hts _ wd_415) (hts _ wd_82) hK hP hD hS hA rfl (fs_Programme) (by show 1 + (1 + 4 * N9.length) + 1 ≤ llC n; omega) (by show 3 + (10 * 1 + 24 * N9.length) + 8 ≤ llS n; omega) d_Tables_useList_113 (fun q113 H hP hD hS => ?_)
                      have hP := hP.swap
                      have hD := hD.swap
                      have hP : va_P D classes ([(h, .inr (0, [.ref a, .int (nI n)])), (a, .inl (cB, 1024, .inl f)), (q32, .inr (12, [.ref wq.1, .int (nI N9.length), .int mo1])), (wq.1, .inl (cO, 10, .inr (.inr (.inr (.inr wq.2))))), (q113, .inr (7, [.int 0, .int 0, .int 0, .int 0, .null, .int 0, .long 0, .null]))] ++ (N9.flatMap (pgc cO e0) ++ (ex ++ (tplr cO e0 tb lv pr P.length pmo pst P ++ Q)))) H := hP
                      have hD : va_D A ([(h, .inr (0, [.ref a, .int (nI n)])), (a, .inl (cB, 1024, .inl f)), (q32, .inr (12, [.ref wq.1, .int (nI N9.length), .int mo1])), (wq.1, .inl (cO, 10, .inr (.inr (.inr (.inr wq.2))))), (q113, .inr (7, [.int 0, .int 0, .int 0, .int 0, .null, .int 0, .long 0, .null]))] ++ (N9.flatMap (pgc cO e0) ++ (ex ++ (tplr cO e0 tb lv pr P.length pmo pst P ++ Q)))) := hD
                      refine lv_dup hx hb d_Tables_useList_116 rfl ?_
                      refine lv_iload hx hb d_Tables_useList_117 (lv_at hl 2 rfl) ?_
                      refine lv_iload hx hb d_Tables_useList_119 (lv_at hl 1 rfl) ?_
                      have hPc := hP.sub (ws' := [(q113, .inr (7, [.int 0, .int 0, .int 0, .int 0, .null, .int 0, .long 0, .null]))]) [4] rfl
                      have hKc := hK.sub (tys' := []) [] rfl
                      have hDc := hD.sub (ws' := [(q113, .inr (7, [.int 0, .int 0, .int 0, .int 0, .null, .int 0, .long 0, .null]))]) [4] (by decide) rfl
                      have hFc := va_free (wc := [(q113, .inr (7, [.int 0, .int 0, .int 0, .int 0, .null, .int 0, .long 0, .null]))]) hD hS hA [4] rfl
                      refine va_callv (va_runI (As := [.int (nI (bN f n 1024 (8 * i) 16)), .int (nI (bN f n 1024 (8 * i + 19) 13))]) (rest := [.ref q113, .ref q32]) ⟨hx, hb, hml, hown, hts⟩ (c_Programme_init l D B0 hG H.size q113 e0 (nI (bN f n 1024 (8 * i) 16)) (nI (bN f n 1024 (8 * i + 19) 13)) he0) (z_cI hN wd_571 wd_82 wd_569 hd_Programme_init rfl rfl ⟨Nat.le_of_ble_eq_true rfl, Nat.le_of_ble_eq_true rfl⟩ wd_570 rfl) (z_preSo hPc hKc hN hDc hO hS hAO) rfl rfl hl.1 rfl (lv_room (Nat.le_of_ble_eq_true rfl)) d_Tables_useList_121 ⟨by show 1 + (1 + 4 * N9.length) + 1 + 2 ≤ llC n; omega, by show 3 + (10 * 1 + 24 * N9.length) + 8 + 6 ≤ llS n; omega⟩) hS (fun q _ h => hFc q h) hFc (fun i9 t H locs ht hvm e121 hB hz1 hk1 hS => ?_)
                      obtain ⟨hP1, hK1, hD1⟩ := hB
                      rw [ht] at hP1
                      obtain ⟨hP, hD⟩ := va_joinQ (cx := [(q113, .inr (7, [.int 0, .int 0, .int 0, .int 0, .null, .int 0, .long 0, .null]))]) (wr := [(h, .inr (0, [.ref a, .int (nI n)])), (a, .inl (cB, 1024, .inl f)), (q32, .inr (12, [.ref wq.1, .int (nI N9.length), .int mo1])), (wq.1, .inl (cO, 10, .inr (.inr (.inr (.inr wq.2)))))]) (w1 := [(q113, .inr (7, [.int (nI (bN f n 1024 (8 * i) 16)), .int (nI (bN f n 1024 (8 * i + 19) 13)), .int (-1), .int (-1), .ref i9.1, .int 0, .long (-1), .ref i9.2])), (i9.1, .inr (12, [.ref e0, .int 0, .int 0])), (i9.2, .inr (12, [.ref e0, .int 0, .int 0]))]) hP hD [4] [0, 1, 2, 3] rfl rfl (by decide) (by decide) hk1 hFc hP1 hD1
                      clear hk1 hP1 hD1 hFc hPc hDc hz1
                      have hP : va_P D classes ([(h, .inr (0, [.ref a, .int (nI n)])), (a, .inl (cB, 1024, .inl f)), (q32, .inr (12, [.ref wq.1, .int (nI N9.length), .int mo1])), (wq.1, .inl (cO, 10, .inr (.inr (.inr (.inr wq.2))))), (q113, .inr (7, [.int (nI (bN f n 1024 (8 * i) 16)), .int (nI (bN f n 1024 (8 * i + 19) 13)), .int (-1), .int (-1), .ref i9.1, .int 0, .long (-1), .ref i9.2])), (i9.1, .inr (12, [.ref e0, .int 0, .int 0])), (i9.2, .inr (12, [.ref e0, .int 0, .int 0]))] ++ (N9.flatMap (pgc cO e0) ++ (ex ++ (tplr cO e0 tb lv pr P.length pmo pst P ++ Q)))) H := hP
                      have hD : va_D A ([(h, .inr (0, [.ref a, .int (nI n)])), (a, .inl (cB, 1024, .inl f)), (q32, .inr (12, [.ref wq.1, .int (nI N9.length), .int mo1])), (wq.1, .inl (cO, 10, .inr (.inr (.inr (.inr wq.2))))), (q113, .inr (7, [.int (nI (bN f n 1024 (8 * i) 16)), .int (nI (bN f n 1024 (8 * i + 19) 13)), .int (-1), .int (-1), .ref i9.1, .int 0, .long (-1), .ref i9.2])), (i9.1, .inr (12, [.ref e0, .int 0, .int 0])), (i9.2, .inr (12, [.ref e0, .int 0, .int 0]))] ++ (N9.flatMap (pgc cO e0) ++ (ex ++ (tplr cO e0 tb lv pr P.length pmo pst P ++ Q)))) := hD
                      refine lv_goto (tgt := 132) hx hb d_Tables_useList_124 rfl ?_
                      have hPc := hP.sub (ws' := [(q32, .inr (12, [.ref wq.1, .int (nI N9.length), .int mo1])), (wq.1, .inl (cO, 10, .inr (.inr (.inr (.inr wq.2))))), (q113, .inr (7, [.int (nI (bN f n 1024 (8 * i) 16)), .int (nI (bN f n 1024 (8 * i + 19) 13)), .int (-1), .int (-1), .ref i9.1, .int 0, .long (-1), .ref i9.2]))]) [2, 3, 4] rfl
                      have hKc := hK.sub (tys' := [(cO, .object "java/lang/Object")]) [1] rfl
                      have hDc := hD.sub (ws' := [(q32, .inr (12, [.ref wq.1, .int (nI N9.length), .int mo1])), (wq.1, .inl (cO, 10, .inr (.inr (.inr (.inr wq.2))))), (q113, .inr (7, [.int (nI (bN f n 1024 (8 * i) 16)), .int (nI (bN f n 1024 (8 * i + 19) 13)), .int (-1), .int (-1), .ref i9.1, .int 0, .long (-1), .ref i9.2]))]) [2, 3, 4] (by decide) rfl
                      have hFc := va_free (wc := [(q32, .inr (12, [.ref wq.1, .int (nI N9.length), .int mo1])), (wq.1, .inl (cO, 10, .inr (.inr (.inr (.inr wq.2))))), (q113, .inr (7, [.int (nI (bN f n 1024 (8 * i) 16)), .int (nI (bN f n 1024 (8 * i + 19) 13)), .int (-1), .int (-1), .ref i9.1, .int 0, .long (-1), .ref i9.2]))]) hD hS hA [2, 3, 4] rfl
                      refine va_calli (va_runV (As := [.ref q113]) (rest := []) ⟨hx, hb, hml, hown, hts⟩ (c_AL_add0 l D H.size cO q32 wq.1 N9.length mo1 wq.2 q113 7 [.int (nI (bN f n 1024 (8 * i) 16)), .int (nI (bN f n 1024 (8 * i + 19) 13)), .int (-1), .int (-1), .ref i9.1, .int 0, .long (-1), .ref i9.2] (R_Programme, F_Programme, 8) (by omega) rfl wd_1501) (z_cV hN wd_465 wd_66 wd_620 hd_AL_add0 rfl rfl ⟨Nat.le_of_ble_eq_true rfl, Nat.le_of_ble_eq_true rfl⟩ wd_463 wd_464) (z_preVm (va_recv (ci := 12) (q0 := 2) hK hP rfl rfl) hPc hKc hN hDc) rfl rfl hl.1 rfl (lv_room (Nat.le_of_ble_eq_true rfl)) d_Tables_useList_132 ⟨by show 1 + (1 + 4 * N9.length) + 1 + 2 + 0 ≤ llC n; omega, by show 3 + (10 * 1 + 24 * N9.length) + 8 + 6 + 0 ≤ llS n; omega⟩) hS (fun q _ h => hFc q h) hFc (fun r132 u132 t H locs ht hvm e132 hB hz1 hk1 hS => ?_)
                      obtain ⟨hP1, hK1, hD1⟩ := hB
                      rw [ht] at hP1
                      obtain ⟨hP, hD⟩ := va_joinQ (cx := [(q32, .inr (12, [.ref wq.1, .int (nI N9.length), .int mo1])), (wq.1, .inl (cO, 10, .inr (.inr (.inr (.inr wq.2))))), (q113, .inr (7, [.int (nI (bN f n 1024 (8 * i) 16)), .int (nI (bN f n 1024 (8 * i + 19) 13)), .int (-1), .int (-1), .ref i9.1, .int 0, .long (-1), .ref i9.2]))]) (wr := [(h, .inr (0, [.ref a, .int (nI n)])), (a, .inl (cB, 1024, .inl f)), (i9.1, .inr (12, [.ref e0, .int 0, .int 0])), (i9.2, .inr (12, [.ref e0, .int 0, .int 0]))]) (w1 := [(q32, .inr (12, [.ref wq.1, .int (nI (N9.length + 1)), .int (mo1 + 1)])), (wq.1, .inl (cO, 10, .inr (.inr (.inr (.inr (va_up wq.2 N9.length (some q113))))))), (q113, .inr (7, [.int (nI (bN f n 1024 (8 * i) 16)), .int (nI (bN f n 1024 (8 * i + 19) 13)), .int (-1), .int (-1), .ref i9.1, .int 0, .long (-1), .ref i9.2]))]) hP hD [2, 3, 4] [0, 1, 5, 6] rfl rfl (by decide) (by decide) hk1 hFc hP1 hD1
                      clear hk1 hP1 hD1 hFc hPc hDc hz1
                      have hP : va_P D classes ([(h, .inr (0, [.ref a, .int (nI n)])), (a, .inl (cB, 1024, .inl f)), (i9.1, .inr (12, [.ref e0, .int 0, .int 0])), (i9.2, .inr (12, [.ref e0, .int 0, .int 0])), (q32, .inr (12, [.ref wq.1, .int (nI (N9.length + 1)), .int (mo1 + 1)])), (wq.1, .inl (cO, 10, .inr (.inr (.inr (.inr (va_up wq.2 N9.length (some q113))))))), (q113, .inr (7, [.int (nI (bN f n 1024 (8 * i) 16)), .int (nI (bN f n 1024 (8 * i + 19) 13)), .int (-1), .int (-1), .ref i9.1, .int 0, .long (-1), .ref i9.2]))] ++ (N9.flatMap (pgc cO e0) ++ (ex ++ (tplr cO e0 tb lv pr P.length pmo pst P ++ Q)))) H := hP
                      have hD : va_D A ([(h, .inr (0, [.ref a, .int (nI n)])), (a, .inl (cB, 1024, .inl f)), (i9.1, .inr (12, [.ref e0, .int 0, .int 0])), (i9.2, .inr (12, [.ref e0, .int 0, .int 0])), (q32, .inr (12, [.ref wq.1, .int (nI (N9.length + 1)), .int (mo1 + 1)])), (wq.1, .inl (cO, 10, .inr (.inr (.inr (.inr (va_up wq.2 N9.length (some q113))))))), (q113, .inr (7, [.int (nI (bN f n 1024 (8 * i) 16)), .int (nI (bN f n 1024 (8 * i + 19) 13)), .int (-1), .int (-1), .ref i9.1, .int 0, .long (-1), .ref i9.2]))] ++ (N9.flatMap (pgc cO e0) ++ (ex ++ (tplr cO e0 tb lv pr P.length pmo pst P ++ Q)))) := hD
                      refine lv_pop hx hb d_Tables_useList_135 rfl ?_
                      refine lv_iinc (k := 7) (v := nI (i + 4)) (lv' := [(4, .int (nI (i + 4))), (7, .null), (6, .int (nI (bN f n 1024 (8 * i + 19) 13))), (5, .int (nI (bN f n 1024 (8 * i) 16))), (0, .ref tb), (1, .ref h), (2, .int (vrV f n)), (3, .ref q32)]) hx hb d_Tables_useList_136 hl rfl (nI_add _ 4) (by decide) rfl (fun ls hl => ?_)
                      refine lv_goto (tgt := 44) hx hb d_Tables_useList_139 rfl ?_
                      have hP := hP.part (cx := [(h, .inr (0, [.ref a, .int (nI n)])), (a, .inl (cB, 1024, .inl f)), (q32, .inr (12, [.ref wq.1, .int (nI (N9.length + 1)), .int (mo1 + 1)])), (wq.1, .inl (cO, 10, .inr (.inr (.inr (.inr (va_up wq.2 N9.length (some q113))))))), (q113, .inr (7, [.int (nI (bN f n 1024 (8 * i) 16)), .int (nI (bN f n 1024 (8 * i + 19) 13)), .int (-1), .int (-1), .ref i9.1, .int 0, .long (-1), .ref i9.2])), (i9.2, .inr (12, [.ref e0, .int 0, .int 0])), (i9.1, .inr (12, [.ref e0, .int 0, .int 0]))]) [0, 1, 4, 5, 6, 3, 2] rfl
                      have hD := hD.part (cx := [(h, .inr (0, [.ref a, .int (nI n)])), (a, .inl (cB, 1024, .inl f)), (q32, .inr (12, [.ref wq.1, .int (nI (N9.length + 1)), .int (mo1 + 1)])), (wq.1, .inl (cO, 10, .inr (.inr (.inr (.inr (va_up wq.2 N9.length (some q113))))))), (q113, .inr (7, [.int (nI (bN f n 1024 (8 * i) 16)), .int (nI (bN f n 1024 (8 * i + 19) 13)), .int (-1), .int (-1), .ref i9.1, .int 0, .long (-1), .ref i9.2])), (i9.2, .inr (12, [.ref e0, .int 0, .int 0])), (i9.1, .inr (12, [.ref e0, .int 0, .int 0]))]) [0, 1, 4, 5, 6, 3, 2] (by decide) rfl
                      have hP := z_Pp (li_perm (X := [(h, .inr (0, [.ref a, .int (nI n)])), (a, .inl (cB, 1024, .inl f))]) (N9 := N9) (x := (nwX q113 i9.1 i9.2 (nI (bN f n 1024 (8 * i) 16)) (bN f n 1024 (8 * i + 19) 13))) (s1 := [(i9.1, alE e0 0 0)]) (ex := ex)) (show va_P D classes ([(h, .inr (0, [.ref a, .int (nI n)])), (a, .inl (cB, 1024, .inl f))] ++ (wlc cO e0 q32 (N9.length + 1) (mo1 + 1) (some (wq.1, va_up wq.2 N9.length (some q113))) ++ (pgc cO e0 (nwX q113 i9.1 i9.2 (nI (bN f n 1024 (8 * i) 16)) (bN f n 1024 (8 * i + 19) 13)) ++ ([(i9.1, alE e0 0 0)] ++ (N9.flatMap (pgc cO e0) ++ (ex ++ (tplr cO e0 tb lv pr P.length pmo pst P ++ Q))))))) H from hP)
                      have hD := z_Dp (li_perm (X := [(h, .inr (0, [.ref a, .int (nI n)])), (a, .inl (cB, 1024, .inl f))]) (N9 := N9) (x := (nwX q113 i9.1 i9.2 (nI (bN f n 1024 (8 * i) 16)) (bN f n 1024 (8 * i + 19) 13))) (s1 := [(i9.1, alE e0 0 0)]) (ex := ex)) (show va_D A ([(h, .inr (0, [.ref a, .int (nI n)])), (a, .inl (cB, 1024, .inl f))] ++ (wlc cO e0 q32 (N9.length + 1) (mo1 + 1) (some (wq.1, va_up wq.2 N9.length (some q113))) ++ (pgc cO e0 (nwX q113 i9.1 i9.2 (nI (bN f n 1024 (8 * i) 16)) (bN f n 1024 (8 * i + 19) 13)) ++ ([(i9.1, alE e0 0 0)] ++ (N9.flatMap (pgc cO e0) ++ (ex ++ (tplr cO e0 tb lv pr P.length pmo pst P ++ Q))))))) from hD)
                      have hP : va_P D classes ([(h, .inr (0, [.ref a, .int (nI n)])), (a, .inl (cB, 1024, .inl f))] ++ (wlc cO e0 q32 ((N9 ++ [(nwX q113 i9.1 i9.2 (nI (bN f n 1024 (8 * i) 16)) (bN f n 1024 (8 * i + 19) 13))]).length) (mo1 + 1) (some (wq.1, va_up wq.2 N9.length (some q113))) ++ ((N9 ++ [(nwX q113 i9.1 i9.2 (nI (bN f n 1024 (8 * i) 16)) (bN f n 1024 (8 * i + 19) 13))]).flatMap (pgc cO e0) ++ (([(i9.1, alE e0 0 0)] ++ ex) ++ (tplr cO e0 tb lv pr P.length pmo pst P ++ Q))))) H := hP
                      have hD : va_D A ([(h, .inr (0, [.ref a, .int (nI n)])), (a, .inl (cB, 1024, .inl f))] ++ (wlc cO e0 q32 ((N9 ++ [(nwX q113 i9.1 i9.2 (nI (bN f n 1024 (8 * i) 16)) (bN f n 1024 (8 * i + 19) 13))]).length) (mo1 + 1) (some (wq.1, va_up wq.2 N9.length (some q113))) ++ ((N9 ++ [(nwX q113 i9.1 i9.2 (nI (bN f n 1024 (8 * i) 16)) (bN f n 1024 (8 * i + 19) 13))]).flatMap (pgc cO e0) ++ (([(i9.1, alE e0 0 0)] ++ ex) ++ (tplr cO e0 tb lv pr P.length pmo pst P ++ Q))))) := hD
                      refine W.widen (k := 1 + (scn (some (wq.1, va_up wq.2 N9.length (some q113))) + 4 * (N9 ++ [(nwX q113 i9.1 i9.2 (nI (bN f n 1024 (8 * i) 16)) (bN f n 1024 (8 * i + 19) 13))]).length)) (n := 3 + (10 * scn (some (wq.1, va_up wq.2 N9.length (some q113))) + 24 * (N9 ++ [(nwX q113 i9.1 i9.2 (nI (bN f n 1024 (8 * i) 16)) (bN f n 1024 (8 * i + 19) 13))]).length)) (by show 1 + (1 + 4 * N9.length) + 1 + 2 ≤ 1 + (1 + 4 * (N9 ++ [(nwX q113 i9.1 i9.2 (nI (bN f n 1024 (8 * i) 16)) (bN f n 1024 (8 * i + 19) 13))]).length); rw [List.length_append, List.length_singleton]; omega) (by show 3 + (10 * 1 + 24 * N9.length) + 8 + 6 ≤ 3 + (10 * 1 + 24 * (N9 ++ [(nwX q113 i9.1 i9.2 (nI (bN f n 1024 (8 * i) 16)) (bN f n 1024 (8 * i + 19) 13))]).length); rw [List.length_append, List.length_singleton]; omega) ?_
                      exact ih44 (fu - 1) (i + 4) (N9 ++ [(nwX q113 i9.1 i9.2 (nI (bN f n 1024 (8 * i) 16)) (bN f n 1024 (8 * i + 19) 13))]) (some (wq.1, va_up wq.2 N9.length (some q113))) (mo1 + 1) ([(i9.1, alE e0 0 0)] ++ ex) H locs ls (by omega) (by omega) (by rw [List.length_append, List.length_singleton]; omega) (by rw [List.length_append, List.length_singleton]; omega) (tok_app (N9 := N9) (Q := ex ++ Im) (g := wq.2) (x := (nwX q113 i9.1 i9.2 (nI (bN f n 1024 (8 * i) 16)) (bN f n 1024 (8 * i + 19) 13))) hN4 hlk9 hlk.2.2 (fun y hy => by rcases List.mem_append.mp hy with q | q; exact List.mem_append_left _ (List.mem_append_right _ q); exact List.mem_append_right _ q) (li_nw hpid)) (awk_app haN (Or.inl rfl)) (li_step hrun h50 hN4 (by omega) h94 (li_new (fun j hj => by have z9 := hfn j (by rw [pvw_len]; exact hj); rw [pvw_get hj] at z9; exact z9))) (lv_sub hl [4, 5, 6, 7, 0] rfl) hP hD hS
                    | some x110 =>
                      rw [h110] at hl
                      have hl : lv_has ls 8 [(7, .ref x110), (6, .int (nI (bN f n 1024 (8 * i + 19) 13))), (5, .int (nI (bN f n 1024 (8 * i) 16))), (0, .ref tb), (1, .ref h), (2, .int (vrV f n)), (3, .ref q32), (4, .int (nI i))] := hl
                      try rw [h110]
                      refine lv_ifnonnull (x := x110) (tgt := 127) hx hb d_Tables_useList_110 rfl ?_
                      rcases e102 with ⟨e102, -⟩ | ⟨j, hj, hh, hf, he⟩
                      · rw [h110] at e102; cases e102
                      rw [h110] at he
                      rw [pvw_len] at hj
                      rw [pvw_get hj] at hh he
                      obtain ⟨x, hxe⟩ : ∃ x : PR9, x = P.getD j pr9 := ⟨_, rfl⟩
                      rw [← hxe] at hh he
                      have hxm := p_mem hj
                      rw [← hxe] at hxm
                      have hpk := htk.2.2 x hxm
                      have hff : fst9 P (nI (bN f n 1024 (8 * i) 16)) (bN f n 1024 (8 * i + 19) 13) j := ⟨hj, by rw [← hxe]; exact hh, fun i hi => by have z9 := hf i hi; rw [pvw_get (by omega)] at z9; exact z9⟩
                      obtain rfl : x110 = x.1.1 := Option.some.inj he
                      have hpm : (x.1.1, pgE x.1) ∈ N9.flatMap (pgc cO e0) ++ (ex ++ (tplr cO e0 tb lv pr P.length pmo pst P ++ Q)) := List.mem_append_right _ (List.mem_append_right _ (tp_memP (X := []) hxm List.mem_cons_self))
                      obtain ⟨q1, hq1⟩ := List.getElem?_of_mem (List.mem_append_right [(h, .inr (0, [.ref a, .int (nI n)])), (a, .inl (cB, 1024, .inl f)), (q32, .inr (12, [.ref wq.1, .int (nI N9.length), .int mo1])), (wq.1, .inl (cO, 10, .inr (.inr (.inr (.inr wq.2)))))] hpm)
                      have hw0 : isW (wlc cO e0 x.1.2.2.2.2.2.2.2.2 x.2.2.1.length x.2.2.2.1 x.2.2.2.2 ++ Im) cO x.1.2.2.2.2.2.2.2.2 x.2.2.1 := wk_isW (X := []) hpk.2.2.1 hpk.2.2.2.1
                      have hwW : isW (N9.flatMap (pgc cO e0) ++ (ex ++ (tplr cO e0 tb lv pr P.length pmo pst P ++ Q))) cO x.1.2.2.2.2.2.2.2.2 x.2.2.1 := isW_mono hw0 (fun y hy => by rcases List.mem_append.mp hy with q | q; exact List.mem_append_right _ (List.mem_append_right _ (tp_memP (X := []) hxm (List.mem_cons_of_mem _ q))); exact List.mem_append_right _ (List.mem_append_right _ (List.mem_append_right _ (hIm y q))))
                      refine lv_aload hx hb d_Tables_useList_127 (lv_at hl 0 rfl) ?_
                      have hPc := hP.part (cx := []) [] rfl
                      have hKc := hK.sub (tys' := [(cO, .object "java/lang/Object")]) [1] rfl
                      have hDc := hD.part (cx := []) [] (by decide) rfl
                      have hFc := va_freeP (cx := []) hD hS hA [] rfl
                      refine va_callr (va_runV (As := []) (rest := [.ref q32]) ⟨hx, hb, hml, hown, hts⟩ (c_Programme_copied l D B0 hG H.size cO e0 (N9.flatMap (pgc cO e0) ++ (ex ++ (tplr cO e0 tb lv pr P.length pmo pst P ++ Q))) x.1 x.2.2.1 he0 hpm hwW (haw x hxm)) (z_cV hN wd_617 wd_82 wd_614 hd_Programme_copied rfl rfl ⟨Nat.le_of_ble_eq_true rfl, Nat.le_of_ble_eq_true rfl⟩ wd_615 wd_616) (z_preVo (va_recv (ci := 7) (q0 := q1) hK hP rfl hq1) hPc hKc hN hDc hO hS hAO) rfl rfl hl.1 rfl (lv_room (Nat.le_of_ble_eq_true rfl)) d_Tables_useList_129 ⟨by show 1 + (1 + 4 * N9.length) + 4 ≤ llC n; omega, by show 3 + (10 * 1 + 24 * N9.length) + 24 ≤ llS n; omega⟩) hS (fun q _ h => hFc q h) hFc (fun c9 r129 t H locs ht hvm e129 hB hz1 hk1 hS => ?_)
                      obtain ⟨hP1, hK1, hD1⟩ := hB
                      rw [ht] at hP1
                      obtain ⟨hP, hD⟩ := va_joinP (wr := [(h, .inr (0, [.ref a, .int (nI n)])), (a, .inl (cB, 1024, .inl f)), (q32, .inr (12, [.ref wq.1, .int (nI N9.length), .int mo1])), (wq.1, .inl (cO, 10, .inr (.inr (.inr (.inr wq.2)))))]) (rx := [(r129, .inr (7, [.int x.1.2.1, .int (nI x.1.2.2.1), .int x.1.2.2.2.1, .int x.1.2.2.2.2.1, .ref x.1.2.2.2.2.2.1, .int x.1.2.2.2.2.2.2.1, .long x.1.2.2.2.2.2.2.2.1, .ref c9.1]))]) hP hD [] [0, 1, 2, 3] rfl rfl (by decide) (by decide) hk1 hFc hP1 hD1
                      clear hk1 hP1 hD1 hFc hPc hDc hz1
                      have hP : va_P D classes ([(h, .inr (0, [.ref a, .int (nI n)])), (a, .inl (cB, 1024, .inl f)), (q32, .inr (12, [.ref wq.1, .int (nI N9.length), .int mo1])), (wq.1, .inl (cO, 10, .inr (.inr (.inr (.inr wq.2))))), (r129, .inr (7, [.int x.1.2.1, .int (nI x.1.2.2.1), .int x.1.2.2.2.1, .int x.1.2.2.2.2.1, .ref x.1.2.2.2.2.2.1, .int x.1.2.2.2.2.2.2.1, .long x.1.2.2.2.2.2.2.2.1, .ref c9.1]))] ++ (wlc cO e0 c9.1 x.2.2.1.length c9.2.1 c9.2.2 ++ (N9.flatMap (pgc cO e0) ++ (ex ++ (tplr cO e0 tb lv pr P.length pmo pst P ++ Q))))) H := hP
                      have hD : va_D A ([(h, .inr (0, [.ref a, .int (nI n)])), (a, .inl (cB, 1024, .inl f)), (q32, .inr (12, [.ref wq.1, .int (nI N9.length), .int mo1])), (wq.1, .inl (cO, 10, .inr (.inr (.inr (.inr wq.2))))), (r129, .inr (7, [.int x.1.2.1, .int (nI x.1.2.2.1), .int x.1.2.2.2.1, .int x.1.2.2.2.2.1, .ref x.1.2.2.2.2.2.1, .int x.1.2.2.2.2.2.2.1, .long x.1.2.2.2.2.2.2.2.1, .ref c9.1]))] ++ (wlc cO e0 c9.1 x.2.2.1.length c9.2.1 c9.2.2 ++ (N9.flatMap (pgc cO e0) ++ (ex ++ (tplr cO e0 tb lv pr P.length pmo pst P ++ Q))))) := hD
                      have hPc := hP.sub (ws' := [(q32, .inr (12, [.ref wq.1, .int (nI N9.length), .int mo1])), (wq.1, .inl (cO, 10, .inr (.inr (.inr (.inr wq.2))))), (r129, .inr (7, [.int x.1.2.1, .int (nI x.1.2.2.1), .int x.1.2.2.2.1, .int x.1.2.2.2.2.1, .ref x.1.2.2.2.2.2.1, .int x.1.2.2.2.2.2.2.1, .long x.1.2.2.2.2.2.2.2.1, .ref c9.1]))]) [2, 3, 4] rfl
                      have hKc := hK.sub (tys' := [(cO, .object "java/lang/Object")]) [1] rfl
                      have hDc := hD.sub (ws' := [(q32, .inr (12, [.ref wq.1, .int (nI N9.length), .int mo1])), (wq.1, .inl (cO, 10, .inr (.inr (.inr (.inr wq.2))))), (r129, .inr (7, [.int x.1.2.1, .int (nI x.1.2.2.1), .int x.1.2.2.2.1, .int x.1.2.2.2.2.1, .ref x.1.2.2.2.2.2.1, .int x.1.2.2.2.2.2.2.1, .long x.1.2.2.2.2.2.2.2.1, .ref c9.1]))]) [2, 3, 4] (by decide) rfl
                      have hFc := va_free (wc := [(q32, .inr (12, [.ref wq.1, .int (nI N9.length), .int mo1])), (wq.1, .inl (cO, 10, .inr (.inr (.inr (.inr wq.2))))), (r129, .inr (7, [.int x.1.2.1, .int (nI x.1.2.2.1), .int x.1.2.2.2.1, .int x.1.2.2.2.2.1, .ref x.1.2.2.2.2.2.1, .int x.1.2.2.2.2.2.2.1, .long x.1.2.2.2.2.2.2.2.1, .ref c9.1]))]) hD hS hA [2, 3, 4] rfl
                      refine va_calli (va_runV (As := [.ref r129]) (rest := []) ⟨hx, hb, hml, hown, hts⟩ (c_AL_add0 l D H.size cO q32 wq.1 N9.length mo1 wq.2 r129 7 [.int x.1.2.1, .int (nI x.1.2.2.1), .int x.1.2.2.2.1, .int x.1.2.2.2.2.1, .ref x.1.2.2.2.2.2.1, .int x.1.2.2.2.2.2.2.1, .long x.1.2.2.2.2.2.2.2.1, .ref c9.1] (R_Programme, F_Programme, 8) (by omega) rfl wd_1501) (z_cV hN wd_465 wd_66 wd_620 hd_AL_add0 rfl rfl ⟨Nat.le_of_ble_eq_true rfl, Nat.le_of_ble_eq_true rfl⟩ wd_463 wd_464) (z_preVm (va_recv (ci := 12) (q0 := 2) hK hP rfl rfl) hPc hKc hN hDc) rfl rfl hl.1 rfl (lv_room (Nat.le_of_ble_eq_true rfl)) d_Tables_useList_132 ⟨by show 1 + (1 + 4 * N9.length) + 4 + 0 ≤ llC n; omega, by show 3 + (10 * 1 + 24 * N9.length) + 24 + 0 ≤ llS n; omega⟩) hS (fun q _ h => hFc q h) hFc (fun r132 u132 t H locs ht hvm e132 hB hz1 hk1 hS => ?_)
                      obtain ⟨hP1, hK1, hD1⟩ := hB
                      rw [ht] at hP1
                      obtain ⟨hP, hD⟩ := va_joinQ (cx := [(q32, .inr (12, [.ref wq.1, .int (nI N9.length), .int mo1])), (wq.1, .inl (cO, 10, .inr (.inr (.inr (.inr wq.2))))), (r129, .inr (7, [.int x.1.2.1, .int (nI x.1.2.2.1), .int x.1.2.2.2.1, .int x.1.2.2.2.2.1, .ref x.1.2.2.2.2.2.1, .int x.1.2.2.2.2.2.2.1, .long x.1.2.2.2.2.2.2.2.1, .ref c9.1]))]) (wr := [(h, .inr (0, [.ref a, .int (nI n)])), (a, .inl (cB, 1024, .inl f))]) (w1 := [(q32, .inr (12, [.ref wq.1, .int (nI (N9.length + 1)), .int (mo1 + 1)])), (wq.1, .inl (cO, 10, .inr (.inr (.inr (.inr (va_up wq.2 N9.length (some r129))))))), (r129, .inr (7, [.int x.1.2.1, .int (nI x.1.2.2.1), .int x.1.2.2.2.1, .int x.1.2.2.2.2.1, .ref x.1.2.2.2.2.2.1, .int x.1.2.2.2.2.2.2.1, .long x.1.2.2.2.2.2.2.2.1, .ref c9.1]))]) hP hD [2, 3, 4] [0, 1] rfl rfl (by decide) (by decide) hk1 hFc hP1 hD1
                      clear hk1 hP1 hD1 hFc hPc hDc hz1
                      have hP : va_P D classes ([(h, .inr (0, [.ref a, .int (nI n)])), (a, .inl (cB, 1024, .inl f)), (q32, .inr (12, [.ref wq.1, .int (nI (N9.length + 1)), .int (mo1 + 1)])), (wq.1, .inl (cO, 10, .inr (.inr (.inr (.inr (va_up wq.2 N9.length (some r129))))))), (r129, .inr (7, [.int x.1.2.1, .int (nI x.1.2.2.1), .int x.1.2.2.2.1, .int x.1.2.2.2.2.1, .ref x.1.2.2.2.2.2.1, .int x.1.2.2.2.2.2.2.1, .long x.1.2.2.2.2.2.2.2.1, .ref c9.1]))] ++ (wlc cO e0 c9.1 x.2.2.1.length c9.2.1 c9.2.2 ++ (N9.flatMap (pgc cO e0) ++ (ex ++ (tplr cO e0 tb lv pr P.length pmo pst P ++ Q))))) H := hP
                      have hD : va_D A ([(h, .inr (0, [.ref a, .int (nI n)])), (a, .inl (cB, 1024, .inl f)), (q32, .inr (12, [.ref wq.1, .int (nI (N9.length + 1)), .int (mo1 + 1)])), (wq.1, .inl (cO, 10, .inr (.inr (.inr (.inr (va_up wq.2 N9.length (some r129))))))), (r129, .inr (7, [.int x.1.2.1, .int (nI x.1.2.2.1), .int x.1.2.2.2.1, .int x.1.2.2.2.2.1, .ref x.1.2.2.2.2.2.1, .int x.1.2.2.2.2.2.2.1, .long x.1.2.2.2.2.2.2.2.1, .ref c9.1]))] ++ (wlc cO e0 c9.1 x.2.2.1.length c9.2.1 c9.2.2 ++ (N9.flatMap (pgc cO e0) ++ (ex ++ (tplr cO e0 tb lv pr P.length pmo pst P ++ Q))))) := hD
                      refine lv_pop hx hb d_Tables_useList_135 rfl ?_
                      refine lv_iinc (k := 7) (v := nI (i + 4)) (lv' := [(4, .int (nI (i + 4))), (7, .ref x.1.1), (6, .int (nI (bN f n 1024 (8 * i + 19) 13))), (5, .int (nI (bN f n 1024 (8 * i) 16))), (0, .ref tb), (1, .ref h), (2, .int (vrV f n)), (3, .ref q32)]) hx hb d_Tables_useList_136 hl rfl (nI_add _ 4) (by decide) rfl (fun ls hl => ?_)
                      refine lv_goto (tgt := 44) hx hb d_Tables_useList_139 rfl ?_
                      have hP := z_Pp (li_perm (X := [(h, .inr (0, [.ref a, .int (nI n)])), (a, .inl (cB, 1024, .inl f))]) (N9 := N9) (x := (cpX r129 c9.1 x c9.2.1 c9.2.2)) (s1 := []) (ex := ex)) (show va_P D classes ([(h, .inr (0, [.ref a, .int (nI n)])), (a, .inl (cB, 1024, .inl f))] ++ (wlc cO e0 q32 (N9.length + 1) (mo1 + 1) (some (wq.1, va_up wq.2 N9.length (some r129))) ++ (pgc cO e0 (cpX r129 c9.1 x c9.2.1 c9.2.2) ++ ([] ++ (N9.flatMap (pgc cO e0) ++ (ex ++ (tplr cO e0 tb lv pr P.length pmo pst P ++ Q))))))) H from hP)
                      have hD := z_Dp (li_perm (X := [(h, .inr (0, [.ref a, .int (nI n)])), (a, .inl (cB, 1024, .inl f))]) (N9 := N9) (x := (cpX r129 c9.1 x c9.2.1 c9.2.2)) (s1 := []) (ex := ex)) (show va_D A ([(h, .inr (0, [.ref a, .int (nI n)])), (a, .inl (cB, 1024, .inl f))] ++ (wlc cO e0 q32 (N9.length + 1) (mo1 + 1) (some (wq.1, va_up wq.2 N9.length (some r129))) ++ (pgc cO e0 (cpX r129 c9.1 x c9.2.1 c9.2.2) ++ ([] ++ (N9.flatMap (pgc cO e0) ++ (ex ++ (tplr cO e0 tb lv pr P.length pmo pst P ++ Q))))))) from hD)
                      have hP : va_P D classes ([(h, .inr (0, [.ref a, .int (nI n)])), (a, .inl (cB, 1024, .inl f))] ++ (wlc cO e0 q32 ((N9 ++ [(cpX r129 c9.1 x c9.2.1 c9.2.2)]).length) (mo1 + 1) (some (wq.1, va_up wq.2 N9.length (some r129))) ++ ((N9 ++ [(cpX r129 c9.1 x c9.2.1 c9.2.2)]).flatMap (pgc cO e0) ++ (([] ++ ex) ++ (tplr cO e0 tb lv pr P.length pmo pst P ++ Q))))) H := hP
                      have hD : va_D A ([(h, .inr (0, [.ref a, .int (nI n)])), (a, .inl (cB, 1024, .inl f))] ++ (wlc cO e0 q32 ((N9 ++ [(cpX r129 c9.1 x c9.2.1 c9.2.2)]).length) (mo1 + 1) (some (wq.1, va_up wq.2 N9.length (some r129))) ++ ((N9 ++ [(cpX r129 c9.1 x c9.2.1 c9.2.2)]).flatMap (pgc cO e0) ++ (([] ++ ex) ++ (tplr cO e0 tb lv pr P.length pmo pst P ++ Q))))) := hD
                      refine W.widen (k := 1 + (scn (some (wq.1, va_up wq.2 N9.length (some r129))) + 4 * (N9 ++ [(cpX r129 c9.1 x c9.2.1 c9.2.2)]).length)) (n := 3 + (10 * scn (some (wq.1, va_up wq.2 N9.length (some r129))) + 24 * (N9 ++ [(cpX r129 c9.1 x c9.2.1 c9.2.2)]).length)) (by show 1 + (1 + 4 * N9.length) + 4 ≤ 1 + (1 + 4 * (N9 ++ [(cpX r129 c9.1 x c9.2.1 c9.2.2)]).length); rw [List.length_append, List.length_singleton]; omega) (by show 3 + (10 * 1 + 24 * N9.length) + 24 ≤ 3 + (10 * 1 + 24 * (N9 ++ [(cpX r129 c9.1 x c9.2.1 c9.2.2)]).length); rw [List.length_append, List.length_singleton]; omega) ?_
                      exact ih44 (fu - 1) (i + 4) (N9 ++ [(cpX r129 c9.1 x c9.2.1 c9.2.2)]) (some (wq.1, va_up wq.2 N9.length (some r129))) (mo1 + 1) ([] ++ ex) H locs ls (by omega) (by omega) (by rw [List.length_append, List.length_singleton]; omega) (by rw [List.length_append, List.length_singleton]; omega) (tok_app (N9 := N9) (Q := ex ++ Im) (g := wq.2) (x := (cpX r129 c9.1 x c9.2.1 c9.2.2)) hN4 hlk9 hlk.2.2 (fun y hy => by rcases List.mem_append.mp hy with q | q; exact List.mem_append_left _ (List.mem_append_right _ q); exact List.mem_append_right _ q) (li_cp hpk e129)) (awk_app haN (haw x hxm)) (li_step hrun h50 hN4 (by omega) h94 ((li_old hff).trans (by rw [← hxe]; rfl))) (lv_sub hl [4, 5, 6, 7, 0] rfl) hP hD hS
        exact loop44 _ 255 8 [] none 0 [] H locs ls (Nat.lt_succ_self _) rfl (by show 4 * 0 + 8 ≤ 8; omega) (Nat.zero_le _) (⟨by show 0 ≤ 4; omega, rfl, fun x hx => by cases hx⟩) (fun x hx => by cases hx) rfl (lv_sub hl [3, 4, 2, 1, 0] rfl) hP hD hS
      · have h27 : ¬ n % 4 = 0 := fun q => h27 (by rw [q]; rfl)
        refine lv_iconst (v := 0) hx hb d_Tables_useList_30 (by decide) ?_
        have hP9 := hP.part (cx := [(h, .inr (0, [.ref a, .int (nI n)])), (a, .inl (cB, 1024, .inl f))]) [0, 1] rfl
        have hD9 := hD.part (cx := [(h, .inr (0, [.ref a, .int (nI n)])), (a, .inl (cB, 1024, .inl f))]) [0, 1] (by decide) rfl
        have hK9 := hK.sub (tys' := [(cB, .byte), (cO, .object "java/lang/Object")]) [0, 1] rfl
        refine W.widen (k := llC n) (n := llS n) (by show 0 ≤ llC n; omega) (by show 0 ≤ llS n; omega) ?_
        exact W.zret (v := 0) hx hb hr rfl (fun t ht hW => ⟨⟨_, (lv, pr, pmo, pst, P, []), rfl, ⟨Or.inl ⟨rfl, (by first | exact fun q => h10 q.1 | exact fun q => q.2.1 h18 | exact fun q => h27 q.2.2), rfl⟩, htk, haw⟩, ⟨by rw [ht]; exact hP9, va_K.moved hW.alike hK9, hD9⟩⟩, hS.F ht⟩) hS.2.2 d_Tables_useList_31

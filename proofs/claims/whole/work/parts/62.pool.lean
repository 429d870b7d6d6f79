/-! Worlds up to order; lanes, a bundle of cells each. -/
theorem z_Pm {D : va_G} {cl : List vw_C} {ws ws' : va_W} {H : Heap} (h : ∀ x ∈ ws', x ∈ ws) (hP : va_P D cl ws H) : va_P D cl ws' H := fun k q hk => by
  obtain ⟨j, hj⟩ := List.getElem?_of_mem (h q (List.mem_of_getElem? hk))
  exact hP j q hj
theorem z_Dnd {A : Nat → Prop} {ws : va_W} : va_D A ws ↔ (ws.map Prod.fst).Nodup ∧ ∀ x ∈ ws, A x.1 := by
  constructor
  · intro h
    refine ⟨List.pairwise_iff_getElem.mpr (fun i j hi hj hij e => ?_), fun x hx => ?_⟩
    · rw [List.length_map] at hi hj
      have := h.1 i j ws[i] ws[j] (List.getElem?_eq_getElem hi) (List.getElem?_eq_getElem hj) (by simpa using e)
      omega
    · obtain ⟨k, hk⟩ := List.getElem?_of_mem hx
      exact h.2 k x hk
  · intro ⟨h1, h2⟩
    refine ⟨fun i j p q hp hq e => ?_, fun k q hk => h2 q (List.mem_of_getElem? hk)⟩
    obtain ⟨hi, rfl⟩ := List.getElem?_eq_some_iff.mp hp
    obtain ⟨hj, rfl⟩ := List.getElem?_eq_some_iff.mp hq
    rcases Nat.lt_trichotomy i j with c | c | c
    · exact absurd (by rw [List.getElem_map, List.getElem_map]; exact e) (List.pairwise_iff_getElem.mp h1 i j (by simpa using hi) (by simpa using hj) c)
    · exact c
    · exact absurd (by rw [List.getElem_map, List.getElem_map]; exact e.symm) (List.pairwise_iff_getElem.mp h1 j i (by simpa using hj) (by simpa using hi) c)
theorem z_Pp {D : va_G} {cl : List vw_C} {ws ws' : va_W} {H : Heap} (h : ws.Perm ws') (hP : va_P D cl ws H) : va_P D cl ws' H := z_Pm (fun _ hx => h.mem_iff.mpr hx) hP
theorem z_Dp {A : Nat → Prop} {ws ws' : va_W} (h : ws.Perm ws') (hD : va_D A ws) : va_D A ws' := by
  rw [z_Dnd] at hD ⊢
  exact ⟨((h.map Prod.fst).nodup_iff).mp hD.1, fun x hx => hD.2 x (h.mem_iff.mpr hx)⟩
/-- a section that is gathered: its row, its bytes, how many, the bytes -/
abbrev SQ9 : Type := Nat × Nat × Nat × (Nat → Int32)
/-- a piece's object: open, pid, kind, time, bytes, sum, due -/
abbrev PQ9 : Type := Nat × Int32 × Int32 × Int32 × Int64 × Int32 × Int32 × Int32
/-- a lane: its address, pid, next, count, twin, clock, written, section, piece -/
abbrev LZ : Type := Nat × Nat × Option Nat × Int32 × Int32 × Int64 × Int32 × Option SQ9 × Option PQ9
def lzV (z : LZ) : List Value := [.int (nI z.2.1), va_rf z.2.2.1, .int z.2.2.2.1, .int z.2.2.2.2.1, .long z.2.2.2.2.2.1, .int z.2.2.2.2.2.2.1, va_rf (z.2.2.2.2.2.2.2.1.map (fun q => q.1)), va_rf (z.2.2.2.2.2.2.2.2.map (fun q => q.1))]
def lzS (cB : ClassId) : Option SQ9 → va_W
  | none => []
  | some q => [(q.1, .inr (0, [.ref q.2.1, .int (nI q.2.2.1)])), (q.2.1, .inl (cB, 1024, .inl q.2.2.2))]
def lzI : Option PQ9 → va_W
  | none => []
  | some q => [(q.1, .inr (3, [.int q.2.1, .int q.2.2.1, .int q.2.2.2.1, .long q.2.2.2.2.1, .int q.2.2.2.2.2.1, .int q.2.2.2.2.2.2.1, .int q.2.2.2.2.2.2.2]))]
def lzc (cB : ClassId) (z : LZ) : va_W := (z.1, .inr (1, lzV z)) :: (lzS cB z.2.2.2.2.2.2.2.1 ++ lzI z.2.2.2.2.2.2.2.2)
def lpl (cB : ClassId) (Ls : List LZ) : va_W := Ls.flatMap (lzc cB)
/-- the newest lane of a chain -/
def lhd (k : Nat) : List LZ → Option Nat
  | [] => none
  | z :: t => if z.2.1 % 256 = k then some z.1 else lhd k t
def lok : List LZ → Prop
  | [] => True
  | z :: t => z.2.1 < 8192 ∧ z.2.2.1 = lhd (z.2.1 % 256) t ∧ (∀ y ∈ t, y.2.1 ≠ z.2.1) ∧ lok t
def lnF (Ls : List LZ) (pid : Nat) : Option Nat := (Ls.find? (fun z => z.2.1 == pid)).map (fun z => z.1)
theorem lhd_some {k a : Nat} : ∀ {T : List LZ}, lhd k T = some a → ∃ T1 z T2, T = T1 ++ z :: T2 ∧ z.1 = a ∧ z.2.1 % 256 = k ∧ ∀ y ∈ T1, ¬ y.2.1 % 256 = k
  | [], h => by cases h
  | y :: t, h => by
    by_cases c : y.2.1 % 256 = k
    · rw [lhd, if_pos c] at h
      cases h
      exact ⟨[], y, t, rfl, rfl, c, fun _ h => by cases h⟩
    · rw [lhd, if_neg c] at h
      obtain ⟨T1, z, T2, e, h1, h2, h3⟩ := lhd_some h
      refine ⟨y :: T1, z, T2, by rw [e]; rfl, h1, h2, fun x hx => ?_⟩
      rcases List.mem_cons.mp hx with rfl | hx
      · exact c
      · exact h3 x hx
theorem lhd_none {k : Nat} : ∀ {T : List LZ}, lhd k T = none → ∀ y ∈ T, ¬ y.2.1 % 256 = k
  | [], _, y, h => by cases h
  | x :: t, h, y, hy => by
    by_cases c : x.2.1 % 256 = k
    · rw [lhd, if_pos c] at h; cases h
    · rw [lhd, if_neg c] at h
      rcases List.mem_cons.mp hy with rfl | hy
      · exact c
      · exact lhd_none h y hy
theorem lok_app {z : LZ} {T2 : List LZ} : ∀ {T1 : List LZ}, lok (T1 ++ z :: T2) → z.2.1 < 8192 ∧ z.2.2.1 = lhd (z.2.1 % 256) T2 ∧ lok T2
  | [], h => ⟨h.1, h.2.1, h.2.2.2⟩
  | _ :: t, h => lok_app (T1 := t) h.2.2.2
theorem lf_none {Ls : List LZ} {pid : Nat} (h : ∀ y ∈ Ls, y.2.1 ≠ pid) : lnF Ls pid = none := by
  unfold lnF
  rw [List.find?_eq_none.mpr (fun y hy => by simpa using h y hy)]
  rfl
theorem lf_some {A B : List LZ} {z : LZ} {pid : Nat} (h : ∀ y ∈ A, y.2.1 ≠ pid) (hz : z.2.1 = pid) : lnF (A ++ z :: B) pid = some z.1 := by
  unfold lnF
  rw [List.find?_append, List.find?_eq_none.mpr (fun y hy => by simpa using h y hy), List.find?_cons_of_pos (by simpa using hz)]
  rfl
theorem lp_get {X Q : va_W} {cB : ClassId} {Ls : List LZ} {z : LZ} (h : z ∈ Ls) : ∃ q0 : Nat, (X ++ (lpl cB Ls ++ Q))[q0]? = some (z.1, .inr (1, lzV z)) := by
  apply List.getElem?_of_mem
  refine List.mem_append_right _ (List.mem_append_left _ (List.mem_flatMap.mpr ⟨z, h, ?_⟩))
  exact List.mem_cons_self
theorem lp_foc {X Q : va_W} {cB : ClassId} {T1 T2 : List LZ} {z : LZ} : (X ++ (lpl cB (T1 ++ z :: T2) ++ Q)).Perm ((X ++ lzc cB z) ++ (lpl cB (T1 ++ T2) ++ Q)) := by
  unfold lpl
  rw [List.flatMap_append, List.flatMap_cons, List.flatMap_append, List.append_assoc X]
  refine List.Perm.append_left X ?_
  rw [← List.append_assoc (lzc cB z)]
  exact List.Perm.append_right Q (List.perm_append_comm_assoc _ _ _)
theorem lp_unf {X Q : va_W} {cB : ClassId} {T1 T2 : List LZ} {z : LZ} : ((X ++ lzc cB z) ++ (lpl cB (T1 ++ T2) ++ Q)).Perm (X ++ (lpl cB (T1 ++ z :: T2) ++ Q)) := lp_foc.symm

theorem lf_pre {Q9 T1 : List LZ} {pid zp : Nat} (h1 : ∀ y ∈ Q9, y.2.1 ≠ pid) (h2 : ∀ y ∈ T1, ¬ y.2.1 % 256 = pid % 256) (_ : zp = pid) (_ : zp % 256 = pid % 256) : ∀ y ∈ Q9 ++ T1, y.2.1 ≠ pid := by
  intro y hy
  rcases List.mem_append.mp hy with q | q
  · exact h1 y q
  · exact fun e => h2 y q (by rw [e])
theorem lf_go {Q9 T1 : List LZ} {z : LZ} {pid : Nat} (h1 : ∀ y ∈ Q9, y.2.1 ≠ pid) (h2 : ∀ y ∈ T1, ¬ y.2.1 % 256 = pid % 256) (h3 : ¬ z.2.1 = pid) (_ : z.2.1 % 256 = pid % 256) : ∀ y ∈ (Q9 ++ T1) ++ [z], y.2.1 ≠ pid := by
  intro y hy
  rcases List.mem_append.mp hy with q | q
  · rcases List.mem_append.mp q with q | q
    · exact h1 y q
    · exact fun e => h2 y q (by rw [e])
  · rw [List.mem_singleton.mp q]; exact h3


/-! Giving up all lanes but one -/
def gvz (ka : Nat) (z : LZ) : LZ := if z.1 = ka then z else (z.1, z.2.1, z.2.2.1, z.2.2.2.1, z.2.2.2.2.1, z.2.2.2.2.2.1, z.2.2.2.2.2.2.1, guS z.2.2.2.2.2.2.2.1, guI z.2.2.2.2.2.2.2.2)
def gN (se : Option SQ9) (pi : Option PQ9) : Int32 := (if secN se = 0 then 0 else 1) + (if pieO pi = 0 then 0 else 1)
def addc (cn : Nat → Int32) (x : Int32) : Nat → Int32 := upd cn 8 (cn 8 + x)
theorem addc_0 (cn : Nat → Int32) : addc cn 0 = cn := by
  funext j
  unfold addc upd
  by_cases c : j = 8
  · rw [if_pos c, c, Int32.add_zero]
  · rw [if_neg c]
theorem addc_add (cn : Nat → Int32) (x y : Int32) : addc (addc cn x) y = addc cn (x + y) := by
  funext j
  unfold addc upd
  by_cases c : j = 8
  · rw [if_pos c, if_pos c, if_pos rfl, Int32.add_assoc]
  · rw [if_neg c, if_neg c, if_neg c]
theorem cup_8 (cn : Nat → Int32) : cup cn 8 = addc cn 1 := rfl
theorem guC_add (cn : Nat → Int32) (se : Option SQ9) (pi : Option PQ9) : guC cn se pi = addc cn (gN se pi) := by
  unfold guC gN
  rw [cup_8, cup_8]
  by_cases c1 : secN se = 0 <;> by_cases c2 : pieO pi = 0
  · rw [if_pos c1, if_pos c2, if_pos c1, if_pos c2, show (0 : Int32) + 0 = 0 from rfl, addc_0]
  · rw [if_pos c1, if_neg c2, if_pos c1, if_neg c2]; rfl
  · rw [if_neg c1, if_pos c2, if_neg c1, if_pos c2]; rfl
  · rw [if_neg c1, if_neg c2, if_neg c1, if_neg c2, addc_add]
def gNz (ka : Nat) (z : LZ) : Int32 := if z.1 = ka then 0 else gN z.2.2.2.2.2.2.2.1 z.2.2.2.2.2.2.2.2
def prc (ka j : Nat) (z : LZ) : LZ := if z.2.1 % 256 < j then gvz ka z else z
def pNz (ka j : Nat) (z : LZ) : Int32 := if z.2.1 % 256 < j then gNz ka z else 0
def pNs (ka j : Nat) : List LZ → Int32
  | [] => 0
  | z :: t => pNz ka j z + pNs ka j t
theorem pNs_app (ka j : Nat) (B : List LZ) : ∀ A : List LZ, pNs ka j (A ++ B) = pNs ka j A + pNs ka j B
  | [] => by rw [List.nil_append]; exact (Int32.zero_add _).symm
  | z :: t => by
    show pNz ka j z + pNs ka j (t ++ B) = (pNz ka j z + pNs ka j t) + pNs ka j B
    rw [pNs_app ka j B t, Int32.add_assoc]
theorem pr_same {ka j : Nat} : ∀ {T : List LZ}, (∀ y ∈ T, ¬ y.2.1 % 256 = j) → T.map (prc ka j) = T.map (prc ka (j + 1)) ∧ pNs ka j T = pNs ka (j + 1) T
  | [], _ => ⟨rfl, rfl⟩
  | z :: t, h => by
    have h1 := pr_same (ka := ka) (fun y hy => h y (List.mem_cons_of_mem _ hy))
    have h2 := h z List.mem_cons_self
    have e : z.2.1 % 256 < j ↔ z.2.1 % 256 < j + 1 := by omega
    refine ⟨?_, ?_⟩
    · rw [List.map_cons, List.map_cons, h1.1]
      congr 1
      unfold prc
      by_cases c : z.2.1 % 256 < j
      · rw [if_pos c, if_pos (e.mp c)]
      · rw [if_neg c, if_neg (mt e.mpr c)]
    · show pNz ka j z + pNs ka j t = pNz ka (j + 1) z + pNs ka (j + 1) t
      rw [h1.2]
      congr 1
      unfold pNz
      by_cases c : z.2.1 % 256 < j
      · rw [if_pos c, if_pos (e.mp c)]
      · rw [if_neg c, if_neg (mt e.mpr c)]
theorem pr_0 (ka : Nat) (T : List LZ) : T.map (prc ka 0) = T := by
  have : prc ka 0 = id := by funext z; unfold prc; rw [if_neg (Nat.not_lt_zero _)]; rfl
  rw [this, List.map_id]
theorem pN_0 (ka : Nat) : ∀ T : List LZ, pNs ka 0 T = 0
  | [] => rfl
  | z :: t => by
    show pNz ka 0 z + pNs ka 0 t = 0
    rw [pN_0 ka t, Int32.add_zero]
    unfold pNz
    rw [if_neg (Nat.not_lt_zero _)]
theorem pr_256 (ka : Nat) (T : List LZ) : T.map (prc ka 256) = T.map (gvz ka) := by
  congr 1
  funext z
  unfold prc
  rw [if_pos (Nat.mod_lt _ (by decide))]
/-- the lanes as they are when chain j was gone through as far as T -/
def gLs (ka j : Nat) (Q9 T : List LZ) : List LZ := Q9.map (prc ka (j + 1)) ++ T.map (prc ka j)
def gNs (ka j : Nat) (Q9 T : List LZ) : Int32 := pNs ka (j + 1) Q9 + pNs ka j T
theorem gL_next {ka j : Nat} {Q9 T : List LZ} (h : ∀ y ∈ T, ¬ y.2.1 % 256 = j) : gLs ka j Q9 T = gLs ka (j + 1) [] (Q9 ++ T) ∧ gNs ka j Q9 T = gNs ka (j + 1) [] (Q9 ++ T) := by
  have h1 := pr_same (ka := ka) h
  unfold gLs gNs
  refine ⟨?_, ?_⟩
  · rw [h1.1, List.map_append]; rfl
  · rw [h1.2, pNs_app]
    exact (Int32.zero_add _).symm
theorem prc_z {ka j : Nat} {z : LZ} (h : z.2.1 % 256 = j) : prc ka j z = z ∧ prc ka (j + 1) z = gvz ka z ∧ pNz ka j z = 0 ∧ pNz ka (j + 1) z = gNz ka z := by
  unfold prc pNz
  rw [if_neg (by omega), if_pos (by omega), if_neg (by omega), if_pos (by omega)]
  exact ⟨rfl, rfl, rfl, rfl⟩
theorem gL_split {ka j : Nat} {Q9 T1 T2 : List LZ} {z : LZ} (hz : z.2.1 % 256 = j) : gLs ka j Q9 (T1 ++ z :: T2) = (Q9.map (prc ka (j + 1)) ++ T1.map (prc ka j)) ++ z :: T2.map (prc ka j) := by
  unfold gLs
  rw [List.map_append, List.map_cons, (prc_z hz).1, List.append_assoc]
theorem gL_step {ka j : Nat} {Q9 T1 T2 : List LZ} {z : LZ} (hT1 : ∀ y ∈ T1, ¬ y.2.1 % 256 = j) (hz : z.2.1 % 256 = j) : gLs ka j ((Q9 ++ T1) ++ [z]) T2 = (Q9.map (prc ka (j + 1)) ++ T1.map (prc ka j)) ++ gvz ka z :: T2.map (prc ka j) ∧ gNs ka j ((Q9 ++ T1) ++ [z]) T2 = gNs ka j Q9 (T1 ++ z :: T2) + gNz ka z := by
  have h1 := pr_same (ka := ka) hT1
  have h2 := prc_z (ka := ka) hz
  refine ⟨?_, ?_⟩
  · unfold gLs
    rw [List.map_append, List.map_append, h1.1, List.map_cons, h2.2.1, List.map_nil]
    simp
  · unfold gNs
    rw [pNs_app, pNs_app, pNs_app, ← h1.2]
    show (pNs ka (j + 1) Q9 + pNs ka j T1 + (pNz ka (j + 1) z + 0)) + pNs ka j T2 = (pNs ka (j + 1) Q9 + (pNs ka j T1 + (pNz ka j z + pNs ka j T2))) + gNz ka z
    rw [h2.2.2.1, h2.2.2.2, Int32.add_zero, Int32.zero_add]
    simp only [Int32.add_assoc]
    congr 1
    congr 1
    exact Int32.add_comm _ _
theorem gv_ne {ka : Nat} {z : LZ} (h : ¬ z.1 = ka) : gvz ka z = (z.1, z.2.1, z.2.2.1, z.2.2.2.1, z.2.2.2.2.1, z.2.2.2.2.2.1, z.2.2.2.2.2.2.1, guS z.2.2.2.2.2.2.2.1, guI z.2.2.2.2.2.2.2.2) ∧ gNz ka z = gN z.2.2.2.2.2.2.2.1 z.2.2.2.2.2.2.2.2 := by
  unfold gvz gNz
  rw [if_neg h, if_neg h]
  exact ⟨rfl, rfl⟩
theorem gv_eq {ka : Nat} {z : LZ} (h : z.1 = ka) : gvz ka z = z ∧ gNz ka z = 0 := by
  unfold gvz gNz
  rw [if_pos h, if_pos h]
  exact ⟨rfl, rfl⟩
theorem gv_nx {ka : Nat} (z : LZ) : (gvz ka z).1 = z.1 ∧ (gvz ka z).2.2.1 = z.2.2.1 := by
  unfold gvz
  by_cases c : z.1 = ka
  · rw [if_pos c]; exact ⟨rfl, rfl⟩
  · rw [if_neg c]; exact ⟨rfl, rfl⟩


/-! The head of a packet -/
theorem op_pt : ∀ b, b < 256 → (nI b >>> ((4 : Int32) &&& 31)) &&& 3 = nI (b / 16 % 4) := by decide +kernel
theorem op_sh6 : ∀ b, b < 256 → nI b >>> ((6 : Int32) &&& 31) = nI (b / 64) := by decide +kernel
theorem op_128 : ∀ b, b < 256 → (nI b &&& 128 = 0 ↔ b < 128) := by decide +kernel
theorem op_16 : ∀ b, b < 256 → (nI b &&& 16 = 0 ↔ b / 16 % 2 = 0) := by decide +kernel
theorem op_31 : ∀ b, b < 256 → nI b &&& 31 = nI (b % 32) := by decide +kernel
def opP (f : Nat → Int32) (n k : Nat) : Nat := rbN f n 9400 (k + 3) / 16 % 4
def opX (f : Nat → Int32) (n k : Nat) : Nat := if opP f n k < 2 then 0 else rbN f n 9400 (k + 4)
def opI (f : Nat → Int32) (n k : Nat) : Nat := rbN f n 9400 (k + 1) % 32 * 256 + rbN f n 9400 (k + 2)
def opF (f : Nat → Int32) (n k : Nat) : Nat := if opX f n k = 0 then 0 else rbN f n 9400 (k + 5)
def opBad (f : Nat → Int32) (n k : Nat) : Prop := ¬ rbN f n 9400 (k + 1) < 128 ∨ opP f n k = 0 ∨ (opP f n k = 2 ∧ ¬ opX f n k = 183) ∨ (opP f n k = 3 ∧ 182 < opX f n k)
def opK (f : Nat → Int32) (n k : Nat) (ck : Int64) : Int64 := if opF f n k / 16 % 2 = 0 ∨ opX f n k < 7 then ck else 300 * rw_bits f n 9400 (8 * (k + 6)) 33 + rw_bits f n 9400 (8 * (k + 6) + 39) 9
theorem opX_lt (f : Nat → Int32) (n k : Nat) : opX f n k < 256 := by
  unfold opX
  split
  · omega
  · exact rb_lt _ _ _ _
theorem opF_lt (f : Nat → Int32) (n k : Nat) : opF f n k < 256 := by
  unfold opF
  split
  · omega
  · exact rb_lt _ _ _ _
theorem opP_lt (f : Nat → Int32) (n k : Nat) : opP f n k < 4 := by unfold opP; omega
theorem opI_lt (f : Nat → Int32) (n k : Nat) : opI f n k < 8192 := by
  have := rb_lt f n 9400 (k + 2)
  unfold opI
  omega
theorem op_bad {f : Nat → Int32} {n k : Nat} : (¬ rw_at f n 9400 (nI (k + 1)) &&& 128 = 0 ∨ nI (opP f n k) = 0 ∨ (nI (opP f n k) = 2 ∧ ¬ nI (opX f n k) = 183) ∨ (nI (opP f n k) = 3 ∧ 182 < nI (opX f n k))) ↔ opBad f n k := by
  have h1 := opP_lt f n k
  have h2 := opX_lt f n k
  rw [rb_eq, op_128 _ (rb_lt _ _ _ _)]
  have e0 : nI (opP f n k) = 0 ↔ opP f n k = 0 := nI_eq (b := 0) (by omega) (by omega)
  have e2 : nI (opP f n k) = 2 ↔ opP f n k = 2 := nI_eq (b := 2) (by omega) (by omega)
  have e3 : nI (opP f n k) = 3 ↔ opP f n k = 3 := nI_eq (b := 3) (by omega) (by omega)
  have e4 : nI (opX f n k) = 183 ↔ opX f n k = 183 := nI_eq (b := 183) (by omega) (by omega)
  have e5 : (182 : Int32) < nI (opX f n k) ↔ 182 < opX f n k := nI_ltI (a := 182) (by omega) (by omega)
  rw [e0, e2, e3, e4, e5]
  exact Iff.rfl
theorem op_b1 {c : Prop} [Decidable c] (h : (if c then (1 : Int32) else 0) = 0) : ¬ c := by
  intro z
  rw [if_pos z] at h
  exact absurd h (by decide)
theorem op_b0 {c : Prop} [Decidable c] (h : ¬ (if c then (1 : Int32) else 0) = 0) : c := by
  apply Decidable.byContradiction
  intro z
  exact h (if_neg z)
/-- the lane of a PID, found or made -/
def LM (Ls T1 T2 : List LZ) (z : LZ) (hf hf1 : Nat → Option Nat) (pid : Nat) : Prop := z.2.1 = pid ∧ ((Ls = T1 ++ z :: T2 ∧ hf1 = hf) ∨ (lnF Ls pid = none ∧ T1 = [] ∧ T2 = Ls ∧ z = (z.1, pid, hf (pid % 256), -1, 0, -1, 0, none, none) ∧ hf1 = va_up hf (pid % 256) (some z.1)))
theorem lf_split {Ls : List LZ} {pid a : Nat} (h : lnF Ls pid = some a) : ∃ T1 z T2, Ls = T1 ++ z :: T2 ∧ z.1 = a ∧ z.2.1 = pid := by
  unfold lnF at h
  cases hz : Ls.find? (fun z => z.2.1 == pid) with
  | none => rw [hz] at h; cases h
  | some z =>
    rw [hz] at h
    obtain ⟨h1, T1, T2, h2, -⟩ := List.find?_eq_some_iff_append.mp hz
    exact ⟨T1, z, T2, h2, Option.some.inj h, by simpa using h1⟩
abbrev OU9 : Type := (Nat → Int32) × List LZ × (Nat → Option Nat)
def opR (f : Nat → Int32) (n k : Nat) (cn : Nat → Int32) (z : LZ) (T1 T2 : List LZ) (hf1 : Nat → Option Nat) : Option Nat × OU9 :=
  let ck := opK f n k z.2.2.2.2.2.1
  if z.2.1 = 8191 ∨ opP f n k = 2 then (none, cn, T1 ++ (z.1, z.2.1, z.2.2.1, z.2.2.2.1, z.2.2.2.2.1, ck, z.2.2.2.2.2.2.1, z.2.2.2.2.2.2.2.1, z.2.2.2.2.2.2.2.2) :: T2, hf1)
  else
    let o := foU cn z.2.2.2.1 z.2.2.2.2.1 z.2.2.2.2.2.2.2.1 z.2.2.2.2.2.2.2.2 (nI (rbN f n 9400 (k + 3) % 16)) (if opF f n k < 128 then 0 else 1)
    if o.1 = 0 then (none, o.2.2.2.1, T1 ++ (z.1, z.2.1, z.2.2.1, o.2.1, o.2.2.1, ck, z.2.2.2.2.2.2.1, o.2.2.2.2.1, o.2.2.2.2.2) :: T2, hf1)
    else if rbN f n 9400 (k + 3) / 64 = 0 then (some z.1, o.2.2.2.1, T1 ++ (z.1, z.2.1, z.2.2.1, o.2.1, o.2.2.1, ck, z.2.2.2.2.2.2.1, o.2.2.2.2.1, o.2.2.2.2.2) :: T2, hf1)
    else (none, guC o.2.2.2.1 o.2.2.2.2.1 o.2.2.2.2.2, T1 ++ (z.1, z.2.1, z.2.2.1, o.2.1, o.2.2.1, ck, z.2.2.2.2.2.2.1, guS o.2.2.2.2.1, guI o.2.2.2.2.2) :: T2, hf1)
theorem fo_se {cn : Nat → Int32} {ct tw c lt : Int32} {se : Option SQ9} {pi : Option PQ9} (h : ∀ q, se = some q → q.2.2.1 ≤ 1024) : ∀ q, (foU cn ct tw se pi c lt).2.2.2.2.1 = some q → q.2.2.1 ≤ 1024 := by
  intro q hq
  unfold foU at hq
  split at hq
  · exact h q hq
  · split at hq
    · cases se with
      | none => cases hq
      | some x => cases hq; exact Nat.zero_le _
    · exact h q hq
theorem lp_foc2 {X Q : va_W} {cB : ClassId} {T1 T2 : List LZ} {z : LZ} : (X ++ (lpl cB (T1 ++ z :: T2) ++ Q)).Perm (X ++ (lzc cB z ++ (lpl cB (T1 ++ T2) ++ Q))) := by
  have h := lp_foc (X := X) (Q := Q) (cB := cB) (T1 := T1) (T2 := T2) (z := z)
  rw [List.append_assoc X] at h
  exact h


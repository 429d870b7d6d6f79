/-! The pieces that were done: a ring of sixteen -/
def dpl (dn : Nat → Option PQ9) : va_W := (List.range 16).flatMap (fun k => lzI (dn k))
def dplx (p : Nat) (dn : Nat → Option PQ9) : va_W := ((List.range 16).erase p).flatMap (fun k => lzI (dn k))
theorem dp_foc {X Q : va_W} {p : Nat} {dn : Nat → Option PQ9} (hp : p < 16) : (X ++ (dpl dn ++ Q)).Perm (X ++ (lzI (dn p) ++ (dplx p dn ++ Q))) := by
  refine List.Perm.append_left X ?_
  rw [← List.append_assoc]
  refine List.Perm.append_right Q ?_
  unfold dpl dplx
  have h := List.perm_cons_erase (List.mem_range.mpr hp : p ∈ List.range 16)
  have h2 := (h.map (fun k => lzI (dn k))).flatten
  exact h2
theorem dpx_up {p : Nat} {dn : Nat → Option PQ9} {v : Option PQ9} : dplx p (va_up dn p v) = dplx p dn := by
  unfold dplx List.flatMap
  congr 1
  apply List.map_congr_left
  intro k hk
  have : k ≠ p := fun e => by
    subst e
    exact (List.Nodup.not_mem_erase List.nodup_range) hk
  rw [va_up_ne _ _ this]
def kdI (x : Int32) : Nat := x.toBitVec.toNat % 2 ^ 4
theorem kdI_lt (x : Int32) : kdI x < 16 := Nat.mod_lt _ (by decide)
def dpok (dpf : Nat → Option Nat) (dn : Nat → Option PQ9) : Prop := ∀ k, k < 16 → dpf k = (dn k).map (fun q => q.1)
theorem dpok_up {dpf : Nat → Option Nat} {dn : Nat → Option PQ9} {p : Nat} {v : PQ9} (h : dpok dpf dn) : dpok (va_up dpf p (some v.1)) (va_up dn p (some v)) := by
  intro k hk
  by_cases c : k = p
  · subst c; rw [va_up_self, va_up_self]; rfl
  · rw [va_up_ne _ _ c, va_up_ne _ _ c]; exact h k hk
theorem dpok_same {dpf : Nat → Option Nat} {dn : Nat → Option PQ9} {p : Nat} {v w : PQ9} (h : dpok dpf dn) (hw : dn p = some w) (hv : v.1 = w.1) : dpok dpf (va_up dn p (some v)) := by
  intro k hk
  by_cases c : k = p
  · subst c; rw [va_up_self, h k hk, hw]
    show some w.1 = some v.1
    rw [hv]
  · rw [va_up_ne _ _ c]; exact h k hk


/-! The list of a programme's orders: its object, and its array once there is one -/
def wlc (cO : ClassId) (e0 wa n : Nat) (mo : Int32) (wst : Option (Nat × (Nat → Option Nat))) : va_W := match wst with
  | none => [(wa, alE e0 n mo)]
  | some q => [(wa, alE q.1 n mo), (q.1, arE cO q.2)]
def wok (Q : va_W) (wst : Option (Nat × (Nat → Option Nat))) (Wl : List (Nat × Int64 × Int32 × Int32 × Int64)) : Prop := match wst with
  | none => Wl = []
  | some q => elO Q q.2 Wl
abbrev WU9 : Type := List (Nat × Int64 × Int32 × Int32 × Int64) × Int32 × Option (Nat × (Nat → Option Nat))
def keP (Wl : List (Nat × Int64 × Int32 × Int32 × Int64)) (w : Nat × Int64 × Int32 × Int32 × Int64) (Wl2 : List (Nat × Int64 × Int32 × Int32 × Int64)) : Prop :=
  (∃ j, j < Wl.length ∧ (Wl.getD j (0, oz0)).2.2.1 = w.2.2.1 ∧ (∀ i, i < j → ¬ (Wl.getD i (0, oz0)).2.2.1 = w.2.2.1) ∧ Wl2 = Wl.set j w)
  ∨ ((∀ i, i < Wl.length → ¬ (Wl.getD i (0, oz0)).2.2.1 = w.2.2.1) ∧ Wl2 = if Wl.length < 6 then Wl ++ [w] else Wl)
theorem wk_mono {Q Q2 : va_W} {wst : Option (Nat × (Nat → Option Nat))} {Wl : List (Nat × Int64 × Int32 × Int32 × Int64)} (h : wok Q wst Wl) (hq : ∀ x ∈ Q, x ∈ Q2) : wok Q2 wst Wl := by
  cases wst with
  | none => exact h
  | some q => exact el_mono h hq
theorem el_one {Q : va_W} {o : Nat × Int64 × Int32 × Int32 × Int64} : elO ((o.1, orE o.2) :: Q) (va_up (fun _ => none) 0 (some o.1)) [o] := el_add (g := fun _ => none) (Wl := []) (fun j hj => absurd hj (Nat.not_lt_zero j))


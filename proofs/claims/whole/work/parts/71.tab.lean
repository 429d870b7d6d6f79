/-! Programmes, their streams and orders, by the cells that lie there -/
theorem z_Pm1 {D : va_G} {cl : List vw_C} {ws : va_W} {H : Heap} {x : Nat × va_E} (h : x ∈ ws) (hP : va_P D cl ws H) : va_P D cl [x] H := z_Pm (fun y hy => by rw [List.mem_singleton.mp hy]; exact h) hP
theorem z_Pm2 {D : va_G} {cl : List vw_C} {ws : va_W} {H : Heap} {x y : Nat × va_E} (h : x ∈ ws) (h2 : y ∈ ws) (hP : va_P D cl ws H) : va_P D cl [x, y] H := z_Pm (fun z hz => by
  rcases List.mem_cons.mp hz with e | hz
  · rw [e]; exact h
  · rw [List.mem_singleton.mp hz]; exact h2) hP
abbrev alE (b n : Nat) (mo : Int32) : va_E := .inr (12, [.ref b, .int (nI n), .int mo])
abbrev arE (cO : ClassId) (g : Nat → Option Nat) : va_E := .inl (cO, 10, .inr (.inr (.inr (.inr g))))
abbrev smE (t : Int32) (p : Nat) : va_E := .inr (5, [.int t, .int (nI p)])
abbrev orE (o : Int64 × Int32 × Int32 × Int64) : va_E := .inr (6, [.long o.1, .int o.2.1, .int o.2.2.1, .long o.2.2.2])
def isL (WS : va_W) (cO : ClassId) (a b n : Nat) (mo : Int32) (g : Nat → Option Nat) : Prop := (a, alE b n mo) ∈ WS ∧ n ≤ 6 ∧ (n = 0 ∨ (b, arE cO g) ∈ WS)
/-- a list of streams: type and PID -/
def isS (WS : va_W) (cO : ClassId) (sa : Nat) (S : List (Int32 × Nat)) : Prop := ∃ b mo g, isL WS cO sa b S.length mo g ∧ ∀ j, j < S.length → ∃ a, g j = some a ∧ (a, smE (S.getD j (0, 0)).1 (S.getD j (0, 0)).2) ∈ WS ∧ (S.getD j (0, 0)).2 < 8192
def stR (WS : va_W) (S : List (Int32 × Nat)) (pid : Nat) (r : Option Nat) : Prop := (r = none ∧ ∀ j, j < S.length → ¬ (S.getD j (0, 0)).2 = pid) ∨ ∃ j a, j < S.length ∧ (S.getD j (0, 0)).2 = pid ∧ (∀ i, i < j → ¬ (S.getD i (0, 0)).2 = pid) ∧ r = some a ∧ (a, smE (S.getD j (0, 0)).1 pid) ∈ WS
/-- a programme: address, number, PID, version, clock's PID, streams' list, away, NOW, orders' list -/
abbrev PZ : Type := Nat × Int32 × Nat × Int32 × Int32 × Nat × Int32 × Int64 × Nat
abbrev pgE (z : PZ) : va_E := .inr (7, [.int z.2.1, .int (nI z.2.2.1), .int z.2.2.2.1, .int z.2.2.2.2.1, .ref z.2.2.2.2.2.1, .int z.2.2.2.2.2.2.1, .long z.2.2.2.2.2.2.2.1, .ref z.2.2.2.2.2.2.2.2])
def pz0 : PZ := (0, 0, 0, 0, 0, 0, 0, 0, 0)
/-- the programmes of the list in force, each with its streams -/
def isT (WS : va_W) (cO : ClassId) (tb pr : Nat) (lv : Int32) (P : List (PZ × List (Int32 × Nat))) : Prop := (tb, .inr (8, [.int lv, .ref pr])) ∈ WS ∧ ∃ b mo g, isL WS cO pr b P.length mo g ∧ ∀ j, j < P.length → g j = some (P.getD j (pz0, [])).1.1 ∧ ((P.getD j (pz0, [])).1.1, pgE (P.getD j (pz0, [])).1) ∈ WS ∧ (P.getD j (pz0, [])).1.2.2.1 < 8192 ∧ isS WS cO (P.getD j (pz0, [])).1.2.2.2.2.2.1 (P.getD j (pz0, [])).2
def hasP (S : List (Int32 × Nat)) (pid : Nat) : Prop := ∃ j, j < S.length ∧ (S.getD j (0, 0)).2 = pid
def owR (P : List (PZ × List (Int32 × Nat))) (pid : Nat) (r : Option Nat) : Prop := (r = none ∧ ∀ j, j < P.length → ¬ hasP (P.getD j (pz0, [])).2 pid) ∨ ∃ j, j < P.length ∧ hasP (P.getD j (pz0, [])).2 pid ∧ (∀ i, i < j → ¬ hasP (P.getD i (pz0, [])).2 pid) ∧ r = some (P.getD j (pz0, [])).1.1
theorem sR_some {WS : va_W} {S : List (Int32 × Nat)} {pid a : Nat} (h : stR WS S pid (some a)) : hasP S pid := by
  rcases h with ⟨h, -⟩ | ⟨j, a, h1, h2, -⟩
  · cases h
  · exact ⟨j, h1, h2⟩
theorem sR_none {WS : va_W} {S : List (Int32 × Nat)} {pid : Nat} (h : stR WS S pid none) : ¬ hasP S pid := by
  rcases h with ⟨-, h⟩ | ⟨j, a, -, -, -, h, -⟩
  · exact fun ⟨j, h1, h2⟩ => h j h1 h2
  · cases h
def isNP (z : PZ) (nu : Int32) (pid : Nat) : Prop := z.2.1 = nu ∧ z.2.2.1 = pid
def fwR (P : List (PZ × List (Int32 × Nat))) (nu : Int32) (pid : Nat) (r : Option Nat) : Prop := (r = none ∧ ∀ j, j < P.length → ¬ isNP (P.getD j (pz0, [])).1 nu pid) ∨ ∃ j, j < P.length ∧ isNP (P.getD j (pz0, [])).1 nu pid ∧ (∀ i, i < j → ¬ isNP (P.getD i (pz0, [])).1 nu pid) ∧ r = some (P.getD j (pz0, [])).1.1


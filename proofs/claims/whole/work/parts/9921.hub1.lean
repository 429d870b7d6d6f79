/-! The hub: what the states of both sides mean -/
/-- bits of a row of bytes, as a number -/
def huB (S : Nat → Nat) (k : Nat) : Nat → Nat
  | 0 => 0
  | c + 1 => 2 * huB S k c + S ((k + c) / 8) / 2 ^ (7 - (k + c) % 8) % 2
/-- a bit -/
abbrev huT (S : Nat → Nat) (k : Nat) : Prop := S (k / 8) / 2 ^ (7 - k % 8) % 2 = 1
/-- an order: time, name, away, length -/
abbrev HO : Type := Int64 × Int32 × Int32 × Int64
/-- a piece that is gathered: PID, kind, time, bytes, sum, due -/
abbrev HP : Type := Int32 × Int32 × Int64 × Int32 × Int32 × Int32
/-- a lane: count, twin, clock, section, piece -/
abbrev HL : Type := Int32 × Int32 × Int64 × List Nat × Option HP
/-- a piece that was done: PID, kind, time, bytes, sum -/
abbrev HD : Type := Int32 × Int32 × Int64 × Int32 × Int32
/-- tells, lanes, list's version, programmes, done pieces, rows -/
abbrev HS : Type := (Nat → Int32) × (Nat → HL) × Int32 × List PV9 × (Nat → Option HD) × (Nat → Bool)
def pv0 : PV9 := (0, 0, 0, 0, 0, 0, [], [])
/-- a row of bytes, 0 where there is none -/
def huSx (X : List Nat) (i : Nat) : Nat := X.getD (i % 4294967296) 0
/-! What a PID is for -/
def huHas (v : PV9) (pid : Nat) : Bool := v.2.2.2.2.2.2.1.any (fun x => x.2 == pid)
def huOw (V : List PV9) (pid : Nat) : Option Nat := V.findIdx? (fun v => huHas v pid)
def huTy (v : PV9) (pid : Nat) : Int32 := ((v.2.2.2.2.2.2.1.find? (fun x => x.2 == pid)).getD (0, 0)).1
def huUs (V : List PV9) (pid : Nat) : Nat := if pid = 0 then 1 else if V.any (fun v => v.2.1 == pid) = true then 2 else match huOw V pid with
  | none => 0
  | some j => if huTy (V.getD j pv0) pid = 134 then 3 else 4
/-! Orders -/
def huKe (W : List HO) (w : HO) : List HO := match W.findIdx? (fun x => decide (x.2.1 = w.2.1)) with
  | some j => W.set j w
  | none => if W.length < 6 then W ++ [w] else W
def huOb (W : List HO) (o : HO) : List HO := if o.2.2.2 = -1 ∨ o.1 = -1 ∨ 6 ≤ W.length then W else W ++ [((o.1 + o.2.2.2) &&& 8589934591, o.2.1, if o.2.2.1 = 0 then 1 else 0, -1)]
def huDu (nw : Int64) (o : HO) : Bool := decide ((nw - o.1) &&& 8589934591 < 4294967296)
def huOd : Nat → Int64 → Int32 → List HO → Int32 × List HO
  | 0, _, aw, W => (aw, W)
  | m + 1, nw, aw, W => match W.findIdx? (huDu nw) with
    | none => (aw, W)
    | some j => huOd m nw (W.getD j oz0).2.2.1 (huOb (W.eraseIdx j) (W.getD j oz0))
/-- away, NOW and orders of a programme are set -/
def huVa (v : PV9) (nw : Int64) (y : Int32 × List HO) : PV9 := (v.1, v.2.1, v.2.2.1, v.2.2.2.1, y.1, nw, v.2.2.2.2.2.2.1, y.2)
def huMn (V : List PV9) (pid : Nat) (t : Int64) : List PV9 := match huOw V pid with
  | none => V
  | some j => V.set j (huVa (V.getD j pv0) t (huOd 12 t (V.getD j pv0).2.2.2.2.1 (V.getD j pv0).2.2.2.2.2.2.2))
abbrev huSwT (S : Nat → Nat) : Prop := ¬ huT S 155 ∧ huT S 160
def huSwA (S : Nat → Nat) : Nat := if huT S 155 then 20 else if huSwT S then 25 else 21
def huSwE (S : Nat → Nat) : Nat := (if huT S 154 then huSwA S + 5 else huSwA S) + 4
abbrev huSwR (S : Nat → Nat) : Prop := huT S 154 ∧ huT S (8 * huSwA S)
def huSwL (S : Nat → Nat) : Int64 := if huSwR S then lN (huB S (8 * huSwA S + 7) 33) else -1
def huSwO (S : Nat → Nat) (t : Int64) : HO := (t, nI (huB S 112 32), (if huT S 152 then 1 else 0), huSwL S)
def huSwM (S : Nat → Nat) : Int64 := (lN (huB S 167 33) + lN (huB S 39 33)) &&& 8589934591
def huSw (S : Nat → Nat) (n : Nat) (nw : Int64) (aw : Int32) (W : List HO) : Int32 × List HO :=
  if huT S 153 ∧ huSwE S ≤ n then (if huSwT S then (aw, huKe W (huSwO S (huSwM S))) else ((huSwO S nw).2.2.1, huOb W (huSwO S nw))) else (aw, W)
abbrev huIo (S : Nat → Nat) (n : Nat) : Prop := S 0 = 252 ∧ S 3 = 0 ∧ ¬ huT S 32 ∧ S 13 = 5 ∧ 19 ≤ n
def huOrV (S : Nat → Nat) (n : Nat) (v : PV9) : PV9 := huVa v v.2.2.2.2.2.1 (if huT S 144 then (v.2.2.2.2.1, v.2.2.2.2.2.2.2.filter (fun w => decide (¬ w.2.1 = nI (huB S 112 32)))) else huSw S n v.2.2.2.2.2.1 v.2.2.2.2.1 v.2.2.2.2.2.2.2)
def huOr (S : Nat → Nat) (n : Nat) (V : List PV9) (pid : Nat) : List PV9 := if huIo S n then (match huOw V pid with
  | none => V
  | some j => V.set j (huOrV S n (V.getD j pv0))) else V
/-! Lists and plans -/
abbrev huIt (S : Nat → Nat) (x : Nat) : Prop := S 0 = x ∧ huT S 47 ∧ huB S 48 16 = 0
def huVr (S : Nat → Nat) : Int32 := nI (S 5 / 2 % 32)
def huLiE (S : Nat → Nat) (V : List PV9) (i : Nat) : PV9 := (V.find? (fun v => decide (v.1 = nI (huB S (8 * i) 16) ∧ v.2.1 = huB S (8 * i + 19) 13))).getD (nwV (nI (huB S (8 * i) 16)) (huB S (8 * i + 19) 13))
def huLiL (S : Nat → Nat) (n : Nat) (V : List PV9) : Nat → Nat → Nat → List PV9
  | 0, _, _ => []
  | m + 1, i, k => if n ≤ i ∨ 4 ≤ k then [] else if huB S (8 * i) 16 = 0 then huLiL S n V m (i + 4) k else huLiE S V i :: huLiL S n V m (i + 4) (k + 1)
abbrev huLiC (S : Nat → Nat) (n : Nat) (lv : Int32) : Prop := huIt S 0 ∧ ¬ huVr S = lv ∧ n % 4 = 0
def huSo (S : Nat → Nat) (n : Nat) : Nat → Nat → List (Int32 × Nat) × Nat
  | 0, i => ([], i)
  | m + 1, i => if n < i + 5 then ([], i) else ((nI (S i), huB S (8 * i + 11) 13) :: (huSo S n m (i + (5 + huB S (8 * i + 28) 12))).1, (huSo S n m (i + (5 + huB S (8 * i + 28) 12))).2)
def huSr (S : Nat → Nat) (n : Nat) : List (Int32 × Nat) × Nat := huSo S n 4 (12 + huB S 84 12)
def huPlV (S : Nat → Nat) (n : Nat) (v : PV9) : PV9 := (v.1, v.2.1, huVr S, nI (huB S 67 13), v.2.2.2.2.1, v.2.2.2.2.2.1, (huSr S n).1, v.2.2.2.2.2.2.2)
def huPlJ (S : Nat → Nat) (V : List PV9) (pid : Nat) : Option Nat := V.findIdx? (fun v => decide (v.1 = nI (huB S 24 16) ∧ v.2.1 = pid))
def huPl (S : Nat → Nat) (n : Nat) (V : List PV9) (pid : Nat) : Option (List PV9) := if huIt S 2 then (match huPlJ S V pid with
  | none => none
  | some j => if ¬ (V.getD j pv0).2.2.1 = huVr S ∧ (huSr S n).2 = n then some (V.set j (huPlV S n (V.getD j pv0))) else none) else none
/-- the tables behind a good section: version, programmes, whether it came into force -/
def huTb (S : Nat → Nat) (n pid : Nat) (lv : Int32) (V : List PV9) : Int32 × List PV9 × Bool :=
  if huUs V pid = 1 then (if huLiC S n lv then (huVr S, huLiL S n V 255 8 0, true) else (lv, V, false))
  else if huUs V pid = 2 then (match huPl S n V pid with
    | none => (lv, V, false)
    | some W => (lv, W, true))
  else if huUs V pid = 3 then (lv, huOr S n V pid, false)
  else (lv, V, false)
/-! The class's tables in the hub -/
theorem hu_bN (f : Nat → Int32) (n ln k : Nat) : ∀ c, bN f n ln k c = huB (rbN f n ln) k c
  | 0 => rfl
  | c + 1 => by
    show 2 * bN f n ln k c + rbt f n ln (k + c) = 2 * huB (rbN f n ln) k c + _
    rw [hu_bN f n ln k c]
    rfl
theorem hu_bt (f : Nat → Int32) (n ln k : Nat) : rw_bit f n ln k = 1 ↔ huT (rbN f n ln) k := by
  rw [bit_eq]
  exact nI_eq (b := 1) (Nat.lt_trans (rbt_lt _ _ _ _) (by decide)) (by decide)
theorem huB_lt (S : Nat → Nat) (k : Nat) : ∀ c, huB S k c < 2 ^ c
  | 0 => Nat.zero_lt_one
  | c + 1 => by
    have h1 := huB_lt S k c
    have h2 : S ((k + c) / 8) / 2 ^ (7 - (k + c) % 8) % 2 < 2 := Nat.mod_lt _ (by decide)
    show 2 * huB S k c + S ((k + c) / 8) / 2 ^ (7 - (k + c) % 8) % 2 < 2 ^ (c + 1)
    rw [Nat.pow_succ]
    omega
theorem hu_bts {f : Nat → Int32} {n ln k c : Nat} (h : c ≤ 62) : rw_bits f n ln k c = lN (huB (rbN f n ln) k c) := by rw [bits_eq f n ln k c h, hu_bN]
theorem hu_bti {f : Nat → Int32} {n ln k c : Nat} (h : c ≤ 62) : (rw_bits f n ln k c).toInt32 = nI (huB (rbN f n ln) k c) := by rw [hu_bts h, lN_i]
theorem hu_at {f : Nat → Int32} {n ln k : Nat} {x : Nat} (hx : x < 2 ^ 31) : rw_at f n ln (nI k) = nI x ↔ rbN f n ln k = x := by
  rw [rb_eq]
  exact nI_eq (Nat.lt_trans (rb_lt _ _ _ _) (by decide)) hx
theorem fi_some {α : Type} {p : α → Bool} {V : List α} {j : Nat} (h : j < V.length) (hp : p V[j] = true) (hf : ∀ i (hi : i < j), p (V[i]'(by omega)) = false) : V.findIdx? p = some j := by
  rw [List.findIdx?_eq_some_iff_getElem]
  exact ⟨h, hp, fun i hi => by rw [hf i hi]; exact Bool.false_ne_true⟩
theorem fi_none {α : Type} {p : α → Bool} {V : List α} (hf : ∀ i (hi : i < V.length), p (V[i]) = false) : V.findIdx? p = none := by
  rw [List.findIdx?_eq_none_iff]
  intro x hx
  obtain ⟨i, hi, rfl⟩ := List.getElem_of_mem hx
  exact hf i hi
theorem pv_map {P : List PR9} {j : Nat} (h : j < P.length) : (P.map pv9).getD j pv0 = pv9 (P.getD j pr9) := by
  rw [pv_get h, List.getD_eq_getElem?_getD, List.getElem?_map, List.getElem?_eq_getElem h]
  rfl
theorem pv_mapE {P : List PR9} {j : Nat} (h : j < (P.map pv9).length) : (P.map pv9)[j] = pv9 (P.getD j pr9) := by
  rw [pv_get (by simpa using h), List.getElem_map]
theorem hu_has {x : PR9} {pid : Nat} : huHas (pv9 x) pid = true ↔ hasP x.2.1 pid := by
  unfold huHas hasP
  show x.2.1.any (fun y => y.2 == pid) = true ↔ _
  rw [List.any_eq_true]
  constructor
  · rintro ⟨y, hy, he⟩
    obtain ⟨j, hj, rfl⟩ := List.getElem_of_mem hy
    refine ⟨j, hj, ?_⟩
    rw [List.getD_eq_getElem?_getD, List.getElem?_eq_getElem hj]
    exact eq_of_beq he
  · rintro ⟨j, hj, he⟩
    refine ⟨x.2.1[j], List.getElem_mem hj, ?_⟩
    rw [List.getD_eq_getElem?_getD, List.getElem?_eq_getElem hj] at he
    exact beq_iff_eq.mpr he
theorem hu_hasF {x : PR9} {pid : Nat} (h : ¬ hasP x.2.1 pid) : huHas (pv9 x) pid = false := by
  cases c : huHas (pv9 x) pid with
  | false => rfl
  | true => exact absurd (hu_has.mp c) h
theorem hu_ow {P : List PR9} {pid j : Nat} (hj : j < P.length) (hp : hasP (P.getD j pr9).2.1 pid) (hf : ∀ i, i < j → ¬ hasP (P.getD i pr9).2.1 pid) : huOw (P.map pv9) pid = some j := by
  unfold huOw
  refine fi_some (by rw [List.length_map]; exact hj) ?_ (fun i hi => ?_)
  · rw [pv_mapE]; exact hu_has.mpr hp
  · rw [pv_mapE]; exact hu_hasF (hf i hi)
theorem hu_owN {P : List PR9} {pid : Nat} (hf : ∀ i, i < P.length → ¬ hasP (P.getD i pr9).2.1 pid) : huOw (P.map pv9) pid = none := by
  unfold huOw
  refine fi_none (fun i hi => ?_)
  rw [pv_mapE]; exact hu_hasF (hf i (by simpa using hi))
theorem fnd_D {α : Type} {p : α → Bool} {V : List α} {d : α} {j : Nat} (h : j < V.length) (hp : p (V.getD j d) = true) (hf : ∀ i, i < j → p (V.getD i d) = false) : V.find? p = some (V.getD j d) := by
  have e : ∀ i (hi : i < V.length), V.getD i d = V[i] := fun i hi => by rw [List.getD_eq_getElem?_getD, List.getElem?_eq_getElem hi]; rfl
  rw [e j h] at hp ⊢
  exact fnd_1 h hp (fun i hi => by have := hf i hi; rw [e i (by omega)] at this; exact this)
/-- what a PID is for -/
theorem hu_use {P : List PR9} {pid : Nat} {r : Int32} (h : uoR (pvw P) pid r) : r = nI (huUs (P.map pv9) pid) := by
  unfold huUs
  rcases h with ⟨h0, rfl⟩ | ⟨h0, ⟨j, hj, hp⟩, rfl⟩ | ⟨h0, hn, h⟩
  · rw [if_pos h0]; rfl
  · rw [pvw_len] at hj
    rw [pvw_get hj] at hp
    rw [if_neg h0, if_pos]
    · rfl
    · rw [List.any_eq_true]
      refine ⟨pv9 (P.getD j pr9), ?_, beq_iff_eq.mpr hp⟩
      rw [pv_get hj]
      exact List.mem_map_of_mem (List.getElem_mem hj)
  · rw [pvw_len] at hn
    have hno : ¬ (P.map pv9).any (fun v => v.2.1 == pid) = true := by
      rw [List.any_eq_true]
      rintro ⟨v, hv, he⟩
      obtain ⟨j, hj, rfl⟩ := List.getElem_of_mem hv
      rw [pv_mapE] at he
      have hj2 : j < P.length := by simpa using hj
      have := hn j hj2
      rw [pvw_get hj2] at this
      exact this (eq_of_beq he)
    rw [if_neg h0, if_neg hno]
    rcases h with ⟨hx, rfl⟩ | ⟨j, i, hj, hx, hi, he, hm, rfl⟩
    · rw [pvw_len] at hx
      rw [hu_owN (fun i hi => by have := hx i hi; rw [pvw_get hi] at this; exact this)]
      rfl
    · rw [pvw_len] at hj
      rw [pvw_get hj] at hi he hm ⊢
      rw [hu_ow hj ⟨i, hi, he⟩ (fun x hxj => by have := hx x hxj; rw [pvw_get (by omega)] at this; exact this)]
      show _ = nI (if huTy ((P.map pv9).getD j pv0) pid = 134 then 3 else 4)
      have et : huTy ((P.map pv9).getD j pv0) pid = ((P.getD j pr9).2.1.getD i (0, 0)).1 := by
        rw [pv_map hj]
        unfold huTy
        show (((P.getD j pr9).2.1.find? (fun x => x.2 == pid)).getD (0, 0)).1 = _
        rw [fnd_D (p := fun x : Int32 × Nat => x.2 == pid) (d := (0, 0)) hi (beq_iff_eq.mpr he) (fun x hx2 => by
          cases c : (((P.getD j pr9).2.1.getD x (0, 0)).2 == pid) with
          | false => rfl
          | true => exact absurd (eq_of_beq c) (hm x hx2))]
        rfl
      rw [et]
      by_cases c : ((P.getD j pr9).2.1.getD i (0, 0)).1 = 134
      · rw [if_pos c, if_pos c]; rfl
      · rw [if_neg c, if_neg c]; rfl
theorem huUs_lt (V : List PV9) (pid : Nat) : huUs V pid < 5 := by
  unfold huUs
  split
  · omega
  · split
    · omega
    · split
      · omega
      · split <;> omega
theorem hu_useN {P : List PR9} {pid u : Nat} (hu : u < 2 ^ 31) (h : uoR (pvw P) pid (nI u)) : huUs (P.map pv9) pid = u := by
  have e := hu_use h
  have hl := huUs_lt (P.map pv9) pid
  exact ((nI_eq hu (by omega)).mp e).symm


/-! The hub: lanes, sections -/
def huGz (z : HL) : HL := (z.1, z.2.1, z.2.2.1, [], none)
def huN1 (z : HL) : Int32 := (if z.2.2.2.1.length = 0 then 0 else 1) + (if z.2.2.2.2.isNone = true then 0 else 1)
/-- how many gather, of the PIDs below m and without p -/
def huNn (L : Nat → HL) (p : Nat) : Nat → Int32
  | 0 => 0
  | m + 1 => huNn L p m + (if m = p then 0 else huN1 (L m))
def huSc (z : HL) (X : List Nat) : HL := (z.1, z.2.1, z.2.2.1, X, z.2.2.2.2)
def huGu (p : Nat) (A : HS) : HS := (addc A.1 (huN1 (A.2.1 p)), va_up A.2.1 p (huGz (A.2.1 p)), A.2.2)
/-- a whole section of PID p -/
def huEs (X : List Nat) (p : Nat) (A : HS) : HS :=
  if 12 ≤ X.length ∧ ckl (X.map nI) = 0 then
    (if (huTb (huSx (X.take (X.length - 4))) (X.length - 4) p A.2.2.1 A.2.2.2.1).2.2 = true
    then (addc (cup A.1 6) (huNn A.2.1 p 8192), (fun q => if q = p then huSc (A.2.1 p) [] else huGz (A.2.1 q)), (huTb (huSx (X.take (X.length - 4))) (X.length - 4) p A.2.2.1 A.2.2.2.1).1, (huTb (huSx (X.take (X.length - 4))) (X.length - 4) p A.2.2.1 A.2.2.2.1).2.1, A.2.2.2.2)
    else (cup A.1 6, va_up A.2.1 p (huSc (A.2.1 p) []), (huTb (huSx (X.take (X.length - 4))) (X.length - 4) p A.2.2.1 A.2.2.2.1).1, (huTb (huSx (X.take (X.length - 4))) (X.length - 4) p A.2.2.1 A.2.2.2.1).2.1, A.2.2.2.2))
  else (cup A.1 7, va_up A.2.1 p (huSc (A.2.1 p) []), A.2.2)
def huWh (X : List Nat) : Nat := 3 + (X.getD 1 0 % 16 * 256 + X.getD 2 0)
/-- how a section ends: 0 not whole, 1 too large, 2 whole; at which byte; the bytes -/
def huGo (b : Nat → Nat) : Nat → Nat → List Nat → Nat × Nat × List Nat
  | 0, i, X => (0, i, X)
  | m + 1, i, X => if (X ++ [b i]).length = 3 ∧ 1024 < huWh (X ++ [b i]) then (1, i, X ++ [b i]) else if 3 ≤ (X ++ [b i]).length ∧ huWh (X ++ [b i]) ≤ (X ++ [b i]).length then (2, i, X ++ [b i]) else huGo b m (i + 1) (X ++ [b i])
def huRp (p : Nat) (A : HS) : HS := (A.1, A.2.1, A.2.2.1, A.2.2.2.1, A.2.2.2.2.1, va_up A.2.2.2.2.2 p true)
/-- bytes a to e of a packet go to the section of PID p: none if it is too large, else how far it came -/
def huGr (b : Nat → Nat) (a e p : Nat) (A : HS) : Option Nat × HS :=
  if (huGo b (e - a) a (A.2.1 p).2.2.2.1).1 = 0 then (some e, huRp p (A.1, va_up A.2.1 p (huSc (A.2.1 p) (huGo b (e - a) a (A.2.1 p).2.2.2.1).2.2), A.2.2))
  else if (huGo b (e - a) a (A.2.1 p).2.2.2.1).1 = 1 then (none, huRp p (addc A.1 (huN1 (huSc (A.2.1 p) (huGo b (e - a) a (A.2.1 p).2.2.2.1).2.2)), va_up A.2.1 p (huGz (A.2.1 p)), A.2.2))
  else (some ((huGo b (e - a) a (A.2.1 p).2.2.2.1).2.1 + 1), huEs (huGo b (e - a) a (A.2.1 p).2.2.2.1).2.2 p (huRp p A))
def huUl (b : Nat → Nat) (p : Nat) : Nat → Nat → HS → HS
  | 0, _, A => A
  | m + 1, i, A => if i < 188 ∧ ¬ b i = 255 then (match huGr b i 188 p A with
    | (none, A1) => A1
    | (some j, A1) => huUl b p m j A1) else A
def huPay (b : Nat → Nat) : Nat := if b 3 / 32 % 2 = 0 then 4 else 5 + b 4
/-- a packet's sections -/
def huSe (b : Nat → Nat) (p : Nat) (A : HS) : HS :=
  if b 1 / 64 % 2 = 0 then (if (A.2.1 p).2.2.2.1.length = 0 then A else (huGr b (huPay b) 188 p A).2)
  else if 188 < huPay b + 1 + b (huPay b) then huGu p A
  else if (A.2.1 p).2.2.2.1.length = 0 then huUl b p 184 (huPay b + 1 + b (huPay b)) A
  else (match huGr b (huPay b + 1) (huPay b + 1 + b (huPay b)) p A with
    | (none, A1) => A1
    | (some _, A1) => huUl b p 184 (huPay b + 1 + b (huPay b)) (huGu p A1))
/-! The class's lanes in the hub -/
/-- the bytes of a row -/
def huR (q : Nat × (Nat → Int32)) : List Nat := (List.range q.1).map (fun i => rbN q.2 q.1 1024 i)
def huPq (pi : Option PQ9) : Option HP := match pi with
  | none => none
  | some q => if q.2.1 = 0 then none else some q.2.2
def huZ (z : LZ) : HL := (z.2.2.2.1, z.2.2.2.2.1, z.2.2.2.2.2.1, huR (gsQ z.2.2.2.2.2.2.2.1), huPq z.2.2.2.2.2.2.2.2)
def huZ0 : HL := (-1, 0, -1, [], none)
def huV (Ls : List LZ) (pid : Nat) : HL := match Ls.find? (fun z => z.2.1 == pid) with
  | none => huZ0
  | some z => huZ z
def huRw (Ls : List LZ) (pid : Nat) : Bool := match Ls.find? (fun z => z.2.1 == pid) with
  | none => false
  | some z => z.2.2.2.2.2.2.2.1.isSome
def huDq (q : PQ9) : HD := (q.2.2.1, q.2.2.2.1, q.2.2.2.2.1, q.2.2.2.2.2.1, q.2.2.2.2.2.2.1)
def huH (cn : Nat → Int32) (Ls : List LZ) (lv : Int32) (P : List PR9) (dn : Nat → Option PQ9) : HS := (cn, huV Ls, lv, P.map pv9, (fun k => (dn k).map huDq), huRw Ls)
theorem huR_len (q : Nat × (Nat → Int32)) : (huR q).length = q.1 := by unfold huR; rw [List.length_map, List.length_range]
theorem huR_get (q : Nat × (Nat → Int32)) (i : Nat) (h : i < q.1) : (huR q).getD i 0 = rbN q.2 q.1 1024 i := by
  unfold huR
  rw [List.getD_eq_getElem?_getD, List.getElem?_map, List.getElem?_range h]
  rfl
theorem rb_out {f : Nat → Int32} {n ln k : Nat} (hn : n < 2 ^ 31) (h : n ≤ k % 4294967296) : rbN f n ln k = 0 := by
  have e : nI k = nI (k % 4294967296) := by
    apply Int32.toBitVec_inj.mp
    apply BitVec.eq_of_toNat_eq
    show (BitVec.ofNat 32 k).toNat = (BitVec.ofNat 32 (k % 4294967296)).toNat
    rw [BitVec.toNat_ofNat, BitVec.toNat_ofNat]
    omega
  unfold rbN rw_at
  rw [if_neg (fun q => ?_)]
  · rfl
  · by_cases c : k % 4294967296 < 2 ^ 31
    · rw [e] at q
      exact q.2.1 (nI_le h c)
    · apply q.1
      rw [e]
      rw [Int32.lt_iff_toInt_lt]
      show (BitVec.ofNat 32 (k % 4294967296)).toInt < 0
      rw [BitVec.toInt_eq_toNat_cond, BitVec.toNat_ofNat]
      have := Nat.mod_lt k (show 0 < 4294967296 by decide)
      split <;> omega
theorem rb_mod (f : Nat → Int32) (n ln k : Nat) : rbN f n ln k = rbN f n ln (k % 4294967296) := by
  unfold rbN
  congr 2
  apply Int32.toBitVec_inj.mp
  apply BitVec.eq_of_toNat_eq
  show (BitVec.ofNat 32 k).toNat = (BitVec.ofNat 32 (k % 4294967296)).toNat
  rw [BitVec.toNat_ofNat, BitVec.toNat_ofNat]
  omega
/-- reading a row is reading its bytes -/
theorem huR_sx {f : Nat → Int32} {n : Nat} (hn : n < 2 ^ 31) : rbN f n 1024 = huSx (huR (n, f)) := by
  funext i
  unfold huSx
  by_cases c : i % 4294967296 < n
  · rw [huR_get (n, f) _ c, rb_mod]
  · rw [rb_out hn (by omega), List.getD_eq_getElem?_getD, List.getElem?_eq_none (by rw [huR_len]; show n ≤ _; omega)]
    rfl
theorem rb_small {f : Nat → Int32} {n k : Nat} (hk : k < n) (hn : n ≤ 1024) : rbN f n 1024 k = (f k &&& 255).toNatClampNeg := by
  unfold rbN rw_at
  rw [if_pos ⟨nI_pos (by omega), nI_ge hk (by omega), nI_ge (by omega) (by omega)⟩, nI_clamp (by omega)]
theorem huR_take {f : Nat → Int32} {n m : Nat} (hn : n ≤ 1024) (hm : m ≤ n) : (huR (n, f)).take m = huR (m, f) := by
  unfold huR
  rw [← List.map_take, List.take_range, Nat.min_eq_left hm]
  apply List.map_congr_left
  intro i hi
  have hi : i < m := List.mem_range.mp hi
  show rbN f n 1024 i = rbN f m 1024 i
  rw [rb_small (by omega) hn, rb_small hi (by omega)]
theorem by8_rb {v : Nat} (hv : v < 256) : (by8 (nI v) &&& 255).toNatClampNeg = v := by
  rw [by8_and]
  have : ∀ b, b < 256 → (nI b &&& 255).toNatClampNeg = b := by decide +kernel
  exact this v hv
theorem huR_app {f : Nat → Int32} {n i : Nat} {q : Nat × (Nat → Int32)} (h : q.1 < 1024) : huR (gsA f n i q) = huR q ++ [rbN f n 9400 i] := by
  unfold huR gsA
  show (List.range (q.1 + 1)).map (fun j => rbN (upd q.2 q.1 (by8 (nI (rbN f n 9400 i)))) (q.1 + 1) 1024 j) = _
  rw [List.range_succ, List.map_append]
  congr 1
  · apply List.map_congr_left
    intro j hj
    have hj : j < q.1 := List.mem_range.mp hj
    rw [rb_small (by omega) (by omega), rb_small hj (by omega), pk_un (by omega)]
  · show [rbN (upd q.2 q.1 (by8 (nI (rbN f n 9400 i)))) (q.1 + 1) 1024 q.1] = _
    rw [rb_small (by omega) (by omega), pk_us, by8_rb (rb_lt _ _ _ _)]
theorem huWh_eq (q : Nat × (Nat → Int32)) (h : q.1 < 2 ^ 31) : whN q = huWh (huR q) := by
  unfold whN huWh
  have e := huR_sx (f := q.2) h
  have e1 : rbN q.2 q.1 1024 1 = (huR q).getD 1 0 := congrFun e 1
  have e2 : rbN q.2 q.1 1024 2 = (huR q).getD 2 0 := congrFun e 2
  rw [e1, e2]
/-- a section grows -/
theorem hu_go (f : Nat → Int32) (n k : Nat) : ∀ (m i : Nat) (q : Nat × (Nat → Int32)), gsK q → ((gsO f n m (k + i) q).1, (gsO f n m (k + i) q).2.1, huR (gsO f n m (k + i) q).2.2) = ((huGo (fun j => rbN f n 9400 (k + j)) m i (huR q)).1, k + (huGo (fun j => rbN f n 9400 (k + j)) m i (huR q)).2.1, (huGo (fun j => rbN f n 9400 (k + j)) m i (huR q)).2.2)
  | 0, i, q, _ => rfl
  | m + 1, i, q, hq => by
    have hl : q.1 < 1024 := by
      rcases hq with h | ⟨h1, h2⟩ <;> omega
    have ea := huR_app (f := f) (n := n) (i := k + i) hl
    have el : (gsA f n (k + i) q).1 = q.1 + 1 := rfl
    have ew := huWh_eq (gsA f n (k + i) q) (by rw [el]; omega)
    rw [gsO, huGo]
    show _ = ((if (huR q ++ [rbN f n 9400 (k + i)]).length = 3 ∧ 1024 < huWh (huR q ++ [rbN f n 9400 (k + i)]) then (1, i, huR q ++ [rbN f n 9400 (k + i)]) else if 3 ≤ (huR q ++ [rbN f n 9400 (k + i)]).length ∧ huWh (huR q ++ [rbN f n 9400 (k + i)]) ≤ (huR q ++ [rbN f n 9400 (k + i)]).length then (2, i, huR q ++ [rbN f n 9400 (k + i)]) else huGo (fun j => rbN f n 9400 (k + j)) m (i + 1) (huR q ++ [rbN f n 9400 (k + i)])).1, k + (if (huR q ++ [rbN f n 9400 (k + i)]).length = 3 ∧ 1024 < huWh (huR q ++ [rbN f n 9400 (k + i)]) then (1, i, huR q ++ [rbN f n 9400 (k + i)]) else if 3 ≤ (huR q ++ [rbN f n 9400 (k + i)]).length ∧ huWh (huR q ++ [rbN f n 9400 (k + i)]) ≤ (huR q ++ [rbN f n 9400 (k + i)]).length then (2, i, huR q ++ [rbN f n 9400 (k + i)]) else huGo (fun j => rbN f n 9400 (k + j)) m (i + 1) (huR q ++ [rbN f n 9400 (k + i)])).2.1, (if (huR q ++ [rbN f n 9400 (k + i)]).length = 3 ∧ 1024 < huWh (huR q ++ [rbN f n 9400 (k + i)]) then (1, i, huR q ++ [rbN f n 9400 (k + i)]) else if 3 ≤ (huR q ++ [rbN f n 9400 (k + i)]).length ∧ huWh (huR q ++ [rbN f n 9400 (k + i)]) ≤ (huR q ++ [rbN f n 9400 (k + i)]).length then (2, i, huR q ++ [rbN f n 9400 (k + i)]) else huGo (fun j => rbN f n 9400 (k + j)) m (i + 1) (huR q ++ [rbN f n 9400 (k + i)])).2.2)
    rw [← ea, huR_len, ← ew]
    by_cases c1 : (gsA f n (k + i) q).1 = 3 ∧ 1024 < whN (gsA f n (k + i) q)
    · rw [if_pos c1, if_pos c1]
    · rw [if_neg c1, if_neg c1]
      by_cases c2 : 3 ≤ (gsA f n (k + i) q).1 ∧ whN (gsA f n (k + i) q) ≤ (gsA f n (k + i) q).1
      · rw [if_pos c2, if_pos c2]
      · rw [if_neg c2, if_neg c2]
        refine hu_go f n k m (i + 1) _ ?_
        unfold gsK
        by_cases c3 : (gsA f n (k + i) q).1 < 3
        · exact Or.inl c3
        · refine Or.inr ⟨by omega, ?_⟩
          by_cases c4 : (gsA f n (k + i) q).1 = 3
          · have := fun q => c1 ⟨c4, q⟩
            omega
          · rcases hq with h | ⟨h1, h2⟩
            · omega
            · have e3 : whN (gsA f n (k + i) q) = whN q := by
                unfold whN gsA
                show 3 + (rbN (upd q.2 q.1 _) (q.1 + 1) 1024 1 % 16 * 256 + rbN (upd q.2 q.1 _) (q.1 + 1) 1024 2) = _
                rw [rb_small (by omega) (by omega), rb_small (by omega) (by omega), pk_un (by omega), pk_un (by omega), ← rb_small (f := q.2) (n := q.1) (k := 1) (by omega) (by omega), ← rb_small (f := q.2) (n := q.1) (k := 2) (by omega) (by omega)]
              omega


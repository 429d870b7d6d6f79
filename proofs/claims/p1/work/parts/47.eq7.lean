theorem od_h : bsL (252 : Int32).toInt64 1 = bsL 252 1 := by decide
theorem od_30 : bsL (12288 : Int32).toInt64 2 = [48, 0] := by decide
/-- an order's list, as the class writes it, is the reference's but for the byte that the reference sets later -/
theorem od_A (nm how : Int32) (ln t : Int64) (x : Int64) (ht : t = ln >>> ((33 : Int32).toInt64 &&& 63)) (hx : x = if how - how / 2 * 2 = 1 then 255 else 127) (R : List Int32) : (((bsL 0 1 ++ bsL (252 : Int32).toInt64 1) ++ bsL (12288 : Int32).toInt64 2) ++ ohL nm t) ++ (bsL x 1 ++ R) = (moA nm how ln ++ R).set 2 48 := by
  unfold ohL moA
  rw [od_t0, od_m1, ← bs_mask nm.toInt64 (Nat.le_refl 4), od_h, od_30, bt_z2, ← hx, ht]
  simp only [List.append_assoc, bs_1 0, bs_1 252]
  rfl
theorem od_eq {nm : Int32} {t ln t1 : Int64} {k : Nat} (hk : k < 64) (ht : t1 = ln >>> ((33 : Int32).toInt64 &&& 63)) : (((bsL 0 1 ++ bsL (252 : Int32).toInt64 1) ++ bsL (12288 : Int32).toInt64 2) ++ ohL nm t1) ++ obL (nI k) t (ln &&& 8589934591) = (moL nm (nI k) t ln).set 2 48 := by
  have h1 := od_1 k hk
  have h2 := od_2 k hk
  have h3 := od_3 k hk
  have h4 := od_4 k hk
  have h5 := od_5 k hk
  unfold moL obL
  by_cases c1 : nI k &&& 1 = 0
  · rw [if_pos c1, if_pos (h1.mpr c1), od_6 k hk, od_v hk, od_m1, od_t1]
    have hx : (127 : Int64) = if nI k - nI k / 2 * 2 = 1 then 255 else 127 := by rw [if_neg (fun z => h2.mp z c1)]
    have eB : moB (nI k) t = if nI k &&& 4 = 0 then (if nI k &&& 32 = 0 then bsL 127 1 else bsL (1090921693184 ||| t) 5) else [] := by
      unfold moB
      by_cases c4 : nI k &&& 4 = 0
      · rw [if_neg (fun z => h3.mp z c4), if_pos c4]
        by_cases c32 : nI k &&& 32 = 0
        · rw [if_neg (fun z => h4.mp z c32), if_pos c32]
        · rw [if_pos (h4.mpr c32), if_neg c32]
      · rw [if_pos (h3.mpr c4), if_neg c4]
    have eD : moD (nI k) ln = if nI k &&& 8 = 0 then [] else bsL (moV (nI k) ln) 5 := by
      unfold moD
      by_cases c8 : nI k &&& 8 = 0
      · rw [if_neg (fun z => h5.mp z c8), if_pos c8]
      · rw [if_pos (h5.mpr c8), if_neg c8]
    rw [eB, eD]
    have e := od_A nm (nI k) ln t1 127 ht hx (bsL (obF (nI k)).toInt64 1 ++ ((if nI k &&& 4 = 0 then (if nI k &&& 32 = 0 then bsL 127 1 else bsL (1090921693184 ||| t) 5) else []) ++ ((if nI k &&& 8 = 0 then [] else bsL (moV (nI k) ln) 5) ++ bsL 4294967295 4)))
    simp only [List.append_assoc] at e ⊢
    exact e
  · rw [if_neg c1, if_neg (fun z => c1 (h1.mp z))]
    have hx : (255 : Int64) = if nI k - nI k / 2 * 2 = 1 then 255 else 127 := by rw [if_pos (h2.mpr c1)]
    have e := od_A nm (nI k) ln t1 255 ht hx []
    rw [List.append_nil, List.append_nil] at e
    exact e


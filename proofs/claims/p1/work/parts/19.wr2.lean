/-! A writer's state: f, size, left, roomInPacket, begun, written -/
abbrev WQ : Type := (Nat → Int32) × Int32 × Int32 × Int32 × Int32 × Int32
def bgO (n : Nat) : Int32 := if n = 0 then 0 else 1
/-- of tot bytes the bytes B were written behind T0 to the PID, whose packets were w0 before -/
def WS (pid w0 tot : Nat) (T0 B : List Int32) (q : WQ) : Prop := rc q.1 (T0 ++ ppL pid w0 tot 0 B) ∧ q.2.1 = nI (T0 ++ ppL pid w0 tot 0 B).length ∧ q.2.2.1 = nI (tot - B.length) ∧ q.2.2.2.1 = nI (rmOf tot B.length) ∧ q.2.2.2.2.1 = bgO B.length ∧ q.2.2.2.2.2 = nI (w0 + (B.length + 183) / 184)
def nb (v : Int64) (k : Nat) : Int32 := (v.toUInt64 >>> ((8 * nI k : Int32).toInt64.toUInt64 &&& Int64.toUInt64 63)).toInt64.toInt32
theorem nb_sh : ∀ k, k < 8 → ((8 * nI k : Int32).toInt64.toUInt64 &&& Int64.toUInt64 63).toBitVec % 64 = BitVec.ofNat 64 (8 * k) ∧ (((8 * nI k : Int32).toInt64 &&& 63).toBitVec.smod 64) = BitVec.ofNat 64 (8 * k) := by decide
theorem nb_255 : ∀ i, i < 64 → (255 : Int64).toBitVec.getLsbD i = decide (i < 8) := by decide
theorem nb_255i : ∀ i, i < 32 → (255 : Int32).toBitVec.getLsbD i = decide (i < 8) := by decide
theorem nb_pb (v : Int64) {k : Nat} (hk : k < 8) : nb v k &&& 255 = pb v k := by
  obtain ⟨e1, e2⟩ := nb_sh k hk
  unfold nb pb
  apply Int32.toBitVec_inj.mp
  apply BitVec.eq_of_getLsbD_eq
  intro i hi
  rw [Int32.toBitVec_and, BitVec.getLsbD_and, nb_255i i hi, Int64.toBitVec_toInt32, Int64.toBitVec_toInt32, BitVec.getLsbD_signExtend, BitVec.getLsbD_signExtend, if_pos (show i < 64 by omega), if_pos (show i < 64 by omega), Int64.toBitVec_and, BitVec.getLsbD_and, nb_255 i (by omega), Int64.toBitVec_shiftRight, e2]
  show (decide (i < 32) && (v.toUInt64 >>> _).toBitVec.getLsbD i && decide (i < 8)) = _
  rw [UInt64.toBitVec_shiftRight, e1]
  by_cases h8 : i < 8
  · have h3 : (BitVec.ofNat 64 (8 * k)).toNat = 8 * k := by rw [BitVec.toNat_ofNat]; exact Nat.mod_eq_of_lt (by omega)
    show (decide (i < 32) && (v.toBitVec >>> (BitVec.ofNat 64 (8 * k)).toNat).getLsbD i && decide (i < 8)) = (decide (i < 32) && ((v.toBitVec.sshiftRight (BitVec.ofNat 64 (8 * k)).toNat).getLsbD i && decide (i < 8)))
    rw [h3, BitVec.getLsbD_ushiftRight, BitVec.getLsbD_sshiftRight, if_pos (show 8 * k + i < 64 by omega)]
    simp [hi, h8]
    omega
  · simp [h8]
theorem pp_len1 (pid w0 tot : Nat) (B : List Int32) (x : Int32) : (ppL pid w0 tot 0 (B ++ [x])).length = (ppL pid w0 tot 0 B).length + (if B.length % 184 = 0 then 4 + (184 - min 184 (tot - B.length)) else 0) + 1 := by
  rw [pp_snoc, List.length_append, List.length_append]
  by_cases c : B.length % 184 = 0
  · rw [if_pos c, if_pos c, hd_len]; simp; omega
  · rw [if_neg c, if_neg c]; simp
/-- how long the packets are so far -/
theorem pp_len (pid w0 tot : Nat) : ∀ (n : Nat) (B : List Int32), B.length = n → n ≤ tot → (ppL pid w0 tot 0 B).length = n + (if n = 0 then 0 else 4 * ((n + 183) / 184) + (if (n + 183) / 184 * 184 ≤ tot then 0 else (n + 183) / 184 * 184 - tot))
  | 0, B, h, _ => by
    have e : B = [] := List.eq_nil_of_length_eq_zero h
    subst e
    rfl
  | n + 1, B, h, ht => by
    obtain ⟨A, x, rfl⟩ : ∃ A x, B = A ++ [x] := by
      rcases List.eq_nil_or_concat B with e | ⟨A, x, e⟩
      · subst e; cases h
      · exact ⟨A, x, by rw [e]; simp⟩
    have hA : A.length = n := by simpa using h
    rw [pp_len1, pp_len pid w0 tot n A hA (by omega), hA, if_neg (Nat.succ_ne_zero n)]
    by_cases c : n % 184 = 0
    · rw [if_pos c]
      by_cases z : n = 0
      · subst z
        simp only [if_true]
        by_cases d : 184 ≤ tot
        · rw [Nat.min_eq_left (by omega), if_pos (by omega)] <;> omega
        · rw [Nat.min_eq_right (by omega), if_neg (by omega)] <;> omega
      · rw [if_neg z, if_pos (show (n + 183) / 184 * 184 ≤ tot by omega)]
        by_cases d : (n + 1 + 183) / 184 * 184 ≤ tot
        · rw [if_pos d, Nat.min_eq_left (by omega)]; omega
        · rw [if_neg d, Nat.min_eq_right (by omega)]; omega
    · rw [if_neg c, if_neg (show ¬ n = 0 by omega), show (n + 1 + 183) / 184 = (n + 183) / 184 by omega]
      omega
theorem rm_0 {tot b : Nat} (h : b < tot) (h2 : nI (rmOf tot b) = 0) : b % 184 = 0 := by
  apply Decidable.byContradiction
  intro c
  unfold rmOf at h2
  rw [if_neg c] at h2
  have h3 := (nI_eq (b := 0) (by omega) (by omega)).mp h2
  omega
theorem rm_n {tot b : Nat} (h2 : ¬ nI (rmOf tot b) = 0) : ¬ b % 184 = 0 := by
  intro c
  apply h2
  unfold rmOf
  rw [if_pos c]
  rfl
theorem pn_room {pid w0 tot : Nat} {T0 X : List Int32} (hX : X.length < tot) (hT : T0.length + 188 * ((tot + 183) / 184) ≤ 9400) (c : X.length % 184 = 0) : (T0 ++ ppL pid w0 tot 0 X).length + 188 ≤ 9400 := by
  rw [List.length_append, pp_len pid w0 tot X.length X rfl (by omega)]
  by_cases z : X.length = 0
  · rw [if_pos z]; omega
  · rw [if_neg z, if_pos (by omega)]; omega
theorem pn_room2 {pid w0 tot : Nat} {T0 X : List Int32} (hX : X.length < tot) (hT : T0.length + 188 * ((tot + 183) / 184) ≤ 9400) (c : ¬ X.length % 184 = 0) : (T0 ++ ppL pid w0 tot 0 X).length < 9400 := by
  rw [List.length_append, pp_len pid w0 tot X.length X rfl (by omega), if_neg (show ¬ X.length = 0 by omega)]
  by_cases d : (X.length + 183) / 184 * 184 ≤ tot
  · rw [if_pos d]; omega
  · rw [if_neg d]; omega
theorem pn_1 {pid w0 tot : Nat} {T0 X : List Int32} {q : WQ} {f2 : Nat → Int32} {x : Int32} (hq : WS pid w0 tot T0 X q) (hX : X.length < tot) (c : ¬ X.length % 184 = 0) (hf : rc f2 ((T0 ++ ppL pid w0 tot 0 X) ++ [x])) : WS pid w0 tot T0 (X ++ [x]) (f2, nI ((T0 ++ ppL pid w0 tot 0 X) ++ [x]).length, q.2.2.1 - 1, q.2.2.2.1 - 1, q.2.2.2.2.1, q.2.2.2.2.2) := by
  obtain ⟨h1, h2, h3, h4, h5, h6⟩ := hq
  have e : T0 ++ ppL pid w0 tot 0 (X ++ [x]) = (T0 ++ ppL pid w0 tot 0 X) ++ [x] := by rw [pp_snoc, if_neg c]; simp
  have hl : (X ++ [x]).length = X.length + 1 := by simp
  refine ⟨by rw [e]; exact hf, by rw [e], ?_, ?_, ?_, ?_⟩
  · show q.2.2.1 - 1 = _
    rw [h3, hl, show (1 : Int32) = nI 1 from rfl, pk_sub (by omega)]
    congr 1
  · show q.2.2.2.1 - 1 = _
    rw [h4, hl]
    unfold rmOf
    rw [if_neg c]
    by_cases d : (X.length + 1) % 184 = 0
    · rw [if_pos d, show (1 : Int32) = nI 1 from rfl, pk_sub (by omega)]
      congr 1
      omega
    · rw [if_neg d, show (1 : Int32) = nI 1 from rfl, pk_sub (by omega), show (X.length + 1) / 184 = X.length / 184 by omega]
      congr 1
      omega
  · show q.2.2.2.2.1 = _
    rw [h5, hl]
    unfold bgO
    rw [if_neg (by omega), if_neg (by omega)]
  · show q.2.2.2.2.2 = _
    rw [h6, hl]
    congr 2
    omega
theorem pn_2 {pid w0 tot : Nat} {T0 X : List Int32} {q : WQ} {f2 : Nat → Int32} {x : Int32} (hq : WS pid w0 tot T0 X q) (hX : X.length < tot) (c : X.length % 184 = 0) (hf : rc f2 (((T0 ++ ppL pid w0 tot 0 X) ++ hdL pid (decide (q.2.2.2.2.1 = 0)) (w0 + (X.length + 183) / 184) (min 184 (tot - X.length))) ++ [x])) : WS pid w0 tot T0 (X ++ [x]) (f2, nI (((T0 ++ ppL pid w0 tot 0 X) ++ hdL pid (decide (q.2.2.2.2.1 = 0)) (w0 + (X.length + 183) / 184) (min 184 (tot - X.length))) ++ [x]).length, nI (tot - X.length) - 1, nI (min 184 (tot - X.length)) - 1, 1, nI (w0 + (X.length + 183) / 184 + 1)) := by
  obtain ⟨h1, h2, h3, h4, h5, h6⟩ := hq
  have eb : decide (q.2.2.2.2.1 = 0) = decide (X.length = 0) := by
    rw [h5]
    unfold bgO
    by_cases z : X.length = 0
    · rw [if_pos z]; simp [z]
    · rw [if_neg z]; simp [z]
  have e : T0 ++ ppL pid w0 tot 0 (X ++ [x]) = ((T0 ++ ppL pid w0 tot 0 X) ++ hdL pid (decide (q.2.2.2.2.1 = 0)) (w0 + (X.length + 183) / 184) (min 184 (tot - X.length))) ++ [x] := by
    rw [pp_snoc, if_pos c, eb, show (X.length + 183) / 184 = X.length / 184 by omega]
    simp
  have hl : (X ++ [x]).length = X.length + 1 := by simp
  refine ⟨by rw [e]; exact hf, by rw [e], ?_, ?_, ?_, ?_⟩
  · show nI (tot - X.length) - 1 = _
    rw [hl, show (1 : Int32) = nI 1 from rfl, pk_sub (by omega)]
    congr 1
  · show nI (min 184 (tot - X.length)) - 1 = _
    rw [hl, show (1 : Int32) = nI 1 from rfl, pk_sub (by omega)]
    unfold rmOf
    rw [if_neg (by omega)]
    congr 1
    omega
  · show (1 : Int32) = _
    rw [hl]
    unfold bgO
    rw [if_neg (by omega)]
  · show nI (w0 + (X.length + 183) / 184 + 1) = _
    rw [hl]
    congr 1
    omega


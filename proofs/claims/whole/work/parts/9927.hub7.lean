/-! The hub: a packet -/
def huA (b : Nat → Nat) : Nat := b 3 / 16 % 4
def huLx (b : Nat → Nat) : Nat := if huA b < 2 then 0 else b 4
def huId (b : Nat → Nat) : Nat := b 1 % 32 * 256 + b 2
def huFl (b : Nat → Nat) : Nat := if huLx b = 0 then 0 else b 5
abbrev huBad (b : Nat → Nat) : Prop := ¬ b 1 < 128 ∨ huA b = 0 ∨ (huA b = 2 ∧ ¬ huLx b = 183) ∨ (huA b = 3 ∧ 182 < huLx b)
def huCk (b : Nat → Nat) (ck : Int64) : Int64 := if huFl b / 16 % 2 = 0 ∨ huLx b < 7 then ck else 300 * lN (huB b 48 33) + lN (huB b 87 9)
def huCz (b : Nat → Nat) (z : HL) : HL := (z.1, z.2.1, huCk b z.2.2.1, z.2.2.2)
def huFo (tl : Nat → Int32) (z : HL) (c lt : Int32) : Bool × (Nat → Int32) × HL :=
  if c = z.1 ∧ lt = 0 ∧ z.2.1 = 0 then (false, cup tl 3, (z.1, 1, z.2.2))
  else if ¬ z.1 = -1 ∧ ¬ c = (z.1 + 1) &&& 15 ∧ lt = 0 then (true, addc (cup tl 4) (huN1 z), (c, 0, z.2.2.1, [], none))
  else (true, tl, (c, 0, z.2.2))
def huO1 (b : Nat → Nat) (A : HS) : Bool × (Nat → Int32) × HL := huFo (cup A.1 1) (huCz b (A.2.1 (huId b))) (nI (b 3 % 16)) (if huFl b < 128 then 0 else 1)
def huA1 (b : Nat → Nat) (A : HS) : HS := ((huO1 b A).2.1, va_up A.2.1 (huId b) (huO1 b A).2.2, A.2.2)
def huPk (b : Nat → Nat) (A : HS) : HS :=
  if huBad b then (cup (cup A.1 1) 2, A.2)
  else if huId b = 8191 ∨ huA b = 2 then (cup A.1 1, va_up A.2.1 (huId b) (huCz b (A.2.1 (huId b))), A.2.2)
  else if (huO1 b A).1 = false then huA1 b A
  else if ¬ b 3 / 64 = 0 then huGu (huId b) (huA1 b A)
  else if huUs A.2.2.2.1 (huId b) = 0 then huA1 b A
  else if huUs A.2.2.2.1 (huId b) = 4 then huPi b (huId b) (huA1 b A)
  else huSe b (huId b) (huA1 b A)
def huTk (B : Nat → Nat) (n : Nat) : Nat → Nat → HS → Nat × Nat × HS
  | 0, i, A => (i, 0, A)
  | m + 1, i, A => if n ≤ i ∨ (B i = 71 ∧ n < i + 188) then (i, 0, A) else if ¬ B i = 71 then huTk B n m (i + 1) (cup A.1 5, A.2) else ((huTk B n m (i + 188) (huPk (fun j => B (i + j)) A)).1, (huTk B n m (i + 188) (huPk (fun j => B (i + j)) A)).2.1 + 1, (huTk B n m (i + 188) (huPk (fun j => B (i + j)) A)).2.2)
/-! The class's packets in the hub -/
def huS (s : TK9) : HS := huH s.1 s.2.1 s.2.2.2.2.1 s.2.2.2.2.2.2.2.2.1 s.2.2.2.1
theorem hu_lm {Ls T1 T2 : List LZ} {z : LZ} {hf hf1 : Nat → Option Nat} {pid : Nat} (h : LM Ls T1 T2 z hf hf1 pid) (hd : lpd (T1 ++ z :: T2)) : huV (T1 ++ z :: T2) = huV Ls ∧ huRw (T1 ++ z :: T2) = huRw Ls := by
  have hm := lpd_mid hd
  obtain ⟨h0, ⟨rfl, -⟩ | ⟨hn, rfl, rfl, he, -⟩⟩ := h
  · exact ⟨rfl, rfl⟩
  · rw [hv_mid hm.2.1, hr_mid hm.2.1]
    have e1 : huZ z = huV T2 z.2.1 := by
      rw [hv_no (T := T2) hm.2.1, he]
      rfl
    have e2 : z.2.2.2.2.2.2.2.1.isSome = huRw T2 z.2.1 := by
      unfold huRw
      rw [List.find?_eq_none.mpr (fun y hy => by have := hm.2.1 y hy; simpa using this), he]
      rfl
    rw [e1, e2]
    exact ⟨vu_id _ _, vu_id _ _⟩
theorem hu_set {Ls T1 T2 : List LZ} {z y : LZ} {hf hf1 : Nat → Option Nat} {pid : Nat} (h : LM Ls T1 T2 z hf hf1 pid) (hd : lpd (T1 ++ z :: T2)) (hy : y.2.1 = z.2.1) (hs : y.2.2.2.2.2.2.2.1.isSome = z.2.2.2.2.2.2.2.1.isSome) (cn : Nat → Int32) (lv : Int32) (P : List PR9) (dn : Nat → Option PQ9) : huH cn (T1 ++ y :: T2) lv P dn = (cn, va_up (huV Ls) pid (huZ y), lv, P.map pv9, (fun k => (dn k).map huDq), huRw Ls) := by
  have hm := lpd_mid hd
  have hl := hu_lm h hd
  have h0 := h.1
  unfold huH
  rw [hv_mid (z := y) (fun x hx => by rw [hy]; exact hm.2.1 x hx), hr_mid (z := y) (fun x hx => by rw [hy]; exact hm.2.1 x hx), ← hl.1, ← hl.2, hv_mid hm.2.1, hr_mid hm.2.1, hs, hy, h0, vu_vu]
theorem hu_at1 {Ls T1 T2 : List LZ} {z : LZ} {hf hf1 : Nat → Option Nat} {pid : Nat} (h : LM Ls T1 T2 z hf hf1 pid) (hd : lpd (T1 ++ z :: T2)) : huV Ls pid = huZ z := by
  rw [← (hu_lm h hd).1, hv_mid (lpd_mid hd).2.1, h.1]
  exact va_up_self _ _ _
theorem gu_some (se : Option SQ9) : (guS se).isSome = se.isSome := by cases se <;> rfl
theorem hu_fo (cn : Nat → Int32) (ct tw : Int32) (ck : Int64) (se : Option SQ9) (pi : Option PQ9) (c lt : Int32) : huFo cn (ct, tw, ck, huR (gsQ se), huPq pi) c lt = (decide (¬ (foU cn ct tw se pi c lt).1 = 0), (foU cn ct tw se pi c lt).2.2.2.1, ((foU cn ct tw se pi c lt).2.1, (foU cn ct tw se pi c lt).2.2.1, ck, huR (gsQ (foU cn ct tw se pi c lt).2.2.2.2.1), huPq (foU cn ct tw se pi c lt).2.2.2.2.2)) ∧ (foU cn ct tw se pi c lt).2.2.2.2.1.isSome = se.isSome := by
  unfold huFo foU
  by_cases c1 : c = ct ∧ lt = 0 ∧ tw = 0
  · rw [if_pos c1, if_pos c1]
    exact ⟨rfl, rfl⟩
  · rw [if_neg c1, if_neg c1]
    by_cases c2 : ¬ ct = -1 ∧ ¬ c = (ct + 1) &&& 15 ∧ lt = 0
    · rw [if_pos c2, if_pos c2]
      refine ⟨?_, gu_some _⟩
      show _ = (true, guC (cup cn 4) se pi, (c, 0, ck, huR (gsQ (guS se)), huPq (guI pi)))
      rw [huR_gu, huPq_gu, guC_add, hu_gN se pi ct tw ck]
    · rw [if_neg c2, if_neg c2]
      exact ⟨rfl, rfl⟩
theorem hu_ckE (f : Nat → Int32) (n k : Nat) (ck : Int64) : opK f n k ck = huCk (pkb f n k) ck := by
  unfold opK huCk
  have e1 : rw_bits f n 9400 (8 * (k + 6)) 33 = lN (huB (pkb f n k) 48 33) := by
    rw [hu_bts (by decide), show 8 * (k + 6) = 8 * k + 48 by omega, huB_sh]
  have e2 : rw_bits f n 9400 (8 * (k + 6) + 39) 9 = lN (huB (pkb f n k) 87 9) := by
    rw [hu_bts (by decide), show 8 * (k + 6) + 39 = 8 * k + 87 by omega, huB_sh]
  rw [e1, e2]
  rfl
/-- what openPacket says, in the hub -/
theorem hu_op {f : Nat → Int32} {n k : Nat} {s : TK9} {T1 T2 : List LZ} {z : LZ} {hf1 : Nat → Option Nat} {r : Option Nat} {u : OU9} (hb : ¬ opBad f n k) (h : LM s.2.1 T1 T2 z s.2.2.1 hf1 (opI f n k)) (hd : lpd (T1 ++ z :: T2)) (ho : (r, u) = opR f n k (cup s.1 1) z T1 T2 hf1) : (r = none ∧ huH u.1 u.2.1 s.2.2.2.2.1 s.2.2.2.2.2.2.2.2.1 s.2.2.2.1 = huPk (pkb f n k) (huS s)) ∨ (r = some z.1 ∧ huPk (pkb f n k) (huS s) = (if huUs (huS s).2.2.2.1 (opI f n k) = 0 then huA1 (pkb f n k) (huS s) else if huUs (huS s).2.2.2.1 (opI f n k) = 4 then huPi (pkb f n k) (opI f n k) (huA1 (pkb f n k) (huS s)) else huSe (pkb f n k) (opI f n k) (huA1 (pkb f n k) (huS s))) ∧ huH u.1 u.2.1 s.2.2.2.2.1 s.2.2.2.2.2.2.2.2.1 s.2.2.2.1 = huA1 (pkb f n k) (huS s)) := by
  have hb2 : ¬ huBad (pkb f n k) := hb
  have hV : (huS s).2.1 (huId (pkb f n k)) = huZ z := hu_at1 h hd
  have hI : huId (pkb f n k) = opI f n k := rfl
  have hzp : z.2.1 = opI f n k := h.1
  have hfo := hu_fo (cup s.1 1) z.2.2.2.1 z.2.2.2.2.1 (opK f n k z.2.2.2.2.2.1) z.2.2.2.2.2.2.2.1 z.2.2.2.2.2.2.2.2 (nI (rbN f n 9400 (k + 3) % 16)) (if opF f n k < 128 then 0 else 1)
  have hO : huO1 (pkb f n k) (huS s) = huFo (cup s.1 1) (z.2.2.2.1, z.2.2.2.2.1, opK f n k z.2.2.2.2.2.1, huR (gsQ z.2.2.2.2.2.2.2.1), huPq z.2.2.2.2.2.2.2.2) (nI (rbN f n 9400 (k + 3) % 16)) (if opF f n k < 128 then 0 else 1) := by
    unfold huO1 huCz
    rw [hV, hu_ckE]
    rfl
  unfold opR at ho
  simp only at ho
  unfold huPk
  rw [if_neg hb2]
  generalize hoe : foU (cup s.1 1) z.2.2.2.1 z.2.2.2.2.1 z.2.2.2.2.2.2.2.1 z.2.2.2.2.2.2.2.2 (nI (rbN f n 9400 (k + 3) % 16)) (if opF f n k < 128 then 0 else 1) = o at ho hfo
  by_cases c1 : z.2.1 = 8191 ∨ opP f n k = 2
  · rw [if_pos c1] at ho
    rw [hzp] at c1
    cases ho
    refine Or.inl ⟨rfl, ?_⟩
    rw [if_pos (show huId (pkb f n k) = 8191 ∨ huA (pkb f n k) = 2 from c1), hV]
    refine (hu_set (y := (z.1, z.2.1, z.2.2.1, z.2.2.2.1, z.2.2.2.2.1, opK f n k z.2.2.2.2.2.1, z.2.2.2.2.2.2.1, z.2.2.2.2.2.2.2.1, z.2.2.2.2.2.2.2.2)) h hd rfl rfl _ _ _ _).trans ?_
    show (_, va_up _ _ (_, _, opK f n k z.2.2.2.2.2.1, _, _), _, _, _, _) = (_, va_up _ _ (_, _, huCk (pkb f n k) z.2.2.2.2.2.1, _), _)
    rw [hu_ckE]
    rfl
  · rw [if_neg c1] at ho
    rw [hzp] at c1
    rw [if_neg (show ¬ (huId (pkb f n k) = 8191 ∨ huA (pkb f n k) = 2) from c1), hO, hfo.1]
    have hA1 : ∀ (wr : Int32), huH o.2.2.2.1 (T1 ++ (z.1, z.2.1, z.2.2.1, o.2.1, o.2.2.1, opK f n k z.2.2.2.2.2.1, wr, o.2.2.2.2.1, o.2.2.2.2.2) :: T2) s.2.2.2.2.1 s.2.2.2.2.2.2.2.2.1 s.2.2.2.1 = huA1 (pkb f n k) (huS s) := by
      intro wr
      refine (hu_set (y := (z.1, z.2.1, z.2.2.1, o.2.1, o.2.2.1, opK f n k z.2.2.2.2.2.1, wr, o.2.2.2.2.1, o.2.2.2.2.2)) h hd rfl hfo.2 _ _ _ _).trans ?_
      unfold huA1
      rw [hO, hfo.1]
      rfl
    by_cases c2 : o.1 = 0
    · rw [if_pos c2] at ho
      cases ho
      refine Or.inl ⟨rfl, ?_⟩
      rw [if_pos (show decide (¬ o.1 = 0) = false from decide_eq_false (fun q => q c2))]
      exact hA1 _
    · rw [if_neg c2] at ho
      rw [if_neg (show ¬ decide (¬ o.1 = 0) = false by rw [decide_eq_true c2]; decide)]
      by_cases c3 : rbN f n 9400 (k + 3) / 64 = 0
      · rw [if_pos c3] at ho
        cases ho
        rw [if_neg (show ¬ ¬ pkb f n k 3 / 64 = 0 from fun q => q c3)]
        exact Or.inr ⟨rfl, rfl, hA1 _⟩
      · rw [if_neg c3] at ho
        cases ho
        rw [if_pos (show ¬ pkb f n k 3 / 64 = 0 from c3)]
        refine Or.inl ⟨rfl, ?_⟩
        have e1 := hA1 z.2.2.2.2.2.2.1
        have hd2 : lpd (T1 ++ (z.1, z.2.1, z.2.2.1, o.2.1, o.2.2.1, opK f n k z.2.2.2.2.2.1, z.2.2.2.2.2.2.1, o.2.2.2.2.1, o.2.2.2.2.2) :: T2) := by
          refine ⟨?_, fun y hy => ?_⟩
          · have := hd.1
            rw [← List.pairwise_map (f := fun y : LZ => y.2.1) (R := fun a b => a ≠ b)] at this ⊢
            rw [List.map_append, List.map_cons] at this ⊢
            exact this
          · rcases List.mem_append.mp hy with q | q
            · exact hd.2 y (List.mem_append_left _ q)
            · rcases List.mem_cons.mp q with q | q
              · rw [q]; exact hd.2 z (List.mem_append_right _ List.mem_cons_self)
              · exact hd.2 y (List.mem_append_right _ (List.mem_cons_of_mem _ q))
        have e2 := hu_set h hd (y := (z.1, z.2.1, z.2.2.1, o.2.1, o.2.2.1, opK f n k z.2.2.2.2.2.1, z.2.2.2.2.2.2.1, guS o.2.2.2.2.1, guI o.2.2.2.2.2)) rfl ((gu_some _).trans hfo.2) (guC o.2.2.2.1 o.2.2.2.2.1 o.2.2.2.2.2) s.2.2.2.2.1 s.2.2.2.2.2.2.2.2.1 s.2.2.2.1
        rw [e2]
        unfold huGu huA1
        rw [hO, hfo.1, hI]
        show _ = (addc o.2.2.2.1 (huN1 (va_up (huV s.2.1) (opI f n k) _ (opI f n k))), va_up (va_up (huV s.2.1) (opI f n k) _) (opI f n k) (huGz (va_up (huV s.2.1) (opI f n k) _ (opI f n k))), _)
        rw [vu_vu, va_up_self, guC_add, hu_gN o.2.2.2.2.1 o.2.2.2.2.2 o.2.1 o.2.2.1 (opK f n k z.2.2.2.2.2.1)]
        show (_, va_up _ _ (_, _, _, huR (gsQ (guS o.2.2.2.2.1)), huPq (guI o.2.2.2.2.2)), _, _, _, _) = _
        rw [huR_gu, huPq_gu]
        rfl
theorem gs_lsk {f : Nat → Int32} {n i0 te pid la : Nat} {s u : GS9} {r : Int32} (h : gsP9 f n i0 te pid la s r u) : lsk u.2.2.2.1 = lsk s.2.2.2.1 ∧ lsk u.2.2.2.2.1 = lsk s.2.2.2.2.1 := by
  obtain ⟨o, -, sa, sb, -, ⟨-, -, hk, rfl⟩ | ⟨-, -, rfl⟩ | ⟨-, -, -, -, -, he, h2, h3⟩⟩ := h
  · exact ⟨rfl, rfl⟩
  · exact ⟨rfl, rfl⟩
  · rcases he with ⟨-, e⟩ | ⟨-, fr, -, ⟨-, -, e1, e2⟩ | ⟨-, -, e1, e2⟩⟩
    · have e1 : u.2.2.2.1 = s.2.2.2.1 := congrArg (fun q : ES9 => q.2.1) e
      have e2 : u.2.2.2.2.1 = s.2.2.2.2.1 := congrArg (fun q : ES9 => q.2.2.1) e
      rw [e1, e2]
      exact ⟨rfl, rfl⟩
    · have e1 : u.2.2.2.1 = s.2.2.2.1 := e1
      have e2 : u.2.2.2.2.1 = s.2.2.2.2.1 := e2
      rw [e1, e2]
      exact ⟨rfl, rfl⟩
    · have e1 : u.2.2.2.1 = s.2.2.2.1.map (gvz la) := e1
      have e2 : u.2.2.2.2.1 = s.2.2.2.2.1.map (gvz la) := e2
      rw [e1, e2]
      exact ⟨lsk_gv _ _, lsk_gv _ _⟩
theorem us_lsk {f : Nat → Int32} {n te pid la : Nat} : ∀ {m i : Nat} {s t : GS9}, usL f n te pid la m i s t → lsk t.2.2.2.1 = lsk s.2.2.2.1 ∧ lsk t.2.2.2.2.1 = lsk s.2.2.2.2.1
  | 0, i, s, t, h => by rw [show t = s from h]; exact ⟨rfl, rfl⟩
  | m + 1, i, s, t, h => by
    rcases h with ⟨-, rfl⟩ | ⟨-, -, r, u, hg, ⟨-, rfl⟩ | ⟨j, -, -, -, h⟩⟩
    · exact ⟨rfl, rfl⟩
    · exact gs_lsk (u := u) hg
    · have h1 := gs_lsk hg
      have h2 := us_lsk h
      exact ⟨h2.1.trans h1.1, h2.2.trans h1.2⟩
theorem ub_lsk {f : Nat → Int32} {n k pid la : Nat} {s t : GS9} (h : ubP f n k pid la s t) : lsk t.2.2.2.1 = lsk s.2.2.2.1 ∧ lsk t.2.2.2.2.1 = lsk s.2.2.2.2.1 := by
  rcases h with ⟨-, ⟨-, rfl⟩ | ⟨-, r, u, hg, rfl⟩⟩ | ⟨-, ⟨-, rfl⟩ | ⟨-, ⟨-, h⟩ | ⟨-, r, u, hg, ⟨-, rfl⟩ | ⟨-, h⟩⟩⟩⟩
  · exact ⟨rfl, rfl⟩
  · exact gs_lsk (u := u) hg
  · exact ⟨rfl, rfl⟩
  · exact us_lsk h
  · exact gs_lsk (u := u) hg
  · have h1 := gs_lsk hg
    have h2 := us_lsk h
    exact ⟨h2.1.trans h1.1, h2.2.trans h1.2⟩
theorem lad_sk {A B : List LZ} (h : lsk A = lsk B) (ha : lad A) : lad B := by
  unfold lad at ha ⊢
  have e : ∀ T : List LZ, T.map (fun z => z.1) = (lsk T).map (fun y => y.1) := fun T => by unfold lsk; rw [List.map_map]; rfl
  rw [e] at ha ⊢
  rw [← h]
  exact ha
theorem lad_mid {T1 T2 : List LZ} {z : LZ} (h : lad (T1 ++ z :: T2)) : ∀ y ∈ T1 ++ T2, y.1 ≠ z.1 := by
  unfold lad at h
  rw [List.map_append, List.map_cons] at h
  obtain ⟨-, h2, h3⟩ := List.nodup_append.mp h
  intro y hy
  rcases List.mem_append.mp hy with q | q
  · exact h3 y.1 (List.mem_map_of_mem q) z.1 List.mem_cons_self
  · intro c
    exact (List.nodup_cons.mp h2).1 (by rw [← c]; exact List.mem_map_of_mem q)
/-- one packet, in the hub -/
theorem hu_pk {f : Nat → Int32} {n k c d : Nat} {s t : TK9} (hk : k + 188 ≤ 9400) (hI : tkI s) (hnd : lad t.2.1) (h : pkP f n k s t c d) : huS t = huPk (pkb f n k) (huS s) := by
  obtain ⟨hLN, hok, hzk, haw, hP4⟩ := hI
  obtain ⟨r, u, h1, h2⟩ := h
  rcases h1 with ⟨hb, rfl, rfl⟩ | ⟨hb, T1, T2, z, hf1, hLM, hop⟩
  · rcases h2 with ⟨-, rfl, -⟩ | ⟨T1, z, T2, uu, h3, -⟩
    · unfold huPk
      rw [if_pos (show huBad (pkb f n k) from hb)]
      rfl
    · cases h3
  · obtain ⟨l1, l2, l3⟩ := lm_inv hLM (opI_lt f n k) hLN hok hzk
    have hd := lok_lpd l2
    obtain ⟨y, hy1, hy2, hy3, -, hy5, hy6⟩ := op_res hop
    rcases hu_op hb hLM hd hop with ⟨hr, e⟩ | ⟨hr, e1, e2⟩
    · rcases h2 with ⟨-, rfl, -⟩ | ⟨T1, z, T2, uu, h3, -⟩
      · exact e
      · rw [hr] at h3; cases h3
    · rw [e1]
      have hok2 : lok u.2.1 := by rw [hy1]; exact lok_sk (lsk_mid hy3.symm) l2
      have hzk2 : lzk u.2.1 := by rw [hy1]; exact lzk_same l3 hy5
      rcases h2 with ⟨h3, -⟩ | ⟨A1, x, A2, uu, h3, h4, h5, h6, hu4, h7⟩
      · rw [hr] at h3; cases h3
      · have huse : huUs (huS s).2.2.2.1 (opI f n k) = uu := hu_useN (by omega) h6
        rw [h4] at hok2 hzk2
        have hdx := lpd_mid (lok_lpd hok2)
        have hpay : payN f n 9400 k ≤ k + 187 := by
          rcases hy6 with q | ⟨-, q, -⟩
          · rw [hr] at q; cases q
          · exact pay_187 hb q
        rcases h7 with ⟨rfl, rfl, -⟩ | ⟨rfl, v, hv, rfl, -⟩ | ⟨hn0, hn4, v, hv, rfl, -⟩
        · rw [if_pos huse]
          exact e2
        · rw [huse, if_neg (by decide), if_pos rfl, ← e2, h4]
          have hox : oth x (A1 ++ A2) := ⟨lad_mid (lad_sk (A := A1 ++ (x.1, x.2.1, x.2.2.1, x.2.2.2.1, x.2.2.2.2.1, x.2.2.2.2.2.1, x.2.2.2.2.2.2.1, v.2.1, v.2.2.1) :: A2) (lsk_mid rfl) hnd), hdx.2.1, hdx.1⟩
          rw [← h5] at hv ⊢
          exact hu_pi (lv := s.2.2.2.2.1) hox hk hv
        · rw [huse, if_neg hn0, if_neg hn4, ← e2, h4]
          have hls := ub_lsk hv
          have hox : oth x (A1 ++ A2) := ⟨lad_mid (lad_sk (lsk_two (x := x) (y := (x.1, x.2.1, x.2.2.1, x.2.2.2.1, x.2.2.2.2.1, x.2.2.2.2.2.1, x.2.2.2.2.2.2.1, v.2.1, v.2.2.1)) hls.1 hls.2 rfl).symm hnd), hdx.2.1, hdx.1⟩
          rw [← h5] at hv ⊢
          have := (hu_se (dn := s.2.2.2.1) hk hpay (lzk_out hzk2).2 hox hv).2.2
          exact this
/-- taking, in the hub -/
theorem hu_tk {f : Nat → Int32} {n : Nat} (hn : n ≤ 9400) : ∀ {m i : Nat} {s : TK9} {r : Nat × Nat × TK9}, tkL f n m i s r → (r.1, r.2.1, huS r.2.2) = huTk (rbN f n 9400) n m i (huS s)
  | 0, i, s, r, h => by rw [show r = (i, 0, s) from h]; rfl
  | m + 1, i, s, r, h => by
    rw [huTk]
    rcases h with ⟨hc, rfl⟩ | ⟨hi, h7, h⟩ | ⟨hi, h7, t, w, c, d, ⟨hI, hnd, hI2, hnd2⟩, hp, h, rfl⟩
    · rw [if_pos hc]
    · rw [if_neg (fun q => q.elim (fun q => by omega) (fun q => h7 q.1)), if_pos h7]
      exact hu_tk hn h
    · rw [if_neg (fun q => q.elim (fun q => by omega) (fun q => by omega)), if_neg (fun q => q h7)]
      have e := hu_pk (by omega) hI hnd2 hp
      have e2 := hu_tk hn h
      rw [e] at e2
      have e3 : huPk (fun j => rbN f n 9400 (i + j)) (huS s) = huPk (pkb f n i) (huS s) := rfl
      rw [e3, ← e2]


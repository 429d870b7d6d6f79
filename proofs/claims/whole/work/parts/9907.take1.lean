/-! take: packet by packet -/
abbrev TK9 : Type := (Nat → Int32) × List LZ × (Nat → Option Nat) × (Nat → Option PQ9) × LU9
abbrev TU9 : Type := Nat × (Nat → Option Nat) × TK9
/-- one packet; c and d: the cells and slots that it is charged with -/
def pkP (f : Nat → Int32) (n k : Nat) (s t : TK9) (c d : Nat) : Prop :=
  ∃ (r : Option Nat) (u : OU9), ((opBad f n k ∧ r = none ∧ u = (cup (cup s.1 1) 2, s.2.1, s.2.2.1)) ∨ (¬ opBad f n k ∧ ∃ T1 T2 z hf1, LM s.2.1 T1 T2 z s.2.2.1 hf1 (opI f n k) ∧ (r, u) = opR f n k (cup s.1 1) z T1 T2 hf1)) ∧
    ((r = none ∧ t = (u.1, u.2.1, u.2.2, s.2.2.2) ∧ c = 1 ∧ d = 8)
    ∨ ∃ T1 z T2 uu, r = some z.1 ∧ u.2.1 = T1 ++ z :: T2 ∧ z.2.1 = opI f n k ∧ uoR (pvw s.2.2.2.2.2.2.2.2.1) (opI f n k) (nI uu) ∧ uu ≤ 4 ∧
      ((uu = 0 ∧ t = (u.1, u.2.1, u.2.2, s.2.2.2) ∧ c = 1 ∧ d = 8)
      ∨ (uu = 4 ∧ ∃ v : UU9, upP f n k (opI f n k) u.1 z.2.2.2.2.2.2.2.1 z.2.2.2.2.2.2.2.2 s.2.2.2.1 s.2.2.2.2.2.2.2.2.1 v ∧ t = (v.1, T1 ++ (z.1, z.2.1, z.2.2.1, z.2.2.2.1, z.2.2.2.2.1, z.2.2.2.2.2.1, z.2.2.2.2.2.2.1, v.2.1, v.2.2.1) :: T2, u.2.2, v.2.2.2.1, s.2.2.2.2.1, s.2.2.2.2.2.1, s.2.2.2.2.2.2.1, s.2.2.2.2.2.2.2.1, v.2.2.2.2.2.1, v.2.2.2.2.2.2 ++ s.2.2.2.2.2.2.2.2.2) ∧ c = 28 ∧ d = 197)
      ∨ (¬ uu = 0 ∧ ¬ uu = 4 ∧ ∃ v : GS9, ubP f n k (opI f n k) z.1 (u.1, z.2.2.2.2.2.2.2.1, z.2.2.2.2.2.2.2.2, T1, T2, s.2.2.2.2.1, s.2.2.2.2.2.1, s.2.2.2.2.2.2.1, s.2.2.2.2.2.2.2.1, s.2.2.2.2.2.2.2.2.1, []) v ∧ t = (v.1, v.2.2.2.1 ++ (z.1, z.2.1, z.2.2.1, z.2.2.2.1, z.2.2.2.2.1, z.2.2.2.2.2.1, z.2.2.2.2.2.2.1, v.2.1, v.2.2.1) :: v.2.2.2.2.1, u.2.2, s.2.2.2.1, v.2.2.2.2.2.1, v.2.2.2.2.2.2.1, v.2.2.2.2.2.2.2.1, v.2.2.2.2.2.2.2.2.1, v.2.2.2.2.2.2.2.2.2.1, v.2.2.2.2.2.2.2.2.2.2 ++ s.2.2.2.2.2.2.2.2.2) ∧ c = 1 + (ubR f n k z.2.2.2.2.2.2.2.1 + ubC f n k (opI f n k)) ∧ d = 8 + (ubT f n k z.2.2.2.2.2.2.2.1 + ubS f n k (opI f n k)))))
/-- the charge, before the packet is used -/
def pkW (f : Nat → Int32) (n k : Nat) (s : TK9) (c d : Nat) : Prop :=
  (c = 1 ∧ d = 8) ∨ ∃ (u : OU9) (T1 T2 : List LZ) (z : LZ) (hf1 : Nat → Option Nat) (A B : List LZ) (y : LZ) (uu : Nat), ¬ opBad f n k ∧ LM s.2.1 T1 T2 z s.2.2.1 hf1 (opI f n k) ∧ (some y.1, u) = opR f n k (cup s.1 1) z T1 T2 hf1 ∧ u.2.1 = A ++ y :: B ∧ y.2.1 = opI f n k ∧ uoR (pvw s.2.2.2.2.2.2.2.2.1) (opI f n k) (nI uu) ∧ uu ≤ 4 ∧
    ((uu = 4 ∧ c = 28 ∧ d = 197) ∨ (¬ uu = 0 ∧ ¬ uu = 4 ∧ c = 1 + (ubR f n k y.2.2.2.2.2.2.2.1 + ubC f n k (opI f n k)) ∧ d = 8 + (ubT f n k y.2.2.2.2.2.2.2.1 + ubS f n k (opI f n k))))
/-- the lanes lie at different places -/
def lad (Ls : List LZ) : Prop := (Ls.map (fun z => z.1)).Nodup
theorem lad_sub {cB : ClassId} : ∀ (Ls : List LZ), (Ls.map (fun z => z.1)).Sublist ((lpl cB Ls).map (fun y => y.1))
  | [] => List.Sublist.refl _
  | z :: Ls => by
    show (z.1 :: Ls.map (fun z => z.1)).Sublist ((((z.1, _) :: (lzS cB z.2.2.2.2.2.2.2.1 ++ lzI z.2.2.2.2.2.2.2.2)) ++ lpl cB Ls).map (fun y => y.1))
    rw [List.cons_append, List.map_cons, List.map_append]
    exact List.Sublist.cons_cons _ ((lad_sub Ls).trans (List.sublist_append_right _ _))
theorem nod_D {A : Nat → Prop} {ws : va_W} (h : va_D A ws) : (ws.map (fun y => y.1)).Nodup := by
  rw [List.nodup_iff_pairwise_ne, List.pairwise_iff_getElem]
  intro i j hi hj hij he
  rw [List.length_map] at hi hj
  rw [List.getElem_map, List.getElem_map] at he
  exact absurd (h.1 i j _ _ (List.getElem?_eq_getElem hi) (List.getElem?_eq_getElem hj) he) (Nat.ne_of_lt hij)
theorem lad_D {A : Nat → Prop} {X R : va_W} {cB : ClassId} {Ls : List LZ} (h : va_D A (X ++ (lpl cB Ls ++ R))) : lad Ls := by
  have h1 := nod_D h
  rw [List.map_append, List.map_append] at h1
  exact ((lad_sub (cB := cB) Ls).trans ((List.sublist_append_left _ _).trans (List.sublist_append_right _ _))).nodup h1
def tkI (s : TK9) : Prop := (∀ k, k < 256 → s.2.2.1 k = lhd k s.2.1) ∧ lok s.2.1 ∧ lzk s.2.1 ∧ awk s.2.2.2.2.2.2.2.2.1 ∧ s.2.2.2.2.2.2.2.2.1.length ≤ 4
def tkL (f : Nat → Int32) (n : Nat) : Nat → Nat → TK9 → Nat × Nat × TK9 → Prop
  | 0, i, s, r => r = (i, 0, s)
  | m + 1, i, s, r => ((n ≤ i ∨ (rbN f n 9400 i = 71 ∧ n < i + 188)) ∧ r = (i, 0, s))
    ∨ (i < n ∧ ¬ rbN f n 9400 i = 71 ∧ tkL f n m (i + 1) (cup s.1 5, s.2) r)
    ∨ (i + 188 ≤ n ∧ rbN f n 9400 i = 71 ∧ ∃ t w c d, (tkI s ∧ lad s.2.1 ∧ tkI t ∧ lad t.2.1) ∧ pkP f n i s t c d ∧ tkL f n m (i + 188) t w ∧ r = (w.1, w.2.1 + 1, w.2.2))
theorem gu_rk (se : Option SQ9) : rwC (guS se) = rwC se ∧ gsK (gsQ (guS se)) := ⟨by cases se <;> rfl, gsK_gu se⟩
theorem up_rk {f : Nat → Int32} {n k pid : Nat} {cn : Nat → Int32} {se : Option SQ9} {pi : Option PQ9} {dn : Nat → Option PQ9} {P : List PR9} {u : UU9} (h : upP f n k pid cn se pi dn P u) (hk : gsK (gsQ se)) : rwC u.2.1 = rwC se ∧ gsK (gsQ u.2.1) := by
  obtain ⟨b, hb, -, e, -, -⟩ := h
  rw [e]
  rcases hb with ⟨-, rfl⟩ | ⟨-, u, v, he, -, -, e2, -⟩
  · exact ⟨rfl, hk⟩
  · rw [e2]
    rcases he with ⟨q, v, -, -, -, -, -, e3, -⟩ | ⟨-, -, e3, -⟩
    · rw [e3]; exact ⟨rfl, hk⟩
    · rw [e3]; exact gu_rk se
theorem up_len {f : Nat → Int32} {n k pid : Nat} {cn : Nat → Int32} {se : Option SQ9} {pi : Option PQ9} {dn : Nat → Option PQ9} {P : List PR9} {u : UU9} (h : upP f n k pid cn se pi dn P u) : u.2.2.2.2.2.1.length = P.length := by
  obtain ⟨b, hb, -, -, e, -⟩ := h
  rw [e]
  rcases hb with ⟨-, rfl⟩ | ⟨-, u, v, -, hp, -, -, -, -, e2, -⟩
  · rfl
  · rw [e2]
    rcases hp with ⟨-, -, rfl⟩ | ⟨-, -, -, ⟨-, hm⟩ | ⟨-, e3⟩⟩
    · rfl
    · exact mn_len hm
    · rw [show v.2.1 = P from congrArg Prod.fst e3]
theorem up_awk {f : Nat → Int32} {n k pid : Nat} {cn : Nat → Int32} {se : Option SQ9} {pi : Option PQ9} {dn : Nat → Option PQ9} {P : List PR9} {u : UU9} {Q : va_W} {cO : ClassId} {pst : Option (Nat × (Nat → Option Nat))} (h : upP f n k pid cn se pi dn P u) (ha : awk P) (htk : tok Q cO pst P) : awk u.2.2.2.2.2.1 := by
  obtain ⟨b, hb, -, -, e, -⟩ := h
  rw [e]
  rcases hb with ⟨-, rfl⟩ | ⟨-, u, v, -, hp, -, -, -, -, e2, -⟩
  · exact ha
  · rw [e2]
    rcases hp with ⟨-, -, rfl⟩ | ⟨-, -, -, ⟨-, hm⟩ | ⟨-, e3⟩⟩
    · exact ha
    · exact mn_awk ha htk hm
    · rw [show v.2.1 = P from congrArg Prod.fst e3]; exact ha
theorem lf_no {Ls : List LZ} {pid : Nat} (h : lnF Ls pid = none) : ∀ y ∈ Ls, y.2.1 ≠ pid := by
  intro y hy
  unfold lnF at h
  rw [Option.map_eq_none_iff] at h
  have := List.find?_eq_none.mp h y hy
  simpa using this
/-- the lanes after a lane was found or made -/
theorem lm_inv {Ls T1 T2 : List LZ} {z : LZ} {hf hf1 : Nat → Option Nat} {pid : Nat} (h : LM Ls T1 T2 z hf hf1 pid) (hp : pid < 8192) (hLN : ∀ k, k < 256 → hf k = lhd k Ls) (hok : lok Ls) (hz : lzk Ls) : (∀ k, k < 256 → hf1 k = lhd k (T1 ++ z :: T2)) ∧ lok (T1 ++ z :: T2) ∧ lzk (T1 ++ z :: T2) := by
  obtain ⟨h0, ⟨rfl, rfl⟩ | ⟨hn, rfl, rfl, he, rfl⟩⟩ := h
  · exact ⟨hLN, hok, hz⟩
  · have h3 : z.2.2.1 = hf (pid % 256) := by rw [he]
    have h8 : z.2.2.2.2.2.2.2.1 = none := by rw [he]
    refine ⟨fun k hk => ?_, ⟨by rw [h0]; exact hp, by rw [h3, h0]; exact hLN _ (Nat.mod_lt _ (by decide)), fun y hy => by rw [h0]; exact lf_no hn y hy, hok⟩, fun y hy => ?_⟩
    · show va_up hf (pid % 256) (some z.1) k = if z.2.1 % 256 = k then some z.1 else lhd k T2
      rw [h0]
      by_cases c : pid % 256 = k
      · rw [if_pos c, ← c]; exact va_up_self _ _ _
      · rw [if_neg c, va_up_ne _ _ (fun q => c q.symm)]; exact hLN k hk
    · rcases List.mem_cons.mp hy with q | q
      · rw [q, h8]; exact gsK_0 _
      · exact hz y q
theorem fo_rk (cn : Nat → Int32) (ct tw : Int32) (se : Option SQ9) (pi : Option PQ9) (c lt : Int32) : rwC (foU cn ct tw se pi c lt).2.2.2.2.1 = rwC se ∧ (gsK (gsQ se) → gsK (gsQ (foU cn ct tw se pi c lt).2.2.2.2.1)) := by
  unfold foU
  split
  · exact ⟨rfl, id⟩
  · split
    · exact ⟨(gu_rk se).1, fun _ => (gu_rk se).2⟩
    · exact ⟨rfl, id⟩
/-- what openPacket leaves of the lane -/
theorem op_res {f : Nat → Int32} {n k : Nat} {cn : Nat → Int32} {z : LZ} {T1 T2 : List LZ} {hf1 : Nat → Option Nat} {r : Option Nat} {u : OU9} (h : (r, u) = opR f n k cn z T1 T2 hf1) : ∃ y : LZ, u.2.1 = T1 ++ y :: T2 ∧ u.2.2 = hf1 ∧ (y.1, y.2.1, y.2.2.1) = (z.1, z.2.1, z.2.2.1) ∧ rwC y.2.2.2.2.2.2.2.1 = rwC z.2.2.2.2.2.2.2.1 ∧ (gsK (gsQ z.2.2.2.2.2.2.2.1) → gsK (gsQ y.2.2.2.2.2.2.2.1)) ∧ (r = none ∨ (r = some y.1 ∧ ¬ opP f n k = 2 ∧ rbN f n 9400 (k + 3) / 64 = 0)) := by
  have hfo := fo_rk cn z.2.2.2.1 z.2.2.2.2.1 z.2.2.2.2.2.2.2.1 z.2.2.2.2.2.2.2.2 (nI (rbN f n 9400 (k + 3) % 16)) (if opF f n k < 128 then 0 else 1)
  unfold opR at h
  simp only at h
  generalize foU cn z.2.2.2.1 z.2.2.2.2.1 z.2.2.2.2.2.2.2.1 z.2.2.2.2.2.2.2.2 (nI (rbN f n 9400 (k + 3) % 16)) (if opF f n k < 128 then 0 else 1) = o at h hfo
  by_cases c1 : z.2.1 = 8191 ∨ opP f n k = 2
  · rw [if_pos c1] at h
    cases h
    exact ⟨_, rfl, rfl, rfl, rfl, id, Or.inl rfl⟩
  · rw [if_neg c1] at h
    by_cases c2 : o.1 = 0
    · rw [if_pos c2] at h
      cases h
      exact ⟨_, rfl, rfl, rfl, hfo.1, hfo.2, Or.inl rfl⟩
    · rw [if_neg c2] at h
      by_cases c3 : rbN f n 9400 (k + 3) / 64 = 0
      · rw [if_pos c3] at h
        cases h
        exact ⟨_, rfl, rfl, rfl, hfo.1, hfo.2, Or.inr ⟨rfl, fun q => c1 (Or.inr q), c3⟩⟩
      · rw [if_neg c3] at h
        cases h
        exact ⟨_, rfl, rfl, rfl, (gu_rk _).1.trans hfo.1, fun _ => (gu_rk _).2, Or.inl rfl⟩
theorem lzk_same {A B : List LZ} {x y : LZ} (h : lzk (A ++ x :: B)) (hk : gsK (gsQ x.2.2.2.2.2.2.2.1) → gsK (gsQ y.2.2.2.2.2.2.2.1)) : lzk (A ++ y :: B) := by
  intro z hz
  rcases List.mem_append.mp hz with q | q
  · exact h z (List.mem_append_left _ q)
  · rcases List.mem_cons.mp q with q | q
    · rw [q]; exact hk (h x (List.mem_append_right _ List.mem_cons_self))
    · exact h z (List.mem_append_right _ (List.mem_cons_of_mem _ q))
theorem lzk_put {A2 B2 : List LZ} {y : LZ} (h : lzk (A2 ++ B2)) (hk : gsK (gsQ y.2.2.2.2.2.2.2.1)) : lzk (A2 ++ y :: B2) := by
  intro z hz
  rcases List.mem_append.mp hz with q | q
  · exact h z (List.mem_append_left _ q)
  · rcases List.mem_cons.mp q with q | q
    · rw [q]; exact hk
    · exact h z (List.mem_append_right _ q)
theorem lzk_out {A B : List LZ} {x : LZ} (h : lzk (A ++ x :: B)) : lzk (A ++ B) ∧ gsK (gsQ x.2.2.2.2.2.2.2.1) := ⟨fun z hz => (List.mem_append.mp hz).elim (fun q => h z (List.mem_append_left _ q)) (fun q => h z (List.mem_append_right _ (List.mem_cons_of_mem _ q))), h x (List.mem_append_right _ List.mem_cons_self)⟩
theorem lsk_two {A B A2 B2 : List LZ} {x y : LZ} (ha : lsk A2 = lsk A) (hb : lsk B2 = lsk B) (h : (y.1, y.2.1, y.2.2.1) = (x.1, x.2.1, x.2.2.1)) : lsk (A ++ x :: B) = lsk (A2 ++ y :: B2) := by
  rw [lsk_app, lsk_app]
  show lsk A ++ (x.1, x.2.1, x.2.2.1) :: lsk B = lsk A2 ++ (y.1, y.2.1, y.2.2.1) :: lsk B2
  rw [ha, hb, h]
theorem pay_187 {f : Nat → Int32} {n k : Nat} (h : ¬ opBad f n k) (h2 : ¬ opP f n k = 2) : payN f n 9400 k ≤ k + 187 := by
  unfold opBad at h
  unfold payN
  have e1 : opP f n k = rbN f n 9400 (k + 3) / 16 % 4 := rfl
  split
  · omega
  · rename_i h3
    have e2 : opX f n k = rbN f n 9400 (k + 4) := if_neg (by omega)
    omega
theorem tk_p1 {X Z L A B R : va_W} : (X ++ (Z ++ (L ++ (A ++ (B ++ R))))).Perm (X ++ (Z ++ (A ++ (B ++ (L ++ R))))) := by
  refine List.Perm.append_left X (List.Perm.append_left Z ?_)
  refine (List.perm_append_comm_assoc _ _ _).trans (List.Perm.append_left A ?_)
  exact List.perm_append_comm_assoc _ _ _
theorem tk_p2 {X Z L A B C E Q : va_W} : (X ++ (Z ++ (A ++ (B ++ (C ++ (L ++ (E ++ Q))))))).Perm (X ++ (Z ++ (L ++ (A ++ (B ++ ((C ++ E) ++ Q)))))) := by
  refine List.Perm.append_left X (List.Perm.append_left Z ?_)
  rw [List.append_assoc C]
  refine (List.Perm.append_left A (List.Perm.append_left B (List.perm_append_comm_assoc _ _ _))).trans ?_
  refine (List.Perm.append_left A (List.perm_append_comm_assoc _ _ _)).trans ?_
  exact List.perm_append_comm_assoc _ _ _
theorem tk_p3 {X Z L A B R : va_W} : (X ++ (Z ++ (L ++ (A ++ (B ++ R))))).Perm (X ++ (Z ++ (B ++ (L ++ (A ++ R))))) := by
  refine List.Perm.append_left X (List.Perm.append_left Z ?_)
  refine (List.Perm.append_left L (List.perm_append_comm_assoc _ _ _)).trans ?_
  exact List.perm_append_comm_assoc _ _ _
theorem tk_p4 {X Z L A B C E Q : va_W} : (X ++ (Z ++ (B ++ (L ++ (C ++ (A ++ (E ++ Q))))))).Perm (X ++ (Z ++ (L ++ (A ++ (B ++ ((C ++ E) ++ Q)))))) := by
  refine List.Perm.append_left X (List.Perm.append_left Z ?_)
  rw [List.append_assoc C]
  refine (List.perm_append_comm_assoc _ _ _).trans (List.Perm.append_left L ?_)
  refine (List.Perm.append_left B (List.perm_append_comm_assoc _ _ _)).trans ?_
  exact List.perm_append_comm_assoc _ _ _
theorem tk_end {f : Nat → Int32} {n m i : Nat} {s : TK9} (h : n ≤ i ∨ (rbN f n 9400 i = 71 ∧ n < i + 188)) : tkL f n m i s (i, 0, s) := by
  cases m with
  | zero => rfl
  | succ m => exact Or.inl ⟨h, rfl⟩


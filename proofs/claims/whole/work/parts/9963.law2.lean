/-! The law's state: both worlds show the same -/
/-- the tape -/
def RT (T : List Int32) (f tp : Nat → Int32) : Prop := rc f T ∧ rl tp T ∧ T.length ≤ 9400
/-- what is received; k: calls done -/
def RH (k : Nat) (s : TK9) (y : RK9) : Prop := tkI s ∧ hK (huS s) y ∧ (∃ m, hM m (huS s) ∧ m ≤ 9400 * k) ∧ kN y ≤ 18800 * k
/-- the drafts -/
def RD (DL : List DR9) (pN pP pS pT pQ : Nat → Int32) : Prop := ∀ k, k < DL.length → pN k = (DL.getD k dr0).2.1 ∧ pP k = nI (DL.getD k dr0).2.2.1 ∧ pS k = nI (DL.getD k dr0).2.2.2.2.1.length ∧ ∀ j, j < (DL.getD k dr0).2.2.2.2.1.length → pT (4 * k + j) = ((DL.getD k dr0).2.2.2.2.1.getD j (0, 0)).1 ∧ pQ (4 * k + j) = nI ((DL.getD k dr0).2.2.2.2.1.getD j (0, 0)).2
/-- the room -/
def RM (k : Nat) (T : List Int32) (A : HS) (c s : Nat) : Prop := ∃ C, cvT T C ∧ c + 80 * C.length + 40 * T.length / 188 + 2 * gfh gG A ≤ 59 + 2490 + 1000 * k ∧ s + 1554 * C.length + 305 * T.length / 188 + 1026 * gfh gG A ≤ 82537 + 1277370 + 9400 * k
theorem RH_up {k : Nat} {s : TK9} {y : RK9} (h : RH k s y) : RH (k + 1) s y := by
  obtain ⟨h1, h2, ⟨m, h3, h4⟩, h5⟩ := h
  exact ⟨h1, h2, ⟨m, h3, by omega⟩, by omega⟩
theorem RW_up {k : Nat} {Ls : List LZ} {wr : Nat → Int32} (h : RW (32 * k) Ls wr) : RW (32 * (k + 1)) Ls wr := by
  obtain ⟨wf, h1, h2, h3⟩ := h
  exact ⟨wf, h1, fun x => by have := h2 x; omega, h3⟩
theorem RM_up {k : Nat} {T : List Int32} {A : HS} {c s c2 s2 : Nat} (h : RM k T A c s) (hc : c2 ≤ c + 1000) (hs : s2 ≤ s + 9400) : RM (k + 1) T A c2 s2 := by
  obtain ⟨C, h1, h2, h3⟩ := h
  exact ⟨C, h1, by omega, by omega⟩
theorem RM_app {k : Nat} {T W : List Int32} {A : HS} {c s c2 s2 : Nat} (h : RM k T A c s) (hW : W.length ≤ 188) (hc : c2 ≤ c + 800) (hs : s2 ≤ s + 7000) : RM (k + 1) (T ++ W) A c2 s2 := by
  obtain ⟨C, h1, h2, h3⟩ := h
  refine ⟨_, cv_app1 h1 hW, ?_, ?_⟩
  · rw [List.length_cons, List.length_append]; omega
  · rw [List.length_cons, List.length_append]; omega
theorem RM_set {k : Nat} {T U : List Int32} {A : HS} {c s c2 s2 j d : Nat} (h : RM k T A c s) (hl : U.length = T.length) (hd : d ≤ 100) (hU : ∀ i, i < j ∨ j + d ≤ i → U.getD i 0 = T.getD i 0) (hc : c2 ≤ c + 800) (hs : s2 ≤ s + 7000) : RM (k + 1) U A c2 s2 := by
  obtain ⟨C, h1, h2, h3⟩ := h
  refine ⟨_, cv_set h1 hl hd hU, ?_, ?_⟩
  · rw [List.length_cons, hl]; omega
  · rw [List.length_cons, hl]; omega
theorem RM_rm {k : Nat} {T : List Int32} {A : HS} {c s c2 s2 a b : Nat} (h : RM k T A c s) (hk : a + b ≤ T.length) (hc : c2 ≤ c + 800) (hs : s2 ≤ s + 7000) : RM (k + 1) (T.take a ++ T.drop (a + b)) A c2 s2 := by
  obtain ⟨C, h1, h2, h3⟩ := h
  have hl := dr_len hk
  refine ⟨_, cv_rm (k := a) (c := b) h1 (by rw [hl]; omega) hk (fun i hi => by rw [dr_get hk, if_pos hi]) (fun i hi => by rw [dr_get hk, if_neg (by omega)]), ?_, ?_⟩
  · rw [List.length_cons, List.length_map, hl]; omega
  · rw [List.length_cons, List.length_map, hl]; omega
theorem RM_le {k : Nat} {T : List Int32} {A : HS} {c s : Nat} (h : RM k T A c s) (hk : k ≤ 512) : c ≤ 515000 + 1000 * (k - 512) ∧ s ≤ 6180000 ∧ (k ≤ 511 → c + 1000 ≤ 515000 ∧ s + 9400 ≤ 6180000) := by
  obtain ⟨C, h1, h2, h3⟩ := h
  omega
/-- the wrapper's lanes -/
theorem lwv_of {Ls : List LZ} (hd : lpd Ls) {z : LZ} (hz : z ∈ Ls) : lwv (lww Ls) z.2.1 = z.2.2.2.2.2.2.1 := by
  obtain ⟨T1, T2, rfl⟩ := List.append_of_mem hz
  have hm := lpd_mid hd
  have := lwv_mid (w := z.2.2.2.2.2.2.1) hm.2.1 z.2.1
  rw [if_pos rfl] at this
  exact this
theorem RW_lwr {b : Nat} {Ls : List LZ} {wr : Nat → Int32} (h : RW b Ls wr) (hok : lok Ls) : lwr b Ls := by
  obtain ⟨wf, h1, h2, -⟩ := h
  intro z hz
  exact ⟨wf z.2.1, h2 _, by rw [← h1, lwv_of (lok_lpd hok) hz]⟩
theorem RW_q {b : Nat} {Ls L2 : List LZ} {wr : Nat → Int32} (h : RW b Ls wr) (hq : lwq L2 Ls) : RW b L2 wr := by
  obtain ⟨wf, h1, h2, h3⟩ := h
  exact ⟨wf, fun x => (hq x).trans (h1 x), h2, h3⟩
/-- pools -/
theorem lg_pB {X A B R : va_W} : (X ++ (A ++ (B ++ R))).Perm (X ++ (B ++ (A ++ R))) := List.Perm.append_left X (List.perm_append_comm_assoc _ _ _)
theorem lg_pC {X A B C R : va_W} : (X ++ (A ++ (B ++ (C ++ R)))).Perm (X ++ (C ++ (A ++ (B ++ R)))) := by
  refine List.Perm.append_left X ?_
  refine (List.Perm.append_left A (List.perm_append_comm_assoc _ _ _)).trans ?_
  exact List.perm_append_comm_assoc _ _ _
theorem lg_pE {X A B C E R : va_W} : (X ++ (A ++ (B ++ (C ++ (E ++ R))))).Perm (X ++ (E ++ (A ++ (B ++ (C ++ R))))) := by
  refine List.Perm.append_left X ?_
  refine (List.Perm.append_left A (List.Perm.append_left B (List.perm_append_comm_assoc _ _ _))).trans ?_
  refine (List.Perm.append_left A (List.perm_append_comm_assoc _ _ _)).trans ?_
  exact List.perm_append_comm_assoc _ _ _
theorem lg_pT {X A B C E R : va_W} : (X ++ (A ++ (B ++ (C ++ (E ++ R))))).Perm (X ++ (A ++ (E ++ (B ++ (C ++ R))))) := by
  refine List.Perm.append_left X (List.Perm.append_left A ?_)
  refine (List.Perm.append_left B (List.perm_append_comm_assoc _ _ _)).trans ?_
  exact List.perm_append_comm_assoc _ _ _
theorem lg_pX {X A B C E G R : va_W} : (X ++ (A ++ (B ++ (C ++ (G ++ (E ++ R)))))).Perm (X ++ (A ++ (B ++ (C ++ (E ++ (G ++ R)))))) := List.Perm.append_left X (List.Perm.append_left A (List.Perm.append_left B (List.Perm.append_left C (List.perm_append_comm_assoc _ _ _))))
theorem lg_pF {X A B C E G R : va_W} : (X ++ (E ++ (G ++ (A ++ (B ++ (C ++ R)))))).Perm (X ++ (A ++ (B ++ (C ++ (E ++ (G ++ R)))))) := by
  refine List.Perm.trans ?_ (lg_pE (X := X) (A := A) (B := B) (C := C) (E := E) (R := G ++ R)).symm
  refine List.Perm.append_left X (List.Perm.append_left E ?_)
  refine (List.perm_append_comm_assoc _ _ _).trans (List.Perm.append_left A ?_)
  refine (List.perm_append_comm_assoc _ _ _).trans (List.Perm.append_left B ?_)
  exact List.perm_append_comm_assoc _ _ _
/-- what is told of programmes -/
theorem pv_at {P : List PR9} {k : Nat} (hk : k < P.length) : (P.map pv9).getD k pv0 = pv9 (P.getD k pr9) := by
  rw [List.getD_eq_getElem?_getD, List.getD_eq_getElem?_getD, List.getElem?_map, List.getElem?_eq_getElem hk]
  rfl
theorem pg_same {g : PG} {n : Nat} {P : List PR9} {k w : Nat} (h : tbR g n (P.map pv9)) (hk : k < P.length) (hw : w ≤ 6) : pvV (P.getD k pr9) w = pgV g.nu g.pi g.vs g.cp g.sc g.aw g.wt k w := by
  obtain ⟨h1, h2, h3⟩ := h
  rw [List.length_map] at h1
  have h4 := h3 k (by omega)
  rw [pv_at hk] at h4
  obtain ⟨⟨a1, a2, -, a3, a4, a5, a6, -, -, -⟩, ⟨b1, -, -⟩, ⟨c1, -, -⟩⟩ := h4
  unfold pgV pvV
  rw [a1, a2, a3, a6, b1, c1]
  have : w = 0 ∨ w = 1 ∨ w = 2 ∨ w = 3 ∨ w = 4 ∨ w = 5 ∨ w = 6 := by omega
  rcases this with rfl | rfl | rfl | rfl | rfl | rfl | rfl
  · rfl
  · rfl
  · rfl
  · show (pv9 (P.getD k pr9)).2.2.2.1 = if (pv9 (P.getD k pr9)).2.2.1 = -1 then -1 else g.cp k
    by_cases c : (pv9 (P.getD k pr9)).2.2.1 = -1
    · rw [if_pos c, a5 c]
    · rw [if_neg c, a4 c]
  · rfl
  · rfl
  · show nI (P.getD k pr9).2.2.1.length = nI (pv9 (P.getD k pr9)).2.2.2.2.2.2.2.length
    rw [show (pv9 (P.getD k pr9)).2.2.2.2.2.2.2 = (P.getD k pr9).2.2.1.map (fun y => y.2) from rfl, List.length_map]
theorem sm_same {g : PG} {n : Nat} {P : List PR9} {k j : Nat} (h : tbR g n (P.map pv9)) (hk : k < P.length) (hj : j < (P.getD k pr9).2.1.length) : ((P.getD k pr9).2.1.getD j (0, 0)).1 * 65536 + nI ((P.getD k pr9).2.1.getD j (0, 0)).2 = g.ty (4 * k + j) * 65536 + g.sp (4 * k + j) := by
  obtain ⟨h1, h2, h3⟩ := h
  rw [List.length_map] at h1
  have h4 := h3 k (by omega)
  rw [pv_at hk] at h4
  obtain ⟨-, ⟨-, -, b⟩, -⟩ := h4
  obtain ⟨b1, b2, -⟩ := b j hj
  rw [b1, b2]
  rfl
theorem sc_same {g : PG} {n : Nat} {P : List PR9} (h : tbR g n (P.map pv9)) : ∀ k, k < P.length → g.sc k = nI (P.getD k pr9).2.1.length ∧ (P.getD k pr9).2.1.length ≤ 4 := by
  intro k hk
  obtain ⟨h1, h2, h3⟩ := h
  rw [List.length_map] at h1
  have h4 := h3 k (by omega)
  rw [pv_at hk] at h4
  obtain ⟨-, ⟨b1, b2, -⟩, -⟩ := h4
  exact ⟨b1, b2⟩
theorem nw_same {g : PG} {n : Nat} {P : List PR9} {k : Nat} (h : tbR g n (P.map pv9)) (hk : k < P.length) : (P.getD k pr9).1.2.2.2.2.2.2.2.1 = g.nw k := by
  obtain ⟨h1, h2, h3⟩ := h
  rw [List.length_map] at h1
  have h4 := h3 k (by omega)
  rw [pv_at hk] at h4
  obtain ⟨⟨-, -, -, -, -, -, -, -, a, -⟩, -, -⟩ := h4
  rw [a]
  rfl
theorem wc_same {g : PG} {n : Nat} {P : List PR9} (h : tbR g n (P.map pv9)) : ∀ k, k < P.length → g.wt k = nI (P.getD k pr9).2.2.1.length ∧ (P.getD k pr9).2.2.1.length ≤ 6 := by
  intro k hk
  obtain ⟨h1, h2, h3⟩ := h
  rw [List.length_map] at h1
  have h4 := h3 k (by omega)
  rw [pv_at hk] at h4
  obtain ⟨-, -, ⟨b1, b2, -⟩⟩ := h4
  rw [show (pv9 (P.getD k pr9)).2.2.2.2.2.2.2 = (P.getD k pr9).2.2.1.map (fun y => y.2) from rfl, List.length_map] at b1 b2
  exact ⟨b1, b2⟩
theorem wl_atG {W : WL9} {j : Nat} (hj : j < W.length) : (W.map (fun y => y.2)).getD j oz0 = (W.getD j (0, oz0)).2 := by
  rw [List.getD_eq_getElem?_getD, List.getD_eq_getElem?_getD, List.getElem?_map, List.getElem?_eq_getElem hj]
  rfl
theorem ord_same {g : PG} {n : Nat} {P : List PR9} {k j w : Nat} (h : tbR g n (P.map pv9)) (hk : k < P.length) (hj : j < (P.getD k pr9).2.2.1.length) : odV ((P.getD k pr9).2.2.1.getD j (0, oz0)).2 w = orV g.z.1 g.z.2.2.2 g.z.2.1 g.z.2.2.1 (6 * k + j) w := by
  obtain ⟨h1, h2, h3⟩ := h
  rw [List.length_map] at h1
  have h4 := h3 k (by omega)
  rw [pv_at hk] at h4
  obtain ⟨-, -, ⟨-, -, b⟩⟩ := h4
  rw [show (pv9 (P.getD k pr9)).2.2.2.2.2.2.2 = (P.getD k pr9).2.2.1.map (fun y => y.2) from rfl] at b
  obtain ⟨b1, -⟩ := b j (by rw [List.length_map]; exact hj)
  rw [wl_atG hj] at b1
  rw [← b1]
  rfl
theorem ck_same {Ls : List LZ} {pid : Nat} : clkOf Ls pid = (huV Ls pid).2.2.1 := by
  unfold clkOf huV
  cases Ls.find? (fun z => z.2.1 == pid) with
  | none => rfl
  | some z => rfl
theorem dtk_mono {Q Q2 : va_W} {dst : Option (Nat × (Nat → Option Nat))} {L : List DR9} (h : dtk Q dst L) (hq : ∀ y ∈ Q, y ∈ Q2) : dtk Q2 dst L := ⟨h.1, h.2.1, fun x hx => dok_mono (h.2.2 x hx) hq⟩
theorem lwr_le {b b2 : Nat} {Ls : List LZ} (h : lwr b Ls) (hb : b ≤ b2) : lwr b2 Ls := fun z hz => by
  obtain ⟨w, h1, h2⟩ := h z hz
  exact ⟨w, by omega, h2⟩
theorem RH_ex {k : Nat} {s : TK9} {y : RK9} (h : RH k s y) : RH k (s.1, s.2.1, s.2.2.1, s.2.2.2.1, s.2.2.2.2.1, s.2.2.2.2.2.1, s.2.2.2.2.2.2.1, s.2.2.2.2.2.2.2.1, s.2.2.2.2.2.2.2.2.1, []) y := h
theorem RM_ex {k : Nat} {T : List Int32} {s : TK9} {c d : Nat} (h : RM k T (huS s) c d) : RM k T (huS (s.1, s.2.1, s.2.2.1, s.2.2.2.1, s.2.2.2.2.1, s.2.2.2.2.2.1, s.2.2.2.2.2.2.1, s.2.2.2.2.2.2.2.1, s.2.2.2.2.2.2.2.2.1, [])) c d := h


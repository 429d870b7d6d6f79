theorem d_Law_law_23 : decode b_Law_law 23 = .ok (.iload 4, 2) := by decide +kernel
theorem d_Law_law_25 : decode b_Law_law 25 = .ok (.aload_n 0, 1) := by decide +kernel
theorem d_Law_law_26 : decode b_Law_law 26 = .ok (.arraylength, 1) := by decide +kernel
theorem d_Law_law_27 : decode b_Law_law 27 = .ok (.bipush 8, 2) := by decide +kernel
theorem d_Law_law_29 : decode b_Law_law 29 = .ok (.isub, 1) := by decide +kernel
theorem d_Law_law_30 : decode b_Law_law 30 = .ok (.if_icmp .gt 1420, 3) := by decide +kernel
theorem d_Law_law_33 : decode b_Law_law 33 = .ok (.aload_n 0, 1) := by decide +kernel
theorem d_Law_law_34 : decode b_Law_law 34 = .ok (.iload 4, 2) := by decide +kernel
theorem d_Law_law_36 : decode b_Law_law 36 = .ok (.iaload, 1) := by decide +kernel
theorem d_Law_law_37 : decode b_Law_law 37 = .ok (.bipush 31, 2) := by decide +kernel
theorem d_Law_law_39 : decode b_Law_law 39 = .ok (.iand, 1) := by decide +kernel
theorem d_Law_law_40 : decode b_Law_law 40 = .ok (.tableswitch 1404 0 18 #[92, 192, 260, 286, 354, 402, 415, 471, 539, 607, 662, 741, 808, 863, 931, 1011, 1022, 1078, 1232], 92) := by decide +kernel
theorem d_Law_law_1450 : decode b_Law_law 1450 = .ok (.iconst 1, 1) := by decide +kernel
theorem d_Law_law_1451 : decode b_Law_law 1451 = .ok (.ireturn, 1) := by decide +kernel
/-! The start -/
abbrev z32 : Nat → Int32 := fun _ => 0
abbrev z64 : Nat → Int64 := fun _ => 0
abbrev g00 : PG := (z32, z32, z32, z32, z32, z32, z64, z32, z32, z32, z64, z32, z32, z64)
abbrev o00 : OG := (z32, z32, z64, z32, z32, z64, z32, z32, z64)
abbrev y00 : RK9 := yT z32 (ini (-1) 8192) z32 (iniL (-1) 8192) z32 z32 z32 z64 0 z64 z32 z32 z32 z32 0 (-1) 0 g00 o00 (ini (-1) 24) z32
abbrev s00 (pr : Nat) : TK9 := (z32, [], fun _ => none, fun _ => none, -1, pr, 0, none, [], [])
theorem RT_0 : RT [] z32 z32 := ⟨rc_0, rl_nil, Nat.zero_le _⟩
theorem RH_0 (pr : Nat) : RH 0 (s00 pr) y00 := by
  refine ⟨⟨fun k hk => rfl, trivial, fun z hz => absurd hz List.not_mem_nil, fun x hx => absurd hx List.not_mem_nil, Nat.zero_le _⟩, ⟨⟨rfl, rfl, ⟨rfl, Nat.zero_le _, fun k hk => absurd hk (Nat.not_lt_zero k)⟩, ⟨fun k hk => Or.inl (ini_at _ _ _ hk), fun k j hk hj _ h => absurd (ini_at _ _ _ hk) h, fun q hq h => ?_, fun q g hq h => ?_⟩, fun x hx => ⟨0, by omega, rfl⟩⟩, rfl, fun k _ hk => absurd hk (Nat.not_lt_zero k), fun p hp => ⟨ini_at _ _ _ hp, rfl, iniL_at _ _ _ hp⟩⟩, ⟨0, ⟨fun q hq => ⟨Or.inl rfl, fun h => absurd rfl h, fun h => absurd rfl h, gln_0⟩, fun p hp => ⟨Or.inl rfl, Or.inl rfl⟩, fun p g hp hg => ?_⟩, Nat.zero_le _⟩, Nat.zero_le _⟩
  · rcases h with h | h
    · exact absurd rfl h
    · cases h
  · cases h
  · cases hg
theorem RW_0 : RW (32 * 0) [] z32 := ⟨fun _ => 0, fun _ => rfl, fun _ => Nat.zero_le _, fun _ _ => rfl⟩
theorem RD_0 : RD [] z32 z32 z32 z32 z32 := fun k hk => absurd hk (Nat.not_lt_zero k)
theorem RM_0 (A : HS) : RM 0 [] A 59 82537 := by
  have := gfh_le A
  exact ⟨[], cv_nil, by simp only [List.length_nil]; omega, by simp only [List.length_nil]; omega⟩
theorem tok_0 (cO : ClassId) : tok [] cO none [] := ⟨Nat.zero_le _, rfl, fun x hx => absurd hx List.not_mem_nil⟩
theorem dtk_0 : dtk [] none [] := ⟨Nat.zero_le _, rfl, fun x hx => absurd hx List.not_mem_nil⟩
theorem nk_lt {i : Int32} {n : Nat} (hn : n < 2 ^ 31) (h : ¬ (i < 0 ∨ ¬ i < nI n)) : ∃ k : Nat, k < n ∧ i = nI k := by
  have h1 : ¬ i < 0 := fun z => h (Or.inl z)
  have h2 : i < nI n := Classical.byContradiction (fun z => h (Or.inr z))
  cases n with
  | zero => exact absurd h2 h1
  | succ n =>
    obtain ⟨k, hk, e⟩ := nk_11 (i := i) (M := n) (by omega) (fun z => z.elim h1 (fun q => by
      rw [Int32.lt_iff_toInt_lt, nI_toInt (by omega)] at q h2
      omega))
    exact ⟨k, by omega, e⟩
theorem lw_gt {L i : Nat} (hL : L ≤ 4096) (hi : i ≤ 8192) : nI i > nI L - 8 ↔ L < i + 8 := by
  show nI L - 8 < nI i ↔ _
  rw [Int32.lt_iff_toInt_lt, Int32.toInt_sub, nI_toInt (by omega), nI_toInt (by omega), show (8 : Int32).toInt = 8 from rfl, Int.bmod_eq_of_le (by omega) (by omega)]
  omega

theorem law_ret {p : Program} {e : Env} {s : State} {m : MethodId} {below : List Frame} {meth : Method} {cd : Code} (l : Launch) {b L : Nat} {xs : Nat → Int32} (C9 : lw_At p s m meth cd b L xs) {A : Nat → Prop} (hAO : ∀ q, A q → s.heap.size ≤ q) {H : Heap} {locs : List Loc} {ls : Array Slot} {cells slots : Nat} (hS : va_S A s.heap H locs) (hc : cells ≤ 601024) (hs : slots ≤ 7293033) : W p l e room_1 s m #[Value.ref b] below meth cd H locs cells slots (lw_Z below #[Value.ref b] s) (F0 m 1450 ls []) := by
  obtain ⟨hx, hb, hr, hml, hown, htl, hX, hbl, hlocks, hgv⟩ := C9
  refine lv_iconst (v := 1) hx hb d_Law_law_1450 (by decide) ?_
  refine W.widen (k := 601024) (n := 7293033) hc hs ?_
  intro T hT X
  exact lw_ret hx hb hr hlocks d_Law_law_1451 T hT (Stand.forget (locs := []) (extra := locs) X (fun y hy => hAO _ (hS.2.2 y hy)))

set_option maxHeartbeats 16000000 in
set_option maxRecDepth 100000 in
theorem lg_step {p : Program} {e : Env} {s : State} {m : MethodId} {below : List Frame} {meth : Method} {cd : Code} (l : Launch) (hfl : l.stackTraces = false) {b L : Nat} {xs : Nat → Int32} (C9 : lw_At p s m meth cd b L xs) (hL : L ≤ 4096) (A : Nat → Prop) (hA : ∀ q, s.heap.size ≤ q → A q) (hAO : ∀ q, A q → s.heap.size ≤ q) (D : va_G) (cB cI cJ cZ cN cQ cO : ClassId) (hK : va_K D classes [(cB, .byte), (cI, .int), (cJ, .long), (cZ, .boolean), (cN, .object "StreamSplitter$Lane"), (cQ, .object "StreamSplitter$Piece"), (cO, .object "java/lang/Object")] s) (e0 : Nat) (he0 : zE0 s e0) (x9 rv dr tp ln tb ca dp a hd m9 o9 : Nat) (r : Nat → Nat) (i0 k9 : Nat) (hik : i0 = 8 * k9) (hiL : i0 ≤ L) (IH : ∀ i k, i = i0 + 8 → k = k9 + 1 → i ≤ L → LG p l e s m below meth cd b A D cB cI cJ cZ cN cQ cO e0 x9 rv dr tp ln tb ca dp a hd m9 o9 r i k) (T : List Int32) (f : Nat → Int32) (cn : Nat → Int32) (hf : Nat → Option Nat) (dpf : Nat → Option Nat) (dn : Nat → Option PQ9) (Ls : List LZ) (lv : Int32) (pr : Nat) (pmo : Int32) (pst : Option (Nat × (Nat → Option Nat))) (P : List PR9) (mo : Int32) (dst : Option (Nat × (Nat → Option Nat))) (DL : List DR9) (X : va_W) (th : Int32) (rs : Int32) (tpR : Nat → Int32) (wrR : Nat → Int32) (roR : Nat → Int32) (pN : Nat → Int32) (pP : Nat → Int32) (pS : Nat → Int32) (pT : Nat → Int32) (pQ : Nat → Int32) (pkR : Nat → Int32) (ctR : Nat → Int32) (twR : Nat → Int32) (clR : Nat → Int64) (kdR : Nat → Int32) (waR : Nat → Int32) (suR : Nat → Int32) (tiR : Nat → Int64) (npR : Nat) (dnR : Nat → Int64) (sYR : Nat → Int32) (sZR : Nat → Int32) (sBR : Nat → Int32) (seR : Nat → Int32) (leR : Int32) (gR : PG) (oR : OG) (sPR : Nat → Int32) (g9 : Nat → Int64) (H : Heap) (locs : List Loc) (ls : Array Slot) (cells slots : Nat) (hl : lv_has ls 8 [(4, .int (nI i0)), (3, .ref o9), (2, .ref m9), (1, .ref x9), (0, .ref b)]) (hP : va_P D classes ([(x9, .inr (11, [.ref rv, .ref dr])), (rv, .inr (4, [.ref tp, .ref ln, .ref tb, .ref ca, .ref dp])), (ca, .inl (cI, 10, .inl cn)), (dp, .inl (cQ, 16, .inr (.inr (.inr (.inr dpf))))), (tp, .inr (0, [.ref a, .int (nI T.length)])), (a, .inl (cB, 9400, .inl f)), (ln, .inr (2, [.ref hd])), (hd, .inl (cN, 256, .inr (.inr (.inr (.inr hf))))), (m9, .inr (13, mO r th (nI T.length) leR lv (nI P.length) (nI npR) (nI DL.length) rs)), (r 1, .inl (cI, 9400, .inl tpR)), (r 3, .inl (cI, 10, .inl cn)), (r 4, .inl (cI, 8192, .inl ctR)), (r 5, .inl (cZ, 8192, .inl twR)), (r 6, .inl (cJ, 8192, .inr (.inl clR))), (r 7, .inl (cI, 24, .inl sPR)), (r 8, .inl (cZ, 24, .inl sBR)), (r 9, .inl (cI, 24576, .inl sYR)), (r 10, .inl (cI, 24, .inl sZR)), (r 11, .inl (cI, 24, .inl kdR)), (r 12, .inl (cI, 24, .inl waR)), (r 13, .inl (cI, 24, .inl suR)), (r 14, .inl (cJ, 24, .inr (.inl tiR))), (r 15, .inl (cI, 1024, .inl seR)), (r 17, .inl (cI, 188, .inl pkR)), (r 43, .inl (cJ, 80, .inr (.inl dnR))), (r 20, .inl (cI, 4, .inl gR.nu)), (r 21, .inl (cI, 4, .inl gR.pi)), (r 22, .inl (cI, 4, .inl gR.vs)), (r 23, .inl (cI, 4, .inl gR.cp)), (r 24, .inl (cI, 4, .inl gR.sc)), (r 25, .inl (cZ, 4, .inl gR.aw)), (r 26, .inl (cJ, 4, .inr (.inl gR.nw))), (r 27, .inl (cI, 4, .inl gR.wt)), (r 28, .inl (cI, 16, .inl gR.ty)), (r 29, .inl (cI, 16, .inl gR.sp)), (r 30, .inl (cJ, 24, .inr (.inl gR.z.1))), (r 31, .inl (cI, 24, .inl gR.z.2.1)), (r 32, .inl (cZ, 24, .inl gR.z.2.2.1)), (r 33, .inl (cJ, 24, .inr (.inl gR.z.2.2.2))), (r 34, .inl (cI, 24, .inl oR.oI)), (r 35, .inl (cZ, 4, .inl oR.oA)), (r 36, .inl (cJ, 4, .inr (.inl oR.oW))), (r 37, .inl (cI, 16, .inl oR.oT)), (r 38, .inl (cI, 16, .inl oR.oS)), (r 39, .inl (cJ, 24, .inr (.inl oR.z.1))), (r 40, .inl (cI, 24, .inl oR.z.2.1)), (r 41, .inl (cZ, 24, .inl oR.z.2.2.1)), (r 42, .inl (cJ, 24, .inr (.inl oR.z.2.2.2))), (r 46, .inl (cI, 4, .inl pN)), (r 47, .inl (cI, 4, .inl pP)), (r 48, .inl (cI, 4, .inl pS)), (r 49, .inl (cI, 16, .inl pT)), (r 50, .inl (cI, 16, .inl pQ)), (r 51, .inl (cI, 8192, .inl wrR)), (r 52, .inl (cI, 4200, .inl roR)), (o9, .inl (cJ, 1, .inr (.inl g9)))] ++ (lpl cB Ls ++ (dpl dn ++ (tplr cO e0 tb lv pr P.length pmo pst P ++ (dfl cO e0 dr DL.length mo dst DL ++ X))))) H) (hD : va_D A ([(x9, .inr (11, [.ref rv, .ref dr])), (rv, .inr (4, [.ref tp, .ref ln, .ref tb, .ref ca, .ref dp])), (ca, .inl (cI, 10, .inl cn)), (dp, .inl (cQ, 16, .inr (.inr (.inr (.inr dpf))))), (tp, .inr (0, [.ref a, .int (nI T.length)])), (a, .inl (cB, 9400, .inl f)), (ln, .inr (2, [.ref hd])), (hd, .inl (cN, 256, .inr (.inr (.inr (.inr hf))))), (m9, .inr (13, mO r th (nI T.length) leR lv (nI P.length) (nI npR) (nI DL.length) rs)), (r 1, .inl (cI, 9400, .inl tpR)), (r 3, .inl (cI, 10, .inl cn)), (r 4, .inl (cI, 8192, .inl ctR)), (r 5, .inl (cZ, 8192, .inl twR)), (r 6, .inl (cJ, 8192, .inr (.inl clR))), (r 7, .inl (cI, 24, .inl sPR)), (r 8, .inl (cZ, 24, .inl sBR)), (r 9, .inl (cI, 24576, .inl sYR)), (r 10, .inl (cI, 24, .inl sZR)), (r 11, .inl (cI, 24, .inl kdR)), (r 12, .inl (cI, 24, .inl waR)), (r 13, .inl (cI, 24, .inl suR)), (r 14, .inl (cJ, 24, .inr (.inl tiR))), (r 15, .inl (cI, 1024, .inl seR)), (r 17, .inl (cI, 188, .inl pkR)), (r 43, .inl (cJ, 80, .inr (.inl dnR))), (r 20, .inl (cI, 4, .inl gR.nu)), (r 21, .inl (cI, 4, .inl gR.pi)), (r 22, .inl (cI, 4, .inl gR.vs)), (r 23, .inl (cI, 4, .inl gR.cp)), (r 24, .inl (cI, 4, .inl gR.sc)), (r 25, .inl (cZ, 4, .inl gR.aw)), (r 26, .inl (cJ, 4, .inr (.inl gR.nw))), (r 27, .inl (cI, 4, .inl gR.wt)), (r 28, .inl (cI, 16, .inl gR.ty)), (r 29, .inl (cI, 16, .inl gR.sp)), (r 30, .inl (cJ, 24, .inr (.inl gR.z.1))), (r 31, .inl (cI, 24, .inl gR.z.2.1)), (r 32, .inl (cZ, 24, .inl gR.z.2.2.1)), (r 33, .inl (cJ, 24, .inr (.inl gR.z.2.2.2))), (r 34, .inl (cI, 24, .inl oR.oI)), (r 35, .inl (cZ, 4, .inl oR.oA)), (r 36, .inl (cJ, 4, .inr (.inl oR.oW))), (r 37, .inl (cI, 16, .inl oR.oT)), (r 38, .inl (cI, 16, .inl oR.oS)), (r 39, .inl (cJ, 24, .inr (.inl oR.z.1))), (r 40, .inl (cI, 24, .inl oR.z.2.1)), (r 41, .inl (cZ, 24, .inl oR.z.2.2.1)), (r 42, .inl (cJ, 24, .inr (.inl oR.z.2.2.2))), (r 46, .inl (cI, 4, .inl pN)), (r 47, .inl (cI, 4, .inl pP)), (r 48, .inl (cI, 4, .inl pS)), (r 49, .inl (cI, 16, .inl pT)), (r 50, .inl (cI, 16, .inl pQ)), (r 51, .inl (cI, 8192, .inl wrR)), (r 52, .inl (cI, 4200, .inl roR)), (o9, .inl (cJ, 1, .inr (.inl g9)))] ++ (lpl cB Ls ++ (dpl dn ++ (tplr cO e0 tb lv pr P.length pmo pst P ++ (dfl cO e0 dr DL.length mo dst DL ++ X)))))) (hS : va_S A s.heap H locs) (hRT : RT T f tpR) (hRH : RH k9 (cn, Ls, hf, dn, lv, pr, pmo, pst, P, []) (yT pkR ctR twR clR kdR waR suR tiR npR dnR sYR sZR sBR seR leR lv P.length gR oR sPR cn)) (hdp : dpok dpf dn) (htk : tok X cO pst P) (hdt : dtk X dst DL) (hRW : RW (32 * k9) Ls wrR) (hRD : RD DL pN pP pS pT pQ) (hRM : RM k9 T (huS (cn, Ls, hf, dn, lv, pr, pmo, pst, P, [])) cells slots) : W p l e room_1 s m #[Value.ref b] below meth cd H locs cells slots (lw_Z below #[Value.ref b] s) (F0 m 23 ls []) := by
  obtain ⟨hx, hb, hr, hml, hown, htl, hX, hbl, hlocks, hgv⟩ := id C9
  have hG : zG s := ⟨b, htl, hgv⟩
  have hO : zO s s := ⟨State.WarmedH.refl s, Nat.le_refl _, fun _ _ => rfl⟩
  have hN := hO.zN hG
  have hts := hN.use (a := #[Value.ref b])
  have hbA : ¬ A b := fun z => absurd (hAO b z) (Nat.not_le.mpr hbl)
  refine lv_iload hx hb d_Law_law_23 (lv_at hl 0 rfl) ?_
  refine lv_aload_n hx hb d_Law_law_25 rfl (lv_at hl 4 rfl) ?_
  refine va_slen hx hb hX hbl hbA hS d_Law_law_26 ?_
  refine lv_bipush (v := 8) hx hb d_Law_law_27 (by decide) ?_
  refine lv_isub hx hb d_Law_law_29 ?_
  by_cases hL8 : L < i0 + 8
  · refine lv_icmp_gt (tgt := 1450) hx hb d_Law_law_30 rfl (fun _ => ?_) (fun h9 => absurd ((lw_gt hL (by omega)).mpr hL8) h9)
    exact law_ret l C9 hAO hS (by have := (RM_le hRM (by omega)).1; omega) (by have := (RM_le hRM (by omega)).2.1; omega)
  have hi : i0 + 8 ≤ L := by omega
  have hk9 : k9 ≤ 511 := by omega
  have ih := IH (i0 + 8) (k9 + 1) (by omega) (by omega) (by omega)
  refine lv_icmp_gt (tgt := 1450) hx hb d_Law_law_30 rfl (fun h9 => absurd ((lw_gt hL (by omega)).mp h9) hL8) (fun _ => ?_)
  refine lv_aload_n hx hb d_Law_law_33 rfl (lv_at hl 4 rfl) ?_
  refine lv_iload hx hb d_Law_law_34 (lv_at hl 0 rfl) ?_
  refine va_sld hx hb hX hbl hbA hS (vp_in_nI (n := i0) (N := L) (by omega) (by omega)) d_Law_law_36 ?_
  refine z_topi (w := xs i0) (by rw [nI_clamp (by omega)]) ?_
  refine lv_bipush (v := 31) hx hb d_Law_law_37 (by decide) ?_
  refine lv_iand hx hb d_Law_law_39 ?_
  generalize xs i0 &&& 31 = x0
  by_cases hq0 : x0 = 0
  · subst hq0
    refine lv_tableIn (tgt := 132) hx hb d_Law_law_40 (by decide) (by decide) rfl rfl ?_
    by_cases hb1 : xs (i0 + 1) < 1 ∨ 8 < xs (i0 + 1)
    · exact lg_feed_bad l hfl C9 i0 k9 hi hL hk9 A hA hAO D cB cI cJ cZ cN cQ cO hK e0 he0 x9 rv dr tp ln tb ca dp a hd m9 o9 r T f cn hf dpf dn Ls lv pr pmo pst P mo dst DL X th rs tpR wrR roR pN pP pS pT pQ pkR ctR twR clR kdR waR suR tiR npR dnR sYR sZR sBR seR leR gR oR sPR g9 H locs ls cells slots hl hP hD hS hRT hRH hdp htk hdt hRW hRD hRM ih hb1
    · exact lg_feed_ok l hfl C9 i0 k9 hi hL hk9 A hA hAO D cB cI cJ cZ cN cQ cO hK e0 he0 x9 rv dr tp ln tb ca dp a hd m9 o9 r T f cn hf dpf dn Ls lv pr pmo pst P mo dst DL X th rs tpR wrR roR pN pP pS pT pQ pkR ctR twR clR kdR waR suR tiR npR dnR sYR sZR sBR seR leR gR oR sPR g9 H locs ls cells slots hl hP hD hS hRT hRH hdp htk hdt hRW hRD hRM ih hb1
  by_cases hq1 : x0 = 1
  · subst hq1
    refine lv_tableIn (tgt := 232) hx hb d_Law_law_40 (by decide) (by decide) rfl rfl ?_
    by_cases hb1 : xs (i0 + 1) < 0 ∨ nI T.length ≤ xs (i0 + 1)
    · exact lg_spoil_badB l hfl C9 i0 k9 hi hL hk9 A hA hAO D cB cI cJ cZ cN cQ cO hK e0 he0 x9 rv dr tp ln tb ca dp a hd m9 o9 r T f cn hf dpf dn Ls lv pr pmo pst P mo dst DL X th rs tpR wrR roR pN pP pS pT pQ pkR ctR twR clR kdR waR suR tiR npR dnR sYR sZR sBR seR leR gR oR sPR g9 H locs ls cells slots hl hP hD hS hRT hRH hdp htk hdt hRW hRD hRM ih hb1
    · by_cases hb2 : xs (i0 + 2) < 0 ∨ 255 < xs (i0 + 2)
      · exact lg_spoil_badA l hfl C9 i0 k9 hi hL hk9 A hA hAO D cB cI cJ cZ cN cQ cO hK e0 he0 x9 rv dr tp ln tb ca dp a hd m9 o9 r T f cn hf dpf dn Ls lv pr pmo pst P mo dst DL X th rs tpR wrR roR pN pP pS pT pQ pkR ctR twR clR kdR waR suR tiR npR dnR sYR sZR sBR seR leR gR oR sPR g9 H locs ls cells slots hl hP hD hS hRT hRH hdp htk hdt hRW hRD hRM ih hb1 hb2
      · exact lg_spoil_ok l hfl C9 i0 k9 hi hL hk9 A hA hAO D cB cI cJ cZ cN cQ cO hK e0 he0 x9 rv dr tp ln tb ca dp a hd m9 o9 r T f cn hf dpf dn Ls lv pr pmo pst P mo dst DL X th rs tpR wrR roR pN pP pS pT pQ pkR ctR twR clR kdR waR suR tiR npR dnR sYR sZR sBR seR leR gR oR sPR g9 H locs ls cells slots hl hP hD hS hRT hRH hdp htk hdt hRW hRD hRM ih hb1 hb2
  by_cases hq2 : x0 = 2
  · subst hq2
    refine lv_tableIn (tgt := 300) hx hb d_Law_law_40 (by decide) (by decide) rfl rfl ?_
    exact lg_tape l hfl C9 i0 k9 hi hL hk9 A hA hAO D cB cI cJ cZ cN cQ cO hK e0 he0 x9 rv dr tp ln tb ca dp a hd m9 o9 r T f cn hf dpf dn Ls lv pr pmo pst P mo dst DL X th rs tpR wrR roR pN pP pS pT pQ pkR ctR twR clR kdR waR suR tiR npR dnR sYR sZR sBR seR leR gR oR sPR g9 H locs ls cells slots hl hP hD hS hRT hRH hdp htk hdt hRW hRD hRM ih 
  by_cases hq3 : x0 = 3
  · subst hq3
    refine lv_tableIn (tgt := 326) hx hb d_Law_law_40 (by decide) (by decide) rfl rfl ?_
    by_cases hb1 : xs (i0 + 1) < 0 ∨ xs (i0 + 2) < 0 ∨ nI T.length - xs (i0 + 1) < xs (i0 + 2)
    · exact lg_drop_bad l hfl C9 i0 k9 hi hL hk9 A hA hAO D cB cI cJ cZ cN cQ cO hK e0 he0 x9 rv dr tp ln tb ca dp a hd m9 o9 r T f cn hf dpf dn Ls lv pr pmo pst P mo dst DL X th rs tpR wrR roR pN pP pS pT pQ pkR ctR twR clR kdR waR suR tiR npR dnR sYR sZR sBR seR leR gR oR sPR g9 H locs ls cells slots hl hP hD hS hRT hRH hdp htk hdt hRW hRD hRM ih hb1
    · exact lg_drop_ok l hfl C9 i0 k9 hi hL hk9 A hA hAO D cB cI cJ cZ cN cQ cO hK e0 he0 x9 rv dr tp ln tb ca dp a hd m9 o9 r T f cn hf dpf dn Ls lv pr pmo pst P mo dst DL X th rs tpR wrR roR pN pP pS pT pQ pkR ctR twR clR kdR waR suR tiR npR dnR sYR sZR sBR seR leR gR oR sPR g9 H locs ls cells slots hl hP hD hS hRT hRH hdp htk hdt hRW hRD hRM ih hb1
  by_cases hq4 : x0 = 4
  · subst hq4
    refine lv_tableIn (tgt := 394) hx hb d_Law_law_40 (by decide) (by decide) rfl rfl ?_
    by_cases hb1 : xs (i0 + 1) < 0 ∨ xs (i0 + 2) < xs (i0 + 1) ∨ nI T.length - 4 < xs (i0 + 2)
    · exact lg_seal_bad l hfl C9 i0 k9 hi hL hk9 A hA hAO D cB cI cJ cZ cN cQ cO hK e0 he0 x9 rv dr tp ln tb ca dp a hd m9 o9 r T f cn hf dpf dn Ls lv pr pmo pst P mo dst DL X th rs tpR wrR roR pN pP pS pT pQ pkR ctR twR clR kdR waR suR tiR npR dnR sYR sZR sBR seR leR gR oR sPR g9 H locs ls cells slots hl hP hD hS hRT hRH hdp htk hdt hRW hRD hRM ih hb1
    · exact lg_seal_ok l hfl C9 i0 k9 hi hL hk9 A hA hAO D cB cI cJ cZ cN cQ cO hK e0 he0 x9 rv dr tp ln tb ca dp a hd m9 o9 r T f cn hf dpf dn Ls lv pr pmo pst P mo dst DL X th rs tpR wrR roR pN pP pS pT pQ pkR ctR twR clR kdR waR suR tiR npR dnR sYR sZR sBR seR leR gR oR sPR g9 H locs ls cells slots hl hP hD hS hRT hRH hdp htk hdt hRW hRD hRM ih hb1
  by_cases hq5 : x0 = 5
  · subst hq5
    refine lv_tableIn (tgt := 442) hx hb d_Law_law_40 (by decide) (by decide) rfl rfl ?_
    exact lg_take l hfl C9 i0 k9 hi hL hk9 A hA hAO D cB cI cJ cZ cN cQ cO hK e0 he0 x9 rv dr tp ln tb ca dp a hd m9 o9 r T f cn hf dpf dn Ls lv pr pmo pst P mo dst DL X th rs tpR wrR roR pN pP pS pT pQ pkR ctR twR clR kdR waR suR tiR npR dnR sYR sZR sBR seR leR gR oR sPR g9 H locs ls cells slots hl hP hD hS hRT hRH hdp htk hdt hRW hRD hRM ih 
  by_cases hq6 : x0 = 6
  · subst hq6
    refine lv_tableIn (tgt := 455) hx hb d_Law_law_40 (by decide) (by decide) rfl rfl ?_
    by_cases hb1 : xs (i0 + 1) < 0 ∨ 11 < xs (i0 + 1)
    · exact lg_told_bad l hfl C9 i0 k9 hi hL hk9 A hA hAO D cB cI cJ cZ cN cQ cO hK e0 he0 x9 rv dr tp ln tb ca dp a hd m9 o9 r T f cn hf dpf dn Ls lv pr pmo pst P mo dst DL X th rs tpR wrR roR pN pP pS pT pQ pkR ctR twR clR kdR waR suR tiR npR dnR sYR sZR sBR seR leR gR oR sPR g9 H locs ls cells slots hl hP hD hS hRT hRH hdp htk hdt hRW hRD hRM ih hb1
    · obtain ⟨k, hk, hx1⟩ := nk_11 (i := xs (i0 + 1)) (M := 11) (by decide) hb1
      exact lg_told_ok l hfl C9 i0 k9 hi hL hk9 A hA hAO D cB cI cJ cZ cN cQ cO hK e0 he0 x9 rv dr tp ln tb ca dp a hd m9 o9 r T f cn hf dpf dn Ls lv pr pmo pst P mo dst DL X th rs tpR wrR roR pN pP pS pT pQ pkR ctR twR clR kdR waR suR tiR npR dnR sYR sZR sBR seR leR gR oR sPR g9 H locs ls cells slots hl hP hD hS hRT hRH hdp htk hdt hRW hRD hRM ih k hk hx1
  by_cases hq7 : x0 = 7
  · subst hq7
    refine lv_tableIn (tgt := 511) hx hb d_Law_law_40 (by decide) (by decide) rfl rfl ?_
    by_cases hb1 : xs (i0 + 2) < 0 ∨ 6 < xs (i0 + 2)
    · exact lg_programme_A l hfl C9 i0 k9 hi hL hk9 A hA hAO D cB cI cJ cZ cN cQ cO hK e0 he0 x9 rv dr tp ln tb ca dp a hd m9 o9 r T f cn hf dpf dn Ls lv pr pmo pst P mo dst DL X th rs tpR wrR roR pN pP pS pT pQ pkR ctR twR clR kdR waR suR tiR npR dnR sYR sZR sBR seR leR gR oR sPR g9 H locs ls cells slots hl hP hD hS hRT hRH hdp htk hdt hRW hRD hRM ih hb1
    · by_cases hkb : xs (i0 + 1) < 0 ∨ ¬ xs (i0 + 1) < nI P.length
      · exact lg_programme_B l hfl C9 i0 k9 hi hL hk9 A hA hAO D cB cI cJ cZ cN cQ cO hK e0 he0 x9 rv dr tp ln tb ca dp a hd m9 o9 r T f cn hf dpf dn Ls lv pr pmo pst P mo dst DL X th rs tpR wrR roR pN pP pS pT pQ pkR ctR twR clR kdR waR suR tiR npR dnR sYR sZR sBR seR leR gR oR sPR g9 H locs ls cells slots hl hP hD hS hRT hRH hdp htk hdt hRW hRD hRM ih hb1 hkb
      · obtain ⟨k, hk, hx1⟩ := nk_lt (i := xs (i0 + 1)) (by have := htk.1; omega) hkb
        obtain ⟨w, hw, hx2⟩ := nk_11 (i := xs (i0 + 2)) (M := 6) (by decide) hb1
        exact lg_programme_ok l hfl C9 i0 k9 hi hL hk9 A hA hAO D cB cI cJ cZ cN cQ cO hK e0 he0 x9 rv dr tp ln tb ca dp a hd m9 o9 r T f cn hf dpf dn Ls lv pr pmo pst P mo dst DL X th rs tpR wrR roR pN pP pS pT pQ pkR ctR twR clR kdR waR suR tiR npR dnR sYR sZR sBR seR leR gR oR sPR g9 H locs ls cells slots hl hP hD hS hRT hRH hdp htk hdt hRW hRD hRM ih k w hk hw hx1 hx2
  by_cases hq8 : x0 = 8
  · subst hq8
    refine lv_tableIn (tgt := 579) hx hb d_Law_law_40 (by decide) (by decide) rfl rfl ?_
    by_cases hkb : xs (i0 + 1) < 0 ∨ ¬ xs (i0 + 1) < nI P.length
    · exact lg_stream_B l hfl C9 i0 k9 hi hL hk9 A hA hAO D cB cI cJ cZ cN cQ cO hK e0 he0 x9 rv dr tp ln tb ca dp a hd m9 o9 r T f cn hf dpf dn Ls lv pr pmo pst P mo dst DL X th rs tpR wrR roR pN pP pS pT pQ pkR ctR twR clR kdR waR suR tiR npR dnR sYR sZR sBR seR leR gR oR sPR g9 H locs ls cells slots hl hP hD hS hRT hRH hdp htk hdt hRW hRD hRM ih hkb
    · obtain ⟨k, hk, hx1⟩ := nk_lt (i := xs (i0 + 1)) (by have := htk.1; omega) hkb
      have hs4 := (sc_same (show tbR _ _ (P.map pv9) from hRH.2.1.1.2.2.1) k hk).2
      by_cases hj : xs (i0 + 2) < 0 ∨ ¬ xs (i0 + 2) < nI (P.getD k pr9).2.1.length
      · exact lg_stream_none l hfl C9 i0 k9 hi hL hk9 A hA hAO D cB cI cJ cZ cN cQ cO hK e0 he0 x9 rv dr tp ln tb ca dp a hd m9 o9 r T f cn hf dpf dn Ls lv pr pmo pst P mo dst DL X th rs tpR wrR roR pN pP pS pT pQ pkR ctR twR clR kdR waR suR tiR npR dnR sYR sZR sBR seR leR gR oR sPR g9 H locs ls cells slots hl hP hD hS hRT hRH hdp htk hdt hRW hRD hRM ih k hk hx1 hj
      · obtain ⟨j, hj, hx2⟩ := nk_lt (i := xs (i0 + 2)) (by omega) hj
        exact lg_stream_ok l hfl C9 i0 k9 hi hL hk9 A hA hAO D cB cI cJ cZ cN cQ cO hK e0 he0 x9 rv dr tp ln tb ca dp a hd m9 o9 r T f cn hf dpf dn Ls lv pr pmo pst P mo dst DL X th rs tpR wrR roR pN pP pS pT pQ pkR ctR twR clR kdR waR suR tiR npR dnR sYR sZR sBR seR leR gR oR sPR g9 H locs ls cells slots hl hP hD hS hRT hRH hdp htk hdt hRW hRD hRM ih k hk hx1 j hj hx2
  by_cases hq9 : x0 = 9
  · subst hq9
    refine lv_tableIn (tgt := 647) hx hb d_Law_law_40 (by decide) (by decide) rfl rfl ?_
    by_cases hkb : xs (i0 + 1) < 0 ∨ ¬ xs (i0 + 1) < nI P.length
    · exact lg_now_B l hfl C9 i0 k9 hi hL hk9 A hA hAO D cB cI cJ cZ cN cQ cO hK e0 he0 x9 rv dr tp ln tb ca dp a hd m9 o9 r T f cn hf dpf dn Ls lv pr pmo pst P mo dst DL X th rs tpR wrR roR pN pP pS pT pQ pkR ctR twR clR kdR waR suR tiR npR dnR sYR sZR sBR seR leR gR oR sPR g9 H locs ls cells slots hl hP hD hS hRT hRH hdp htk hdt hRW hRD hRM ih hkb
    · obtain ⟨k, hk, hx1⟩ := nk_lt (i := xs (i0 + 1)) (by have := htk.1; omega) hkb
      exact lg_now_ok l hfl C9 i0 k9 hi hL hk9 A hA hAO D cB cI cJ cZ cN cQ cO hK e0 he0 x9 rv dr tp ln tb ca dp a hd m9 o9 r T f cn hf dpf dn Ls lv pr pmo pst P mo dst DL X th rs tpR wrR roR pN pP pS pT pQ pkR ctR twR clR kdR waR suR tiR npR dnR sYR sZR sBR seR leR gR oR sPR g9 H locs ls cells slots hl hP hD hS hRT hRH hdp htk hdt hRW hRD hRM ih k hk hx1
  by_cases hq10 : x0 = 10
  · subst hq10
    refine lv_tableIn (tgt := 702) hx hb d_Law_law_40 (by decide) (by decide) rfl rfl ?_
    by_cases hb1 : xs (i0 + 3) < 0 ∨ 3 < xs (i0 + 3)
    · exact lg_order_A l hfl C9 i0 k9 hi hL hk9 A hA hAO D cB cI cJ cZ cN cQ cO hK e0 he0 x9 rv dr tp ln tb ca dp a hd m9 o9 r T f cn hf dpf dn Ls lv pr pmo pst P mo dst DL X th rs tpR wrR roR pN pP pS pT pQ pkR ctR twR clR kdR waR suR tiR npR dnR sYR sZR sBR seR leR gR oR sPR g9 H locs ls cells slots hl hP hD hS hRT hRH hdp htk hdt hRW hRD hRM ih hb1
    · by_cases hkb : xs (i0 + 1) < 0 ∨ ¬ xs (i0 + 1) < nI P.length
      · exact lg_order_B l hfl C9 i0 k9 hi hL hk9 A hA hAO D cB cI cJ cZ cN cQ cO hK e0 he0 x9 rv dr tp ln tb ca dp a hd m9 o9 r T f cn hf dpf dn Ls lv pr pmo pst P mo dst DL X th rs tpR wrR roR pN pP pS pT pQ pkR ctR twR clR kdR waR suR tiR npR dnR sYR sZR sBR seR leR gR oR sPR g9 H locs ls cells slots hl hP hD hS hRT hRH hdp htk hdt hRW hRD hRM ih hb1 hkb
      · obtain ⟨k, hk, hx1⟩ := nk_lt (i := xs (i0 + 1)) (by have := htk.1; omega) hkb
        have hs4 := (wc_same (show tbR _ _ (P.map pv9) from hRH.2.1.1.2.2.1) k hk).2
        obtain ⟨w, hw, hx3⟩ := nk_11 (i := xs (i0 + 3)) (M := 3) (by decide) hb1
        by_cases hj : xs (i0 + 2) < 0 ∨ ¬ xs (i0 + 2) < nI (P.getD k pr9).2.2.1.length
        · exact lg_order_none l hfl C9 i0 k9 hi hL hk9 A hA hAO D cB cI cJ cZ cN cQ cO hK e0 he0 x9 rv dr tp ln tb ca dp a hd m9 o9 r T f cn hf dpf dn Ls lv pr pmo pst P mo dst DL X th rs tpR wrR roR pN pP pS pT pQ pkR ctR twR clR kdR waR suR tiR npR dnR sYR sZR sBR seR leR gR oR sPR g9 H locs ls cells slots hl hP hD hS hRT hRH hdp htk hdt hRW hRD hRM ih k w hk hw hx1 hx3 hj
        · obtain ⟨j, hj, hx2⟩ := nk_lt (i := xs (i0 + 2)) (by omega) hj
          exact lg_order_ok l hfl C9 i0 k9 hi hL hk9 A hA hAO D cB cI cJ cZ cN cQ cO hK e0 he0 x9 rv dr tp ln tb ca dp a hd m9 o9 r T f cn hf dpf dn Ls lv pr pmo pst P mo dst DL X th rs tpR wrR roR pN pP pS pT pQ pkR ctR twR clR kdR waR suR tiR npR dnR sYR sZR sBR seR leR gR oR sPR g9 H locs ls cells slots hl hP hD hS hRT hRH hdp htk hdt hRW hRD hRM ih k w hk hw hx1 hx3 j hj hx2
  by_cases hq11 : x0 = 11
  · subst hq11
    refine lv_tableIn (tgt := 781) hx hb d_Law_law_40 (by decide) (by decide) rfl rfl ?_
    by_cases hb1 : xs (i0 + 2) < 0 ∨ 4 < xs (i0 + 2) ∨ xs (i0 + 1) < 0
    · exact lg_piece_bad l hfl C9 i0 k9 hi hL hk9 A hA hAO D cB cI cJ cZ cN cQ cO hK e0 he0 x9 rv dr tp ln tb ca dp a hd m9 o9 r T f cn hf dpf dn Ls lv pr pmo pst P mo dst DL X th rs tpR wrR roR pN pP pS pT pQ pkR ctR twR clR kdR waR suR tiR npR dnR sYR sZR sBR seR leR gR oR sPR g9 H locs ls cells slots hl hP hD hS hRT hRH hdp htk hdt hRW hRD hRM ih hb1
    · by_cases hbk : dbK cn (xs (i0 + 1))
      · obtain ⟨q, hq⟩ := pc_some (np := npR) (D := dn) hRH.2.1.2.1 (by have : npR ≤ 18800 * k9 := hRH.2.2.2; omega) hRH.2.1.2.2.1 hbk
        obtain ⟨w, hw, hx2⟩ := nk_11 (i := xs (i0 + 2)) (M := 4) (by decide) (fun z => hb1 (z.elim Or.inl (fun q => Or.inr (Or.inl q))))
        exact lg_piece_ok l hfl C9 i0 k9 hi hL hk9 A hA hAO D cB cI cJ cZ cN cQ cO hK e0 he0 x9 rv dr tp ln tb ca dp a hd m9 o9 r T f cn hf dpf dn Ls lv pr pmo pst P mo dst DL X th rs tpR wrR roR pN pP pS pT pQ pkR ctR twR clR kdR waR suR tiR npR dnR sYR sZR sBR seR leR gR oR sPR g9 H locs ls cells slots hl hP hD hS hRT hRH hdp htk hdt hRW hRD hRM ih w hw hbk q hq hx2
      · exact lg_piece_none l hfl C9 i0 k9 hi hL hk9 A hA hAO D cB cI cJ cZ cN cQ cO hK e0 he0 x9 rv dr tp ln tb ca dp a hd m9 o9 r T f cn hf dpf dn Ls lv pr pmo pst P mo dst DL X th rs tpR wrR roR pN pP pS pT pQ pkR ctR twR clR kdR waR suR tiR npR dnR sYR sZR sBR seR leR gR oR sPR g9 H locs ls cells slots hl hP hD hS hRT hRH hdp htk hdt hRW hRD hRM ih hb1 hbk
  by_cases hq12 : x0 = 12
  · subst hq12
    refine lv_tableIn (tgt := 848) hx hb d_Law_law_40 (by decide) (by decide) rfl rfl ?_
    by_cases hb1 : xs (i0 + 1) < 0 ∨ 8191 < xs (i0 + 1)
    · exact lg_clock_bad l hfl C9 i0 k9 hi hL hk9 A hA hAO D cB cI cJ cZ cN cQ cO hK e0 he0 x9 rv dr tp ln tb ca dp a hd m9 o9 r T f cn hf dpf dn Ls lv pr pmo pst P mo dst DL X th rs tpR wrR roR pN pP pS pT pQ pkR ctR twR clR kdR waR suR tiR npR dnR sYR sZR sBR seR leR gR oR sPR g9 H locs ls cells slots hl hP hD hS hRT hRH hdp htk hdt hRW hRD hRM ih hb1
    · obtain ⟨pid, hpid, hx1⟩ := nk_11 (i := xs (i0 + 1)) (M := 8191) (by decide) hb1
      exact lg_clock_ok l hfl C9 i0 k9 hi hL hk9 A hA hAO D cB cI cJ cZ cN cQ cO hK e0 he0 x9 rv dr tp ln tb ca dp a hd m9 o9 r T f cn hf dpf dn Ls lv pr pmo pst P mo dst DL X th rs tpR wrR roR pN pP pS pT pQ pkR ctR twR clR kdR waR suR tiR npR dnR sYR sZR sBR seR leR gR oR sPR g9 H locs ls cells slots hl hP hD hS hRT hRH hdp htk hdt hRW hRD hRM ih pid (by omega) hx1
  by_cases hq13 : x0 = 13
  · subst hq13
    refine lv_tableIn (tgt := 903) hx hb d_Law_law_40 (by decide) (by decide) rfl rfl ?_
    by_cases hb1 : xs (i0 + 1) < 1 ∨ 65535 < xs (i0 + 1) ∨ xs (i0 + 2) < 0 ∨ 8191 < xs (i0 + 2)
    · exact lg_plan_bad l hfl C9 i0 k9 hi hL hk9 A hA hAO D cB cI cJ cZ cN cQ cO hK e0 he0 x9 rv dr tp ln tb ca dp a hd m9 o9 r T f cn hf dpf dn Ls lv pr pmo pst P mo dst DL X th rs tpR wrR roR pN pP pS pT pQ pkR ctR twR clR kdR waR suR tiR npR dnR sYR sZR sBR seR leR gR oR sPR g9 H locs ls cells slots hl hP hD hS hRT hRH hdp htk hdt hRW hRD hRM ih hb1
    · obtain ⟨pid, hpid, hx2⟩ := nk_11 (i := xs (i0 + 2)) (M := 8191) (by decide) (fun z => hb1 (Or.inr (Or.inr z)))
      have hb2 : ¬ (xs (i0 + 1) < 1 ∨ 65535 < xs (i0 + 1) ∨ nI pid < 0 ∨ 8191 < nI pid) := by rw [← hx2]; exact hb1
      by_cases hge : DL.length = 4
      · exact lg_plan_full l hfl C9 i0 k9 hi hL hk9 A hA hAO D cB cI cJ cZ cN cQ cO hK e0 he0 x9 rv dr tp ln tb ca dp a hd m9 o9 r T f cn hf dpf dn Ls lv pr pmo pst P mo dst DL X th rs tpR wrR roR pN pP pS pT pQ pkR ctR twR clR kdR waR suR tiR npR dnR sYR sZR sBR seR leR gR oR sPR g9 H locs ls cells slots hl hP hD hS hRT hRH hdp htk hdt hRW hRD hRM ih pid (by omega) hb2 hx2 hge
      · exact lg_plan_add l hfl C9 i0 k9 hi hL hk9 A hA hAO D cB cI cJ cZ cN cQ cO hK e0 he0 x9 rv dr tp ln tb ca dp a hd m9 o9 r T f cn hf dpf dn Ls lv pr pmo pst P mo dst DL X th rs tpR wrR roR pN pP pS pT pQ pkR ctR twR clR kdR waR suR tiR npR dnR sYR sZR sBR seR leR gR oR sPR g9 H locs ls cells slots hl hP hD hS hRT hRH hdp htk hdt hRW hRD hRM ih pid (by omega) hb2 hx2 (by have := hdt.1; omega)
  by_cases hq14 : x0 = 14
  · subst hq14
    refine lv_tableIn (tgt := 971) hx hb d_Law_law_40 (by decide) (by decide) rfl rfl ?_
    by_cases hkb : xs (i0 + 1) < 0 ∨ ¬ xs (i0 + 1) < nI DL.length
    · exact lg_addStream_B l hfl C9 i0 k9 hi hL hk9 A hA hAO D cB cI cJ cZ cN cQ cO hK e0 he0 x9 rv dr tp ln tb ca dp a hd m9 o9 r T f cn hf dpf dn Ls lv pr pmo pst P mo dst DL X th rs tpR wrR roR pN pP pS pT pQ pkR ctR twR clR kdR waR suR tiR npR dnR sYR sZR sBR seR leR gR oR sPR g9 H locs ls cells slots hl hP hD hS hRT hRH hdp htk hdt hRW hRD hRM ih hkb
    · obtain ⟨k, hk, hx1⟩ := nk_lt (i := xs (i0 + 1)) (by have := hdt.1; omega) hkb
      by_cases hb1 : xs (i0 + 2) < 0 ∨ 255 < xs (i0 + 2) ∨ xs (i0 + 3) < 0 ∨ 8191 < xs (i0 + 3)
      · exact lg_addStream_A l hfl C9 i0 k9 hi hL hk9 A hA hAO D cB cI cJ cZ cN cQ cO hK e0 he0 x9 rv dr tp ln tb ca dp a hd m9 o9 r T f cn hf dpf dn Ls lv pr pmo pst P mo dst DL X th rs tpR wrR roR pN pP pS pT pQ pkR ctR twR clR kdR waR suR tiR npR dnR sYR sZR sBR seR leR gR oR sPR g9 H locs ls cells slots hl hP hD hS hRT hRH hdp htk hdt hRW hRD hRM ih k hk hx1 hb1
      · obtain ⟨pid, hpid, hx3⟩ := nk_11 (i := xs (i0 + 3)) (M := 8191) (by decide) (fun z => hb1 (Or.inr (Or.inr z)))
        have hb2 : ¬ (xs (i0 + 2) < 0 ∨ 255 < xs (i0 + 2) ∨ nI pid < 0 ∨ 8191 < nI pid) := by rw [← hx3]; exact hb1
        by_cases hge : (DL.getD k dr0).2.2.2.2.1.length = 4
        · exact lg_addStream_full l hfl C9 i0 k9 hi hL hk9 A hA hAO D cB cI cJ cZ cN cQ cO hK e0 he0 x9 rv dr tp ln tb ca dp a hd m9 o9 r T f cn hf dpf dn Ls lv pr pmo pst P mo dst DL X th rs tpR wrR roR pN pP pS pT pQ pkR ctR twR clR kdR waR suR tiR npR dnR sYR sZR sBR seR leR gR oR sPR g9 H locs ls cells slots hl hP hD hS hRT hRH hdp htk hdt hRW hRD hRM ih k hk hx1 pid (by omega) hb2 hx3 hge
        · exact lg_addStream_ok l hfl C9 i0 k9 hi hL hk9 A hA hAO D cB cI cJ cZ cN cQ cO hK e0 he0 x9 rv dr tp ln tb ca dp a hd m9 o9 r T f cn hf dpf dn Ls lv pr pmo pst P mo dst DL X th rs tpR wrR roR pN pP pS pT pQ pkR ctR twR clR kdR waR suR tiR npR dnR sYR sZR sBR seR leR gR oR sPR g9 H locs ls cells slots hl hP hD hS hRT hRH hdp htk hdt hRW hRD hRM ih k hk hx1 pid (by omega) hb2 hx3 (by have := (rd_ns hRD hdt k hk).2; omega)
  by_cases hq15 : x0 = 15
  · subst hq15
    refine lv_tableIn (tgt := 1051) hx hb d_Law_law_40 (by decide) (by decide) rfl rfl ?_
    exact lg_forget l hfl C9 i0 k9 hi hL hk9 A hA hAO D cB cI cJ cZ cN cQ cO hK e0 he0 x9 rv dr tp ln tb ca dp a hd m9 o9 r T f cn hf dpf dn Ls lv pr pmo pst P mo dst DL X th rs tpR wrR roR pN pP pS pT pQ pkR ctR twR clR kdR waR suR tiR npR dnR sYR sZR sBR seR leR gR oR sPR g9 H locs ls cells slots hl hP hD hS hRT hRH hdp htk hdt hRW hRD hRM ih 
  by_cases hq16 : x0 = 16
  · subst hq16
    refine lv_tableIn (tgt := 1062) hx hb d_Law_law_40 (by decide) (by decide) rfl rfl ?_
    by_cases hb1 : xs (i0 + 1) < 0 ∨ 31 < xs (i0 + 1)
    · exact lg_tables_bad l hfl C9 i0 k9 hi hL hk9 A hA hAO D cB cI cJ cZ cN cQ cO hK e0 he0 x9 rv dr tp ln tb ca dp a hd m9 o9 r T f cn hf dpf dn Ls lv pr pmo pst P mo dst DL X th rs tpR wrR roR pN pP pS pT pQ pkR ctR twR clR kdR waR suR tiR npR dnR sYR sZR sBR seR leR gR oR sPR g9 H locs ls cells slots hl hP hD hS hRT hRH hdp htk hdt hRW hRD hRM ih hb1
    · by_cases hb2 : T.length + 188 * (1 + DL.length) ≤ 9400
      · exact lg_tables_ok l hfl C9 i0 k9 hi hL hk9 A hA hAO D cB cI cJ cZ cN cQ cO hK e0 he0 x9 rv dr tp ln tb ca dp a hd m9 o9 r T f cn hf dpf dn Ls lv pr pmo pst P mo dst DL X th rs tpR wrR roR pN pP pS pT pQ pkR ctR twR clR kdR waR suR tiR npR dnR sYR sZR sBR seR leR gR oR sPR g9 H locs ls cells slots hl hP hD hS hRT hRH hdp htk hdt hRW hRD hRM ih hb1 hb2
      · exact lg_tables_no l hfl C9 i0 k9 hi hL hk9 A hA hAO D cB cI cJ cZ cN cQ cO hK e0 he0 x9 rv dr tp ln tb ca dp a hd m9 o9 r T f cn hf dpf dn Ls lv pr pmo pst P mo dst DL X th rs tpR wrR roR pN pP pS pT pQ pkR ctR twR clR kdR waR suR tiR npR dnR sYR sZR sBR seR leR gR oR sPR g9 H locs ls cells slots hl hP hD hS hRT hRH hdp htk hdt hRW hRD hRM ih hb1 (by omega)
  by_cases hq17 : x0 = 17
  · subst hq17
    refine lv_tableIn (tgt := 1118) hx hb d_Law_law_40 (by decide) (by decide) rfl rfl ?_
    by_cases hb1 : xs (i0 + 1) < 0 ∨ 2097151 < xs (i0 + 1) ∨ xs (i0 + 4) < 0 ∨ 4000 < xs (i0 + 4) ∨ 8589934592 ≤ lgv (xs (i0 + 2)) (xs (i0 + 3))
    · exact lg_pieceW_bad l hfl C9 i0 k9 hi hL hk9 A hA hAO D cB cI cJ cZ cN cQ cO hK e0 he0 x9 rv dr tp ln tb ca dp a hd m9 o9 r T f cn hf dpf dn Ls lv pr pmo pst P mo dst DL X th rs tpR wrR roR pN pP pS pT pQ pkR ctR twR clR kdR waR suR tiR npR dnR sYR sZR sBR seR leR gR oR sPR g9 H locs ls cells slots hl hP hD hS hRT hRH hdp htk hdt hRW hRD hRM ih hb1
    · obtain ⟨i9, hi9, hx1⟩ := nk_11 (i := xs (i0 + 1)) (M := 2097151) (by decide) (fun z => hb1 (z.elim Or.inl (fun q => Or.inr (Or.inl q))))
      obtain ⟨n, hn, hx4⟩ := nk_11 (i := xs (i0 + 4)) (M := 4000) (by decide) (fun z => hb1 (z.elim (fun q => Or.inr (Or.inr (Or.inl q))) (fun q => Or.inr (Or.inr (Or.inr (Or.inl q))))))
      have ht0 := Int64.not_le.mp (fun z => hb1 (Or.inr (Or.inr (Or.inr (Or.inr z)))))
      by_cases hb2 : T.length + 188 * ((9 + tx (lgv (xs (i0 + 2)) (xs (i0 + 3))) + n + 183) / 184) ≤ 9400
      · exact lg_pieceW_ok l hfl C9 i0 k9 hi hL hk9 A hA hAO D cB cI cJ cZ cN cQ cO hK e0 he0 x9 rv dr tp ln tb ca dp a hd m9 o9 r T f cn hf dpf dn Ls lv pr pmo pst P mo dst DL X th rs tpR wrR roR pN pP pS pT pQ pkR ctR twR clR kdR waR suR tiR npR dnR sYR sZR sBR seR leR gR oR sPR g9 H locs ls cells slots hl hP hD hS hRT hRH hdp htk hdt hRW hRD hRM ih i9 n hi9 hn hx1 hx4 ht0 hb2
      · exact lg_pieceW_no l hfl C9 i0 k9 hi hL hk9 A hA hAO D cB cI cJ cZ cN cQ cO hK e0 he0 x9 rv dr tp ln tb ca dp a hd m9 o9 r T f cn hf dpf dn Ls lv pr pmo pst P mo dst DL X th rs tpR wrR roR pN pP pS pT pQ pkR ctR twR clR kdR waR suR tiR npR dnR sYR sZR sBR seR leR gR oR sPR g9 H locs ls cells slots hl hP hD hS hRT hRH hdp htk hdt hRW hRD hRM ih i9 n hi9 hn hx1 hx4 ht0 (by omega)
  by_cases hq18 : x0 = 18
  · subst hq18
    refine lv_tableIn (tgt := 1272) hx hb d_Law_law_40 (by decide) (by decide) rfl rfl ?_
    by_cases hb1 : xs (i0 + 1) < 0 ∨ 8191 < xs (i0 + 1) ∨ xs (i0 + 3) < 0 ∨ 63 < xs (i0 + 3) ∨ lgv (xs (i0 + 4)) (xs (i0 + 5)) < 0 ∨ 8589934592 ≤ lgv (xs (i0 + 4)) (xs (i0 + 5)) ∨ lgv (xs (i0 + 6)) (xs (i0 + 7)) < 0
    · exact lg_orderW_bad l hfl C9 i0 k9 hi hL hk9 A hA hAO D cB cI cJ cZ cN cQ cO hK e0 he0 x9 rv dr tp ln tb ca dp a hd m9 o9 r T f cn hf dpf dn Ls lv pr pmo pst P mo dst DL X th rs tpR wrR roR pN pP pS pT pQ pkR ctR twR clR kdR waR suR tiR npR dnR sYR sZR sBR seR leR gR oR sPR g9 H locs ls cells slots hl hP hD hS hRT hRH hdp htk hdt hRW hRD hRM ih hb1
    · obtain ⟨pid, hpid, hx1⟩ := nk_11 (i := xs (i0 + 1)) (M := 8191) (by decide) (fun z => hb1 (z.elim Or.inl (fun q => Or.inr (Or.inl q))))
      have hb3 : ¬ (xs (i0 + 3) < 0 ∨ 63 < xs (i0 + 3) ∨ lgv (xs (i0 + 4)) (xs (i0 + 5)) < 0 ∨ 8589934592 ≤ lgv (xs (i0 + 4)) (xs (i0 + 5)) ∨ lgv (xs (i0 + 6)) (xs (i0 + 7)) < 0) := fun z => hb1 (Or.inr (Or.inr z))
      by_cases hb2 : T.length + 188 ≤ 9400
      · exact lg_orderW_ok l hfl C9 i0 k9 hi hL hk9 A hA hAO D cB cI cJ cZ cN cQ cO hK e0 he0 x9 rv dr tp ln tb ca dp a hd m9 o9 r T f cn hf dpf dn Ls lv pr pmo pst P mo dst DL X th rs tpR wrR roR pN pP pS pT pQ pkR ctR twR clR kdR waR suR tiR npR dnR sYR sZR sBR seR leR gR oR sPR g9 H locs ls cells slots hl hP hD hS hRT hRH hdp htk hdt hRW hRD hRM ih pid (by omega) hx1 hb3 hb2
      · exact lg_orderW_no l hfl C9 i0 k9 hi hL hk9 A hA hAO D cB cI cJ cZ cN cQ cO hK e0 he0 x9 rv dr tp ln tb ca dp a hd m9 o9 r T f cn hf dpf dn Ls lv pr pmo pst P mo dst DL X th rs tpR wrR roR pN pP pS pT pQ pkR ctR twR clR kdR waR suR tiR npR dnR sYR sZR sBR seR leR gR oR sPR g9 H locs ls cells slots hl hP hD hS hRT hRH hdp htk hdt hRW hRD hRM ih pid (by omega) hx1 hb3 (by omega)
  refine lv_tableOut (tgt := 1444) hx hb d_Law_law_40 ?_ rfl ?_
  · apply Classical.byContradiction
    intro hno
    obtain ⟨k, hk, hxk⟩ := nk_11 (i := x0) (M := 18) (by decide) (fun z => hno (z.elim (fun q => Or.inl (Int32.lt_iff_toInt_lt.mp q)) (fun q => Or.inr (Int32.lt_iff_toInt_lt.mp q))))
    have : k = 0 ∨ k = 1 ∨ k = 2 ∨ k = 3 ∨ k = 4 ∨ k = 5 ∨ k = 6 ∨ k = 7 ∨ k = 8 ∨ k = 9 ∨ k = 10 ∨ k = 11 ∨ k = 12 ∨ k = 13 ∨ k = 14 ∨ k = 15 ∨ k = 16 ∨ k = 17 ∨ k = 18 := by omega
    rcases this with rfl | rfl | rfl | rfl | rfl | rfl | rfl | rfl | rfl | rfl | rfl | rfl | rfl | rfl | rfl | rfl | rfl | rfl | rfl
    · exact hq0 hxk
    · exact hq1 hxk
    · exact hq2 hxk
    · exact hq3 hxk
    · exact hq4 hxk
    · exact hq5 hxk
    · exact hq6 hxk
    · exact hq7 hxk
    · exact hq8 hxk
    · exact hq9 hxk
    · exact hq10 hxk
    · exact hq11 hxk
    · exact hq12 hxk
    · exact hq13 hxk
    · exact hq14 hxk
    · exact hq15 hxk
    · exact hq16 hxk
    · exact hq17 hxk
    · exact hq18 hxk
  · refine lg_end (i0 := i0) hx hb hl (by omega) (fun ls hl => ?_)
    exact ih T f T.length cn hf dpf dn Ls lv pr pmo pst P mo dst DL.length DL X th T.length DL.length rs tpR wrR roR pN pP pS pT pQ pkR ctR twR clR kdR waR suR tiR npR dnR sYR sZR sBR seR leR lv P.length gR oR sPR cn g9 H locs ls cells slots hl hP hD hS ⟨rfl, rfl, rfl, rfl⟩ hRT (RH_up hRH) hdp htk hdt (RW_up hRW) hRD (RM_up hRM (by omega) (by omega))

theorem wd_639 : (Jvm.Cond.fieldLinkNest "StreamSplitter$Draft" (35 : Nat) "StreamSplitter$Stream" "pid" "I" "StreamSplitter") ∈ lw_ok := List.mem_filter.mpr ⟨List.mem_of_getElem? (i := 639) (by decide +kernel), rfl⟩
theorem wd_1018 : (Jvm.Cond.methodLink "StreamSplitter$Draft" (25 : Nat) ({ cls := "java/util/ArrayList", name := "isEmpty", desc := "()Z" } : Jvm.MethodName)) ∈ lw_ok := List.mem_filter.mpr ⟨List.mem_of_getElem? (i := 1018) (by decide +kernel), rfl⟩
theorem wd_1019 : (Jvm.Cond.instanceMethod ({ cls := "java/util/ArrayList", name := "isEmpty", desc := "()Z" } : Jvm.MethodName)) ∈ lw_ok := List.mem_filter.mpr ⟨List.mem_of_getElem? (i := 1019) (by decide +kernel), rfl⟩
theorem wd_1020 : (Jvm.Cond.selects "java/util/ArrayList" ({ cls := "java/util/ArrayList", name := "isEmpty", desc := "()Z" } : Jvm.MethodName) ({ cls := "java/util/ArrayList", name := "isEmpty", desc := "()Z" } : Jvm.MethodName)) ∈ lw_ok := List.mem_filter.mpr ⟨List.mem_of_getElem? (i := 1020) (by decide +kernel), rfl⟩
set_option maxRecDepth 100000 in
theorem wd_1021 : (Jvm.Cond.code ({ cls := "java/util/ArrayList", name := "isEmpty", desc := "()Z" } : Jvm.MethodName) prog_28_method_9_code (1 : Nat) (Option.some Jvm.ClassFile.FieldType.boolean)) ∈ lw_ok := List.mem_filter.mpr ⟨List.mem_of_getElem? (i := 1021) (by rfl), rfl⟩
theorem wd_1022 : (Jvm.Cond.methodLink "StreamSplitter$Draft" (29 : Nat) ({ cls := "java/util/ArrayList", name := "get", desc := "(I)Ljava/lang/Object;" } : Jvm.MethodName)) ∈ lw_ok := List.mem_filter.mpr ⟨List.mem_of_getElem? (i := 1022) (by decide +kernel), rfl⟩
theorem wd_1023 : (Jvm.Cond.classLink "StreamSplitter$Draft" (33 : Nat) "StreamSplitter$Stream") ∈ lw_ok := List.mem_filter.mpr ⟨List.mem_of_getElem? (i := 1023) (by decide +kernel), rfl⟩
theorem hd_AL_isEmpty : y_AL_isEmpty.cls ≠ "java/lang/invoke/MethodHandle" ∧ y_AL_isEmpty.cls ≠ "java/lang/invoke/VarHandle" ∧ (parseMethodDescriptor y_AL_isEmpty.desc).map (fun d => d.parameters.length) = some 0 := by decide +kernel
theorem d_Draft_clockPid_0 : decode b_Draft_clockPid 0 = .ok (.aload_n 0, 1) := by decide +kernel
theorem d_Draft_clockPid_1 : decode b_Draft_clockPid 1 = .ok (.getfield 12, 3) := by decide +kernel
theorem d_Draft_clockPid_4 : decode b_Draft_clockPid 4 = .ok (.invokevirtual 25, 3) := by decide +kernel
theorem d_Draft_clockPid_7 : decode b_Draft_clockPid 7 = .ok (.ifCond .eq 9, 3) := by decide +kernel
theorem d_Draft_clockPid_10 : decode b_Draft_clockPid 10 = .ok (.sipush 8191, 3) := by decide +kernel
theorem d_Draft_clockPid_13 : decode b_Draft_clockPid 13 = .ok (.goto 17, 3) := by decide +kernel
theorem d_Draft_clockPid_16 : decode b_Draft_clockPid 16 = .ok (.aload_n 0, 1) := by decide +kernel
theorem d_Draft_clockPid_17 : decode b_Draft_clockPid 17 = .ok (.getfield 12, 3) := by decide +kernel
theorem d_Draft_clockPid_20 : decode b_Draft_clockPid 20 = .ok (.iconst 0, 1) := by decide +kernel
theorem d_Draft_clockPid_21 : decode b_Draft_clockPid 21 = .ok (.invokevirtual 29, 3) := by decide +kernel
theorem d_Draft_clockPid_24 : decode b_Draft_clockPid 24 = .ok (.checkcast 33, 3) := by decide +kernel
theorem d_Draft_clockPid_27 : decode b_Draft_clockPid 27 = .ok (.getfield 35, 3) := by decide +kernel
theorem d_Draft_clockPid_30 : decode b_Draft_clockPid 30 = .ok (.ireturn, 1) := by decide +kernel
/-! Tables are written -/
def isDL (WS : va_W) (cO : ClassId) (d : Nat) (L : List DR9) : Prop := ∃ b mo g, isL WS cO d b L.length mo g ∧ ∀ j, j < L.length → g j = some (L.getD j dr0).1 ∧ ((L.getD j dr0).1, drE (L.getD j dr0)) ∈ WS
def ckP (S : List (Int32 × Nat)) : Int32 := if S.length = 0 then 8191 else nI (S.getD 0 (0, 0)).2
def btB (tb nu ve : Int32) : List Int32 := ((((([] ++ bsL 0 1) ++ bsL tb.toInt64 1) ++ bsL (45056 : Int32).toInt64 2) ++ bsL nu.toInt64 2) ++ bsL (193 ||| (ve <<< ((1 : Int32) &&& 31))).toInt64 1) ++ bsL 0 2
def dlB (L : List DR9) : List Int32 := L.flatMap (fun x => bsL x.2.1.toInt64 2 ++ bsL (57344 ||| nI x.2.2.1).toInt64 2)
def spB (S : List (Int32 × Nat)) : List Int32 := S.flatMap (fun y => (bsL y.1.toInt64 1 ++ bsL (57344 ||| nI y.2).toInt64 2) ++ bsL 61440 2)
def ltB (ve : Int32) (L : List DR9) : List Int32 := btB 0 65535 ve ++ dlB L
def ptH (ve : Int32) (x : DR9) : List Int32 := (btB 2 x.2.1 ve ++ bsL (57344 ||| ckP x.2.2.2.2.1).toInt64 2) ++ bsL 61440 2
def ptB (ve : Int32) (x : DR9) : List Int32 := ptH ve x ++ spB x.2.2.2.2.1
theorem bt_len (tb nu ve : Int32) : (btB tb nu ve).length = 9 := by
  unfold btB
  simp only [List.length_append, bs_len, List.length_nil]
theorem pt_len (ve : Int32) (x : DR9) : (ptH ve x).length = 13 := by
  unfold ptH
  simp only [List.length_append, bs_len, bt_len]
theorem dl_len : ∀ L : List DR9, (dlB L).length = 4 * L.length
  | [] => rfl
  | x :: L => by
    unfold dlB
    rw [List.flatMap_cons, List.length_append, show (List.flatMap _ L).length = 4 * L.length from dl_len L]
    simp only [List.length_append, bs_len, List.length_cons]
    omega
theorem sp_len : ∀ S : List (Int32 × Nat), (spB S).length = 5 * S.length
  | [] => rfl
  | x :: S => by
    unfold spB
    rw [List.flatMap_cons, List.length_append, show (List.flatMap _ S).length = 5 * S.length from sp_len S]
    simp only [List.length_append, bs_len, List.length_cons]
    omega
theorem dl_step {L : List DR9} {k : Nat} {B : List Int32} (h : k < L.length) : ((B ++ dlB (L.take k)) ++ bsL (L.getD k dr0).2.1.toInt64 2) ++ bsL (57344 ||| nI (L.getD k dr0).2.2.1).toInt64 2 = B ++ dlB (L.take (k + 1)) := by
  rw [List.take_succ, List.getElem?_eq_getElem h]
  unfold dlB
  rw [List.flatMap_append, List.getD_eq_getElem?_getD, List.getElem?_eq_getElem h]
  simp only [Option.toList_some, List.flatMap_singleton, Option.getD_some, List.append_assoc]
theorem sp_step {S : List (Int32 × Nat)} {k : Nat} {B : List Int32} (h : k < S.length) : (((B ++ spB (S.take k)) ++ bsL (S.getD k (0, 0)).1.toInt64 1) ++ bsL (57344 ||| nI (S.getD k (0, 0)).2).toInt64 2) ++ bsL 61440 2 = B ++ spB (S.take (k + 1)) := by
  rw [List.take_succ, List.getElem?_eq_getElem h]
  unfold spB
  rw [List.flatMap_append, List.getD_eq_getElem?_getD, List.getElem?_eq_getElem h]
  simp only [Option.toList_some, List.flatMap_singleton, Option.getD_some, List.append_assoc]
theorem tk_len {α : Type} {L : List α} {k : Nat} (h : k ≤ L.length) : (L.take k).length = k := by rw [List.length_take]; omega
abbrev WS6 : Type := List Int32 × List LZ × (Nat → Option Nat)
/-- one table goes to the tape -/
def wsT (pid : Nat) (B : List Int32) (s t : WS6) : Prop := ∃ T1 T2 z hf1 w0, LM s.2.1 T1 T2 z s.2.2 hf1 pid ∧ z.2.2.2.2.2.2.1 = nI w0 ∧ w0 ≤ 2 ^ 28 ∧ t = (s.1 ++ ppL pid w0 184 0 B, T1 ++ lzW z (nI (w0 + 1)) :: T2, hf1)
def wsC : List (Nat × List Int32) → WS6 → WS6 → Prop
  | [], s, t => t = s
  | x :: l, s, t => ∃ m, wsT x.1 x.2 s m ∧ wsC l m t
theorem wsC_app : ∀ {l : List (Nat × List Int32)} {x : Nat × List Int32} {s t w : WS6}, wsC l s t → wsT x.1 x.2 t w → wsC (l ++ [x]) s w
  | [], x, s, t, w, h, h2 => ⟨w, by rw [show t = s from h] at h2; exact h2, rfl⟩
  | y :: l, x, s, t, w, ⟨m, h1, h3⟩, h2 => ⟨m, h1, wsC_app h3 h2⟩
def tbL (ve : Int32) (L : List DR9) : List (Nat × List Int32) := (0, esL (ltB ve L)) :: L.map (fun x => (x.2.2.1, esL (ptB ve x)))
theorem tbL_step {ve : Int32} {L : List DR9} {k : Nat} (h : k < L.length) : (tbL ve L).take (k + 2) = (tbL ve L).take (k + 1) ++ [((L.getD k dr0).2.2.1, esL (ptB ve (L.getD k dr0)))] := by
  unfold tbL
  rw [List.take_succ_cons, List.take_succ_cons, List.take_succ, List.getElem?_map, List.getElem?_eq_getElem h, List.getD_eq_getElem?_getD, List.getElem?_eq_getElem h]
  rfl
theorem tbL_all (ve : Int32) (L : List DR9) : (tbL ve L).take (L.length + 1) = tbL ve L := List.take_of_length_le (by unfold tbL; rw [List.length_cons, List.length_map]; omega)
theorem ws_len {pid w0 : Nat} {B : List Int32} (h : B.length ≤ 180) : (ppL pid w0 184 0 (esL B)).length = 188 := by
  have h2 := tl_184 (pid := pid) (w0 := w0) (T0 := []) (B := esL B) (by rw [esL_len h]; omega) (by rw [esL_len h]; omega)
  rw [List.nil_append, esL_len h] at h2
  exact h2
theorem lwr_put {b w0 : Nat} {Ls T1 T2 : List LZ} {z : LZ} {hf hf1 : Nat → Option Nat} {pid : Nat} (h : LM Ls T1 T2 z hf hf1 pid) (hl : lwr b Ls) (hw : w0 ≤ b) : lwr (b + 1) (T1 ++ lzW z (nI (w0 + 1)) :: T2) := by
  have key : ∀ y, y ∈ T1 ∨ y ∈ T2 → y ∈ Ls := by
    obtain ⟨h0, ⟨rfl, rfl⟩ | ⟨hn, rfl, rfl, he, rfl⟩⟩ := h
    · exact fun y hy => hy.elim (fun q => List.mem_append_left _ q) (fun q => List.mem_append_right _ (List.mem_cons_of_mem _ q))
    · exact fun y hy => hy.elim (fun q => by cases q) (fun q => q)
  intro y hy
  have fin : ∀ y, y ∈ Ls → ∃ w, w ≤ b + 1 ∧ y.2.2.2.2.2.2.1 = nI w := fun y hy => by
    obtain ⟨w, h1, h2⟩ := hl y hy
    exact ⟨w, by omega, h2⟩
  rcases List.mem_append.mp hy with q | q
  · exact fin y (key y (Or.inl q))
  · rcases List.mem_cons.mp q with q | q
    · exact ⟨w0 + 1, by omega, by rw [q]; rfl⟩
    · exact fin y (key y (Or.inr q))
theorem lm_wr {Ls T1 T2 : List LZ} {z : LZ} {wr : Int32} {hf hf1 : Nat → Option Nat} {pid : Nat} (h : LM Ls T1 T2 z hf hf1 pid) (hp : pid < 8192) (hLN : ∀ k, k < 256 → hf k = lhd k Ls) (hok : lok Ls) (hz : lzk Ls) : (∀ k, k < 256 → hf1 k = lhd k (T1 ++ lzW z wr :: T2)) ∧ lok (T1 ++ lzW z wr :: T2) ∧ lzk (T1 ++ lzW z wr :: T2) := by
  obtain ⟨h1, h2, h3⟩ := lm_inv h hp hLN hok hz
  exact ⟨fun k hk => (h1 k hk).trans (lhd_sk (lsk_mid rfl)), lok_sk (A := T1 ++ z :: T2) (lsk_mid rfl) h2, lzk_same h3 id⟩

set_option maxHeartbeats 4000000 in
set_option maxRecDepth 100000 in
theorem c_Draft_clockPid (l : Launch) (D : va_G) (cO : ClassId) (WS : va_W) (x : DR9) (hxd : (x.1, drE x) ∈ WS) (hS : isS WS cO x.2.2.2.1 x.2.2.2.2.1) : Met l y_Draft_clockPid [Cond.code y_Draft_clockPid b_Draft_clockPid 1 (some .int)] ({ frames := 3, cells := 0, slots := 0, locals := 64 }) (zP [.ref x.1] D ([] ++ WS) [(cO, .object "java/lang/Object")]) (vp_Si (fun r => r = ckP x.2.2.2.2.1)) 0 0 (fun _ => False) := by
  refine Met.ofW (cc := b_Draft_clockPid) (maxL := 1) (ret := (some .int)) (by decide) rfl ?_
  intro p e s m args below meth cd s₁ Bd hml hv
  obtain ⟨rfl, hP, hK, hN⟩ := hv
  have hx := Bd.exec
  have hb := Bd.bytes
  have hr := Bd.returns
  have hts := hN.use (a := ([.ref x.1]).toArray)
  have hown : s.vm.findClass R_Draft = some m.cls := findClass_of_methodNamed Bd.named
  have hlocks := Bd.notSynchronized
  have hP : va_P D classes ([] ++ WS) s.heap := hP
  have hl := lv_entry ([.ref x.1]) (n := 1) (Nat.le_of_ble_eq_true rfl)
  rw [lg_entry_eq]
  generalize (lg_sl ([.ref x.1]) ++ List.replicate (1 - (lg_sl ([.ref x.1])).length) Slot.unset).toArray = ls at hl ⊢
  have hl : lv_has ls 1 [(0, .ref x.1)] := hl
  obtain ⟨sb, smo, sg, ⟨hsm, hs6, hsa⟩, hsE⟩ := hS
  obtain ⟨q0, hq0⟩ := List.getElem?_of_mem (List.mem_append_right [] hxd)
  obtain ⟨q1, hq1⟩ := List.getElem?_of_mem (List.mem_append_right [] hsm)
  refine lv_aload_n hx hb d_Draft_clockPid_0 rfl (lv_at hl 0 rfl) ?_
  refine va_get (D := D) (ci := 9) (v := .ref x.2.2.2.1) (C := R_Draft) (T := F_Draft) (N := 3) hx hb hts i_Draft hown hK hP q0 hq0 rfl 2 (by decide) (hts _ wd_908) (fun _ h9 => h9) rfl d_Draft_clockPid_1 ?_
  have hPc : va_P D classes [(x.2.2.2.1, .inr (12, [.ref sb, .int (nI x.2.2.2.2.1.length), .int smo]))] s.heap := z_Pm1 (List.mem_append_right [] hsm) hP
  have hKc := hK.sub (tys' := []) [] rfl
  refine z_ci (va_runV (As := []) (rest := []) ⟨hx, hb, hml, hown, hts⟩ (c_AL_isEmpty l D x.2.2.2.1 sb (nI x.2.2.2.2.1.length) smo ) (z_cV hN wd_1021 wd_66 wd_1018 hd_AL_isEmpty rfl rfl ⟨Nat.le_of_ble_eq_true rfl, Nat.le_of_ble_eq_true rfl⟩ wd_1019 wd_1020) (z_preV (va_recv (ci := 12) (q0 := q1) hK hP rfl hq1) hPc hKc hN) rfl rfl hl.1 rfl (lv_room (Nat.le_of_ble_eq_true rfl)) d_Draft_clockPid_4 ⟨Nat.le_of_ble_eq_true rfl, Nat.le_of_ble_eq_true rfl⟩) (fun r4 e4 => ?_)
  refine z_topi (w := if (nI x.2.2.2.2.1.length) = 0 then 1 else 0) e4 ?_
  refine lv_if_eq (tgt := 16) hx hb d_Draft_clockPid_7 rfl (fun h7 => ?_) (fun h7 => ?_)
  · have h7 : ¬ x.2.2.2.2.1.length = 0 := fun q => absurd h7 (by rw [q]; decide)
    refine lv_aload_n hx hb d_Draft_clockPid_16 rfl (lv_at hl 0 rfl) ?_
    refine va_get (D := D) (ci := 9) (v := .ref x.2.2.2.1) (C := R_Draft) (T := F_Draft) (N := 3) hx hb hts i_Draft hown hK hP q0 hq0 rfl 2 (by decide) (hts _ wd_908) (fun _ h9 => h9) rfl d_Draft_clockPid_17 ?_
    refine lv_iconst (v := 0) hx hb d_Draft_clockPid_20 (by decide) ?_
    obtain ⟨a9, hga, ham, hap⟩ := hsE 0 (by omega)
    obtain ⟨q4, hq4⟩ := List.getElem?_of_mem (List.mem_append_right [] ham)
    have hPc : va_P D classes [(x.2.2.2.1, .inr (12, [.ref sb, .int (nI x.2.2.2.2.1.length), .int smo])), (sb, .inl (cO, 10, .inr (.inr (.inr (.inr sg)))))] s.heap := z_Pm2 (List.mem_append_right [] hsm) (List.mem_append_right [] (hsa.resolve_left (by omega))) hP
    have hKc := hK.sub (tys' := [(cO, .object "java/lang/Object")]) [0] rfl
    refine z_cq (va_runV (As := [.int (nI 0)]) (rest := []) ⟨hx, hb, hml, hown, hts⟩ (c_AL_get l D cO x.2.2.2.1 sb x.2.2.2.2.1.length smo sg 0 (by omega) (by omega)) (z_cV hN wd_309 wd_66 wd_1022 hd_AL_get rfl rfl ⟨Nat.le_of_ble_eq_true rfl, Nat.le_of_ble_eq_true rfl⟩ wd_307 wd_308) (z_preV (va_recv (ci := 12) (q0 := q1) hK hP rfl hq1) hPc hKc hN) rfl rfl hl.1 rfl (lv_room (Nat.le_of_ble_eq_true rfl)) d_Draft_clockPid_21 ⟨Nat.le_of_ble_eq_true rfl, Nat.le_of_ble_eq_true rfl⟩) (fun r21 e21 => ?_)
    subst e21
    refine z_topq (w := some a9) hga ?_
    refine va_castY hx hb hown (hts _ wd_1023) (hN _ wd_1486) (va_recv (ci := 5) (q0 := q4) hK hP rfl hq4) d_Draft_clockPid_24 ?_
    refine va_getN (D := D) (ci := 5) (v := .int (nI (x.2.2.2.2.1.getD 0 (0, 0)).2)) (C := R_Stream) (T := F_Stream) (N := 2) hx hb hts i_Stream hown hK hP q4 hq4 rfl 1 (by decide) (hts _ wd_639) (fun _ h9 => h9) rfl d_Draft_clockPid_27 ?_
    exact W.iret (v := (nI (x.2.2.2.2.1.getD 0 (0, 0)).2)) hx hb hr (fun t ht hW => ⟨_, rfl, (if_neg h7).symm, ht⟩) (fun _ h => by cases h) d_Draft_clockPid_30
  · have h7 : x.2.2.2.2.1.length = 0 := (nI_eq (b := 0) (by omega) (by omega)).mp (b_1 h7)
    refine lv_sipush (v := 8191) hx hb d_Draft_clockPid_10 (by decide) ?_
    refine lv_goto (tgt := 30) hx hb d_Draft_clockPid_13 rfl ?_
    exact W.iret (v := 8191) hx hb hr (fun t ht hW => ⟨_, rfl, (if_pos h7).symm, ht⟩) (fun _ h => by cases h) d_Draft_clockPid_30

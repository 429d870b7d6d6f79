set_option maxHeartbeats 4000000 in
set_option maxRecDepth 100000 in
theorem c_SS_told_okP (l : Launch) (D : va_G) (hfl : l.stackTraces = false) (B0 : State) (hG : zG B0) (sz : Nat) (cI : ClassId) (h rc d tp ln tb ct dp a pr e0 : Nat) (sz9 lv pmo : Int32) (cn : Nat → Int32) (cO : ClassId) (pst : Option (Nat × (Nat → Option Nat))) (P : List PR9) (Q : va_W) (k : Nat) (hk : k ≤ 11) : MetT l y_SS_told [Cond.code y_SS_told b_SS_told 2 (some .int)] ({ frames := 1, cells := 1, slots := 6, locals := 20 }) (zMo [.ref h, .int (nI k)] D ([(h, .inr (11, [.ref rc, .ref d])), (rc, .inr (4, [.ref tp, .ref ln, .ref tb, .ref ct, .ref dp])), (tp, .inr (0, [.ref a, .int sz9])), (ct, .inl (cI, 10, .inl cn))] ++ (tplr cO e0 tb lv pr P.length pmo pst P ++ Q)) [(cI, .int)] sz B0) (zQi (fun r0 (_ : Unit) => r0 = if k = 0 then sz9 else if k = 10 then lv else if k = 11 then nI P.length else cn k) (fun (_u : Unit) t => zW D (va_A ([(h, .inr (11, [.ref rc, .ref d])), (rc, .inr (4, [.ref tp, .ref ln, .ref tb, .ref ct, .ref dp])), (tp, .inr (0, [.ref a, .int sz9])), (ct, .inl (cI, 10, .inl cn))] ++ (tplr cO e0 tb lv pr P.length pmo pst P ++ Q)) sz) ([(h, .inr (11, [.ref rc, .ref d])), (rc, .inr (4, [.ref tp, .ref ln, .ref tb, .ref ct, .ref dp])), (tp, .inr (0, [.ref a, .int sz9])), (ct, .inl (cI, 10, .inl cn))] ++ (tplr cO e0 tb lv pr P.length pmo pst P ++ Q)) [(cI, .int)] t) (va_A ([(h, .inr (11, [.ref rc, .ref d])), (rc, .inr (4, [.ref tp, .ref ln, .ref tb, .ref ct, .ref dp])), (tp, .inr (0, [.ref a, .int sz9])), (ct, .inl (cI, 10, .inl cn))] ++ (tplr cO e0 tb lv pr P.length pmo pst P ++ Q)) sz) (fun _ => False)) 1 6 (va_A ([(h, .inr (11, [.ref rc, .ref d])), (rc, .inr (4, [.ref tp, .ref ln, .ref tb, .ref ct, .ref dp])), (tp, .inr (0, [.ref a, .int sz9])), (ct, .inl (cI, 10, .inl cn))] ++ (tplr cO e0 tb lv pr P.length pmo pst P ++ Q)) sz) := by
  refine MetT.ofW (cc := b_SS_told) (maxL := 2) (ret := (some .int)) (by decide) rfl ?_
  intro p e s m args below meth cd s₁ Bd hml hem hv
  obtain ⟨rfl, hsz, hP, hK, hN, hD0, hO⟩ := hv
  have hx := Bd.exec
  have hb := Bd.bytes
  have hr := Bd.returns
  have hts := hN.use (a := ([.ref h, .int (nI k)]).toArray)
  have hown : s.vm.findClass R_SS = some m.cls := findClass_of_methodNamed Bd.named
  have hlocks := Bd.notSynchronized
  subst hsz
  have hD := hD0.self (sz := s.heap.size)
  have hAO := z_AO hD0 hO
  clear hD0
  have hA : ∀ q : Nat, s.heap.size ≤ q → va_A ([(h, .inr (11, [.ref rc, .ref d])), (rc, .inr (4, [.ref tp, .ref ln, .ref tb, .ref ct, .ref dp])), (tp, .inr (0, [.ref a, .int sz9])), (ct, .inl (cI, 10, .inl cn))] ++ (tplr cO e0 tb lv pr P.length pmo pst P ++ Q)) s.heap.size q := fun q h => Or.inr h
  have hS : va_S (va_A ([(h, .inr (11, [.ref rc, .ref d])), (rc, .inr (4, [.ref tp, .ref ln, .ref tb, .ref ct, .ref dp])), (tp, .inr (0, [.ref a, .int sz9])), (ct, .inl (cI, 10, .inl cn))] ++ (tplr cO e0 tb lv pr P.length pmo pst P ++ Q)) s.heap.size) s.heap s.heap [] := va_S.rf
  generalize hAe : va_A ([(h, .inr (11, [.ref rc, .ref d])), (rc, .inr (4, [.ref tp, .ref ln, .ref tb, .ref ct, .ref dp])), (tp, .inr (0, [.ref a, .int sz9])), (ct, .inl (cI, 10, .inl cn))] ++ (tplr cO e0 tb lv pr P.length pmo pst P ++ Q)) s.heap.size = A at hD hA hS hAO ⊢
  have hP : va_P D classes ([(h, .inr (11, [.ref rc, .ref d])), (rc, .inr (4, [.ref tp, .ref ln, .ref tb, .ref ct, .ref dp])), (tp, .inr (0, [.ref a, .int sz9])), (ct, .inl (cI, 10, .inl cn))] ++ (tplr cO e0 tb lv pr P.length pmo pst P ++ Q)) s.heap := hP
  have hl := lv_entry ([.ref h, .int (nI k)]) (n := 2) (Nat.le_of_ble_eq_true rfl)
  rw [lg_entry_eq]
  generalize (lg_sl ([.ref h, .int (nI k)]) ++ List.replicate (2 - (lg_sl ([.ref h, .int (nI k)])).length) Slot.unset).toArray = ls at hl ⊢
  have hl : lv_has ls 2 [(0, .ref h), (1, .int (nI k))] := hl
  refine lv_iload_n hx hb d_SS_told_0 rfl (lv_at hl 1 rfl) ?_
  refine lv_if_lt (tgt := 10) hx hb d_SS_told_1 rfl (fun h9 => absurd h9 (nI_pos (by omega))) (fun h1 => ?_)
  refine lv_iload_n hx hb d_SS_told_4 rfl (lv_at hl 1 rfl) ?_
  refine lv_bipush (v := 11) hx hb d_SS_told_5 (by decide) ?_
  refine lv_icmp_le (tgt := 20) hx hb d_SS_told_7 rfl (fun h7 => ?_) (fun h9 => absurd (nI_le (a := k) (b := 11) hk (by decide)) h9)
  obtain ⟨q0, hq0⟩ : ∃ q0 : Nat, ([(h, .inr (11, [.ref rc, .ref d])), (rc, .inr (4, [.ref tp, .ref ln, .ref tb, .ref ct, .ref dp])), (tp, .inr (0, [.ref a, .int sz9])), (ct, .inl (cI, 10, .inl cn))] ++ (tplr cO e0 tb lv pr P.length pmo pst P ++ Q))[q0]? = some (tb, .inr (8, [.int lv, .ref pr])) := ⟨4, rfl⟩
  obtain ⟨wb, hwb⟩ := wl_mem cO e0 pr P.length pmo pst
  have hm9 : (pr, alE wb P.length pmo) ∈ ([(h, .inr (11, [.ref rc, .ref d])), (rc, .inr (4, [.ref tp, .ref ln, .ref tb, .ref ct, .ref dp])), (tp, .inr (0, [.ref a, .int sz9])), (ct, .inl (cI, 10, .inl cn))] ++ (tplr cO e0 tb lv pr P.length pmo pst P ++ Q)) := List.mem_append_right _ (List.mem_append_left _ (List.mem_cons_of_mem _ (List.mem_append_left _ hwb)))
  obtain ⟨q1, hq1⟩ := List.getElem?_of_mem hm9
  refine lv_iload_n hx hb d_SS_told_20 rfl (lv_at hl 1 rfl) ?_
  refine lv_if_ne (tgt := 35) hx hb d_SS_told_21 rfl (fun h21 => ?_) (fun h21 => ?_)
  · have h21 : ¬ k = 0 := fun z => h21 (by rw [z]; rfl)
    refine lv_iload_n hx hb d_SS_told_35 rfl (lv_at hl 1 rfl) ?_
    refine lv_bipush (v := 10) hx hb d_SS_told_36 (by decide) ?_
    refine lv_icmp_ne (tgt := 52) hx hb d_SS_told_38 rfl (fun h38 => ?_) (fun h38 => ?_)
    · have h38 : ¬ k = 10 := fun z => h38 (by rw [z]; rfl)
      refine lv_iload_n hx hb d_SS_told_52 rfl (lv_at hl 1 rfl) ?_
      refine lv_bipush (v := 11) hx hb d_SS_told_53 (by decide) ?_
      refine lv_icmp_ne (tgt := 72) hx hb d_SS_told_55 rfl (fun h55 => ?_) (fun h55 => ?_)
      · have h55 : ¬ k = 11 := fun z => h55 (by rw [z]; rfl)
        refine lv_aload_n hx hb d_SS_told_72 rfl (lv_at hl 0 rfl) ?_
        refine va_get (D := D) (ci := 11) (v := .ref rc) (C := R_SS) (T := F_SS) (N := 2) hx hb hts i_SS hown hK hP 0 rfl rfl 0 (by decide) (hts _ wd_198) (fun _ h9 => h9) rfl d_SS_told_73 ?_
        refine va_getN (D := D) (ci := 4) (v := .ref ct) (C := R_Receiver) (T := F_Receiver) (N := 5) hx hb hts i_Receiver hown hK hP 1 rfl rfl 3 (by decide) (hts _ wd_182) (fun _ h9 => h9) rfl d_SS_told_76 ?_
        refine lv_iload_n hx hb d_SS_told_79 rfl (lv_at hl 1 rfl) ?_
        refine z_iald hx hb hK hP 3 0 rfl rfl k rfl (by omega) (by omega) d_SS_told_80 ?_
        have hP9 := hP.part (cx := [(h, .inr (11, [.ref rc, .ref d])), (rc, .inr (4, [.ref tp, .ref ln, .ref tb, .ref ct, .ref dp])), (tp, .inr (0, [.ref a, .int sz9])), (ct, .inl (cI, 10, .inl cn))]) [0, 1, 2, 3] rfl
        have hD9 := hD.part (cx := [(h, .inr (11, [.ref rc, .ref d])), (rc, .inr (4, [.ref tp, .ref ln, .ref tb, .ref ct, .ref dp])), (tp, .inr (0, [.ref a, .int sz9])), (ct, .inl (cI, 10, .inl cn))]) [0, 1, 2, 3] (by decide) rfl
        have hK9 := hK.sub (tys' := [(cI, .int)]) [0] rfl
        refine W.widen (k := 1) (n := 6) (by omega) (by omega) ?_
        exact W.mono MQ.toT (W.iret (v := (cn k)) hx hb hr (fun t ht hW => Or.inl ⟨_, (), rfl, (by dsimp only; rw [if_neg h21, if_neg h38, if_neg h55]), ⟨by rw [ht]; exact hP9, va_K.moved hW.alike hK9, hD9⟩, hS.F ht⟩) hS.2.2 d_SS_told_81)
      · have h55 : k = 11 := (nI_eq (b := 11) (by omega) (by omega)).mp (by first | exact h55 | exact Classical.not_not.mp h55)
        refine lv_aload_n hx hb d_SS_told_58 rfl (lv_at hl 0 rfl) ?_
        refine va_get (D := D) (ci := 11) (v := .ref rc) (C := R_SS) (T := F_SS) (N := 2) hx hb hts i_SS hown hK hP 0 rfl rfl 0 (by decide) (hts _ wd_198) (fun _ h9 => h9) rfl d_SS_told_59 ?_
        refine va_getN (D := D) (ci := 4) (v := .ref tb) (C := R_Receiver) (T := F_Receiver) (N := 5) hx hb hts i_Receiver hown hK hP 1 rfl rfl 2 (by decide) (hts _ wd_180) (fun _ h9 => h9) rfl d_SS_told_62 ?_
        refine va_getN (D := D) (ci := 8) (v := .ref pr) (C := R_Tables) (T := F_Tables) (N := 2) hx hb hts i_Tables hown hK hP q0 hq0 rfl 1 (by decide) (hts _ wd_167) (fun _ h9 => h9) rfl d_SS_told_65 ?_
        have hPc : va_P D classes [(pr, .inr (12, [.ref wb, .int (nI P.length), .int pmo]))] s.heap := z_Pm1 hm9 hP
        have hKc := hK.sub (tys' := []) [] rfl
        refine z_ci (va_runV (As := []) (rest := []) ⟨hx, hb, hml, hown, hts⟩ (c_AL_size l D pr wb (nI P.length) pmo ) (z_cV hN wd_305 wd_66 wd_820 hd_AL_size rfl rfl ⟨Nat.le_of_ble_eq_true rfl, Nat.le_of_ble_eq_true rfl⟩ wd_303 wd_304) (z_preV (va_recv (ci := 12) (q0 := q1) hK hP rfl hq1) hPc hKc hN) rfl rfl hl.1 rfl (lv_room (Nat.le_of_ble_eq_true rfl)) d_SS_told_68 ⟨Nat.le_of_ble_eq_true rfl, Nat.le_of_ble_eq_true rfl⟩) (fun r68 e68 => ?_)
        refine z_topi (w := (nI P.length)) e68 ?_
        have hP9 := hP.part (cx := [(h, .inr (11, [.ref rc, .ref d])), (rc, .inr (4, [.ref tp, .ref ln, .ref tb, .ref ct, .ref dp])), (tp, .inr (0, [.ref a, .int sz9])), (ct, .inl (cI, 10, .inl cn))]) [0, 1, 2, 3] rfl
        have hD9 := hD.part (cx := [(h, .inr (11, [.ref rc, .ref d])), (rc, .inr (4, [.ref tp, .ref ln, .ref tb, .ref ct, .ref dp])), (tp, .inr (0, [.ref a, .int sz9])), (ct, .inl (cI, 10, .inl cn))]) [0, 1, 2, 3] (by decide) rfl
        have hK9 := hK.sub (tys' := [(cI, .int)]) [0] rfl
        refine W.widen (k := 1) (n := 6) (by omega) (by omega) ?_
        exact W.mono MQ.toT (W.iret (v := (nI P.length)) hx hb hr (fun t ht hW => Or.inl ⟨_, (), rfl, (by dsimp only; rw [if_neg h21, if_neg h38, if_pos h55]), ⟨by rw [ht]; exact hP9, va_K.moved hW.alike hK9, hD9⟩, hS.F ht⟩) hS.2.2 d_SS_told_71)
    · have h38 : k = 10 := (nI_eq (b := 10) (by omega) (by omega)).mp (by first | exact h38 | exact Classical.not_not.mp h38)
      refine lv_aload_n hx hb d_SS_told_41 rfl (lv_at hl 0 rfl) ?_
      refine va_get (D := D) (ci := 11) (v := .ref rc) (C := R_SS) (T := F_SS) (N := 2) hx hb hts i_SS hown hK hP 0 rfl rfl 0 (by decide) (hts _ wd_198) (fun _ h9 => h9) rfl d_SS_told_42 ?_
      refine va_getN (D := D) (ci := 4) (v := .ref tb) (C := R_Receiver) (T := F_Receiver) (N := 5) hx hb hts i_Receiver hown hK hP 1 rfl rfl 2 (by decide) (hts _ wd_180) (fun _ h9 => h9) rfl d_SS_told_45 ?_
      refine va_getN (D := D) (ci := 8) (v := .int lv) (C := R_Tables) (T := F_Tables) (N := 2) hx hb hts i_Tables hown hK hP q0 hq0 rfl 0 (by decide) (hts _ wd_165) (fun _ h9 => h9) rfl d_SS_told_48 ?_
      have hP9 := hP.part (cx := [(h, .inr (11, [.ref rc, .ref d])), (rc, .inr (4, [.ref tp, .ref ln, .ref tb, .ref ct, .ref dp])), (tp, .inr (0, [.ref a, .int sz9])), (ct, .inl (cI, 10, .inl cn))]) [0, 1, 2, 3] rfl
      have hD9 := hD.part (cx := [(h, .inr (11, [.ref rc, .ref d])), (rc, .inr (4, [.ref tp, .ref ln, .ref tb, .ref ct, .ref dp])), (tp, .inr (0, [.ref a, .int sz9])), (ct, .inl (cI, 10, .inl cn))]) [0, 1, 2, 3] (by decide) rfl
      have hK9 := hK.sub (tys' := [(cI, .int)]) [0] rfl
      refine W.widen (k := 1) (n := 6) (by omega) (by omega) ?_
      exact W.mono MQ.toT (W.iret (v := lv) hx hb hr (fun t ht hW => Or.inl ⟨_, (), rfl, (by dsimp only; rw [if_neg h21, if_pos h38]), ⟨by rw [ht]; exact hP9, va_K.moved hW.alike hK9, hD9⟩, hS.F ht⟩) hS.2.2 d_SS_told_51)
  · have h21 : k = 0 := (nI_eq (b := 0) (by omega) (by omega)).mp (by first | exact h21 | exact Classical.not_not.mp h21)
    refine lv_aload_n hx hb d_SS_told_24 rfl (lv_at hl 0 rfl) ?_
    refine va_get (D := D) (ci := 11) (v := .ref rc) (C := R_SS) (T := F_SS) (N := 2) hx hb hts i_SS hown hK hP 0 rfl rfl 0 (by decide) (hts _ wd_198) (fun _ h9 => h9) rfl d_SS_told_25 ?_
    refine va_getN (D := D) (ci := 4) (v := .ref tp) (C := R_Receiver) (T := F_Receiver) (N := 5) hx hb hts i_Receiver hown hK hP 1 rfl rfl 0 (by decide) (hts _ wd_176) (fun _ h9 => h9) rfl d_SS_told_28 ?_
    refine va_getN (D := D) (ci := 0) (v := .int sz9) (C := R_Row) (T := F_Row) (N := 2) hx hb hts i_Row hown hK hP 2 rfl rfl 1 (by decide) (hts _ wd_109) (fun _ h9 => h9) rfl d_SS_told_31 ?_
    have hP9 := hP.part (cx := [(h, .inr (11, [.ref rc, .ref d])), (rc, .inr (4, [.ref tp, .ref ln, .ref tb, .ref ct, .ref dp])), (tp, .inr (0, [.ref a, .int sz9])), (ct, .inl (cI, 10, .inl cn))]) [0, 1, 2, 3] rfl
    have hD9 := hD.part (cx := [(h, .inr (11, [.ref rc, .ref d])), (rc, .inr (4, [.ref tp, .ref ln, .ref tb, .ref ct, .ref dp])), (tp, .inr (0, [.ref a, .int sz9])), (ct, .inl (cI, 10, .inl cn))]) [0, 1, 2, 3] (by decide) rfl
    have hK9 := hK.sub (tys' := [(cI, .int)]) [0] rfl
    refine W.widen (k := 1) (n := 6) (by omega) (by omega) ?_
    exact W.mono MQ.toT (W.iret (v := sz9) hx hb hr (fun t ht hW => Or.inl ⟨_, (), rfl, (if_pos h21).symm, ⟨by rw [ht]; exact hP9, va_K.moved hW.alike hK9, hD9⟩, hS.F ht⟩) hS.2.2 d_SS_told_34)
set_option maxHeartbeats 4000000 in
set_option maxRecDepth 100000 in
theorem c_Law_told_okG (l : Launch) (D : va_G) (hfl : l.stackTraces = false) (B0 : State) (hG : zG B0) (sz : Nat) (cI : ClassId) (h rc d tp ln tb ct dp a pr e0 : Nat) (sz9 lv pmo : Int32) (cn : Nat → Int32) (cO : ClassId) (pst : Option (Nat × (Nat → Option Nat))) (P : List PR9) (Q : va_W) (k : Nat) (cJ : ClassId) (o9 : Nat) (g9 : Nat → Int64) (hk : k ≤ 11) : Met l y_Law_told [Cond.codeWith y_Law_told b_Law_told 4 (some .int) [(0, 9, 12, 13)]] ({ frames := 2, cells := 1, slots := 6, locals := 41 }) (zMo [.ref h, .int (nI k), .ref o9] D ([(h, .inr (11, [.ref rc, .ref d])), (rc, .inr (4, [.ref tp, .ref ln, .ref tb, .ref ct, .ref dp])), (tp, .inr (0, [.ref a, .int sz9])), (ct, .inl (cI, 10, .inl cn)), (o9, .inl (cJ, 1, .inr (.inl g9)))] ++ (tplr cO e0 tb lv pr P.length pmo pst P ++ Q)) [(cI, .int), (cJ, .long)] sz B0) (va_Qi (fun r0 (u : (Unit) × Int32) => r0 = 0 ∧ (fun r0 (_ : Unit) => r0 = if k = 0 then sz9 else if k = 10 then lv else if k = 11 then nI P.length else cn k) u.2 u.1) (fun (u : (Unit) × Int32) t => zW D (va_A ([(h, .inr (11, [.ref rc, .ref d])), (rc, .inr (4, [.ref tp, .ref ln, .ref tb, .ref ct, .ref dp])), (tp, .inr (0, [.ref a, .int sz9])), (ct, .inl (cI, 10, .inl cn)), (o9, .inl (cJ, 1, .inr (.inl g9)))] ++ (tplr cO e0 tb lv pr P.length pmo pst P ++ Q)) sz) ([(h, .inr (11, [.ref rc, .ref d])), (rc, .inr (4, [.ref tp, .ref ln, .ref tb, .ref ct, .ref dp])), (tp, .inr (0, [.ref a, .int sz9])), (ct, .inl (cI, 10, .inl cn)), (o9, .inl (cJ, 1, .inr (.inl (vp_updL g9 0 u.2.toInt64))))] ++ (tplr cO e0 tb lv pr P.length pmo pst P ++ Q)) [(cI, .int), (cJ, .long)] t) (va_A ([(h, .inr (11, [.ref rc, .ref d])), (rc, .inr (4, [.ref tp, .ref ln, .ref tb, .ref ct, .ref dp])), (tp, .inr (0, [.ref a, .int sz9])), (ct, .inl (cI, 10, .inl cn)), (o9, .inl (cJ, 1, .inr (.inl g9)))] ++ (tplr cO e0 tb lv pr P.length pmo pst P ++ Q)) sz)) 1 6 (va_A ([(h, .inr (11, [.ref rc, .ref d])), (rc, .inr (4, [.ref tp, .ref ln, .ref tb, .ref ct, .ref dp])), (tp, .inr (0, [.ref a, .int sz9])), (ct, .inl (cI, 10, .inl cn)), (o9, .inl (cJ, 1, .inr (.inl g9)))] ++ (tplr cO e0 tb lv pr P.length pmo pst P ++ Q)) sz) := by
  refine va_MetW (cc := b_Law_told) (maxL := 4) (ret := (some .int)) (hh := [(0, 9, 12, 13)]) (by decide) rfl ?_
  intro p e s m args below meth cd s₁ Bd hml hv
  obtain ⟨rfl, hsz, hP, hK, hN, hD0, hO⟩ := hv
  have hx := Bd.exec
  have hb := Bd.bytes
  have hr := Bd.returns
  have hts := hN.use (a := ([.ref h, .int (nI k), .ref o9]).toArray)
  have hown : s.vm.findClass R_Law = some m.cls := findClass_of_methodNamed Bd.named
  have hlocks := Bd.notSynchronized
  have htab := z_tab Bd
  subst hsz
  have hD := hD0.self (sz := s.heap.size)
  have hAO := z_AO hD0 hO
  clear hD0
  have hA : ∀ q : Nat, s.heap.size ≤ q → va_A ([(h, .inr (11, [.ref rc, .ref d])), (rc, .inr (4, [.ref tp, .ref ln, .ref tb, .ref ct, .ref dp])), (tp, .inr (0, [.ref a, .int sz9])), (ct, .inl (cI, 10, .inl cn)), (o9, .inl (cJ, 1, .inr (.inl g9)))] ++ (tplr cO e0 tb lv pr P.length pmo pst P ++ Q)) s.heap.size q := fun q h => Or.inr h
  have hS : va_S (va_A ([(h, .inr (11, [.ref rc, .ref d])), (rc, .inr (4, [.ref tp, .ref ln, .ref tb, .ref ct, .ref dp])), (tp, .inr (0, [.ref a, .int sz9])), (ct, .inl (cI, 10, .inl cn)), (o9, .inl (cJ, 1, .inr (.inl g9)))] ++ (tplr cO e0 tb lv pr P.length pmo pst P ++ Q)) s.heap.size) s.heap s.heap [] := va_S.rf
  generalize hAe : va_A ([(h, .inr (11, [.ref rc, .ref d])), (rc, .inr (4, [.ref tp, .ref ln, .ref tb, .ref ct, .ref dp])), (tp, .inr (0, [.ref a, .int sz9])), (ct, .inl (cI, 10, .inl cn)), (o9, .inl (cJ, 1, .inr (.inl g9)))] ++ (tplr cO e0 tb lv pr P.length pmo pst P ++ Q)) s.heap.size = A at hD hA hS hAO ⊢
  have hP : va_P D classes ([(h, .inr (11, [.ref rc, .ref d])), (rc, .inr (4, [.ref tp, .ref ln, .ref tb, .ref ct, .ref dp])), (tp, .inr (0, [.ref a, .int sz9])), (ct, .inl (cI, 10, .inl cn)), (o9, .inl (cJ, 1, .inr (.inl g9)))] ++ (tplr cO e0 tb lv pr P.length pmo pst P ++ Q)) s.heap := hP
  have hl := lv_entry ([.ref h, .int (nI k), .ref o9]) (n := 4) (Nat.le_of_ble_eq_true rfl)
  rw [lg_entry_eq]
  generalize (lg_sl ([.ref h, .int (nI k), .ref o9]) ++ List.replicate (4 - (lg_sl ([.ref h, .int (nI k), .ref o9])).length) Slot.unset).toArray = ls at hl ⊢
  have hl : lv_has ls 4 [(0, .ref h), (1, .int (nI k)), (2, .ref o9)] := hl
  refine lv_aload_n hx hb d_Law_told_0 rfl (lv_at hl 2 rfl) ?_
  refine lv_iconst (v := 0) hx hb d_Law_told_1 (by decide) ?_
  refine lv_aload_n hx hb d_Law_told_2 rfl (lv_at hl 0 rfl) ?_
  refine lv_iload_n hx hb d_Law_told_3 rfl (lv_at hl 1 rfl) ?_
  have hPc := hP.part (cx := [(h, .inr (11, [.ref rc, .ref d])), (rc, .inr (4, [.ref tp, .ref ln, .ref tb, .ref ct, .ref dp])), (tp, .inr (0, [.ref a, .int sz9])), (ct, .inl (cI, 10, .inl cn))]) [0, 1, 2, 3] rfl
  have hKc := hK.sub (tys' := [(cI, .int)]) [0] rfl
  have hDc := hD.part (cx := [(h, .inr (11, [.ref rc, .ref d])), (rc, .inr (4, [.ref tp, .ref ln, .ref tb, .ref ct, .ref dp])), (tp, .inr (0, [.ref a, .int sz9])), (ct, .inl (cI, 10, .inl cn))]) [0, 1, 2, 3] (by decide) rfl
  have hFc := va_freeP (cx := [(h, .inr (11, [.ref rc, .ref d])), (rc, .inr (4, [.ref tp, .ref ln, .ref tb, .ref ct, .ref dp])), (tp, .inr (0, [.ref a, .int sz9])), (ct, .inl (cI, 10, .inl cn))]) hD hS hA [0, 1, 2, 3] rfl
  refine z_callVTi (As := [.int (nI k)]) (rest := [.int 0, .ref o9]) ⟨hx, hb, hml, hown, hts⟩ (c_SS_told_okP l D hfl B0 hG s.heap.size cI h rc d tp ln tb ct dp a pr e0 sz9 lv pmo cn cO pst P Q k hk) (z_cV hN wd_818 wd_59 wd_815 hd_SS_told rfl rfl ⟨Nat.le_of_ble_eq_true rfl, Nat.le_of_ble_eq_true rfl⟩ wd_816 wd_817) (z_preVo (va_recv (ci := 11) (q0 := 0) hK hP rfl rfl) hPc hKc hN hDc hO hS hAO) rfl hl.1 rfl (lv_room (Nat.le_of_ble_eq_true rfl)) d_Law_told_4 ⟨Nat.le_of_ble_eq_true rfl, Nat.le_of_ble_eq_true rfl⟩ hS (fun q _ h => hFc q h) hFc (fun r9 u9 t H locs ht hvm e4 hB hz1 hk1 hS => ?_) (fun X x H locs eX hcx hz1 hk1 hS => ?_)
  · obtain ⟨hP1, hK1, hD1⟩ := hB
    rw [ht] at hP1
    obtain ⟨hP, hD⟩ := va_joinP (wr := [(o9, .inl (cJ, 1, .inr (.inl g9)))]) (rx := [(h, .inr (11, [.ref rc, .ref d])), (rc, .inr (4, [.ref tp, .ref ln, .ref tb, .ref ct, .ref dp])), (tp, .inr (0, [.ref a, .int sz9])), (ct, .inl (cI, 10, .inl cn))]) hP hD [0, 1, 2, 3] [4] rfl rfl (by decide) (by decide) hk1 hFc hP1 hD1
    clear hk1 hP1 hD1 hFc hPc hDc hz1
    have hP : va_P D classes ([(o9, .inl (cJ, 1, .inr (.inl g9))), (h, .inr (11, [.ref rc, .ref d])), (rc, .inr (4, [.ref tp, .ref ln, .ref tb, .ref ct, .ref dp])), (tp, .inr (0, [.ref a, .int sz9])), (ct, .inl (cI, 10, .inl cn))] ++ (tplr cO e0 tb lv pr P.length pmo pst P ++ Q)) H := hP
    have hD : va_D A ([(o9, .inl (cJ, 1, .inr (.inl g9))), (h, .inr (11, [.ref rc, .ref d])), (rc, .inr (4, [.ref tp, .ref ln, .ref tb, .ref ct, .ref dp])), (tp, .inr (0, [.ref a, .int sz9])), (ct, .inl (cI, 10, .inl cn))] ++ (tplr cO e0 tb lv pr P.length pmo pst P ++ Q)) := hD
    refine lv_i2l (v := r9.toInt64) hx hb d_Law_told_7 rfl ?_
    refine z_last hx hb hK hP hD hS 0 1 rfl rfl 0 rfl (by decide) (by decide) d_Law_told_8 (fun H locs hP hD hS => ?_)
    have hP : va_P D classes ([(o9, .inl (cJ, 1, .inr (.inl (vp_updL g9 0 r9.toInt64)))), (h, .inr (11, [.ref rc, .ref d])), (rc, .inr (4, [.ref tp, .ref ln, .ref tb, .ref ct, .ref dp])), (tp, .inr (0, [.ref a, .int sz9])), (ct, .inl (cI, 10, .inl cn))] ++ (tplr cO e0 tb lv pr P.length pmo pst P ++ Q)) H := hP
    have hD : va_D A ([(o9, .inl (cJ, 1, .inr (.inl (vp_updL g9 0 r9.toInt64)))), (h, .inr (11, [.ref rc, .ref d])), (rc, .inr (4, [.ref tp, .ref ln, .ref tb, .ref ct, .ref dp])), (tp, .inr (0, [.ref a, .int sz9])), (ct, .inl (cI, 10, .inl cn))] ++ (tplr cO e0 tb lv pr P.length pmo pst P ++ Q)) := hD
    refine lv_goto (tgt := 15) hx hb d_Law_told_9 rfl ?_
    refine lv_iconst (v := 0) hx hb d_Law_told_15 (by decide) ?_
    have hP9 := hP.part (cx := [(h, .inr (11, [.ref rc, .ref d])), (rc, .inr (4, [.ref tp, .ref ln, .ref tb, .ref ct, .ref dp])), (tp, .inr (0, [.ref a, .int sz9])), (ct, .inl (cI, 10, .inl cn)), (o9, .inl (cJ, 1, .inr (.inl (vp_updL g9 0 r9.toInt64))))]) [1, 2, 3, 4, 0] rfl
    have hD9 := hD.part (cx := [(h, .inr (11, [.ref rc, .ref d])), (rc, .inr (4, [.ref tp, .ref ln, .ref tb, .ref ct, .ref dp])), (tp, .inr (0, [.ref a, .int sz9])), (ct, .inl (cI, 10, .inl cn)), (o9, .inl (cJ, 1, .inr (.inl (vp_updL g9 0 r9.toInt64))))]) [1, 2, 3, 4, 0] (by decide) rfl
    have hK9 := hK.sub (tys' := [(cI, .int), (cJ, .long)]) [0, 1] rfl
    refine W.widen (k := 1) (n := 6) (by omega) (by omega) ?_
    exact W.iret (v := 0) hx hb hr (fun t ht hW => ⟨⟨_, (u9, r9), rfl, ⟨rfl, e4⟩, ⟨by rw [ht]; exact hP9, va_K.moved hW.alike hK9, hD9⟩⟩, hS.F ht⟩) hS.2.2 d_Law_told_16
  · exact absurd eX (fun z => z)

theorem d_Mo_packet_180 : decode b_Mo_packet 180 = .ok (.iload 7, 2) := by decide +kernel
theorem d_Mo_packet_182 : decode b_Mo_packet 182 = .ok (.ifCond .le 18, 3) := by decide +kernel
theorem d_Mo_packet_185 : decode b_Mo_packet 185 = .ok (.aload_n 0, 1) := by decide +kernel
theorem d_Mo_packet_186 : decode b_Mo_packet 186 = .ok (.getfield 54, 3) := by decide +kernel
theorem d_Mo_packet_189 : decode b_Mo_packet 189 = .ok (.iconst 5, 1) := by decide +kernel
theorem d_Mo_packet_190 : decode b_Mo_packet 190 = .ok (.iaload, 1) := by decide +kernel
theorem d_Mo_packet_191 : decode b_Mo_packet 191 = .ok (.bipush 127, 2) := by decide +kernel
theorem d_Mo_packet_193 : decode b_Mo_packet 193 = .ok (.if_icmp .le 7, 3) := by decide +kernel
theorem d_Mo_packet_196 : decode b_Mo_packet 196 = .ok (.iconst 1, 1) := by decide +kernel
theorem d_Mo_packet_197 : decode b_Mo_packet 197 = .ok (.goto 4, 3) := by decide +kernel
theorem d_Mo_packet_200 : decode b_Mo_packet 200 = .ok (.iconst 0, 1) := by decide +kernel
theorem d_Mo_packet_201 : decode b_Mo_packet 201 = .ok (.istore 8, 2) := by decide +kernel
theorem d_Mo_packet_203 : decode b_Mo_packet 203 = .ok (.iload 7, 2) := by decide +kernel
theorem d_Mo_packet_205 : decode b_Mo_packet 205 = .ok (.bipush 6, 2) := by decide +kernel
theorem d_Mo_packet_207 : decode b_Mo_packet 207 = .ok (.if_icmp .le 50, 3) := by decide +kernel
theorem d_Mo_packet_210 : decode b_Mo_packet 210 = .ok (.aload_n 0, 1) := by decide +kernel
theorem d_Mo_packet_211 : decode b_Mo_packet 211 = .ok (.getfield 54, 3) := by decide +kernel
theorem d_Mo_packet_214 : decode b_Mo_packet 214 = .ok (.iconst 5, 1) := by decide +kernel
theorem d_Mo_packet_215 : decode b_Mo_packet 215 = .ok (.iaload, 1) := by decide +kernel
theorem d_Mo_packet_216 : decode b_Mo_packet 216 = .ok (.iconst 4, 1) := by decide +kernel
theorem d_Mo_packet_217 : decode b_Mo_packet 217 = .ok (.ishr, 1) := by decide +kernel
theorem d_Mo_packet_218 : decode b_Mo_packet 218 = .ok (.iconst 1, 1) := by decide +kernel
theorem d_Mo_packet_219 : decode b_Mo_packet 219 = .ok (.iand, 1) := by decide +kernel
theorem d_Mo_packet_220 : decode b_Mo_packet 220 = .ok (.iconst 1, 1) := by decide +kernel
theorem d_Mo_packet_221 : decode b_Mo_packet 221 = .ok (.if_icmp .ne 36, 3) := by decide +kernel
theorem d_Mo_packet_224 : decode b_Mo_packet 224 = .ok (.aload_n 0, 1) := by decide +kernel
theorem d_Mo_packet_225 : decode b_Mo_packet 225 = .ok (.getfield 23, 3) := by decide +kernel
theorem d_Mo_packet_228 : decode b_Mo_packet 228 = .ok (.iload_n 3, 1) := by decide +kernel
theorem d_Mo_packet_229 : decode b_Mo_packet 229 = .ok (.ldc2_w 193, 3) := by decide +kernel
theorem d_Mo_packet_232 : decode b_Mo_packet 232 = .ok (.aload_n 0, 1) := by decide +kernel
theorem d_Mo_packet_233 : decode b_Mo_packet 233 = .ok (.getfield 54, 3) := by decide +kernel
theorem d_Mo_packet_236 : decode b_Mo_packet 236 = .ok (.bipush 48, 2) := by decide +kernel
theorem d_Mo_packet_238 : decode b_Mo_packet 238 = .ok (.bipush 33, 2) := by decide +kernel
theorem d_Mo_packet_240 : decode b_Mo_packet 240 = .ok (.invokestatic 189, 3) := by decide +kernel
theorem d_Mo_packet_243 : decode b_Mo_packet 243 = .ok (.lmul, 1) := by decide +kernel
theorem d_Mo_packet_244 : decode b_Mo_packet 244 = .ok (.aload_n 0, 1) := by decide +kernel
theorem d_Mo_packet_245 : decode b_Mo_packet 245 = .ok (.getfield 54, 3) := by decide +kernel
theorem d_Mo_packet_248 : decode b_Mo_packet 248 = .ok (.bipush 87, 2) := by decide +kernel
theorem d_Mo_packet_250 : decode b_Mo_packet 250 = .ok (.bipush 9, 2) := by decide +kernel
theorem d_Mo_packet_252 : decode b_Mo_packet 252 = .ok (.invokestatic 189, 3) := by decide +kernel
theorem d_Mo_packet_255 : decode b_Mo_packet 255 = .ok (.ladd, 1) := by decide +kernel
theorem d_Mo_packet_256 : decode b_Mo_packet 256 = .ok (.lastore, 1) := by decide +kernel
set_option maxHeartbeats 16000000 in
set_option maxRecDepth 100000 in
theorem c_Mo_packet_180 (l : Launch) (D : va_G) (cI : ClassId) (h : Nat) (r : Nat → Nat) (th si pl rs : Int32) (cJ cZ : ClassId) (pk0 ct tw : Nat → Int32) (cl : Nat → Int64) (kd wa su : Nat → Int32) (ti : Nat → Int64) (np : Nat) (dn : Nat → Int64) (sY sZ sB se : Nat → Int32) (le lv : Int32) (ng : Nat) (g : PG) (o : OG) (sP tl : Nat → Int32) (tp : Nat → Int32) (fr : Nat) (hfr : fr + 188 ≤ 9400) (hbt : ∀ j, j < 188 → ∃ b, b < 256 ∧ tp (fr + j) = nI b) (hok : PGok (kq (yT pk0 ct tw cl kd wa su ti np dn sY sZ sB se le lv ng g o sP tl)).g (kq (yT pk0 ct tw cl kd wa su ti np dn sY sZ sB se le lv ng g o sP tl)).ng) (hSq : ∀ pk, byF pk 188 → ¬ kUse (yT pk0 ct tw cl kd wa su ti np dn sY sZ sB se le lv ng g o sP tl) pk = 0 → ¬ kUse (yT pk0 ct tw cl kd wa su ti np dn sY sZ sB se le lv ng g o sP tl) pk = 4 → ∃ J, J (kq (kY3 (yT pk0 ct tw cl kd wa su ti np dn sY sZ sB se le lv ng g o sP tl) pk)) ∧ JOK J pk (nI (kI pk))) (hPq : ∀ pk, byF pk 188 → kUse (yT pk0 ct tw cl kd wa su ti np dn sY sZ sB se le lv ng g o sP tl) pk = 4 → ∃ s9 mz, POK (kPS (kY3 (yT pk0 ct tw cl kd wa su ti np dn sY sZ sB se le lv ng g o sP tl) pk)) (kq (yT pk0 ct tw cl kd wa su ti np dn sY sZ sB se le lv ng g o sP tl)).ng (kq (yT pk0 ct tw cl kd wa su ti np dn sY sZ sB se le lv ng g o sP tl)).g (nI (kI pk)) s9 mz) {p : Program} {e : Env} {s : State} {m : MethodId} {below : List Frame} {meth : Method} {cd : Code} {A : Nat → Prop} (hx : p.tables.exec = Jvm.exec) (hb : cd.code = b_Mo_packet) (hr : meth.sig.returnType = none) (hml : cd.maxLocals = 11) (hlocks : meth.locks = false) (hown : s.vm.findClass R_Mo = some m.cls) (hN : zN s) (hK : va_K D classes [(cI, .int), (cJ, .long), (cZ, .boolean)] s) (hA : ∀ q : Nat, s.heap.size ≤ q → A q) (pk : Nat → Int32) (hpk8 : ∀ j, j < 188 → pk j = tp (fr + j)) (hb9 : byF pk 188) : ∀  (H : Heap) (locs : List Loc) (ls : Array Slot) (hgd : ¬ kBad pk) (hl : lv_has ls 11 [(0, .ref h), (2, .int (kS pk)), (3, .int (nI (kI pk))), (4, .int (kX pk)), (5, .int (nI (kA pk))), (6, .int (nI (kC pk))), (7, .int (nI (kL pk)))]) (hP : va_P D classes [(h, .inr (13, mO r th si le lv (nI ng) (nI np) pl rs)), (r 1, .inl (cI, 9400, .inl tp)), (r 3, .inl (cI, 10, .inl (cup tl 1))), (r 4, .inl (cI, 8192, .inl ct)), (r 5, .inl (cZ, 8192, .inl tw)), (r 6, .inl (cJ, 8192, .inr (.inl cl))), (r 7, .inl (cI, 24, .inl sP)), (r 8, .inl (cZ, 24, .inl sB)), (r 9, .inl (cI, 24576, .inl sY)), (r 10, .inl (cI, 24, .inl sZ)), (r 11, .inl (cI, 24, .inl kd)), (r 12, .inl (cI, 24, .inl wa)), (r 13, .inl (cI, 24, .inl su)), (r 14, .inl (cJ, 24, .inr (.inl ti))), (r 15, .inl (cI, 1024, .inl se)), (r 17, .inl (cI, 188, .inl pk)), (r 43, .inl (cJ, 80, .inr (.inl dn))), (r 20, .inl (cI, 4, .inl g.nu)), (r 21, .inl (cI, 4, .inl g.pi)), (r 22, .inl (cI, 4, .inl g.vs)), (r 23, .inl (cI, 4, .inl g.cp)), (r 24, .inl (cI, 4, .inl g.sc)), (r 25, .inl (cZ, 4, .inl g.aw)), (r 26, .inl (cJ, 4, .inr (.inl g.nw))), (r 27, .inl (cI, 4, .inl g.wt)), (r 28, .inl (cI, 16, .inl g.ty)), (r 29, .inl (cI, 16, .inl g.sp)), (r 30, .inl (cJ, 24, .inr (.inl g.z.1))), (r 31, .inl (cI, 24, .inl g.z.2.1)), (r 32, .inl (cZ, 24, .inl g.z.2.2.1)), (r 33, .inl (cJ, 24, .inr (.inl g.z.2.2.2))), (r 34, .inl (cI, 24, .inl o.oI)), (r 35, .inl (cZ, 4, .inl o.oA)), (r 36, .inl (cJ, 4, .inr (.inl o.oW))), (r 37, .inl (cI, 16, .inl o.oT)), (r 38, .inl (cI, 16, .inl o.oS)), (r 39, .inl (cJ, 24, .inr (.inl o.z.1))), (r 40, .inl (cI, 24, .inl o.z.2.1)), (r 41, .inl (cZ, 24, .inl o.z.2.2.1)), (r 42, .inl (cJ, 24, .inr (.inl o.z.2.2.2)))] H) (hD : va_D A [(h, .inr (13, mO r th si le lv (nI ng) (nI np) pl rs)), (r 1, .inl (cI, 9400, .inl tp)), (r 3, .inl (cI, 10, .inl (cup tl 1))), (r 4, .inl (cI, 8192, .inl ct)), (r 5, .inl (cZ, 8192, .inl tw)), (r 6, .inl (cJ, 8192, .inr (.inl cl))), (r 7, .inl (cI, 24, .inl sP)), (r 8, .inl (cZ, 24, .inl sB)), (r 9, .inl (cI, 24576, .inl sY)), (r 10, .inl (cI, 24, .inl sZ)), (r 11, .inl (cI, 24, .inl kd)), (r 12, .inl (cI, 24, .inl wa)), (r 13, .inl (cI, 24, .inl su)), (r 14, .inl (cJ, 24, .inr (.inl ti))), (r 15, .inl (cI, 1024, .inl se)), (r 17, .inl (cI, 188, .inl pk)), (r 43, .inl (cJ, 80, .inr (.inl dn))), (r 20, .inl (cI, 4, .inl g.nu)), (r 21, .inl (cI, 4, .inl g.pi)), (r 22, .inl (cI, 4, .inl g.vs)), (r 23, .inl (cI, 4, .inl g.cp)), (r 24, .inl (cI, 4, .inl g.sc)), (r 25, .inl (cZ, 4, .inl g.aw)), (r 26, .inl (cJ, 4, .inr (.inl g.nw))), (r 27, .inl (cI, 4, .inl g.wt)), (r 28, .inl (cI, 16, .inl g.ty)), (r 29, .inl (cI, 16, .inl g.sp)), (r 30, .inl (cJ, 24, .inr (.inl g.z.1))), (r 31, .inl (cI, 24, .inl g.z.2.1)), (r 32, .inl (cZ, 24, .inl g.z.2.2.1)), (r 33, .inl (cJ, 24, .inr (.inl g.z.2.2.2))), (r 34, .inl (cI, 24, .inl o.oI)), (r 35, .inl (cZ, 4, .inl o.oA)), (r 36, .inl (cJ, 4, .inr (.inl o.oW))), (r 37, .inl (cI, 16, .inl o.oT)), (r 38, .inl (cI, 16, .inl o.oS)), (r 39, .inl (cJ, 24, .inr (.inl o.z.1))), (r 40, .inl (cI, 24, .inl o.z.2.1)), (r 41, .inl (cZ, 24, .inl o.z.2.2.1)), (r 42, .inl (cJ, 24, .inr (.inl o.z.2.2.2)))]) (hS : va_S A s.heap H locs), W p l e ({ frames := 7, cells := 0, slots := 0, locals := 195 }) s m ([.ref h, .int (nI fr)]).toArray below meth cd H locs 0 0 (MQ below (va_Qv (fun (u : RK9) => kpP tp fr (yT pk0 ct tw cl kd wa su ti np dn sY sZ sB se le lv ng g o sP tl) u) (fun (u : RK9) t => zW D (A) (pkA cI cJ cZ h r th si pl rs tp u) [(cI, .int), (cJ, .long), (cZ, .boolean)] t) (A)) ([.ref h, .int (nI fr)]).toArray s 0 0 (A)) (F0 m 180 ls []) := by
  have hts := hN.use (a := ([.ref h, .int (nI fr)]).toArray)
  intro  H locs ls hgd hl hP hD hS
  have hsb := by_sb hb9
  have hs1 := (hsb 1 (by omega)).2
  have hs2 := (hsb 2 (by omega)).2
  have hs3 := (hsb 3 (by omega)).2
  have hs4 := (hsb 4 (by omega)).2
  have hkI : kI pk < 8192 := by show sbF pk 1 % 32 * 256 + sbF pk 2 < 8192; omega
  have hkA : kA pk < 4 := Nat.mod_lt _ (by decide)
  have hkL : kL pk < 256 := by unfold kL; split <;> omega
  have hkC : kC pk < 16 := Nat.mod_lt _ (by decide)
  refine lv_iload hx hb d_Mo_packet_180 (lv_at hl 6 rfl) ?_
  suffices key182 : W p l e ({ frames := 7, cells := 0, slots := 0, locals := 195 }) s m ([.ref h, .int (nI fr)]).toArray below meth cd H locs 0 0 (MQ below (va_Qv (fun (u : RK9) => kpP tp fr (yT pk0 ct tw cl kd wa su ti np dn sY sZ sB se le lv ng g o sP tl) u) (fun (u : RK9) t => zW D (A) (pkA cI cJ cZ h r th si pl rs tp u) [(cI, .int), (cJ, .long), (cZ, .boolean)] t) (A)) ([.ref h, .int (nI fr)]).toArray s 0 0 (A)) (F0 m 201 ls [.int (kF pk)]) by
    refine lv_if_le (tgt := 200) hx hb d_Mo_packet_182 rfl (fun h182 => ?_) (fun h182 => ?_)
    · have h182 := (nI_leI (b := 0) (by omega) (by omega)).mp h182
      refine lv_iconst (v := 0) hx hb d_Mo_packet_200 (by decide) ?_
      refine z_topi (w := (kF pk)) (by unfold kF; rw [if_neg (fun q => absurd q.1 (by omega))]) ?_
      exact key182
    · have h182 : 0 < kL pk := by have := mt (nI_leI (a := kL pk) (b := 0) (by omega) (by omega)).mpr h182; omega
      refine lv_aload_n hx hb d_Mo_packet_185 rfl (lv_at hl 0 rfl) ?_
      refine va_get (D := D) (ci := 13) (v := .ref (r 17)) (C := R_Mo) (T := F_Mo) (N := 54) hx hb hts i_Mo hown hK hP 0 rfl rfl 17 (by decide) (hts _ wd_1105) (fun _ h9 => h9) rfl d_Mo_packet_186 ?_
      refine lv_iconst (v := 5) hx hb d_Mo_packet_189 (by decide) ?_
      refine z_iald hx hb hK hP 15 0 rfl rfl 5 rfl (by omega) (by omega) d_Mo_packet_190 ?_
      refine lv_bipush (v := 127) hx hb d_Mo_packet_191 (by decide) ?_
      refine lv_icmp_le (tgt := 200) hx hb d_Mo_packet_193 rfl (fun h193 => ?_) (fun h193 => ?_)
      · refine lv_iconst (v := 0) hx hb d_Mo_packet_200 (by decide) ?_
        refine z_topi (w := (kF pk)) (by unfold kF; first | exact (if_pos ⟨h182, Int32.not_le.mp h193⟩).symm | exact (if_neg (fun q => absurd q.2 (Int32.not_lt.mpr h193))).symm) ?_
        exact key182
      · refine lv_iconst (v := 1) hx hb d_Mo_packet_196 (by decide) ?_
        refine lv_goto (tgt := 201) hx hb d_Mo_packet_197 rfl ?_
        refine z_topi (w := (kF pk)) (by unfold kF; first | exact (if_pos ⟨h182, Int32.not_le.mp h193⟩).symm | exact (if_neg (fun q => absurd q.2 (Int32.not_lt.mpr h193))).symm) ?_
        exact key182
  refine lv_istore (lv' := [(8, .int (kF pk)), (0, .ref h), (2, .int (kS pk)), (3, .int (nI (kI pk))), (4, .int (kX pk)), (5, .int (nI (kA pk))), (6, .int (nI (kC pk))), (7, .int (nI (kL pk)))]) hx hb d_Mo_packet_201 hl (by decide) rfl (fun ls hl => ?_)
  have lem257 := c_Mo_packet_257 (p := p) (e := e) (s := s) (m := m) (below := below) (meth := meth) (cd := cd) (A := A) l D cI h r th si pl rs cJ cZ pk0 ct tw cl kd wa su ti np dn sY sZ sB se le lv ng g o sP tl tp fr hfr hbt hok hSq hPq hx hb hr hml hlocks hown hN hK hA pk hpk8 hb9 hgd
  refine lv_iload hx hb d_Mo_packet_203 (lv_at hl 7 rfl) ?_
  refine lv_bipush (v := 6) hx hb d_Mo_packet_205 (by decide) ?_
  refine lv_icmp_le (tgt := 257) hx hb d_Mo_packet_207 rfl (fun h207 => ?_) (fun h207 => ?_)
  · have h207 := (nI_leI (b := 6) (by omega) (by omega)).mp h207
    have hkk : kK pk cl = cl := by unfold kK; rw [if_neg (fun q => by first | exact h221 q.2 | exact absurd q.1 (by omega))]
    exact lem257  H locs ls  (lv_sub hl [1, 2, 3, 4, 5, 6, 7, 0] rfl) (by rw [hkk]; exact hP) (by rw [hkk]; exact hD) hS
  · have h207 : 6 < kL pk := by have := mt (nI_leI (a := kL pk) (b := 6) (by omega) (by omega)).mpr h207; omega
    refine lv_aload_n hx hb d_Mo_packet_210 rfl (lv_at hl 1 rfl) ?_
    refine va_get (D := D) (ci := 13) (v := .ref (r 17)) (C := R_Mo) (T := F_Mo) (N := 54) hx hb hts i_Mo hown hK hP 0 rfl rfl 17 (by decide) (hts _ wd_1105) (fun _ h9 => h9) rfl d_Mo_packet_211 ?_
    refine lv_iconst (v := 5) hx hb d_Mo_packet_214 (by decide) ?_
    refine z_iald hx hb hK hP 15 0 rfl rfl 5 rfl (by omega) (by omega) d_Mo_packet_215 ?_
    refine lv_iconst (v := 4) hx hb d_Mo_packet_216 (by decide) ?_
    refine lv_ishr hx hb d_Mo_packet_217 ?_
    refine lv_iconst (v := 1) hx hb d_Mo_packet_218 (by decide) ?_
    refine lv_iand hx hb d_Mo_packet_219 ?_
    refine lv_iconst (v := 1) hx hb d_Mo_packet_220 (by decide) ?_
    refine lv_icmp_ne (tgt := 257) hx hb d_Mo_packet_221 rfl (fun h221 => ?_) (fun h221 => ?_)
    · have hkk : kK pk cl = cl := by unfold kK; rw [if_neg (fun q => by first | exact h221 q.2 | exact absurd q.1 (by omega))]
      exact lem257  H locs ls  (lv_sub hl [1, 2, 3, 4, 5, 6, 7, 0] rfl) (by rw [hkk]; exact hP) (by rw [hkk]; exact hD) hS
    · have h221 : (pk 5 >>> ((4 : Int32) &&& 31)) &&& 1 = 1 := by first | exact h221 | exact Classical.not_not.mp h221
      refine lv_aload_n hx hb d_Mo_packet_224 rfl (lv_at hl 1 rfl) ?_
      refine va_get (D := D) (ci := 13) (v := .ref (r 6)) (C := R_Mo) (T := F_Mo) (N := 54) hx hb hts i_Mo hown hK hP 0 rfl rfl 6 (by decide) (hts _ wd_1094) (fun _ h9 => h9) rfl d_Mo_packet_225 ?_
      refine lv_iload_n hx hb d_Mo_packet_228 rfl (lv_at hl 3 rfl) ?_
      refine lv_ldc2 hx hb hown (hts _ wd_1298) d_Mo_packet_229 ?_
      refine lv_aload_n hx hb d_Mo_packet_232 rfl (lv_at hl 1 rfl) ?_
      refine va_get (D := D) (ci := 13) (v := .ref (r 17)) (C := R_Mo) (T := F_Mo) (N := 54) hx hb hts i_Mo hown hK hP 0 rfl rfl 17 (by decide) (hts _ wd_1105) (fun _ h9 => h9) rfl d_Mo_packet_233 ?_
      refine lv_bipush (v := 48) hx hb d_Mo_packet_236 (by decide) ?_
      refine lv_bipush (v := 33) hx hb d_Mo_packet_238 (by decide) ?_
      have hPc := hP.sub (ws' := [((r 17), .inl (cI, 188, .inl pk))]) [15] rfl
      have hKc := hK.sub (tys' := [(cI, .int)]) [0] rfl
      refine z_cl (va_runS (As := [.ref (r 17), .int (nI 48), .int (nI 33)]) (rest := [.long 300, .int (nI (kI pk)), .ref (r 6)]) ⟨hx, hb, hml, hown, hts⟩ (c_Mo_bitsOf l D cI (r 17) 188 pk 48 33 (by omega) (by omega)) (z_cS hN wd_1296 wd_67 wd_1294 hd_Mo_bitsOf rfl rfl ⟨Nat.le_of_ble_eq_true rfl, Nat.le_of_ble_eq_true rfl⟩ wd_1295) (z_preS hPc hKc hN) rfl rfl hl.1 rfl (lv_room (Nat.le_of_ble_eq_true rfl)) d_Mo_packet_240 ⟨Nat.le_of_ble_eq_true rfl, Nat.le_of_ble_eq_true rfl⟩) (fun r240 e240 => ?_)
      subst e240
      refine lv_lmul hx hb d_Mo_packet_243 ?_
      refine lv_aload_n hx hb d_Mo_packet_244 rfl (lv_at hl 1 rfl) ?_
      refine va_get (D := D) (ci := 13) (v := .ref (r 17)) (C := R_Mo) (T := F_Mo) (N := 54) hx hb hts i_Mo hown hK hP 0 rfl rfl 17 (by decide) (hts _ wd_1105) (fun _ h9 => h9) rfl d_Mo_packet_245 ?_
      refine lv_bipush (v := 87) hx hb d_Mo_packet_248 (by decide) ?_
      refine lv_bipush (v := 9) hx hb d_Mo_packet_250 (by decide) ?_
      have hPc := hP.sub (ws' := [((r 17), .inl (cI, 188, .inl pk))]) [15] rfl
      have hKc := hK.sub (tys' := [(cI, .int)]) [0] rfl
      refine z_cl (va_runS (As := [.ref (r 17), .int (nI 87), .int (nI 9)]) (rest := [.long (300 * (mb_l pk 48 33)), .int (nI (kI pk)), .ref (r 6)]) ⟨hx, hb, hml, hown, hts⟩ (c_Mo_bitsOf l D cI (r 17) 188 pk 87 9 (by omega) (by omega)) (z_cS hN wd_1296 wd_67 wd_1294 hd_Mo_bitsOf rfl rfl ⟨Nat.le_of_ble_eq_true rfl, Nat.le_of_ble_eq_true rfl⟩ wd_1295) (z_preS hPc hKc hN) rfl rfl hl.1 rfl (lv_room (Nat.le_of_ble_eq_true rfl)) d_Mo_packet_252 ⟨Nat.le_of_ble_eq_true rfl, Nat.le_of_ble_eq_true rfl⟩) (fun r252 e252 => ?_)
      subst e252
      refine lv_ladd hx hb d_Mo_packet_255 ?_
      refine z_last hx hb hK hP hD hS 5 1 rfl rfl (kI pk) rfl (by omega) (by omega) d_Mo_packet_256 (fun H locs hP hD hS => ?_)
      have hP : va_P D classes [(h, .inr (13, mO r th si le lv (nI ng) (nI np) pl rs)), (r 1, .inl (cI, 9400, .inl tp)), (r 3, .inl (cI, 10, .inl (cup tl 1))), (r 4, .inl (cI, 8192, .inl ct)), (r 5, .inl (cZ, 8192, .inl tw)), (r 6, .inl (cJ, 8192, .inr (.inl (vp_updL cl (kI pk) ((300 * (mb_l pk 48 33)) + (mb_l pk 87 9)))))), (r 7, .inl (cI, 24, .inl sP)), (r 8, .inl (cZ, 24, .inl sB)), (r 9, .inl (cI, 24576, .inl sY)), (r 10, .inl (cI, 24, .inl sZ)), (r 11, .inl (cI, 24, .inl kd)), (r 12, .inl (cI, 24, .inl wa)), (r 13, .inl (cI, 24, .inl su)), (r 14, .inl (cJ, 24, .inr (.inl ti))), (r 15, .inl (cI, 1024, .inl se)), (r 17, .inl (cI, 188, .inl pk)), (r 43, .inl (cJ, 80, .inr (.inl dn))), (r 20, .inl (cI, 4, .inl g.nu)), (r 21, .inl (cI, 4, .inl g.pi)), (r 22, .inl (cI, 4, .inl g.vs)), (r 23, .inl (cI, 4, .inl g.cp)), (r 24, .inl (cI, 4, .inl g.sc)), (r 25, .inl (cZ, 4, .inl g.aw)), (r 26, .inl (cJ, 4, .inr (.inl g.nw))), (r 27, .inl (cI, 4, .inl g.wt)), (r 28, .inl (cI, 16, .inl g.ty)), (r 29, .inl (cI, 16, .inl g.sp)), (r 30, .inl (cJ, 24, .inr (.inl g.z.1))), (r 31, .inl (cI, 24, .inl g.z.2.1)), (r 32, .inl (cZ, 24, .inl g.z.2.2.1)), (r 33, .inl (cJ, 24, .inr (.inl g.z.2.2.2))), (r 34, .inl (cI, 24, .inl o.oI)), (r 35, .inl (cZ, 4, .inl o.oA)), (r 36, .inl (cJ, 4, .inr (.inl o.oW))), (r 37, .inl (cI, 16, .inl o.oT)), (r 38, .inl (cI, 16, .inl o.oS)), (r 39, .inl (cJ, 24, .inr (.inl o.z.1))), (r 40, .inl (cI, 24, .inl o.z.2.1)), (r 41, .inl (cZ, 24, .inl o.z.2.2.1)), (r 42, .inl (cJ, 24, .inr (.inl o.z.2.2.2)))] H := hP
      have hD : va_D A [(h, .inr (13, mO r th si le lv (nI ng) (nI np) pl rs)), (r 1, .inl (cI, 9400, .inl tp)), (r 3, .inl (cI, 10, .inl (cup tl 1))), (r 4, .inl (cI, 8192, .inl ct)), (r 5, .inl (cZ, 8192, .inl tw)), (r 6, .inl (cJ, 8192, .inr (.inl (vp_updL cl (kI pk) ((300 * (mb_l pk 48 33)) + (mb_l pk 87 9)))))), (r 7, .inl (cI, 24, .inl sP)), (r 8, .inl (cZ, 24, .inl sB)), (r 9, .inl (cI, 24576, .inl sY)), (r 10, .inl (cI, 24, .inl sZ)), (r 11, .inl (cI, 24, .inl kd)), (r 12, .inl (cI, 24, .inl wa)), (r 13, .inl (cI, 24, .inl su)), (r 14, .inl (cJ, 24, .inr (.inl ti))), (r 15, .inl (cI, 1024, .inl se)), (r 17, .inl (cI, 188, .inl pk)), (r 43, .inl (cJ, 80, .inr (.inl dn))), (r 20, .inl (cI, 4, .inl g.nu)), (r 21, .inl (cI, 4, .inl g.pi)), (r 22, .inl (cI, 4, .inl g.vs)), (r 23, .inl (cI, 4, .inl g.cp)), (r 24, .inl (cI, 4, .inl g.sc)), (r 25, .inl (cZ, 4, .inl g.aw)), (r 26, .inl (cJ, 4, .inr (.inl g.nw))), (r 27, .inl (cI, 4, .inl g.wt)), (r 28, .inl (cI, 16, .inl g.ty)), (r 29, .inl (cI, 16, .inl g.sp)), (r 30, .inl (cJ, 24, .inr (.inl g.z.1))), (r 31, .inl (cI, 24, .inl g.z.2.1)), (r 32, .inl (cZ, 24, .inl g.z.2.2.1)), (r 33, .inl (cJ, 24, .inr (.inl g.z.2.2.2))), (r 34, .inl (cI, 24, .inl o.oI)), (r 35, .inl (cZ, 4, .inl o.oA)), (r 36, .inl (cJ, 4, .inr (.inl o.oW))), (r 37, .inl (cI, 16, .inl o.oT)), (r 38, .inl (cI, 16, .inl o.oS)), (r 39, .inl (cJ, 24, .inr (.inl o.z.1))), (r 40, .inl (cI, 24, .inl o.z.2.1)), (r 41, .inl (cZ, 24, .inl o.z.2.2.1)), (r 42, .inl (cJ, 24, .inr (.inl o.z.2.2.2)))] := hD
      have hkk : kK pk cl = vp_updL cl (kI pk) ((300 * (mb_l pk 48 33)) + (mb_l pk 87 9)) := by unfold kK; rw [if_pos ⟨h207, h221⟩]
      exact lem257  H locs ls  (lv_sub hl [1, 2, 3, 4, 5, 6, 7, 0] rfl) (by rw [hkk]; exact hP) (by rw [hkk]; exact hD) hS

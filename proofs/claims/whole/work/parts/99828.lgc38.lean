theorem d_Law_law_1118 : decode b_Law_law 1118 = .ok (.aload_n 1, 1) := by decide +kernel
theorem d_Law_law_1119 : decode b_Law_law 1119 = .ok (.aload_n 0, 1) := by decide +kernel
theorem d_Law_law_1120 : decode b_Law_law 1120 = .ok (.iload 4, 2) := by decide +kernel
theorem d_Law_law_1122 : decode b_Law_law 1122 = .ok (.iconst 1, 1) := by decide +kernel
theorem d_Law_law_1123 : decode b_Law_law 1123 = .ok (.iadd, 1) := by decide +kernel
theorem d_Law_law_1124 : decode b_Law_law 1124 = .ok (.iaload, 1) := by decide +kernel
theorem d_Law_law_1125 : decode b_Law_law 1125 = .ok (.aload_n 0, 1) := by decide +kernel
theorem d_Law_law_1126 : decode b_Law_law 1126 = .ok (.iload 4, 2) := by decide +kernel
theorem d_Law_law_1128 : decode b_Law_law 1128 = .ok (.iconst 2, 1) := by decide +kernel
theorem d_Law_law_1129 : decode b_Law_law 1129 = .ok (.iadd, 1) := by decide +kernel
theorem d_Law_law_1130 : decode b_Law_law 1130 = .ok (.iaload, 1) := by decide +kernel
theorem d_Law_law_1131 : decode b_Law_law 1131 = .ok (.i2l, 1) := by decide +kernel
theorem d_Law_law_1132 : decode b_Law_law 1132 = .ok (.bipush 32, 2) := by decide +kernel
theorem d_Law_law_1134 : decode b_Law_law 1134 = .ok (.lshl, 1) := by decide +kernel
theorem d_Law_law_1135 : decode b_Law_law 1135 = .ok (.aload_n 0, 1) := by decide +kernel
theorem d_Law_law_1136 : decode b_Law_law 1136 = .ok (.iload 4, 2) := by decide +kernel
theorem d_Law_law_1138 : decode b_Law_law 1138 = .ok (.iconst 3, 1) := by decide +kernel
theorem d_Law_law_1139 : decode b_Law_law 1139 = .ok (.iadd, 1) := by decide +kernel
theorem d_Law_law_1140 : decode b_Law_law 1140 = .ok (.iaload, 1) := by decide +kernel
theorem d_Law_law_1141 : decode b_Law_law 1141 = .ok (.i2l, 1) := by decide +kernel
theorem d_Law_law_1142 : decode b_Law_law 1142 = .ok (.ldc2_w 75, 3) := by decide +kernel
theorem d_Law_law_1145 : decode b_Law_law 1145 = .ok (.land, 1) := by decide +kernel
theorem d_Law_law_1146 : decode b_Law_law 1146 = .ok (.lor, 1) := by decide +kernel
theorem d_Law_law_1147 : decode b_Law_law 1147 = .ok (.aload_n 0, 1) := by decide +kernel
theorem d_Law_law_1148 : decode b_Law_law 1148 = .ok (.iload 4, 2) := by decide +kernel
theorem d_Law_law_1150 : decode b_Law_law 1150 = .ok (.iconst 4, 1) := by decide +kernel
theorem d_Law_law_1151 : decode b_Law_law 1151 = .ok (.iadd, 1) := by decide +kernel
theorem d_Law_law_1152 : decode b_Law_law 1152 = .ok (.iaload, 1) := by decide +kernel
theorem d_Law_law_1153 : decode b_Law_law 1153 = .ok (.aload_n 0, 1) := by decide +kernel
theorem d_Law_law_1154 : decode b_Law_law 1154 = .ok (.iload 4, 2) := by decide +kernel
theorem d_Law_law_1156 : decode b_Law_law 1156 = .ok (.iconst 5, 1) := by decide +kernel
theorem d_Law_law_1157 : decode b_Law_law 1157 = .ok (.iadd, 1) := by decide +kernel
theorem d_Law_law_1158 : decode b_Law_law 1158 = .ok (.iaload, 1) := by decide +kernel
theorem d_Law_law_1159 : decode b_Law_law 1159 = .ok (.aload_n 0, 1) := by decide +kernel
theorem d_Law_law_1160 : decode b_Law_law 1160 = .ok (.iload 4, 2) := by decide +kernel
theorem d_Law_law_1162 : decode b_Law_law 1162 = .ok (.bipush 6, 2) := by decide +kernel
theorem d_Law_law_1164 : decode b_Law_law 1164 = .ok (.iadd, 1) := by decide +kernel
theorem d_Law_law_1165 : decode b_Law_law 1165 = .ok (.iaload, 1) := by decide +kernel
theorem d_Law_law_1166 : decode b_Law_law 1166 = .ok (.ifCond .eq 7, 3) := by decide +kernel
theorem d_Law_law_1169 : decode b_Law_law 1169 = .ok (.iconst 1, 1) := by decide +kernel
theorem d_Law_law_1170 : decode b_Law_law 1170 = .ok (.goto 4, 3) := by decide +kernel
theorem d_Law_law_1173 : decode b_Law_law 1173 = .ok (.iconst 0, 1) := by decide +kernel
theorem d_Law_law_1174 : decode b_Law_law 1174 = .ok (.aload_n 3, 1) := by decide +kernel
theorem d_Law_law_1175 : decode b_Law_law 1175 = .ok (.invokestatic 142, 3) := by decide +kernel
theorem d_Law_law_1178 : decode b_Law_law 1178 = .ok (.istore 5, 2) := by decide +kernel
theorem d_Law_law_1180 : decode b_Law_law 1180 = .ok (.aload_n 2, 1) := by decide +kernel
theorem d_Law_law_1181 : decode b_Law_law 1181 = .ok (.aload_n 0, 1) := by decide +kernel
theorem d_Law_law_1182 : decode b_Law_law 1182 = .ok (.iload 4, 2) := by decide +kernel
theorem d_Law_law_1184 : decode b_Law_law 1184 = .ok (.iconst 1, 1) := by decide +kernel
theorem d_Law_law_1185 : decode b_Law_law 1185 = .ok (.iadd, 1) := by decide +kernel
theorem d_Law_law_1186 : decode b_Law_law 1186 = .ok (.iaload, 1) := by decide +kernel
theorem d_Law_law_1187 : decode b_Law_law 1187 = .ok (.aload_n 0, 1) := by decide +kernel
theorem d_Law_law_1188 : decode b_Law_law 1188 = .ok (.iload 4, 2) := by decide +kernel
theorem d_Law_law_1190 : decode b_Law_law 1190 = .ok (.iconst 2, 1) := by decide +kernel
theorem d_Law_law_1191 : decode b_Law_law 1191 = .ok (.iadd, 1) := by decide +kernel
theorem d_Law_law_1192 : decode b_Law_law 1192 = .ok (.iaload, 1) := by decide +kernel
theorem d_Law_law_1193 : decode b_Law_law 1193 = .ok (.i2l, 1) := by decide +kernel
theorem d_Law_law_1194 : decode b_Law_law 1194 = .ok (.bipush 32, 2) := by decide +kernel
theorem d_Law_law_1196 : decode b_Law_law 1196 = .ok (.lshl, 1) := by decide +kernel
theorem d_Law_law_1197 : decode b_Law_law 1197 = .ok (.aload_n 0, 1) := by decide +kernel
theorem d_Law_law_1198 : decode b_Law_law 1198 = .ok (.iload 4, 2) := by decide +kernel
theorem d_Law_law_1200 : decode b_Law_law 1200 = .ok (.iconst 3, 1) := by decide +kernel
theorem d_Law_law_1201 : decode b_Law_law 1201 = .ok (.iadd, 1) := by decide +kernel
theorem d_Law_law_1202 : decode b_Law_law 1202 = .ok (.iaload, 1) := by decide +kernel
theorem d_Law_law_1203 : decode b_Law_law 1203 = .ok (.i2l, 1) := by decide +kernel
theorem d_Law_law_1204 : decode b_Law_law 1204 = .ok (.ldc2_w 75, 3) := by decide +kernel
theorem d_Law_law_1207 : decode b_Law_law 1207 = .ok (.land, 1) := by decide +kernel
theorem d_Law_law_1208 : decode b_Law_law 1208 = .ok (.lor, 1) := by decide +kernel
theorem d_Law_law_1209 : decode b_Law_law 1209 = .ok (.aload_n 0, 1) := by decide +kernel
theorem d_Law_law_1210 : decode b_Law_law 1210 = .ok (.iload 4, 2) := by decide +kernel
theorem d_Law_law_1212 : decode b_Law_law 1212 = .ok (.iconst 4, 1) := by decide +kernel
theorem d_Law_law_1213 : decode b_Law_law 1213 = .ok (.iadd, 1) := by decide +kernel
theorem d_Law_law_1214 : decode b_Law_law 1214 = .ok (.iaload, 1) := by decide +kernel
theorem d_Law_law_1215 : decode b_Law_law 1215 = .ok (.aload_n 0, 1) := by decide +kernel
theorem d_Law_law_1216 : decode b_Law_law 1216 = .ok (.iload 4, 2) := by decide +kernel
theorem d_Law_law_1218 : decode b_Law_law 1218 = .ok (.iconst 5, 1) := by decide +kernel
theorem d_Law_law_1219 : decode b_Law_law 1219 = .ok (.iadd, 1) := by decide +kernel
theorem d_Law_law_1220 : decode b_Law_law 1220 = .ok (.iaload, 1) := by decide +kernel
theorem d_Law_law_1221 : decode b_Law_law 1221 = .ok (.aload_n 0, 1) := by decide +kernel
theorem d_Law_law_1222 : decode b_Law_law 1222 = .ok (.iload 4, 2) := by decide +kernel
theorem d_Law_law_1224 : decode b_Law_law 1224 = .ok (.bipush 6, 2) := by decide +kernel
theorem d_Law_law_1226 : decode b_Law_law 1226 = .ok (.iadd, 1) := by decide +kernel
theorem d_Law_law_1227 : decode b_Law_law 1227 = .ok (.iaload, 1) := by decide +kernel
theorem d_Law_law_1228 : decode b_Law_law 1228 = .ok (.ifCond .eq 7, 3) := by decide +kernel
theorem d_Law_law_1231 : decode b_Law_law 1231 = .ok (.iconst 1, 1) := by decide +kernel
theorem d_Law_law_1232 : decode b_Law_law 1232 = .ok (.goto 4, 3) := by decide +kernel
theorem d_Law_law_1235 : decode b_Law_law 1235 = .ok (.iconst 0, 1) := by decide +kernel
theorem d_Law_law_1236 : decode b_Law_law 1236 = .ok (.invokevirtual 145, 3) := by decide +kernel
theorem d_Law_law_1239 : decode b_Law_law 1239 = .ok (.istore 6, 2) := by decide +kernel
theorem d_Law_law_1241 : decode b_Law_law 1241 = .ok (.aload_n 2, 1) := by decide +kernel
theorem d_Law_law_1242 : decode b_Law_law 1242 = .ok (.invokevirtual 83, 3) := by decide +kernel
theorem d_Law_law_1245 : decode b_Law_law 1245 = .ok (.iload 5, 2) := by decide +kernel
theorem d_Law_law_1247 : decode b_Law_law 1247 = .ok (.if_icmp .eq 5, 3) := by decide +kernel
theorem d_Law_law_1252 : decode b_Law_law 1252 = .ok (.iload 5, 2) := by decide +kernel
theorem d_Law_law_1254 : decode b_Law_law 1254 = .ok (.ifCond .ne 15, 3) := by decide +kernel
theorem d_Law_law_1269 : decode b_Law_law 1269 = .ok (.goto 175, 3) := by decide +kernel
set_option maxHeartbeats 4000000 in
set_option maxRecDepth 100000 in
theorem lg_pieceW_bad {p : Program} {e : Env} {s : State} {m : MethodId} {below : List Frame} {meth : Method} {cd : Code} (l : Launch) (hfl : l.stackTraces = false) {b L : Nat} {xs : Nat → Int32} (C9 : lw_At p s m meth cd b L xs) (i0 k9 : Nat) (hi : i0 + 8 ≤ L) (hL : L ≤ 4096) (hk9 : k9 ≤ 511) (A : Nat → Prop) (hA : ∀ q, s.heap.size ≤ q → A q) (hAO : ∀ q, A q → s.heap.size ≤ q) (D : va_G) (cB cI cJ cZ cN cQ cO : ClassId) (hK : va_K D classes [(cB, .byte), (cI, .int), (cJ, .long), (cZ, .boolean), (cN, .object "StreamSplitter$Lane"), (cQ, .object "StreamSplitter$Piece"), (cO, .object "java/lang/Object")] s) (e0 : Nat) (he0 : zE0 s e0) (x9 rv dr tp ln tb ca dp a hd m9 o9 : Nat) (r : Nat → Nat) (T : List Int32) (f : Nat → Int32) (cn : Nat → Int32) (hf : Nat → Option Nat) (dpf : Nat → Option Nat) (dn : Nat → Option PQ9) (Ls : List LZ) (lv : Int32) (pr : Nat) (pmo : Int32) (pst : Option (Nat × (Nat → Option Nat))) (P : List PR9) (mo : Int32) (dst : Option (Nat × (Nat → Option Nat))) (DL : List DR9) (X : va_W) (th : Int32) (rs : Int32) (tpR : Nat → Int32) (wrR : Nat → Int32) (roR : Nat → Int32) (pN : Nat → Int32) (pP : Nat → Int32) (pS : Nat → Int32) (pT : Nat → Int32) (pQ : Nat → Int32) (pkR : Nat → Int32) (ctR : Nat → Int32) (twR : Nat → Int32) (clR : Nat → Int64) (kdR : Nat → Int32) (waR : Nat → Int32) (suR : Nat → Int32) (tiR : Nat → Int64) (npR : Nat) (dnR : Nat → Int64) (sYR : Nat → Int32) (sZR : Nat → Int32) (sBR : Nat → Int32) (seR : Nat → Int32) (leR : Int32) (gR : PG) (oR : OG) (sPR : Nat → Int32) (g9 : Nat → Int64) (H : Heap) (locs : List Loc) (ls : Array Slot) (cells slots : Nat) (hl : lv_has ls 8 [(4, .int (nI i0)), (3, .ref o9), (2, .ref m9), (1, .ref x9), (0, .ref b)]) (hP : va_P D classes ([(x9, .inr (11, [.ref rv, .ref dr])), (rv, .inr (4, [.ref tp, .ref ln, .ref tb, .ref ca, .ref dp])), (ca, .inl (cI, 10, .inl cn)), (dp, .inl (cQ, 16, .inr (.inr (.inr (.inr dpf))))), (tp, .inr (0, [.ref a, .int (nI T.length)])), (a, .inl (cB, 9400, .inl f)), (ln, .inr (2, [.ref hd])), (hd, .inl (cN, 256, .inr (.inr (.inr (.inr hf))))), (m9, .inr (13, mO r th (nI T.length) leR lv (nI P.length) (nI npR) (nI DL.length) rs)), (r 1, .inl (cI, 9400, .inl tpR)), (r 3, .inl (cI, 10, .inl cn)), (r 4, .inl (cI, 8192, .inl ctR)), (r 5, .inl (cZ, 8192, .inl twR)), (r 6, .inl (cJ, 8192, .inr (.inl clR))), (r 7, .inl (cI, 24, .inl sPR)), (r 8, .inl (cZ, 24, .inl sBR)), (r 9, .inl (cI, 24576, .inl sYR)), (r 10, .inl (cI, 24, .inl sZR)), (r 11, .inl (cI, 24, .inl kdR)), (r 12, .inl (cI, 24, .inl waR)), (r 13, .inl (cI, 24, .inl suR)), (r 14, .inl (cJ, 24, .inr (.inl tiR))), (r 15, .inl (cI, 1024, .inl seR)), (r 17, .inl (cI, 188, .inl pkR)), (r 43, .inl (cJ, 80, .inr (.inl dnR))), (r 20, .inl (cI, 4, .inl gR.nu)), (r 21, .inl (cI, 4, .inl gR.pi)), (r 22, .inl (cI, 4, .inl gR.vs)), (r 23, .inl (cI, 4, .inl gR.cp)), (r 24, .inl (cI, 4, .inl gR.sc)), (r 25, .inl (cZ, 4, .inl gR.aw)), (r 26, .inl (cJ, 4, .inr (.inl gR.nw))), (r 27, .inl (cI, 4, .inl gR.wt)), (r 28, .inl (cI, 16, .inl gR.ty)), (r 29, .inl (cI, 16, .inl gR.sp)), (r 30, .inl (cJ, 24, .inr (.inl gR.z.1))), (r 31, .inl (cI, 24, .inl gR.z.2.1)), (r 32, .inl (cZ, 24, .inl gR.z.2.2.1)), (r 33, .inl (cJ, 24, .inr (.inl gR.z.2.2.2))), (r 34, .inl (cI, 24, .inl oR.oI)), (r 35, .inl (cZ, 4, .inl oR.oA)), (r 36, .inl (cJ, 4, .inr (.inl oR.oW))), (r 37, .inl (cI, 16, .inl oR.oT)), (r 38, .inl (cI, 16, .inl oR.oS)), (r 39, .inl (cJ, 24, .inr (.inl oR.z.1))), (r 40, .inl (cI, 24, .inl oR.z.2.1)), (r 41, .inl (cZ, 24, .inl oR.z.2.2.1)), (r 42, .inl (cJ, 24, .inr (.inl oR.z.2.2.2))), (r 46, .inl (cI, 4, .inl pN)), (r 47, .inl (cI, 4, .inl pP)), (r 48, .inl (cI, 4, .inl pS)), (r 49, .inl (cI, 16, .inl pT)), (r 50, .inl (cI, 16, .inl pQ)), (r 51, .inl (cI, 8192, .inl wrR)), (r 52, .inl (cI, 4200, .inl roR)), (o9, .inl (cJ, 1, .inr (.inl g9)))] ++ (lpl cB Ls ++ (dpl dn ++ (tplr cO e0 tb lv pr P.length pmo pst P ++ (dfl cO e0 dr DL.length mo dst DL ++ X))))) H) (hD : va_D A ([(x9, .inr (11, [.ref rv, .ref dr])), (rv, .inr (4, [.ref tp, .ref ln, .ref tb, .ref ca, .ref dp])), (ca, .inl (cI, 10, .inl cn)), (dp, .inl (cQ, 16, .inr (.inr (.inr (.inr dpf))))), (tp, .inr (0, [.ref a, .int (nI T.length)])), (a, .inl (cB, 9400, .inl f)), (ln, .inr (2, [.ref hd])), (hd, .inl (cN, 256, .inr (.inr (.inr (.inr hf))))), (m9, .inr (13, mO r th (nI T.length) leR lv (nI P.length) (nI npR) (nI DL.length) rs)), (r 1, .inl (cI, 9400, .inl tpR)), (r 3, .inl (cI, 10, .inl cn)), (r 4, .inl (cI, 8192, .inl ctR)), (r 5, .inl (cZ, 8192, .inl twR)), (r 6, .inl (cJ, 8192, .inr (.inl clR))), (r 7, .inl (cI, 24, .inl sPR)), (r 8, .inl (cZ, 24, .inl sBR)), (r 9, .inl (cI, 24576, .inl sYR)), (r 10, .inl (cI, 24, .inl sZR)), (r 11, .inl (cI, 24, .inl kdR)), (r 12, .inl (cI, 24, .inl waR)), (r 13, .inl (cI, 24, .inl suR)), (r 14, .inl (cJ, 24, .inr (.inl tiR))), (r 15, .inl (cI, 1024, .inl seR)), (r 17, .inl (cI, 188, .inl pkR)), (r 43, .inl (cJ, 80, .inr (.inl dnR))), (r 20, .inl (cI, 4, .inl gR.nu)), (r 21, .inl (cI, 4, .inl gR.pi)), (r 22, .inl (cI, 4, .inl gR.vs)), (r 23, .inl (cI, 4, .inl gR.cp)), (r 24, .inl (cI, 4, .inl gR.sc)), (r 25, .inl (cZ, 4, .inl gR.aw)), (r 26, .inl (cJ, 4, .inr (.inl gR.nw))), (r 27, .inl (cI, 4, .inl gR.wt)), (r 28, .inl (cI, 16, .inl gR.ty)), (r 29, .inl (cI, 16, .inl gR.sp)), (r 30, .inl (cJ, 24, .inr (.inl gR.z.1))), (r 31, .inl (cI, 24, .inl gR.z.2.1)), (r 32, .inl (cZ, 24, .inl gR.z.2.2.1)), (r 33, .inl (cJ, 24, .inr (.inl gR.z.2.2.2))), (r 34, .inl (cI, 24, .inl oR.oI)), (r 35, .inl (cZ, 4, .inl oR.oA)), (r 36, .inl (cJ, 4, .inr (.inl oR.oW))), (r 37, .inl (cI, 16, .inl oR.oT)), (r 38, .inl (cI, 16, .inl oR.oS)), (r 39, .inl (cJ, 24, .inr (.inl oR.z.1))), (r 40, .inl (cI, 24, .inl oR.z.2.1)), (r 41, .inl (cZ, 24, .inl oR.z.2.2.1)), (r 42, .inl (cJ, 24, .inr (.inl oR.z.2.2.2))), (r 46, .inl (cI, 4, .inl pN)), (r 47, .inl (cI, 4, .inl pP)), (r 48, .inl (cI, 4, .inl pS)), (r 49, .inl (cI, 16, .inl pT)), (r 50, .inl (cI, 16, .inl pQ)), (r 51, .inl (cI, 8192, .inl wrR)), (r 52, .inl (cI, 4200, .inl roR)), (o9, .inl (cJ, 1, .inr (.inl g9)))] ++ (lpl cB Ls ++ (dpl dn ++ (tplr cO e0 tb lv pr P.length pmo pst P ++ (dfl cO e0 dr DL.length mo dst DL ++ X)))))) (hS : va_S A s.heap H locs) (hRT : RT T f tpR) (hRH : RH k9 (cn, Ls, hf, dn, lv, pr, pmo, pst, P, []) (yT pkR ctR twR clR kdR waR suR tiR npR dnR sYR sZR sBR seR leR lv P.length gR oR sPR cn)) (hdp : dpok dpf dn) (htk : tok X cO pst P) (hdt : dtk X dst DL) (hRW : RW (32 * k9) Ls wrR) (hRD : RD DL pN pP pS pT pQ) (hRM : RM k9 T (huS (cn, Ls, hf, dn, lv, pr, pmo, pst, P, [])) cells slots) (ih : LG p l e s m below meth cd b A D cB cI cJ cZ cN cQ cO e0 x9 rv dr tp ln tb ca dp a hd m9 o9 r (i0 + 8) (k9 + 1))  (hbad : xs (i0 + 1) < 0 ∨ 2097151 < xs (i0 + 1) ∨ xs (i0 + 4) < 0 ∨ 4000 < xs (i0 + 4) ∨ 8589934592 ≤ lgv (xs (i0 + 2)) (xs (i0 + 3))) : W p l e room_1 s m #[Value.ref b] below meth cd H locs cells slots (lw_Z below #[Value.ref b] s) (F0 m 1118 ls []) := by
  obtain ⟨hx, hb, hr, hml, hown, htl, hX, hbl, hlocks, hgv⟩ := id C9
  have hG : zG s := ⟨b, htl, hgv⟩
  have hO : zO s s := ⟨State.WarmedH.refl s, Nat.le_refl _, fun _ _ => rfl⟩
  have hN := hO.zN hG
  have hts := hN.use (a := #[Value.ref b])
  have hbA : ¬ A b := fun z => absurd (hAO b z) (Nat.not_le.mpr hbl)
  have hrm := RM_le hRM (by omega)
  have hrc9 : cells + 1000 ≤ 515000 := (hrm.2.2 hk9).1
  have hrs9 : slots + 9400 ≤ 6180000 := (hrm.2.2 hk9).2
  have hT9 := hRT.2.2
  clear hrm
  obtain ⟨wf, hw1, hw2, hw3⟩ := id hRW
  have hlw := RW_lwr hRW hRH.1.2.1
  have hb9 : 32 * k9 ≤ 16352 := by omega
  have hP := hP.part (cx := [(x9, .inr (11, [.ref rv, .ref dr])), (m9, .inr (13, mO r th (nI T.length) leR lv (nI P.length) (nI npR) (nI DL.length) rs)), (r 1, .inl (cI, 9400, .inl tpR)), (r 51, .inl (cI, 8192, .inl wrR)), (r 52, .inl (cI, 4200, .inl roR)), (o9, .inl (cJ, 1, .inr (.inl g9))), (rv, .inr (4, [.ref tp, .ref ln, .ref tb, .ref ca, .ref dp])), (ca, .inl (cI, 10, .inl cn)), (dp, .inl (cQ, 16, .inr (.inr (.inr (.inr dpf))))), (tp, .inr (0, [.ref a, .int (nI T.length)])), (a, .inl (cB, 9400, .inl f)), (ln, .inr (2, [.ref hd])), (hd, .inl (cN, 256, .inr (.inr (.inr (.inr hf))))), (r 3, .inl (cI, 10, .inl cn)), (r 4, .inl (cI, 8192, .inl ctR)), (r 5, .inl (cZ, 8192, .inl twR)), (r 6, .inl (cJ, 8192, .inr (.inl clR))), (r 7, .inl (cI, 24, .inl sPR)), (r 8, .inl (cZ, 24, .inl sBR)), (r 9, .inl (cI, 24576, .inl sYR)), (r 10, .inl (cI, 24, .inl sZR)), (r 11, .inl (cI, 24, .inl kdR)), (r 12, .inl (cI, 24, .inl waR)), (r 13, .inl (cI, 24, .inl suR)), (r 14, .inl (cJ, 24, .inr (.inl tiR))), (r 15, .inl (cI, 1024, .inl seR)), (r 17, .inl (cI, 188, .inl pkR)), (r 43, .inl (cJ, 80, .inr (.inl dnR))), (r 20, .inl (cI, 4, .inl gR.nu)), (r 21, .inl (cI, 4, .inl gR.pi)), (r 22, .inl (cI, 4, .inl gR.vs)), (r 23, .inl (cI, 4, .inl gR.cp)), (r 24, .inl (cI, 4, .inl gR.sc)), (r 25, .inl (cZ, 4, .inl gR.aw)), (r 26, .inl (cJ, 4, .inr (.inl gR.nw))), (r 27, .inl (cI, 4, .inl gR.wt)), (r 28, .inl (cI, 16, .inl gR.ty)), (r 29, .inl (cI, 16, .inl gR.sp)), (r 30, .inl (cJ, 24, .inr (.inl gR.z.1))), (r 31, .inl (cI, 24, .inl gR.z.2.1)), (r 32, .inl (cZ, 24, .inl gR.z.2.2.1)), (r 33, .inl (cJ, 24, .inr (.inl gR.z.2.2.2))), (r 34, .inl (cI, 24, .inl oR.oI)), (r 35, .inl (cZ, 4, .inl oR.oA)), (r 36, .inl (cJ, 4, .inr (.inl oR.oW))), (r 37, .inl (cI, 16, .inl oR.oT)), (r 38, .inl (cI, 16, .inl oR.oS)), (r 39, .inl (cJ, 24, .inr (.inl oR.z.1))), (r 40, .inl (cI, 24, .inl oR.z.2.1)), (r 41, .inl (cZ, 24, .inl oR.z.2.2.1)), (r 42, .inl (cJ, 24, .inr (.inl oR.z.2.2.2))), (r 46, .inl (cI, 4, .inl pN)), (r 47, .inl (cI, 4, .inl pP)), (r 48, .inl (cI, 4, .inl pS)), (r 49, .inl (cI, 16, .inl pT)), (r 50, .inl (cI, 16, .inl pQ))]) [0, 8, 9, 53, 54, 55, 1, 2, 3, 4, 5, 6, 7, 10, 11, 12, 13, 14, 15, 16, 17, 18, 19, 20, 21, 22, 23, 24, 25, 26, 27, 28, 29, 30, 31, 32, 33, 34, 35, 36, 37, 38, 39, 40, 41, 42, 43, 44, 45, 46, 47, 48, 49, 50, 51, 52] rfl
  have hD := hD.part (cx := [(x9, .inr (11, [.ref rv, .ref dr])), (m9, .inr (13, mO r th (nI T.length) leR lv (nI P.length) (nI npR) (nI DL.length) rs)), (r 1, .inl (cI, 9400, .inl tpR)), (r 51, .inl (cI, 8192, .inl wrR)), (r 52, .inl (cI, 4200, .inl roR)), (o9, .inl (cJ, 1, .inr (.inl g9))), (rv, .inr (4, [.ref tp, .ref ln, .ref tb, .ref ca, .ref dp])), (ca, .inl (cI, 10, .inl cn)), (dp, .inl (cQ, 16, .inr (.inr (.inr (.inr dpf))))), (tp, .inr (0, [.ref a, .int (nI T.length)])), (a, .inl (cB, 9400, .inl f)), (ln, .inr (2, [.ref hd])), (hd, .inl (cN, 256, .inr (.inr (.inr (.inr hf))))), (r 3, .inl (cI, 10, .inl cn)), (r 4, .inl (cI, 8192, .inl ctR)), (r 5, .inl (cZ, 8192, .inl twR)), (r 6, .inl (cJ, 8192, .inr (.inl clR))), (r 7, .inl (cI, 24, .inl sPR)), (r 8, .inl (cZ, 24, .inl sBR)), (r 9, .inl (cI, 24576, .inl sYR)), (r 10, .inl (cI, 24, .inl sZR)), (r 11, .inl (cI, 24, .inl kdR)), (r 12, .inl (cI, 24, .inl waR)), (r 13, .inl (cI, 24, .inl suR)), (r 14, .inl (cJ, 24, .inr (.inl tiR))), (r 15, .inl (cI, 1024, .inl seR)), (r 17, .inl (cI, 188, .inl pkR)), (r 43, .inl (cJ, 80, .inr (.inl dnR))), (r 20, .inl (cI, 4, .inl gR.nu)), (r 21, .inl (cI, 4, .inl gR.pi)), (r 22, .inl (cI, 4, .inl gR.vs)), (r 23, .inl (cI, 4, .inl gR.cp)), (r 24, .inl (cI, 4, .inl gR.sc)), (r 25, .inl (cZ, 4, .inl gR.aw)), (r 26, .inl (cJ, 4, .inr (.inl gR.nw))), (r 27, .inl (cI, 4, .inl gR.wt)), (r 28, .inl (cI, 16, .inl gR.ty)), (r 29, .inl (cI, 16, .inl gR.sp)), (r 30, .inl (cJ, 24, .inr (.inl gR.z.1))), (r 31, .inl (cI, 24, .inl gR.z.2.1)), (r 32, .inl (cZ, 24, .inl gR.z.2.2.1)), (r 33, .inl (cJ, 24, .inr (.inl gR.z.2.2.2))), (r 34, .inl (cI, 24, .inl oR.oI)), (r 35, .inl (cZ, 4, .inl oR.oA)), (r 36, .inl (cJ, 4, .inr (.inl oR.oW))), (r 37, .inl (cI, 16, .inl oR.oT)), (r 38, .inl (cI, 16, .inl oR.oS)), (r 39, .inl (cJ, 24, .inr (.inl oR.z.1))), (r 40, .inl (cI, 24, .inl oR.z.2.1)), (r 41, .inl (cZ, 24, .inl oR.z.2.2.1)), (r 42, .inl (cJ, 24, .inr (.inl oR.z.2.2.2))), (r 46, .inl (cI, 4, .inl pN)), (r 47, .inl (cI, 4, .inl pP)), (r 48, .inl (cI, 4, .inl pS)), (r 49, .inl (cI, 16, .inl pT)), (r 50, .inl (cI, 16, .inl pQ))]) [0, 8, 9, 53, 54, 55, 1, 2, 3, 4, 5, 6, 7, 10, 11, 12, 13, 14, 15, 16, 17, 18, 19, 20, 21, 22, 23, 24, 25, 26, 27, 28, 29, 30, 31, 32, 33, 34, 35, 36, 37, 38, 39, 40, 41, 42, 43, 44, 45, 46, 47, 48, 49, 50, 51, 52] (by decide) rfl
  obtain ⟨RZ, hRZ⟩ : ∃ RZ : va_W, RZ = [(rv, .inr (4, [.ref tp, .ref ln, .ref tb, .ref ca, .ref dp])), (ca, .inl (cI, 10, .inl cn)), (dp, .inl (cQ, 16, .inr (.inr (.inr (.inr dpf))))), (tp, .inr (0, [.ref a, .int (nI T.length)])), (a, .inl (cB, 9400, .inl f)), (ln, .inr (2, [.ref hd])), (hd, .inl (cN, 256, .inr (.inr (.inr (.inr hf))))), (r 3, .inl (cI, 10, .inl cn)), (r 4, .inl (cI, 8192, .inl ctR)), (r 5, .inl (cZ, 8192, .inl twR)), (r 6, .inl (cJ, 8192, .inr (.inl clR))), (r 7, .inl (cI, 24, .inl sPR)), (r 8, .inl (cZ, 24, .inl sBR)), (r 9, .inl (cI, 24576, .inl sYR)), (r 10, .inl (cI, 24, .inl sZR)), (r 11, .inl (cI, 24, .inl kdR)), (r 12, .inl (cI, 24, .inl waR)), (r 13, .inl (cI, 24, .inl suR)), (r 14, .inl (cJ, 24, .inr (.inl tiR))), (r 15, .inl (cI, 1024, .inl seR)), (r 17, .inl (cI, 188, .inl pkR)), (r 43, .inl (cJ, 80, .inr (.inl dnR))), (r 20, .inl (cI, 4, .inl gR.nu)), (r 21, .inl (cI, 4, .inl gR.pi)), (r 22, .inl (cI, 4, .inl gR.vs)), (r 23, .inl (cI, 4, .inl gR.cp)), (r 24, .inl (cI, 4, .inl gR.sc)), (r 25, .inl (cZ, 4, .inl gR.aw)), (r 26, .inl (cJ, 4, .inr (.inl gR.nw))), (r 27, .inl (cI, 4, .inl gR.wt)), (r 28, .inl (cI, 16, .inl gR.ty)), (r 29, .inl (cI, 16, .inl gR.sp)), (r 30, .inl (cJ, 24, .inr (.inl gR.z.1))), (r 31, .inl (cI, 24, .inl gR.z.2.1)), (r 32, .inl (cZ, 24, .inl gR.z.2.2.1)), (r 33, .inl (cJ, 24, .inr (.inl gR.z.2.2.2))), (r 34, .inl (cI, 24, .inl oR.oI)), (r 35, .inl (cZ, 4, .inl oR.oA)), (r 36, .inl (cJ, 4, .inr (.inl oR.oW))), (r 37, .inl (cI, 16, .inl oR.oT)), (r 38, .inl (cI, 16, .inl oR.oS)), (r 39, .inl (cJ, 24, .inr (.inl oR.z.1))), (r 40, .inl (cI, 24, .inl oR.z.2.1)), (r 41, .inl (cZ, 24, .inl oR.z.2.2.1)), (r 42, .inl (cJ, 24, .inr (.inl oR.z.2.2.2))), (r 46, .inl (cI, 4, .inl pN)), (r 47, .inl (cI, 4, .inl pP)), (r 48, .inl (cI, 4, .inl pS)), (r 49, .inl (cI, 16, .inl pT)), (r 50, .inl (cI, 16, .inl pQ))] := ⟨_, rfl⟩
  have hP : va_P D classes ([(x9, .inr (11, [.ref rv, .ref dr])), (m9, .inr (13, mO r th (nI T.length) leR lv (nI P.length) (nI npR) (nI DL.length) rs)), (r 1, .inl (cI, 9400, .inl tpR)), (r 51, .inl (cI, 8192, .inl wrR)), (r 52, .inl (cI, 4200, .inl roR)), (o9, .inl (cJ, 1, .inr (.inl g9)))] ++ (RZ ++ (lpl cB Ls ++ (dpl dn ++ (tplr cO e0 tb lv pr P.length pmo pst P ++ (dfl cO e0 dr DL.length mo dst DL ++ X)))))) H := by rw [hRZ]; exact hP
  have hD : va_D A ([(x9, .inr (11, [.ref rv, .ref dr])), (m9, .inr (13, mO r th (nI T.length) leR lv (nI P.length) (nI npR) (nI DL.length) rs)), (r 1, .inl (cI, 9400, .inl tpR)), (r 51, .inl (cI, 8192, .inl wrR)), (r 52, .inl (cI, 4200, .inl roR)), (o9, .inl (cJ, 1, .inr (.inl g9)))] ++ (RZ ++ (lpl cB Ls ++ (dpl dn ++ (tplr cO e0 tb lv pr P.length pmo pst P ++ (dfl cO e0 dr DL.length mo dst DL ++ X)))))) := by rw [hRZ]; exact hD
  have hP := z_Pp (lg_in (X := [(x9, .inr (11, [.ref rv, .ref dr])), (m9, .inr (13, mO r th (nI T.length) leR lv (nI P.length) (nI npR) (nI DL.length) rs)), (r 1, .inl (cI, 9400, .inl tpR)), (r 51, .inl (cI, 8192, .inl wrR)), (r 52, .inl (cI, 4200, .inl roR)), (o9, .inl (cJ, 1, .inr (.inl g9)))]) (R := RZ) (A := lpl cB Ls) (B := dpl dn) (C := tplr cO e0 tb lv pr P.length pmo pst P) (E := dfl cO e0 dr DL.length mo dst DL) (Z := X)) hP
  have hD := z_Dp (lg_in (X := [(x9, .inr (11, [.ref rv, .ref dr])), (m9, .inr (13, mO r th (nI T.length) leR lv (nI P.length) (nI npR) (nI DL.length) rs)), (r 1, .inl (cI, 9400, .inl tpR)), (r 51, .inl (cI, 8192, .inl wrR)), (r 52, .inl (cI, 4200, .inl roR)), (o9, .inl (cJ, 1, .inr (.inl g9)))]) (R := RZ) (A := lpl cB Ls) (B := dpl dn) (C := tplr cO e0 tb lv pr P.length pmo pst P) (E := dfl cO e0 dr DL.length mo dst DL) (Z := X)) hD
  have hP : va_P D classes ([(x9, .inr (11, [.ref rv, .ref dr])), (m9, .inr (13, mO r th (nI T.length) leR lv (nI P.length) (nI npR) (nI DL.length) rs)), (r 1, .inl (cI, 9400, .inl tpR)), (r 51, .inl (cI, 8192, .inl wrR)), (r 52, .inl (cI, 4200, .inl roR)), (o9, .inl (cJ, 1, .inr (.inl g9)))] ++ (lpl cB Ls ++ (dpl dn ++ (tplr cO e0 tb lv pr P.length pmo pst P ++ (dfl cO e0 dr DL.length mo dst DL ++ (X ++ RZ)))))) H := hP
  have hD : va_D A ([(x9, .inr (11, [.ref rv, .ref dr])), (m9, .inr (13, mO r th (nI T.length) leR lv (nI P.length) (nI npR) (nI DL.length) rs)), (r 1, .inl (cI, 9400, .inl tpR)), (r 51, .inl (cI, 8192, .inl wrR)), (r 52, .inl (cI, 4200, .inl roR)), (o9, .inl (cJ, 1, .inr (.inl g9)))] ++ (lpl cB Ls ++ (dpl dn ++ (tplr cO e0 tb lv pr P.length pmo pst P ++ (dfl cO e0 dr DL.length mo dst DL ++ (X ++ RZ)))))) := hD
  refine lv_aload_n hx hb d_Law_law_1118 rfl (lv_at hl 3 rfl) ?_
  refine lv_aload_n hx hb d_Law_law_1119 rfl (lv_at hl 4 rfl) ?_
  refine lv_iload hx hb d_Law_law_1120 (lv_at hl 0 rfl) ?_
  refine lv_iconst (v := 1) hx hb d_Law_law_1122 (by decide) ?_
  refine lv_iadd hx hb d_Law_law_1123 ?_
  refine z_topi (w := nI (i0 + 1)) (nI_add _ 1) ?_
  refine va_sld hx hb hX hbl hbA hS (vp_in_nI (n := i0 + 1) (N := L) (by omega) (by omega)) d_Law_law_1124 ?_
  refine z_topi (w := xs (i0 + 1)) (by rw [nI_clamp (by omega)]) ?_
  refine lv_aload_n hx hb d_Law_law_1125 rfl (lv_at hl 4 rfl) ?_
  refine lv_iload hx hb d_Law_law_1126 (lv_at hl 0 rfl) ?_
  refine lv_iconst (v := 2) hx hb d_Law_law_1128 (by decide) ?_
  refine lv_iadd hx hb d_Law_law_1129 ?_
  refine z_topi (w := nI (i0 + 2)) (nI_add _ 2) ?_
  refine va_sld hx hb hX hbl hbA hS (vp_in_nI (n := i0 + 2) (N := L) (by omega) (by omega)) d_Law_law_1130 ?_
  refine z_topi (w := xs (i0 + 2)) (by rw [nI_clamp (by omega)]) ?_
  refine lv_i2l (v := (xs (i0 + 2)).toInt64) hx hb d_Law_law_1131 rfl ?_
  refine lv_bipush (v := 32) hx hb d_Law_law_1132 (by decide) ?_
  refine lv_lshl (v := ((xs (i0 + 2)).toInt64) <<< ((32 : Int32).toInt64 &&& 63)) hx hb d_Law_law_1134 rfl ?_
  refine lv_aload_n hx hb d_Law_law_1135 rfl (lv_at hl 4 rfl) ?_
  refine lv_iload hx hb d_Law_law_1136 (lv_at hl 0 rfl) ?_
  refine lv_iconst (v := 3) hx hb d_Law_law_1138 (by decide) ?_
  refine lv_iadd hx hb d_Law_law_1139 ?_
  refine z_topi (w := nI (i0 + 3)) (nI_add _ 3) ?_
  refine va_sld hx hb hX hbl hbA hS (vp_in_nI (n := i0 + 3) (N := L) (by omega) (by omega)) d_Law_law_1140 ?_
  refine z_topi (w := xs (i0 + 3)) (by rw [nI_clamp (by omega)]) ?_
  refine lv_i2l (v := (xs (i0 + 3)).toInt64) hx hb d_Law_law_1141 rfl ?_
  refine lv_ldc2 hx hb hown (hts _ wd_1483) d_Law_law_1142 ?_
  refine lv_land hx hb d_Law_law_1145 ?_
  refine lv_lor hx hb d_Law_law_1146 ?_
  refine z_topl (w := lgv (xs (i0 + 2)) (xs (i0 + 3))) rfl ?_
  refine lv_aload_n hx hb d_Law_law_1147 rfl (lv_at hl 4 rfl) ?_
  refine lv_iload hx hb d_Law_law_1148 (lv_at hl 0 rfl) ?_
  refine lv_iconst (v := 4) hx hb d_Law_law_1150 (by decide) ?_
  refine lv_iadd hx hb d_Law_law_1151 ?_
  refine z_topi (w := nI (i0 + 4)) (nI_add _ 4) ?_
  refine va_sld hx hb hX hbl hbA hS (vp_in_nI (n := i0 + 4) (N := L) (by omega) (by omega)) d_Law_law_1152 ?_
  refine z_topi (w := xs (i0 + 4)) (by rw [nI_clamp (by omega)]) ?_
  refine lv_aload_n hx hb d_Law_law_1153 rfl (lv_at hl 4 rfl) ?_
  refine lv_iload hx hb d_Law_law_1154 (lv_at hl 0 rfl) ?_
  refine lv_iconst (v := 5) hx hb d_Law_law_1156 (by decide) ?_
  refine lv_iadd hx hb d_Law_law_1157 ?_
  refine z_topi (w := nI (i0 + 5)) (nI_add _ 5) ?_
  refine va_sld hx hb hX hbl hbA hS (vp_in_nI (n := i0 + 5) (N := L) (by omega) (by omega)) d_Law_law_1158 ?_
  refine z_topi (w := xs (i0 + 5)) (by rw [nI_clamp (by omega)]) ?_
  refine lv_aload_n hx hb d_Law_law_1159 rfl (lv_at hl 4 rfl) ?_
  refine lv_iload hx hb d_Law_law_1160 (lv_at hl 0 rfl) ?_
  refine lv_bipush (v := 6) hx hb d_Law_law_1162 (by decide) ?_
  refine lv_iadd hx hb d_Law_law_1164 ?_
  refine z_topi (w := nI (i0 + 6)) (nI_add _ 6) ?_
  refine va_sld hx hb hX hbl hbA hS (vp_in_nI (n := i0 + 6) (N := L) (by omega) (by omega)) d_Law_law_1165 ?_
  refine z_topi (w := xs (i0 + 6)) (by rw [nI_clamp (by omega)]) ?_
  suffices key1166 : W p l e room_1 s m #[Value.ref b] below meth cd H locs (cells) (slots) (lw_Z below #[Value.ref b] s) (F0 m 1174 ls [.int (if xs (i0 + 6) = 0 then (0 : Int32) else 1), .int (xs (i0 + 5)), .int (xs (i0 + 4)), .long (lgv (xs (i0 + 2)) (xs (i0 + 3))), .int (xs (i0 + 1)), .ref x9]) by
    refine lv_if_eq (tgt := 1173) hx hb d_Law_law_1166 rfl (fun h1166 => ?_) (fun h1166 => ?_)
    · refine lv_iconst (v := 0) hx hb d_Law_law_1173 (by decide) ?_
      refine z_topi (w := (if xs (i0 + 6) = 0 then (0 : Int32) else 1)) ((if_pos h1166).symm) ?_
      exact key1166
    · refine lv_iconst (v := 1) hx hb d_Law_law_1169 (by decide) ?_
      refine lv_goto (tgt := 1174) hx hb d_Law_law_1170 rfl ?_
      refine z_topi (w := (if xs (i0 + 6) = 0 then (0 : Int32) else 1)) ((if_neg h1166).symm) ?_
      exact key1166
  refine lv_aload_n hx hb d_Law_law_1174 rfl (lv_at hl 1 rfl) ?_
  have hPc := hP.sub (ws' := [(x9, .inr (11, [.ref rv, .ref dr])), (o9, .inl (cJ, 1, .inr (.inl g9)))]) [0, 5] rfl
  have hKc := hK.sub (tys' := [(cJ, .long)]) [2] rfl
  have hDc := hD.sub (ws' := [(x9, .inr (11, [.ref rv, .ref dr])), (o9, .inl (cJ, 1, .inr (.inl g9)))]) [0, 5] (by decide) rfl
  have hFc := va_free (wc := [(x9, .inr (11, [.ref rv, .ref dr])), (o9, .inl (cJ, 1, .inr (.inl g9)))]) hD hS hA [0, 5] rfl
  refine va_calli (z_runSW (As := [.ref x9, .int (xs (i0 + 1)), .long (lgv (xs (i0 + 2)) (xs (i0 + 3))), .int (xs (i0 + 4)), .int (xs (i0 + 5)), .int (if xs (i0 + 6) = 0 then (0 : Int32) else 1), .ref o9]) (rest := []) ⟨hx, hb, hml, hown, hts⟩ (c_Law_writePiece_bad l D hfl s hG H.size x9 (xs (i0 + 1)) (lgv (xs (i0 + 2)) (xs (i0 + 3))) (xs (i0 + 4)) (xs (i0 + 5)) (if xs (i0 + 6) = 0 then (0 : Int32) else 1) cJ o9 g9 rv dr hbad) (z_cSW hN wd_1032 wd_58 wd_1030 hd_Law_writePiece rfl rfl ⟨Nat.le_of_ble_eq_true rfl, Nat.le_of_ble_eq_true rfl⟩ wd_1031) (z_preSo hPc hKc hN hDc hO hS hAO) rfl rfl hl.1 rfl (lv_room (Nat.le_of_ble_eq_true rfl)) d_Law_law_1175 ⟨by show cells + 1 ≤ 601024; omega, by show slots + 6 ≤ 7293033; omega⟩) hS (fun q _ h => hFc q h) hFc (fun r1175 u1175 t H locs ht hvm e1175 hB hz1 hk1 hS => ?_)
  obtain ⟨hP1, hK1, hD1⟩ := hB
  rw [ht] at hP1
  obtain ⟨hP, hD⟩ := va_joinQ (cx := [(x9, .inr (11, [.ref rv, .ref dr])), (o9, .inl (cJ, 1, .inr (.inl g9)))]) (wr := [(m9, .inr (13, mO r th (nI T.length) leR lv (nI P.length) (nI npR) (nI DL.length) rs)), (r 1, .inl (cI, 9400, .inl tpR)), (r 51, .inl (cI, 8192, .inl wrR)), (r 52, .inl (cI, 4200, .inl roR))]) (w1 := [(x9, .inr (11, [.ref rv, .ref dr])), (o9, .inl (cJ, 1, .inr (.inl g9)))]) hP hD [0, 5] [1, 2, 3, 4] rfl rfl (by decide) (by decide) hk1 hFc hP1 hD1
  clear hk1 hP1 hD1 hFc hPc hDc hz1
  have hP : va_P D classes ([(m9, .inr (13, mO r th (nI T.length) leR lv (nI P.length) (nI npR) (nI DL.length) rs)), (r 1, .inl (cI, 9400, .inl tpR)), (r 51, .inl (cI, 8192, .inl wrR)), (r 52, .inl (cI, 4200, .inl roR)), (x9, .inr (11, [.ref rv, .ref dr])), (o9, .inl (cJ, 1, .inr (.inl g9)))] ++ (lpl cB Ls ++ (dpl dn ++ (tplr cO e0 tb lv pr P.length pmo pst P ++ (dfl cO e0 dr DL.length mo dst DL ++ (X ++ RZ)))))) H := hP
  have hD : va_D A ([(m9, .inr (13, mO r th (nI T.length) leR lv (nI P.length) (nI npR) (nI DL.length) rs)), (r 1, .inl (cI, 9400, .inl tpR)), (r 51, .inl (cI, 8192, .inl wrR)), (r 52, .inl (cI, 4200, .inl roR)), (x9, .inr (11, [.ref rv, .ref dr])), (o9, .inl (cJ, 1, .inr (.inl g9)))] ++ (lpl cB Ls ++ (dpl dn ++ (tplr cO e0 tb lv pr P.length pmo pst P ++ (dfl cO e0 dr DL.length mo dst DL ++ (X ++ RZ)))))) := hD
  refine z_topi (w := 1) e1175 ?_
  refine lv_istore (lv' := [(5, .int 1), (4, .int (nI i0)), (3, .ref o9), (2, .ref m9), (1, .ref x9), (0, .ref b)]) hx hb d_Law_law_1178 hl (by decide) rfl (fun ls hl => ?_)
  refine lv_aload_n hx hb d_Law_law_1180 rfl (lv_at hl 3 rfl) ?_
  refine lv_aload_n hx hb d_Law_law_1181 rfl (lv_at hl 5 rfl) ?_
  refine lv_iload hx hb d_Law_law_1182 (lv_at hl 1 rfl) ?_
  refine lv_iconst (v := 1) hx hb d_Law_law_1184 (by decide) ?_
  refine lv_iadd hx hb d_Law_law_1185 ?_
  refine z_topi (w := nI (i0 + 1)) (nI_add _ 1) ?_
  refine va_sld hx hb hX hbl hbA hS (vp_in_nI (n := i0 + 1) (N := L) (by omega) (by omega)) d_Law_law_1186 ?_
  refine z_topi (w := xs (i0 + 1)) (by rw [nI_clamp (by omega)]) ?_
  refine lv_aload_n hx hb d_Law_law_1187 rfl (lv_at hl 5 rfl) ?_
  refine lv_iload hx hb d_Law_law_1188 (lv_at hl 1 rfl) ?_
  refine lv_iconst (v := 2) hx hb d_Law_law_1190 (by decide) ?_
  refine lv_iadd hx hb d_Law_law_1191 ?_
  refine z_topi (w := nI (i0 + 2)) (nI_add _ 2) ?_
  refine va_sld hx hb hX hbl hbA hS (vp_in_nI (n := i0 + 2) (N := L) (by omega) (by omega)) d_Law_law_1192 ?_
  refine z_topi (w := xs (i0 + 2)) (by rw [nI_clamp (by omega)]) ?_
  refine lv_i2l (v := (xs (i0 + 2)).toInt64) hx hb d_Law_law_1193 rfl ?_
  refine lv_bipush (v := 32) hx hb d_Law_law_1194 (by decide) ?_
  refine lv_lshl (v := ((xs (i0 + 2)).toInt64) <<< ((32 : Int32).toInt64 &&& 63)) hx hb d_Law_law_1196 rfl ?_
  refine lv_aload_n hx hb d_Law_law_1197 rfl (lv_at hl 5 rfl) ?_
  refine lv_iload hx hb d_Law_law_1198 (lv_at hl 1 rfl) ?_
  refine lv_iconst (v := 3) hx hb d_Law_law_1200 (by decide) ?_
  refine lv_iadd hx hb d_Law_law_1201 ?_
  refine z_topi (w := nI (i0 + 3)) (nI_add _ 3) ?_
  refine va_sld hx hb hX hbl hbA hS (vp_in_nI (n := i0 + 3) (N := L) (by omega) (by omega)) d_Law_law_1202 ?_
  refine z_topi (w := xs (i0 + 3)) (by rw [nI_clamp (by omega)]) ?_
  refine lv_i2l (v := (xs (i0 + 3)).toInt64) hx hb d_Law_law_1203 rfl ?_
  refine lv_ldc2 hx hb hown (hts _ wd_1483) d_Law_law_1204 ?_
  refine lv_land hx hb d_Law_law_1207 ?_
  refine lv_lor hx hb d_Law_law_1208 ?_
  refine z_topl (w := lgv (xs (i0 + 2)) (xs (i0 + 3))) rfl ?_
  refine lv_aload_n hx hb d_Law_law_1209 rfl (lv_at hl 5 rfl) ?_
  refine lv_iload hx hb d_Law_law_1210 (lv_at hl 1 rfl) ?_
  refine lv_iconst (v := 4) hx hb d_Law_law_1212 (by decide) ?_
  refine lv_iadd hx hb d_Law_law_1213 ?_
  refine z_topi (w := nI (i0 + 4)) (nI_add _ 4) ?_
  refine va_sld hx hb hX hbl hbA hS (vp_in_nI (n := i0 + 4) (N := L) (by omega) (by omega)) d_Law_law_1214 ?_
  refine z_topi (w := xs (i0 + 4)) (by rw [nI_clamp (by omega)]) ?_
  refine lv_aload_n hx hb d_Law_law_1215 rfl (lv_at hl 5 rfl) ?_
  refine lv_iload hx hb d_Law_law_1216 (lv_at hl 1 rfl) ?_
  refine lv_iconst (v := 5) hx hb d_Law_law_1218 (by decide) ?_
  refine lv_iadd hx hb d_Law_law_1219 ?_
  refine z_topi (w := nI (i0 + 5)) (nI_add _ 5) ?_
  refine va_sld hx hb hX hbl hbA hS (vp_in_nI (n := i0 + 5) (N := L) (by omega) (by omega)) d_Law_law_1220 ?_
  refine z_topi (w := xs (i0 + 5)) (by rw [nI_clamp (by omega)]) ?_
  refine lv_aload_n hx hb d_Law_law_1221 rfl (lv_at hl 5 rfl) ?_
  refine lv_iload hx hb d_Law_law_1222 (lv_at hl 1 rfl) ?_
  refine lv_bipush (v := 6) hx hb d_Law_law_1224 (by decide) ?_
  refine lv_iadd hx hb d_Law_law_1226 ?_
  refine z_topi (w := nI (i0 + 6)) (nI_add _ 6) ?_
  refine va_sld hx hb hX hbl hbA hS (vp_in_nI (n := i0 + 6) (N := L) (by omega) (by omega)) d_Law_law_1227 ?_
  refine z_topi (w := xs (i0 + 6)) (by rw [nI_clamp (by omega)]) ?_
  suffices key1228 : W p l e room_1 s m #[Value.ref b] below meth cd H locs (cells + 1) (slots + 6) (lw_Z below #[Value.ref b] s) (F0 m 1236 ls [.int (if xs (i0 + 6) = 0 then (0 : Int32) else 1), .int (xs (i0 + 5)), .int (xs (i0 + 4)), .long (lgv (xs (i0 + 2)) (xs (i0 + 3))), .int (xs (i0 + 1)), .ref m9]) by
    refine lv_if_eq (tgt := 1235) hx hb d_Law_law_1228 rfl (fun h1228 => ?_) (fun h1228 => ?_)
    · refine lv_iconst (v := 0) hx hb d_Law_law_1235 (by decide) ?_
      refine z_topi (w := (if xs (i0 + 6) = 0 then (0 : Int32) else 1)) ((if_pos h1228).symm) ?_
      exact key1228
    · refine lv_iconst (v := 1) hx hb d_Law_law_1231 (by decide) ?_
      refine lv_goto (tgt := 1236) hx hb d_Law_law_1232 rfl ?_
      refine z_topi (w := (if xs (i0 + 6) = 0 then (0 : Int32) else 1)) ((if_neg h1228).symm) ?_
      exact key1228
  have hPc := hP.sub (ws' := [(m9, .inr (13, mO r th (nI T.length) leR lv (nI P.length) (nI npR) (nI DL.length) rs)), (r 1, .inl (cI, 9400, .inl tpR)), (r 51, .inl (cI, 8192, .inl wrR)), (r 52, .inl (cI, 4200, .inl roR))]) [0, 1, 2, 3] rfl
  have hKc := hK.sub (tys' := [(cI, .int)]) [1] rfl
  have hDc := hD.sub (ws' := [(m9, .inr (13, mO r th (nI T.length) leR lv (nI P.length) (nI npR) (nI DL.length) rs)), (r 1, .inl (cI, 9400, .inl tpR)), (r 51, .inl (cI, 8192, .inl wrR)), (r 52, .inl (cI, 4200, .inl roR))]) [0, 1, 2, 3] (by decide) rfl
  have hFc := va_free (wc := [(m9, .inr (13, mO r th (nI T.length) leR lv (nI P.length) (nI npR) (nI DL.length) rs)), (r 1, .inl (cI, 9400, .inl tpR)), (r 51, .inl (cI, 8192, .inl wrR)), (r 52, .inl (cI, 4200, .inl roR))]) hD hS hA [0, 1, 2, 3] rfl
  refine va_calli (va_runV (As := [.int (xs (i0 + 1)), .long (lgv (xs (i0 + 2)) (xs (i0 + 3))), .int (xs (i0 + 4)), .int (xs (i0 + 5)), .int (if xs (i0 + 6) = 0 then (0 : Int32) else 1)]) (rest := []) ⟨hx, hb, hml, hown, hts⟩ (c_Mo_writePiece l D H.size cI m9 r th leR lv (nI P.length) (nI npR) (nI DL.length) rs T tpR wf wrR roR (xs (i0 + 1)) (lgv (xs (i0 + 2)) (xs (i0 + 3))) (xs (i0 + 4)) (xs (i0 + 5)) (if xs (i0 + 6) = 0 then (0 : Int32) else 1) hRT.2.1 hT9 hw3 (fun x hx => by have := hw2 x; omega)) (z_cV hN wd_1466 wd_67 wd_1463 hd_Mo_writePiece rfl rfl ⟨Nat.le_of_ble_eq_true rfl, Nat.le_of_ble_eq_true rfl⟩ wd_1464 wd_1465) (z_preVm (va_recv (ci := 13) (q0 := 0) hK hP rfl rfl) hPc hKc hN hDc) rfl rfl hl.1 rfl (lv_room (Nat.le_of_ble_eq_true rfl)) d_Law_law_1236 ⟨by show cells + 1 + 0 ≤ 601024; omega, by show slots + 6 + 0 ≤ 7293033; omega⟩) hS (fun q _ h => hFc q h) hFc (fun r1236 u1236 t H locs ht hvm e1236 hB hz1 hk1 hS => ?_)
  obtain ⟨hP1, hK1, hD1⟩ := hB
  rw [ht] at hP1
  obtain ⟨hP, hD⟩ := va_joinQ (cx := [(m9, .inr (13, mO r th (nI T.length) leR lv (nI P.length) (nI npR) (nI DL.length) rs)), (r 1, .inl (cI, 9400, .inl tpR)), (r 51, .inl (cI, 8192, .inl wrR)), (r 52, .inl (cI, 4200, .inl roR))]) (wr := [(x9, .inr (11, [.ref rv, .ref dr])), (o9, .inl (cJ, 1, .inr (.inl g9)))]) (w1 := [(m9, .inr (13, mO r u1236.1 u1236.2.1 leR lv (nI P.length) (nI npR) (nI DL.length) u1236.2.2.1)), (r 1, .inl (cI, 9400, .inl u1236.2.2.2.1)), (r 51, .inl (cI, 8192, .inl u1236.2.2.2.2.1)), (r 52, .inl (cI, 4200, .inl u1236.2.2.2.2.2))]) hP hD [0, 1, 2, 3] [4, 5] rfl rfl (by decide) (by decide) hk1 hFc hP1 hD1
  clear hk1 hP1 hD1 hFc hPc hDc hz1
  have hP : va_P D classes ([(x9, .inr (11, [.ref rv, .ref dr])), (o9, .inl (cJ, 1, .inr (.inl g9))), (m9, .inr (13, mO r u1236.1 u1236.2.1 leR lv (nI P.length) (nI npR) (nI DL.length) u1236.2.2.1)), (r 1, .inl (cI, 9400, .inl u1236.2.2.2.1)), (r 51, .inl (cI, 8192, .inl u1236.2.2.2.2.1)), (r 52, .inl (cI, 4200, .inl u1236.2.2.2.2.2))] ++ (lpl cB Ls ++ (dpl dn ++ (tplr cO e0 tb lv pr P.length pmo pst P ++ (dfl cO e0 dr DL.length mo dst DL ++ (X ++ RZ)))))) H := hP
  have hD : va_D A ([(x9, .inr (11, [.ref rv, .ref dr])), (o9, .inl (cJ, 1, .inr (.inl g9))), (m9, .inr (13, mO r u1236.1 u1236.2.1 leR lv (nI P.length) (nI npR) (nI DL.length) u1236.2.2.1)), (r 1, .inl (cI, 9400, .inl u1236.2.2.2.1)), (r 51, .inl (cI, 8192, .inl u1236.2.2.2.2.1)), (r 52, .inl (cI, 4200, .inl u1236.2.2.2.2.2))] ++ (lpl cB Ls ++ (dpl dn ++ (tplr cO e0 tb lv pr P.length pmo pst P ++ (dfl cO e0 dr DL.length mo dst DL ++ (X ++ RZ)))))) := hD
  refine lv_istore (lv' := [(6, .int r1236), (5, .int 1), (4, .int (nI i0)), (3, .ref o9), (2, .ref m9), (1, .ref x9), (0, .ref b)]) hx hb d_Law_law_1239 hl (by decide) rfl (fun ls hl => ?_)
  refine lv_aload_n hx hb d_Law_law_1241 rfl (lv_at hl 4 rfl) ?_
  have hPc := hP.sub (ws' := [(m9, .inr (13, mO r u1236.1 u1236.2.1 leR lv (nI P.length) (nI npR) (nI DL.length) u1236.2.2.1))]) [2] rfl
  have hKc := hK.sub (tys' := []) [] rfl
  refine z_ci (va_runV (As := []) (rest := []) ⟨hx, hb, hml, hown, hts⟩ (c_Mo_thrown l D cI m9 r u1236.1 u1236.2.1 leR lv (nI P.length) (nI npR) (nI DL.length) u1236.2.2.1 ) (z_cV hN wd_1256 wd_67 wd_1253 hd_Mo_thrown rfl rfl ⟨Nat.le_of_ble_eq_true rfl, Nat.le_of_ble_eq_true rfl⟩ wd_1254 wd_1255) (z_preV (va_recv (ci := 13) (q0 := 2) hK hP rfl rfl) hPc hKc hN) rfl rfl hl.1 rfl (lv_room (Nat.le_of_ble_eq_true rfl)) d_Law_law_1242 ⟨by show cells + 1 + 0 ≤ 601024; omega, by show slots + 6 + 0 ≤ 7293033; omega⟩) (fun r1242 e1242 => ?_)
  refine z_topi (w := u1236.1) e1242 ?_
  refine lv_iload hx hb d_Law_law_1245 (lv_at hl 1 rfl) ?_
  refine lv_icmp_eq (tgt := 1252) hx hb d_Law_law_1247 rfl (fun h1247 => ?_) (fun h9 => absurd (congrArg (fun z => z.1) (wp_no hbad e1236)) h9)
  refine lv_iload hx hb d_Law_law_1252 (lv_at hl 1 rfl) ?_
  refine lv_if_ne (tgt := 1269) hx hb d_Law_law_1254 rfl (fun h1254 => ?_) (fun h9 => absurd h9 (by decide))
  refine lv_goto (tgt := 1444) hx hb d_Law_law_1269 rfl ?_
  have hu9 := wp_no hbad e1236
  have hsi8 : u1236.2.1 = nI T.length := by rw [hu9]
  have hsi9 : u1236.2.1 = nI T.length := hsi8
  rw [hsi9] at hP hD
  have hP : va_P D classes ([(x9, .inr (11, [.ref rv, .ref dr])), (o9, .inl (cJ, 1, .inr (.inl g9))), (m9, .inr (13, mO r u1236.1 (nI T.length) leR lv (nI P.length) (nI npR) (nI DL.length) u1236.2.2.1)), (r 1, .inl (cI, 9400, .inl u1236.2.2.2.1)), (r 51, .inl (cI, 8192, .inl u1236.2.2.2.2.1)), (r 52, .inl (cI, 4200, .inl u1236.2.2.2.2.2))] ++ (lpl cB Ls ++ (dpl dn ++ (tplr cO e0 tb lv pr P.length pmo pst P ++ (dfl cO e0 dr DL.length mo dst DL ++ (X ++ RZ)))))) H := hP
  have hD : va_D A ([(x9, .inr (11, [.ref rv, .ref dr])), (o9, .inl (cJ, 1, .inr (.inl g9))), (m9, .inr (13, mO r u1236.1 (nI T.length) leR lv (nI P.length) (nI npR) (nI DL.length) u1236.2.2.1)), (r 1, .inl (cI, 9400, .inl u1236.2.2.2.1)), (r 51, .inl (cI, 8192, .inl u1236.2.2.2.2.1)), (r 52, .inl (cI, 4200, .inl u1236.2.2.2.2.2))] ++ (lpl cB Ls ++ (dpl dn ++ (tplr cO e0 tb lv pr P.length pmo pst P ++ (dfl cO e0 dr DL.length mo dst DL ++ (X ++ RZ)))))) := hD
  have hP := hP.part (cx := [(x9, .inr (11, [.ref rv, .ref dr])), (m9, .inr (13, mO r u1236.1 (nI T.length) leR lv (nI P.length) (nI npR) (nI DL.length) u1236.2.2.1)), (r 1, .inl (cI, 9400, .inl u1236.2.2.2.1)), (r 51, .inl (cI, 8192, .inl u1236.2.2.2.2.1)), (r 52, .inl (cI, 4200, .inl u1236.2.2.2.2.2)), (o9, .inl (cJ, 1, .inr (.inl g9)))]) [0, 2, 3, 4, 5, 1] rfl
  have hD := hD.part (cx := [(x9, .inr (11, [.ref rv, .ref dr])), (m9, .inr (13, mO r u1236.1 (nI T.length) leR lv (nI P.length) (nI npR) (nI DL.length) u1236.2.2.1)), (r 1, .inl (cI, 9400, .inl u1236.2.2.2.1)), (r 51, .inl (cI, 8192, .inl u1236.2.2.2.2.1)), (r 52, .inl (cI, 4200, .inl u1236.2.2.2.2.2)), (o9, .inl (cJ, 1, .inr (.inl g9)))]) [0, 2, 3, 4, 5, 1] (by decide) rfl
  have hP := z_Pp (lg_in (X := [(x9, .inr (11, [.ref rv, .ref dr])), (m9, .inr (13, mO r u1236.1 (nI T.length) leR lv (nI P.length) (nI npR) (nI DL.length) u1236.2.2.1)), (r 1, .inl (cI, 9400, .inl u1236.2.2.2.1)), (r 51, .inl (cI, 8192, .inl u1236.2.2.2.2.1)), (r 52, .inl (cI, 4200, .inl u1236.2.2.2.2.2)), (o9, .inl (cJ, 1, .inr (.inl g9)))]) (R := RZ) (A := lpl cB Ls) (B := dpl dn) (C := tplr cO e0 tb lv pr P.length pmo pst P) (E := dfl cO e0 dr DL.length mo dst DL) (Z := X)).symm hP
  have hD := z_Dp (lg_in (X := [(x9, .inr (11, [.ref rv, .ref dr])), (m9, .inr (13, mO r u1236.1 (nI T.length) leR lv (nI P.length) (nI npR) (nI DL.length) u1236.2.2.1)), (r 1, .inl (cI, 9400, .inl u1236.2.2.2.1)), (r 51, .inl (cI, 8192, .inl u1236.2.2.2.2.1)), (r 52, .inl (cI, 4200, .inl u1236.2.2.2.2.2)), (o9, .inl (cJ, 1, .inr (.inl g9)))]) (R := RZ) (A := lpl cB Ls) (B := dpl dn) (C := tplr cO e0 tb lv pr P.length pmo pst P) (E := dfl cO e0 dr DL.length mo dst DL) (Z := X)).symm hD
  have hP : va_P D classes ([(x9, .inr (11, [.ref rv, .ref dr])), (m9, .inr (13, mO r u1236.1 (nI T.length) leR lv (nI P.length) (nI npR) (nI DL.length) u1236.2.2.1)), (r 1, .inl (cI, 9400, .inl u1236.2.2.2.1)), (r 51, .inl (cI, 8192, .inl u1236.2.2.2.2.1)), (r 52, .inl (cI, 4200, .inl u1236.2.2.2.2.2)), (o9, .inl (cJ, 1, .inr (.inl g9)))] ++ (RZ ++ (lpl cB Ls ++ (dpl dn ++ (tplr cO e0 tb lv pr P.length pmo pst P ++ (dfl cO e0 dr DL.length mo dst DL ++ X)))))) H := hP
  have hD : va_D A ([(x9, .inr (11, [.ref rv, .ref dr])), (m9, .inr (13, mO r u1236.1 (nI T.length) leR lv (nI P.length) (nI npR) (nI DL.length) u1236.2.2.1)), (r 1, .inl (cI, 9400, .inl u1236.2.2.2.1)), (r 51, .inl (cI, 8192, .inl u1236.2.2.2.2.1)), (r 52, .inl (cI, 4200, .inl u1236.2.2.2.2.2)), (o9, .inl (cJ, 1, .inr (.inl g9)))] ++ (RZ ++ (lpl cB Ls ++ (dpl dn ++ (tplr cO e0 tb lv pr P.length pmo pst P ++ (dfl cO e0 dr DL.length mo dst DL ++ X)))))) := hD
  rw [hRZ] at hP hD
  have hP : va_P D classes ([(x9, .inr (11, [.ref rv, .ref dr])), (m9, .inr (13, mO r u1236.1 (nI T.length) leR lv (nI P.length) (nI npR) (nI DL.length) u1236.2.2.1)), (r 1, .inl (cI, 9400, .inl u1236.2.2.2.1)), (r 51, .inl (cI, 8192, .inl u1236.2.2.2.2.1)), (r 52, .inl (cI, 4200, .inl u1236.2.2.2.2.2)), (o9, .inl (cJ, 1, .inr (.inl g9))), (rv, .inr (4, [.ref tp, .ref ln, .ref tb, .ref ca, .ref dp])), (ca, .inl (cI, 10, .inl cn)), (dp, .inl (cQ, 16, .inr (.inr (.inr (.inr dpf))))), (tp, .inr (0, [.ref a, .int (nI T.length)])), (a, .inl (cB, 9400, .inl f)), (ln, .inr (2, [.ref hd])), (hd, .inl (cN, 256, .inr (.inr (.inr (.inr hf))))), (r 3, .inl (cI, 10, .inl cn)), (r 4, .inl (cI, 8192, .inl ctR)), (r 5, .inl (cZ, 8192, .inl twR)), (r 6, .inl (cJ, 8192, .inr (.inl clR))), (r 7, .inl (cI, 24, .inl sPR)), (r 8, .inl (cZ, 24, .inl sBR)), (r 9, .inl (cI, 24576, .inl sYR)), (r 10, .inl (cI, 24, .inl sZR)), (r 11, .inl (cI, 24, .inl kdR)), (r 12, .inl (cI, 24, .inl waR)), (r 13, .inl (cI, 24, .inl suR)), (r 14, .inl (cJ, 24, .inr (.inl tiR))), (r 15, .inl (cI, 1024, .inl seR)), (r 17, .inl (cI, 188, .inl pkR)), (r 43, .inl (cJ, 80, .inr (.inl dnR))), (r 20, .inl (cI, 4, .inl gR.nu)), (r 21, .inl (cI, 4, .inl gR.pi)), (r 22, .inl (cI, 4, .inl gR.vs)), (r 23, .inl (cI, 4, .inl gR.cp)), (r 24, .inl (cI, 4, .inl gR.sc)), (r 25, .inl (cZ, 4, .inl gR.aw)), (r 26, .inl (cJ, 4, .inr (.inl gR.nw))), (r 27, .inl (cI, 4, .inl gR.wt)), (r 28, .inl (cI, 16, .inl gR.ty)), (r 29, .inl (cI, 16, .inl gR.sp)), (r 30, .inl (cJ, 24, .inr (.inl gR.z.1))), (r 31, .inl (cI, 24, .inl gR.z.2.1)), (r 32, .inl (cZ, 24, .inl gR.z.2.2.1)), (r 33, .inl (cJ, 24, .inr (.inl gR.z.2.2.2))), (r 34, .inl (cI, 24, .inl oR.oI)), (r 35, .inl (cZ, 4, .inl oR.oA)), (r 36, .inl (cJ, 4, .inr (.inl oR.oW))), (r 37, .inl (cI, 16, .inl oR.oT)), (r 38, .inl (cI, 16, .inl oR.oS)), (r 39, .inl (cJ, 24, .inr (.inl oR.z.1))), (r 40, .inl (cI, 24, .inl oR.z.2.1)), (r 41, .inl (cZ, 24, .inl oR.z.2.2.1)), (r 42, .inl (cJ, 24, .inr (.inl oR.z.2.2.2))), (r 46, .inl (cI, 4, .inl pN)), (r 47, .inl (cI, 4, .inl pP)), (r 48, .inl (cI, 4, .inl pS)), (r 49, .inl (cI, 16, .inl pT)), (r 50, .inl (cI, 16, .inl pQ))] ++ (lpl cB Ls ++ (dpl dn ++ (tplr cO e0 tb lv pr P.length pmo pst P ++ (dfl cO e0 dr DL.length mo dst DL ++ X))))) H := hP
  have hD : va_D A ([(x9, .inr (11, [.ref rv, .ref dr])), (m9, .inr (13, mO r u1236.1 (nI T.length) leR lv (nI P.length) (nI npR) (nI DL.length) u1236.2.2.1)), (r 1, .inl (cI, 9400, .inl u1236.2.2.2.1)), (r 51, .inl (cI, 8192, .inl u1236.2.2.2.2.1)), (r 52, .inl (cI, 4200, .inl u1236.2.2.2.2.2)), (o9, .inl (cJ, 1, .inr (.inl g9))), (rv, .inr (4, [.ref tp, .ref ln, .ref tb, .ref ca, .ref dp])), (ca, .inl (cI, 10, .inl cn)), (dp, .inl (cQ, 16, .inr (.inr (.inr (.inr dpf))))), (tp, .inr (0, [.ref a, .int (nI T.length)])), (a, .inl (cB, 9400, .inl f)), (ln, .inr (2, [.ref hd])), (hd, .inl (cN, 256, .inr (.inr (.inr (.inr hf))))), (r 3, .inl (cI, 10, .inl cn)), (r 4, .inl (cI, 8192, .inl ctR)), (r 5, .inl (cZ, 8192, .inl twR)), (r 6, .inl (cJ, 8192, .inr (.inl clR))), (r 7, .inl (cI, 24, .inl sPR)), (r 8, .inl (cZ, 24, .inl sBR)), (r 9, .inl (cI, 24576, .inl sYR)), (r 10, .inl (cI, 24, .inl sZR)), (r 11, .inl (cI, 24, .inl kdR)), (r 12, .inl (cI, 24, .inl waR)), (r 13, .inl (cI, 24, .inl suR)), (r 14, .inl (cJ, 24, .inr (.inl tiR))), (r 15, .inl (cI, 1024, .inl seR)), (r 17, .inl (cI, 188, .inl pkR)), (r 43, .inl (cJ, 80, .inr (.inl dnR))), (r 20, .inl (cI, 4, .inl gR.nu)), (r 21, .inl (cI, 4, .inl gR.pi)), (r 22, .inl (cI, 4, .inl gR.vs)), (r 23, .inl (cI, 4, .inl gR.cp)), (r 24, .inl (cI, 4, .inl gR.sc)), (r 25, .inl (cZ, 4, .inl gR.aw)), (r 26, .inl (cJ, 4, .inr (.inl gR.nw))), (r 27, .inl (cI, 4, .inl gR.wt)), (r 28, .inl (cI, 16, .inl gR.ty)), (r 29, .inl (cI, 16, .inl gR.sp)), (r 30, .inl (cJ, 24, .inr (.inl gR.z.1))), (r 31, .inl (cI, 24, .inl gR.z.2.1)), (r 32, .inl (cZ, 24, .inl gR.z.2.2.1)), (r 33, .inl (cJ, 24, .inr (.inl gR.z.2.2.2))), (r 34, .inl (cI, 24, .inl oR.oI)), (r 35, .inl (cZ, 4, .inl oR.oA)), (r 36, .inl (cJ, 4, .inr (.inl oR.oW))), (r 37, .inl (cI, 16, .inl oR.oT)), (r 38, .inl (cI, 16, .inl oR.oS)), (r 39, .inl (cJ, 24, .inr (.inl oR.z.1))), (r 40, .inl (cI, 24, .inl oR.z.2.1)), (r 41, .inl (cZ, 24, .inl oR.z.2.2.1)), (r 42, .inl (cJ, 24, .inr (.inl oR.z.2.2.2))), (r 46, .inl (cI, 4, .inl pN)), (r 47, .inl (cI, 4, .inl pP)), (r 48, .inl (cI, 4, .inl pS)), (r 49, .inl (cI, 16, .inl pT)), (r 50, .inl (cI, 16, .inl pQ))] ++ (lpl cB Ls ++ (dpl dn ++ (tplr cO e0 tb lv pr P.length pmo pst P ++ (dfl cO e0 dr DL.length mo dst DL ++ X))))) := hD
  have hP := hP.part (cx := [(x9, .inr (11, [.ref rv, .ref dr])), (rv, .inr (4, [.ref tp, .ref ln, .ref tb, .ref ca, .ref dp])), (ca, .inl (cI, 10, .inl cn)), (dp, .inl (cQ, 16, .inr (.inr (.inr (.inr dpf))))), (tp, .inr (0, [.ref a, .int (nI T.length)])), (a, .inl (cB, 9400, .inl f)), (ln, .inr (2, [.ref hd])), (hd, .inl (cN, 256, .inr (.inr (.inr (.inr hf))))), (m9, .inr (13, mO r u1236.1 (nI T.length) leR lv (nI P.length) (nI npR) (nI DL.length) u1236.2.2.1)), (r 1, .inl (cI, 9400, .inl u1236.2.2.2.1)), (r 3, .inl (cI, 10, .inl cn)), (r 4, .inl (cI, 8192, .inl ctR)), (r 5, .inl (cZ, 8192, .inl twR)), (r 6, .inl (cJ, 8192, .inr (.inl clR))), (r 7, .inl (cI, 24, .inl sPR)), (r 8, .inl (cZ, 24, .inl sBR)), (r 9, .inl (cI, 24576, .inl sYR)), (r 10, .inl (cI, 24, .inl sZR)), (r 11, .inl (cI, 24, .inl kdR)), (r 12, .inl (cI, 24, .inl waR)), (r 13, .inl (cI, 24, .inl suR)), (r 14, .inl (cJ, 24, .inr (.inl tiR))), (r 15, .inl (cI, 1024, .inl seR)), (r 17, .inl (cI, 188, .inl pkR)), (r 43, .inl (cJ, 80, .inr (.inl dnR))), (r 20, .inl (cI, 4, .inl gR.nu)), (r 21, .inl (cI, 4, .inl gR.pi)), (r 22, .inl (cI, 4, .inl gR.vs)), (r 23, .inl (cI, 4, .inl gR.cp)), (r 24, .inl (cI, 4, .inl gR.sc)), (r 25, .inl (cZ, 4, .inl gR.aw)), (r 26, .inl (cJ, 4, .inr (.inl gR.nw))), (r 27, .inl (cI, 4, .inl gR.wt)), (r 28, .inl (cI, 16, .inl gR.ty)), (r 29, .inl (cI, 16, .inl gR.sp)), (r 30, .inl (cJ, 24, .inr (.inl gR.z.1))), (r 31, .inl (cI, 24, .inl gR.z.2.1)), (r 32, .inl (cZ, 24, .inl gR.z.2.2.1)), (r 33, .inl (cJ, 24, .inr (.inl gR.z.2.2.2))), (r 34, .inl (cI, 24, .inl oR.oI)), (r 35, .inl (cZ, 4, .inl oR.oA)), (r 36, .inl (cJ, 4, .inr (.inl oR.oW))), (r 37, .inl (cI, 16, .inl oR.oT)), (r 38, .inl (cI, 16, .inl oR.oS)), (r 39, .inl (cJ, 24, .inr (.inl oR.z.1))), (r 40, .inl (cI, 24, .inl oR.z.2.1)), (r 41, .inl (cZ, 24, .inl oR.z.2.2.1)), (r 42, .inl (cJ, 24, .inr (.inl oR.z.2.2.2))), (r 46, .inl (cI, 4, .inl pN)), (r 47, .inl (cI, 4, .inl pP)), (r 48, .inl (cI, 4, .inl pS)), (r 49, .inl (cI, 16, .inl pT)), (r 50, .inl (cI, 16, .inl pQ)), (r 51, .inl (cI, 8192, .inl u1236.2.2.2.2.1)), (r 52, .inl (cI, 4200, .inl u1236.2.2.2.2.2)), (o9, .inl (cJ, 1, .inr (.inl g9)))]) [0, 6, 7, 8, 9, 10, 11, 12, 1, 2, 13, 14, 15, 16, 17, 18, 19, 20, 21, 22, 23, 24, 25, 26, 27, 28, 29, 30, 31, 32, 33, 34, 35, 36, 37, 38, 39, 40, 41, 42, 43, 44, 45, 46, 47, 48, 49, 50, 51, 52, 53, 54, 55, 3, 4, 5] rfl
  have hD := hD.part (cx := [(x9, .inr (11, [.ref rv, .ref dr])), (rv, .inr (4, [.ref tp, .ref ln, .ref tb, .ref ca, .ref dp])), (ca, .inl (cI, 10, .inl cn)), (dp, .inl (cQ, 16, .inr (.inr (.inr (.inr dpf))))), (tp, .inr (0, [.ref a, .int (nI T.length)])), (a, .inl (cB, 9400, .inl f)), (ln, .inr (2, [.ref hd])), (hd, .inl (cN, 256, .inr (.inr (.inr (.inr hf))))), (m9, .inr (13, mO r u1236.1 (nI T.length) leR lv (nI P.length) (nI npR) (nI DL.length) u1236.2.2.1)), (r 1, .inl (cI, 9400, .inl u1236.2.2.2.1)), (r 3, .inl (cI, 10, .inl cn)), (r 4, .inl (cI, 8192, .inl ctR)), (r 5, .inl (cZ, 8192, .inl twR)), (r 6, .inl (cJ, 8192, .inr (.inl clR))), (r 7, .inl (cI, 24, .inl sPR)), (r 8, .inl (cZ, 24, .inl sBR)), (r 9, .inl (cI, 24576, .inl sYR)), (r 10, .inl (cI, 24, .inl sZR)), (r 11, .inl (cI, 24, .inl kdR)), (r 12, .inl (cI, 24, .inl waR)), (r 13, .inl (cI, 24, .inl suR)), (r 14, .inl (cJ, 24, .inr (.inl tiR))), (r 15, .inl (cI, 1024, .inl seR)), (r 17, .inl (cI, 188, .inl pkR)), (r 43, .inl (cJ, 80, .inr (.inl dnR))), (r 20, .inl (cI, 4, .inl gR.nu)), (r 21, .inl (cI, 4, .inl gR.pi)), (r 22, .inl (cI, 4, .inl gR.vs)), (r 23, .inl (cI, 4, .inl gR.cp)), (r 24, .inl (cI, 4, .inl gR.sc)), (r 25, .inl (cZ, 4, .inl gR.aw)), (r 26, .inl (cJ, 4, .inr (.inl gR.nw))), (r 27, .inl (cI, 4, .inl gR.wt)), (r 28, .inl (cI, 16, .inl gR.ty)), (r 29, .inl (cI, 16, .inl gR.sp)), (r 30, .inl (cJ, 24, .inr (.inl gR.z.1))), (r 31, .inl (cI, 24, .inl gR.z.2.1)), (r 32, .inl (cZ, 24, .inl gR.z.2.2.1)), (r 33, .inl (cJ, 24, .inr (.inl gR.z.2.2.2))), (r 34, .inl (cI, 24, .inl oR.oI)), (r 35, .inl (cZ, 4, .inl oR.oA)), (r 36, .inl (cJ, 4, .inr (.inl oR.oW))), (r 37, .inl (cI, 16, .inl oR.oT)), (r 38, .inl (cI, 16, .inl oR.oS)), (r 39, .inl (cJ, 24, .inr (.inl oR.z.1))), (r 40, .inl (cI, 24, .inl oR.z.2.1)), (r 41, .inl (cZ, 24, .inl oR.z.2.2.1)), (r 42, .inl (cJ, 24, .inr (.inl oR.z.2.2.2))), (r 46, .inl (cI, 4, .inl pN)), (r 47, .inl (cI, 4, .inl pP)), (r 48, .inl (cI, 4, .inl pS)), (r 49, .inl (cI, 16, .inl pT)), (r 50, .inl (cI, 16, .inl pQ)), (r 51, .inl (cI, 8192, .inl u1236.2.2.2.2.1)), (r 52, .inl (cI, 4200, .inl u1236.2.2.2.2.2)), (o9, .inl (cJ, 1, .inr (.inl g9)))]) [0, 6, 7, 8, 9, 10, 11, 12, 1, 2, 13, 14, 15, 16, 17, 18, 19, 20, 21, 22, 23, 24, 25, 26, 27, 28, 29, 30, 31, 32, 33, 34, 35, 36, 37, 38, 39, 40, 41, 42, 43, 44, 45, 46, 47, 48, 49, 50, 51, 52, 53, 54, 55, 3, 4, 5] (by decide) rfl
  refine lg_end (i0 := i0) hx hb (lv_sub hl [2, 3, 4, 5, 6] rfl) (by omega) (fun ls hl => ?_)
  exact ih T f T.length cn hf dpf dn Ls lv pr pmo pst P mo dst DL.length DL X u1236.1 T.length DL.length u1236.2.2.1 u1236.2.2.2.1 u1236.2.2.2.2.1 u1236.2.2.2.2.2 pN pP pS pT pQ pkR ctR twR clR kdR waR suR tiR npR dnR sYR sZR sBR seR leR lv P.length gR oR sPR cn g9 H locs ls (cells + 1) (slots + 6) hl hP hD hS (⟨rfl, rfl, rfl, rfl⟩) (by rw [hu9]; exact hRT) (RH_up hRH) hdp htk hdt (by rw [hu9]; exact RW_up hRW) hRD (RM_up hRM (by omega) (by omega))

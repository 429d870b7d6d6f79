
set_option maxHeartbeats 16000000 in
set_option maxRecDepth 100000 in
theorem lg_one {p : Program} {e : Env} {s : State} {m : MethodId} {below : List Frame} {meth : Method} {cd : Code} (l : Launch) (hfl : l.stackTraces = false) {b L : Nat} {xs : Nat → Int32} (C9 : lw_At p s m meth cd b L xs) (hL : L ≤ 4096) (A : Nat → Prop) (hA : ∀ q, s.heap.size ≤ q → A q) (hAO : ∀ q, A q → s.heap.size ≤ q) (D : va_G) (cB cI cJ cZ cN cQ cO : ClassId) (hK : va_K D classes [(cB, .byte), (cI, .int), (cJ, .long), (cZ, .boolean), (cN, .object "StreamSplitter$Lane"), (cQ, .object "StreamSplitter$Piece"), (cO, .object "java/lang/Object")] s) (e0 : Nat) (he0 : zE0 s e0) (x9 rv dr tp ln tb ca dp a hd m9 o9 : Nat) (r : Nat → Nat) (i0 k9 : Nat) (hik : i0 = 8 * k9) (hiL : i0 ≤ L) (IH : ∀ i k, i = i0 + 8 → k = k9 + 1 → i ≤ L → LG p l e s m below meth cd b A D cB cI cJ cZ cN cQ cO e0 x9 rv dr tp ln tb ca dp a hd m9 o9 r i k) : LG p l e s m below meth cd b A D cB cI cJ cZ cN cQ cO e0 x9 rv dr tp ln tb ca dp a hd m9 o9 r i0 k9 := by
  intro T f nC cn hf dpf dn Ls lv pr pmo pst P mo dst nD DL X th nR nd rs tpR wrR roR pN pP pS pT pQ pkR ctR twR clR kdR waR suR tiR npR dnR sYR sZR sBR seR leR lvR ngR gR oR sPR tlR g9 H locs ls cells slots hl hP hD hS hn hRT hRH hdp htk hdt hRW hRD hRM
  obtain ⟨h1, h2, h3, h4⟩ := hn
  subst h1 h2 h3 h4
  have h5 : (P.map pv9).length = ngR := hRH.2.1.1.2.2.1.1
  rw [List.length_map] at h5
  have h6 : lv = lvR := hRH.2.1.1.2.1.symm
  have h7 : cn = tlR := hRH.2.1.1.1.symm
  subst h5 h6 h7
  exact lg_step l hfl C9 hL A hA hAO D cB cI cJ cZ cN cQ cO hK e0 he0 x9 rv dr tp ln tb ca dp a hd m9 o9 r i0 k9 hik hiL IH T f cn hf dpf dn Ls lv pr pmo pst P mo dst DL X th rs tpR wrR roR pN pP pS pT pQ pkR ctR twR clR kdR waR suR tiR npR dnR sYR sZR sBR seR leR gR oR sPR g9 H locs ls cells slots hl hP hD hS hRT hRH hdp htk hdt hRW hRD hRM

theorem lg_loop {p : Program} {e : Env} {s : State} {m : MethodId} {below : List Frame} {meth : Method} {cd : Code} (l : Launch) (hfl : l.stackTraces = false) {b L : Nat} {xs : Nat → Int32} (C9 : lw_At p s m meth cd b L xs) (hL : L ≤ 4096) (A : Nat → Prop) (hA : ∀ q, s.heap.size ≤ q → A q) (hAO : ∀ q, A q → s.heap.size ≤ q) (D : va_G) (cB cI cJ cZ cN cQ cO : ClassId) (hK : va_K D classes [(cB, .byte), (cI, .int), (cJ, .long), (cZ, .boolean), (cN, .object "StreamSplitter$Lane"), (cQ, .object "StreamSplitter$Piece"), (cO, .object "java/lang/Object")] s) (e0 : Nat) (he0 : zE0 s e0) (x9 rv dr tp ln tb ca dp a hd m9 o9 : Nat) (r : Nat → Nat) : ∀ n i0 k9, i0 = 8 * k9 → i0 ≤ L → L ≤ i0 + n → LG p l e s m below meth cd b A D cB cI cJ cZ cN cQ cO e0 x9 rv dr tp ln tb ca dp a hd m9 o9 r i0 k9
  | 0, i0, k9, hik, hiL, hn => lg_one l hfl C9 hL A hA hAO D cB cI cJ cZ cN cQ cO hK e0 he0 x9 rv dr tp ln tb ca dp a hd m9 o9 r i0 k9 hik hiL (fun i k hi hk hL9 => by omega)
  | n + 1, i0, k9, hik, hiL, hn => lg_one l hfl C9 hL A hA hAO D cB cI cJ cZ cN cQ cO hK e0 he0 x9 rv dr tp ln tb ca dp a hd m9 o9 r i0 k9 hik hiL (fun i k hi hk hL9 => lg_loop l hfl C9 hL A hA hAO D cB cI cJ cZ cN cQ cO hK e0 he0 x9 rv dr tp ln tb ca dp a hd m9 o9 r n i k (by omega) hL9 (by omega))


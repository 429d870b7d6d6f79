/-! Tables written: both sides the same -/
def tbf (l : List (Nat × List Int32)) (z : List Int32 × (Nat → Nat)) : List Int32 × (Nat → Nat) := l.foldl (fun z x => mtW z x.1 x.2) z
theorem tb_btB {tb nu ve : Int32} (hv : ¬ (ve < 0 ∨ 31 < ve)) : btB tb nu ve = (mtB tb nu ve).set 2 176 := by
  obtain ⟨k, hk, rfl⟩ := nk_11 (i := ve) (M := 31) (by decide) hv
  rw [← bt_mt (by omega)]
  unfold btB
  rw [List.nil_append]
theorem tb_dl {DL : List DR9} {pN pP pS pT pQ : Nat → Int32} (h : RD DL pN pP pS pT pQ) : ∀ k, k ≤ DL.length → dlB (DL.take k) = mtP pN pP k
  | 0, _ => by rw [List.take_zero]; rfl
  | k + 1, hk => by
    have e := dl_step (B := []) (show k < DL.length by omega)
    rw [List.nil_append, List.nil_append] at e
    rw [← e, tb_dl h k (by omega), mtP, (h k (by omega)).1, (h k (by omega)).2.1, pid_bs]
theorem tb_li {DL : List DR9} {pN pP pS pT pQ : Nat → Int32} {ve : Int32} (h : RD DL pN pP pS pT pQ) (hd : DL.length ≤ 4) (hv : ¬ (ve < 0 ∨ 31 < ve)) : esL (ltB ve DL) = sealL 11 (mtLi pN pP ve DL.length) := by
  have e : ltB ve DL = (mtLi pN pP ve DL.length).set 2 176 := by
    unfold ltB mtLi
    rw [tb_btB hv, ← tb_dl h DL.length (Nat.le_refl _), List.take_length, List.set_append_left _ _ (by rw [mtB_len]; omega)]
  rw [e]
  refine es_seal (se_11 ?_)
  unfold mtLi
  rw [List.length_append, mtB_len, mtP_len]
  omega
theorem tb_sp {DL : List DR9} {pN pP pS pT pQ : Nat → Int32} {j : Nat} (h : RD DL pN pP pS pT pQ) (hj : j < DL.length) : ∀ k, k ≤ (DL.getD j dr0).2.2.2.2.1.length → spB ((DL.getD j dr0).2.2.2.2.1.take k) = mtS pT pQ j k
  | 0, _ => by rw [List.take_zero]; rfl
  | k + 1, hk => by
    obtain ⟨-, -, -, h4⟩ := h j hj
    obtain ⟨h5, h6⟩ := h4 k (by omega)
    have e := sp_step (B := []) (show k < (DL.getD j dr0).2.2.2.2.1.length by omega)
    rw [List.nil_append, List.nil_append] at e
    rw [← e, tb_sp h hj k (by omega), mtS, h5, h6, pid_bs]
theorem tb_pl {DL : List DR9} {pN pP pS pT pQ : Nat → Int32} {ve : Int32} {j : Nat} (h : RD DL pN pP pS pT pQ) (hj : j < DL.length) (h4 : (DL.getD j dr0).2.2.2.2.1.length ≤ 4) (hv : ¬ (ve < 0 ∨ 31 < ve)) : esL (ptB ve (DL.getD j dr0)) = sealL 11 (mtPl pN pT pQ (fun k => (DL.getD k dr0).2.2.2.2.1.length) ve j) := by
  obtain ⟨h1, -, -, h5⟩ := h j hj
  have e : ptB ve (DL.getD j dr0) = (mtPl pN pT pQ (fun k => (DL.getD k dr0).2.2.2.2.1.length) ve j).set 2 176 := by
    unfold ptB mtPl ptH mtC
    rw [← tb_sp h hj _ (Nat.le_refl _), List.take_length, h1, tb_btB hv]
    rw [List.set_append_left _ _ (by simp only [List.length_append, mtB_len, bs_len]; omega), List.set_append_left _ _ (by simp only [List.length_append, mtB_len, bs_len]; omega), List.set_append_left _ _ (by rw [mtB_len]; omega)]
    congr 3
    rw [pid_bs]
    unfold ckP
    by_cases c : (DL.getD j dr0).2.2.2.2.1.length = 0
    · rw [if_pos c, if_pos c]
    · rw [if_neg c, if_neg c]
      have := (h5 0 (by omega)).2
      rw [Nat.add_zero] at this
      rw [this]
  rw [e]
  refine es_seal (se_11 ?_)
  unfold mtPl
  rw [List.length_append, mtC_len, mtS_len]
  have h4 : (fun k => (DL.getD k dr0).2.2.2.2.1.length) j ≤ 4 := h4
  omega
/-- the reference's tables are the class's -/
theorem tb_mt {DL : List DR9} {pN pP pS pT pQ : Nat → Int32} {ve : Int32} {T : List Int32} {wf : Nat → Nat} (h : RD DL pN pP pS pT pQ) (hd : DL.length ≤ 4) (h4 : ∀ j, j < DL.length → (DL.getD j dr0).2.2.2.2.1.length ≤ 4) (hv : ¬ (ve < 0 ∨ 31 < ve)) : ∀ j, j ≤ DL.length → mtT pN pP pT pQ (fun k => (DL.getD k dr0).2.2.1) (fun k => (DL.getD k dr0).2.2.2.2.1.length) ve DL.length T wf j = tbf ((tbL ve DL).take (j + 1)) (T, wf)
  | 0, _ => by
    rw [mtT, ← tb_li h hd hv]
    rfl
  | j + 1, hj => by
    rw [mtT, tb_mt h hd h4 hv j (by omega), ← tb_pl h (by omega) (h4 j (by omega)) hv, tbL_step (by omega)]
    unfold tbf
    rw [List.foldl_append]
    rfl
/-- the class's tables, written one after another -/
theorem tb_ch {k : Nat} {cn : Nat → Int32} {R : (Nat → Option PQ9) × LU9} {y : RK9} : ∀ {l : List (Nat × List Int32)} {T : List Int32} {Ls : List LZ} {hf : Nat → Option Nat} {wf : Nat → Nat} {t : WS6} {b n : Nat}, (∀ x ∈ l, x.1 < 8192 ∧ x.2.length = 184) → wsC l (T, Ls, hf) t → RH k (cn, Ls, hf, R) y → (∀ x, lwv (lww Ls) x = nI (wf x)) → (∀ x, wf x ≤ b) → b + l.length ≤ 2 ^ 20 → (∃ C, cvT T C ∧ C.length ≤ n) → t.1 = (tbf l (T, wf)).1 ∧ t.1.length = T.length + 188 * l.length ∧ (∀ x, lwv (lww t.2.1) x = nI ((tbf l (T, wf)).2 x)) ∧ (∀ x, (tbf l (T, wf)).2 x ≤ b + l.length) ∧ RH k (cn, t.2.1, t.2.2, R) y ∧ huS (cn, t.2.1, t.2.2, R) = huS (cn, Ls, hf, R) ∧ ∃ C, cvT t.1 C ∧ C.length ≤ n + l.length
  | [], T, Ls, hf, wf, t, b, n, _, h, hR, h1, h2, _, hC => by
    rw [show t = (T, Ls, hf) from h]
    exact ⟨rfl, rfl, h1, h2, hR, rfl, hC⟩
  | x :: l, T, Ls, hf, wf, t, b, n, hx, ⟨m, ⟨T1, T2, z, hf1, w0, hLM, hz, hw, hm⟩, h⟩, hR, h1, h2, hb, ⟨C, hC, hCl⟩ => by
    rw [List.length_cons] at hb
    obtain ⟨hp, hl⟩ := hx x List.mem_cons_self
    have hLM : LM Ls T1 T2 z hf hf1 x.1 := hLM
    have hd := lok_lpd (lm_inv hLM hp hR.1.1 hR.1.2.1 hR.1.2.2.1).2.1
    have e0 := wr_w0 h1 h2 (by omega) hLM hd hz hw
    subst hm
    obtain ⟨e1, hR2⟩ := wr_RH (w := nI (w0 + 1)) hR hLM hp
    rw [e0] at hR2 e1 h
    have h5 : (ppL x.1 (wf x.1) 184 0 x.2).length = 188 := pp_188 (n := 184) hl (by decide)
    have ew : mtW (T, wf) x.1 x.2 = (T ++ ppL x.1 (wf x.1) 184 0 x.2, mtU wf x.1 (wf x.1 + 1)) := by
      unfold mtW
      rw [hl]
    have h6 := tb_ch (l := l) (b := b + 1) (n := n + 1) (wf := mtU wf x.1 (wf x.1 + 1)) (fun y hy => hx y (List.mem_cons_of_mem _ hy)) h hR2 (wr_lw (c := 1) h1 hLM hd) (fun y => by unfold mtU; have := h2 y; have := h2 x.1; split <;> omega) (by omega) ⟨_, cv_app1 hC (by rw [h5]; exact Nat.le_refl _), by rw [List.length_cons]; omega⟩
    have e2 : tbf (x :: l) (T, wf) = tbf l (T ++ ppL x.1 (wf x.1) 184 0 x.2, mtU wf x.1 (wf x.1 + 1)) := by
      unfold tbf
      rw [List.foldl_cons, ew]
    rw [e2]
    obtain ⟨a1, a2, a3, a4, a5, a6, C2, a7, a8⟩ := h6
    have a2 : t.1.length = (T ++ ppL x.1 (wf x.1) 184 0 x.2).length + 188 * l.length := a2
    have a4 : ∀ q, (tbf l (T ++ ppL x.1 (wf x.1) 184 0 x.2, mtU wf x.1 (wf x.1 + 1))).2 q ≤ b + 1 + l.length := a4
    refine ⟨a1, ?_, a3, fun y => ?_, a5, a6.trans e1, C2, a7, by rw [List.length_cons]; omega⟩
    · rw [a2, List.length_append, h5, List.length_cons]; omega
    · have := a4 y; rw [List.length_cons]; omega
abbrev wtP (T : List Int32) (tp : Nat → Int32) (wf : Nat → Nat) (wr ro : Nat → Int32) (np : Nat) (pN pP pT pQ : Nat → Int32) (pp ns : Nat → Nat) (rs ve r0 : Int32) (u : MWQ) : Prop := ((ve < 0 ∨ 31 < ve) ∧ r0 = 0 ∧ u = (1, nI T.length, rs, tp, wr, ro)) ∨ (¬ (ve < 0 ∨ 31 < ve) ∧ ((¬ T.length + 188 * (1 + np) ≤ 9400 ∧ r0 = -1 ∧ u = (0, nI T.length, rs, tp, wr, ro)) ∨ (T.length + 188 * (1 + np) ≤ 9400 ∧ MT (mtT pN pP pT pQ pp ns ve np T wf np) u r0)))
theorem wt_NO {T : List Int32} {tp : Nat → Int32} {wf : Nat → Nat} {wr ro : Nat → Int32} {np : Nat} {pN pP pT pQ : Nat → Int32} {pp ns : Nat → Nat} {rs ve r0 : Int32} {u : MWQ} (hv : ¬ (ve < 0 ∨ 31 < ve)) (hT : 9400 < T.length + 188 * (1 + np)) (h : wtP T tp wf wr ro np pN pP pT pQ pp ns rs ve r0 u) : u = (0, nI T.length, rs, tp, wr, ro) ∧ r0 = -1 := by
  rcases h with ⟨z, -⟩ | ⟨-, ⟨-, e1, e2⟩ | ⟨z, -⟩⟩
  · exact absurd z hv
  · exact ⟨e2, e1⟩
  · omega
theorem tbL_ok {X : va_W} {dst : Option (Nat × (Nat → Option Nat))} {DL : List DR9} {ve : Int32} (hd : dtk X dst DL) : ∀ x ∈ tbL ve DL, x.1 < 8192 ∧ x.2.length = 184 := by
  intro x hx
  have hd4 := hd.1
  rcases List.mem_cons.mp hx with rfl | hx
  · refine ⟨by show 0 < 8192; omega, esL_len ?_⟩
    unfold ltB
    rw [List.length_append, bt_len, dl_len]
    omega
  · obtain ⟨y, hy, rfl⟩ := List.mem_map.mp hx
    obtain ⟨h1, -, h3⟩ := hd.2.2 y hy
    refine ⟨h1, esL_len ?_⟩
    unfold ptB
    rw [List.length_append, pt_len, sp_len]
    omega
theorem wt_OK {k : Nat} {cn : Nat → Int32} {R : (Nat → Option PQ9) × LU9} {y : RK9} {T : List Int32} {f2 tp : Nat → Int32} {Ls : List LZ} {hf : Nat → Option Nat} {wf : Nat → Nat} {wr ro : Nat → Int32} {DL : List DR9} {pN pP pS pT pQ : Nat → Int32} {rs ve r0 r1 : Int32} {u : MWQ} {t : WS6} {X : va_W} {dst : Option (Nat × (Nat → Option Nat))} {c s c2 s2 : Nat} (hk : k ≤ 511) (hRH : RH k (cn, Ls, hf, R) y) (hdt : dtk X dst DL) (hRD : RD DL pN pP pS pT pQ) (hw1 : ∀ x, lwv (lww Ls) x = nI (wf x)) (hw2 : ∀ x, wf x ≤ 32 * k) (hRM : RM k T (huS (cn, Ls, hf, R)) c s) (hv : ¬ (ve < 0 ∨ 31 < ve)) (hT : T.length + 188 * (1 + DL.length) ≤ 9400) (hc : rc f2 t.1) (hr1 : r1 = nI t.1.length) (hws : wsC (tbL ve DL) (T, Ls, hf) t) (h : wtP T tp wf wr ro DL.length pN pP pT pQ (fun k => (DL.getD k dr0).2.2.1) (fun k => (DL.getD k dr0).2.2.2.2.1.length) rs ve r0 u) (hc2 : c2 ≤ c + 10) (hs2 : s2 ≤ s + 70) : u.1 = 0 ∧ r1 = r0 ∧ RT t.1 f2 u.2.2.2.1 ∧ u.2.1 = nI t.1.length ∧ RW (32 * (k + 1)) t.2.1 u.2.2.2.2.1 ∧ RH (k + 1) (cn, t.2.1, t.2.2, R) y ∧ RM (k + 1) t.1 (huS (cn, t.2.1, t.2.2, R)) c2 s2 := by
  have hd4 := hdt.1
  have hll : (tbL ve DL).length = 1 + DL.length := by unfold tbL; rw [List.length_cons, List.length_map]; omega
  obtain ⟨C, hC1, hC2, hC3⟩ := hRM
  obtain ⟨a1, a2, a3, a4, a5, a6, C2, a7, a8⟩ := tb_ch (n := C.length) (tbL_ok hdt) hws hRH hw1 hw2 (by rw [hll]; omega) ⟨C, hC1, Nat.le_refl _⟩
  rw [hll] at a2 a4 a8
  have e := tb_mt (T := T) (wf := wf) hRD hd4 (fun j hj => (rd_ns hRD hdt j hj).2) hv DL.length (Nat.le_refl _)
  rw [tbL_all] at e
  rcases h with ⟨z, -⟩ | ⟨-, ⟨z, -⟩ | ⟨-, z1, z2, z3, z4, z5⟩⟩
  · exact absurd z hv
  · exact absurd hT z
  · rw [e] at z2 z3 z4
    rw [← a1] at z2 z3
    refine ⟨z1, by rw [hr1, z5, z3], ⟨hc, z2, by rw [a2]; exact hT⟩, z3, ⟨(tbf (tbL ve DL) (T, wf)).2, a3, fun x => by have := a4 x; omega, z4⟩, RH_up a5, C2, a7, ?_, ?_⟩
    · rw [a6, a2]; omega
    · rw [a6, a2]; omega


/-! The writers: both sides the same -/
theorem wr_RH {k : Nat} {cn : Nat → Int32} {Ls T1 T2 : List LZ} {z : LZ} {w : Int32} {hf hf1 : Nat → Option Nat} {pid : Nat} {R : (Nat → Option PQ9) × LU9} {y : RK9} (h : RH k (cn, Ls, hf, R) y) (hLM : LM Ls T1 T2 z hf hf1 pid) (hp : pid < 8192) : huS (cn, T1 ++ lzW z w :: T2, hf1, R) = huS (cn, Ls, hf, R) ∧ RH k (cn, T1 ++ lzW z w :: T2, hf1, R) y := by
  obtain ⟨⟨i1, i2, i3, i4, i5⟩, h2, h3, h4⟩ := h
  have hv := lm_wr (wr := w) hLM hp i1 i2 i3
  have hm := lpd_mid (lok_lpd hv.2.1)
  have hm1 : ∀ y ∈ T1 ++ T2, y.2.1 ≠ z.2.1 := hm.2.1
  have e1 : huV (T1 ++ lzW z w :: T2) = huV (T1 ++ z :: T2) := by rw [hv_mid hm1, hv_mid hm.2.1]; rfl
  have e2 : huRw (T1 ++ lzW z w :: T2) = huRw (T1 ++ z :: T2) := by rw [hr_mid hm1, hr_mid hm.2.1]; rfl
  have hlm := hu_lm hLM (lok_lpd (lm_inv hLM hp i1 i2 i3).2.1)
  have e : huS (cn, T1 ++ lzW z w :: T2, hf1, R) = huS (cn, Ls, hf, R) := by
    show huH cn (T1 ++ lzW z w :: T2) _ _ _ = huH cn Ls _ _ _
    unfold huH
    rw [e1, e2, hlm.1, hlm.2]
  exact ⟨e, ⟨hv.1, hv.2.1, hv.2.2, i4, i5⟩, by rw [e]; exact h2, by rw [e]; exact h3, h4⟩
theorem wr_w0 {b w0 pid : Nat} {Ls T1 T2 : List LZ} {z : LZ} {hf hf1 : Nat → Option Nat} {wf : Nat → Nat} (h1 : ∀ x, lwv (lww Ls) x = nI (wf x)) (h2 : ∀ x, wf x ≤ b) (hb : b ≤ 2 ^ 20) (hLM : LM Ls T1 T2 z hf hf1 pid) (hd : lpd (T1 ++ z :: T2)) (hz : z.2.2.2.2.2.2.1 = nI w0) (hw : w0 ≤ 2 ^ 28) : w0 = wf pid := by
  have e := lwv_lm hLM pid
  rw [h1] at e
  have e2 := lwv_of hd (z := z) (List.mem_append_right _ List.mem_cons_self)
  rw [hLM.1, e, hz] at e2
  have := h2 pid
  exact (nI_inj (by omega) (by omega) e2).symm
theorem wr_lw {w c pid : Nat} {Ls T1 T2 : List LZ} {z : LZ} {hf hf1 : Nat → Option Nat} {wf : Nat → Nat} (h1 : ∀ x, lwv (lww Ls) x = nI (wf x)) (hLM : LM Ls T1 T2 z hf hf1 pid) (hd : lpd (T1 ++ z :: T2)) : ∀ x, lwv (lww (T1 ++ lzW z (nI w) :: T2)) x = nI (mtU wf pid w x) := by
  intro x
  have hm := lpd_mid hd
  rw [lwv_mid hm.2.1, hLM.1]
  unfold mtU
  by_cases c : x = pid
  · rw [if_pos c, if_pos c]
  · rw [if_neg c, if_neg c, lwv_lm hLM x, h1]
theorem wr_RW {b c pid : Nat} {Ls T1 T2 : List LZ} {z : LZ} {hf hf1 : Nat → Option Nat} {wr wr2 : Nat → Int32} {wf : Nat → Nat} (h1 : ∀ x, lwv (lww Ls) x = nI (wf x)) (h2 : ∀ x, wf x ≤ b) (h3 : ∀ x, x < 8192 → wr x = nI (wf x)) (hLM : LM Ls T1 T2 z hf hf1 pid) (hd : lpd (T1 ++ z :: T2)) (hw : wr2 = upd wr pid (nI (wf pid + c))) {b2 : Nat} (hb : b + c ≤ b2) : RW b2 (T1 ++ lzW z (nI (wf pid + c)) :: T2) wr2 := by
  refine ⟨mtU wf pid (wf pid + c), wr_lw (c := c) h1 hLM hd, fun x => ?_, fun x hx => ?_⟩
  · unfold mtU
    have := h2 x
    have := h2 pid
    split <;> omega
  · rw [hw]
    exact mt_w h3 x hx
theorem pp_188 {pid w0 : Nat} {B : List Int32} {n : Nat} (h : B.length = n) (hn : 0 < n) : (ppL pid w0 n 0 B).length = 188 * ((n + 183) / 184) := by
  rw [pp_len _ _ _ n B h (Nat.le_refl _), if_neg (by omega)]
  split <;> omega
theorem wp_list (kd : Int32) (t0 : Int64) (fl sd : Int32) (n : Nat) : (([] : List Int32) ++ phL kd t0 (if fl = 0 then 0 else nI (3 + tx t0 + n))) ++ gnL sd n = mpL kd t0 (if fl = 0 then 0 else (nI (n + 3 + tx t0)).toInt64) sd n := by
  rw [List.nil_append, ph_mp, gn_mg, mpL, show 3 + tx t0 + n = n + 3 + tx t0 by omega]
  congr 2
  split <;> rfl
abbrev wpP (T : List Int32) (tp : Nat → Int32) (wf : Nat → Nat) (wr ro : Nat → Int32) (rs i : Int32) (t0 : Int64) (c sd fl r0 : Int32) (u : MWQ) : Prop := ((i < 0 ∨ 2097151 < i ∨ c < 0 ∨ 4000 < c ∨ 8589934592 ≤ t0) ∧ r0 = 0 ∧ u = (1, nI T.length, rs, tp, wr, ro)) ∨ (∃ a9 b9 : Nat, i = nI a9 ∧ a9 ≤ 2097151 ∧ c = nI b9 ∧ b9 ≤ 4000 ∧ t0 < 8589934592 ∧ ((¬ wpRm T.length t0 b9 ∧ r0 = -1 ∧ u = (0, nI T.length, rs, tp, wr, ro)) ∨ (wpRm T.length t0 b9 ∧ MW T (mpL (nI (a9 / 8192)) t0 (if fl = 0 then 0 else (nI (b9 + 3 + tx t0)).toInt64) sd b9) (a9 % 8192) wf wr u r0)))
theorem wp_two {T : List Int32} {tp : Nat → Int32} {wf : Nat → Nat} {wr ro : Nat → Int32} {rs : Int32} {i9 n : Nat} {t0 : Int64} {sd fl r0 : Int32} {u : MWQ} (hi9 : i9 ≤ 2097151) (hn : n ≤ 4000) (ht0 : t0 < 8589934592) (h : wpP T tp wf wr ro rs (nI i9) t0 (nI n) sd fl r0 u) : (¬ wpRm T.length t0 n ∧ r0 = -1 ∧ u = (0, nI T.length, rs, tp, wr, ro)) ∨ (wpRm T.length t0 n ∧ MW T (mpL (nI (i9 / 8192)) t0 (if fl = 0 then 0 else (nI (n + 3 + tx t0)).toInt64) sd n) (i9 % 8192) wf wr u r0) := by
  rcases h with ⟨q, -⟩ | ⟨a9, b9, e1, ha9, e2, hb9, -, z⟩
  · exfalso
    rcases q with q | q | q | q | q
    · exact nI_pos (by omega) q
    · exact Int32.not_lt.mpr (nI_le (a := i9) (b := 2097151) hi9 (by decide)) q
    · exact nI_pos (by omega) q
    · exact Int32.not_lt.mpr (nI_le (a := n) (b := 4000) hn (by decide)) q
    · exact Int64.not_lt.mpr q ht0
  · obtain rfl := nI_inj (by omega) (by omega) e2
    obtain rfl := nI_inj (by omega) (by omega) e1
    exact z
theorem wp_NO {T : List Int32} {tp : Nat → Int32} {wf : Nat → Nat} {wr ro : Nat → Int32} {rs : Int32} {i9 n : Nat} {t0 : Int64} {sd fl r0 : Int32} {u : MWQ} (hi9 : i9 ≤ 2097151) (hn : n ≤ 4000) (ht0 : t0 < 8589934592) (hT : 9400 < T.length + 188 * ((9 + tx t0 + n + 183) / 184)) (h : wpP T tp wf wr ro rs (nI i9) t0 (nI n) sd fl r0 u) : u = (0, nI T.length, rs, tp, wr, ro) ∧ r0 = -1 := by
  rcases wp_two hi9 hn ht0 h with ⟨-, e1, e2⟩ | ⟨z, -⟩
  · exact ⟨e2, e1⟩
  · unfold wpRm at z; omega
/-- a piece written -/
theorem wp_OK {T : List Int32} {f2 tp : Nat → Int32} {wf : Nat → Nat} {wr ro : Nat → Int32} {rs : Int32} {i9 n w0 pid : Nat} {t0 : Int64} {sd fl r0 r1 : Int32} {u : MWQ} (hl : T.length ≤ 9400) (hi9 : i9 ≤ 2097151) (hn : n ≤ 4000) (ht0 : t0 < 8589934592) (hpid : i9 % 8192 = pid) (hT : T.length + 188 * ((9 + tx t0 + n + 183) / 184) ≤ 9400) (hw : w0 = wf pid) (h1 : r1 = nI (T ++ ppL pid w0 (9 + tx t0 + n) 0 ((([] : List Int32) ++ phL (nI (i9 / 8192)) t0 (if fl = 0 then 0 else nI (3 + tx t0 + n))) ++ gnL sd n)).length) (hc : rc f2 (T ++ ppL pid w0 (9 + tx t0 + n) 0 ((([] : List Int32) ++ phL (nI (i9 / 8192)) t0 (if fl = 0 then 0 else nI (3 + tx t0 + n))) ++ gnL sd n))) (h : wpP T tp wf wr ro rs (nI i9) t0 (nI n) sd fl r0 u) : u.1 = 0 ∧ r1 = r0 ∧ RT (T ++ ppL pid w0 (9 + tx t0 + n) 0 ((([] : List Int32) ++ phL (nI (i9 / 8192)) t0 (if fl = 0 then 0 else nI (3 + tx t0 + n))) ++ gnL sd n)) f2 u.2.2.2.1 ∧ u.2.1 = nI (T ++ ppL pid w0 (9 + tx t0 + n) 0 ((([] : List Int32) ++ phL (nI (i9 / 8192)) t0 (if fl = 0 then 0 else nI (3 + tx t0 + n))) ++ gnL sd n)).length ∧ u.2.2.2.2.1 = upd wr pid (nI (wf pid + (9 + tx t0 + n + 183) / 184)) ∧ (T ++ ppL pid w0 (9 + tx t0 + n) 0 ((([] : List Int32) ++ phL (nI (i9 / 8192)) t0 (if fl = 0 then 0 else nI (3 + tx t0 + n))) ++ gnL sd n)).length = T.length + 188 * ((9 + tx t0 + n + 183) / 184) := by
  have hl2 : (mpL (nI (i9 / 8192)) t0 (if fl = 0 then 0 else (nI (n + 3 + tx t0)).toInt64) sd n).length = 9 + tx t0 + n := by rw [mpL, List.length_append, mp_len, mg_len]
  rw [wp_list] at h1 hc ⊢
  have hTT : (T ++ ppL pid w0 (9 + tx t0 + n) 0 (mpL (nI (i9 / 8192)) t0 (if fl = 0 then 0 else (nI (n + 3 + tx t0)).toInt64) sd n)).length = T.length + 188 * ((9 + tx t0 + n + 183) / 184) := by rw [List.length_append, pp_188 hl2 (by omega)]
  rcases wp_two hi9 hn ht0 h with ⟨z, -⟩ | ⟨-, z1, z2, z3, z4, z5⟩
  · exfalso; apply z; unfold wpRm; omega
  · rw [hpid, hl2, ← hw] at z2 z3
    rw [hpid, hl2] at z4
    exact ⟨z1, by rw [h1, z5, z3], ⟨hc, z2, by rw [hTT]; exact hT⟩, z3, z4, hTT⟩
theorem RM_pie {k : Nat} {T : List Int32} {A : HS} {c s c2 s2 pid w0 n : Nat} {kd sd fl : Int32} {t0 : Int64} (h : RM k T A c s) (hp : pid < 8192) (hn : n ≤ 4000) (hl : (T ++ ppL pid w0 (9 + tx t0 + n) 0 ((([] : List Int32) ++ phL kd t0 (if fl = 0 then 0 else nI (3 + tx t0 + n))) ++ gnL sd n)).length = T.length + 188 * ((9 + tx t0 + n + 183) / 184)) (hc : c2 ≤ c + 20) (hs : s2 ≤ s + 100) : RM (k + 1) (T ++ ppL pid w0 (9 + tx t0 + n) 0 ((([] : List Int32) ++ phL kd t0 (if fl = 0 then 0 else nI (3 + tx t0 + n))) ++ gnL sd n)) A c2 s2 := by
  obtain ⟨C, h1, h2, h3⟩ := h
  have htx := tx_le t0
  have hH : (([] : List Int32) ++ phL kd t0 (if fl = 0 then 0 else nI (3 + tx t0 + n))).length = 9 + tx t0 := by rw [List.nil_append, ph_len, tx_9]
  have h4 := cv_pie (w0 := w0) (n := n) (x := sd) h1 hp (H := ([] : List Int32) ++ phL kd t0 (if fl = 0 then 0 else nI (3 + tx t0 + n))) (by rw [hH]; omega)
  rw [hH] at h4
  refine ⟨_, h4, ?_, ?_⟩
  · rw [List.length_cons, hl]; omega
  · rw [List.length_cons, hl]; omega
theorem shQ_eq {ln : Int64} (h : ¬ ln < 0) : shQ ln = ln >>> ((33 : Int32).toInt64 &&& 63) := by
  apply Int64.toBitVec_inj.mp
  have hm : ln.toBitVec.msb = false := by
    rw [BitVec.msb_eq_toInt]
    have : ¬ ln.toInt < 0 := fun z => h (Int64.lt_iff_toInt_lt.mpr z)
    simpa using this
  have e2 : (((33 : Int32).toInt64 &&& 63).toBitVec.smod 64).toNat = 33 := by decide
  have e1 : ((((33 : Int32).toInt64.toUInt64 &&& Int64.toUInt64 63)).toBitVec % 64).toNat = 33 := by decide
  show (ln.toBitVec >>> ((((33 : Int32).toInt64.toUInt64 &&& Int64.toUInt64 63)).toBitVec % 64)) = ln.toBitVec.sshiftRight (((33 : Int32).toInt64 &&& 63).toBitVec.smod 64).toNat
  rw [e2, BitVec.sshiftRight_eq_of_msb_false hm]
  show ln.toBitVec >>> (((((33 : Int32).toInt64.toUInt64 &&& Int64.toUInt64 63)).toBitVec % 64)).toNat = _
  rw [e1]
theorem wo_list {nm : Int32} {t0 l9 : Int64} {k : Nat} (hk : k < 64) (hl : ¬ l9 < 0) : esL (((((([] : List Int32) ++ bsL 0 1) ++ bsL (252 : Int32).toInt64 1) ++ bsL (12288 : Int32).toInt64 2) ++ ohL nm (shQ l9)) ++ obL (nI k) t0 (l9 &&& 8589934591)) = sealL 3 (moL nm (nI k) t0 l9) := by
  rw [List.nil_append, od_eq hk (shQ_eq hl)]
  exact es_seal (se_3 (by have := (mo_len nm (nI k) t0 l9).2; omega))
abbrev woP (T : List Int32) (tp : Nat → Int32) (wf : Nat → Nat) (wr ro : Nat → Int32) (rs i nm how : Int32) (t0 ln : Int64) (r0 : Int32) (u : MWQ) : Prop := ((i < 0 ∨ 8191 < i ∨ how < 0 ∨ 63 < how ∨ t0 < 0 ∨ 8589934592 ≤ t0 ∨ ln < 0) ∧ r0 = 0 ∧ u = (1, nI T.length, rs, tp, wr, ro)) ∨ (¬ (how < 0 ∨ 63 < how ∨ t0 < 0 ∨ 8589934592 ≤ t0 ∨ ln < 0) ∧ ∃ a9 : Nat, i = nI a9 ∧ a9 ≤ 8191 ∧ ((¬ T.length + 188 ≤ 9400 ∧ r0 = -1 ∧ u = (0, nI T.length, rs, tp, wr, ro)) ∨ (T.length + 188 ≤ 9400 ∧ MW T (sealL 3 (moL nm how t0 ln)) a9 wf wr u r0)))
theorem wo_two {T : List Int32} {tp : Nat → Int32} {wf : Nat → Nat} {wr ro : Nat → Int32} {rs nm how r0 : Int32} {pid : Nat} {t0 ln : Int64} {u : MWQ} (hp : pid < 8192) (hb : ¬ (how < 0 ∨ 63 < how ∨ t0 < 0 ∨ 8589934592 ≤ t0 ∨ ln < 0)) (h : woP T tp wf wr ro rs (nI pid) nm how t0 ln r0 u) : (¬ T.length + 188 ≤ 9400 ∧ r0 = -1 ∧ u = (0, nI T.length, rs, tp, wr, ro)) ∨ (T.length + 188 ≤ 9400 ∧ MW T (sealL 3 (moL nm how t0 ln)) pid wf wr u r0) := by
  rcases h with ⟨q, -⟩ | ⟨-, a9, e, ha, z⟩
  · exfalso
    rcases q with q | q | q
    · exact nI_pos (by omega) q
    · exact Int32.not_lt.mpr (nI_le (a := pid) (b := 8191) (by omega) (by decide)) q
    · exact hb q
  · obtain rfl := nI_inj (by omega) (by omega) e
    exact z
theorem wo_NO {T : List Int32} {tp : Nat → Int32} {wf : Nat → Nat} {wr ro : Nat → Int32} {rs nm how r0 : Int32} {pid : Nat} {t0 ln : Int64} {u : MWQ} (hp : pid < 8192) (hb : ¬ (how < 0 ∨ 63 < how ∨ t0 < 0 ∨ 8589934592 ≤ t0 ∨ ln < 0)) (hT : 9400 < T.length + 188) (h : woP T tp wf wr ro rs (nI pid) nm how t0 ln r0 u) : u = (0, nI T.length, rs, tp, wr, ro) ∧ r0 = -1 := by
  rcases wo_two hp hb h with ⟨-, e1, e2⟩ | ⟨z, -⟩
  · exact ⟨e2, e1⟩
  · omega
theorem wo_OK {T : List Int32} {f2 tp : Nat → Int32} {wf : Nat → Nat} {wr ro : Nat → Int32} {rs nm how r0 r1 : Int32} {pid w0 : Nat} {t0 l9 : Int64} {u : MWQ} (hp : pid < 8192) (hb : ¬ (how < 0 ∨ 63 < how ∨ t0 < 0 ∨ 8589934592 ≤ t0 ∨ l9 < 0)) (hT : T.length + 188 ≤ 9400) (hw : w0 = wf pid) (h1 : r1 = nI (T ++ ppL pid w0 184 0 (esL (((((([] : List Int32) ++ bsL 0 1) ++ bsL (252 : Int32).toInt64 1) ++ bsL (12288 : Int32).toInt64 2) ++ ohL nm (shQ l9)) ++ obL how t0 (l9 &&& 8589934591)))).length) (hc : rc f2 (T ++ ppL pid w0 184 0 (esL (((((([] : List Int32) ++ bsL 0 1) ++ bsL (252 : Int32).toInt64 1) ++ bsL (12288 : Int32).toInt64 2) ++ ohL nm (shQ l9)) ++ obL how t0 (l9 &&& 8589934591))))) (h : woP T tp wf wr ro rs (nI pid) nm how t0 l9 r0 u) : u.1 = 0 ∧ r1 = r0 ∧ RT (T ++ ppL pid w0 184 0 (esL (((((([] : List Int32) ++ bsL 0 1) ++ bsL (252 : Int32).toInt64 1) ++ bsL (12288 : Int32).toInt64 2) ++ ohL nm (shQ l9)) ++ obL how t0 (l9 &&& 8589934591)))) f2 u.2.2.2.1 ∧ u.2.1 = nI (T ++ ppL pid w0 184 0 (esL (((((([] : List Int32) ++ bsL 0 1) ++ bsL (252 : Int32).toInt64 1) ++ bsL (12288 : Int32).toInt64 2) ++ ohL nm (shQ l9)) ++ obL how t0 (l9 &&& 8589934591)))).length ∧ u.2.2.2.2.1 = upd wr pid (nI (wf pid + 1)) ∧ (ppL pid w0 184 0 (esL (((((([] : List Int32) ++ bsL 0 1) ++ bsL (252 : Int32).toInt64 1) ++ bsL (12288 : Int32).toInt64 2) ++ ohL nm (shQ l9)) ++ obL how t0 (l9 &&& 8589934591)))).length ≤ 188 := by
  obtain ⟨k, hk, rfl⟩ := nk_11 (i := how) (M := 63) (by decide) (fun z => hb (z.elim Or.inl (fun q => Or.inr (Or.inl q))))
  have hl9 : ¬ l9 < 0 := fun z => hb (Or.inr (Or.inr (Or.inr (Or.inr z))))
  rw [wo_list (by omega) hl9] at h1 hc ⊢
  have e : (sealL 3 (moL nm (nI k) t0 l9)).length = 184 := sealL_len (mo_len nm (nI k) t0 l9).2
  have e2 : (ppL pid w0 184 0 (sealL 3 (moL nm (nI k) t0 l9))).length = 188 := pp_188 (n := 184) e (by decide)
  rcases wo_two hp hb h with ⟨z, -⟩ | ⟨-, z1, z2, z3, z4, z5⟩
  · exact absurd hT z
  · rw [e, ← hw] at z2 z3
    rw [e] at z4
    exact ⟨z1, by rw [h1, z5, z3], ⟨hc, z2, by rw [List.length_append, e2]; exact hT⟩, z3, z4, by rw [e2]; exact Nat.le_refl _⟩


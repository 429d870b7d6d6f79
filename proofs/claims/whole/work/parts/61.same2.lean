/-! A new object: what both sides answer. -/
theorem fit_0 : sb_Fit (fun _ => 0) := fun _ => by show fits .byte (.int 0) = true; decide
theorem rc_0 : rc (fun _ => 0) [] := ⟨fit_0, fun i hi => absurd hi (Nat.not_lt_zero i)⟩
theorem tape_0 {f g : Nat → Int32} {i : Int32} {r : Int64} (h : r = mt_l g 0 i 8) : tp_l f 0 i 8 = r := by rw [h, tp_0, mt_0]
theorem pgA_no {i wh r0 u : Int32} {ng : Nat} {P : Nat → Nat → Prop} (hb : wh < 0 ∨ 6 < wh) (h : ((wh < 0 ∨ 6 < wh) ∧ u = 1 ∧ r0 = 0) ∨ (¬ (wh < 0 ∨ 6 < wh) ∧ (i < 0 ∨ ¬ i < nI ng) ∧ u = 2 ∧ r0 = 0) ∨ (∃ a9 b9 : Nat, i = nI a9 ∧ a9 < ng ∧ wh = nI b9 ∧ b9 ≤ 6 ∧ u = 0 ∧ P a9 b9)) : u = 1 := by
  rcases h with ⟨-, z, -⟩ | ⟨z, -⟩ | ⟨a, b, -, -, rfl, z, -⟩
  · exact z
  · exact absurd hb z
  · exact absurd hb (fun q => q.elim (nI_pos (by omega)) (Int32.not_lt.mpr (nI_le (a := b) (b := 6) z (by decide))))
theorem pgB_no {i wh r0 u : Int32} {P : Nat → Nat → Prop} (hb : ¬ (wh < 0 ∨ 6 < wh)) (h : ((wh < 0 ∨ 6 < wh) ∧ u = 1 ∧ r0 = 0) ∨ (¬ (wh < 0 ∨ 6 < wh) ∧ (i < 0 ∨ ¬ i < nI 0) ∧ u = 2 ∧ r0 = 0) ∨ (∃ a9 b9 : Nat, i = nI a9 ∧ a9 < 0 ∧ wh = nI b9 ∧ b9 ≤ 6 ∧ u = 0 ∧ P a9 b9)) : u = 2 := by
  rcases h with ⟨z, -⟩ | ⟨-, -, z, -⟩ | ⟨a, b, -, z, -⟩
  · exact absurd z hb
  · exact z
  · exact absurd z (Nat.not_lt_zero a)
theorem st_no {i r0 u : Int32} {P : Nat → Prop} (h : ((i < 0 ∨ ¬ i < nI 0) ∧ u = 1 ∧ r0 = 0) ∨ (∃ a9 : Nat, i = nI a9 ∧ a9 < 0 ∧ u = 0 ∧ P a9)) : u = 1 := by
  rcases h with ⟨-, z, -⟩ | ⟨a, -, z, -⟩
  · exact z
  · exact absurd z (Nat.not_lt_zero a)
theorem nw_no {i u : Int32} {r0 : Int64} {P : Nat → Prop} (h : ((i < 0 ∨ ¬ i < nI 0) ∧ u = 1 ∧ r0 = 0) ∨ (∃ a9 : Nat, i = nI a9 ∧ a9 < 0 ∧ u = 0 ∧ P a9)) : u = 1 := by
  rcases h with ⟨-, z, -⟩ | ⟨a, -, z, -⟩
  · exact z
  · exact absurd z (Nat.not_lt_zero a)
theorem orA_no {i wh u : Int32} {r0 : Int64} {ng : Nat} {P : Nat → Nat → Prop} (hb : wh < 0 ∨ 3 < wh) (h : ((wh < 0 ∨ 3 < wh) ∧ u = 1 ∧ r0 = 0) ∨ (¬ (wh < 0 ∨ 3 < wh) ∧ (i < 0 ∨ ¬ i < nI ng) ∧ u = 2 ∧ r0 = 0) ∨ (∃ a9 c9 : Nat, i = nI a9 ∧ a9 < ng ∧ wh = nI c9 ∧ c9 ≤ 3 ∧ u = 0 ∧ P a9 c9)) : u = 1 := by
  rcases h with ⟨-, z, -⟩ | ⟨z, -⟩ | ⟨a, b, -, -, rfl, z, -⟩
  · exact z
  · exact absurd hb z
  · exact absurd hb (fun q => q.elim (nI_pos (by omega)) (Int32.not_lt.mpr (nI_le (a := b) (b := 3) z (by decide))))
theorem orB_no {i wh u : Int32} {r0 : Int64} {P : Nat → Nat → Prop} (hb : ¬ (wh < 0 ∨ 3 < wh)) (h : ((wh < 0 ∨ 3 < wh) ∧ u = 1 ∧ r0 = 0) ∨ (¬ (wh < 0 ∨ 3 < wh) ∧ (i < 0 ∨ ¬ i < nI 0) ∧ u = 2 ∧ r0 = 0) ∨ (∃ a9 c9 : Nat, i = nI a9 ∧ a9 < 0 ∧ wh = nI c9 ∧ c9 ≤ 3 ∧ u = 0 ∧ P a9 c9)) : u = 2 := by
  rcases h with ⟨z, -⟩ | ⟨-, -, z, -⟩ | ⟨a, b, -, z, -⟩
  · exact absurd z hb
  · exact z
  · exact absurd z (Nat.not_lt_zero a)
theorem pc_no {i wh u : Int32} {r0 : Int64} {P : Prop} (hb : wh < 0 ∨ 4 < wh ∨ i < 0) (h : ((wh < 0 ∨ 4 < wh ∨ i < 0) ∧ u = 1 ∧ r0 = 0) ∨ (¬ (wh < 0 ∨ 4 < wh ∨ i < 0) ∧ P)) : u = 1 := by
  rcases h with ⟨-, z, -⟩ | ⟨z, -⟩
  · exact z
  · exact absurd hb z
theorem pc_0 {i wh u : Int32} {r0 : Int64} {P : Nat → Nat → Prop} (hb : ¬ (wh < 0 ∨ 4 < wh ∨ i < 0)) (h : ((wh < 0 ∨ 4 < wh ∨ i < 0) ∧ u = 1 ∧ r0 = 0) ∨ (¬ (wh < 0 ∨ 4 < wh ∨ i < 0) ∧ u = 0 ∧ (((15 < i ∨ ¬ i < nI 0) ∧ r0 = -1) ∨ (∃ a9 b9 : Nat, i = nI a9 ∧ a9 ≤ 15 ∧ a9 < 0 ∧ P a9 b9)))) : u = 0 ∧ r0 = -1 := by
  rcases h with ⟨z, -⟩ | ⟨-, z, ⟨-, y⟩ | ⟨a, b, -, -, y, -⟩⟩
  · exact absurd z hb
  · exact ⟨z, y⟩
  · exact absurd y (Nat.not_lt_zero a)
theorem ck_no {i u : Int32} {r0 : Int64} {P : Nat → Prop} (hb : i < 0 ∨ 8191 < i) (h : ((i < 0 ∨ 8191 < i) ∧ u = 1 ∧ r0 = 0) ∨ (∃ a9 : Nat, i = nI a9 ∧ a9 ≤ 8191 ∧ u = 0 ∧ P a9)) : u = 1 := by
  rcases h with ⟨-, z, -⟩ | ⟨a, rfl, z, -⟩
  · exact z
  · exact absurd hb (fun q => q.elim (nI_pos (by omega)) (Int32.not_lt.mpr (nI_le (a := a) (b := 8191) z (by decide))))
theorem ck_0 {pid : Nat} {u : Int32} {r0 : Int64} (hp : pid < 8192) (h : ((nI pid < 0 ∨ 8191 < nI pid) ∧ u = 1 ∧ r0 = 0) ∨ (∃ a9 : Nat, nI pid = nI a9 ∧ a9 ≤ 8191 ∧ u = 0 ∧ r0 = iniL (-1) 8192 a9)) : u = 0 ∧ r0 = -1 := by
  rcases h with ⟨q, -⟩ | ⟨a, -, z, y, x⟩
  · exact absurd q (fun q => q.elim (nI_pos (by omega)) (Int32.not_lt.mpr (nI_le (a := pid) (b := 8191) (by omega) (by decide))))
  · exact ⟨y, by rw [x]; exact iniL_at _ _ _ (by omega)⟩
theorem plan_no {i c r0 : Int32} {U : Type} {u a b : U} {P : Prop} (hb : i < 1 ∨ 65535 < i ∨ c < 0 ∨ 8191 < c) (h : ((i < 1 ∨ 65535 < i ∨ c < 0 ∨ 8191 < c) ∧ r0 = 0 ∧ u = a) ∨ (¬ (i < 1 ∨ 65535 < i ∨ c < 0 ∨ 8191 < c) ∧ P)) : u = a := by
  rcases h with ⟨-, -, z⟩ | ⟨z, -⟩
  · exact z
  · exact absurd hb z
theorem plan_0 {i c r0 : Int32} {U : Type} {u a b d : U} (hb : ¬ (i < 1 ∨ 65535 < i ∨ c < 0 ∨ 8191 < c)) (h : ((i < 1 ∨ 65535 < i ∨ c < 0 ∨ 8191 < c) ∧ r0 = 0 ∧ u = a) ∨ (¬ (i < 1 ∨ 65535 < i ∨ c < 0 ∨ 8191 < c) ∧ (((0 : Nat) = 4 ∧ r0 = -1 ∧ u = b) ∨ ((0 : Nat) < 4 ∧ r0 = nI (0 + 1) ∧ u = d)))) : u = d ∧ r0 = nI (0 + 1) := by
  rcases h with ⟨z, -⟩ | ⟨-, ⟨z, -⟩ | ⟨-, z, y⟩⟩
  · exact absurd z hb
  · exact absurd z (by decide)
  · exact ⟨y, z⟩
theorem as_no {i r0 : Int32} {U : Type} {u a : U} {P : Nat → Prop} (h : ((i < 0 ∨ ¬ i < nI 0) ∧ r0 = 0 ∧ u = a) ∨ (∃ a9 : Nat, i = nI a9 ∧ a9 < 0 ∧ P a9)) : u = a := by
  rcases h with ⟨-, -, z⟩ | ⟨a, -, z, -⟩
  · exact z
  · exact absurd z (Nat.not_lt_zero a)
theorem wt_no {ve r0 : Int32} {U : Type} {u a : U} {P : Prop} (hb : ve < 0 ∨ 31 < ve) (h : ((ve < 0 ∨ 31 < ve) ∧ r0 = 0 ∧ u = a) ∨ (¬ (ve < 0 ∨ 31 < ve) ∧ P)) : u = a := by
  rcases h with ⟨-, -, z⟩ | ⟨z, -⟩
  · exact z
  · exact absurd hb z
theorem wt_0 {ve r0 r1 : Int32} {u a b : MWQ} {pN pP pT pQ : Nat → Int32} {pp ns wf : Nat → Nat} {X : List Int32} (hX : X.length ≤ 180) (hb : ¬ (ve < 0 ∨ 31 < ve)) (h1 : r1 = nI (([] : List Int32) ++ ppL 0 0 184 0 (esL X)).length) (h : ((ve < 0 ∨ 31 < ve) ∧ r0 = 0 ∧ u = a) ∨ (¬ (ve < 0 ∨ 31 < ve) ∧ ((¬ ([] : List Int32).length + 188 * (1 + 0) ≤ 9400 ∧ r0 = -1 ∧ u = b) ∨ (([] : List Int32).length + 188 * (1 + 0) ≤ 9400 ∧ MT (mtT pN pP pT pQ pp ns ve 0 [] wf 0) u r0)))) : u.1 = 0 ∧ r1 = r0 := by
  rcases h with ⟨z, -⟩ | ⟨-, ⟨z, -⟩ | ⟨-, z1, -, z2, -, z3⟩⟩
  · exact absurd z hb
  · exact absurd (by decide) z
  · refine ⟨z1, ?_⟩
    rw [h1, z3, z2]
    show _ = nI (([] : List Int32) ++ ppL 0 (wf 0) (sealL 11 (mtLi pN pP ve 0)).length 0 (sealL 11 (mtLi pN pP ve 0))).length
    have e : (sealL 11 (mtLi pN pP ve 0)).length = 184 := sealL_len (by simp [mtLi, mtB_len, mtP_len])
    rw [List.nil_append, List.nil_append, mt_188 e]
    have e2 : (esL X).length = 184 := esL_len hX
    have e3 := mt_188 (pid := 0) (w := 0) e2
    rw [e2] at e3
    rw [e3]
theorem wp_no {i c r0 : Int32} {t0 : Int64} {U : Type} {u a : U} {P : Nat → Nat → Prop} (hb : i < 0 ∨ 2097151 < i ∨ c < 0 ∨ 4000 < c ∨ 8589934592 ≤ t0) (h : ((i < 0 ∨ 2097151 < i ∨ c < 0 ∨ 4000 < c ∨ 8589934592 ≤ t0) ∧ r0 = 0 ∧ u = a) ∨ (∃ a9 b9 : Nat, i = nI a9 ∧ a9 ≤ 2097151 ∧ c = nI b9 ∧ b9 ≤ 4000 ∧ t0 < 8589934592 ∧ P a9 b9)) : u = a := by
  rcases h with ⟨-, -, z⟩ | ⟨a, b, rfl, z1, rfl, z2, z3, -⟩
  · exact z
  · refine absurd hb (fun q => ?_)
    rcases q with q | q | q | q | q
    · exact nI_pos (by omega) q
    · exact Int32.not_lt.mpr (nI_le (a := a) (b := 2097151) z1 (by decide)) q
    · exact nI_pos (by omega) q
    · exact Int32.not_lt.mpr (nI_le (a := b) (b := 4000) z2 (by decide)) q
    · exact Int64.not_lt.mpr q z3
theorem wp_0 {i9 n pid : Nat} {r0 r1 sd fl kd ts : Int32} {t0 : Int64} {u a b : MWQ} {wf : Nat → Nat} {wr : Nat → Int32} (hi9 : i9 ≤ 2097151) (hn : n ≤ 4000) (ht0 : t0 < 8589934592) (h1 : r1 = nI (([] : List Int32) ++ ppL pid 0 (9 + tx t0 + n) 0 ((([] : List Int32) ++ phL kd t0 ts) ++ gnL sd n)).length)
    (h : ((nI i9 < 0 ∨ 2097151 < nI i9 ∨ nI n < 0 ∨ 4000 < nI n ∨ 8589934592 ≤ t0) ∧ r0 = 0 ∧ u = a) ∨ (∃ a9 b9 : Nat, nI i9 = nI a9 ∧ a9 ≤ 2097151 ∧ nI n = nI b9 ∧ b9 ≤ 4000 ∧ t0 < 8589934592 ∧ ((¬ wpRm ([] : List Int32).length t0 b9 ∧ r0 = -1 ∧ u = b) ∨ (wpRm ([] : List Int32).length t0 b9 ∧ MW [] (mpL (nI (a9 / 8192)) t0 (if fl = 0 then 0 else (nI (b9 + 3 + tx t0)).toInt64) sd b9) (a9 % 8192) wf wr u r0)))) : u.1 = 0 ∧ r1 = r0 := by
  rcases h with ⟨q, -⟩ | ⟨a9, b9, -, -, e2, hb9, -, ⟨z, -⟩ | ⟨-, z1, -, z2, -, z3⟩⟩
  · exfalso
    rcases q with q | q | q | q | q
    · exact nI_pos (by omega) q
    · exact Int32.not_lt.mpr (nI_le (a := i9) (b := 2097151) hi9 (by decide)) q
    · exact nI_pos (by omega) q
    · exact Int32.not_lt.mpr (nI_le (a := n) (b := 4000) hn (by decide)) q
    · exact Int64.not_lt.mpr q ht0
  · exfalso
    have htx := tx_le t0
    obtain rfl := nI_inj (by omega) (by omega) e2
    apply z
    unfold wpRm
    simp only [List.length_nil]
    omega
  · obtain rfl := nI_inj (by omega) (by omega) e2
    refine ⟨z1, ?_⟩
    rw [h1, z3, z2, List.nil_append, List.nil_append, List.nil_append]
    have l1 : (phL kd t0 ts ++ gnL sd n).length = 9 + tx t0 + n := by rw [List.length_append, ph_len, gn_len, tx_9]
    have l2 : (mpL (nI (a9 / 8192)) t0 (if fl = 0 then 0 else (nI (n + 3 + tx t0)).toInt64) sd n).length = 9 + tx t0 + n := by rw [mpL, List.length_append, mp_len, mg_len]
    rw [l2, pp_len _ _ _ _ _ l1 (Nat.le_refl _), pp_len _ _ _ _ _ l2 (Nat.le_refl _)]
theorem wo_no {i how r0 : Int32} {t0 ln : Int64} {U : Type} {u a : U} {P : Nat → Prop} (hb : i < 0 ∨ 8191 < i ∨ how < 0 ∨ 63 < how ∨ t0 < 0 ∨ 8589934592 ≤ t0 ∨ ln < 0) (h : ((i < 0 ∨ 8191 < i ∨ how < 0 ∨ 63 < how ∨ t0 < 0 ∨ 8589934592 ≤ t0 ∨ ln < 0) ∧ r0 = 0 ∧ u = a) ∨ (¬ (how < 0 ∨ 63 < how ∨ t0 < 0 ∨ 8589934592 ≤ t0 ∨ ln < 0) ∧ ∃ a9 : Nat, i = nI a9 ∧ a9 ≤ 8191 ∧ P a9)) : u = a := by
  rcases h with ⟨-, -, z⟩ | ⟨z, a, rfl, z1, -⟩
  · exact z
  · rcases hb with q | q | q
    · exact absurd q (nI_pos (by omega))
    · exact absurd q (Int32.not_lt.mpr (nI_le (a := a) (b := 8191) z1 (by decide)))
    · exact absurd q z
theorem wo_0 {pid : Nat} {nm how r0 r1 : Int32} {t0 ln : Int64} {u a b : MWQ} {wf : Nat → Nat} {wr : Nat → Int32} {X : List Int32} (hX : X.length ≤ 180) (hp : pid < 8192) (hb : ¬ (how < 0 ∨ 63 < how ∨ t0 < 0 ∨ 8589934592 ≤ t0 ∨ ln < 0)) (h1 : r1 = nI (([] : List Int32) ++ ppL pid 0 184 0 (esL X)).length)
    (h : ((nI pid < 0 ∨ 8191 < nI pid ∨ how < 0 ∨ 63 < how ∨ t0 < 0 ∨ 8589934592 ≤ t0 ∨ ln < 0) ∧ r0 = 0 ∧ u = a) ∨ (¬ (how < 0 ∨ 63 < how ∨ t0 < 0 ∨ 8589934592 ≤ t0 ∨ ln < 0) ∧ ∃ a9 : Nat, nI pid = nI a9 ∧ a9 ≤ 8191 ∧ ((¬ ([] : List Int32).length + 188 ≤ 9400 ∧ r0 = -1 ∧ u = b) ∨ (([] : List Int32).length + 188 ≤ 9400 ∧ MW [] (sealL 3 (moL nm how t0 ln)) a9 wf wr u r0)))) : u.1 = 0 ∧ r1 = r0 := by
  rcases h with ⟨q, -⟩ | ⟨-, a9, -, -, ⟨z, -⟩ | ⟨-, z1, -, z2, -, z3⟩⟩
  · exfalso
    rcases q with q | q | q
    · exact nI_pos (by omega) q
    · exact Int32.not_lt.mpr (nI_le (a := pid) (b := 8191) (by omega) (by decide)) q
    · exact hb q
  · exact absurd (by decide) z
  · refine ⟨z1, ?_⟩
    rw [h1, z3, z2]
    have e : (sealL 3 (moL nm how t0 ln)).length = 184 := sealL_len (mo_len nm how t0 ln).2
    rw [List.nil_append, List.nil_append, mt_188 e]
    have e2 : (esL X).length = 184 := esL_len hX
    have e3 := mt_188 (pid := pid) (w := 0) e2
    rw [e2] at e3
    rw [e3]

abbrev b_Law_law : ByteArray := code

/-! The reference's packet with a piece, in the hub -/
theorem hI_ps {A : HS} {p : Nat} {g : Option HP} {tl : Nat → Int32} {lv : Int32} {V : List PV9} {D : (Nat → Option HD) × (Nat → Bool)} (h : hI A) (hp : p < 8192) (hu : huUs A.2.2.2.1 p = 4) (hV : ∀ q, huUs V q = huUs A.2.2.2.1 q) : hI (tl, va_up A.2.1 p (huPs (A.2.1 p) g), lv, V, D) := by
  intro q hq
  show hI1 (va_up A.2.1 p (huPs (A.2.1 p) g) q) (huUs V q)
  rw [hV q]
  by_cases c : q = p
  · subst c
    rw [va_up_self]
    have h0 : (huPs (A.2.1 q) g).2.2.2.1 = [] := Classical.not_not.mp (fun z => ((h q hp).2.1 z).2 hu)
    exact ⟨Or.inl h0, fun z => absurd h0 z, fun _ => hu, by rw [h0]; exact gln_0⟩
  · rw [va_up_ne _ _ c]
    exact h q hq
theorem hI_sec {A : HS} {p : Nat} (h : hI A) (hp : p < 8192) (hu : huUs A.2.2.2.1 p = 4) : (A.2.1 p).2.2.2.1 = [] := Classical.not_not.mp (fun z => ((h p hp).2.1 z).2 hu)
theorem gz_ps {A : HS} {p : Nat} (h : (A.2.1 p).2.2.2.1 = []) : huGz (A.2.1 p) = huPs (A.2.1 p) none := by
  show (_, _, _, [], none) = (_, _, _, (A.2.1 p).2.2.2.1, none)
  rw [h]
theorem od_01 {nw : Int64} : ∀ (m : Nat) (aw : Int32) (W : List HO), (aw = 0 ∨ aw = 1) → (∀ o ∈ W, o.2.2.1 = 0 ∨ o.2.2.1 = 1) → ((huOd m nw aw W).1 = 0 ∨ (huOd m nw aw W).1 = 1)
  | 0, aw, W, h, _ => h
  | m + 1, aw, W, h, hW => by
    rw [huOd]
    cases hc : W.findIdx? (huDu nw) with
    | none => exact h
    | some j =>
      rw [List.findIdx?_eq_some_iff_getElem] at hc
      obtain ⟨hj, -, -⟩ := hc
      have hm : W.getD j oz0 ∈ W := by rw [← ho_getE hj]; exact List.getElem_mem hj
      refine od_01 m _ _ (hW _ hm) (fun o ho => ?_)
      unfold huOb at ho
      split at ho
      · exact hW o (List.mem_of_mem_eraseIdx ho)
      · rcases List.mem_append.mp ho with q | q
        · exact hW o (List.mem_of_mem_eraseIdx q)
        · rw [List.mem_singleton.mp q]
          show (if (W.getD j oz0).2.2.1 = 0 then (1 : Int32) else 0) = 0 ∨ (if (W.getD j oz0).2.2.1 = 0 then (1 : Int32) else 0) = 1
          split
          · exact Or.inr rfl
          · exact Or.inl rfl
section PH
variable {pk : Nat → Int32} {b : Nat → Nat}
theorem sb_bb (hpk : ∀ j, j < 188 → pk j = nI (b j)) (hb : ∀ j, b j < 256) {j : Nat} (h : j < 188) : sbF pk j = b j := by
  unfold sbF
  rw [hpk j h, nI_clamp (by have := hb j; omega)]
theorem huB_24 (hb : ∀ i, b i < 256) (j : Nat) : huB b (8 * j) 24 = b j * 65536 + (b (j + 1) * 256 + b (j + 2)) := by
  rw [huB_app b (8 * j) 8 16, huB_8 hb, show 8 * j + 8 = 8 * (j + 1) by omega, huB_16 hb]
theorem hr_pn (hpk : ∀ j, j < 188 → pk j = nI (b j)) (hb : ∀ j, b j < 256) {fr : Nat} (h : fr + 9 ≤ 188) : ppN pk fr = huBt b fr ∧ ppH pk fr = huBe b fr := by
  unfold ppN ppH huBt huBe
  rw [sb_bb hpk hb (show fr + 4 < 188 by omega), sb_bb hpk hb (show fr + 5 < 188 by omega), sb_bb hpk hb (show fr + 8 < 188 by omega), huB_16 hb]
  exact ⟨rfl, rfl⟩
theorem hr_po (hpk : ∀ j, j < 188 → pk j = nI (b j)) (hb : ∀ j, b j < 256) {fr : Nat} : ppO pk fr ↔ huBok b fr := by
  unfold ppO huBok
  by_cases h9 : fr + 9 ≤ 188
  · obtain ⟨e1, e2⟩ := hr_pn hpk hb h9
    have e3 : pk (fr + 6) >>> ((6 : Int32) &&& 31) = 2 ↔ b (fr + 6) / 64 = 2 := by
      rw [hpk _ (by omega), op_sh6 _ (hb _)]
      exact nI_eq (b := 2) (by have := hb (fr + 6); omega) (by decide)
    rw [e1, e2, e3, huB_24 hb, hpk fr (by omega), hpk (fr + 1) (by omega), hpk (fr + 2) (by omega)]
    have z0 : nI (b fr) = 0 ↔ b fr = 0 := nI_eq (b := 0) (by have := hb fr; omega) (by decide)
    have z1 : nI (b (fr + 1)) = 0 ↔ b (fr + 1) = 0 := nI_eq (b := 0) (by have := hb (fr + 1); omega) (by decide)
    have z2 : nI (b (fr + 2)) = 1 ↔ b (fr + 2) = 1 := nI_eq (b := 1) (by have := hb (fr + 2); omega) (by decide)
    rw [z0, z1, z2]
    have eU : (huBt b fr = 0 ∨ 0 ≤ nI (huBt b fr) - 3 - nI (huBe b fr)) ↔ (huBt b fr = 0 ∨ ¬ huBu b fr < 0) := by
      by_cases c : huBt b fr = 0
      · exact ⟨fun _ => Or.inl c, fun _ => Or.inl c⟩
      · unfold huBu
        rw [if_neg c]
        constructor
        · rintro (q | q)
          · exact Or.inl q
          · exact Or.inr (Int32.not_lt.mpr q)
        · rintro (q | q)
          · exact Or.inl q
          · exact Or.inr (Int32.not_lt.mp q)
    rw [eU]
    constructor
    · rintro ⟨a1, a2, a3, a4, a5, a6, a7⟩
      exact ⟨a6, by omega, a5, a7⟩
    · rintro ⟨a6, a2, a5, a7⟩
      exact ⟨h9, by omega, by omega, by omega, a5, a6, a7⟩
  · exact ⟨fun q => absurd q.1 h9, fun q => absurd q.1 (by omega)⟩
theorem hr_pt (hpk : ∀ j, j < 188 → pk j = nI (b j)) (hb : ∀ j, b j < 256) {fr : Nat} (h : fr + 9 ≤ 188) : ppT pk fr ↔ huBm b fr := by
  unfold ppT huBm
  rw [(hr_pn hpk hb h).2, hpk _ (by omega), bt_127 _ (hb _)]
  have e : (4 : Int32) < nI (huBe b fr) ↔ ¬ huBe b fr < 5 := by
    rw [show (4 : Int32) = nI 4 from rfl, nI_ltI (by decide) (by have : huBe b fr < 256 := hb _; omega)]
    omega
  rw [e]
  have := hb (fr + 7)
  constructor
  · rintro ⟨q1, q2⟩; exact ⟨by omega, q2⟩
  · rintro ⟨q1, q2⟩; exact ⟨by omega, q2⟩
theorem hr_pz (hpk : ∀ j, j < 188 → pk j = nI (b j)) (hb : ∀ j, b j < 256) {fr : Nat} (h : fr + 14 ≤ 188) : ppZ pk fr = lN (huTm b (fr + 9)) := by
  unfold ppZ huTm
  have h1 := huB_lt b (8 * (fr + 9) + 4) 3
  have h2 := huB_lt b (8 * (fr + 9) + 8) 15
  have h3 := huB_lt b (8 * (fr + 9) + 24) 15
  rw [mb_hu hpk hb _ _ (by omega), mb_hu hpk hb _ _ (by omega), mb_hu hpk hb _ _ (by omega)]
  have e : ∀ a b c : Int64, (a ||| b) ||| c = a ||| (b ||| c) := fun a b c => Int64.or_assoc ..
  rw [e, lsh_orK (k := 15) (by decide) (by omega) (by omega) h3, lsh_orK (k := 30) (by decide) (by omega) (by omega) (by omega)]
theorem huTm_lt (i : Nat) : huTm b i < 2 ^ 33 := by
  have h1 := huB_lt b (8 * i + 4) 3
  have h2 := huB_lt b (8 * i + 8) 15
  have h3 := huB_lt b (8 * i + 24) 15
  unfold huTm
  omega
end PH
/-- a piece ends -/
theorem hr_pe {A : HS} {y w : PS7} {gg : PG} {ng : Nat} {sY : Nat → Int32} {p : Nat} (hy : hY A y gg ng sY) (hnp : y.1.1 < 2 ^ 30) (hp : p < 8192) (hA : hI A) (hu : huUs A.2.2.2.1 p = 4) (h : ppE y (nI p) w) : hY (huEp p A) w gg ng sY ∧ hI (huEp p A) ∧ ¬ hga ((huEp p A).2.1 p) ∧ (huEp p A).2.2.2.1 = A.2.2.2.1 ∧ w.1.1 ≤ y.1.1 + 1 ∧ w.2 = y.2 := by
  have hy0 := hy
  obtain ⟨htl, ⟨h9, hb⟩, hsl, hd, ht⟩ := hy
  have hsec := hI_sec hA hp hu
  have hgu : hY (huGu p A) (pgv y (nI p)) gg ng sY ∧ hI (huGu p A) ∧ ¬ hga ((huGu p A).2.1 p) := by
    have hg := hr_gu (tl := y.1.2.1) hsl hp (Or.inl hsec)
    refine ⟨⟨?_, ⟨?_, hb⟩, hg.1, hd, ht⟩, ?_, ?_⟩
    · show (gvU (y.1.2.2.1, y.1.2.1) (nI p)).2 = addc A.1 (huN1 (A.2.1 p))
      rw [hg.2.1, htl]
    · show addc A.1 (huN1 (A.2.1 p)) 9 = nI y.1.1
      unfold addc
      rw [pk_un (by decide)]
      exact h9
    · unfold huGu
      rw [gz_ps hsec]
      exact hI_ps hA hp hu (fun _ => rfl)
    · show ¬ hga (va_up A.2.1 p (huGz (A.2.1 p)) p)
      rw [va_up_self]
      exact hga_gz _
  cases hc : (A.2.1 p).2.2.2.2 with
  | none =>
    have e9 : huEp p A = huGu p A := by unfold huEp; rw [hc]
    rw [e9]
    have hno := sq_no hsl hp (fun q => q.elim (fun z => z hsec) (fun z => z hc)) (by intro q; cases q)
    rcases h with ⟨k, hk, hs, -⟩ | ⟨-, rfl⟩
    · rw [sl_ne hp hno] at hs
      exact absurd hs.symm (nI_neN (by omega))
    · exact ⟨hgu.1, hgu.2.1, hgu.2.2, rfl, Nat.le_succ _, rfl⟩
  | some g =>
    have e9 : huEp p A = if g.2.2.2.2.2 = -1 then huDn p g A else huGu p A := by unfold huEp; rw [hc]
    rw [e9]
    obtain ⟨k, hk, he, hgr⟩ := hsl.2.2.2 p g hp hc
    have hat := sl_at hsl hk he hp
    have hdue : y.2.2.2.1 k = -1 ↔ g.2.2.2.2.2 = -1 := by
      rcases hgr.2.2.2.2.2 with ⟨q1, q2⟩ | ⟨a, b0, w0, w1, w2, w3, w4⟩
      · exact ⟨fun _ => q2, fun _ => q1⟩
      · rw [w2, w4]
        exact ⟨fun z => absurd z (nI_neN (by omega)), fun z => absurd z (nI_neN (by omega))⟩
    rcases h with ⟨k2, hk2, hs, hw1, rfl⟩ | ⟨hn, rfl⟩
    · have hkk : k2 = k := (nI_eq (by omega) (by omega)).mp (hs.symm.trans hat)
      subst hkk
      rw [if_pos (hdue.mp hw1)]
      have := hr_dn (g := g) (sZ2 := y.2.1) (su2 := y.2.2.2.2.1) hy0 (by omega) hk he hp hsec hgr.1 (fun _ _ => rfl) (fun _ _ => rfl)
      refine ⟨?_, ?_, ?_, rfl, Nat.le_refl _, rfl⟩
      · unfold pfi
        rw [hgr.2.1, hgr.2.2.1, hgr.2.2.2.1, hgr.2.2.2.2.1]
        exact this
      · exact hI_ps hA hp hu (fun _ => rfl)
      · show ¬ hga (va_up A.2.1 p (huPs (A.2.1 p) none) p)
        rw [va_up_self]
        exact fun q => q.elim (fun z => z hsec) (fun z => z rfl)
    · rw [if_neg (fun q => hn k hat hk (hdue.mpr q))]
      exact ⟨hgu.1, hgu.2.1, hgu.2.2, rfl, Nat.le_succ _, rfl⟩
/-- NOW moves, and what is due is obeyed -/
theorem hr_mn {A : HS} {y : PS7} {gg : PG} {ng kp m : Nat} {p : Nat} {t : Int64} {s : OB7} (ht : tbR (gY gg y) ng A.2.2.2.1) (hT : hrT t) (how : huOw A.2.2.2.1 p = some kp) (h : obN kp (vp_updL y.2.2.2.2.2.2.2.2.2.1 kp t) m ((y.2.2.2.2.2.2.2.2.2.2, y.2.2.2.2.2.2.2.2.1), y.2.2.2.2.2.2.2.1) s) {y2 : PS7} (e1 : y2.2.2.2.2.2.2.2.1 = s.2) (e2 : y2.2.2.2.2.2.2.2.2.1 = s.1.2) (e3 : y2.2.2.2.2.2.2.2.2.2.1 = vp_updL y.2.2.2.2.2.2.2.2.2.1 kp t) (e4 : y2.2.2.2.2.2.2.2.2.2.2 = s.1.1) : tbR (gY gg y2) ng (huMn A.2.2.2.1 p t) := by
  have hkp : kp < A.2.2.2.1.length := by
    unfold huOw at how
    rw [List.findIdx?_eq_some_iff_getElem] at how
    exact how.1
  have hkn : kp < ng := by rw [← ht.1]; exact hkp
  obtain ⟨⟨p1, p2, p3, p4, p5, p6, p7, p8, p9, p10⟩, hs, hr⟩ := ht.2.2 kp hkn
  have hn : hrT (vp_updL y.2.2.2.2.2.2.2.2.2.1 kp t kp) := by rw [vl_s]; exact hT
  have hon := hr_on (k := kp) (nw := vp_updL y.2.2.2.2.2.2.2.2.2.1 kp t) hn (s := ((y.2.2.2.2.2.2.2.2.2.2, y.2.2.2.2.2.2.2.2.1), y.2.2.2.2.2.2.2.1)) _ hr h rfl 12 (Nat.le_trans (mz_le _) (by have := hr.2.1; omega))
  rw [vl_s] at hon
  obtain ⟨o1, o2, o3, o4⟩ := hon
  have p7' : y.2.2.2.2.2.2.2.1 kp = (A.2.2.2.1.getD kp pv0).2.2.2.2.1 := p7
  unfold huMn
  rw [how]
  show tbR (gY gg y2) ng (A.2.2.2.1.set kp (huVa (A.2.2.2.1.getD kp pv0) t (huOd 12 t (A.2.2.2.1.getD kp pv0).2.2.2.2.1 (A.2.2.2.1.getD kp pv0).2.2.2.2.2.2.2)))
  have o1 : hrR s.1.1 s.1.2 kp (huOd 12 t (y.2.2.2.2.2.2.2.1 kp) (A.2.2.2.1.getD kp pv0).2.2.2.2.2.2.2).2 := o1
  have o3 : s.2 kp = (huOd 12 t (y.2.2.2.2.2.2.2.1 kp) (A.2.2.2.1.getD kp pv0).2.2.2.2.2.2.2).1 := o3
  rw [p7'] at o1 o3
  refine tb_set ht hkn ⟨⟨p1, p2, p3, p4, p5, p6, ?_, ?_, ?_, Or.inr hT⟩, hs, ?_⟩ (fun x hx v hv => ⟨?_, hv.2.1, ?_⟩)
  · show y2.2.2.2.2.2.2.2.1 kp = _
    rw [e1]; exact o3
  · refine od_01 12 _ _ p8 (fun o ho => ?_)
    obtain ⟨j, hj, rfl⟩ := List.getElem_of_mem ho
    rw [ho_getE hj]
    exact (hr.2.2 j hj).2.2.1
  · show y2.2.2.2.2.2.2.2.2.2.1 kp = t
    rw [e3]; exact vl_s
  · show hrR y2.2.2.2.2.2.2.2.2.2.2 y2.2.2.2.2.2.2.2.2.1 kp _
    rw [e4, e2]; exact o1
  · obtain ⟨r1, r2, r3, r4, r5, r6, r7, r8, r9, r10⟩ := hv.1
    refine ⟨r1, r2, r3, r4, r5, r6, ?_, r8, ?_, r10⟩
    · show y2.2.2.2.2.2.2.2.1 x = _
      rw [e1]; exact (o4 x hx).trans r7
    · show y2.2.2.2.2.2.2.2.2.2.1 x = _
      rw [e3, vl_n hx]; exact r9
  · show hrR y2.2.2.2.2.2.2.2.2.2.2 y2.2.2.2.2.2.2.2.2.1 x _
    rw [e4, e2]; exact fr_hr o2 hx hv.2.2
/-- a packet's piece -/
theorem hr_pp {A : HS} {y t : PS7} {gg : PG} {ng N kp : Nat} {sY pk : Nat → Int32} {b : Nat → Nat} {p : Nat} {st : Int32} (hy : hY A y gg ng sY) (hnp : y.1.1 < 2 ^ 30) (hB9 : hB N A) (hN : N < 2 ^ 30) (hpk : ∀ j, j < 188 → pk j = nI (b j)) (hb : ∀ j, b j < 256) (hp : p < 8192) (hA : hI A) (hu : huUs A.2.2.2.1 p = 4) (how : huOw A.2.2.2.1 p = some kp) (hfr : huPay b < 188) (hst : st = 0 ↔ b 1 / 64 % 2 = 0) (h : ppP pk (nI p) (huPay b) st kp y t) : hY (huPi b p A) t gg ng sY ∧ t.1.1 ≤ y.1.1 + 2 := by
  have hsec := hI_sec hA hp hu
  unfold huPi
  rcases h with ⟨h0, h⟩ | ⟨h0, w, hE, h⟩
  · rw [if_pos (hst.mp h0)]
    rcases h with ⟨hs, rfl⟩ | ⟨k, hk, hs, hga⟩
    · have hno : (A.2.1 p).2.2.2.2 = none := by
        apply Classical.byContradiction
        intro q
        obtain ⟨k, hk, he⟩ := sl_yes hy.2.2.1 hp (Or.inl (Or.inr q))
        rw [sl_at hy.2.2.1 hk he hp] at hs
        exact nI_neN (by omega) hs
      unfold huGt
      rw [hno]
      exact ⟨hy, by omega⟩
    · have he : y.1.2.2.1 k = nI p := by
        rcases slG_cs y.1.2.2.1 (nI p) 24 (Nat.le_refl _) with ⟨q1, -⟩ | ⟨j, -, hj, q2, q3⟩
        · rw [hs] at q1; exact absurd q1 (nI_neN (by omega))
        · have : j = k := (nI_eq (by omega) (by omega)).mp (q2.symm.trans hs)
          rw [← this]; exact q3
      have hg : ¬ (A.2.1 p).2.2.2.2 = none := by
        rcases hy.2.2.1.1 k hk with q | ⟨q, hq, hq2, hq3⟩
        · rw [he] at q; exact absurd q (nI_neN (by omega))
        · have : q = p := (nI_eq (by omega) (by omega)).mp (hq2.symm.trans he)
          subst this
          rcases hq3 with (z | z) | z
          · exact absurd hsec z
          · exact z
          · cases z
      cases hc : (A.2.1 p).2.2.2.2 with
      | none => exact absurd hc hg
      | some g =>
        have := hr_ga hy (by omega) hB9 hN hpk (by omega) hk he hp hsec hc hga
        exact ⟨this.1, by omega⟩
  · rw [if_neg (mt hst.mpr h0)]
    obtain ⟨k1, k2, k3, k4, k5, k6⟩ := hr_pe hy hnp hp hA hu hE
    have hu2 : huUs (huEp p A).2.2.2.1 p = 4 := by rw [k4]; exact hu
    have hsec2 := hI_sec k2 hp hu2
    have hpo := hr_po hpk hb (fr := huPay b)
    unfold huBp
    rcases h with ⟨hno, rfl⟩ | ⟨hO, k, hk, hkf, h⟩
    · rw [if_neg (mt hpo.mpr hno)]
      show hY (huGt b 188 p (huEp p A)) _ gg ng sY ∧ _
      unfold huGt
      rw [Classical.not_not.mp (fun q => k3 (Or.inr q))]
      exact ⟨k1, by omega⟩
    · have hok := hpo.mp hO
      have h9 : huPay b + 9 ≤ 188 := hO.1
      obtain ⟨eN, eH⟩ := hr_pn hpk hb h9
      have hpt := hr_pt hpk hb h9
      rw [if_pos hok]
      have hfk : w.1.2.2.1 k = -1 := by
        rcases slG_cs w.1.2.2.1 (-1) 24 (Nat.le_refl _) with ⟨q1, -⟩ | ⟨j, -, hj, q2, q3⟩
        · rw [hkf] at q1; exact absurd q1 (nI_neN (by omega))
        · have : j = k := (nI_eq (by omega) (by omega)).mp (q2.symm.trans hkf)
          rw [← this]; exact q3
      rw [eH] at h
      have hbt : huBt b (huPay b) < 65536 := huB_lt _ _ _
      have hbe : huBe b (huPay b) < 256 := hb _
      have hwd : ∀ (t0 : Int64), hgR p k (nI p, nI (b (huPay b + 3)), t0, 0, 0, huBu b (huPay b)) (upd w.2.1 k 0) (upd w.2.2.1 k (pk (huPay b + 3))) (upd w.2.2.2.1 k (if ppN pk (huPay b) = 0 then -1 else nI (ppN pk (huPay b)) - 3 - nI (ppH pk (huPay b)))) (upd w.2.2.2.2.1 k 0) (vp_updL w.2.2.2.2.2.2.1 k t0) := by
        intro t0
        refine ⟨rfl, ?_, vl_s, pk_us, pk_us, ?_⟩
        · rw [pk_us, hpk _ (by omega)]
        · rw [pk_us, eN, eH]
          show ((if huBt b (huPay b) = 0 then (-1 : Int32) else _) = -1 ∧ huBu b (huPay b) = -1) ∨ _
          unfold huBu
          by_cases c : huBt b (huPay b) = 0
          · rw [if_pos c]
            exact Or.inl ⟨rfl, rfl⟩
          · rw [if_neg c]
            have hge := hok.2.2.2.resolve_left c
            unfold huBu at hge
            rw [if_neg c] at hge
            have hle : 3 + huBe b (huPay b) ≤ huBt b (huPay b) := by
              apply Decidable.byContradiction
              intro q
              apply hge
              rw [Int32.lt_iff_toInt_lt, Int32.toInt_sub, Int32.toInt_sub, nI_toInt (by omega), nI_toInt (by omega)]
              have h3 : (3 : Int32).toInt = 3 := by decide
              have h0 : (0 : Int32).toInt = 0 := by decide
              rw [h3, h0]
              have e1 : ((huBt b (huPay b) : Int) - 3).bmod (2 ^ 32) = (huBt b (huPay b) : Int) - 3 := Int.bmod_eq_of_le (by omega) (by omega)
              rw [e1, Int.bmod_eq_of_le (by omega) (by omega)]
              omega
            have e9 : nI (huBt b (huPay b)) - 3 - nI (huBe b (huPay b)) = nI (huBt b (huPay b) - 3 - huBe b (huPay b)) := by
              rw [show huBt b (huPay b) = (huBt b (huPay b) - 3 - huBe b (huPay b)) + huBe b (huPay b) + 3 by omega, ← nI_add, ← nI_add]
              show nI _ + nI _ + 3 - 3 - nI _ = _
              rw [Int32.add_sub_cancel, Int32.add_sub_cancel]
              congr 1
              omega
            exact Or.inr ⟨huBt b (huPay b) - 3 - huBe b (huPay b), 0, by omega, by omega, e9, rfl, e9⟩
      have hsl := k1.2.2.1
      -- the piece has its place
      have hbeg : ∀ (t0 : Int64), slR (va_up (huEp p A).2.1 p (huPs ((huEp p A).2.1 p) (some (nI p, nI (b (huPay b + 3)), t0, 0, 0, huBu b (huPay b))))) none (upd w.1.2.2.1 k (nI p)) sY (upd w.2.1 k 0) (upd w.2.2.1 k (pk (huPay b + 3))) (upd w.2.2.2.1 k (if ppN pk (huPay b) = 0 then -1 else nI (ppN pk (huPay b)) - 3 - nI (ppH pk (huPay b)))) (upd w.2.2.2.2.1 k 0) (vp_updL w.2.2.2.2.2.2.1 k t0) := fun t0 => sl_pc hsl hk hp (Or.inl ⟨hfk, k3⟩) (fun i hi => pk_un hi) (fun i hi => pk_un hi) (fun i hi => pk_un hi) (fun i hi => pk_un hi) (fun i hi => vl_n hi) (hwd t0)
      have hB2 : ∀ (t0 : Int64) (V : List PV9), hB N ((huEp p A).1, va_up (huEp p A).2.1 p (huPs ((huEp p A).2.1 p) (some (nI p, nI (b (huPay b + 3)), t0, 0, 0, huBu b (huPay b)))), (huEp p A).2.2.1, V, (huEp p A).2.2.2.2) := by
        intro t0 V q g hq hg
        have hg : (va_up (huEp p A).2.1 p (huPs ((huEp p A).2.1 p) (some (nI p, nI (b (huPay b + 3)), t0, 0, 0, huBu b (huPay b)))) q).2.2.2.2 = some g := hg
        by_cases c : q = p
        · rw [c, va_up_self] at hg
          have : (nI p, nI (b (huPay b + 3)), t0, 0, 0, huBu b (huPay b)) = g := Option.some.inj hg
          rw [← this]
          exact ⟨0, Nat.zero_le _, rfl⟩
        · rw [va_up_ne _ _ c] at hg
          refine hB9 q g hq ?_
          rw [← hg]
          unfold huEp
          cases (A.2.1 p).2.2.2.2 with
          | none => show _ = (va_up A.2.1 p _ q).2.2.2.2; rw [va_up_ne _ _ c]
          | some g0 =>
            show _ = ((if g0.2.2.2.2.2 = -1 then huDn p g0 A else huGu p A).2.1 q).2.2.2.2
            split
            · show _ = (va_up A.2.1 p _ q).2.2.2.2; rw [va_up_ne _ _ c]
            · show _ = (va_up A.2.1 p _ q).2.2.2.2; rw [va_up_ne _ _ c]
      rcases h with ⟨hT, hga⟩ | ⟨hT, m, s, hob, hga⟩
      · have hm : ¬ huBm b (huPay b) := mt hpt.mpr hT
        have hz : huBz b (huPay b) = -1 := by unfold huBz; exact if_neg hm
        rw [hz, if_neg hm]
        have hy3 : hY ((huEp p A).1, va_up (huEp p A).2.1 p (huPs ((huEp p A).2.1 p) (some (nI p, nI (b (huPay b + 3)), -1, 0, 0, huBu b (huPay b)))), (huEp p A).2.2.1, (huEp p A).2.2.2.1, (huEp p A).2.2.2.2) (ppB pk (nI p) (huPay b) k (-1) w) gg ng sY := ⟨k1.1, k1.2.1, hbeg (-1), k1.2.2.2.1, k1.2.2.2.2⟩
        have := hr_ga hy3 (by show w.1.1 < _; omega) (hB2 (-1) _) hN hpk (show huPay b + 9 + huBe b (huPay b) ≤ 188 from hok.1) hk pk_us hp (by show ((va_up (huEp p A).2.1 p _ p : HL)).2.2.2.1 = []; rw [va_up_self]; exact hsec2) (by show ((va_up (huEp p A).2.1 p _ p : HL)).2.2.2.2 = _; rw [va_up_self]; rfl) hga
        refine ⟨this.1, Nat.le_trans this.2 ?_⟩
        show w.1.1 + 1 ≤ _
        omega
      · have hm : huBm b (huPay b) := hpt.mp hT
        have hbe5 : 5 ≤ huBe b (huPay b) := by have := hm.2; omega
        have hz : huBz b (huPay b) = lN (huTm b (huPay b + 9)) := by unfold huBz; exact if_pos hm
        have hpz := hr_pz hpk hb (fr := huPay b) (by have := hok.1; omega)
        rw [hz, if_pos hm]
        rw [hpz] at hob hga
        have htb := hr_mn (A := huEp p A) (y := w) (y2 := ((ppB pk (nI p) (huPay b) k (lN (huTm b (huPay b + 9))) w).1, (ppB pk (nI p) (huPay b) k (lN (huTm b (huPay b + 9))) w).2.1, (ppB pk (nI p) (huPay b) k (lN (huTm b (huPay b + 9))) w).2.2.1, (ppB pk (nI p) (huPay b) k (lN (huTm b (huPay b + 9))) w).2.2.2.1, (ppB pk (nI p) (huPay b) k (lN (huTm b (huPay b + 9))) w).2.2.2.2.1, (ppB pk (nI p) (huPay b) k (lN (huTm b (huPay b + 9))) w).2.2.2.2.2.1, (ppB pk (nI p) (huPay b) k (lN (huTm b (huPay b + 9))) w).2.2.2.2.2.2.1, s.2, s.1.2, vp_updL w.2.2.2.2.2.2.2.2.2.1 kp (lN (huTm b (huPay b + 9))), s.1.1)) (gg := gg) (ng := ng) k1.2.2.2.2 ⟨_, huTm_lt _, rfl⟩ (by rw [k4]; exact how) hob rfl rfl rfl rfl
        have hy3 : hY ((huEp p A).1, va_up (huEp p A).2.1 p (huPs ((huEp p A).2.1 p) (some (nI p, nI (b (huPay b + 3)), lN (huTm b (huPay b + 9)), 0, 0, huBu b (huPay b)))), (huEp p A).2.2.1, huMn (huEp p A).2.2.2.1 p (lN (huTm b (huPay b + 9))), (huEp p A).2.2.2.2) ((ppB pk (nI p) (huPay b) k (lN (huTm b (huPay b + 9))) w).1, (ppB pk (nI p) (huPay b) k (lN (huTm b (huPay b + 9))) w).2.1, (ppB pk (nI p) (huPay b) k (lN (huTm b (huPay b + 9))) w).2.2.1, (ppB pk (nI p) (huPay b) k (lN (huTm b (huPay b + 9))) w).2.2.2.1, (ppB pk (nI p) (huPay b) k (lN (huTm b (huPay b + 9))) w).2.2.2.2.1, (ppB pk (nI p) (huPay b) k (lN (huTm b (huPay b + 9))) w).2.2.2.2.2.1, (ppB pk (nI p) (huPay b) k (lN (huTm b (huPay b + 9))) w).2.2.2.2.2.2.1, s.2, s.1.2, vp_updL w.2.2.2.2.2.2.2.2.2.1 kp (lN (huTm b (huPay b + 9))), s.1.1) gg ng sY := ⟨k1.1, k1.2.1, hbeg _, k1.2.2.2.1, htb⟩
        have := hr_ga hy3 (by show w.1.1 < _; omega) (hB2 _ _) hN hpk (show huPay b + 9 + huBe b (huPay b) ≤ 188 from hok.1) hk pk_us hp (by show ((va_up (huEp p A).2.1 p _ p : HL)).2.2.2.1 = []; rw [va_up_self]; exact hsec2) (by show ((va_up (huEp p A).2.1 p _ p : HL)).2.2.2.2 = _; rw [va_up_self]; rfl) hga
        refine ⟨this.1, Nat.le_trans this.2 ?_⟩
        show w.1.1 + 1 ≤ _
        omega


/-! One packet: the reference and the hub -/
def kp9 (A B : HS) : Prop := B.1 9 = A.1 9 ∧ B.2.2.2.2.1 = A.2.2.2.2.1
theorem kp9_t {A B C : HS} (h1 : kp9 A B) (h2 : kp9 B C) : kp9 A C := ⟨h2.1.trans h1.1, h2.2.trans h1.2⟩
theorem kp9_es (X : List Nat) (p : Nat) (A : HS) : kp9 A (huEs X p A) := by
  unfold huEs
  split
  · split
    · exact ⟨(addc_9 (f := cup A.1 6) (x := huNn A.2.1 p 8192)).trans (cup_9 (k := 6) (by decide)), rfl⟩
    · exact ⟨cup_9 (k := 6) (by decide), rfl⟩
  · exact ⟨cup_9 (k := 7) (by decide), rfl⟩
theorem kp9_gu (p : Nat) (A : HS) : kp9 A (huGu p A) := ⟨addc_9 (f := A.1) (x := huN1 (A.2.1 p)), rfl⟩
theorem kp9_gr (b : Nat → Nat) (a e p : Nat) (A : HS) : kp9 A (huGr b a e p A).2 := by
  unfold huGr
  split
  · exact ⟨rfl, rfl⟩
  · split
    · exact ⟨addc_9 (f := A.1) (x := huN1 (huSc (A.2.1 p) (huGo b (e - a) a (A.2.1 p).2.2.2.1).2.2)), rfl⟩
    · exact kp9_es _ p (huRp p A)
theorem kp9_ul (b : Nat → Nat) (p : Nat) : ∀ (m i : Nat) (A : HS), kp9 A (huUl b p m i A)
  | 0, _, A => ⟨rfl, rfl⟩
  | m + 1, i, A => by
    rw [huUl]
    split
    · have h := kp9_gr b i 188 p A
      split
      · rename_i A1 he
        rw [he] at h
        exact h
      · rename_i j A1 he
        rw [he] at h
        exact kp9_t h (kp9_ul b p m j A1)
    · exact ⟨rfl, rfl⟩
theorem kp9_se (b : Nat → Nat) (p : Nat) (A : HS) : kp9 A (huSe b p A) := by
  unfold huSe
  split
  · split
    · exact ⟨rfl, rfl⟩
    · exact kp9_gr _ _ _ _ _
  · split
    · exact kp9_gu p A
    · split
      · exact kp9_ul _ _ _ _ _
      · have h := kp9_gr b (huPay b + 1) (huPay b + 1 + b (huPay b)) p A
        split
        · rename_i A1 he
          rw [he] at h
          exact h
        · rename_i j A1 he
          rw [he] at h
          exact kp9_t h (kp9_t (kp9_gu p A1) (kp9_ul _ _ _ _ _))
theorem fo_lane {tl : Nat → Int32} {z : HL} {c lt : Int32} (h : (huFo tl z c lt).1 = true) : (huFo tl z c lt).2.2.1 = c ∧ (huFo tl z c lt).2.2.2.1 = 0 := by
  unfold huFo at h ⊢
  by_cases c1 : c = z.1 ∧ lt = 0 ∧ z.2.1 = 0
  · rw [if_pos c1] at h
    cases h
  · rw [if_neg c1]
    by_cases c2 : ¬ z.1 = -1 ∧ ¬ c = (z.1 + 1) &&& 15 ∧ lt = 0
    · rw [if_pos c2]
      exact ⟨rfl, rfl⟩
    · rw [if_neg c2]
      exact ⟨rfl, rfl⟩
theorem a1_lane {b : Nat → Nat} {A : HS} (h : (huO1 b A).1 = true) : (huO1 b A).2.2.1 = nI (b 3 % 16) ∧ (huO1 b A).2.2.2.1 = 0 := fo_lane h
theorem hr_pk {A : HS} {y t : RK9} {tp : Nat → Int32} {fr M : Nat} {b : Nat → Nat} (h : hK A y) (hm : hM M A) (hM9 : 188 * (M + 1) < 2 ^ 30) (hnp : kN y + 2 < 2 ^ 30) (hbt : ∀ j, j < 188 → tp (fr + j) = nI (b j)) (hb : ∀ j, b j < 256) (hk : kpP tp fr y t) : hK (huPk b A) t ∧ hM (M + 1) (huPk b A) ∧ kN t ≤ kN y + 2 := by
  obtain ⟨pk, h1, -, h3⟩ := hk
  have hpk : ∀ j, j < 188 → pk j = nI (b j) := fun j hj => (h1 j hj).trans (hbt j hj)
  have hp := huId_lt hb
  have h0 := h
  obtain ⟨⟨htl, hlv, htb, hsl, hse⟩, h9, hd, hall⟩ := h
  obtain ⟨hA, hC9, hB9⟩ := hm
  obtain ⟨e1, e2, e3, e4, e5⟩ := k_sb hpk hb
  have ek := k_k hpk hb y.2.2.2.1
  have hbad := k_bad hpk hb
  have hB1 : hB (188 * (M + 1)) A := hB_le hB9 (by omega)
  unfold huPk
  rcases h3 with ⟨q1, rfl⟩ | ⟨q1, h3⟩
  · rw [if_pos (hbad.mp q1)]
    refine ⟨⟨⟨?_, hlv, htb, hsl, hse⟩, ?_, hd, hall⟩, ⟨hA, hC9, hB1⟩, by show kN y ≤ _; omega⟩
    · show cup (cup (kq y).tl 1) 2 = cup (cup A.1 1) 2
      rw [htl]
    · show cup (cup A.1 1) 2 9 = _
      rw [cup_9 (by decide), cup_9 (by decide)]; exact h9
  · rw [if_neg (mt hbad.mpr q1)]
    have hbd := mt hbad.mpr q1
    -- a lane whose section and piece stay
    have keep : ∀ (z : HL), z.2.2.2 = (A.2.1 (huId b)).2.2.2 → ∀ q, q < 8192 → (va_up A.2.1 (huId b) z q).2.2.2 = (A.2.1 q).2.2.2 := fun z hz q hq => by
      by_cases c : q = huId b
      · rw [c, va_up_self]; exact hz
      · rw [va_up_ne _ _ c]
    rcases h3 with ⟨q2, rfl⟩ | ⟨q2, h3⟩
    · have q2' : huId b = 8191 ∨ huA b = 2 := by rw [← e3, ← e1]; exact q2
      rw [if_pos q2']
      have hkp := keep (huCz b (A.2.1 (huId b))) rfl
      refine ⟨⟨⟨?_, hlv, htb, sl_eq hsl hkp, hse⟩, ?_, hd, fun q hq => ?_⟩, ⟨hI_eq hA rfl hkp, hC_up (p := huId b) (z := huCz b (A.2.1 (huId b))) hC9 rfl (hC9 _ hp), hB_sub hB1 (fun q hq => Or.inr ?_)⟩, by show kN y ≤ _; omega⟩
      · show cup (kq y).tl 1 = cup A.1 1
        rw [htl]
      · show cup A.1 1 9 = _
        rw [cup_9 (by decide)]; exact h9
      · show y.2.1 q = (va_up A.2.1 (huId b) (huCz b (A.2.1 (huId b))) q).1 ∧ y.2.2.1 q = (va_up A.2.1 (huId b) (huCz b (A.2.1 (huId b))) q).2.1 ∧ kK pk y.2.2.2.1 q = (va_up A.2.1 (huId b) (huCz b (A.2.1 (huId b))) q).2.2.1
        rw [ek]
        by_cases c : q = huId b
        · rw [c, va_up_self, vl_s]
          obtain ⟨a1, a2, a3⟩ := hall _ hp
          exact ⟨a1, a2, by rw [a3]; rfl⟩
        · rw [va_up_ne _ _ c, vl_n c]; exact hall q hq
      · exact congrArg (fun z : List Nat × Option HP => z.2) (hkp q hq)
    · have q2' : ¬ (huId b = 8191 ∨ huA b = 2) := by rw [← e3, ← e1]; exact q2
      rw [if_neg q2']
      rcases h3 with ⟨q3, rfl⟩ | ⟨q3, h3⟩
      · -- a twin
        have hO : huO1 b A = (false, cup (cup A.1 1) 3, ((A.2.1 (huId b)).1, 1, (huCz b (A.2.1 (huId b))).2.2)) := by
          unfold huO1 huFo
          obtain ⟨a1, a2, a3⟩ := hall _ hp
          unfold kTw at q3
          rw [e3, e4, a1, a2, k_f hpk hb] at q3
          exact if_pos ⟨q3.1.symm, q3.2.1, q3.2.2⟩
        have hkp := keep ((A.2.1 (huId b)).1, 1, (huCz b (A.2.1 (huId b))).2.2) rfl
        rw [hO, if_pos rfl]
        unfold huA1
        rw [hO]
        refine ⟨⟨⟨?_, hlv, htb, sl_eq hsl hkp, hse⟩, ?_, hd, fun q hq => ?_⟩, ⟨hI_eq hA rfl hkp, hC_up (p := huId b) (z := ((A.2.1 (huId b)).1, 1, (huCz b (A.2.1 (huId b))).2.2)) hC9 rfl ⟨(hC9 _ hp).1, Or.inr rfl⟩, hB_sub hB1 (fun q hq => Or.inr ?_)⟩, by show kN y ≤ _; omega⟩
        · show cup (cup (kq y).tl 1) 3 = cup (cup A.1 1) 3
          rw [htl]
        · show cup (cup A.1 1) 3 9 = _
          rw [cup_9 (by decide), cup_9 (by decide)]; exact h9
        · show y.2.1 q = (va_up A.2.1 (huId b) ((A.2.1 (huId b)).1, 1, (huCz b (A.2.1 (huId b))).2.2) q).1 ∧ upd y.2.2.1 (kI pk) (vp_nar .boolean 1) q = (va_up A.2.1 (huId b) ((A.2.1 (huId b)).1, 1, (huCz b (A.2.1 (huId b))).2.2) q).2.1 ∧ kK pk y.2.2.2.1 q = (va_up A.2.1 (huId b) ((A.2.1 (huId b)).1, 1, (huCz b (A.2.1 (huId b))).2.2) q).2.2.1
          rw [ek, e3]
          by_cases c : q = huId b
          · rw [c, va_up_self, vl_s, pk_us]
            obtain ⟨a1, a2, a3⟩ := hall _ hp
            exact ⟨a1, (show vp_nar .boolean 1 = (1 : Int32) by decide), by rw [a3]; rfl⟩
          · rw [va_up_ne _ _ c, vl_n c, pk_un c]; exact hall q hq
        · exact congrArg (fun z : List Nat × Option HP => z.2) (hkp q hq)
      · obtain ⟨hO, hK1, hI1', hR, hpie⟩ := hr_a1 h0 hA hC9 hpk hb hp q3
        have hl := a1_lane hO
        have hC1 : hC (huA1 b A) := hC_up (p := huId b) (z := (huO1 b A).2.2) hC9 rfl ⟨Or.inr ⟨b 3 % 16, by omega, hl.1⟩, Or.inl hl.2⟩
        have hBa : hB (188 * M) (huA1 b A) := hB_sub hB9 (fun q hq => by
          by_cases c : q = huId b
          · rw [c]; exact hpie
          · refine Or.inr ?_
            show (va_up A.2.1 (huId b) _ q).2.2.2.2 = _
            rw [va_up_ne _ _ c])
        have hV : (huA1 b A).2.2.2.1 = A.2.2.2.1 := by rw [hR]
        have hN3 : kN (kY3 y pk) = kN y := rfl
        rw [if_neg (show ¬ (huO1 b A).1 = false by rw [hO]; decide)]
        have hX : kX pk = 0 ↔ b 3 / 64 = 0 := by
          rw [e5]
          exact nI_eq (b := 0) (by have := hb 3; omega) (by decide)
        rcases h3 with ⟨q4, rfl⟩ | ⟨q4, h3⟩
        · rw [if_pos (mt hX.mpr q4)]
          obtain ⟨⟨g1, g2, g3, g4, g5⟩, k9, kd9, kall⟩ := hK1
          have hg := hr_gu (tl := (kq (kY3 y pk)).tl) g4 hp (hI1' _ hp).1
          have hln := lnK_gu (huId b) (huA1 b A)
          refine ⟨⟨⟨?_, g2, g3, ?_, g5⟩, ?_, kd9, fun q hq => ?_⟩, ⟨?_, ?_, ?_⟩, by show kN y ≤ _; omega⟩
          · show (gvU (kG pk y.2.1 ((kq y).sP, cup (kq y).tl 1)) (nI (kI pk))).2 = addc (huA1 b A).1 (huN1 ((huA1 b A).2.1 (huId b)))
            rw [e3, ← g1]
            exact hg.2.1
          · show slR _ none (gvU (kG pk y.2.1 ((kq y).sP, cup (kq y).tl 1)) (nI (kI pk))).1 _ _ _ _ _ _
            rw [e3]
            exact hg.1
          · show addc (huA1 b A).1 (huN1 ((huA1 b A).2.1 (huId b))) 9 = _
            rw [addc_9]; exact k9
          · obtain ⟨a1, a2, a3⟩ := kall q hq
            have := (hln q hq).1
            exact ⟨a1.trans (congrArg (fun z : Int32 × Int32 × Int64 => z.1) this).symm, a2.trans (congrArg (fun z : Int32 × Int32 × Int64 => z.2.1) this).symm, a3.trans (congrArg (fun z : Int32 × Int32 × Int64 => z.2.2) this).symm⟩
          · intro q hq
            show hI1 (va_up (huA1 b A).2.1 (huId b) (huGz ((huA1 b A).2.1 (huId b))) q) _
            by_cases c : q = huId b
            · rw [c, va_up_self]
              exact ⟨Or.inl rfl, fun z => absurd rfl z, fun z => absurd rfl z, gln_0⟩
            · rw [va_up_ne _ _ c]; exact hI1' q hq
          · exact hC_same hC1 (fun q hq => ⟨congrArg (fun z : Int32 × Int32 × Int64 => z.1) (hln q hq).1, congrArg (fun z : Int32 × Int32 × Int64 => z.2.1) (hln q hq).1⟩)
          · exact hB_le (hB_sub hBa (fun q hq => (hln q hq).2)) (by omega)
        · rw [if_neg (fun z => z (hX.mp q4))]
          have hus : kUse y pk = nI (huUs A.2.2.2.1 (huId b)) := by
            show puV _ _ _ _ _ (nI (kI pk)) = _
            rw [e3]
            exact hr_use htb hp
          have hlt5 := huUs_lt A.2.2.2.1 (huId b)
          obtain ⟨hkp, hpay⟩ := k_p hpk hb hbd (fun z => q2' (Or.inr z))
          have hst := k_s hpk hb
          rcases h3 with ⟨q5, rfl⟩ | ⟨q5, s9, u, hs16, hsk, hpp, rfl⟩ | ⟨q5, q6, u, hsp, rfl⟩
          · have hu0 : huUs A.2.2.2.1 (huId b) = 0 := (nI_eq (b := 0) (by omega) (by decide)).mp (hus.symm.trans q5)
            rw [if_pos hu0]
            exact ⟨hK1, ⟨hI1', hC1, hB_le hBa (by omega)⟩, by rw [hN3]; omega⟩
          · have hu4 : huUs A.2.2.2.1 (huId b) = 4 := (nI_eq (b := 4) (by omega) (by decide)).mp (hus.symm.trans q5)
            rw [if_neg (by omega), if_pos hu4]
            obtain ⟨⟨g1, g2, g3, g4, g5⟩, k9, kd9, kall⟩ := hK1
            have hng := htb.2.1
            have how : huOw A.2.2.2.1 (huId b) = some (s9 / 4) := by
              rw [e3] at hsk
              rcases hr_sk htb hp with ⟨z1, -⟩ | ⟨a, c, ha, hc, z1, z2, -⟩
              · rw [z1] at hsk
                exact absurd hsk.symm (nI_neN (by omega))
              · rw [z2]
                congr 1
                have : s9 = 4 * a + c := (nI_eq (by omega) (by omega)).mp (hsk.symm.trans z1)
                omega
            have hy : hY (huA1 b A) (kPS (kY3 y pk)) (kq (kY3 y pk)).g (kq (kY3 y pk)).ng (kq (kY3 y pk)).1 := ⟨g1, ⟨k9, by show kN y < _; omega⟩, g4, kd9, g3⟩
            have hu4' : huUs (huA1 b A).2.2.2.1 (huId b) = 4 := by rw [hV]; exact hu4
            rw [e3, hkp] at hpp
            have hr := hr_pp hy (by show kN y < _; omega) hBa (by omega) hpk hb hp hI1' hu4' (by rw [hV]; exact how) hpay hst hpp
            have hln := lnP_pi b (huId b) (huA1 b A)
            obtain ⟨⟨r1, ⟨r2, -⟩, r3, r4, r5⟩, r6⟩ := hr
            have hlvp : (huPi b (huId b) (huA1 b A)).2.2.1 = (huA1 b A).2.2.1 := by
              have hgt : ∀ (i : Nat) (B : HS), (huGt b i (huId b) B).2.2.1 = B.2.2.1 := fun i B => by
                unfold huGt
                split
                · rfl
                · split <;> rfl
              have hep : ∀ (B : HS), (huEp (huId b) B).2.2.1 = B.2.2.1 := fun B => by
                unfold huEp
                split
                · split <;> rfl
                · rfl
              have hbp : ∀ (i : Nat) (B : HS), (huBp b i (huId b) B).2.2.2.1 = B.2.2.1 := fun i B => by
                unfold huBp
                split <;> rfl
              unfold huPi
              split
              · exact hgt _ _
              · rw [hgt, hbp, hep]
            refine ⟨⟨⟨r1, g2.trans hlvp.symm, r5, r3, g5⟩, r2, r4, fun q hq => ?_⟩, ⟨hI_pi hI1' hp hu4', ?_, ?_⟩, r6⟩
            · obtain ⟨a1, a2, a3⟩ := kall q hq
              have := (hln q hq).1
              exact ⟨a1.trans (congrArg (fun z : Int32 × Int32 × Int64 => z.1) this).symm, a2.trans (congrArg (fun z : Int32 × Int32 × Int64 => z.2.1) this).symm, a3.trans (congrArg (fun z : Int32 × Int32 × Int64 => z.2.2) this).symm⟩
            · exact hC_same hC1 (fun q hq => ⟨congrArg (fun z : Int32 × Int32 × Int64 => z.1) (hln q hq).1, congrArg (fun z : Int32 × Int32 × Int64 => z.2.1) (hln q hq).1⟩)
            · exact hB_le (hB_pi hp hBa) (by omega)
          · have hu0 : ¬ huUs A.2.2.2.1 (huId b) = 0 := fun z => q5 (by rw [hus, z]; rfl)
            have hu4 : ¬ huUs A.2.2.2.1 (huId b) = 4 := fun z => q6 (by rw [hus, z]; rfl)
            rw [if_neg hu0, if_neg hu4]
            obtain ⟨hQ1, k9, kd9, kall⟩ := hK1
            rw [e3, hkp] at hsp
            have hr := hr_sp hQ1 hI1' hp (by rw [hV]; exact ⟨hu0, hu4⟩) hpk hb hpay hst hsp
            have hln := lnK_se b (huId b) (huA1 b A)
            have h99 := kp9_se b (huId b) (huA1 b A)
            refine ⟨⟨hr.1, h99.1.trans k9, by rw [h99.2]; exact kd9, fun q hq => ?_⟩, ⟨hr.2, ?_, ?_⟩, by show kN y ≤ _; omega⟩
            · obtain ⟨a1, a2, a3⟩ := kall q hq
              have := (hln q hq).1
              exact ⟨a1.trans (congrArg (fun z : Int32 × Int32 × Int64 => z.1) this).symm, a2.trans (congrArg (fun z : Int32 × Int32 × Int64 => z.2.1) this).symm, a3.trans (congrArg (fun z : Int32 × Int32 × Int64 => z.2.2) this).symm⟩
            · exact hC_same hC1 (fun q hq => ⟨congrArg (fun z : Int32 × Int32 × Int64 => z.1) (hln q hq).1, congrArg (fun z : Int32 × Int32 × Int64 => z.2.1) (hln q hq).1⟩)
            · exact hB_le (hB_sub hBa (fun q hq => (hln q hq).2)) (by omega)


/-! The reference's lists and plans in the hub -/
theorem huB_app (S : Nat → Nat) (k c : Nat) : ∀ d, huB S k (c + d) = huB S k c * 2 ^ d + huB S (k + c) d
  | 0 => by rw [Nat.pow_zero, Nat.mul_one]; rfl
  | d + 1 => by
    show 2 * huB S k (c + d) + S ((k + (c + d)) / 8) / 2 ^ (7 - (k + (c + d)) % 8) % 2 = huB S k c * 2 ^ (d + 1) + (2 * huB S (k + c) d + S ((k + c + d) / 8) / 2 ^ (7 - (k + c + d) % 8) % 2)
    rw [huB_app S k c d, ← Nat.add_assoc k c d, Nat.pow_succ, Nat.mul_add]
    have : 2 * (huB S k c * 2 ^ d) = huB S k c * (2 ^ d * 2) := by rw [Nat.mul_comm 2, Nat.mul_assoc]
    omega
theorem huB_8 {S : Nat → Nat} (hb : ∀ i, S i < 256) (j : Nat) : huB S (8 * j) 8 = S j := by
  have h := hb j
  simp only [huB]
  rw [show (8 * j + 0) / 8 = j by omega, show (8 * j + 1) / 8 = j by omega, show (8 * j + 2) / 8 = j by omega, show (8 * j + 3) / 8 = j by omega, show (8 * j + 4) / 8 = j by omega, show (8 * j + 5) / 8 = j by omega, show (8 * j + 6) / 8 = j by omega, show (8 * j + 7) / 8 = j by omega, show (8 * j + 0) % 8 = 0 by omega, show (8 * j + 1) % 8 = 1 by omega, show (8 * j + 2) % 8 = 2 by omega, show (8 * j + 3) % 8 = 3 by omega, show (8 * j + 4) % 8 = 4 by omega, show (8 * j + 5) % 8 = 5 by omega, show (8 * j + 6) % 8 = 6 by omega, show (8 * j + 7) % 8 = 7 by omega]
  generalize S j = x at h ⊢
  omega
theorem huB_5 {S : Nat → Nat} (j : Nat) : huB S (8 * j + 3) 5 = S j % 32 := by
  simp only [huB]
  rw [show (8 * j + 3 + 0) / 8 = j by omega, show (8 * j + 3 + 1) / 8 = j by omega, show (8 * j + 3 + 2) / 8 = j by omega, show (8 * j + 3 + 3) / 8 = j by omega, show (8 * j + 3 + 4) / 8 = j by omega, show (8 * j + 3 + 0) % 8 = 3 by omega, show (8 * j + 3 + 1) % 8 = 4 by omega, show (8 * j + 3 + 2) % 8 = 5 by omega, show (8 * j + 3 + 3) % 8 = 6 by omega, show (8 * j + 3 + 4) % 8 = 7 by omega]
  generalize S j = x
  omega
theorem huB_4 {S : Nat → Nat} (j : Nat) : huB S (8 * j + 4) 4 = S j % 16 := by
  simp only [huB]
  rw [show (8 * j + 4 + 0) / 8 = j by omega, show (8 * j + 4 + 1) / 8 = j by omega, show (8 * j + 4 + 2) / 8 = j by omega, show (8 * j + 4 + 3) / 8 = j by omega, show (8 * j + 4 + 0) % 8 = 4 by omega, show (8 * j + 4 + 1) % 8 = 5 by omega, show (8 * j + 4 + 2) % 8 = 6 by omega, show (8 * j + 4 + 3) % 8 = 7 by omega]
  generalize S j = x
  omega
theorem huB_16 {S : Nat → Nat} (hb : ∀ i, S i < 256) (j : Nat) : huB S (8 * j) 16 = S j * 256 + S (j + 1) := by
  rw [huB_app S (8 * j) 8 8, huB_8 hb, show 8 * j + 8 = 8 * (j + 1) by omega, huB_8 hb]
theorem huB_13 {S : Nat → Nat} (hb : ∀ i, S i < 256) (j : Nat) : huB S (8 * j + 3) 13 = S j % 32 * 256 + S (j + 1) := by
  rw [huB_app S (8 * j + 3) 5 8, huB_5, show 8 * j + 3 + 5 = 8 * (j + 1) by omega, huB_8 hb]
theorem huB_12 {S : Nat → Nat} (hb : ∀ i, S i < 256) (j : Nat) : huB S (8 * j + 4) 12 = S j % 16 * 256 + S (j + 1) := by
  rw [huB_app S (8 * j + 4) 4 8, huB_4, show 8 * j + 4 + 4 = 8 * (j + 1) by omega, huB_8 hb]
theorem or_31 {a b : Nat} (ha : a < 256) (hb : b < 256) : ((nI a &&& 31) <<< ((8 : Int32) &&& 31)) ||| nI b = nI (a % 32 * 256 + b) := by
  rw [op_31 a ha, pl_or0 (by omega) hb]
section RS
variable {se : Nat → Int32} {S : Nat → Nat} {n : Nat} (hS : ∀ i, i < n → se i = nI (S i)) (hb : ∀ i, S i < 256)
theorem nu_hu (hS : ∀ i, i < n → se i = nI (S i)) (hb : ∀ i, S i < 256) {i : Nat} (h : i + 1 < n) : nuV se i = nI (huB S (8 * i) 16) := by
  unfold nuV
  rw [hS i (by omega), hS (i + 1) h, pl_or0 (hb _) (hb _), huB_16 hb]
theorem pi_hu (hS : ∀ i, i < n → se i = nI (S i)) (hb : ∀ i, S i < 256) {i : Nat} (h : i + 3 < n) : piV se i = nI (huB S (8 * i + 19) 13) := by
  unfold piV
  rw [hS (i + 2) (by omega), hS (i + 3) h, or_31 (hb _) (hb _), show 8 * i + 19 = 8 * (i + 2) + 3 by omega, huB_13 hb]
theorem piW_hu (hS : ∀ i, i < n → se i = nI (S i)) (hb : ∀ i, S i < 256) {i : Nat} (h : i + 2 < n) : piW se i = nI (huB S (8 * i + 11) 13) := by
  unfold piW
  rw [hS (i + 1) (by omega), hS (i + 2) h, or_31 (hb _) (hb _), show 8 * i + 11 = 8 * (i + 1) + 3 by omega, huB_13 hb]
theorem vs_hu (hS : ∀ i, i < n → se i = nI (S i)) (hb : ∀ i, S i < 256) (h : 5 < n) : vsV se = huVr S := by
  unfold vsV huVr
  rw [hS 5 h]
  exact vr_dec _ (hb _)
end RS
/-! Copies of arrays -/
theorem kp_at (g : PG) (ng : Nat) (f : Nat → Int32) : ∀ j d, d < j → kpI g ng f j (6 * d) = (if d < ng then g.nu d else 0) ∧ kpI g ng f j (6 * d + 1) = g.pi d ∧ kpI g ng f j (6 * d + 2) = g.vs d ∧ kpI g ng f j (6 * d + 3) = g.cp d ∧ kpI g ng f j (6 * d + 4) = g.sc d ∧ kpI g ng f j (6 * d + 5) = g.wt d
  | 0, d, h => absurd h (Nat.not_lt_zero _)
  | j + 1, d, h => by
    rw [kpI]
    by_cases c : d = j
    · subst c
      refine ⟨?_, ?_, ?_, ?_, ?_, ?_⟩
      · rw [pk_un (by omega), pk_un (by omega), pk_un (by omega), pk_un (by omega), pk_un (by omega), pk_us]
      · rw [pk_un (by omega), pk_un (by omega), pk_un (by omega), pk_un (by omega), pk_us]
      · rw [pk_un (by omega), pk_un (by omega), pk_un (by omega), pk_us]
      · rw [pk_un (by omega), pk_un (by omega), pk_us]
      · rw [pk_un (by omega), pk_us]
      · rw [pk_us]
    · have ih := kp_at g ng f j d (by omega)
      refine ⟨?_, ?_, ?_, ?_, ?_, ?_⟩ <;> rw [pk_un (by omega), pk_un (by omega), pk_un (by omega), pk_un (by omega), pk_un (by omega), pk_un (by omega)]
      · exact ih.1
      · exact ih.2.1
      · exact ih.2.2.1
      · exact ih.2.2.2.1
      · exact ih.2.2.2.2.1
      · exact ih.2.2.2.2.2
theorem cpA_at (f src : Nat → Int32) : ∀ j i, i < j → cpA f src j i = src i
  | 0, i, h => absurd h (Nat.not_lt_zero _)
  | j + 1, i, h => by
    rw [cpA]
    by_cases c : i = j
    · rw [c, pk_us]
    · rw [pk_un c]; exact cpA_at f src j i (by omega)
theorem cpB_at (f src : Nat → Int32) : ∀ j i, i < j → cpB f src j i = zb (src i)
  | 0, i, h => absurd h (Nat.not_lt_zero _)
  | j + 1, i, h => by
    rw [cpB]
    by_cases c : i = j
    · rw [c, pk_us]
    · rw [pk_un c]; exact cpB_at f src j i (by omega)
theorem cpL_at (f src : Nat → Int64) : ∀ j i, i < j → cpL f src j i = src i
  | 0, i, h => absurd h (Nat.not_lt_zero _)
  | j + 1, i, h => by
    rw [cpL]
    by_cases c : i = j
    · rw [c, vl_s]
    · rw [vl_n c]; exact cpL_at f src j i (by omega)
theorem cqA_at (f : Nat → Int32) (a : Nat) (src : Nat → Int32) (b : Nat) : ∀ n i, cqA f a src b n i = if a ≤ i ∧ i < a + n then src (b + (i - a)) else f i
  | 0, i => by rw [if_neg (by omega)]; rfl
  | n + 1, i => by
    rw [cqA]
    by_cases c : i = a + n
    · rw [c, pk_us, if_pos (by omega), show a + n - a = n by omega]
    · rw [pk_un c, cqA_at f a src b n i]
      by_cases c2 : a ≤ i ∧ i < a + n
      · rw [if_pos c2, if_pos (by omega)]
      · rw [if_neg c2, if_neg (by omega)]
theorem cqB_at (f : Nat → Int32) (a : Nat) (src : Nat → Int32) (b : Nat) : ∀ n i, cqB f a src b n i = if a ≤ i ∧ i < a + n then zb (src (b + (i - a))) else f i
  | 0, i => by rw [if_neg (by omega)]; rfl
  | n + 1, i => by
    rw [cqB]
    by_cases c : i = a + n
    · rw [c, pk_us, if_pos (by omega), show a + n - a = n by omega]
    · rw [pk_un c, cqB_at f a src b n i]
      by_cases c2 : a ≤ i ∧ i < a + n
      · rw [if_pos c2, if_pos (by omega)]
      · rw [if_neg c2, if_neg (by omega)]
theorem cqL_at (f : Nat → Int64) (a : Nat) (src : Nat → Int64) (b : Nat) : ∀ n i, cqL f a src b n i = if a ≤ i ∧ i < a + n then src (b + (i - a)) else f i
  | 0, i => by rw [if_neg (by omega)]; rfl
  | n + 1, i => by
    rw [cqL]
    by_cases c : i = a + n
    · rw [c, vl_s, if_pos (by omega), show a + n - a = n by omega]
    · rw [vl_n c, cqL_at f a src b n i]
      by_cases c2 : a ≤ i ∧ i < a + n
      · rw [if_pos c2, if_pos (by omega)]
      · rw [if_neg c2, if_neg (by omega)]
/-- the programmes as they were -/
def oldR (o : OG) (V : List PV9) : Prop := (∀ d, V.length ≤ d → d < 4 → o.oI (6 * d) = 0) ∧ ∀ d, d < V.length → hpR (fun k => o.oI (6 * k)) (fun k => o.oI (6 * k + 1)) (fun k => o.oI (6 * k + 2)) (fun k => o.oI (6 * k + 3)) o.oA o.oW d (V.getD d pv0) ∧ hsR (fun k => o.oI (6 * k + 4)) o.oT o.oS d (V.getD d pv0).2.2.2.2.2.2.1 ∧ hrR o.z (fun k => o.oI (6 * k + 5)) d (V.getD d pv0).2.2.2.2.2.2.2
theorem old_kp {g : PG} {ng : Nat} {V : List PV9} {o : OG} (h : tbR g ng V) : oldR (kpG g ng o) V := by
  have hl := h.1
  have h4 := h.2.1
  refine ⟨fun d h1 h2 => ?_, fun d hd => ?_⟩
  · have := (kp_at g ng o.oI 4 d h2).1
    rw [if_neg (by omega)] at this
    exact this
  · have hd4 : d < 4 := by omega
    obtain ⟨⟨p1, p2, p3, p4, p5, p6, p7, p8, p9, p10⟩, ⟨s1, s2, s3⟩, ⟨r1, r2, r3⟩⟩ := h.2.2 d (by omega)
    obtain ⟨k0, k1, k2, k3, k4, k5⟩ := kp_at g ng o.oI 4 d hd4
    rw [if_pos (by omega)] at k0
    refine ⟨⟨k0.trans p1, k1.trans p2, p3, k2.trans p4, fun q => k3.trans (p5 q), p6, ?_, p8, ?_, p10⟩, ⟨k4.trans s1, s2, fun j hj => ⟨?_, ?_, (s3 j hj).2.2⟩⟩, ⟨k5.trans r1, r2, fun j hj => ⟨?_, (r3 j hj).2⟩⟩⟩
    · show cpB o.oA g.aw 4 d = _
      rw [cpB_at _ _ 4 d hd4, p7, zb_01 p8]
    · show cpL o.oW g.nw 4 d = _
      rw [cpL_at _ _ 4 d hd4, p9]
    · show cpA o.oT g.ty 16 (4 * d + j) = _
      rw [cpA_at _ _ 16 _ (by omega)]; exact (s3 j hj).1
    · show cpA o.oS g.sp 16 (4 * d + j) = _
      rw [cpA_at _ _ 16 _ (by omega)]; exact (s3 j hj).2.1
    · show (cpL o.z.1 g.z.1 24 (6 * d + j), cpA o.z.2.1 g.z.2.1 24 (6 * d + j), cpB o.z.2.2.1 g.z.2.2.1 24 (6 * d + j), cpL o.z.2.2.2 g.z.2.2.2 24 (6 * d + j)) = _
      have e := (r3 j hj).1
      have hb := (r3 j hj).2.2.1
      rw [← e] at hb
      rw [cpL_at _ _ 24 _ (by omega), cpL_at _ _ 24 _ (by omega), cpA_at _ _ 24 _ (by omega), cpB_at _ _ 24 _ (by omega), zb_01 (a := g.z.2.2.1 (6 * d + j)) hb]
      exact e
theorem od_cs (o : OG) (a b : Int32) : ∀ m, m ≤ 4 → (odG o a b m = 4 ∧ ∀ d, 4 - m ≤ d → d < 4 → ¬ (o.oI (6 * d) = a ∧ o.oI (6 * d + 1) = b)) ∨ (odG o a b m < 4 ∧ 4 - m ≤ odG o a b m ∧ (o.oI (6 * odG o a b m) = a ∧ o.oI (6 * odG o a b m + 1) = b) ∧ ∀ d, 4 - m ≤ d → d < odG o a b m → ¬ (o.oI (6 * d) = a ∧ o.oI (6 * d + 1) = b))
  | 0, _ => Or.inl ⟨rfl, fun d h1 h2 => by omega⟩
  | m + 1, h => by
    rw [odG]
    by_cases c : o.oI (6 * (4 - (m + 1))) = a ∧ o.oI (6 * (4 - (m + 1)) + 1) = b
    · rw [if_pos c]
      exact Or.inr ⟨by omega, Nat.le_refl _, c, fun d h1 h2 => by omega⟩
    · rw [if_neg c]
      rcases od_cs o a b m (by omega) with ⟨h1, h2⟩ | ⟨h1, h2, h3, h4⟩
      · refine Or.inl ⟨h1, fun d h3 h4 => ?_⟩
        by_cases c2 : d = 4 - (m + 1)
        · rw [c2]; exact c
        · exact h2 d (by omega) h4
      · refine Or.inr ⟨h1, by omega, h3, fun d h5 h6 => ?_⟩
        by_cases c2 : d = 4 - (m + 1)
        · rw [c2]; exact c
        · exact h4 d (by omega) h6
/-- a new programme -/
theorem hr_new {g : PG} {m : Nat} {a : Int32} {p : Nat} (hp : p < 8192) : prR (lsG g m a (nI p)) m (nwV a p) ∧ ∀ x, x ≠ m → ∀ v, prR g x v → prR (lsG g m a (nI p)) x v := by
  constructor
  · refine ⟨⟨pk_us, pk_us, hp, pk_us, fun q => absurd rfl q, fun _ => rfl, ?_, Or.inl rfl, vl_s, Or.inl rfl⟩, ⟨pk_us, by show 0 ≤ 4; omega, fun j hj => absurd hj (Nat.not_lt_zero _)⟩, ⟨pk_us, by show 0 ≤ 6; omega, fun j hj => absurd hj (Nat.not_lt_zero _)⟩⟩
    show upd g.aw m (zb 0) m = 0
    rw [pk_us, zb_01 (Or.inl rfl)]
  · rintro x hx v ⟨⟨p1, p2, p3, p4, p5, p6, p7, p8, p9, p10⟩, ⟨s1, s2, s3⟩, ⟨r1, r2, r3⟩⟩
    exact ⟨⟨(pk_un hx).trans p1, (pk_un hx).trans p2, p3, (pk_un hx).trans p4, p5, p6, (pk_un hx).trans p7, p8, (vl_n hx).trans p9, p10⟩, ⟨(pk_un hx).trans s1, s2, s3⟩, ⟨(pk_un hx).trans r1, r2, r3⟩⟩
/-- an old one is taken over -/
theorem hr_asb {g : PG} {o : OG} {V : List PV9} {m d : Nat} (ho : oldR o V) (hd : d < V.length) (h1 : g.nu m = (V.getD d pv0).1) (h2 : g.pi m = nI (V.getD d pv0).2.1) : prR (asB g o m d) m (V.getD d pv0) ∧ ∀ x, x ≠ m → ∀ v, prR g x v → prR (asB g o m d) x v := by
  constructor
  · obtain ⟨⟨p1, p2, p3, p4, p5, p6, p7, p8, p9, p10⟩, ⟨s1, s2, s3⟩, ⟨r1, r2, r3⟩⟩ := ho.2 d hd
    refine ⟨⟨h1, h2, p3, pk_us.trans p4, fun q => pk_us.trans (p5 q), p6, ?_, p8, vl_s.trans p9, p10⟩, ⟨pk_us.trans s1, s2, fun j hj => ⟨?_, ?_, (s3 j hj).2.2⟩⟩, ⟨pk_us.trans r1, r2, fun j hj => ⟨?_, (r3 j hj).2⟩⟩⟩
    · show upd g.aw m (zb (o.oA d)) m = _
      rw [pk_us, p7, zb_01 p8]
    · show cqA g.ty (4 * m) o.oT (4 * d) 4 (4 * m + j) = _
      rw [cqA_at, if_pos (by omega), show 4 * m + j - 4 * m = j by omega]; exact (s3 j hj).1
    · show cqA g.sp (4 * m) o.oS (4 * d) 4 (4 * m + j) = _
      rw [cqA_at, if_pos (by omega), show 4 * m + j - 4 * m = j by omega]; exact (s3 j hj).2.1
    · show (cqL g.z.1 (6 * m) o.z.1 (6 * d) 6 (6 * m + j), cqA g.z.2.1 (6 * m) o.z.2.1 (6 * d) 6 (6 * m + j), cqB g.z.2.2.1 (6 * m) o.z.2.2.1 (6 * d) 6 (6 * m + j), cqL g.z.2.2.2 (6 * m) o.z.2.2.2 (6 * d) 6 (6 * m + j)) = _
      have e := (r3 j hj).1
      have hb := (r3 j hj).2.2.1
      rw [← e] at hb
      rw [cqL_at, cqL_at, cqA_at, cqB_at, if_pos (by omega), if_pos (by omega), if_pos (by omega), if_pos (by omega), show 6 * m + j - 6 * m = j by omega, zb_01 (a := o.z.2.2.1 (6 * d + j)) hb]
      exact e
  · rintro x hx v ⟨⟨p1, p2, p3, p4, p5, p6, p7, p8, p9, p10⟩, ⟨s1, s2, s3⟩, ⟨r1, r2, r3⟩⟩
    refine ⟨⟨p1, p2, p3, (pk_un hx).trans p4, fun q => (pk_un hx).trans (p5 q), p6, (pk_un hx).trans p7, p8, (vl_n hx).trans p9, p10⟩, ⟨(pk_un hx).trans s1, s2, fun j hj => ⟨?_, ?_, (s3 j hj).2.2⟩⟩, ⟨(pk_un hx).trans r1, r2, fun j hj => ⟨?_, (r3 j hj).2⟩⟩⟩
    · show cqA g.ty (4 * m) o.oT (4 * d) 4 (4 * x + j) = _
      rw [cqA_at, if_neg (by omega)]; exact (s3 j hj).1
    · show cqA g.sp (4 * m) o.oS (4 * d) 4 (4 * x + j) = _
      rw [cqA_at, if_neg (by omega)]; exact (s3 j hj).2.1
    · show (cqL g.z.1 (6 * m) o.z.1 (6 * d) 6 (6 * x + j), cqA g.z.2.1 (6 * m) o.z.2.1 (6 * d) 6 (6 * x + j), cqB g.z.2.2.1 (6 * m) o.z.2.2.1 (6 * d) 6 (6 * x + j), cqL g.z.2.2.2 (6 * m) o.z.2.2.2 (6 * d) 6 (6 * x + j)) = _
      rw [cqL_at, cqL_at, cqA_at, cqB_at, if_neg (by omega), if_neg (by omega), if_neg (by omega), if_neg (by omega)]
      exact (r3 j hj).1
theorem pv_gdapp {L : List PV9} {v : PV9} {k : Nat} : (L ++ [v]).getD k pv0 = if k < L.length then L.getD k pv0 else if k = L.length then v else pv0 := by
  rw [List.getD_eq_getElem?_getD, List.getD_eq_getElem?_getD]
  by_cases c : k < L.length
  · rw [if_pos c, List.getElem?_append_left c]
  · rw [if_neg c, List.getElem?_append_right (by omega)]
    by_cases c2 : k = L.length
    · rw [if_pos c2, c2, Nat.sub_self]; rfl
    · rw [if_neg c2, List.getElem?_eq_none (by rw [List.length_singleton]; omega)]; rfl
/-- the entries of a list, one by one -/
theorem hr_liU {g : PG} {ng n : Nat} {V : List PV9} {o0 : OG} {se : Nat → Int32} {S : Nat → Nat} (h : tbR g ng V) (hn : n ≤ 1020) (hS : ∀ i, i < n → se i = nI (S i)) (hb : ∀ i, S i < 256) : ∀ j, 8 + 4 * j ≤ n → ∃ L : List PV9, (liU se (kpG g ng o0) (0, g) j).1 = L.length ∧ L.length ≤ 4 ∧ (∀ k, k < L.length → prR (liU se (kpG g ng o0) (0, g) j).2 k (L.getD k pv0)) ∧ L ++ huLiL S n V (255 - j) (8 + 4 * j) L.length = huLiL S n V 255 8 0
  | 0, _ => ⟨[], rfl, Nat.zero_le _, fun k hk => absurd hk (Nat.not_lt_zero _), rfl⟩
  | j + 1, hj => by
    obtain ⟨L, e1, e2, e3, e4⟩ := hr_liU h hn hS hb (o0 := o0) j (by omega)
    have ho := old_kp (o := o0) h
    generalize kpG g ng o0 = o at e1 e3 ho ⊢
    rw [liU]
    unfold liS
    rw [nu_hu hS hb (show 8 + 4 * j + 1 < n by omega), pi_hu hS hb (show 8 + 4 * j + 3 < n by omega), e1]
    have hN := huB_lt S (8 * (8 + 4 * j)) 16
    have hP := huB_lt S (8 * (8 + 4 * j) + 19) 13
    obtain ⟨fu, hfu⟩ : ∃ fu, 255 - j = fu + 1 := ⟨254 - j, by omega⟩
    have hfu2 : 255 - (j + 1) = fu := by omega
    rw [hfu, huLiL] at e4
    rw [hfu2, show 8 + 4 * (j + 1) = 8 + 4 * j + 4 by omega]
    by_cases c4 : 4 ≤ L.length
    · rw [if_pos (Or.inr c4)]
      rw [if_pos (Or.inr c4)] at e4
      refine ⟨L, e1, e2, e3, ?_⟩
      rw [← e4]
      congr 1
      cases fu with
      | zero => rfl
      | succ fu => rw [huLiL, if_pos (Or.inr c4)]
    · by_cases c0 : huB S (8 * (8 + 4 * j)) 16 = 0
      · rw [if_pos (Or.inl (by rw [c0]; rfl))]
        rw [if_neg (by omega), if_pos c0] at e4
        exact ⟨L, e1, e2, e3, e4⟩
      · rw [if_neg (fun q => q.elim (fun q => c0 ((nI_eq (b := 0) (by omega) (by decide)).mp q)) c4)]
        rw [if_neg (by omega), if_neg c0] at e4
        have hnew := hr_new (g := (liU se o (0, g) j).2) (m := L.length) (a := nI (huB S (8 * (8 + 4 * j)) 16)) hP
        have key : ∃ g2, (if odG o (nI (huB S (8 * (8 + 4 * j)) 16)) (nI (huB S (8 * (8 + 4 * j) + 19) 13)) 4 < 4 then asB (lsG (liU se o (0, g) j).2 L.length (nI (huB S (8 * (8 + 4 * j)) 16)) (nI (huB S (8 * (8 + 4 * j) + 19) 13))) o L.length (odG o (nI (huB S (8 * (8 + 4 * j)) 16)) (nI (huB S (8 * (8 + 4 * j) + 19) 13)) 4) else lsG (liU se o (0, g) j).2 L.length (nI (huB S (8 * (8 + 4 * j)) 16)) (nI (huB S (8 * (8 + 4 * j) + 19) 13))) = g2 ∧ prR g2 L.length (huLiE S V (8 + 4 * j)) ∧ ∀ x, x ≠ L.length → ∀ v, prR (liU se o (0, g) j).2 x v → prR g2 x v := by
          refine ⟨_, rfl, ?_⟩
          unfold huLiE
          rcases od_cs o (nI (huB S (8 * (8 + 4 * j)) 16)) (nI (huB S (8 * (8 + 4 * j) + 19) 13)) 4 (Nat.le_refl _) with ⟨d1, d2⟩ | ⟨d1, -, d3, d4⟩
          · rw [d1, if_neg (by omega)]
            rw [List.find?_eq_none.mpr (fun v hv => by
              obtain ⟨i, hi, rfl⟩ := List.getElem_of_mem hv
              rw [pv_getE hi]
              have hV4 : V.length ≤ 4 := by rw [h.1]; exact h.2.1
              intro q
              have q := of_decide_eq_true q
              have hp := (ho.2 i hi).1
              exact d2 i (by omega) (by omega) ⟨hp.1.trans q.1, hp.2.1.trans (by rw [q.2])⟩)]
            exact hnew
          · rw [if_pos d1]
            generalize odG o (nI (huB S (8 * (8 + 4 * j)) 16)) (nI (huB S (8 * (8 + 4 * j) + 19) 13)) 4 = d at d1 d3 d4
            have hd : d < V.length := by
              apply Decidable.byContradiction
              intro q
              have := ho.1 d (by omega) d1
              rw [d3.1] at this
              exact c0 ((nI_eq (b := 0) (by omega) (by decide)).mp this)
            have hp := (ho.2 d hd).1
            have k1 : nI (huB S (8 * (8 + 4 * j)) 16) = (V.getD d pv0).1 := d3.1.symm.trans hp.1
            have k2 : huB S (8 * (8 + 4 * j) + 19) 13 = (V.getD d pv0).2.1 := (nI_eq (by omega) (by have := hp.2.2.1; omega)).mp (d3.2.symm.trans hp.2.1)
            rw [fnd_D (d := pv0) hd (decide_eq_true ⟨k1.symm, k2.symm⟩) (fun i hi => decide_eq_false (fun q => by
              have hp2 := (ho.2 i (by omega)).1
              exact d4 i (by omega) hi ⟨hp2.1.trans q.1, hp2.2.1.trans (by rw [q.2])⟩))]
            have := hr_asb (g := lsG (liU se o (0, g) j).2 L.length (nI (huB S (8 * (8 + 4 * j)) 16)) (nI (huB S (8 * (8 + 4 * j) + 19) 13))) (m := L.length) ho hd (pk_us.trans k1) (pk_us.trans (by rw [k2]))
            exact ⟨this.1, fun x hx v hv => this.2 x hx v (hnew.2 x hx v hv)⟩
        obtain ⟨g2, hg2, k1, k2⟩ := key
        rw [hg2]
        refine ⟨L ++ [huLiE S V (8 + 4 * j)], ?_, ?_, fun k hk => ?_, ?_⟩
        · rw [List.length_append, List.length_singleton]
        · rw [List.length_append, List.length_singleton]; omega
        · rw [List.length_append, List.length_singleton] at hk
          rw [pv_gdapp]
          by_cases c : k < L.length
          · rw [if_pos c]
            exact k2 k (by omega) _ (e3 k c)
          · rw [if_neg c, if_pos (by omega), show k = L.length by omega]
            exact k1
        · rw [List.length_append, List.length_singleton, List.append_assoc]
          exact e4
/-- the list -/
theorem hr_li {g : PG} {ng n : Nat} {V : List PV9} {o0 : OG} {se : Nat → Int32} {S : Nat → Nat} (h : tbR g ng V) (h8 : 8 ≤ n) (hn : n ≤ 1020) (hS : ∀ i, i < n → se i = nI (S i)) (hb : ∀ i, S i < 256) (h4 : (n - 8) % 4 = 0) : tbR (liU se (kpG g ng o0) (0, g) ((n - 8) / 4)).2 (liU se (kpG g ng o0) (0, g) ((n - 8) / 4)).1 (huLiL S n V 255 8 0) := by
  obtain ⟨L, e1, e2, e3, e4⟩ := hr_liU h hn hS hb (o0 := o0) ((n - 8) / 4) (by omega)
  have : huLiL S n V (255 - (n - 8) / 4) (8 + 4 * ((n - 8) / 4)) L.length = [] := by
    obtain ⟨fu, hfu⟩ : ∃ fu, 255 - (n - 8) / 4 = fu + 1 := ⟨254 - (n - 8) / 4, by omega⟩
    rw [hfu, huLiL, if_pos (Or.inl (by omega))]
  rw [this, List.append_nil] at e4
  rw [← e4]
  exact ⟨e1.symm, by rw [e1]; exact e2, fun k hk => e3 k (by rw [← e1]; exact hk)⟩


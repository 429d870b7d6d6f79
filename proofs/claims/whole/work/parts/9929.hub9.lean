/-! The reference's programmes in the hub; what a PID is for; an order section -/
def hsR (sc ty sp : Nat → Int32) (k : Nat) (S : List (Int32 × Nat)) : Prop := sc k = nI S.length ∧ S.length ≤ 4 ∧ ∀ j, j < S.length → ty (4 * k + j) = (S.getD j (0, 0)).1 ∧ sp (4 * k + j) = nI (S.getD j (0, 0)).2 ∧ (S.getD j (0, 0)).2 < 8192
/-- the head of a programme -/
def hpR (nu pi vs cp aw : Nat → Int32) (nw : Nat → Int64) (k : Nat) (v : PV9) : Prop := nu k = v.1 ∧ pi k = nI v.2.1 ∧ v.2.1 < 8192 ∧ vs k = v.2.2.1 ∧ (¬ v.2.2.1 = -1 → cp k = v.2.2.2.1) ∧ (v.2.2.1 = -1 → v.2.2.2.1 = -1) ∧ aw k = v.2.2.2.2.1 ∧ (v.2.2.2.2.1 = 0 ∨ v.2.2.2.2.1 = 1) ∧ nw k = v.2.2.2.2.2.1 ∧ (v.2.2.2.2.2.1 = -1 ∨ hrT v.2.2.2.2.2.1)
def prR (g : PG) (k : Nat) (v : PV9) : Prop := hpR g.nu g.pi g.vs g.cp g.aw g.nw k v ∧ hsR g.sc g.ty g.sp k v.2.2.2.2.2.2.1 ∧ hrR g.z g.wt k v.2.2.2.2.2.2.2
def tbR (g : PG) (ng : Nat) (V : List PV9) : Prop := V.length = ng ∧ ng ≤ 4 ∧ ∀ k, k < ng → prR g k (V.getD k pv0)
theorem tb_ok {g : PG} {ng : Nat} {V : List PV9} (h : tbR g ng V) : PGok g ng := ⟨h.2.1, fun k hk => ⟨⟨_, (h.2.2 k hk).2.1.2.1, (h.2.2 k hk).2.1.1⟩, ⟨_, (h.2.2 k hk).2.2.2.1, (h.2.2 k hk).2.2.1⟩⟩⟩
theorem tb_ns {g : PG} {ng : Nat} {V : List PV9} (h : tbR g ng V) {k : Nat} (hk : k < ng) : nsF g k = (V.getD k pv0).2.2.2.2.2.2.1.length := by
  unfold nsF
  have := (h.2.2 k hk).2.1
  rw [this.1, nI_clamp (by have := this.2.1; omega)]
theorem tb_wt {g : PG} {ng : Nat} {V : List PV9} (h : tbR g ng V) {k : Nat} (hk : k < ng) : wtF g k = (V.getD k pv0).2.2.2.2.2.2.2.length := by
  unfold wtF
  have := (h.2.2 k hk).2.2
  rw [this.1, nI_clamp (by have := this.2.1; omega)]
theorem sp_cs (f : Nat → Int32) (v : Int32) (n : Nat) : ∀ m, m ≤ n → (spG f v n m = true ↔ ∃ i, n - m ≤ i ∧ i < n ∧ f i = v)
  | 0, _ => ⟨fun h => absurd h Bool.false_ne_true, fun ⟨i, h1, h2, _⟩ => by omega⟩
  | m + 1, h => by
    rw [spG]
    by_cases c : f (n - (m + 1)) = v
    · rw [if_pos c]
      exact ⟨fun _ => ⟨n - (m + 1), Nat.le_refl _, by omega, c⟩, fun _ => rfl⟩
    · rw [if_neg c, sp_cs f v n m (by omega)]
      constructor
      · rintro ⟨i, h1, h2, h3⟩
        exact ⟨i, by omega, h2, h3⟩
      · rintro ⟨i, h1, h2, h3⟩
        refine ⟨i, ?_, h2, h3⟩
        by_cases c2 : i = n - (m + 1)
        · rw [c2] at h3; exact absurd h3 c
        · omega
theorem sj_cs (sp : Nat → Int32) (v : Int32) (k n : Nat) : ∀ m, m ≤ n → (sjG sp v k n m = -1 ∧ ∀ b, n - m ≤ b → b < n → ¬ sp (4 * k + b) = v) ∨ ∃ b, n - m ≤ b ∧ b < n ∧ sjG sp v k n m = nI (4 * k + b) ∧ sp (4 * k + b) = v ∧ ∀ i, n - m ≤ i → i < b → ¬ sp (4 * k + i) = v
  | 0, _ => Or.inl ⟨rfl, fun b h1 h2 => by omega⟩
  | m + 1, h => by
    rw [sjG]
    by_cases c : sp (4 * k + (n - (m + 1))) = v
    · rw [if_pos c]
      exact Or.inr ⟨n - (m + 1), Nat.le_refl _, by omega, rfl, c, fun i h1 h2 => by omega⟩
    · rw [if_neg c]
      rcases sj_cs sp v k n m (by omega) with ⟨h1, h2⟩ | ⟨b, h1, h2, h3, h4, h5⟩
      · refine Or.inl ⟨h1, fun b h3 h4 => ?_⟩
        by_cases c2 : b = n - (m + 1)
        · rw [c2]; exact c
        · exact h2 b (by omega) h4
      · refine Or.inr ⟨b, by omega, h2, h3, h4, fun i h6 h7 => ?_⟩
        by_cases c2 : i = n - (m + 1)
        · rw [c2]; exact c
        · exact h5 i (by omega) h7
theorem sk_cs (sp : Nat → Int32) (ns : Nat → Nat) (v : Int32) (ng : Nat) (h4 : ∀ k, k < ng → 4 * k + ns k < 2 ^ 30) : ∀ m, m ≤ ng → (skG sp ns v ng m = -1 ∧ ∀ a, ng - m ≤ a → a < ng → ∀ b, b < ns a → ¬ sp (4 * a + b) = v) ∨ ∃ a b, ng - m ≤ a ∧ a < ng ∧ b < ns a ∧ skG sp ns v ng m = nI (4 * a + b) ∧ sp (4 * a + b) = v ∧ (∀ i, i < b → ¬ sp (4 * a + i) = v) ∧ ∀ x, ng - m ≤ x → x < a → ∀ i, i < ns x → ¬ sp (4 * x + i) = v
  | 0, _ => Or.inl ⟨rfl, fun a h1 h2 => by omega⟩
  | m + 1, h => by
    rw [skG]
    rcases sj_cs sp v (ng - (m + 1)) (ns (ng - (m + 1))) (ns (ng - (m + 1))) (Nat.le_refl _) with ⟨h1, h2⟩ | ⟨b, h1, h2, h3, h5, h6⟩
    · rw [if_pos h1]
      rcases sk_cs sp ns v ng h4 m (by omega) with ⟨g1, g2⟩ | ⟨a, b, g1, g2, g3, g4, g5, g6, g7⟩
      · refine Or.inl ⟨g1, fun a h3 h5 b hb => ?_⟩
        by_cases c2 : a = ng - (m + 1)
        · subst c2; exact h2 b (by omega) hb
        · exact g2 a (by omega) h5 b hb
      · refine Or.inr ⟨a, b, by omega, g2, g3, g4, g5, g6, fun x h3 h5 i hi => ?_⟩
        by_cases c2 : x = ng - (m + 1)
        · subst c2; exact h2 i (by omega) hi
        · exact g7 x (by omega) h5 i hi
    · have := h4 (ng - (m + 1)) (by omega)
      rw [h3, if_neg (nI_neN (by omega))]
      exact Or.inr ⟨ng - (m + 1), b, Nat.le_refl _, by omega, h2, rfl, h5, fun i hi => h6 i (by omega) hi, fun x h7 h8 => by omega⟩
theorem pv_getE {V : List PV9} {j : Nat} (h : j < V.length) : V[j] = V.getD j pv0 := by
  rw [List.getD_eq_getElem?_getD, List.getElem?_eq_getElem h]
  rfl
theorem st_getE {S : List (Int32 × Nat)} {j : Nat} (h : j < S.length) : S[j] = S.getD j (0, 0) := by
  rw [List.getD_eq_getElem?_getD, List.getElem?_eq_getElem h]
  rfl
theorem has_iff {v : PV9} {pid : Nat} : huHas v pid = true ↔ ∃ j, j < v.2.2.2.2.2.2.1.length ∧ (v.2.2.2.2.2.2.1.getD j (0, 0)).2 = pid := by
  unfold huHas
  rw [List.any_eq_true]
  constructor
  · rintro ⟨y, hy, he⟩
    obtain ⟨j, hj, rfl⟩ := List.getElem_of_mem hy
    exact ⟨j, hj, by rw [← st_getE hj]; exact eq_of_beq he⟩
  · rintro ⟨j, hj, he⟩
    exact ⟨_, List.getElem_mem hj, by rw [st_getE hj]; exact beq_iff_eq.mpr he⟩
/-- whose stream it is -/
theorem hr_sk {g : PG} {ng : Nat} {V : List PV9} (h : tbR g ng V) {pid : Nat} (hp : pid < 8192) : (skG g.sp (nsF g) (nI pid) ng ng = -1 ∧ huOw V pid = none) ∨ ∃ a b, a < ng ∧ b < 4 ∧ skG g.sp (nsF g) (nI pid) ng ng = nI (4 * a + b) ∧ huOw V pid = some a ∧ g.ty (4 * a + b) = huTy (V.getD a pv0) pid := by
  have hlen := h.1
  have h4 := h.2.1
  have hsp : ∀ a, a < ng → ∀ b, b < nsF g a → (g.sp (4 * a + b) = nI pid ↔ ((V.getD a pv0).2.2.2.2.2.2.1.getD b (0, 0)).2 = pid) := fun a ha b hb => by
    rw [tb_ns h ha] at hb
    have := (h.2.2 a ha).2.1.2.2 b hb
    rw [this.2.1, nI_eq (by omega) (by omega)]
  rcases sk_cs g.sp (nsF g) (nI pid) ng (fun k hk => by rw [tb_ns h hk]; have := (h.2.2 k hk).2.1.2.1; omega) ng (Nat.le_refl _) with ⟨h1, h2⟩ | ⟨a, b, -, ha, hb, h3, h5, h6, h7⟩
  · refine Or.inl ⟨h1, ?_⟩
    unfold huOw
    refine fi_none (fun i hi => ?_)
    rw [pv_getE hi]
    cases c : huHas (V.getD i pv0) pid with
    | false => rfl
    | true =>
      obtain ⟨j, hj, he⟩ := has_iff.mp c
      have hi2 : i < ng := by omega
      rw [← tb_ns h hi2] at hj
      exact absurd ((hsp i hi2 j hj).mpr he) (h2 i (by omega) hi2 j hj)
  · have hb4 : b < 4 := by rw [tb_ns h ha] at hb; have := (h.2.2 a ha).2.1.2.1; omega
    have hb2 : b < (V.getD a pv0).2.2.2.2.2.2.1.length := by rw [← tb_ns h ha]; exact hb
    have he := (hsp a ha b hb).mp h5
    refine Or.inr ⟨a, b, ha, hb4, h3, ?_, ?_⟩
    · unfold huOw
      refine fi_some (by omega) ?_ (fun i hi => ?_)
      · rw [pv_getE (by omega)]
        exact has_iff.mpr ⟨b, hb2, he⟩
      · rw [pv_getE (by omega)]
        cases c : huHas (V.getD i pv0) pid with
        | false => rfl
        | true =>
          obtain ⟨j, hj, hje⟩ := has_iff.mp c
          have hi2 : i < ng := by omega
          rw [← tb_ns h hi2] at hj
          exact absurd ((hsp i hi2 j hj).mpr hje) (h7 i (by omega) hi j hj)
    · rw [((h.2.2 a ha).2.1.2.2 b hb2).1]
      unfold huTy
      rw [fnd_D (p := fun x : Int32 × Nat => x.2 == pid) (d := (0, 0)) hb2 (beq_iff_eq.mpr he) (fun i hi => by
        cases c : (((V.getD a pv0).2.2.2.2.2.2.1.getD i (0, 0)).2 == pid) with
        | false => rfl
        | true => exact absurd ((hsp a ha i (by omega)).mpr (eq_of_beq c)) (h6 i hi))]
      rfl
theorem hr_use {g : PG} {ng : Nat} {V : List PV9} (h : tbR g ng V) {pid : Nat} (hp : pid < 8192) : puV ng g.pi g.sp g.ty (nsF g) (nI pid) = nI (huUs V pid) := by
  unfold puV huUs
  by_cases c0 : pid = 0
  · rw [if_pos c0, if_pos (by rw [c0]; rfl)]; rfl
  · rw [if_neg c0, if_neg (show ¬ nI pid = 0 from fun q => c0 ((nI_eq (b := 0) (by omega) (by decide)).mp q))]
    have e1 : spG g.pi (nI pid) ng ng = true ↔ V.any (fun v => v.2.1 == pid) = true := by
      rw [sp_cs _ _ _ _ (Nat.le_refl _), List.any_eq_true]
      constructor
      · rintro ⟨i, -, hi, he⟩
        have hi2 : i < V.length := by rw [h.1]; exact hi
        refine ⟨_, List.getElem_mem hi2, ?_⟩
        rw [pv_getE hi2]
        have := (h.2.2 i hi).1
        rw [this.2.1, nI_eq (by have := this.2.2.1; omega) (by omega)] at he
        exact beq_iff_eq.mpr he
      · rintro ⟨v, hv, he⟩
        obtain ⟨i, hi, rfl⟩ := List.getElem_of_mem hv
        rw [pv_getE hi] at he
        have hi2 : i < ng := by rw [← h.1]; exact hi
        refine ⟨i, by omega, hi2, ?_⟩
        rw [(h.2.2 i hi2).1.2.1, eq_of_beq he]
    by_cases c1 : V.any (fun v => v.2.1 == pid) = true
    · rw [if_pos c1, if_pos (e1.mpr c1)]; rfl
    · rw [if_neg c1, if_neg (mt e1.mp c1)]
      rcases hr_sk h hp with ⟨h1, h2⟩ | ⟨a, b, ha, hb, h1, h2, h3⟩
      · rw [h1, h2, if_pos rfl]; rfl
      · have h4 := h.2.1
        rw [h1, h2, if_neg (nI_neN (by omega)), nI_clamp (by omega), h3]
        show _ = nI (if huTy (V.getD a pv0) pid = 134 then 3 else 4)
        by_cases c : huTy (V.getD a pv0) pid = 134
        · rw [if_pos c, if_pos c]; rfl
        · rw [if_neg c, if_neg c]; rfl
/-! Bits of a section, by the reference -/
theorem mb_hu {se : Nat → Int32} {S : Nat → Nat} {m : Nat} (hS : ∀ i, i < m → se i = nI (S i)) (hb : ∀ i, S i < 256) (k : Nat) : ∀ c, k + c ≤ 8 * m → mb_l se k c = lN (huB S k c)
  | 0, _ => rfl
  | c + 1, h => by
    show 2 * mb_l se k c + mb_b se (k + c) = lN (2 * huB S k c + _)
    rw [mb_hu hS hb k c (by omega)]
    unfold mb_b
    rw [hS _ (by omega), bt_dec _ (hb _) _ (Nat.mod_lt _ (by decide))]
    have hb2 : S ((k + c) / 8) / 2 ^ (7 - (k + c) % 8) % 2 < 2 := Nat.mod_lt _ (by decide)
    rw [nI_l (by omega), show (2 : Int64) = lN 2 from rfl, lN_mul, lN_add]
theorem bt_127 : ∀ b, b < 256 → (127 < nI b ↔ b / 128 % 2 = 1) := by decide +kernel
theorem bt_6 : ∀ b, b < 256 → ((nI b >>> ((6 : Int32) &&& 31)) &&& 1 = 1 ↔ b / 64 % 2 = 1) := by decide +kernel
theorem bt_5 : ∀ b, b < 256 → ((nI b >>> ((5 : Int32) &&& 31)) &&& 1 = 1 ↔ b / 32 % 2 = 1) := by decide +kernel
theorem bt_4 : ∀ b, b < 256 → ((nI b >>> ((4 : Int32) &&& 31)) &&& 1 = 1 ↔ b / 16 % 2 = 1) := by decide +kernel
theorem se_nI {se : Nat → Int32} {S : Nat → Nat} {m i : Nat} (hS : ∀ i, i < m → se i = nI (S i)) (hb : ∀ i, S i < 256) (hi : i < m) {y : Int32} (x : Nat) (hy : y = nI x) (hx : x < 2 ^ 31) : se i = y ↔ S i = x := by
  rw [hS i hi, hy, nI_eq (by have := hb i; omega) hx]
theorem huT_128 (S : Nat → Nat) (i k : Nat) (h : k = 8 * i) : huT S k ↔ S i / 128 % 2 = 1 := by
  subst h
  unfold huT
  rw [show 8 * i / 8 = i by omega, show 8 * i % 8 = 0 by omega]
/-- orders by a name are taken away -/
theorem hr_ca {z : OQ} {wt : Nat → Int32} {k : Nat} {W : List HO} {v : Int32} (h : hrR z wt k W) : ∀ j, j ≤ W.length → (caU z k v j).2 = ((W.take j).filter (fun w => decide (¬ w.2.1 = v))).length ∧ (∀ x, x < (caU z k v j).2 → orG (caU z k v j).1 (6 * k + x) = ((W.take j).filter (fun w => decide (¬ w.2.1 = v))).getD x oz0) ∧ (∀ i, (i / 6 ≠ k ∨ 6 * k + j ≤ i) → orG (caU z k v j).1 i = orG z i)
  | 0, _ => ⟨by rw [List.take_zero]; rfl, fun x hx => absurd hx (Nat.not_lt_zero _), fun _ _ => rfl⟩
  | j + 1, hj => by
    obtain ⟨h1, h2, h3⟩ := hr_ca h j (by omega)
    obtain ⟨g1, g2, g3⟩ := h
    have hjl : j < W.length := by omega
    have hle : ((W.take j).filter (fun w => decide (¬ w.2.1 = v))).length ≤ j := Nat.le_trans (List.length_filter_le _ _) (by rw [List.length_take]; omega)
    have hat : orG (caU z k v j).1 (6 * k + j) = W.getD j oz0 := (h3 _ (Or.inr (Nat.le_refl _))).trans (g3 j hjl).1
    have hnm : (caU z k v j).1.2.1 (6 * k + j) = (W.getD j oz0).2.1 := congrArg (fun o : HO => o.2.1) hat
    have htk : W.take (j + 1) = W.take j ++ [W.getD j oz0] := by
      rw [List.take_succ_eq_append_getElem hjl, ho_getE hjl]
    rw [caU, hnm, htk, List.filter_append]
    by_cases c : (W.getD j oz0).2.1 = v
    · rw [if_pos c]
      have e : [W.getD j oz0].filter (fun w => decide (¬ w.2.1 = v)) = [] := by
        rw [List.filter_cons_of_neg (by simpa using c)]
        rfl
      rw [e, List.append_nil]
      exact ⟨h1, h2, fun i hi => h3 i (hi.imp id (fun q => by omega))⟩
    · rw [if_neg c]
      have e : [W.getD j oz0].filter (fun w => decide (¬ w.2.1 = v)) = [W.getD j oz0] := by
        rw [List.filter_cons_of_pos (by simpa using c)]
        rfl
      rw [e]
      have hb : (caU z k v j).1.2.2.1 (6 * k + j) = 0 ∨ (caU z k v j).1.2.2.1 (6 * k + j) = 1 := by
        rw [show (caU z k v j).1.2.2.1 (6 * k + j) = (W.getD j oz0).2.2.1 from congrArg (fun o : HO => o.2.2.1) hat]
        exact (g3 j hjl).2.2.1
      refine ⟨by rw [List.length_append, List.length_singleton, ← h1], fun x hx => ?_, fun i hi => ?_⟩
      · have hx : x < (caU z k v j).2 + 1 := hx
        show orG (omv _ _ _) _ = _
        rw [hr_mv _ _ _ _ hb, gd_app (by rw [List.length_append, List.length_singleton, ← h1]; exact hx), hat]
        by_cases c2 : x = (caU z k v j).2
        · rw [if_pos (by omega), if_pos (by omega)]
        · rw [if_neg (by omega), if_neg (by omega)]
          exact h2 x (by omega)
      · show orG (omv _ _ _) _ = _
        rw [hr_mv _ _ _ _ hb, if_neg (by rw [h1]; omega)]
        exact h3 i (hi.imp id (fun q => by omega))
theorem hr_can {z : OQ} {wt : Nat → Int32} {k : Nat} {W : List HO} {v : Int32} (h : hrR z wt k W) : hrR (caU z k v W.length).1 (upd wt k (nI (caU z k v W.length).2)) k (W.filter (fun w => decide (¬ w.2.1 = v))) ∧ frO k z (caU z k v W.length).1 wt (upd wt k (nI (caU z k v W.length).2)) := by
  obtain ⟨h1, h2, h3⟩ := hr_ca (v := v) h W.length (Nat.le_refl _)
  rw [List.take_length] at h1 h2
  have hle := List.length_filter_le (fun w : HO => decide (¬ w.2.1 = v)) W
  refine ⟨⟨by rw [← h1]; exact pk_us, by have := h.2.1; omega, fun j hj => ⟨h2 j (by omega), ?_⟩⟩, fun i hi => h3 i (Or.inl hi), fun x hx => pk_un hx⟩
  have hm : (W.filter (fun w => decide (¬ w.2.1 = v))).getD j oz0 ∈ W := by
    rw [← ho_getE hj]
    exact (List.mem_filter.mp (List.getElem_mem hj)).1
  obtain ⟨i, hi, he⟩ := List.getElem_of_mem hm
  rw [← he, ho_getE hi]
  exact (h.2.2 i hi).2
/-- an order section: the programme behind it -/
theorem hr_or {g : PG} {k n : Nat} {v : PV9} {se : Nat → Int32} {S : Nat → Nat} (hv : prR g k v) (hS : ∀ i, i < n → se i = nI (S i)) (hb : ∀ i, S i < 256) : prR (orU g se n k v.2.2.2.2.2.2.2.length) k (if huIo S n then huOrV S n v else v) ∧ ∀ x, x ≠ k → ∀ w, prR g x w → prR (orU g se n k v.2.2.2.2.2.2.2.length) x w := by
  have hv0 := hv
  obtain ⟨hh, hs, hr⟩ := hv
  have eO : ∀ y : OQ × (Nat → Int32), frO k g.z y.1 g.wt y.2 → ∀ x, x ≠ k → ∀ w, prR g x w → prR (orZ g y) x w := fun y hy x hx w hw => ⟨hw.1, hw.2.1, fr_hr hy hx hw.2.2⟩
  have eZ : ∀ (y : OQ × (Nat → Int32)) (W2 : List HO), hrR y.1 y.2 k W2 → prR (orZ g y) k (huVa v v.2.2.2.2.2.1 (v.2.2.2.2.1, W2)) := fun y W2 hy => ⟨hh, hs, hy⟩
  have eB : ∀ (y : OQ × (Nat → Int32)) (W2 : List HO) (a : Int32), (a = 0 ∨ a = 1) → hrR y.1 y.2 k W2 → prR (orZ (orB g k a) y) k (huVa v v.2.2.2.2.2.1 (a, W2)) := fun y W2 a ha hy => by
    refine ⟨?_, hs, hy⟩
    obtain ⟨h1, h2, h3, h4, h5, h6, h7, h8, h9, h10⟩ := hh
    refine ⟨h1, h2, h3, h4, h5, h6, ?_, ha, h9, h10⟩
    show upd g.aw k (zb a) k = a
    rw [pk_us, zb_01 ha]
  have eBx : ∀ (y : OQ × (Nat → Int32)) (a : Int32), frO k g.z y.1 g.wt y.2 → ∀ x, x ≠ k → ∀ w, prR g x w → prR (orZ (orB g k a) y) x w := fun y a hy x hx w hw => by
    refine ⟨?_, hw.2.1, fr_hr hy hx hw.2.2⟩
    obtain ⟨h1, h2, h3, h4, h5, h6, h7, h8, h9, h10⟩ := hw.1
    refine ⟨h1, h2, h3, h4, h5, h6, ?_, h8, h9, h10⟩
    show upd g.aw k (zb a) x = _
    rw [pk_un hx]; exact h7
  have eV : huVa v v.2.2.2.2.2.1 (v.2.2.2.2.1, v.2.2.2.2.2.2.2) = v := rfl
  unfold orU
  have hIo : orH se n ↔ huIo S n := by
    by_cases hn : 19 ≤ n
    · unfold orH huIo
      rw [se_nI (i := 0) (y := 252) hS hb (by omega) 252 rfl (by decide), se_nI (i := 3) (y := 0) hS hb (by omega) 0 rfl (by decide), se_nI (i := 13) (y := 5) hS hb (by omega) 5 rfl (by decide), hS 4 (by omega), bt_127 _ (hb _), huT_128 S 4 32 rfl]
      exact ⟨fun ⟨a, b, c, d, e⟩ => ⟨a, c, d, e, b⟩, fun ⟨a, c, d, e, b⟩ => ⟨a, b, c, d, e⟩⟩
    · exact ⟨fun q => absurd q.2.1 hn, fun q => absurd q.2.2.2.2 hn⟩
  by_cases c0 : huIo S n
  · have hn : 19 ≤ n := c0.2.2.2.2
    rw [if_pos (hIo.mpr c0), if_pos c0]
    have hnm : orN se = nI (huB S 112 32) := by
      unfold orN
      rw [mb_hu hS hb _ _ (by omega), lN_i]
    have e18 : 127 < se 18 ↔ huT S 144 := by rw [hS 18 (by omega), bt_127 _ (hb _), huT_128 S 18 144 rfl]
    unfold huOrV
    by_cases c1 : huT S 144
    · rw [if_pos (e18.mpr c1), if_pos c1, hnm]
      have := hr_can (v := nI (huB S 112 32)) hr
      exact ⟨eZ _ _ this.1, eO _ this.2⟩
    · rw [if_neg (mt e18.mp c1), if_neg c1]
      unfold huSw
      by_cases c2 : n < 21
      · rw [if_pos c2, if_neg (fun q => by
          have h2 := q.2
          unfold huSwE huSwA at h2
          split at h2 <;> split at h2 <;> first | omega | (split at h2 <;> omega)), eV]
        exact ⟨hv0, fun x hx w hw => hw⟩
      · rw [if_neg c2]
        have b19 := hS 19 (by omega)
        have b20 := hS 20 (by omega)
        have eW : orWh se ↔ huT S 153 := by unfold orWh; rw [b19, bt_6 _ (hb _)]
        have eL : orLo se ↔ huT S 154 := by unfold orLo; rw [b19, bt_5 _ (hb _)]
        have eSo : orSo se ↔ huT S 155 := by unfold orSo; rw [b19, bt_4 _ (hb _)]
        have eT : orTi se ↔ huSwT S := by unfold orTi huSwT; rw [eSo, b20, bt_127 _ (hb _), huT_128 S 20 160 rfl]
        have eA : orA se = huSwA S := by unfold orA huSwA; rw [if_iff eSo, if_iff eT]
        have eE : orA se + orL se + 4 = huSwE S := by
          unfold orL huSwE
          rw [eA]
          by_cases c : huT S 154
          · rw [if_pos c, if_pos (eL.mpr c)]
          · rw [if_neg c, if_neg (mt eL.mp c)]
        have eAw : orAw se = if huT S 152 then 1 else 0 := by
          unfold orAw
          rw [b19]
          exact if_iff ((bt_127 _ (hb _)).trans (huT_128 S 19 152 rfl).symm) _ _
        rw [eE]
        by_cases c3 : huT S 153 ∧ huSwE S ≤ n
        · rw [if_pos ⟨eW.mpr c3.1, c3.2⟩, if_pos c3]
          have hE := c3.2
          have hA20 : 20 ≤ huSwA S ∧ huSwA S + 4 ≤ n := by
            unfold huSwE at hE
            constructor
            · unfold huSwA; split; omega; split <;> omega
            · split at hE <;> omega
          have eR : orBk se ↔ huSwR S := by
            unfold orBk huSwR
            rw [eL, eA, hS _ (by omega), bt_127 _ (hb _), huT_128 S (huSwA S) _ rfl]
          have eSp : orS se = huSwL S := by
            unfold orS huSwL
            rw [if_iff eR, eA]
            by_cases c : huSwR S
            · rw [if_pos c, if_pos c]
              have : huSwA S + 5 + 4 ≤ n := by unfold huSwE at hE; rw [if_pos c.1] at hE; exact hE
              exact mb_hu hS hb _ _ (by omega)
            · rw [if_neg c, if_neg c]
          have hLb : huSwL S = -1 ∨ hrT (huSwL S) := by
            unfold huSwL
            split
            · exact Or.inr ⟨_, huB_lt _ _ _, rfl⟩
            · exact Or.inl rfl
          have haw : (huSwO S 0).2.2.1 = 0 ∨ (huSwO S 0).2.2.1 = 1 := by
            show (if huT S 152 then (1 : Int32) else 0) = 0 ∨ (if huT S 152 then (1 : Int32) else 0) = 1
            split
            · exact Or.inr rfl
            · exact Or.inl rfl
          rw [if_iff eT]
          by_cases c4 : huSwT S
          · rw [if_pos c4, if_pos c4, hnm, eAw, eSp]
            have hA : huSwA S = 25 := by unfold huSwA; rw [if_neg c4.1, if_pos c4]
            have hr1 := rnd_add (s := lN (huB S 167 33)) (t := lN (huB S 39 33)) ⟨_, huB_lt _ _ _, rfl⟩ ⟨_, huB_lt _ _ _, rfl⟩
            rw [mb_hu hS hb 167 33 (by omega), mb_hu hS hb 39 33 (by omega), hr1.1]
            have := hr_aw (t := huSwM S) (n := nI (huB S 112 32)) (a := if huT S 152 then 1 else 0) (l := huSwL S) hr ⟨hr1.2, haw, hLb⟩
            exact ⟨eZ _ _ this.1, eO _ this.2⟩
          · rw [if_neg c4, if_neg c4, hnm, eAw, eSp]
            show prR (if _ then _ else _) k (huVa v v.2.2.2.2.2.1 ((if huT S 152 then 1 else 0), if huSwL S = -1 ∨ v.2.2.2.2.2.1 = -1 ∨ 6 ≤ v.2.2.2.2.2.2.2.length then v.2.2.2.2.2.2.2 else v.2.2.2.2.2.2.2 ++ [((v.2.2.2.2.2.1 + huSwL S) &&& 8589934591, nI (huB S 112 32), (if (if huT S 152 then (1 : Int32) else 0) = 0 then 1 else 0), -1)])) ∧ _
            have enw : g.nw k = v.2.2.2.2.2.1 := hh.2.2.2.2.2.2.2.2.1
            rw [enw]
            have haw : (if huT S 152 then (1 : Int32) else 0) = 0 ∨ (if huT S 152 then (1 : Int32) else 0) = 1 := haw
            generalize (if huT S 152 then (1 : Int32) else 0) = aw9 at haw
            by_cases c5 : orBk se ∧ ¬ v.2.2.2.2.2.1 = -1
            · rw [if_pos c5]
              have hR := eR.mp c5.1
              have hLl : hrT (huSwL S) := by
                unfold huSwL
                rw [if_pos hR]
                exact ⟨_, huB_lt _ _ _, rfl⟩
              have hnw := hh.2.2.2.2.2.2.2.2.2.resolve_left c5.2
              have hr1 := rnd_add hnw hLl
              rw [hr1.1]
              have ha2 : (if aw9 = 0 then (1 : Int32) else 0) = 0 ∨ (if aw9 = 0 then (1 : Int32) else 0) = 1 := by
                by_cases c : aw9 = 0
                · rw [if_pos c]; exact Or.inr rfl
                · rw [if_neg c]; exact Or.inl rfl
              generalize (if aw9 = 0 then (1 : Int32) else 0) = aw8 at ha2
              have := hr_ap (t := (v.2.2.2.2.2.1 + huSwL S) &&& 8589934591) (n := nI (huB S 112 32)) (a := aw8) (l := -1) hr ⟨hr1.2, ha2, Or.inl rfl⟩
              refine ⟨?_, eBx _ _ this.2⟩
              have h9 := eB _ _ aw9 haw this.1
              have e9 : (if v.2.2.2.2.2.2.2.length < 6 then v.2.2.2.2.2.2.2 ++ [((v.2.2.2.2.2.1 + huSwL S) &&& 8589934591, nI (huB S 112 32), aw8, -1)] else v.2.2.2.2.2.2.2) = (if huSwL S = -1 ∨ v.2.2.2.2.2.1 = -1 ∨ 6 ≤ v.2.2.2.2.2.2.2.length then v.2.2.2.2.2.2.2 else v.2.2.2.2.2.2.2 ++ [((v.2.2.2.2.2.1 + huSwL S) &&& 8589934591, nI (huB S 112 32), aw8, -1)]) := by
                by_cases c6 : v.2.2.2.2.2.2.2.length < 6
                · have hc9 : ¬ (huSwL S = -1 ∨ v.2.2.2.2.2.1 = -1 ∨ 6 ≤ v.2.2.2.2.2.2.2.length) := fun q => q.elim (hrT_ne hLl) (fun q => q.elim c5.2 (fun q => by omega))
                  rw [if_pos c6, if_neg hc9]
                · rw [if_neg c6, if_pos (Or.inr (Or.inr (by omega)))]
              rw [← e9]
              exact h9
            · have hc9 : huSwL S = -1 ∨ v.2.2.2.2.2.1 = -1 ∨ 6 ≤ v.2.2.2.2.2.2.2.length := by
                by_cases c6 : v.2.2.2.2.2.1 = -1
                · exact Or.inr (Or.inl c6)
                · refine Or.inl ?_
                  unfold huSwL
                  exact if_neg (fun q => c5 ⟨eR.mpr q, c6⟩)
              rw [if_neg c5, if_pos hc9]
              exact ⟨eB (g.z, g.wt) _ _ haw hr, eBx (g.z, g.wt) _ (frO_r _ _ _)⟩
        · rw [if_neg (fun q => c3 ⟨eW.mp q.1, q.2⟩), if_neg c3, eV]
          exact ⟨hv0, fun x hx w hw => hw⟩
  · rw [if_neg (mt hIo.mp c0), if_neg c0]
    exact ⟨hv0, fun x hx w hw => hw⟩


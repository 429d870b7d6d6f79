theorem wd_15 : (Jvm.Cond.selects "StreamSplitter$Receiver" ({ cls := "StreamSplitter$Receiver", name := "growSection", desc := "(LStreamSplitter$Lane;II)I" } : Jvm.MethodName) ({ cls := "StreamSplitter$Receiver", name := "growSection", desc := "(LStreamSplitter$Lane;II)I" } : Jvm.MethodName)) ∈ lw_ok := List.mem_filter.mpr ⟨List.mem_of_getElem? (i := 15) (by decide +kernel), rfl⟩
theorem wd_531 : (Jvm.Cond.methodLink "StreamSplitter$Receiver" (119 : Nat) ({ cls := "StreamSplitter$Receiver", name := "growSection", desc := "(LStreamSplitter$Lane;II)I" } : Jvm.MethodName)) ∈ lw_ok := List.mem_filter.mpr ⟨List.mem_of_getElem? (i := 531) (by decide +kernel), rfl⟩
theorem wd_533 : (Jvm.Cond.instanceMethod ({ cls := "StreamSplitter$Receiver", name := "growSection", desc := "(LStreamSplitter$Lane;II)I" } : Jvm.MethodName)) ∈ lw_ok := List.mem_filter.mpr ⟨List.mem_of_getElem? (i := 533) (by decide +kernel), rfl⟩
set_option maxRecDepth 100000 in
theorem wd_534 : (Jvm.Cond.code ({ cls := "StreamSplitter$Receiver", name := "growSection", desc := "(LStreamSplitter$Lane;II)I" } : Jvm.MethodName) prog_8_method_10_code (7 : Nat) (Option.some Jvm.ClassFile.FieldType.int)) ∈ lw_ok := List.mem_filter.mpr ⟨List.mem_of_getElem? (i := 534) (by rfl), rfl⟩
theorem hd_Receiver_growSection : y_Receiver_growSection.cls ≠ "java/lang/invoke/MethodHandle" ∧ y_Receiver_growSection.cls ≠ "java/lang/invoke/VarHandle" ∧ (parseMethodDescriptor y_Receiver_growSection.desc).map (fun d => d.parameters.length) = some 3 := by decide +kernel
theorem d_Receiver_useSectionBytes_0 : decode b_Receiver_useSectionBytes 0 = .ok (.aload_n 0, 1) := by decide +kernel
theorem d_Receiver_useSectionBytes_1 : decode b_Receiver_useSectionBytes 1 = .ok (.iload_n 2, 1) := by decide +kernel
theorem d_Receiver_useSectionBytes_2 : decode b_Receiver_useSectionBytes 2 = .ok (.invokevirtual 112, 3) := by decide +kernel
theorem d_Receiver_useSectionBytes_5 : decode b_Receiver_useSectionBytes 5 = .ok (.istore_n 3, 1) := by decide +kernel
theorem d_Receiver_useSectionBytes_6 : decode b_Receiver_useSectionBytes 6 = .ok (.iload_n 2, 1) := by decide +kernel
theorem d_Receiver_useSectionBytes_7 : decode b_Receiver_useSectionBytes 7 = .ok (.sipush 188, 3) := by decide +kernel
theorem d_Receiver_useSectionBytes_10 : decode b_Receiver_useSectionBytes 10 = .ok (.iadd, 1) := by decide +kernel
theorem d_Receiver_useSectionBytes_11 : decode b_Receiver_useSectionBytes 11 = .ok (.istore 4, 2) := by decide +kernel
theorem d_Receiver_useSectionBytes_13 : decode b_Receiver_useSectionBytes 13 = .ok (.aload_n 0, 1) := by decide +kernel
theorem d_Receiver_useSectionBytes_14 : decode b_Receiver_useSectionBytes 14 = .ok (.iload_n 2, 1) := by decide +kernel
theorem d_Receiver_useSectionBytes_15 : decode b_Receiver_useSectionBytes 15 = .ok (.invokevirtual 115, 3) := by decide +kernel
theorem d_Receiver_useSectionBytes_18 : decode b_Receiver_useSectionBytes 18 = .ok (.ifCond .ne 20, 3) := by decide +kernel
theorem d_Receiver_useSectionBytes_21 : decode b_Receiver_useSectionBytes 21 = .ok (.aload_n 1, 1) := by decide +kernel
theorem d_Receiver_useSectionBytes_22 : decode b_Receiver_useSectionBytes 22 = .ok (.invokevirtual 84, 3) := by decide +kernel
theorem d_Receiver_useSectionBytes_25 : decode b_Receiver_useSectionBytes 25 = .ok (.ifCond .eq 12, 3) := by decide +kernel
theorem d_Receiver_useSectionBytes_28 : decode b_Receiver_useSectionBytes 28 = .ok (.aload_n 0, 1) := by decide +kernel
theorem d_Receiver_useSectionBytes_29 : decode b_Receiver_useSectionBytes 29 = .ok (.aload_n 1, 1) := by decide +kernel
theorem d_Receiver_useSectionBytes_30 : decode b_Receiver_useSectionBytes 30 = .ok (.iload_n 3, 1) := by decide +kernel
theorem d_Receiver_useSectionBytes_31 : decode b_Receiver_useSectionBytes 31 = .ok (.iload 4, 2) := by decide +kernel
theorem d_Receiver_useSectionBytes_33 : decode b_Receiver_useSectionBytes 33 = .ok (.invokevirtual 119, 3) := by decide +kernel
theorem d_Receiver_useSectionBytes_36 : decode b_Receiver_useSectionBytes 36 = .ok (.pop, 1) := by decide +kernel
theorem d_Receiver_useSectionBytes_37 : decode b_Receiver_useSectionBytes 37 = .ok (.return_, 1) := by decide +kernel
theorem d_Receiver_useSectionBytes_38 : decode b_Receiver_useSectionBytes 38 = .ok (.iload_n 3, 1) := by decide +kernel
theorem d_Receiver_useSectionBytes_39 : decode b_Receiver_useSectionBytes 39 = .ok (.iconst 1, 1) := by decide +kernel
theorem d_Receiver_useSectionBytes_40 : decode b_Receiver_useSectionBytes 40 = .ok (.iadd, 1) := by decide +kernel
theorem d_Receiver_useSectionBytes_41 : decode b_Receiver_useSectionBytes 41 = .ok (.aload_n 0, 1) := by decide +kernel
theorem d_Receiver_useSectionBytes_42 : decode b_Receiver_useSectionBytes 42 = .ok (.getfield 14, 3) := by decide +kernel
theorem d_Receiver_useSectionBytes_45 : decode b_Receiver_useSectionBytes 45 = .ok (.iload_n 3, 1) := by decide +kernel
theorem d_Receiver_useSectionBytes_46 : decode b_Receiver_useSectionBytes 46 = .ok (.invokevirtual 44, 3) := by decide +kernel
theorem d_Receiver_useSectionBytes_49 : decode b_Receiver_useSectionBytes 49 = .ok (.iadd, 1) := by decide +kernel
theorem d_Receiver_useSectionBytes_50 : decode b_Receiver_useSectionBytes 50 = .ok (.istore 5, 2) := by decide +kernel
theorem d_Receiver_useSectionBytes_52 : decode b_Receiver_useSectionBytes 52 = .ok (.iload 5, 2) := by decide +kernel
theorem d_Receiver_useSectionBytes_54 : decode b_Receiver_useSectionBytes 54 = .ok (.iload 4, 2) := by decide +kernel
theorem d_Receiver_useSectionBytes_56 : decode b_Receiver_useSectionBytes 56 = .ok (.if_icmp .le 9, 3) := by decide +kernel
theorem d_Receiver_useSectionBytes_59 : decode b_Receiver_useSectionBytes 59 = .ok (.aload_n 0, 1) := by decide +kernel
theorem d_Receiver_useSectionBytes_60 : decode b_Receiver_useSectionBytes 60 = .ok (.aload_n 1, 1) := by decide +kernel
theorem d_Receiver_useSectionBytes_61 : decode b_Receiver_useSectionBytes 61 = .ok (.invokevirtual 72, 3) := by decide +kernel
theorem d_Receiver_useSectionBytes_64 : decode b_Receiver_useSectionBytes 64 = .ok (.return_, 1) := by decide +kernel
theorem d_Receiver_useSectionBytes_65 : decode b_Receiver_useSectionBytes 65 = .ok (.aload_n 1, 1) := by decide +kernel
theorem d_Receiver_useSectionBytes_66 : decode b_Receiver_useSectionBytes 66 = .ok (.invokevirtual 84, 3) := by decide +kernel
theorem d_Receiver_useSectionBytes_69 : decode b_Receiver_useSectionBytes 69 = .ok (.ifCond .eq 23, 3) := by decide +kernel
theorem d_Receiver_useSectionBytes_72 : decode b_Receiver_useSectionBytes 72 = .ok (.aload_n 0, 1) := by decide +kernel
theorem d_Receiver_useSectionBytes_73 : decode b_Receiver_useSectionBytes 73 = .ok (.aload_n 1, 1) := by decide +kernel
theorem d_Receiver_useSectionBytes_74 : decode b_Receiver_useSectionBytes 74 = .ok (.iload_n 3, 1) := by decide +kernel
theorem d_Receiver_useSectionBytes_75 : decode b_Receiver_useSectionBytes 75 = .ok (.iconst 1, 1) := by decide +kernel
theorem d_Receiver_useSectionBytes_76 : decode b_Receiver_useSectionBytes 76 = .ok (.iadd, 1) := by decide +kernel
theorem d_Receiver_useSectionBytes_77 : decode b_Receiver_useSectionBytes 77 = .ok (.iload 5, 2) := by decide +kernel
theorem d_Receiver_useSectionBytes_79 : decode b_Receiver_useSectionBytes 79 = .ok (.invokevirtual 119, 3) := by decide +kernel
theorem d_Receiver_useSectionBytes_82 : decode b_Receiver_useSectionBytes 82 = .ok (.iconst (-1), 1) := by decide +kernel
theorem d_Receiver_useSectionBytes_83 : decode b_Receiver_useSectionBytes 83 = .ok (.if_icmp .ne 4, 3) := by decide +kernel
theorem d_Receiver_useSectionBytes_86 : decode b_Receiver_useSectionBytes 86 = .ok (.return_, 1) := by decide +kernel
theorem d_Receiver_useSectionBytes_87 : decode b_Receiver_useSectionBytes 87 = .ok (.aload_n 0, 1) := by decide +kernel
theorem d_Receiver_useSectionBytes_88 : decode b_Receiver_useSectionBytes 88 = .ok (.aload_n 1, 1) := by decide +kernel
theorem d_Receiver_useSectionBytes_89 : decode b_Receiver_useSectionBytes 89 = .ok (.invokevirtual 72, 3) := by decide +kernel
theorem d_Receiver_useSectionBytes_92 : decode b_Receiver_useSectionBytes 92 = .ok (.iload 5, 2) := by decide +kernel
theorem d_Receiver_useSectionBytes_94 : decode b_Receiver_useSectionBytes 94 = .ok (.istore 6, 2) := by decide +kernel
theorem d_Receiver_useSectionBytes_96 : decode b_Receiver_useSectionBytes 96 = .ok (.iconst 0, 1) := by decide +kernel
theorem d_Receiver_useSectionBytes_97 : decode b_Receiver_useSectionBytes 97 = .ok (.istore 7, 2) := by decide +kernel
theorem d_Receiver_useSectionBytes_99 : decode b_Receiver_useSectionBytes 99 = .ok (.iload 7, 2) := by decide +kernel
theorem d_Receiver_useSectionBytes_101 : decode b_Receiver_useSectionBytes 101 = .ok (.sipush 184, 3) := by decide +kernel
theorem d_Receiver_useSectionBytes_104 : decode b_Receiver_useSectionBytes 104 = .ok (.if_icmp .ge 48, 3) := by decide +kernel
theorem d_Receiver_useSectionBytes_107 : decode b_Receiver_useSectionBytes 107 = .ok (.iload 6, 2) := by decide +kernel
theorem d_Receiver_useSectionBytes_109 : decode b_Receiver_useSectionBytes 109 = .ok (.iconst (-1), 1) := by decide +kernel
theorem d_Receiver_useSectionBytes_110 : decode b_Receiver_useSectionBytes 110 = .ok (.if_icmp .eq 42, 3) := by decide +kernel
theorem d_Receiver_useSectionBytes_113 : decode b_Receiver_useSectionBytes 113 = .ok (.iload 6, 2) := by decide +kernel
theorem d_Receiver_useSectionBytes_115 : decode b_Receiver_useSectionBytes 115 = .ok (.iload 4, 2) := by decide +kernel
theorem d_Receiver_useSectionBytes_117 : decode b_Receiver_useSectionBytes 117 = .ok (.if_icmp .ge 35, 3) := by decide +kernel
theorem d_Receiver_useSectionBytes_120 : decode b_Receiver_useSectionBytes 120 = .ok (.aload_n 0, 1) := by decide +kernel
theorem d_Receiver_useSectionBytes_121 : decode b_Receiver_useSectionBytes 121 = .ok (.getfield 14, 3) := by decide +kernel
theorem d_Receiver_useSectionBytes_124 : decode b_Receiver_useSectionBytes 124 = .ok (.iload 6, 2) := by decide +kernel
theorem d_Receiver_useSectionBytes_126 : decode b_Receiver_useSectionBytes 126 = .ok (.invokevirtual 44, 3) := by decide +kernel
theorem d_Receiver_useSectionBytes_129 : decode b_Receiver_useSectionBytes 129 = .ok (.sipush 255, 3) := by decide +kernel
theorem d_Receiver_useSectionBytes_132 : decode b_Receiver_useSectionBytes 132 = .ok (.if_icmp .eq 20, 3) := by decide +kernel
theorem d_Receiver_useSectionBytes_135 : decode b_Receiver_useSectionBytes 135 = .ok (.aload_n 0, 1) := by decide +kernel
theorem d_Receiver_useSectionBytes_136 : decode b_Receiver_useSectionBytes 136 = .ok (.aload_n 1, 1) := by decide +kernel
theorem d_Receiver_useSectionBytes_137 : decode b_Receiver_useSectionBytes 137 = .ok (.iload 6, 2) := by decide +kernel
theorem d_Receiver_useSectionBytes_139 : decode b_Receiver_useSectionBytes 139 = .ok (.iload 4, 2) := by decide +kernel
theorem d_Receiver_useSectionBytes_141 : decode b_Receiver_useSectionBytes 141 = .ok (.invokevirtual 119, 3) := by decide +kernel
theorem d_Receiver_useSectionBytes_144 : decode b_Receiver_useSectionBytes 144 = .ok (.istore 6, 2) := by decide +kernel
theorem d_Receiver_useSectionBytes_146 : decode b_Receiver_useSectionBytes 146 = .ok (.iinc 7 1, 3) := by decide +kernel
theorem d_Receiver_useSectionBytes_149 : decode b_Receiver_useSectionBytes 149 = .ok (.goto (-50), 3) := by decide +kernel
theorem d_Receiver_useSectionBytes_152 : decode b_Receiver_useSectionBytes 152 = .ok (.return_, 1) := by decide +kernel
/-! A packet's bytes for sections -/
def cbp (pid : Nat) : Nat := if pid = 0 then 9 else 4
def sbp (pid : Nat) : Nat := if pid = 0 then 109 else 42
def seM (pid : Nat) : Nat := if pid = 0 then 18 else 6
def seN (pid : Nat) : Nat := if pid = 0 then 109 else 21
def ubM (pid : Nat) : Nat := if pid = 0 then 118 else 52
def ubN (pid : Nat) : Nat := if pid = 0 then 716 else 276
def ubC (f : Nat → Int32) (n k pid : Nat) : Nat := if rw_at f n 9400 (nI (k + 1)) &&& 64 = 0 then seM pid else seM pid + ubM pid
def ubS (f : Nat → Int32) (n k pid : Nat) : Nat := if rw_at f n 9400 (nI (k + 1)) &&& 64 = 0 then seN pid else seN pid + ubN pid
/-- a section begins in the packet -/
abbrev ub1 (f : Nat → Int32) (n k : Nat) : Prop := payN f n 9400 k + 1 + rbN f n 9400 (payN f n 9400 k) < k + 188 ∧ ¬ rbN f n 9400 (payN f n 9400 k + 1 + rbN f n 9400 (payN f n 9400 k)) = 255
def ubR (f : Nat → Int32) (n k : Nat) (se : Option SQ9) : Nat := if rw_at f n 9400 (nI (k + 1)) &&& 64 = 0 ∨ ¬ ub1 f n k then 0 else rwC se
def ubT (f : Nat → Int32) (n k : Nat) (se : Option SQ9) : Nat := if rw_at f n 9400 (nI (k + 1)) &&& 64 = 0 ∨ ¬ ub1 f n k then 0 else rwS se
theorem sec_rw {se : Option SQ9} (h : ¬ secN se = 0) : rwC se = 0 ∧ rwS se = 0 := by
  cases se with
  | none => exact absurd rfl h
  | some q => exact ⟨rfl, rfl⟩
theorem seC_le (pid n : Nat) : seC pid n ≤ seM pid ∧ seS pid n ≤ seN pid := by
  unfold seC seS seM seN llC llS liM
  by_cases c : n < 12
  · rw [if_pos c, if_pos c]; omega
  · rw [if_neg c, if_neg c]
    by_cases d : pid = 0
    · rw [if_pos d, if_pos d, if_pos d, if_pos d]; omega
    · rw [if_neg d, if_neg d, if_neg d, if_neg d]
      by_cases e : n < 21
      · rw [if_pos e, if_pos e]; omega
      · rw [if_neg e, if_neg e]; omega
theorem seC_b (pid n : Nat) : 14 * seC pid n ≤ cbp pid * n ∧ 28 * seS pid n ≤ sbp pid * n := by
  unfold seC seS cbp sbp llC llS liM
  by_cases c : n < 12
  · rw [if_pos c, if_pos c]; exact ⟨Nat.zero_le _, Nat.zero_le _⟩
  · rw [if_neg c, if_neg c]
    by_cases d : pid = 0
    · rw [if_pos d, if_pos d, if_pos d, if_pos d]; omega
    · rw [if_neg d, if_neg d, if_neg d, if_neg d]
      by_cases e : n < 21
      · rw [if_pos e, if_pos e]; omega
      · rw [if_neg e, if_neg e]; omega
theorem ub_m {pid c s d : Nat} (h1 : 14 * c ≤ cbp pid * d) (h2 : 28 * s ≤ sbp pid * d) (hd : d ≤ 184) : c ≤ ubM pid ∧ s ≤ ubN pid := by
  unfold cbp at h1
  unfold sbp at h2
  unfold ubM ubN
  by_cases e : pid = 0
  · rw [if_pos e] at h1 h2 ⊢
    rw [if_pos e]
    omega
  · rw [if_neg e] at h1 h2 ⊢
    rw [if_neg e]
    omega
def gsX (pid : Nat) (o : Nat × Nat × Nat × (Nat → Int32)) : Nat := if o.1 = 2 then seC pid o.2.2.1 else 0
def gsY (pid : Nat) (o : Nat × Nat × Nat × (Nat → Int32)) : Nat := if o.1 = 2 then seS pid o.2.2.1 else 0
theorem gsX_le (pid : Nat) (o : Nat × Nat × Nat × (Nat → Int32)) : gsX pid o ≤ seM pid ∧ gsY pid o ≤ seN pid := by
  unfold gsX gsY
  have := seC_le pid o.2.2.1
  by_cases c : o.1 = 2
  · rw [if_pos c, if_pos c]; exact this
  · rw [if_neg c, if_neg c]; exact ⟨Nat.zero_le _, Nat.zero_le _⟩
/-- the bytes that a section took -/
theorem gs_len {f : Nat → Int32} {n : Nat} : ∀ (m i : Nat) (q : Nat × (Nat → Int32)), (gsO f n m i q).2.2.1 + i = q.1 + (gsO f n m i q).2.1 + (if (gsO f n m i q).1 = 0 then 0 else 1) ∧ i ≤ (gsO f n m i q).2.1 ∧ (gsO f n m i q).2.1 + (if (gsO f n m i q).1 = 0 then 0 else 1) ≤ i + m
  | 0, i, q => ⟨by show q.1 + i = q.1 + i + 0; omega, Nat.le_refl _, Nat.le_refl _⟩
  | m + 1, i, q => by
    rw [gsO]
    by_cases c : (gsA f n i q).1 = 3 ∧ 1024 < whN (gsA f n i q)
    · rw [if_pos c]
      exact ⟨by show q.1 + 1 + i = q.1 + i + 1; omega, Nat.le_refl _, by show i + 1 ≤ i + (m + 1); omega⟩
    · rw [if_neg c]
      by_cases d : 3 ≤ (gsA f n i q).1 ∧ whN (gsA f n i q) ≤ (gsA f n i q).1
      · rw [if_pos d]
        exact ⟨by show q.1 + 1 + i = q.1 + i + 1; omega, Nat.le_refl _, by show i + 1 ≤ i + (m + 1); omega⟩
      · rw [if_neg d]
        obtain ⟨h1, h2, h3⟩ := gs_len (f := f) (n := n) m (i + 1) (gsA f n i q)
        have e : (gsA f n i q).1 = q.1 + 1 := rfl
        rw [e] at h1
        exact ⟨by omega, by omega, by omega⟩
def lzk (T : List LZ) : Prop := ∀ z ∈ T, gsK (gsQ z.2.2.2.2.2.2.2.1)
theorem gsK_0 (f : Nat → Int32) : gsK (0, f) := Or.inl (by show 0 < 3; omega)
theorem lzk_le {T : List LZ} (h : lzk T) : ∀ z ∈ T, ∀ q, z.2.2.2.2.2.2.2.1 = some q → q.2.2.1 ≤ 1024 := by
  intro z hz q hq
  have h1 := h z hz
  rw [hq] at h1
  have := gsK_lt (n := q.2.2.1) (f := q.2.2.2) h1
  omega
theorem lzk_gv {T : List LZ} {la : Nat} (h : lzk T) : lzk (T.map (gvz la)) := by
  intro z hz
  obtain ⟨y, hy, rfl⟩ := List.mem_map.mp hz
  have h1 := h y hy
  unfold gvz
  split
  · exact h1
  · show gsK (gsQ (guS y.2.2.2.2.2.2.2.1))
    cases e : y.2.2.2.2.2.2.2.1 with
    | none => exact gsK_0 _
    | some q => exact gsK_0 _
theorem lzk_app {A B : List LZ} (h1 : lzk A) (h2 : lzk B) : lzk (A ++ B) := fun z hz => (List.mem_append.mp hz).elim (h1 z) (h2 z)
theorem lzk_l {A B : List LZ} (h : lzk (A ++ B)) : lzk A ∧ lzk B := ⟨fun z hz => h z (List.mem_append_left _ hz), fun z hz => h z (List.mem_append_right _ hz)⟩
theorem gsQ_gu (se : Option SQ9) : (gsQ (guS se)).1 = 0 := by
  cases se <;> rfl
theorem gsK_gu (se : Option SQ9) : gsK (gsQ (guS se)) := Or.inl (by rw [gsQ_gu]; omega)
theorem gsQ_1 (se : Option SQ9) : (gsQ se).1 = secN se := by
  cases se <;> rfl
theorem gs_inv {f : Nat → Int32} {n i0 te pid la : Nat} {cn : Nat → Int32} {se : Option SQ9} {pi : Option PQ9} {T1 T2 : List LZ} {lv : Int32} {pr : Nat} {pmo : Int32} {pst : Option (Nat × (Nat → Option Nat))} {P : List PR9} {r : Int32} {u : GS9} (h : gsP f n i0 te pid la cn se pi T1 T2 lv pr pmo pst P r u) (hz : lzk (T1 ++ T2)) : gsK (gsQ u.2.1) ∧ lzk (u.2.2.2.1 ++ u.2.2.2.2.1) ∧ lsk u.2.2.2.1 = lsk T1 ∧ lsk u.2.2.2.2.1 = lsk T2 ∧ rwC u.2.1 = 0 ∧ rwS u.2.1 = 0 := by
  obtain ⟨o, -, sa, sb, -, ⟨-, -, hk, rfl⟩ | ⟨-, -, rfl⟩ | ⟨-, -, -, -, -, he, h2, h3⟩⟩ := h
  · exact ⟨hk, hz, rfl, rfl, rfl, rfl⟩
  · exact ⟨gsK_0 _, hz, rfl, rfl, rfl, rfl⟩
  · refine ⟨by rw [h2]; exact gsK_0 _, ?_⟩
    rw [h2]
    rcases he with ⟨-, e⟩ | ⟨-, fr, -, ⟨-, -, e1, e2⟩ | ⟨-, -, e1, e2⟩⟩
    · have e1 : u.2.2.2.1 = T1 := congrArg (fun q : ES9 => q.2.1) e
      have e2 : u.2.2.2.2.1 = T2 := congrArg (fun q : ES9 => q.2.2.1) e
      rw [e1, e2]
      exact ⟨hz, rfl, rfl, rfl, rfl⟩
    · have e1 : u.2.2.2.1 = T1 := e1
      have e2 : u.2.2.2.2.1 = T2 := e2
      rw [e1, e2]
      exact ⟨hz, rfl, rfl, rfl, rfl⟩
    · have e1 : u.2.2.2.1 = T1.map (gvz la) := e1
      have e2 : u.2.2.2.2.1 = T2.map (gvz la) := e2
      rw [e1, e2]
      exact ⟨lzk_app (lzk_gv (lzk_l hz).1) (lzk_gv (lzk_l hz).2), lsk_gv _ _, lsk_gv _ _, rfl, rfl⟩
/-- what growSection answers: -1, or how far it came -/
theorem gs_ret {f : Nat → Int32} {n i0 te pid la : Nat} {cn : Nat → Int32} {se : Option SQ9} {pi : Option PQ9} {T1 T2 : List LZ} {lv : Int32} {pr : Nat} {pmo : Int32} {pst : Option (Nat × (Nat → Option Nat))} {P : List PR9} {r : Int32} {u : GS9} (h : gsP f n i0 te pid la cn se pi T1 T2 lv pr pmo pst P r u) (hi : i0 ≤ te) : r = -1 ∨ ∃ j, r = nI j ∧ i0 ≤ j ∧ j ≤ te ∧ (i0 < te → i0 < j) ∧ (j = te ∨ (gsQ u.2.1).1 = 0) ∧ ((gsQ se).1 = 0 → 14 * gsX pid (gsO f n (te - i0) i0 (gsQ se)) ≤ cbp pid * (j - i0) ∧ 28 * gsY pid (gsO f n (te - i0) i0 (gsQ se)) ≤ sbp pid * (j - i0)) := by
  obtain ⟨o, ho, sa, sb, -, ⟨h0, hr, hk, rfl⟩ | ⟨-, hr, -⟩ | ⟨h0, hr, h1, h2, -, -, h3, -⟩⟩ := h
  · refine Or.inr ⟨te, hr, hi, Nat.le_refl _, fun q => q, Or.inl rfl, fun _ => ?_⟩
    rw [ho]
    unfold gsX gsY
    rw [if_neg (by omega), if_neg (by omega)]
    exact ⟨Nat.zero_le _, Nat.zero_le _⟩
  · exact Or.inl hr
  · refine Or.inr ⟨o.2.1 + 1, hr, by omega, by omega, fun _ => by omega, Or.inr (by rw [h3]; rfl), fun hq => ?_⟩
    have hl := (gs_len (f := f) (n := n) (te - i0) i0 (gsQ se)).1
    rw [ho, hq, if_neg (by omega)] at hl
    rw [ho]
    unfold gsX gsY
    rw [if_pos h0, if_pos h0, show o.2.1 + 1 - i0 = o.2.2.1 by omega]
    exact seC_b _ _
def gsP9 (f : Nat → Int32) (n i0 te pid la : Nat) (s : GS9) (r : Int32) (u : GS9) : Prop := gsP f n i0 te pid la s.1 s.2.1 s.2.2.1 s.2.2.2.1 s.2.2.2.2.1 s.2.2.2.2.2.1 s.2.2.2.2.2.2.1 s.2.2.2.2.2.2.2.1 s.2.2.2.2.2.2.2.2.1 s.2.2.2.2.2.2.2.2.2.1 r u
/-- the cells that were made before stand beside -/
def gsN (s u : GS9) : GS9 := (u.1, u.2.1, u.2.2.1, u.2.2.2.1, u.2.2.2.2.1, u.2.2.2.2.2.1, u.2.2.2.2.2.2.1, u.2.2.2.2.2.2.2.1, u.2.2.2.2.2.2.2.2.1, u.2.2.2.2.2.2.2.2.2.1, u.2.2.2.2.2.2.2.2.2.2 ++ s.2.2.2.2.2.2.2.2.2.2)
def guG (s : GS9) : GS9 := (guC s.1 s.2.1 s.2.2.1, guS s.2.1, guI s.2.2.1, s.2.2.2)
def usL (f : Nat → Int32) (n te pid la : Nat) : Nat → Nat → GS9 → GS9 → Prop
  | 0, _, s, t => t = s
  | m + 1, i, s, t => (¬ (i < te ∧ ¬ rbN f n 9400 i = 255) ∧ t = s) ∨ (i < te ∧ ¬ rbN f n 9400 i = 255 ∧ ∃ r u, gsP9 f n i te pid la s r u ∧ ((r = -1 ∧ t = gsN s u) ∨ ∃ j, r = nI j ∧ i < j ∧ j ≤ te ∧ usL f n te pid la m j (gsN s u) t))
def ubP (f : Nat → Int32) (n k pid la : Nat) (s t : GS9) : Prop :=
  (rw_at f n 9400 (nI (k + 1)) &&& 64 = 0 ∧ ((secN s.2.1 = 0 ∧ t = s) ∨ (¬ secN s.2.1 = 0 ∧ ∃ r u, gsP9 f n (payN f n 9400 k) (k + 188) pid la s r u ∧ t = gsN s u)))
  ∨ (¬ rw_at f n 9400 (nI (k + 1)) &&& 64 = 0 ∧ ((k + 188 < payN f n 9400 k + 1 + rbN f n 9400 (payN f n 9400 k) ∧ t = guG s) ∨ (payN f n 9400 k + 1 + rbN f n 9400 (payN f n 9400 k) ≤ k + 188 ∧
    ((secN s.2.1 = 0 ∧ usL f n (k + 188) pid la 184 (payN f n 9400 k + 1 + rbN f n 9400 (payN f n 9400 k)) s t)
    ∨ (¬ secN s.2.1 = 0 ∧ ∃ r u, gsP9 f n (payN f n 9400 k + 1) (payN f n 9400 k + 1 + rbN f n 9400 (payN f n 9400 k)) pid la s r u ∧ ((r = -1 ∧ t = gsN s u) ∨ (¬ r = -1 ∧ usL f n (k + 188) pid la 184 (payN f n 9400 k + 1 + rbN f n 9400 (payN f n 9400 k)) (guG (gsN s u)) t)))))))
theorem pay_ge (f : Nat → Int32) (n k : Nat) : k + 4 ≤ payN f n 9400 k := by
  unfold payN
  split <;> omega
theorem us_perm {X A B C L E Q : va_W} : (X ++ (A ++ (B ++ (C ++ (L ++ (E ++ Q)))))).Perm (X ++ (A ++ (B ++ (L ++ ((C ++ E) ++ Q))))) := by
  refine List.Perm.append_left X (List.Perm.append_left A (List.Perm.append_left B ?_))
  rw [List.append_assoc C]
  exact List.perm_append_comm_assoc _ _ _
theorem nI_no {j : Nat} (h : j < 2 ^ 31) : ¬ nI j = -1 := fun q => by
  have h2 := nI_pos h
  rw [q] at h2
  exact absurd h2 (by decide)
theorem sec_0 {n : Nat} (h : (if n = 0 then (0 : Int32) else 1) = 0) : n = 0 := by
  by_cases c : n = 0
  · exact c
  · rw [if_neg c] at h; exact absurd h (by decide)
theorem sec_1 {n : Nat} (h : ¬ (if n = 0 then (0 : Int32) else 1) = 0) : ¬ n = 0 := fun c => h (if_pos c)
theorem us_end {f : Nat → Int32} {n te pid la m i : Nat} {s : GS9} (h : m = 0 ∨ ¬ (i < te ∧ ¬ rbN f n 9400 i = 255)) : usL f n te pid la m i s s := by
  cases m with
  | zero => rfl
  | succ m => exact Or.inl ⟨h.resolve_left (by omega), rfl⟩
theorem us_gu0 {se : Option SQ9} (h : rwC se = 0) : rwC (guS se) = 0 := by
  cases se with
  | none => exact absurd h (by decide)
  | some q => rfl
theorem us_gu1 {se : Option SQ9} (h : rwS se = 0) : rwS (guS se) = 0 := by
  cases se with
  | none => exact absurd h (by decide)
  | some q => rfl
theorem us_mul {c k x y a i j : Nat} (h1 : a ≤ i) (h2 : i ≤ j) (hx : c * x ≤ k * (i - a)) (hy : c * y ≤ k * (j - i)) : c * (x + y) ≤ k * (j - a) := by
  rw [show j - a = (i - a) + (j - i) by omega, Nat.mul_add, Nat.mul_add]
  omega
theorem us_room {f : Nat → Int32} {n pid at7 te cx sx fi : Nat} {se : Option SQ9} (h1 : 14 * cx ≤ cbp pid * (at7 - fi)) (h2 : 28 * sx ≤ sbp pid * (at7 - fi)) (h0 : (gsQ se).1 = 0) (hat : fi ≤ at7) (hlt : at7 < te) (hte : te ≤ fi + 184) : cx + gsX pid (gsO f n (te - at7) at7 (gsQ se)) ≤ ubM pid ∧ sx + gsY pid (gsO f n (te - at7) at7 (gsQ se)) ≤ ubN pid := by
  obtain ⟨hl, hl2, hl3⟩ := gs_len (f := f) (n := n) (te - at7) at7 (gsQ se)
  by_cases c : (gsO f n (te - at7) at7 (gsQ se)).1 = 2
  · have hb := seC_b pid (gsO f n (te - at7) at7 (gsQ se)).2.2.1
    rw [if_neg (by omega)] at hl hl3
    have e : (gsO f n (te - at7) at7 (gsQ se)).2.2.1 = (gsO f n (te - at7) at7 (gsQ se)).2.1 + 1 - at7 := by omega
    unfold gsX gsY
    rw [if_pos c, if_pos c]
    refine ub_m (d := (gsO f n (te - at7) at7 (gsQ se)).2.1 + 1 - fi) (us_mul hat (by omega) h1 ?_) (us_mul hat (by omega) h2 ?_) (by omega)
    · rw [← e]; exact hb.1
    · rw [← e]; exact hb.2
  · unfold gsX gsY
    rw [if_neg c, if_neg c]
    exact ub_m h1 h2 (by omega)

set_option maxHeartbeats 4000000 in
set_option maxRecDepth 100000 in
theorem c_Lane_gathersSectionP (l : Launch) (D : va_G) (cB : ClassId) (la pid : Nat) (nx : Option Nat) (ct tw : Int32) (ck : Int64) (wr : Int32) (se : Option SQ9) (pi : Option PQ9) (Q : va_W) (hse : ∀ q, se = some q → q.2.2.1 ≤ 1024) : Met l y_Lane_gathersSection [Cond.code y_Lane_gathersSection b_Lane_gathersSection 1 (some .boolean)] ({ frames := 0, cells := 0, slots := 0, locals := 0 }) (zP [.ref la] D ([] ++ (lzc cB (la, pid, nx, ct, tw, ck, wr, se, pi) ++ Q)) []) (vp_Si (fun r0 => r0 = if secN se = 0 then 0 else 1)) 0 0 (fun _ => False) := by
  refine Met.ofW (cc := b_Lane_gathersSection) (maxL := 1) (ret := (some .boolean)) (by decide) rfl ?_
  intro p e s m args below meth cd s₁ Bd hml hv
  obtain ⟨rfl, hP, hK, hN⟩ := hv
  have hx := Bd.exec
  have hb := Bd.bytes
  have hr := Bd.returns
  have hts := hN.use (a := ([.ref la]).toArray)
  have hown : s.vm.findClass R_Lane = some m.cls := findClass_of_methodNamed Bd.named
  have hlocks := Bd.notSynchronized
  have hP : va_P D classes ([] ++ (lzc cB (la, pid, nx, ct, tw, ck, wr, se, pi) ++ Q)) s.heap := hP
  have hl := lv_entry ([.ref la]) (n := 1) (Nat.le_of_ble_eq_true rfl)
  rw [lg_entry_eq]
  generalize (lg_sl ([.ref la]) ++ List.replicate (1 - (lg_sl ([.ref la])).length) Slot.unset).toArray = ls at hl ⊢
  have hl : lv_has ls 1 [(0, .ref la)] := hl
  cases se with
  | none =>
    have hP : va_P D classes ([(la, .inr (1, [.int (nI pid), va_rf nx, .int ct, .int tw, .long ck, .int wr, .null, va_rf (pi.map (fun q => q.1))]))] ++ (lzI pi ++ Q)) s.heap := hP
    refine lv_aload_n hx hb d_Lane_gathersSection_0 rfl (lv_at hl 0 rfl) ?_
    refine va_get (D := D) (ci := 1) (v := .null) (C := R_Lane) (T := F_Lane) (N := 8) hx hb hts i_Lane hown hK hP 0 rfl rfl 6 (by decide) (hts _ wd_255) (fun _ h9 => h9) rfl d_Lane_gathersSection_1 ?_
    refine lv_ifnullN (tgt := 21) hx hb d_Lane_gathersSection_4 rfl ?_
    refine lv_iconst (v := 0) hx hb d_Lane_gathersSection_21 (by decide) ?_
    exact W.zret (v := 0) hx hb hr rfl (fun t ht hW => ⟨_, rfl, rfl, ht⟩) (fun _ h => by cases h) d_Lane_gathersSection_22
  | some sq =>
    have hP : va_P D classes ([(la, .inr (1, [.int (nI pid), va_rf nx, .int ct, .int tw, .long ck, .int wr, .ref sq.1, va_rf (pi.map (fun q => q.1))])), (sq.1, .inr (0, [.ref sq.2.1, .int (nI sq.2.2.1)])), (sq.2.1, .inl (cB, 1024, .inl sq.2.2.2))] ++ (lzI pi ++ Q)) s.heap := hP
    have hsn := hse _ rfl
    refine lv_aload_n hx hb d_Lane_gathersSection_0 rfl (lv_at hl 0 rfl) ?_
    refine va_get (D := D) (ci := 1) (v := .ref sq.1) (C := R_Lane) (T := F_Lane) (N := 8) hx hb hts i_Lane hown hK hP 0 rfl rfl 6 (by decide) (hts _ wd_255) (fun _ h9 => h9) rfl d_Lane_gathersSection_1 ?_
    refine lv_ifnull hx hb d_Lane_gathersSection_4 ?_
    refine lv_aload_n hx hb d_Lane_gathersSection_7 rfl (lv_at hl 0 rfl) ?_
    refine va_get (D := D) (ci := 1) (v := .ref sq.1) (C := R_Lane) (T := F_Lane) (N := 8) hx hb hts i_Lane hown hK hP 0 rfl rfl 6 (by decide) (hts _ wd_255) (fun _ h9 => h9) rfl d_Lane_gathersSection_8 ?_
    refine va_getN (D := D) (ci := 0) (v := .int (nI sq.2.2.1)) (C := R_Row) (T := F_Row) (N := 2) hx hb hts i_Row hown hK hP 1 rfl rfl 1 (by decide) (hts _ wd_108) (fun _ h9 => h9) rfl d_Lane_gathersSection_11 ?_
    refine lv_if_le (tgt := 21) hx hb d_Lane_gathersSection_14 rfl (fun h14 => ?_) (fun h14 => ?_)
    · have h14 : sq.2.2.1 = 0 := by have := (nI_leI (b := 0) (by omega) (by omega)).mp h14; omega
      refine lv_iconst (v := 0) hx hb d_Lane_gathersSection_21 (by decide) ?_
      exact W.zret (v := 0) hx hb hr rfl (fun t ht hW => ⟨_, rfl, by show 0 = if sq.2.2.1 = 0 then (0 : Int32) else 1; rw [if_pos h14], ht⟩) (fun _ h => by cases h) d_Lane_gathersSection_22
    · have h14 : ¬ sq.2.2.1 = 0 := fun q => h14 (by rw [q]; decide)
      refine lv_iconst (v := 1) hx hb d_Lane_gathersSection_17 (by decide) ?_
      refine lv_goto (tgt := 22) hx hb d_Lane_gathersSection_18 rfl ?_
      exact W.zret (v := 1) hx hb hr rfl (fun t ht hW => ⟨_, rfl, by show 1 = if sq.2.2.1 = 0 then (0 : Int32) else 1; rw [if_neg h14], ht⟩) (fun _ h => by cases h) d_Lane_gathersSection_22
set_option maxHeartbeats 16000000 in
set_option maxRecDepth 100000 in
theorem c_Receiver_useSectionBytes (l : Launch) (D : va_G) (B0 : State) (hG : zG B0) (sz : Nat) (cB cI : ClassId) (rv tp ln tb ca dp : Nat) (cn : Nat → Int32) (cN : ClassId) (a hd n k mC mS : Nat) (f : Nat → Int32) (hf : Nat → Option Nat) (la pid : Nat) (nx : Option Nat) (ct tw : Int32) (ck : Int64) (wr : Int32) (se : Option SQ9) (pi : Option PQ9) (T1 T2 : List LZ) (cO : ClassId) (e0 pr : Nat) (lv pmo : Int32) (pst : Option (Nat × (Nat → Option Nat))) (P : List PR9) (Q : va_W) (Im : va_W) (hn : n ≤ 9400) (hk : k + 188 ≤ n) (hfr : payN f n 9400 k ≤ k + 187) (hmC : ubR f n k se + ubC f n k pid ≤ mC) (hmS : ubT f n k se + ubS f n k pid ≤ mS) (hGK : gsK (gsQ se)) (hLN : ∀ k, k < 256 → hf k = lhd k (T1 ++ (la, pid, nx, ct, tw, ck, wr, se, pi) :: T2)) (hok : lok (T1 ++ (la, pid, nx, ct, tw, ck, wr, se, pi) :: T2)) (hzk : lzk (T1 ++ T2)) (hpid : pid < 8192) (he0 : zE0 B0 e0) (htk : tok Im cO pst P) (hIm : ∀ y ∈ Im, y ∈ Q) (haw : awk P) : Met l y_Receiver_useSectionBytes [Cond.code y_Receiver_useSectionBytes b_Receiver_useSectionBytes 8 none] ({ frames := 10, cells := mC, slots := mS, locals := 230 }) (zMo [.ref rv, .ref la, .int (nI k)] D ([(rv, .inr (4, [.ref tp, .ref ln, .ref tb, .ref ca, .ref dp])), (ca, .inl (cI, 10, .inl cn)), (tp, .inr (0, [.ref a, .int (nI n)])), (a, .inl (cB, 9400, .inl f)), (ln, .inr (2, [.ref hd])), (hd, .inl (cN, 256, .inr (.inr (.inr (.inr hf)))))] ++ (lzc cB (la, pid, nx, ct, tw, ck, wr, se, pi) ++ (tplr cO e0 tb lv pr P.length pmo pst P ++ (lpl cB (T1 ++ T2) ++ Q)))) [(cB, .byte), (cI, .int), (cN, .object "StreamSplitter$Lane"), (cO, .object "java/lang/Object")] sz B0) (va_Qv (fun (u : GS9) => ubP f n k pid la (cn, se, pi, T1, T2, lv, pr, pmo, pst, P, []) u ∧ tok (u.2.2.2.2.2.2.2.2.2.2 ++ Im) cO u.2.2.2.2.2.2.2.2.1 u.2.2.2.2.2.2.2.2.2.1 ∧ awk u.2.2.2.2.2.2.2.2.2.1 ∧ gsK (gsQ u.2.1) ∧ lzk (u.2.2.2.1 ++ u.2.2.2.2.1) ∧ lsk u.2.2.2.1 = lsk T1 ∧ lsk u.2.2.2.2.1 = lsk T2) (fun (u : GS9) t => zW D (va_A ([(rv, .inr (4, [.ref tp, .ref ln, .ref tb, .ref ca, .ref dp])), (ca, .inl (cI, 10, .inl cn)), (tp, .inr (0, [.ref a, .int (nI n)])), (a, .inl (cB, 9400, .inl f)), (ln, .inr (2, [.ref hd])), (hd, .inl (cN, 256, .inr (.inr (.inr (.inr hf)))))] ++ (lzc cB (la, pid, nx, ct, tw, ck, wr, se, pi) ++ (tplr cO e0 tb lv pr P.length pmo pst P ++ (lpl cB (T1 ++ T2) ++ Q)))) sz) ([(rv, .inr (4, [.ref tp, .ref ln, .ref tb, .ref ca, .ref dp])), (ca, .inl (cI, 10, .inl u.1)), (tp, .inr (0, [.ref a, .int (nI n)])), (a, .inl (cB, 9400, .inl f)), (ln, .inr (2, [.ref hd])), (hd, .inl (cN, 256, .inr (.inr (.inr (.inr hf)))))] ++ (lzc cB (la, pid, nx, ct, tw, ck, wr, u.2.1, u.2.2.1) ++ (tplr cO e0 tb u.2.2.2.2.2.1 u.2.2.2.2.2.2.1 u.2.2.2.2.2.2.2.2.2.1.length u.2.2.2.2.2.2.2.1 u.2.2.2.2.2.2.2.2.1 u.2.2.2.2.2.2.2.2.2.1 ++ (lpl cB (u.2.2.2.1 ++ u.2.2.2.2.1) ++ (u.2.2.2.2.2.2.2.2.2.2 ++ Q))))) [(cB, .byte), (cI, .int), (cN, .object "StreamSplitter$Lane"), (cO, .object "java/lang/Object")] t) (va_A ([(rv, .inr (4, [.ref tp, .ref ln, .ref tb, .ref ca, .ref dp])), (ca, .inl (cI, 10, .inl cn)), (tp, .inr (0, [.ref a, .int (nI n)])), (a, .inl (cB, 9400, .inl f)), (ln, .inr (2, [.ref hd])), (hd, .inl (cN, 256, .inr (.inr (.inr (.inr hf)))))] ++ (lzc cB (la, pid, nx, ct, tw, ck, wr, se, pi) ++ (tplr cO e0 tb lv pr P.length pmo pst P ++ (lpl cB (T1 ++ T2) ++ Q)))) sz)) mC mS (va_A ([(rv, .inr (4, [.ref tp, .ref ln, .ref tb, .ref ca, .ref dp])), (ca, .inl (cI, 10, .inl cn)), (tp, .inr (0, [.ref a, .int (nI n)])), (a, .inl (cB, 9400, .inl f)), (ln, .inr (2, [.ref hd])), (hd, .inl (cN, 256, .inr (.inr (.inr (.inr hf)))))] ++ (lzc cB (la, pid, nx, ct, tw, ck, wr, se, pi) ++ (tplr cO e0 tb lv pr P.length pmo pst P ++ (lpl cB (T1 ++ T2) ++ Q)))) sz) := by
  refine Met.ofW (cc := b_Receiver_useSectionBytes) (maxL := 8) (ret := none) (by decide) rfl ?_
  intro p e s m args below meth cd s₁ Bd hml hv
  obtain ⟨rfl, hsz, hP, hK, hN, hD0, hO⟩ := hv
  have hx := Bd.exec
  have hb := Bd.bytes
  have hr := Bd.returns
  have hts := hN.use (a := ([.ref rv, .ref la, .int (nI k)]).toArray)
  have hown : s.vm.findClass R_Receiver = some m.cls := findClass_of_methodNamed Bd.named
  have hlocks := Bd.notSynchronized
  subst hsz
  have hD := hD0.self (sz := s.heap.size)
  have hAO := z_AO hD0 hO
  clear hD0
  have hA : ∀ q : Nat, s.heap.size ≤ q → va_A ([(rv, .inr (4, [.ref tp, .ref ln, .ref tb, .ref ca, .ref dp])), (ca, .inl (cI, 10, .inl cn)), (tp, .inr (0, [.ref a, .int (nI n)])), (a, .inl (cB, 9400, .inl f)), (ln, .inr (2, [.ref hd])), (hd, .inl (cN, 256, .inr (.inr (.inr (.inr hf)))))] ++ (lzc cB (la, pid, nx, ct, tw, ck, wr, se, pi) ++ (tplr cO e0 tb lv pr P.length pmo pst P ++ (lpl cB (T1 ++ T2) ++ Q)))) s.heap.size q := fun q h => Or.inr h
  have hS : va_S (va_A ([(rv, .inr (4, [.ref tp, .ref ln, .ref tb, .ref ca, .ref dp])), (ca, .inl (cI, 10, .inl cn)), (tp, .inr (0, [.ref a, .int (nI n)])), (a, .inl (cB, 9400, .inl f)), (ln, .inr (2, [.ref hd])), (hd, .inl (cN, 256, .inr (.inr (.inr (.inr hf)))))] ++ (lzc cB (la, pid, nx, ct, tw, ck, wr, se, pi) ++ (tplr cO e0 tb lv pr P.length pmo pst P ++ (lpl cB (T1 ++ T2) ++ Q)))) s.heap.size) s.heap s.heap [] := va_S.rf
  generalize hAe : va_A ([(rv, .inr (4, [.ref tp, .ref ln, .ref tb, .ref ca, .ref dp])), (ca, .inl (cI, 10, .inl cn)), (tp, .inr (0, [.ref a, .int (nI n)])), (a, .inl (cB, 9400, .inl f)), (ln, .inr (2, [.ref hd])), (hd, .inl (cN, 256, .inr (.inr (.inr (.inr hf)))))] ++ (lzc cB (la, pid, nx, ct, tw, ck, wr, se, pi) ++ (tplr cO e0 tb lv pr P.length pmo pst P ++ (lpl cB (T1 ++ T2) ++ Q)))) s.heap.size = A at hD hA hS hAO ⊢
  have hP : va_P D classes ([(rv, .inr (4, [.ref tp, .ref ln, .ref tb, .ref ca, .ref dp])), (ca, .inl (cI, 10, .inl cn)), (tp, .inr (0, [.ref a, .int (nI n)])), (a, .inl (cB, 9400, .inl f)), (ln, .inr (2, [.ref hd])), (hd, .inl (cN, 256, .inr (.inr (.inr (.inr hf)))))] ++ (lzc cB (la, pid, nx, ct, tw, ck, wr, se, pi) ++ (tplr cO e0 tb lv pr P.length pmo pst P ++ (lpl cB (T1 ++ T2) ++ Q)))) s.heap := hP
  have hl := lv_entry ([.ref rv, .ref la, .int (nI k)]) (n := 8) (Nat.le_of_ble_eq_true rfl)
  rw [lg_entry_eq]
  generalize (lg_sl ([.ref rv, .ref la, .int (nI k)]) ++ List.replicate (8 - (lg_sl ([.ref rv, .ref la, .int (nI k)])).length) Slot.unset).toArray = ls at hl ⊢
  have hl : lv_has ls 8 [(0, .ref rv), (1, .ref la), (2, .int (nI k))] := hl
  have hpy := pay_le f n k
  have hpg := pay_ge f n k
  have hrb := rb_lt f n 9400 (payN f n 9400 k)
  have hse : ∀ q, se = some q → q.2.2.1 ≤ 1024 := fun q hq => by have z9 := hGK; rw [hq] at z9; have := gsK_lt (n := q.2.2.1) (f := q.2.2.2) z9; omega
  refine lv_aload_n hx hb d_Receiver_useSectionBytes_0 rfl (lv_at hl 0 rfl) ?_
  refine lv_iload_n hx hb d_Receiver_useSectionBytes_1 rfl (lv_at hl 2 rfl) ?_
  have hPc := hP.sub (ws' := [(rv, .inr (4, [.ref tp, .ref ln, .ref tb, .ref ca, .ref dp])), (tp, .inr (0, [.ref a, .int (nI n)])), (a, .inl (cB, 9400, .inl f))]) [0, 2, 3] rfl
  have hKc := hK.sub (tys' := [(cB, .byte)]) [0] rfl
  refine z_ci (va_runV (As := [.int (nI k)]) (rest := []) ⟨hx, hb, hml, hown, hts⟩ (c_Receiver_payloadOf l D cB rv tp ln tb ca dp a n 9400 f k (by omega)) (z_cV hN wd_339 wd_60 wd_336 hd_Receiver_payloadOf rfl rfl ⟨Nat.le_of_ble_eq_true rfl, Nat.le_of_ble_eq_true rfl⟩ wd_338 wd_4) (z_preV (va_recv (ci := 4) (q0 := 0) hK hP rfl rfl) hPc hKc hN) rfl rfl hl.1 rfl (lv_room (Nat.le_of_ble_eq_true rfl)) d_Receiver_useSectionBytes_2 ⟨by show 0 + 0 ≤ mC; omega, by show 0 + 0 ≤ mS; omega⟩) (fun r2 e2 => ?_)
  refine z_topi (w := nI (payN f n 9400 k)) e2 ?_
  refine lv_istore_n (lv' := [(3, .int (nI (payN f n 9400 k))), (0, .ref rv), (1, .ref la), (2, .int (nI k))]) hx hb d_Receiver_useSectionBytes_5 rfl hl (by decide) rfl (fun ls hl => ?_)
  refine lv_iload_n hx hb d_Receiver_useSectionBytes_6 rfl (lv_at hl 3 rfl) ?_
  refine lv_sipush (v := 188) hx hb d_Receiver_useSectionBytes_7 (by decide) ?_
  refine lv_iadd hx hb d_Receiver_useSectionBytes_10 ?_
  refine z_topi (w := nI (k + 188)) (nI_add _ 188) ?_
  refine lv_istore (lv' := [(4, .int (nI (k + 188))), (3, .int (nI (payN f n 9400 k))), (0, .ref rv), (1, .ref la), (2, .int (nI k))]) hx hb d_Receiver_useSectionBytes_11 hl (by decide) rfl (fun ls hl => ?_)
  refine lv_aload_n hx hb d_Receiver_useSectionBytes_13 rfl (lv_at hl 2 rfl) ?_
  refine lv_iload_n hx hb d_Receiver_useSectionBytes_14 rfl (lv_at hl 4 rfl) ?_
  have lem92 : ∀ (cn1 : Nat → Int32) (se1 : Option SQ9) (pi1 : Option PQ9) (T3 : List LZ) (T4 : List LZ) (lv1 : Int32) (pr1 : Nat) (pm1 : Int32) (ps1 : Option (Nat × (Nat → Option Nat))) (P1 : List PR9) (ex1 : va_W) (cc1 : Nat) (ss1 : Nat) (H : Heap) (locs : List Loc) (ls : Array Slot) (h18 : ¬ rw_at f n 9400 (nI (k + 1)) &&& 64 = 0) (h56 : (payN f n 9400 k + 1 + rbN f n 9400 (payN f n 9400 k)) ≤ k + 188) (hUB : ubC f n k pid = seM pid + ubM pid ∧ ubS f n k pid = seN pid + ubN pid) (hUR : (cc1 = 0 ∧ ss1 = 0) ∨ (rwC se = 0 ∧ rwS se = 0)) (h01 : (gsQ se1).1 = 0) (hK1 : gsK (gsQ se1)) (hz1 : lzk (T3 ++ T4)) (hka1 : lsk T3 = lsk T1) (hkb1 : lsk T4 = lsk T2) (htk1 : tok (ex1 ++ Im) cO ps1 P1) (haw1 : awk P1) (hcc1 : cc1 + rwC se1 ≤ rwC se + seM pid) (hss1 : ss1 + rwS se1 ≤ rwS se + seN pid) (hfin1 : ∀ t, usL f n (k + 188) pid la 184 (payN f n 9400 k + 1 + rbN f n 9400 (payN f n 9400 k)) (cn1, se1, pi1, T3, T4, lv1, pr1, pm1, ps1, P1, ex1) t → ubP f n k pid la (cn, se, pi, T1, T2, lv, pr, pmo, pst, P, []) t) (hl : lv_has ls 8 [(0, .ref rv), (1, .ref la), (4, .int (nI (k + 188))), (5, .int (nI (payN f n 9400 k + 1 + rbN f n 9400 (payN f n 9400 k))))]) (hP : va_P D classes ([(rv, .inr (4, [.ref tp, .ref ln, .ref tb, .ref ca, .ref dp])), (ca, .inl (cI, 10, .inl cn1)), (tp, .inr (0, [.ref a, .int (nI n)])), (a, .inl (cB, 9400, .inl f)), (ln, .inr (2, [.ref hd])), (hd, .inl (cN, 256, .inr (.inr (.inr (.inr hf)))))] ++ (lzc cB (la, pid, nx, ct, tw, ck, wr, se1, pi1) ++ (tplr cO e0 tb lv1 pr1 P1.length pm1 ps1 P1 ++ (lpl cB (T3 ++ T4) ++ (ex1 ++ Q))))) H) (hD : va_D A ([(rv, .inr (4, [.ref tp, .ref ln, .ref tb, .ref ca, .ref dp])), (ca, .inl (cI, 10, .inl cn1)), (tp, .inr (0, [.ref a, .int (nI n)])), (a, .inl (cB, 9400, .inl f)), (ln, .inr (2, [.ref hd])), (hd, .inl (cN, 256, .inr (.inr (.inr (.inr hf)))))] ++ (lzc cB (la, pid, nx, ct, tw, ck, wr, se1, pi1) ++ (tplr cO e0 tb lv1 pr1 P1.length pm1 ps1 P1 ++ (lpl cB (T3 ++ T4) ++ (ex1 ++ Q)))))) (hS : va_S A s.heap H locs), W p l e ({ frames := 10, cells := mC, slots := mS, locals := 230 }) s m ([.ref rv, .ref la, .int (nI k)]).toArray below meth cd H locs cc1 ss1 (MQ below (va_Qv (fun (u : GS9) => ubP f n k pid la (cn, se, pi, T1, T2, lv, pr, pmo, pst, P, []) u ∧ tok (u.2.2.2.2.2.2.2.2.2.2 ++ Im) cO u.2.2.2.2.2.2.2.2.1 u.2.2.2.2.2.2.2.2.2.1 ∧ awk u.2.2.2.2.2.2.2.2.2.1 ∧ gsK (gsQ u.2.1) ∧ lzk (u.2.2.2.1 ++ u.2.2.2.2.1) ∧ lsk u.2.2.2.1 = lsk T1 ∧ lsk u.2.2.2.2.1 = lsk T2) (fun (u : GS9) t => zW D (A) ([(rv, .inr (4, [.ref tp, .ref ln, .ref tb, .ref ca, .ref dp])), (ca, .inl (cI, 10, .inl u.1)), (tp, .inr (0, [.ref a, .int (nI n)])), (a, .inl (cB, 9400, .inl f)), (ln, .inr (2, [.ref hd])), (hd, .inl (cN, 256, .inr (.inr (.inr (.inr hf)))))] ++ (lzc cB (la, pid, nx, ct, tw, ck, wr, u.2.1, u.2.2.1) ++ (tplr cO e0 tb u.2.2.2.2.2.1 u.2.2.2.2.2.2.1 u.2.2.2.2.2.2.2.2.2.1.length u.2.2.2.2.2.2.2.1 u.2.2.2.2.2.2.2.2.1 u.2.2.2.2.2.2.2.2.2.1 ++ (lpl cB (u.2.2.2.1 ++ u.2.2.2.2.1) ++ (u.2.2.2.2.2.2.2.2.2.2 ++ Q))))) [(cB, .byte), (cI, .int), (cN, .object "StreamSplitter$Lane"), (cO, .object "java/lang/Object")] t) (A)) ([.ref rv, .ref la, .int (nI k)]).toArray s mC mS (A)) (F0 m 92 ls []) := by
    intro cn1 se1 pi1 T3 T4 lv1 pr1 pm1 ps1 P1 ex1 cc1 ss1 H locs ls h18 h56 hUB hUR h01 hK1 hz1 hka1 hkb1 htk1 haw1 hcc1 hss1 hfin1 hl hP hD hS
    have hUR2 : ub1 f n k → ubR f n k se = rwC se ∧ ubT f n k se = rwS se := fun q => ⟨if_neg (fun z => z.elim h18 (fun z => z q)), if_neg (fun z => z.elim h18 (fun z => z q))⟩
    refine lv_iload hx hb d_Receiver_useSectionBytes_92 (lv_at hl 3 rfl) ?_
    refine lv_istore (lv' := [(6, .int (nI (payN f n 9400 k + 1 + rbN f n 9400 (payN f n 9400 k)))), (0, .ref rv), (1, .ref la), (4, .int (nI (k + 188))), (5, .int (nI (payN f n 9400 k + 1 + rbN f n 9400 (payN f n 9400 k))))]) hx hb d_Receiver_useSectionBytes_94 hl (by decide) rfl (fun ls hl => ?_)
    refine lv_iconst (v := 0) hx hb d_Receiver_useSectionBytes_96 (by decide) ?_
    refine lv_istore (lv' := [(7, .int 0), (6, .int (nI (payN f n 9400 k + 1 + rbN f n 9400 (payN f n 9400 k)))), (0, .ref rv), (1, .ref la), (4, .int (nI (k + 188))), (5, .int (nI (payN f n 9400 k + 1 + rbN f n 9400 (payN f n 9400 k))))]) hx hb d_Receiver_useSectionBytes_97 hl (by decide) rfl (fun ls hl => ?_)
    have loop99 : ∀ (N : Nat) (m9 : Nat) (at7 : Nat) (cn7 : Nat → Int32) (se7 : Option SQ9) (pi7 : Option PQ9) (T5 : List LZ) (T6 : List LZ) (lv7 : Int32) (pr7 : Nat) (pm7 : Int32) (ps7 : Option (Nat × (Nat → Option Nat))) (P7 : List PR9) (ex7 : va_W) (cc7 : Nat) (ss7 : Nat) (cx7 : Nat) (sx7 : Nat) (H : Heap) (locs : List Loc) (ls : Array Slot) (hm : 184 - m9 < N) (hm9 : m9 ≤ 184) (hat : (payN f n 9400 k + 1 + rbN f n 9400 (payN f n 9400 k)) ≤ at7) (hat2 : at7 ≤ k + 188) (h07 : at7 = k + 188 ∨ (gsQ se7).1 = 0) (hK7 : gsK (gsQ se7)) (hz7 : lzk (T5 ++ T6)) (hka7 : lsk T5 = lsk T1) (hkb7 : lsk T6 = lsk T2) (htk7 : tok (ex7 ++ Im) cO ps7 P7) (haw7 : awk P7) (hcc7 : cc7 + rwC se7 ≤ rwC se + (seM pid + cx7)) (hss7 : ss7 + rwS se7 ≤ rwS se + (seN pid + sx7)) (hcx7 : 14 * cx7 ≤ cbp pid * (at7 - (payN f n 9400 k + 1 + rbN f n 9400 (payN f n 9400 k)))) (hsx7 : 28 * sx7 ≤ sbp pid * (at7 - (payN f n 9400 k + 1 + rbN f n 9400 (payN f n 9400 k)))) (hUR7 : (at7 = (payN f n 9400 k + 1 + rbN f n 9400 (payN f n 9400 k)) ∧ cc7 = cc1 ∧ ss7 = ss1) ∨ (ubR f n k se = rwC se ∧ ubT f n k se = rwS se)) (hfin7 : ∀ t, usL f n (k + 188) pid la (184 - m9) at7 (cn7, se7, pi7, T5, T6, lv7, pr7, pm7, ps7, P7, ex7) t → ubP f n k pid la (cn, se, pi, T1, T2, lv, pr, pmo, pst, P, []) t) (hl : lv_has ls 8 [(0, .ref rv), (1, .ref la), (4, .int (nI (k + 188))), (6, .int (nI at7)), (7, .int (nI m9))]) (hP : va_P D classes ([(rv, .inr (4, [.ref tp, .ref ln, .ref tb, .ref ca, .ref dp])), (ca, .inl (cI, 10, .inl cn7)), (tp, .inr (0, [.ref a, .int (nI n)])), (a, .inl (cB, 9400, .inl f)), (ln, .inr (2, [.ref hd])), (hd, .inl (cN, 256, .inr (.inr (.inr (.inr hf)))))] ++ (lzc cB (la, pid, nx, ct, tw, ck, wr, se7, pi7) ++ (tplr cO e0 tb lv7 pr7 P7.length pm7 ps7 P7 ++ (lpl cB (T5 ++ T6) ++ (ex7 ++ Q))))) H) (hD : va_D A ([(rv, .inr (4, [.ref tp, .ref ln, .ref tb, .ref ca, .ref dp])), (ca, .inl (cI, 10, .inl cn7)), (tp, .inr (0, [.ref a, .int (nI n)])), (a, .inl (cB, 9400, .inl f)), (ln, .inr (2, [.ref hd])), (hd, .inl (cN, 256, .inr (.inr (.inr (.inr hf)))))] ++ (lzc cB (la, pid, nx, ct, tw, ck, wr, se7, pi7) ++ (tplr cO e0 tb lv7 pr7 P7.length pm7 ps7 P7 ++ (lpl cB (T5 ++ T6) ++ (ex7 ++ Q)))))) (hS : va_S A s.heap H locs), W p l e ({ frames := 10, cells := mC, slots := mS, locals := 230 }) s m ([.ref rv, .ref la, .int (nI k)]).toArray below meth cd H locs cc7 ss7 (MQ below (va_Qv (fun (u : GS9) => ubP f n k pid la (cn, se, pi, T1, T2, lv, pr, pmo, pst, P, []) u ∧ tok (u.2.2.2.2.2.2.2.2.2.2 ++ Im) cO u.2.2.2.2.2.2.2.2.1 u.2.2.2.2.2.2.2.2.2.1 ∧ awk u.2.2.2.2.2.2.2.2.2.1 ∧ gsK (gsQ u.2.1) ∧ lzk (u.2.2.2.1 ++ u.2.2.2.2.1) ∧ lsk u.2.2.2.1 = lsk T1 ∧ lsk u.2.2.2.2.1 = lsk T2) (fun (u : GS9) t => zW D (A) ([(rv, .inr (4, [.ref tp, .ref ln, .ref tb, .ref ca, .ref dp])), (ca, .inl (cI, 10, .inl u.1)), (tp, .inr (0, [.ref a, .int (nI n)])), (a, .inl (cB, 9400, .inl f)), (ln, .inr (2, [.ref hd])), (hd, .inl (cN, 256, .inr (.inr (.inr (.inr hf)))))] ++ (lzc cB (la, pid, nx, ct, tw, ck, wr, u.2.1, u.2.2.1) ++ (tplr cO e0 tb u.2.2.2.2.2.1 u.2.2.2.2.2.2.1 u.2.2.2.2.2.2.2.2.2.1.length u.2.2.2.2.2.2.2.1 u.2.2.2.2.2.2.2.2.1 u.2.2.2.2.2.2.2.2.2.1 ++ (lpl cB (u.2.2.2.1 ++ u.2.2.2.2.1) ++ (u.2.2.2.2.2.2.2.2.2.2 ++ Q))))) [(cB, .byte), (cI, .int), (cN, .object "StreamSplitter$Lane"), (cO, .object "java/lang/Object")] t) (A)) ([.ref rv, .ref la, .int (nI k)]).toArray s mC mS (A)) (F0 m 99 ls []) := by
      intro N99
      induction N99 with
      | zero => intro m9 at7 cn7 se7 pi7 T5 T6 lv7 pr7 pm7 ps7 P7 ex7 cc7 ss7 cx7 sx7 H locs ls hm hm9 hat hat2 h07 hK7 hz7 hka7 hkb7 htk7 haw7 hcc7 hss7 hcx7 hsx7 hUR7 hfin7 hl hP hD hS; exact absurd hm (Nat.not_lt_zero _)
      | succ N99 ih99 =>
        intro m9 at7 cn7 se7 pi7 T5 T6 lv7 pr7 pm7 ps7 P7 ex7 cc7 ss7 cx7 sx7 H locs ls hm hm9 hat hat2 h07 hK7 hz7 hka7 hkb7 htk7 haw7 hcc7 hss7 hcx7 hsx7 hUR7 hfin7 hl hP hD hS
        have hM9 := ub_m hcx7 hsx7 (by omega)
        refine lv_iload hx hb d_Receiver_useSectionBytes_99 (lv_at hl 4 rfl) ?_
        refine lv_sipush (v := 184) hx hb d_Receiver_useSectionBytes_101 (by decide) ?_
        refine lv_icmp_ge (tgt := 152) hx hb d_Receiver_useSectionBytes_104 rfl (fun h104 => ?_) (fun h104 => ?_)
        · have h104 := (nI_leI (a := 184) (by omega) (by omega)).mp h104
          have hend : 184 - m9 = 0 ∨ ¬ (at7 < k + 188 ∧ ¬ rbN f n 9400 at7 = 255) := Or.inl (by omega)
          have hP9 := hP.part (cx := [(rv, .inr (4, [.ref tp, .ref ln, .ref tb, .ref ca, .ref dp])), (ca, .inl (cI, 10, .inl cn7)), (tp, .inr (0, [.ref a, .int (nI n)])), (a, .inl (cB, 9400, .inl f)), (ln, .inr (2, [.ref hd])), (hd, .inl (cN, 256, .inr (.inr (.inr (.inr hf)))))]) [0, 1, 2, 3, 4, 5] rfl
          have hD9 := hD.part (cx := [(rv, .inr (4, [.ref tp, .ref ln, .ref tb, .ref ca, .ref dp])), (ca, .inl (cI, 10, .inl cn7)), (tp, .inr (0, [.ref a, .int (nI n)])), (a, .inl (cB, 9400, .inl f)), (ln, .inr (2, [.ref hd])), (hd, .inl (cN, 256, .inr (.inr (.inr (.inr hf)))))]) [0, 1, 2, 3, 4, 5] (by decide) rfl
          have hK9 := hK.sub (tys' := [(cB, .byte), (cI, .int), (cN, .object "StreamSplitter$Lane"), (cO, .object "java/lang/Object")]) [0, 1, 2, 3] rfl
          refine W.widen (k := mC) (n := mS) (by show cc7 ≤ mC; rcases hUR7 with q | q <;> rcases hUR with q2 | q2 <;> omega) (by show ss7 ≤ mS; rcases hUR7 with q | q <;> rcases hUR with q2 | q2 <;> omega) ?_
          exact W.vret hx hb hr (fun t ht hW => ⟨⟨(cn7, se7, pi7, T5, T6, lv7, pr7, pm7, ps7, P7, ex7), rfl, ⟨hfin7 _ (us_end hend), htk7, haw7, hK7, hz7, hka7, hkb7⟩, ⟨by rw [ht]; exact hP9, va_K.moved hW.alike hK9, hD9⟩⟩, hS.F ht⟩) hS.2.2 d_Receiver_useSectionBytes_152
        · have h104 : m9 < 184 := by have := mt (nI_leI (a := 184) (b := m9) (by omega) (by omega)).mpr h104; omega
          refine lv_iload hx hb d_Receiver_useSectionBytes_107 (lv_at hl 3 rfl) ?_
          refine lv_iconst (v := (-1)) hx hb d_Receiver_useSectionBytes_109 (by decide) ?_
          refine lv_icmp_eq (tgt := 152) hx hb d_Receiver_useSectionBytes_110 rfl (fun h9 => absurd h9 (nI_no (by omega))) (fun h110 => ?_)
          refine lv_iload hx hb d_Receiver_useSectionBytes_113 (lv_at hl 3 rfl) ?_
          refine lv_iload hx hb d_Receiver_useSectionBytes_115 (lv_at hl 2 rfl) ?_
          refine lv_icmp_ge (tgt := 152) hx hb d_Receiver_useSectionBytes_117 rfl (fun h117 => ?_) (fun h117 => ?_)
          · have h117 := (nI_leI (by omega) (by omega)).mp h117
            have hend : 184 - m9 = 0 ∨ ¬ (at7 < k + 188 ∧ ¬ rbN f n 9400 at7 = 255) := Or.inr (fun q => absurd q.1 (by omega))
            have hP9 := hP.part (cx := [(rv, .inr (4, [.ref tp, .ref ln, .ref tb, .ref ca, .ref dp])), (ca, .inl (cI, 10, .inl cn7)), (tp, .inr (0, [.ref a, .int (nI n)])), (a, .inl (cB, 9400, .inl f)), (ln, .inr (2, [.ref hd])), (hd, .inl (cN, 256, .inr (.inr (.inr (.inr hf)))))]) [0, 1, 2, 3, 4, 5] rfl
            have hD9 := hD.part (cx := [(rv, .inr (4, [.ref tp, .ref ln, .ref tb, .ref ca, .ref dp])), (ca, .inl (cI, 10, .inl cn7)), (tp, .inr (0, [.ref a, .int (nI n)])), (a, .inl (cB, 9400, .inl f)), (ln, .inr (2, [.ref hd])), (hd, .inl (cN, 256, .inr (.inr (.inr (.inr hf)))))]) [0, 1, 2, 3, 4, 5] (by decide) rfl
            have hK9 := hK.sub (tys' := [(cB, .byte), (cI, .int), (cN, .object "StreamSplitter$Lane"), (cO, .object "java/lang/Object")]) [0, 1, 2, 3] rfl
            refine W.widen (k := mC) (n := mS) (by show cc7 ≤ mC; rcases hUR7 with q | q <;> rcases hUR with q2 | q2 <;> omega) (by show ss7 ≤ mS; rcases hUR7 with q | q <;> rcases hUR with q2 | q2 <;> omega) ?_
            exact W.vret hx hb hr (fun t ht hW => ⟨⟨(cn7, se7, pi7, T5, T6, lv7, pr7, pm7, ps7, P7, ex7), rfl, ⟨hfin7 _ (us_end hend), htk7, haw7, hK7, hz7, hka7, hkb7⟩, ⟨by rw [ht]; exact hP9, va_K.moved hW.alike hK9, hD9⟩⟩, hS.F ht⟩) hS.2.2 d_Receiver_useSectionBytes_152
          · have h117 : at7 < k + 188 := by have := mt (nI_leI (a := k + 188) (b := at7) (by omega) (by omega)).mpr h117; omega
            refine lv_aload_n hx hb d_Receiver_useSectionBytes_120 rfl (lv_at hl 0 rfl) ?_
            refine va_get (D := D) (ci := 4) (v := .ref tp) (C := R_Receiver) (T := F_Receiver) (N := 5) hx hb hts i_Receiver hown hK hP 0 rfl rfl 0 (by decide) (hts _ wd_175) (fun _ h9 => h9) rfl d_Receiver_useSectionBytes_121 ?_
            refine lv_iload hx hb d_Receiver_useSectionBytes_124 (lv_at hl 3 rfl) ?_
            have hPc := hP.sub (ws' := [(tp, .inr (0, [.ref a, .int (nI n)])), (a, .inl (cB, 9400, .inl f))]) [2, 3] rfl
            have hKc := hK.sub (tys' := [(cB, .byte)]) [0] rfl
            refine z_ci (va_runV (As := [.int (nI at7)]) (rest := []) ⟨hx, hb, hml, hown, hts⟩ (c_Row_at l D cB tp a n 9400 f (nI at7) (by omega)) (z_cV hN wd_212 wd_61 wd_221 hd_Row_at rfl rfl ⟨Nat.le_of_ble_eq_true rfl, Nat.le_of_ble_eq_true rfl⟩ wd_210 wd_211) (z_preV (va_recv (ci := 0) (q0 := 2) hK hP rfl rfl) hPc hKc hN) rfl rfl hl.1 rfl (lv_room (Nat.le_of_ble_eq_true rfl)) d_Receiver_useSectionBytes_126 ⟨by show cc7 + 0 ≤ mC; omega, by show ss7 + 0 ≤ mS; omega⟩) (fun r126 e126 => ?_)
            refine z_topi (w := rw_at f n 9400 (nI at7)) e126 ?_
            refine z_topi (w := nI (rbN f n 9400 at7)) (rb_eq _ _ _ _) ?_
            refine lv_sipush (v := 255) hx hb d_Receiver_useSectionBytes_129 (by decide) ?_
            refine lv_icmp_eq (tgt := 152) hx hb d_Receiver_useSectionBytes_132 rfl (fun h132 => ?_) (fun h132 => ?_)
            · have h132 : rbN f n 9400 at7 = 255 := (nI_eq (b := 255) (by have := rb_lt f n 9400 at7; omega) (by omega)).mp h132
              have hend : 184 - m9 = 0 ∨ ¬ (at7 < k + 188 ∧ ¬ rbN f n 9400 at7 = 255) := Or.inr (fun q => q.2 h132)
              have hP9 := hP.part (cx := [(rv, .inr (4, [.ref tp, .ref ln, .ref tb, .ref ca, .ref dp])), (ca, .inl (cI, 10, .inl cn7)), (tp, .inr (0, [.ref a, .int (nI n)])), (a, .inl (cB, 9400, .inl f)), (ln, .inr (2, [.ref hd])), (hd, .inl (cN, 256, .inr (.inr (.inr (.inr hf)))))]) [0, 1, 2, 3, 4, 5] rfl
              have hD9 := hD.part (cx := [(rv, .inr (4, [.ref tp, .ref ln, .ref tb, .ref ca, .ref dp])), (ca, .inl (cI, 10, .inl cn7)), (tp, .inr (0, [.ref a, .int (nI n)])), (a, .inl (cB, 9400, .inl f)), (ln, .inr (2, [.ref hd])), (hd, .inl (cN, 256, .inr (.inr (.inr (.inr hf)))))]) [0, 1, 2, 3, 4, 5] (by decide) rfl
              have hK9 := hK.sub (tys' := [(cB, .byte), (cI, .int), (cN, .object "StreamSplitter$Lane"), (cO, .object "java/lang/Object")]) [0, 1, 2, 3] rfl
              refine W.widen (k := mC) (n := mS) (by show cc7 ≤ mC; rcases hUR7 with q | q <;> rcases hUR with q2 | q2 <;> omega) (by show ss7 ≤ mS; rcases hUR7 with q | q <;> rcases hUR with q2 | q2 <;> omega) ?_
              exact W.vret hx hb hr (fun t ht hW => ⟨⟨(cn7, se7, pi7, T5, T6, lv7, pr7, pm7, ps7, P7, ex7), rfl, ⟨hfin7 _ (us_end hend), htk7, haw7, hK7, hz7, hka7, hkb7⟩, ⟨by rw [ht]; exact hP9, va_K.moved hW.alike hK9, hD9⟩⟩, hS.F ht⟩) hS.2.2 d_Receiver_useSectionBytes_152
            · have h132 : ¬ rbN f n 9400 at7 = 255 := fun q => h132 (by rw [q]; rfl)
              refine lv_aload_n hx hb d_Receiver_useSectionBytes_135 rfl (lv_at hl 0 rfl) ?_
              refine lv_aload_n hx hb d_Receiver_useSectionBytes_136 rfl (lv_at hl 1 rfl) ?_
              refine lv_iload hx hb d_Receiver_useSectionBytes_137 (lv_at hl 3 rfl) ?_
              refine lv_iload hx hb d_Receiver_useSectionBytes_139 (lv_at hl 2 rfl) ?_
              have hX9 := gsX_le pid (gsO f n ((k + 188) - at7) at7 (gsQ se7))
              have hXc : gsC se7 pid (gsO f n ((k + 188) - at7) at7 (gsQ se7)) = rwC se7 + gsX pid (gsO f n ((k + 188) - at7) at7 (gsQ se7)) := rfl
              have hXs : gsS se7 pid (gsO f n ((k + 188) - at7) at7 (gsQ se7)) = rwS se7 + gsY pid (gsO f n ((k + 188) - at7) at7 (gsQ se7)) := rfl
              have hs7 : (gsQ se7).1 = 0 := h07.resolve_left (by omega)
              have hUR8 : ubR f n k se = rwC se ∧ ubT f n k se = rwS se := hUR7.elim (fun q => hUR2 ⟨by rw [← q.1]; exact h117, by rw [← q.1]; exact h132⟩) id
              have hsk7 : lsk (T1 ++ (la, pid, nx, ct, tw, ck, wr, se, pi) :: T2) = lsk (T5 ++ (la, pid, nx, ct, tw, ck, wr, se7, pi7) :: T6) := by rw [lsk_app, lsk_app, hka7]; show _ ++ _ :: lsk T2 = _ ++ _ :: lsk T6; rw [hkb7]
              have hR7 := us_room (f := f) (n := n) (se := se7) hcx7 hsx7 hs7 hat h117 (by omega)
              have hPc := hP.part (cx := [(rv, .inr (4, [.ref tp, .ref ln, .ref tb, .ref ca, .ref dp])), (ca, .inl (cI, 10, .inl cn7)), (tp, .inr (0, [.ref a, .int (nI n)])), (a, .inl (cB, 9400, .inl f)), (ln, .inr (2, [.ref hd])), (hd, .inl (cN, 256, .inr (.inr (.inr (.inr hf)))))]) [0, 1, 2, 3, 4, 5] rfl
              have hKc := hK.sub (tys' := [(cB, .byte), (cI, .int), (cN, .object "StreamSplitter$Lane"), (cO, .object "java/lang/Object")]) [0, 1, 2, 3] rfl
              have hDc := hD.part (cx := [(rv, .inr (4, [.ref tp, .ref ln, .ref tb, .ref ca, .ref dp])), (ca, .inl (cI, 10, .inl cn7)), (tp, .inr (0, [.ref a, .int (nI n)])), (a, .inl (cB, 9400, .inl f)), (ln, .inr (2, [.ref hd])), (hd, .inl (cN, 256, .inr (.inr (.inr (.inr hf)))))]) [0, 1, 2, 3, 4, 5] (by decide) rfl
              have hFc := va_freeP (cx := [(rv, .inr (4, [.ref tp, .ref ln, .ref tb, .ref ca, .ref dp])), (ca, .inl (cI, 10, .inl cn7)), (tp, .inr (0, [.ref a, .int (nI n)])), (a, .inl (cB, 9400, .inl f)), (ln, .inr (2, [.ref hd])), (hd, .inl (cN, 256, .inr (.inr (.inr (.inr hf)))))]) hD hS hA [0, 1, 2, 3, 4, 5] rfl
              refine va_calli (va_runV (As := [.ref la, .int (nI at7), .int (nI (k + 188))]) (rest := []) ⟨hx, hb, hml, hown, hts⟩ (c_Receiver_growSection l D B0 hG H.size cB cI rv tp ln tb ca dp cn7 cN a hd n at7 (k + 188) (gsC se7 pid (gsO f n ((k + 188) - at7) at7 (gsQ se7))) (gsS se7 pid (gsO f n ((k + 188) - at7) at7 (gsQ se7))) f hf la pid nx ct tw ck wr se7 pi7 T5 T6 cO e0 pr7 lv7 pm7 ps7 P7 (ex7 ++ Q) (ex7 ++ Im) hn (by omega) (by omega) (Nat.le_refl _) (Nat.le_refl _) hK7 (fun k hk => (hLN k hk).trans (lhd_sk hsk7)) (lok_sk hsk7 hok) (lzk_le hz7) hpid he0 htk7 (fun y hy => (List.mem_append.mp hy).elim (fun q => List.mem_append_left _ q) (fun q => List.mem_append_right _ (hIm y q))) haw7) (z_cV hN wd_534 wd_60 wd_531 hd_Receiver_growSection rfl rfl ⟨Nat.le_of_ble_eq_true rfl, Nat.le_of_ble_eq_true rfl⟩ wd_533 wd_15) (z_preVo (va_recv (ci := 4) (q0 := 0) hK hP rfl rfl) hPc hKc hN hDc hO hS hAO) rfl rfl hl.1 rfl (lv_room (Nat.le_of_ble_eq_true rfl)) d_Receiver_useSectionBytes_141 ⟨by show cc7 + (gsC se7 pid (gsO f n ((k + 188) - at7) at7 (gsQ se7))) ≤ mC; omega, by show ss7 + (gsS se7 pid (gsO f n ((k + 188) - at7) at7 (gsQ se7))) ≤ mS; omega⟩) hS (fun q _ h => hFc q h) hFc (fun r141 g7 t H locs ht hvm e141 hB hz1 hk1 hS => ?_)
              obtain ⟨hP1, hK1, hD1⟩ := hB
              rw [ht] at hP1
              obtain ⟨hP, hD⟩ := va_joinP (wr := []) (rx := [(rv, .inr (4, [.ref tp, .ref ln, .ref tb, .ref ca, .ref dp])), (ca, .inl (cI, 10, .inl g7.1)), (tp, .inr (0, [.ref a, .int (nI n)])), (a, .inl (cB, 9400, .inl f)), (ln, .inr (2, [.ref hd])), (hd, .inl (cN, 256, .inr (.inr (.inr (.inr hf)))))]) hP hD [0, 1, 2, 3, 4, 5] [] rfl rfl (by decide) (by decide) hk1 hFc hP1 hD1
              clear hk1 hP1 hD1 hFc hPc hDc hz1
              have hP : va_P D classes ([(rv, .inr (4, [.ref tp, .ref ln, .ref tb, .ref ca, .ref dp])), (ca, .inl (cI, 10, .inl g7.1)), (tp, .inr (0, [.ref a, .int (nI n)])), (a, .inl (cB, 9400, .inl f)), (ln, .inr (2, [.ref hd])), (hd, .inl (cN, 256, .inr (.inr (.inr (.inr hf)))))] ++ (lzc cB (la, pid, nx, ct, tw, ck, wr, g7.2.1, g7.2.2.1) ++ (tplr cO e0 tb g7.2.2.2.2.2.1 g7.2.2.2.2.2.2.1 g7.2.2.2.2.2.2.2.2.2.1.length g7.2.2.2.2.2.2.2.1 g7.2.2.2.2.2.2.2.2.1 g7.2.2.2.2.2.2.2.2.2.1 ++ (g7.2.2.2.2.2.2.2.2.2.2 ++ (lpl cB (g7.2.2.2.1 ++ g7.2.2.2.2.1) ++ (ex7 ++ Q)))))) H := hP
              have hD : va_D A ([(rv, .inr (4, [.ref tp, .ref ln, .ref tb, .ref ca, .ref dp])), (ca, .inl (cI, 10, .inl g7.1)), (tp, .inr (0, [.ref a, .int (nI n)])), (a, .inl (cB, 9400, .inl f)), (ln, .inr (2, [.ref hd])), (hd, .inl (cN, 256, .inr (.inr (.inr (.inr hf)))))] ++ (lzc cB (la, pid, nx, ct, tw, ck, wr, g7.2.1, g7.2.2.1) ++ (tplr cO e0 tb g7.2.2.2.2.2.1 g7.2.2.2.2.2.2.1 g7.2.2.2.2.2.2.2.2.2.1.length g7.2.2.2.2.2.2.2.1 g7.2.2.2.2.2.2.2.2.1 g7.2.2.2.2.2.2.2.2.2.1 ++ (g7.2.2.2.2.2.2.2.2.2.2 ++ (lpl cB (g7.2.2.2.1 ++ g7.2.2.2.2.1) ++ (ex7 ++ Q)))))) := hD
              have hP := z_Pp (us_perm (X := [(rv, .inr (4, [.ref tp, .ref ln, .ref tb, .ref ca, .ref dp])), (ca, .inl (cI, 10, .inl g7.1)), (tp, .inr (0, [.ref a, .int (nI n)])), (a, .inl (cB, 9400, .inl f)), (ln, .inr (2, [.ref hd])), (hd, .inl (cN, 256, .inr (.inr (.inr (.inr hf)))))]) (A := lzc cB (la, pid, nx, ct, tw, ck, wr, g7.2.1, g7.2.2.1)) (B := tplr cO e0 tb g7.2.2.2.2.2.1 g7.2.2.2.2.2.2.1 g7.2.2.2.2.2.2.2.2.2.1.length g7.2.2.2.2.2.2.2.1 g7.2.2.2.2.2.2.2.2.1 g7.2.2.2.2.2.2.2.2.2.1) (C := g7.2.2.2.2.2.2.2.2.2.2) (L := lpl cB (g7.2.2.2.1 ++ g7.2.2.2.2.1)) (E := ex7)) (show va_P D classes ([(rv, .inr (4, [.ref tp, .ref ln, .ref tb, .ref ca, .ref dp])), (ca, .inl (cI, 10, .inl g7.1)), (tp, .inr (0, [.ref a, .int (nI n)])), (a, .inl (cB, 9400, .inl f)), (ln, .inr (2, [.ref hd])), (hd, .inl (cN, 256, .inr (.inr (.inr (.inr hf)))))] ++ (lzc cB (la, pid, nx, ct, tw, ck, wr, g7.2.1, g7.2.2.1) ++ (tplr cO e0 tb g7.2.2.2.2.2.1 g7.2.2.2.2.2.2.1 g7.2.2.2.2.2.2.2.2.2.1.length g7.2.2.2.2.2.2.2.1 g7.2.2.2.2.2.2.2.2.1 g7.2.2.2.2.2.2.2.2.2.1 ++ (g7.2.2.2.2.2.2.2.2.2.2 ++ (lpl cB (g7.2.2.2.1 ++ g7.2.2.2.2.1) ++ (ex7 ++ Q)))))) H from hP)
              have hD := z_Dp (us_perm (X := [(rv, .inr (4, [.ref tp, .ref ln, .ref tb, .ref ca, .ref dp])), (ca, .inl (cI, 10, .inl g7.1)), (tp, .inr (0, [.ref a, .int (nI n)])), (a, .inl (cB, 9400, .inl f)), (ln, .inr (2, [.ref hd])), (hd, .inl (cN, 256, .inr (.inr (.inr (.inr hf)))))]) (A := lzc cB (la, pid, nx, ct, tw, ck, wr, g7.2.1, g7.2.2.1)) (B := tplr cO e0 tb g7.2.2.2.2.2.1 g7.2.2.2.2.2.2.1 g7.2.2.2.2.2.2.2.2.2.1.length g7.2.2.2.2.2.2.2.1 g7.2.2.2.2.2.2.2.2.1 g7.2.2.2.2.2.2.2.2.2.1) (C := g7.2.2.2.2.2.2.2.2.2.2) (L := lpl cB (g7.2.2.2.1 ++ g7.2.2.2.2.1)) (E := ex7)) (show va_D A ([(rv, .inr (4, [.ref tp, .ref ln, .ref tb, .ref ca, .ref dp])), (ca, .inl (cI, 10, .inl g7.1)), (tp, .inr (0, [.ref a, .int (nI n)])), (a, .inl (cB, 9400, .inl f)), (ln, .inr (2, [.ref hd])), (hd, .inl (cN, 256, .inr (.inr (.inr (.inr hf)))))] ++ (lzc cB (la, pid, nx, ct, tw, ck, wr, g7.2.1, g7.2.2.1) ++ (tplr cO e0 tb g7.2.2.2.2.2.1 g7.2.2.2.2.2.2.1 g7.2.2.2.2.2.2.2.2.2.1.length g7.2.2.2.2.2.2.2.1 g7.2.2.2.2.2.2.2.2.1 g7.2.2.2.2.2.2.2.2.2.1 ++ (g7.2.2.2.2.2.2.2.2.2.2 ++ (lpl cB (g7.2.2.2.1 ++ g7.2.2.2.2.1) ++ (ex7 ++ Q)))))) from hD)
              have hP : va_P D classes ([(rv, .inr (4, [.ref tp, .ref ln, .ref tb, .ref ca, .ref dp])), (ca, .inl (cI, 10, .inl g7.1)), (tp, .inr (0, [.ref a, .int (nI n)])), (a, .inl (cB, 9400, .inl f)), (ln, .inr (2, [.ref hd])), (hd, .inl (cN, 256, .inr (.inr (.inr (.inr hf)))))] ++ (lzc cB (la, pid, nx, ct, tw, ck, wr, g7.2.1, g7.2.2.1) ++ (tplr cO e0 tb g7.2.2.2.2.2.1 g7.2.2.2.2.2.2.1 g7.2.2.2.2.2.2.2.2.2.1.length g7.2.2.2.2.2.2.2.1 g7.2.2.2.2.2.2.2.2.1 g7.2.2.2.2.2.2.2.2.2.1 ++ (lpl cB (g7.2.2.2.1 ++ g7.2.2.2.2.1) ++ ((g7.2.2.2.2.2.2.2.2.2.2 ++ ex7) ++ Q))))) H := hP
              have hD : va_D A ([(rv, .inr (4, [.ref tp, .ref ln, .ref tb, .ref ca, .ref dp])), (ca, .inl (cI, 10, .inl g7.1)), (tp, .inr (0, [.ref a, .int (nI n)])), (a, .inl (cB, 9400, .inl f)), (ln, .inr (2, [.ref hd])), (hd, .inl (cN, 256, .inr (.inr (.inr (.inr hf)))))] ++ (lzc cB (la, pid, nx, ct, tw, ck, wr, g7.2.1, g7.2.2.1) ++ (tplr cO e0 tb g7.2.2.2.2.2.1 g7.2.2.2.2.2.2.1 g7.2.2.2.2.2.2.2.2.2.1.length g7.2.2.2.2.2.2.2.1 g7.2.2.2.2.2.2.2.2.1 g7.2.2.2.2.2.2.2.2.2.1 ++ (lpl cB (g7.2.2.2.1 ++ g7.2.2.2.2.1) ++ ((g7.2.2.2.2.2.2.2.2.2.2 ++ ex7) ++ Q))))) := hD
              have hI7 := gs_inv e141.1 hz7
              rcases gs_ret e141.1 (by omega) with hrr | ⟨j, hrr, hj0, hj1, hjp, hj2, hcb⟩
              · rw [hrr] at e141
                refine z_topi (w := (-1)) hrr ?_
                refine lv_istore (lv' := [(6, .int (-1)), (0, .ref rv), (1, .ref la), (4, .int (nI (k + 188))), (7, .int (nI m9))]) hx hb d_Receiver_useSectionBytes_144 hl (by decide) rfl (fun ls hl => ?_)
                refine lv_iinc (k := 4) (v := nI (m9 + 1)) (lv' := [(7, .int (nI (m9 + 1))), (6, .int (-1)), (0, .ref rv), (1, .ref la), (4, .int (nI (k + 188)))]) hx hb d_Receiver_useSectionBytes_146 hl rfl (nI_1 m9) (by decide) rfl (fun ls hl => ?_)
                refine lv_goto (tgt := 99) hx hb d_Receiver_useSectionBytes_149 rfl ?_
                refine lv_iload hx hb d_Receiver_useSectionBytes_99 (lv_at hl 0 rfl) ?_
                refine lv_sipush (v := 184) hx hb d_Receiver_useSectionBytes_101 (by decide) ?_
                refine lv_icmp_ge (tgt := 152) hx hb d_Receiver_useSectionBytes_104 rfl (fun h104 => ?_) (fun h104 => ?_)
                · have hP9 := hP.part (cx := [(rv, .inr (4, [.ref tp, .ref ln, .ref tb, .ref ca, .ref dp])), (ca, .inl (cI, 10, .inl g7.1)), (tp, .inr (0, [.ref a, .int (nI n)])), (a, .inl (cB, 9400, .inl f)), (ln, .inr (2, [.ref hd])), (hd, .inl (cN, 256, .inr (.inr (.inr (.inr hf)))))]) [0, 1, 2, 3, 4, 5] rfl
                  have hD9 := hD.part (cx := [(rv, .inr (4, [.ref tp, .ref ln, .ref tb, .ref ca, .ref dp])), (ca, .inl (cI, 10, .inl g7.1)), (tp, .inr (0, [.ref a, .int (nI n)])), (a, .inl (cB, 9400, .inl f)), (ln, .inr (2, [.ref hd])), (hd, .inl (cN, 256, .inr (.inr (.inr (.inr hf)))))]) [0, 1, 2, 3, 4, 5] (by decide) rfl
                  have hK9 := hK.sub (tys' := [(cB, .byte), (cI, .int), (cN, .object "StreamSplitter$Lane"), (cO, .object "java/lang/Object")]) [0, 1, 2, 3] rfl
                  refine W.widen (k := mC) (n := mS) (by show cc7 + (gsC se7 pid (gsO f n ((k + 188) - at7) at7 (gsQ se7))) ≤ mC; omega) (by show ss7 + (gsS se7 pid (gsO f n ((k + 188) - at7) at7 (gsQ se7))) ≤ mS; omega) ?_
                  exact W.vret hx hb hr (fun t ht hW => ⟨⟨(g7.1, g7.2.1, g7.2.2.1, g7.2.2.2.1, g7.2.2.2.2.1, g7.2.2.2.2.2.1, g7.2.2.2.2.2.2.1, g7.2.2.2.2.2.2.2.1, g7.2.2.2.2.2.2.2.2.1, g7.2.2.2.2.2.2.2.2.2.1, g7.2.2.2.2.2.2.2.2.2.2 ++ ex7), rfl, ⟨hfin7 _ (by rw [show 184 - m9 = (184 - (m9 + 1)) + 1 by omega]; exact Or.inr ⟨h117, h132, _, g7, e141.1, Or.inl ⟨rfl, rfl⟩⟩), (by rw [List.append_assoc]; exact e141.2.1), e141.2.2, hI7.1, hI7.2.1, hI7.2.2.1.trans hka7, hI7.2.2.2.1.trans hkb7⟩, ⟨by rw [ht]; exact hP9, va_K.moved hW.alike hK9, hD9⟩⟩, hS.F ht⟩) hS.2.2 d_Receiver_useSectionBytes_152
                · refine lv_iload hx hb d_Receiver_useSectionBytes_107 (lv_at hl 1 rfl) ?_
                  refine lv_iconst (v := (-1)) hx hb d_Receiver_useSectionBytes_109 (by decide) ?_
                  refine lv_icmp_eq (tgt := 152) hx hb d_Receiver_useSectionBytes_110 rfl (fun h110 => ?_) (fun h9 => absurd rfl h9)
                  have hP9 := hP.part (cx := [(rv, .inr (4, [.ref tp, .ref ln, .ref tb, .ref ca, .ref dp])), (ca, .inl (cI, 10, .inl g7.1)), (tp, .inr (0, [.ref a, .int (nI n)])), (a, .inl (cB, 9400, .inl f)), (ln, .inr (2, [.ref hd])), (hd, .inl (cN, 256, .inr (.inr (.inr (.inr hf)))))]) [0, 1, 2, 3, 4, 5] rfl
                  have hD9 := hD.part (cx := [(rv, .inr (4, [.ref tp, .ref ln, .ref tb, .ref ca, .ref dp])), (ca, .inl (cI, 10, .inl g7.1)), (tp, .inr (0, [.ref a, .int (nI n)])), (a, .inl (cB, 9400, .inl f)), (ln, .inr (2, [.ref hd])), (hd, .inl (cN, 256, .inr (.inr (.inr (.inr hf)))))]) [0, 1, 2, 3, 4, 5] (by decide) rfl
                  have hK9 := hK.sub (tys' := [(cB, .byte), (cI, .int), (cN, .object "StreamSplitter$Lane"), (cO, .object "java/lang/Object")]) [0, 1, 2, 3] rfl
                  refine W.widen (k := mC) (n := mS) (by show cc7 + (gsC se7 pid (gsO f n ((k + 188) - at7) at7 (gsQ se7))) ≤ mC; omega) (by show ss7 + (gsS se7 pid (gsO f n ((k + 188) - at7) at7 (gsQ se7))) ≤ mS; omega) ?_
                  exact W.vret hx hb hr (fun t ht hW => ⟨⟨(g7.1, g7.2.1, g7.2.2.1, g7.2.2.2.1, g7.2.2.2.2.1, g7.2.2.2.2.2.1, g7.2.2.2.2.2.2.1, g7.2.2.2.2.2.2.2.1, g7.2.2.2.2.2.2.2.2.1, g7.2.2.2.2.2.2.2.2.2.1, g7.2.2.2.2.2.2.2.2.2.2 ++ ex7), rfl, ⟨hfin7 _ (by rw [show 184 - m9 = (184 - (m9 + 1)) + 1 by omega]; exact Or.inr ⟨h117, h132, _, g7, e141.1, Or.inl ⟨rfl, rfl⟩⟩), (by rw [List.append_assoc]; exact e141.2.1), e141.2.2, hI7.1, hI7.2.1, hI7.2.2.1.trans hka7, hI7.2.2.2.1.trans hkb7⟩, ⟨by rw [ht]; exact hP9, va_K.moved hW.alike hK9, hD9⟩⟩, hS.F ht⟩) hS.2.2 d_Receiver_useSectionBytes_152
              · rw [hrr] at e141
                refine z_topi (w := nI j) hrr ?_
                have hcb := hcb hs7
                refine lv_istore (lv' := [(6, .int (nI j)), (0, .ref rv), (1, .ref la), (4, .int (nI (k + 188))), (7, .int (nI m9))]) hx hb d_Receiver_useSectionBytes_144 hl (by decide) rfl (fun ls hl => ?_)
                refine lv_iinc (k := 4) (v := nI (m9 + 1)) (lv' := [(7, .int (nI (m9 + 1))), (6, .int (nI j)), (0, .ref rv), (1, .ref la), (4, .int (nI (k + 188)))]) hx hb d_Receiver_useSectionBytes_146 hl rfl (nI_1 m9) (by decide) rfl (fun ls hl => ?_)
                refine lv_goto (tgt := 99) hx hb d_Receiver_useSectionBytes_149 rfl ?_
                exact ih99 (m9 + 1) j g7.1 g7.2.1 g7.2.2.1 g7.2.2.2.1 g7.2.2.2.2.1 g7.2.2.2.2.2.1 g7.2.2.2.2.2.2.1 g7.2.2.2.2.2.2.2.1 g7.2.2.2.2.2.2.2.2.1 g7.2.2.2.2.2.2.2.2.2.1 (g7.2.2.2.2.2.2.2.2.2.2 ++ ex7) (cc7 + gsC se7 pid (gsO f n ((k + 188) - at7) at7 (gsQ se7))) (ss7 + gsS se7 pid (gsO f n ((k + 188) - at7) at7 (gsQ se7))) (cx7 + gsX pid (gsO f n ((k + 188) - at7) at7 (gsQ se7))) (sx7 + gsY pid (gsO f n ((k + 188) - at7) at7 (gsQ se7))) H locs ls (by omega) (by omega) (by omega) hj1 hj2 hI7.1 hI7.2.1 (hI7.2.2.1.trans hka7) (hI7.2.2.2.1.trans hkb7) (by rw [List.append_assoc]; exact e141.2.1) e141.2.2 (by rw [hI7.2.2.2.2.1, hXc]; omega) (by rw [hI7.2.2.2.2.2, hXs]; omega) (us_mul hat hj0 hcx7 hcb.1) (us_mul hat hj0 hsx7 hcb.2) (Or.inr hUR8) (fun t ht => hfin7 t (by rw [show 184 - m9 = (184 - (m9 + 1)) + 1 by omega]; exact Or.inr ⟨h117, h132, _, g7, e141.1, Or.inr ⟨j, rfl, hjp h117, hj1, ht⟩⟩)) (lv_sub hl [2, 3, 4, 1, 0] rfl) hP hD hS
    exact loop99 _ 0 (payN f n 9400 k + 1 + rbN f n 9400 (payN f n 9400 k)) cn1 se1 pi1 T3 T4 lv1 pr1 pm1 ps1 P1 ex1 cc1 ss1 0 0 H locs ls (Nat.lt_succ_self _) (Nat.zero_le _) (Nat.le_refl _) h56 (Or.inr h01) hK1 hz1 hka1 hkb1 htk1 haw1 (by omega) (by omega) (Nat.zero_le _) (Nat.zero_le _) (Or.inl ⟨rfl, rfl, rfl⟩) hfin1 (lv_sub hl [2, 3, 4, 1, 0] rfl) hP hD hS
  have hPc := hP.sub (ws' := [(rv, .inr (4, [.ref tp, .ref ln, .ref tb, .ref ca, .ref dp])), (tp, .inr (0, [.ref a, .int (nI n)])), (a, .inl (cB, 9400, .inl f))]) [0, 2, 3] rfl
  have hKc := hK.sub (tys' := [(cB, .byte)]) [0] rfl
  refine z_ci (va_runV (As := [.int (nI k)]) (rest := []) ⟨hx, hb, hml, hown, hts⟩ (c_Receiver_beginsAnew l D cB rv tp ln tb ca dp a n 9400 f k (by omega)) (z_cV hN wd_343 wd_60 wd_340 hd_Receiver_beginsAnew rfl rfl ⟨Nat.le_of_ble_eq_true rfl, Nat.le_of_ble_eq_true rfl⟩ wd_342 wd_5) (z_preV (va_recv (ci := 4) (q0 := 0) hK hP rfl rfl) hPc hKc hN) rfl rfl hl.1 rfl (lv_room (Nat.le_of_ble_eq_true rfl)) d_Receiver_useSectionBytes_15 ⟨by show 0 + 0 ≤ mC; omega, by show 0 + 0 ≤ mS; omega⟩) (fun r15 e15 => ?_)
  refine z_topi (w := if rw_at f n 9400 (nI (k + 1)) &&& 64 = 0 then 0 else 1) e15 ?_
  refine lv_if_ne (tgt := 38) hx hb d_Receiver_useSectionBytes_18 rfl (fun h18 => ?_) (fun h18 => ?_)
  · have h18 := gp_1 h18
    have hUB : ubC f n k pid = seM pid + ubM pid ∧ ubS f n k pid = seN pid + ubN pid := ⟨if_neg h18, if_neg h18⟩
    refine lv_iload_n hx hb d_Receiver_useSectionBytes_38 rfl (lv_at hl 1 rfl) ?_
    refine lv_iconst (v := 1) hx hb d_Receiver_useSectionBytes_39 (by decide) ?_
    refine lv_iadd hx hb d_Receiver_useSectionBytes_40 ?_
    refine z_topi (w := nI (payN f n 9400 k + 1)) (nI_add _ 1) ?_
    refine lv_aload_n hx hb d_Receiver_useSectionBytes_41 rfl (lv_at hl 2 rfl) ?_
    refine va_get (D := D) (ci := 4) (v := .ref tp) (C := R_Receiver) (T := F_Receiver) (N := 5) hx hb hts i_Receiver hown hK hP 0 rfl rfl 0 (by decide) (hts _ wd_175) (fun _ h9 => h9) rfl d_Receiver_useSectionBytes_42 ?_
    refine lv_iload_n hx hb d_Receiver_useSectionBytes_45 rfl (lv_at hl 1 rfl) ?_
    have hPc := hP.sub (ws' := [(tp, .inr (0, [.ref a, .int (nI n)])), (a, .inl (cB, 9400, .inl f))]) [2, 3] rfl
    have hKc := hK.sub (tys' := [(cB, .byte)]) [0] rfl
    refine z_ci (va_runV (As := [.int (nI (payN f n 9400 k))]) (rest := [.int (nI (payN f n 9400 k + 1))]) ⟨hx, hb, hml, hown, hts⟩ (c_Row_at l D cB tp a n 9400 f (nI (payN f n 9400 k)) (by omega)) (z_cV hN wd_212 wd_61 wd_221 hd_Row_at rfl rfl ⟨Nat.le_of_ble_eq_true rfl, Nat.le_of_ble_eq_true rfl⟩ wd_210 wd_211) (z_preV (va_recv (ci := 0) (q0 := 2) hK hP rfl rfl) hPc hKc hN) rfl rfl hl.1 rfl (lv_room (Nat.le_of_ble_eq_true rfl)) d_Receiver_useSectionBytes_46 ⟨by show 0 + 0 ≤ mC; omega, by show 0 + 0 ≤ mS; omega⟩) (fun r46 e46 => ?_)
    refine z_topi (w := rw_at f n 9400 (nI (payN f n 9400 k))) e46 ?_
    refine z_topi (w := nI (rbN f n 9400 (payN f n 9400 k))) (rb_eq _ _ _ _) ?_
    refine lv_iadd hx hb d_Receiver_useSectionBytes_49 ?_
    refine z_topi (w := nI (payN f n 9400 k + 1 + rbN f n 9400 (payN f n 9400 k))) (nI_add _ _) ?_
    refine lv_istore (lv' := [(5, .int (nI (payN f n 9400 k + 1 + rbN f n 9400 (payN f n 9400 k)))), (4, .int (nI (k + 188))), (3, .int (nI (payN f n 9400 k))), (0, .ref rv), (1, .ref la), (2, .int (nI k))]) hx hb d_Receiver_useSectionBytes_50 hl (by decide) rfl (fun ls hl => ?_)
    refine lv_iload hx hb d_Receiver_useSectionBytes_52 (lv_at hl 0 rfl) ?_
    refine lv_iload hx hb d_Receiver_useSectionBytes_54 (lv_at hl 1 rfl) ?_
    refine lv_icmp_le (tgt := 65) hx hb d_Receiver_useSectionBytes_56 rfl (fun h56 => ?_) (fun h56 => ?_)
    · have h56 := (nI_leI (by omega) (by omega)).mp h56
      refine lv_aload_n hx hb d_Receiver_useSectionBytes_65 rfl (lv_at hl 4 rfl) ?_
      obtain ⟨q66, hq66⟩ : ∃ q0 : Nat, ([(rv, .inr (4, [.ref tp, .ref ln, .ref tb, .ref ca, .ref dp])), (ca, .inl (cI, 10, .inl cn)), (tp, .inr (0, [.ref a, .int (nI n)])), (a, .inl (cB, 9400, .inl f)), (ln, .inr (2, [.ref hd])), (hd, .inl (cN, 256, .inr (.inr (.inr (.inr hf)))))] ++ (lzc cB (la, pid, nx, ct, tw, ck, wr, se, pi) ++ (tplr cO e0 tb lv pr P.length pmo pst P ++ (lpl cB (T1 ++ T2) ++ Q))))[q0]? = some (la, .inr (1, lzV (la, pid, nx, ct, tw, ck, wr, se, pi))) := List.getElem?_of_mem (List.mem_append_right _ (List.mem_append_left _ List.mem_cons_self))
      have hPc := hP.part (cx := []) [] rfl
      have hKc := hK.sub (tys' := []) [] rfl
      refine z_ci (va_runV (As := []) (rest := []) ⟨hx, hb, hml, hown, hts⟩ (c_Lane_gathersSectionP l D cB la pid nx ct tw ck wr se pi (tplr cO e0 tb lv pr P.length pmo pst P ++ (lpl cB (T1 ++ T2) ++ Q)) hse) (z_cV hN wd_293 wd_74 wd_290 hd_Lane_gathersSection rfl rfl ⟨Nat.le_of_ble_eq_true rfl, Nat.le_of_ble_eq_true rfl⟩ wd_291 wd_292) (z_preV (va_recv (ci := 1) (q0 := q66) hK hP rfl hq66) hPc hKc hN) rfl rfl hl.1 rfl (lv_room (Nat.le_of_ble_eq_true rfl)) d_Receiver_useSectionBytes_66 ⟨by show 0 + 0 ≤ mC; omega, by show 0 + 0 ≤ mS; omega⟩) (fun r66 e66 => ?_)
      refine z_topi (w := if secN se = 0 then 0 else 1) e66 ?_
      refine lv_if_eq (tgt := 92) hx hb d_Receiver_useSectionBytes_69 rfl (fun h69 => ?_) (fun h69 => ?_)
      · have h69 := sec_0 h69
        exact lem92 cn se pi T1 T2 lv pr pmo pst P [] 0 0 s.heap [] ls h18 h56 hUB (Or.inl ⟨rfl, rfl⟩) (by rw [gsQ_1]; exact h69) hGK hzk rfl rfl htk haw (by omega) (by omega) (fun t ht => Or.inr ⟨h18, Or.inr ⟨h56, Or.inl ⟨h69, ht⟩⟩⟩) (lv_sub hl [3, 4, 1, 0] rfl) hP hD hS
      · have h69 := sec_1 h69
        have hrw9 := sec_rw h69
        refine lv_aload_n hx hb d_Receiver_useSectionBytes_72 rfl (lv_at hl 3 rfl) ?_
        refine lv_aload_n hx hb d_Receiver_useSectionBytes_73 rfl (lv_at hl 4 rfl) ?_
        refine lv_iload_n hx hb d_Receiver_useSectionBytes_74 rfl (lv_at hl 2 rfl) ?_
        refine lv_iconst (v := 1) hx hb d_Receiver_useSectionBytes_75 (by decide) ?_
        refine lv_iadd hx hb d_Receiver_useSectionBytes_76 ?_
        refine z_topi (w := nI (payN f n 9400 k + 1)) (nI_add _ 1) ?_
        refine lv_iload hx hb d_Receiver_useSectionBytes_77 (lv_at hl 0 rfl) ?_
        have hX9 := gsX_le pid (gsO f n ((payN f n 9400 k + 1 + rbN f n 9400 (payN f n 9400 k)) - (payN f n 9400 k + 1)) (payN f n 9400 k + 1) (gsQ se))
        have hXc : gsC se pid (gsO f n ((payN f n 9400 k + 1 + rbN f n 9400 (payN f n 9400 k)) - (payN f n 9400 k + 1)) (payN f n 9400 k + 1) (gsQ se)) = rwC se + gsX pid (gsO f n ((payN f n 9400 k + 1 + rbN f n 9400 (payN f n 9400 k)) - (payN f n 9400 k + 1)) (payN f n 9400 k + 1) (gsQ se)) := rfl
        have hXs : gsS se pid (gsO f n ((payN f n 9400 k + 1 + rbN f n 9400 (payN f n 9400 k)) - (payN f n 9400 k + 1)) (payN f n 9400 k + 1) (gsQ se)) = rwS se + gsY pid (gsO f n ((payN f n 9400 k + 1 + rbN f n 9400 (payN f n 9400 k)) - (payN f n 9400 k + 1)) (payN f n 9400 k + 1) (gsQ se)) := rfl
        have hPc := hP.part (cx := [(rv, .inr (4, [.ref tp, .ref ln, .ref tb, .ref ca, .ref dp])), (ca, .inl (cI, 10, .inl cn)), (tp, .inr (0, [.ref a, .int (nI n)])), (a, .inl (cB, 9400, .inl f)), (ln, .inr (2, [.ref hd])), (hd, .inl (cN, 256, .inr (.inr (.inr (.inr hf)))))]) [0, 1, 2, 3, 4, 5] rfl
        have hKc := hK.sub (tys' := [(cB, .byte), (cI, .int), (cN, .object "StreamSplitter$Lane"), (cO, .object "java/lang/Object")]) [0, 1, 2, 3] rfl
        have hDc := hD.part (cx := [(rv, .inr (4, [.ref tp, .ref ln, .ref tb, .ref ca, .ref dp])), (ca, .inl (cI, 10, .inl cn)), (tp, .inr (0, [.ref a, .int (nI n)])), (a, .inl (cB, 9400, .inl f)), (ln, .inr (2, [.ref hd])), (hd, .inl (cN, 256, .inr (.inr (.inr (.inr hf)))))]) [0, 1, 2, 3, 4, 5] (by decide) rfl
        have hFc := va_freeP (cx := [(rv, .inr (4, [.ref tp, .ref ln, .ref tb, .ref ca, .ref dp])), (ca, .inl (cI, 10, .inl cn)), (tp, .inr (0, [.ref a, .int (nI n)])), (a, .inl (cB, 9400, .inl f)), (ln, .inr (2, [.ref hd])), (hd, .inl (cN, 256, .inr (.inr (.inr (.inr hf)))))]) hD hS hA [0, 1, 2, 3, 4, 5] rfl
        refine va_calli (va_runV (As := [.ref la, .int (nI (payN f n 9400 k + 1)), .int (nI (payN f n 9400 k + 1 + rbN f n 9400 (payN f n 9400 k)))]) (rest := []) ⟨hx, hb, hml, hown, hts⟩ (c_Receiver_growSection l D B0 hG s.heap.size cB cI rv tp ln tb ca dp cn cN a hd n (payN f n 9400 k + 1) (payN f n 9400 k + 1 + rbN f n 9400 (payN f n 9400 k)) (gsC se pid (gsO f n ((payN f n 9400 k + 1 + rbN f n 9400 (payN f n 9400 k)) - (payN f n 9400 k + 1)) (payN f n 9400 k + 1) (gsQ se))) (gsS se pid (gsO f n ((payN f n 9400 k + 1 + rbN f n 9400 (payN f n 9400 k)) - (payN f n 9400 k + 1)) (payN f n 9400 k + 1) (gsQ se))) f hf la pid nx ct tw ck wr se pi T1 T2 cO e0 pr lv pmo pst P Q Im hn (by omega) (by omega) (Nat.le_refl _) (Nat.le_refl _) hGK hLN hok (lzk_le hzk) hpid he0 htk hIm haw) (z_cV hN wd_534 wd_60 wd_531 hd_Receiver_growSection rfl rfl ⟨Nat.le_of_ble_eq_true rfl, Nat.le_of_ble_eq_true rfl⟩ wd_533 wd_15) (z_preVo (va_recv (ci := 4) (q0 := 0) hK hP rfl rfl) hPc hKc hN hDc hO hS hAO) rfl rfl hl.1 rfl (lv_room (Nat.le_of_ble_eq_true rfl)) d_Receiver_useSectionBytes_79 ⟨by show 0 + (gsC se pid (gsO f n ((payN f n 9400 k + 1 + rbN f n 9400 (payN f n 9400 k)) - (payN f n 9400 k + 1)) (payN f n 9400 k + 1) (gsQ se))) ≤ mC; omega, by show 0 + (gsS se pid (gsO f n ((payN f n 9400 k + 1 + rbN f n 9400 (payN f n 9400 k)) - (payN f n 9400 k + 1)) (payN f n 9400 k + 1) (gsQ se))) ≤ mS; omega⟩) hS (fun q _ h => hFc q h) hFc (fun r79 g9 t H locs ht hvm e79 hB hz1 hk1 hS => ?_)
        obtain ⟨hP1, hK1, hD1⟩ := hB
        rw [ht] at hP1
        obtain ⟨hP, hD⟩ := va_joinP (wr := []) (rx := [(rv, .inr (4, [.ref tp, .ref ln, .ref tb, .ref ca, .ref dp])), (ca, .inl (cI, 10, .inl g9.1)), (tp, .inr (0, [.ref a, .int (nI n)])), (a, .inl (cB, 9400, .inl f)), (ln, .inr (2, [.ref hd])), (hd, .inl (cN, 256, .inr (.inr (.inr (.inr hf)))))]) hP hD [0, 1, 2, 3, 4, 5] [] rfl rfl (by decide) (by decide) hk1 hFc hP1 hD1
        clear hk1 hP1 hD1 hFc hPc hDc hz1
        have hP : va_P D classes ([(rv, .inr (4, [.ref tp, .ref ln, .ref tb, .ref ca, .ref dp])), (ca, .inl (cI, 10, .inl g9.1)), (tp, .inr (0, [.ref a, .int (nI n)])), (a, .inl (cB, 9400, .inl f)), (ln, .inr (2, [.ref hd])), (hd, .inl (cN, 256, .inr (.inr (.inr (.inr hf)))))] ++ (lzc cB (la, pid, nx, ct, tw, ck, wr, g9.2.1, g9.2.2.1) ++ (tplr cO e0 tb g9.2.2.2.2.2.1 g9.2.2.2.2.2.2.1 g9.2.2.2.2.2.2.2.2.2.1.length g9.2.2.2.2.2.2.2.1 g9.2.2.2.2.2.2.2.2.1 g9.2.2.2.2.2.2.2.2.2.1 ++ (g9.2.2.2.2.2.2.2.2.2.2 ++ (lpl cB (g9.2.2.2.1 ++ g9.2.2.2.2.1) ++ Q))))) H := hP
        have hD : va_D A ([(rv, .inr (4, [.ref tp, .ref ln, .ref tb, .ref ca, .ref dp])), (ca, .inl (cI, 10, .inl g9.1)), (tp, .inr (0, [.ref a, .int (nI n)])), (a, .inl (cB, 9400, .inl f)), (ln, .inr (2, [.ref hd])), (hd, .inl (cN, 256, .inr (.inr (.inr (.inr hf)))))] ++ (lzc cB (la, pid, nx, ct, tw, ck, wr, g9.2.1, g9.2.2.1) ++ (tplr cO e0 tb g9.2.2.2.2.2.1 g9.2.2.2.2.2.2.1 g9.2.2.2.2.2.2.2.2.2.1.length g9.2.2.2.2.2.2.2.1 g9.2.2.2.2.2.2.2.2.1 g9.2.2.2.2.2.2.2.2.2.1 ++ (g9.2.2.2.2.2.2.2.2.2.2 ++ (lpl cB (g9.2.2.2.1 ++ g9.2.2.2.2.1) ++ Q))))) := hD
        have hP := z_Pp (us_perm (X := [(rv, .inr (4, [.ref tp, .ref ln, .ref tb, .ref ca, .ref dp])), (ca, .inl (cI, 10, .inl g9.1)), (tp, .inr (0, [.ref a, .int (nI n)])), (a, .inl (cB, 9400, .inl f)), (ln, .inr (2, [.ref hd])), (hd, .inl (cN, 256, .inr (.inr (.inr (.inr hf)))))]) (A := lzc cB (la, pid, nx, ct, tw, ck, wr, g9.2.1, g9.2.2.1)) (B := tplr cO e0 tb g9.2.2.2.2.2.1 g9.2.2.2.2.2.2.1 g9.2.2.2.2.2.2.2.2.2.1.length g9.2.2.2.2.2.2.2.1 g9.2.2.2.2.2.2.2.2.1 g9.2.2.2.2.2.2.2.2.2.1) (C := g9.2.2.2.2.2.2.2.2.2.2) (L := lpl cB (g9.2.2.2.1 ++ g9.2.2.2.2.1)) (E := [])) (show va_P D classes ([(rv, .inr (4, [.ref tp, .ref ln, .ref tb, .ref ca, .ref dp])), (ca, .inl (cI, 10, .inl g9.1)), (tp, .inr (0, [.ref a, .int (nI n)])), (a, .inl (cB, 9400, .inl f)), (ln, .inr (2, [.ref hd])), (hd, .inl (cN, 256, .inr (.inr (.inr (.inr hf)))))] ++ (lzc cB (la, pid, nx, ct, tw, ck, wr, g9.2.1, g9.2.2.1) ++ (tplr cO e0 tb g9.2.2.2.2.2.1 g9.2.2.2.2.2.2.1 g9.2.2.2.2.2.2.2.2.2.1.length g9.2.2.2.2.2.2.2.1 g9.2.2.2.2.2.2.2.2.1 g9.2.2.2.2.2.2.2.2.2.1 ++ (g9.2.2.2.2.2.2.2.2.2.2 ++ (lpl cB (g9.2.2.2.1 ++ g9.2.2.2.2.1) ++ ([] ++ Q)))))) H from hP)
        have hD := z_Dp (us_perm (X := [(rv, .inr (4, [.ref tp, .ref ln, .ref tb, .ref ca, .ref dp])), (ca, .inl (cI, 10, .inl g9.1)), (tp, .inr (0, [.ref a, .int (nI n)])), (a, .inl (cB, 9400, .inl f)), (ln, .inr (2, [.ref hd])), (hd, .inl (cN, 256, .inr (.inr (.inr (.inr hf)))))]) (A := lzc cB (la, pid, nx, ct, tw, ck, wr, g9.2.1, g9.2.2.1)) (B := tplr cO e0 tb g9.2.2.2.2.2.1 g9.2.2.2.2.2.2.1 g9.2.2.2.2.2.2.2.2.2.1.length g9.2.2.2.2.2.2.2.1 g9.2.2.2.2.2.2.2.2.1 g9.2.2.2.2.2.2.2.2.2.1) (C := g9.2.2.2.2.2.2.2.2.2.2) (L := lpl cB (g9.2.2.2.1 ++ g9.2.2.2.2.1)) (E := [])) (show va_D A ([(rv, .inr (4, [.ref tp, .ref ln, .ref tb, .ref ca, .ref dp])), (ca, .inl (cI, 10, .inl g9.1)), (tp, .inr (0, [.ref a, .int (nI n)])), (a, .inl (cB, 9400, .inl f)), (ln, .inr (2, [.ref hd])), (hd, .inl (cN, 256, .inr (.inr (.inr (.inr hf)))))] ++ (lzc cB (la, pid, nx, ct, tw, ck, wr, g9.2.1, g9.2.2.1) ++ (tplr cO e0 tb g9.2.2.2.2.2.1 g9.2.2.2.2.2.2.1 g9.2.2.2.2.2.2.2.2.2.1.length g9.2.2.2.2.2.2.2.1 g9.2.2.2.2.2.2.2.2.1 g9.2.2.2.2.2.2.2.2.2.1 ++ (g9.2.2.2.2.2.2.2.2.2.2 ++ (lpl cB (g9.2.2.2.1 ++ g9.2.2.2.2.1) ++ ([] ++ Q)))))) from hD)
        have hP : va_P D classes ([(rv, .inr (4, [.ref tp, .ref ln, .ref tb, .ref ca, .ref dp])), (ca, .inl (cI, 10, .inl g9.1)), (tp, .inr (0, [.ref a, .int (nI n)])), (a, .inl (cB, 9400, .inl f)), (ln, .inr (2, [.ref hd])), (hd, .inl (cN, 256, .inr (.inr (.inr (.inr hf)))))] ++ (lzc cB (la, pid, nx, ct, tw, ck, wr, g9.2.1, g9.2.2.1) ++ (tplr cO e0 tb g9.2.2.2.2.2.1 g9.2.2.2.2.2.2.1 g9.2.2.2.2.2.2.2.2.2.1.length g9.2.2.2.2.2.2.2.1 g9.2.2.2.2.2.2.2.2.1 g9.2.2.2.2.2.2.2.2.2.1 ++ (lpl cB (g9.2.2.2.1 ++ g9.2.2.2.2.1) ++ ((g9.2.2.2.2.2.2.2.2.2.2 ++ []) ++ Q))))) H := hP
        have hD : va_D A ([(rv, .inr (4, [.ref tp, .ref ln, .ref tb, .ref ca, .ref dp])), (ca, .inl (cI, 10, .inl g9.1)), (tp, .inr (0, [.ref a, .int (nI n)])), (a, .inl (cB, 9400, .inl f)), (ln, .inr (2, [.ref hd])), (hd, .inl (cN, 256, .inr (.inr (.inr (.inr hf)))))] ++ (lzc cB (la, pid, nx, ct, tw, ck, wr, g9.2.1, g9.2.2.1) ++ (tplr cO e0 tb g9.2.2.2.2.2.1 g9.2.2.2.2.2.2.1 g9.2.2.2.2.2.2.2.2.2.1.length g9.2.2.2.2.2.2.2.1 g9.2.2.2.2.2.2.2.2.1 g9.2.2.2.2.2.2.2.2.2.1 ++ (lpl cB (g9.2.2.2.1 ++ g9.2.2.2.2.1) ++ ((g9.2.2.2.2.2.2.2.2.2.2 ++ []) ++ Q))))) := hD
        have hI9 := gs_inv e79.1 hzk
        rcases gs_ret e79.1 (by omega) with hrr | ⟨j, hrr, hj0, hj1, -, -, -⟩
        · rw [hrr] at e79
          refine z_topi (w := (-1)) hrr ?_
          refine lv_iconst (v := (-1)) hx hb d_Receiver_useSectionBytes_82 (by decide) ?_
          refine lv_icmp_ne (tgt := 87) hx hb d_Receiver_useSectionBytes_83 rfl (fun h9 => absurd rfl h9) (fun h83 => ?_)
          have hP9 := hP.part (cx := [(rv, .inr (4, [.ref tp, .ref ln, .ref tb, .ref ca, .ref dp])), (ca, .inl (cI, 10, .inl g9.1)), (tp, .inr (0, [.ref a, .int (nI n)])), (a, .inl (cB, 9400, .inl f)), (ln, .inr (2, [.ref hd])), (hd, .inl (cN, 256, .inr (.inr (.inr (.inr hf)))))]) [0, 1, 2, 3, 4, 5] rfl
          have hD9 := hD.part (cx := [(rv, .inr (4, [.ref tp, .ref ln, .ref tb, .ref ca, .ref dp])), (ca, .inl (cI, 10, .inl g9.1)), (tp, .inr (0, [.ref a, .int (nI n)])), (a, .inl (cB, 9400, .inl f)), (ln, .inr (2, [.ref hd])), (hd, .inl (cN, 256, .inr (.inr (.inr (.inr hf)))))]) [0, 1, 2, 3, 4, 5] (by decide) rfl
          have hK9 := hK.sub (tys' := [(cB, .byte), (cI, .int), (cN, .object "StreamSplitter$Lane"), (cO, .object "java/lang/Object")]) [0, 1, 2, 3] rfl
          refine W.widen (k := mC) (n := mS) (by show 0 + (gsC se pid (gsO f n ((payN f n 9400 k + 1 + rbN f n 9400 (payN f n 9400 k)) - (payN f n 9400 k + 1)) (payN f n 9400 k + 1) (gsQ se))) ≤ mC; omega) (by show 0 + (gsS se pid (gsO f n ((payN f n 9400 k + 1 + rbN f n 9400 (payN f n 9400 k)) - (payN f n 9400 k + 1)) (payN f n 9400 k + 1) (gsQ se))) ≤ mS; omega) ?_
          exact W.vret hx hb hr (fun t ht hW => ⟨⟨(g9.1, g9.2.1, g9.2.2.1, g9.2.2.2.1, g9.2.2.2.2.1, g9.2.2.2.2.2.1, g9.2.2.2.2.2.2.1, g9.2.2.2.2.2.2.2.1, g9.2.2.2.2.2.2.2.2.1, g9.2.2.2.2.2.2.2.2.2.1, g9.2.2.2.2.2.2.2.2.2.2 ++ []), rfl, ⟨Or.inr ⟨h18, Or.inr ⟨h56, Or.inr ⟨h69, _, g9, e79.1, Or.inl ⟨rfl, rfl⟩⟩⟩⟩, (by rw [List.append_nil]; exact e79.2.1), e79.2.2, hI9.1, hI9.2.1, hI9.2.2.1, hI9.2.2.2.1⟩, ⟨by rw [ht]; exact hP9, va_K.moved hW.alike hK9, hD9⟩⟩, hS.F ht⟩) hS.2.2 d_Receiver_useSectionBytes_86
        · rw [hrr] at e79
          refine z_topi (w := nI j) hrr ?_
          have hjn := nI_no (j := j) (by omega)
          refine lv_iconst (v := (-1)) hx hb d_Receiver_useSectionBytes_82 (by decide) ?_
          refine lv_icmp_ne (tgt := 87) hx hb d_Receiver_useSectionBytes_83 rfl (fun h83 => ?_) (fun h9 => absurd (by first | exact h9 | exact Classical.not_not.mp h9) hjn)
          refine lv_aload_n hx hb d_Receiver_useSectionBytes_87 rfl (lv_at hl 3 rfl) ?_
          refine lv_aload_n hx hb d_Receiver_useSectionBytes_88 rfl (lv_at hl 4 rfl) ?_
          have hPc := hP.part (cx := [(rv, .inr (4, [.ref tp, .ref ln, .ref tb, .ref ca, .ref dp])), (ca, .inl (cI, 10, .inl g9.1))]) [0, 1] rfl
          have hKc := hK.sub (tys' := [(cB, .byte), (cI, .int)]) [0, 1] rfl
          have hDc := hD.part (cx := [(rv, .inr (4, [.ref tp, .ref ln, .ref tb, .ref ca, .ref dp])), (ca, .inl (cI, 10, .inl g9.1))]) [0, 1] (by decide) rfl
          have hFc := va_freeP (cx := [(rv, .inr (4, [.ref tp, .ref ln, .ref tb, .ref ca, .ref dp])), (ca, .inl (cI, 10, .inl g9.1))]) hD hS hA [0, 1] rfl
          refine va_callv (va_runV (As := [.ref la]) (rest := []) ⟨hx, hb, hml, hown, hts⟩ (c_Receiver_giveUp l D H.size cB cI rv tp ln tb ca dp g9.1 la pid nx ct tw ck wr g9.2.1 g9.2.2.1 (tplr cO e0 tb g9.2.2.2.2.2.1 g9.2.2.2.2.2.2.1 g9.2.2.2.2.2.2.2.2.2.1.length g9.2.2.2.2.2.2.2.1 g9.2.2.2.2.2.2.2.2.1 g9.2.2.2.2.2.2.2.2.2.1 ++ (lpl cB (g9.2.2.2.1 ++ g9.2.2.2.2.1) ++ ((g9.2.2.2.2.2.2.2.2.2.2 ++ []) ++ Q))) (fun q hq => by have z9 := hI9.1; rw [hq] at z9; have := gsK_lt (n := q.2.2.1) (f := q.2.2.2) z9; omega)) (z_cV hN wd_289 wd_60 wd_286 hd_Receiver_giveUp rfl rfl ⟨Nat.le_of_ble_eq_true rfl, Nat.le_of_ble_eq_true rfl⟩ wd_288 wd_2) (z_preVm (va_recv (ci := 4) (q0 := 0) hK hP rfl rfl) hPc hKc hN hDc) rfl rfl hl.1 rfl (lv_room (Nat.le_of_ble_eq_true rfl)) d_Receiver_useSectionBytes_89 ⟨by show 0 + (gsC se pid (gsO f n ((payN f n 9400 k + 1 + rbN f n 9400 (payN f n 9400 k)) - (payN f n 9400 k + 1)) (payN f n 9400 k + 1) (gsQ se))) + 0 ≤ mC; omega, by show 0 + (gsS se pid (gsO f n ((payN f n 9400 k + 1 + rbN f n 9400 (payN f n 9400 k)) - (payN f n 9400 k + 1)) (payN f n 9400 k + 1) (gsQ se))) + 0 ≤ mS; omega⟩) hS (fun q _ h => hFc q h) hFc (fun u89 t H locs ht hvm e89 hB hz1 hk1 hS => ?_)
          obtain ⟨hP1, hK1, hD1⟩ := hB
          rw [ht] at hP1
          obtain ⟨hP, hD⟩ := va_joinP (wr := [(tp, .inr (0, [.ref a, .int (nI n)])), (a, .inl (cB, 9400, .inl f)), (ln, .inr (2, [.ref hd])), (hd, .inl (cN, 256, .inr (.inr (.inr (.inr hf)))))]) (rx := [(rv, .inr (4, [.ref tp, .ref ln, .ref tb, .ref ca, .ref dp])), (ca, .inl (cI, 10, .inl (guC g9.1 g9.2.1 g9.2.2.1)))]) hP hD [0, 1] [2, 3, 4, 5] rfl rfl (by decide) (by decide) hk1 hFc hP1 hD1
          clear hk1 hP1 hD1 hFc hPc hDc hz1
          have hP : va_P D classes ([(tp, .inr (0, [.ref a, .int (nI n)])), (a, .inl (cB, 9400, .inl f)), (ln, .inr (2, [.ref hd])), (hd, .inl (cN, 256, .inr (.inr (.inr (.inr hf))))), (rv, .inr (4, [.ref tp, .ref ln, .ref tb, .ref ca, .ref dp])), (ca, .inl (cI, 10, .inl (guC g9.1 g9.2.1 g9.2.2.1)))] ++ (lzc cB (la, pid, nx, ct, tw, ck, wr, guS g9.2.1, guI g9.2.2.1) ++ (tplr cO e0 tb g9.2.2.2.2.2.1 g9.2.2.2.2.2.2.1 g9.2.2.2.2.2.2.2.2.2.1.length g9.2.2.2.2.2.2.2.1 g9.2.2.2.2.2.2.2.2.1 g9.2.2.2.2.2.2.2.2.2.1 ++ (lpl cB (g9.2.2.2.1 ++ g9.2.2.2.2.1) ++ ((g9.2.2.2.2.2.2.2.2.2.2 ++ []) ++ Q))))) H := hP
          have hD : va_D A ([(tp, .inr (0, [.ref a, .int (nI n)])), (a, .inl (cB, 9400, .inl f)), (ln, .inr (2, [.ref hd])), (hd, .inl (cN, 256, .inr (.inr (.inr (.inr hf))))), (rv, .inr (4, [.ref tp, .ref ln, .ref tb, .ref ca, .ref dp])), (ca, .inl (cI, 10, .inl (guC g9.1 g9.2.1 g9.2.2.1)))] ++ (lzc cB (la, pid, nx, ct, tw, ck, wr, guS g9.2.1, guI g9.2.2.1) ++ (tplr cO e0 tb g9.2.2.2.2.2.1 g9.2.2.2.2.2.2.1 g9.2.2.2.2.2.2.2.2.2.1.length g9.2.2.2.2.2.2.2.1 g9.2.2.2.2.2.2.2.2.1 g9.2.2.2.2.2.2.2.2.2.1 ++ (lpl cB (g9.2.2.2.1 ++ g9.2.2.2.2.1) ++ ((g9.2.2.2.2.2.2.2.2.2.2 ++ []) ++ Q))))) := hD
          have hP := hP.part (cx := [(rv, .inr (4, [.ref tp, .ref ln, .ref tb, .ref ca, .ref dp])), (ca, .inl (cI, 10, .inl (guC g9.1 g9.2.1 g9.2.2.1))), (tp, .inr (0, [.ref a, .int (nI n)])), (a, .inl (cB, 9400, .inl f)), (ln, .inr (2, [.ref hd])), (hd, .inl (cN, 256, .inr (.inr (.inr (.inr hf)))))]) [4, 5, 0, 1, 2, 3] rfl
          have hD := hD.part (cx := [(rv, .inr (4, [.ref tp, .ref ln, .ref tb, .ref ca, .ref dp])), (ca, .inl (cI, 10, .inl (guC g9.1 g9.2.1 g9.2.2.1))), (tp, .inr (0, [.ref a, .int (nI n)])), (a, .inl (cB, 9400, .inl f)), (ln, .inr (2, [.ref hd])), (hd, .inl (cN, 256, .inr (.inr (.inr (.inr hf)))))]) [4, 5, 0, 1, 2, 3] (by decide) rfl
          exact lem92 (guC g9.1 g9.2.1 g9.2.2.1) (guS g9.2.1) (guI g9.2.2.1) g9.2.2.2.1 g9.2.2.2.2.1 g9.2.2.2.2.2.1 g9.2.2.2.2.2.2.1 g9.2.2.2.2.2.2.2.1 g9.2.2.2.2.2.2.2.2.1 g9.2.2.2.2.2.2.2.2.2.1 (g9.2.2.2.2.2.2.2.2.2.2 ++ []) (0 + gsC se pid (gsO f n ((payN f n 9400 k + 1 + rbN f n 9400 (payN f n 9400 k)) - (payN f n 9400 k + 1)) (payN f n 9400 k + 1) (gsQ se))) (0 + gsS se pid (gsO f n ((payN f n 9400 k + 1 + rbN f n 9400 (payN f n 9400 k)) - (payN f n 9400 k + 1)) (payN f n 9400 k + 1) (gsQ se))) H locs ls h18 h56 hUB (Or.inr (sec_rw h69)) (gsQ_gu _) (gsK_gu _) hI9.2.1 hI9.2.2.1 hI9.2.2.2.1 (by rw [List.append_nil]; exact e79.2.1) e79.2.2 (by rw [us_gu0 hI9.2.2.2.2.1]; show 0 + (rwC se + gsX pid (gsO f n ((payN f n 9400 k + 1 + rbN f n 9400 (payN f n 9400 k)) - (payN f n 9400 k + 1)) (payN f n 9400 k + 1) (gsQ se))) + 0 ≤ _; omega) (by rw [us_gu1 hI9.2.2.2.2.2]; show 0 + (rwS se + gsY pid (gsO f n ((payN f n 9400 k + 1 + rbN f n 9400 (payN f n 9400 k)) - (payN f n 9400 k + 1)) (payN f n 9400 k + 1) (gsQ se))) + 0 ≤ _; omega) (fun t ht => Or.inr ⟨h18, Or.inr ⟨h56, Or.inr ⟨h69, _, g9, e79.1, Or.inr ⟨hjn, ht⟩⟩⟩⟩) (lv_sub hl [3, 4, 1, 0] rfl) hP hD hS
    · have h56 : k + 188 < (payN f n 9400 k + 1 + rbN f n 9400 (payN f n 9400 k)) := by have := mt (nI_leI (a := (payN f n 9400 k + 1 + rbN f n 9400 (payN f n 9400 k))) (b := k + 188) (by omega) (by omega)).mpr h56; omega
      refine lv_aload_n hx hb d_Receiver_useSectionBytes_59 rfl (lv_at hl 3 rfl) ?_
      refine lv_aload_n hx hb d_Receiver_useSectionBytes_60 rfl (lv_at hl 4 rfl) ?_
      have hPc := hP.part (cx := [(rv, .inr (4, [.ref tp, .ref ln, .ref tb, .ref ca, .ref dp])), (ca, .inl (cI, 10, .inl cn))]) [0, 1] rfl
      have hKc := hK.sub (tys' := [(cB, .byte), (cI, .int)]) [0, 1] rfl
      have hDc := hD.part (cx := [(rv, .inr (4, [.ref tp, .ref ln, .ref tb, .ref ca, .ref dp])), (ca, .inl (cI, 10, .inl cn))]) [0, 1] (by decide) rfl
      have hFc := va_freeP (cx := [(rv, .inr (4, [.ref tp, .ref ln, .ref tb, .ref ca, .ref dp])), (ca, .inl (cI, 10, .inl cn))]) hD hS hA [0, 1] rfl
      refine va_callv (va_runV (As := [.ref la]) (rest := []) ⟨hx, hb, hml, hown, hts⟩ (c_Receiver_giveUp l D s.heap.size cB cI rv tp ln tb ca dp cn la pid nx ct tw ck wr se pi (tplr cO e0 tb lv pr P.length pmo pst P ++ (lpl cB (T1 ++ T2) ++ Q)) hse) (z_cV hN wd_289 wd_60 wd_286 hd_Receiver_giveUp rfl rfl ⟨Nat.le_of_ble_eq_true rfl, Nat.le_of_ble_eq_true rfl⟩ wd_288 wd_2) (z_preVm (va_recv (ci := 4) (q0 := 0) hK hP rfl rfl) hPc hKc hN hDc) rfl rfl hl.1 rfl (lv_room (Nat.le_of_ble_eq_true rfl)) d_Receiver_useSectionBytes_61 ⟨by show 0 + 0 ≤ mC; omega, by show 0 + 0 ≤ mS; omega⟩) hS (fun q _ h => hFc q h) hFc (fun u61 t H locs ht hvm e61 hB hz1 hk1 hS => ?_)
      obtain ⟨hP1, hK1, hD1⟩ := hB
      rw [ht] at hP1
      obtain ⟨hP, hD⟩ := va_joinP (wr := [(tp, .inr (0, [.ref a, .int (nI n)])), (a, .inl (cB, 9400, .inl f)), (ln, .inr (2, [.ref hd])), (hd, .inl (cN, 256, .inr (.inr (.inr (.inr hf)))))]) (rx := [(rv, .inr (4, [.ref tp, .ref ln, .ref tb, .ref ca, .ref dp])), (ca, .inl (cI, 10, .inl (guC cn se pi)))]) hP hD [0, 1] [2, 3, 4, 5] rfl rfl (by decide) (by decide) hk1 hFc hP1 hD1
      clear hk1 hP1 hD1 hFc hPc hDc hz1
      have hP : va_P D classes ([(tp, .inr (0, [.ref a, .int (nI n)])), (a, .inl (cB, 9400, .inl f)), (ln, .inr (2, [.ref hd])), (hd, .inl (cN, 256, .inr (.inr (.inr (.inr hf))))), (rv, .inr (4, [.ref tp, .ref ln, .ref tb, .ref ca, .ref dp])), (ca, .inl (cI, 10, .inl (guC cn se pi)))] ++ (lzc cB (la, pid, nx, ct, tw, ck, wr, guS se, guI pi) ++ (tplr cO e0 tb lv pr P.length pmo pst P ++ (lpl cB (T1 ++ T2) ++ Q)))) H := hP
      have hD : va_D A ([(tp, .inr (0, [.ref a, .int (nI n)])), (a, .inl (cB, 9400, .inl f)), (ln, .inr (2, [.ref hd])), (hd, .inl (cN, 256, .inr (.inr (.inr (.inr hf))))), (rv, .inr (4, [.ref tp, .ref ln, .ref tb, .ref ca, .ref dp])), (ca, .inl (cI, 10, .inl (guC cn se pi)))] ++ (lzc cB (la, pid, nx, ct, tw, ck, wr, guS se, guI pi) ++ (tplr cO e0 tb lv pr P.length pmo pst P ++ (lpl cB (T1 ++ T2) ++ Q)))) := hD
      have hP := hP.part (cx := [(rv, .inr (4, [.ref tp, .ref ln, .ref tb, .ref ca, .ref dp])), (ca, .inl (cI, 10, .inl (guC cn se pi))), (tp, .inr (0, [.ref a, .int (nI n)])), (a, .inl (cB, 9400, .inl f)), (ln, .inr (2, [.ref hd])), (hd, .inl (cN, 256, .inr (.inr (.inr (.inr hf)))))]) [4, 5, 0, 1, 2, 3] rfl
      have hD := hD.part (cx := [(rv, .inr (4, [.ref tp, .ref ln, .ref tb, .ref ca, .ref dp])), (ca, .inl (cI, 10, .inl (guC cn se pi))), (tp, .inr (0, [.ref a, .int (nI n)])), (a, .inl (cB, 9400, .inl f)), (ln, .inr (2, [.ref hd])), (hd, .inl (cN, 256, .inr (.inr (.inr (.inr hf)))))]) [4, 5, 0, 1, 2, 3] (by decide) rfl
      have hP9 := hP.part (cx := [(rv, .inr (4, [.ref tp, .ref ln, .ref tb, .ref ca, .ref dp])), (ca, .inl (cI, 10, .inl (guC cn se pi))), (tp, .inr (0, [.ref a, .int (nI n)])), (a, .inl (cB, 9400, .inl f)), (ln, .inr (2, [.ref hd])), (hd, .inl (cN, 256, .inr (.inr (.inr (.inr hf)))))]) [0, 1, 2, 3, 4, 5] rfl
      have hD9 := hD.part (cx := [(rv, .inr (4, [.ref tp, .ref ln, .ref tb, .ref ca, .ref dp])), (ca, .inl (cI, 10, .inl (guC cn se pi))), (tp, .inr (0, [.ref a, .int (nI n)])), (a, .inl (cB, 9400, .inl f)), (ln, .inr (2, [.ref hd])), (hd, .inl (cN, 256, .inr (.inr (.inr (.inr hf)))))]) [0, 1, 2, 3, 4, 5] (by decide) rfl
      have hK9 := hK.sub (tys' := [(cB, .byte), (cI, .int), (cN, .object "StreamSplitter$Lane"), (cO, .object "java/lang/Object")]) [0, 1, 2, 3] rfl
      refine W.widen (k := mC) (n := mS) (by show 0 ≤ mC; omega) (by show 0 ≤ mS; omega) ?_
      exact W.vret hx hb hr (fun t ht hW => ⟨⟨(guC cn se pi, guS se, guI pi, T1, T2, lv, pr, pmo, pst, P, []), rfl, ⟨Or.inr ⟨h18, Or.inl ⟨h56, rfl⟩⟩, htk, haw, gsK_gu _, hzk, rfl, rfl⟩, ⟨by rw [ht]; exact hP9, va_K.moved hW.alike hK9, hD9⟩⟩, hS.F ht⟩) hS.2.2 d_Receiver_useSectionBytes_64
  · have h18 := gp_0 (by first | exact h18 | exact Classical.not_not.mp h18)
    have hUB : ubC f n k pid = seM pid ∧ ubS f n k pid = seN pid := ⟨if_pos h18, if_pos h18⟩
    refine lv_aload_n hx hb d_Receiver_useSectionBytes_21 rfl (lv_at hl 3 rfl) ?_
    obtain ⟨q22, hq22⟩ : ∃ q0 : Nat, ([(rv, .inr (4, [.ref tp, .ref ln, .ref tb, .ref ca, .ref dp])), (ca, .inl (cI, 10, .inl cn)), (tp, .inr (0, [.ref a, .int (nI n)])), (a, .inl (cB, 9400, .inl f)), (ln, .inr (2, [.ref hd])), (hd, .inl (cN, 256, .inr (.inr (.inr (.inr hf)))))] ++ (lzc cB (la, pid, nx, ct, tw, ck, wr, se, pi) ++ (tplr cO e0 tb lv pr P.length pmo pst P ++ (lpl cB (T1 ++ T2) ++ Q))))[q0]? = some (la, .inr (1, lzV (la, pid, nx, ct, tw, ck, wr, se, pi))) := List.getElem?_of_mem (List.mem_append_right _ (List.mem_append_left _ List.mem_cons_self))
    have hPc := hP.part (cx := []) [] rfl
    have hKc := hK.sub (tys' := []) [] rfl
    refine z_ci (va_runV (As := []) (rest := []) ⟨hx, hb, hml, hown, hts⟩ (c_Lane_gathersSectionP l D cB la pid nx ct tw ck wr se pi (tplr cO e0 tb lv pr P.length pmo pst P ++ (lpl cB (T1 ++ T2) ++ Q)) hse) (z_cV hN wd_293 wd_74 wd_290 hd_Lane_gathersSection rfl rfl ⟨Nat.le_of_ble_eq_true rfl, Nat.le_of_ble_eq_true rfl⟩ wd_291 wd_292) (z_preV (va_recv (ci := 1) (q0 := q22) hK hP rfl hq22) hPc hKc hN) rfl rfl hl.1 rfl (lv_room (Nat.le_of_ble_eq_true rfl)) d_Receiver_useSectionBytes_22 ⟨by show 0 + 0 ≤ mC; omega, by show 0 + 0 ≤ mS; omega⟩) (fun r22 e22 => ?_)
    refine z_topi (w := if secN se = 0 then 0 else 1) e22 ?_
    refine lv_if_eq (tgt := 37) hx hb d_Receiver_useSectionBytes_25 rfl (fun h25 => ?_) (fun h25 => ?_)
    · have h25 := sec_0 h25
      have hP9 := hP.part (cx := [(rv, .inr (4, [.ref tp, .ref ln, .ref tb, .ref ca, .ref dp])), (ca, .inl (cI, 10, .inl cn)), (tp, .inr (0, [.ref a, .int (nI n)])), (a, .inl (cB, 9400, .inl f)), (ln, .inr (2, [.ref hd])), (hd, .inl (cN, 256, .inr (.inr (.inr (.inr hf)))))]) [0, 1, 2, 3, 4, 5] rfl
      have hD9 := hD.part (cx := [(rv, .inr (4, [.ref tp, .ref ln, .ref tb, .ref ca, .ref dp])), (ca, .inl (cI, 10, .inl cn)), (tp, .inr (0, [.ref a, .int (nI n)])), (a, .inl (cB, 9400, .inl f)), (ln, .inr (2, [.ref hd])), (hd, .inl (cN, 256, .inr (.inr (.inr (.inr hf)))))]) [0, 1, 2, 3, 4, 5] (by decide) rfl
      have hK9 := hK.sub (tys' := [(cB, .byte), (cI, .int), (cN, .object "StreamSplitter$Lane"), (cO, .object "java/lang/Object")]) [0, 1, 2, 3] rfl
      refine W.widen (k := mC) (n := mS) (by show 0 ≤ mC; omega) (by show 0 ≤ mS; omega) ?_
      exact W.vret hx hb hr (fun t ht hW => ⟨⟨(cn, se, pi, T1, T2, lv, pr, pmo, pst, P, []), rfl, ⟨Or.inl ⟨h18, Or.inl ⟨h25, rfl⟩⟩, htk, haw, hGK, hzk, rfl, rfl⟩, ⟨by rw [ht]; exact hP9, va_K.moved hW.alike hK9, hD9⟩⟩, hS.F ht⟩) hS.2.2 d_Receiver_useSectionBytes_37
    · have h25 := sec_1 h25
      have hrw0 := sec_rw h25
      refine lv_aload_n hx hb d_Receiver_useSectionBytes_28 rfl (lv_at hl 2 rfl) ?_
      refine lv_aload_n hx hb d_Receiver_useSectionBytes_29 rfl (lv_at hl 3 rfl) ?_
      refine lv_iload_n hx hb d_Receiver_useSectionBytes_30 rfl (lv_at hl 1 rfl) ?_
      refine lv_iload hx hb d_Receiver_useSectionBytes_31 (lv_at hl 0 rfl) ?_
      have hX9 := gsX_le pid (gsO f n ((k + 188) - (payN f n 9400 k)) (payN f n 9400 k) (gsQ se))
      have hXc : gsC se pid (gsO f n ((k + 188) - (payN f n 9400 k)) (payN f n 9400 k) (gsQ se)) = rwC se + gsX pid (gsO f n ((k + 188) - (payN f n 9400 k)) (payN f n 9400 k) (gsQ se)) := rfl
      have hXs : gsS se pid (gsO f n ((k + 188) - (payN f n 9400 k)) (payN f n 9400 k) (gsQ se)) = rwS se + gsY pid (gsO f n ((k + 188) - (payN f n 9400 k)) (payN f n 9400 k) (gsQ se)) := rfl
      have hPc := hP.part (cx := [(rv, .inr (4, [.ref tp, .ref ln, .ref tb, .ref ca, .ref dp])), (ca, .inl (cI, 10, .inl cn)), (tp, .inr (0, [.ref a, .int (nI n)])), (a, .inl (cB, 9400, .inl f)), (ln, .inr (2, [.ref hd])), (hd, .inl (cN, 256, .inr (.inr (.inr (.inr hf)))))]) [0, 1, 2, 3, 4, 5] rfl
      have hKc := hK.sub (tys' := [(cB, .byte), (cI, .int), (cN, .object "StreamSplitter$Lane"), (cO, .object "java/lang/Object")]) [0, 1, 2, 3] rfl
      have hDc := hD.part (cx := [(rv, .inr (4, [.ref tp, .ref ln, .ref tb, .ref ca, .ref dp])), (ca, .inl (cI, 10, .inl cn)), (tp, .inr (0, [.ref a, .int (nI n)])), (a, .inl (cB, 9400, .inl f)), (ln, .inr (2, [.ref hd])), (hd, .inl (cN, 256, .inr (.inr (.inr (.inr hf)))))]) [0, 1, 2, 3, 4, 5] (by decide) rfl
      have hFc := va_freeP (cx := [(rv, .inr (4, [.ref tp, .ref ln, .ref tb, .ref ca, .ref dp])), (ca, .inl (cI, 10, .inl cn)), (tp, .inr (0, [.ref a, .int (nI n)])), (a, .inl (cB, 9400, .inl f)), (ln, .inr (2, [.ref hd])), (hd, .inl (cN, 256, .inr (.inr (.inr (.inr hf)))))]) hD hS hA [0, 1, 2, 3, 4, 5] rfl
      refine va_calli (va_runV (As := [.ref la, .int (nI (payN f n 9400 k)), .int (nI (k + 188))]) (rest := []) ⟨hx, hb, hml, hown, hts⟩ (c_Receiver_growSection l D B0 hG s.heap.size cB cI rv tp ln tb ca dp cn cN a hd n (payN f n 9400 k) (k + 188) (gsC se pid (gsO f n ((k + 188) - (payN f n 9400 k)) (payN f n 9400 k) (gsQ se))) (gsS se pid (gsO f n ((k + 188) - (payN f n 9400 k)) (payN f n 9400 k) (gsQ se))) f hf la pid nx ct tw ck wr se pi T1 T2 cO e0 pr lv pmo pst P Q Im hn (by omega) (by omega) (Nat.le_refl _) (Nat.le_refl _) hGK hLN hok (lzk_le hzk) hpid he0 htk hIm haw) (z_cV hN wd_534 wd_60 wd_531 hd_Receiver_growSection rfl rfl ⟨Nat.le_of_ble_eq_true rfl, Nat.le_of_ble_eq_true rfl⟩ wd_533 wd_15) (z_preVo (va_recv (ci := 4) (q0 := 0) hK hP rfl rfl) hPc hKc hN hDc hO hS hAO) rfl rfl hl.1 rfl (lv_room (Nat.le_of_ble_eq_true rfl)) d_Receiver_useSectionBytes_33 ⟨by show 0 + (gsC se pid (gsO f n ((k + 188) - (payN f n 9400 k)) (payN f n 9400 k) (gsQ se))) ≤ mC; omega, by show 0 + (gsS se pid (gsO f n ((k + 188) - (payN f n 9400 k)) (payN f n 9400 k) (gsQ se))) ≤ mS; omega⟩) hS (fun q _ h => hFc q h) hFc (fun r33 g9 t H locs ht hvm e33 hB hz1 hk1 hS => ?_)
      obtain ⟨hP1, hK1, hD1⟩ := hB
      rw [ht] at hP1
      obtain ⟨hP, hD⟩ := va_joinP (wr := []) (rx := [(rv, .inr (4, [.ref tp, .ref ln, .ref tb, .ref ca, .ref dp])), (ca, .inl (cI, 10, .inl g9.1)), (tp, .inr (0, [.ref a, .int (nI n)])), (a, .inl (cB, 9400, .inl f)), (ln, .inr (2, [.ref hd])), (hd, .inl (cN, 256, .inr (.inr (.inr (.inr hf)))))]) hP hD [0, 1, 2, 3, 4, 5] [] rfl rfl (by decide) (by decide) hk1 hFc hP1 hD1
      clear hk1 hP1 hD1 hFc hPc hDc hz1
      have hP : va_P D classes ([(rv, .inr (4, [.ref tp, .ref ln, .ref tb, .ref ca, .ref dp])), (ca, .inl (cI, 10, .inl g9.1)), (tp, .inr (0, [.ref a, .int (nI n)])), (a, .inl (cB, 9400, .inl f)), (ln, .inr (2, [.ref hd])), (hd, .inl (cN, 256, .inr (.inr (.inr (.inr hf)))))] ++ (lzc cB (la, pid, nx, ct, tw, ck, wr, g9.2.1, g9.2.2.1) ++ (tplr cO e0 tb g9.2.2.2.2.2.1 g9.2.2.2.2.2.2.1 g9.2.2.2.2.2.2.2.2.2.1.length g9.2.2.2.2.2.2.2.1 g9.2.2.2.2.2.2.2.2.1 g9.2.2.2.2.2.2.2.2.2.1 ++ (g9.2.2.2.2.2.2.2.2.2.2 ++ (lpl cB (g9.2.2.2.1 ++ g9.2.2.2.2.1) ++ Q))))) H := hP
      have hD : va_D A ([(rv, .inr (4, [.ref tp, .ref ln, .ref tb, .ref ca, .ref dp])), (ca, .inl (cI, 10, .inl g9.1)), (tp, .inr (0, [.ref a, .int (nI n)])), (a, .inl (cB, 9400, .inl f)), (ln, .inr (2, [.ref hd])), (hd, .inl (cN, 256, .inr (.inr (.inr (.inr hf)))))] ++ (lzc cB (la, pid, nx, ct, tw, ck, wr, g9.2.1, g9.2.2.1) ++ (tplr cO e0 tb g9.2.2.2.2.2.1 g9.2.2.2.2.2.2.1 g9.2.2.2.2.2.2.2.2.2.1.length g9.2.2.2.2.2.2.2.1 g9.2.2.2.2.2.2.2.2.1 g9.2.2.2.2.2.2.2.2.2.1 ++ (g9.2.2.2.2.2.2.2.2.2.2 ++ (lpl cB (g9.2.2.2.1 ++ g9.2.2.2.2.1) ++ Q))))) := hD
      have hP := z_Pp (us_perm (X := [(rv, .inr (4, [.ref tp, .ref ln, .ref tb, .ref ca, .ref dp])), (ca, .inl (cI, 10, .inl g9.1)), (tp, .inr (0, [.ref a, .int (nI n)])), (a, .inl (cB, 9400, .inl f)), (ln, .inr (2, [.ref hd])), (hd, .inl (cN, 256, .inr (.inr (.inr (.inr hf)))))]) (A := lzc cB (la, pid, nx, ct, tw, ck, wr, g9.2.1, g9.2.2.1)) (B := tplr cO e0 tb g9.2.2.2.2.2.1 g9.2.2.2.2.2.2.1 g9.2.2.2.2.2.2.2.2.2.1.length g9.2.2.2.2.2.2.2.1 g9.2.2.2.2.2.2.2.2.1 g9.2.2.2.2.2.2.2.2.2.1) (C := g9.2.2.2.2.2.2.2.2.2.2) (L := lpl cB (g9.2.2.2.1 ++ g9.2.2.2.2.1)) (E := [])) (show va_P D classes ([(rv, .inr (4, [.ref tp, .ref ln, .ref tb, .ref ca, .ref dp])), (ca, .inl (cI, 10, .inl g9.1)), (tp, .inr (0, [.ref a, .int (nI n)])), (a, .inl (cB, 9400, .inl f)), (ln, .inr (2, [.ref hd])), (hd, .inl (cN, 256, .inr (.inr (.inr (.inr hf)))))] ++ (lzc cB (la, pid, nx, ct, tw, ck, wr, g9.2.1, g9.2.2.1) ++ (tplr cO e0 tb g9.2.2.2.2.2.1 g9.2.2.2.2.2.2.1 g9.2.2.2.2.2.2.2.2.2.1.length g9.2.2.2.2.2.2.2.1 g9.2.2.2.2.2.2.2.2.1 g9.2.2.2.2.2.2.2.2.2.1 ++ (g9.2.2.2.2.2.2.2.2.2.2 ++ (lpl cB (g9.2.2.2.1 ++ g9.2.2.2.2.1) ++ ([] ++ Q)))))) H from hP)
      have hD := z_Dp (us_perm (X := [(rv, .inr (4, [.ref tp, .ref ln, .ref tb, .ref ca, .ref dp])), (ca, .inl (cI, 10, .inl g9.1)), (tp, .inr (0, [.ref a, .int (nI n)])), (a, .inl (cB, 9400, .inl f)), (ln, .inr (2, [.ref hd])), (hd, .inl (cN, 256, .inr (.inr (.inr (.inr hf)))))]) (A := lzc cB (la, pid, nx, ct, tw, ck, wr, g9.2.1, g9.2.2.1)) (B := tplr cO e0 tb g9.2.2.2.2.2.1 g9.2.2.2.2.2.2.1 g9.2.2.2.2.2.2.2.2.2.1.length g9.2.2.2.2.2.2.2.1 g9.2.2.2.2.2.2.2.2.1 g9.2.2.2.2.2.2.2.2.2.1) (C := g9.2.2.2.2.2.2.2.2.2.2) (L := lpl cB (g9.2.2.2.1 ++ g9.2.2.2.2.1)) (E := [])) (show va_D A ([(rv, .inr (4, [.ref tp, .ref ln, .ref tb, .ref ca, .ref dp])), (ca, .inl (cI, 10, .inl g9.1)), (tp, .inr (0, [.ref a, .int (nI n)])), (a, .inl (cB, 9400, .inl f)), (ln, .inr (2, [.ref hd])), (hd, .inl (cN, 256, .inr (.inr (.inr (.inr hf)))))] ++ (lzc cB (la, pid, nx, ct, tw, ck, wr, g9.2.1, g9.2.2.1) ++ (tplr cO e0 tb g9.2.2.2.2.2.1 g9.2.2.2.2.2.2.1 g9.2.2.2.2.2.2.2.2.2.1.length g9.2.2.2.2.2.2.2.1 g9.2.2.2.2.2.2.2.2.1 g9.2.2.2.2.2.2.2.2.2.1 ++ (g9.2.2.2.2.2.2.2.2.2.2 ++ (lpl cB (g9.2.2.2.1 ++ g9.2.2.2.2.1) ++ ([] ++ Q)))))) from hD)
      have hP : va_P D classes ([(rv, .inr (4, [.ref tp, .ref ln, .ref tb, .ref ca, .ref dp])), (ca, .inl (cI, 10, .inl g9.1)), (tp, .inr (0, [.ref a, .int (nI n)])), (a, .inl (cB, 9400, .inl f)), (ln, .inr (2, [.ref hd])), (hd, .inl (cN, 256, .inr (.inr (.inr (.inr hf)))))] ++ (lzc cB (la, pid, nx, ct, tw, ck, wr, g9.2.1, g9.2.2.1) ++ (tplr cO e0 tb g9.2.2.2.2.2.1 g9.2.2.2.2.2.2.1 g9.2.2.2.2.2.2.2.2.2.1.length g9.2.2.2.2.2.2.2.1 g9.2.2.2.2.2.2.2.2.1 g9.2.2.2.2.2.2.2.2.2.1 ++ (lpl cB (g9.2.2.2.1 ++ g9.2.2.2.2.1) ++ ((g9.2.2.2.2.2.2.2.2.2.2 ++ []) ++ Q))))) H := hP
      have hD : va_D A ([(rv, .inr (4, [.ref tp, .ref ln, .ref tb, .ref ca, .ref dp])), (ca, .inl (cI, 10, .inl g9.1)), (tp, .inr (0, [.ref a, .int (nI n)])), (a, .inl (cB, 9400, .inl f)), (ln, .inr (2, [.ref hd])), (hd, .inl (cN, 256, .inr (.inr (.inr (.inr hf)))))] ++ (lzc cB (la, pid, nx, ct, tw, ck, wr, g9.2.1, g9.2.2.1) ++ (tplr cO e0 tb g9.2.2.2.2.2.1 g9.2.2.2.2.2.2.1 g9.2.2.2.2.2.2.2.2.2.1.length g9.2.2.2.2.2.2.2.1 g9.2.2.2.2.2.2.2.2.1 g9.2.2.2.2.2.2.2.2.2.1 ++ (lpl cB (g9.2.2.2.1 ++ g9.2.2.2.2.1) ++ ((g9.2.2.2.2.2.2.2.2.2.2 ++ []) ++ Q))))) := hD
      have hI9 := gs_inv e33.1 hzk
      refine lv_pop hx hb d_Receiver_useSectionBytes_36 rfl ?_
      have hP9 := hP.part (cx := [(rv, .inr (4, [.ref tp, .ref ln, .ref tb, .ref ca, .ref dp])), (ca, .inl (cI, 10, .inl g9.1)), (tp, .inr (0, [.ref a, .int (nI n)])), (a, .inl (cB, 9400, .inl f)), (ln, .inr (2, [.ref hd])), (hd, .inl (cN, 256, .inr (.inr (.inr (.inr hf)))))]) [0, 1, 2, 3, 4, 5] rfl
      have hD9 := hD.part (cx := [(rv, .inr (4, [.ref tp, .ref ln, .ref tb, .ref ca, .ref dp])), (ca, .inl (cI, 10, .inl g9.1)), (tp, .inr (0, [.ref a, .int (nI n)])), (a, .inl (cB, 9400, .inl f)), (ln, .inr (2, [.ref hd])), (hd, .inl (cN, 256, .inr (.inr (.inr (.inr hf)))))]) [0, 1, 2, 3, 4, 5] (by decide) rfl
      have hK9 := hK.sub (tys' := [(cB, .byte), (cI, .int), (cN, .object "StreamSplitter$Lane"), (cO, .object "java/lang/Object")]) [0, 1, 2, 3] rfl
      refine W.widen (k := mC) (n := mS) (by show 0 + (gsC se pid (gsO f n ((k + 188) - (payN f n 9400 k)) (payN f n 9400 k) (gsQ se))) ≤ mC; omega) (by show 0 + (gsS se pid (gsO f n ((k + 188) - (payN f n 9400 k)) (payN f n 9400 k) (gsQ se))) ≤ mS; omega) ?_
      exact W.vret hx hb hr (fun t ht hW => ⟨⟨(g9.1, g9.2.1, g9.2.2.1, g9.2.2.2.1, g9.2.2.2.2.1, g9.2.2.2.2.2.1, g9.2.2.2.2.2.2.1, g9.2.2.2.2.2.2.2.1, g9.2.2.2.2.2.2.2.2.1, g9.2.2.2.2.2.2.2.2.2.1, g9.2.2.2.2.2.2.2.2.2.2 ++ []), rfl, ⟨Or.inl ⟨h18, Or.inr ⟨h25, _, g9, e33.1, rfl⟩⟩, (by rw [List.append_nil]; exact e33.2.1), e33.2.2, hI9.1, hI9.2.1, hI9.2.2.1, hI9.2.2.2.1⟩, ⟨by rw [ht]; exact hP9, va_K.moved hW.alike hK9, hD9⟩⟩, hS.F ht⟩) hS.2.2 d_Receiver_useSectionBytes_37

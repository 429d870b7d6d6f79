/-! Contracts over the law's start, and of methods that may throw. -/
def zMo (av : List Value) (D : va_G) (ws : va_W) (tys : List (ClassId × FieldType)) (sz : Nat) (B0 : State) : Array Value → State → Prop := fun v U => v = av.toArray ∧ U.heap.size = sz ∧ va_P D classes ws U.heap ∧ va_K D classes tys U ∧ zN U ∧ va_D (fun q => B0.heap.size ≤ q) ws ∧ zO B0 U
theorem zMo_blind {av : List Value} {D : va_G} {ws : va_W} {tys : List (ClassId × FieldType)} {sz : Nat} {B0 : State} : FrameBlind (zMo av D ws tys sz B0) := fun a U g mk q => by
  obtain ⟨q0, q1, qP, qK, qN, qD, qO⟩ := q
  exact ⟨q0, q1, qP, va_K.moved (u := U) (U := U.calling g mk a) (Vm.Alike.refl U.vm) qK, zN.same (s := U) (U := U.calling g mk a) rfl qN, qD, zO.same (u := U) (U := U.calling g mk a) rfl rfl qO⟩
theorem z_AO {ws : va_W} {s B0 : State} (hD : va_D (fun q => B0.heap.size ≤ q) ws) (hO : zO B0 s) : ∀ q, va_A ws s.heap.size q → B0.heap.size ≤ q := by
  intro q h
  rcases h with ⟨k, e, h⟩ | h
  · exact hD.2 k (q, e) h
  · exact Nat.le_trans hO.2.1 h
section ZW
variable {s B0 : State} {H : Heap} {locs : List Loc} {D : va_G} {A : Nat → Prop} {tc : List (ClassId × FieldType)} {wc : va_W} {C : String} {b : Nat} {As : List Value}
theorem z_preVo (hc : ∃ cellB : Cell, H[b]? = some cellB ∧ cellB.vm.isStatics = false ∧ s.vm.findClass C = some cellB.cls) (hP : va_P D classes wc H) (hK : va_K D classes tc s) (hN : zN s) (hD : va_D A wc) (hO : zO B0 s) (hS : va_S A s.heap H locs) (hAO : ∀ q, A q → B0.heap.size ≤ q) : PreV s H C b (zMo (.ref b :: As) D wc tc H.size B0) As :=
  ⟨zMo_blind, hc, fun U hU hW => ⟨rfl, by rw [hU], by rw [hU]; exact hP, va_K.moved hW.alike hK, zN.warm hW hN, hD.weaken (fun _ _ _ h => hAO _ h), hO.go hS hAO hU hW⟩⟩
theorem z_preSo (hP : va_P D classes wc H) (hK : va_K D classes tc s) (hN : zN s) (hD : va_D A wc) (hO : zO B0 s) (hS : va_S A s.heap H locs) (hAO : ∀ q, A q → B0.heap.size ≤ q) : PreS s H (zMo As D wc tc H.size B0) As :=
  ⟨zMo_blind, fun U hU hW => ⟨rfl, by rw [hU], by rw [hU]; exact hP, va_K.moved hW.alike hK, zN.warm hW hN, hD.weaken (fun _ _ _ h => hAO _ h), hO.go hS hAO hU hW⟩⟩
end ZW
def zQi {S : Type} (post : Int32 → S → Prop) (B : S → State → Prop) (A : Nat → Prop) (thr : String → Prop) : Array Value → State → Outcome → State → Prop := fun _ st oc t => (∃ (r : Int32) (u : S), oc = .returned (some (.int r)) ∧ post r u ∧ B u t ∧ va_F A st t) ∨ ∃ (X : String) (a : Addr), thr X ∧ oc = .threw a ∧ zThr X st a t
def zQl {S : Type} (post : Int64 → S → Prop) (B : S → State → Prop) (A : Nat → Prop) (thr : String → Prop) : Array Value → State → Outcome → State → Prop := fun _ st oc t => (∃ (r : Int64) (u : S), oc = .returned (some (.long r)) ∧ post r u ∧ B u t ∧ va_F A st t) ∨ ∃ (X : String) (a : Addr), thr X ∧ oc = .threw a ∧ zThr X st a t
def zQv {S : Type} (post : S → Prop) (B : S → State → Prop) (A : Nat → Prop) (thr : String → Prop) : Array Value → State → Outcome → State → Prop := fun _ st oc t => (∃ (u : S), oc = .returned none ∧ post u ∧ B u t ∧ va_F A st t) ∨ ∃ (X : String) (a : Addr), thr X ∧ oc = .threw a ∧ zThr X st a t
theorem z_str {B0 U : State} (hG : zG B0) (h : zO B0 U) {own text : String} {k : Nat} {a' : Array Value} (hm : Cond.stringRef own k text ∈ lw_tbl) : (Cond.stringRef own k text).before a' U = true := by
  obtain ⟨b, hw, -⟩ := hG
  have h1 := Cond.stringRef_warmed h.1 (hw _ hm)
  first
    | exact va_tabs rfl rfl h1
    | (simp only [Cond.before, Cond.holds, Cond.value, State.names, State.poolOf?, State.resolvedAt?] at h1 ⊢; exact h1)
def xA : String := "java/lang/IllegalArgumentException"
def xB : String := "java/lang/IndexOutOfBoundsException"
theorem z_fits : ∀ n ∈ ["java/lang/RuntimeException", "java/lang/Exception"], Bundle.fit n = true := by decide
theorem z_pushAt {H : Heap} {x : Cell} : (H.push x)[H.size]? = some x := by simp


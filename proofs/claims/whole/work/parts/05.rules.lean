-- THE BACKGROUND: words that are no good ones, String constants, statics
def jNestB : Cond → Bool
  | .fieldLinkNest .. => true
  | .methodLinkNest .. => true
  | .castable .. => true
  | .declares .. => true
  | .arrayOver (.object _) => true
  | _ => false
def jNest : List Cond := tables_1.filter jNestB
theorem jNest_cast {a b : String} {s U : State} (hW : s.WarmedH U.vm) (hz : va_Nw (.castable a b) s) : va_Nw (.castable a b) U :=
  va_tabs rfl (rfl : (s.setVm U.vm).vm = U.vm) ((Cond.castable_setVm (args := #[]) hW.alike a b).trans hz)
theorem jNest_decl {x : MethodName} {s U : State} (hW : s.WarmedH U.vm) (hz : va_Nw (.declares x) s) : va_Nw (.declares x) U :=
  va_tabs rfl (rfl : (s.setVm U.vm).vm = U.vm) ((Cond.declares_setVm (args := #[]) hW.alike x).trans hz)
theorem jNest_over {a : String} {s U : State} (hW : s.WarmedH U.vm) (hz : va_Nw (.arrayOver (.object a)) s) : va_Nw (.arrayOver (.object a)) U := va_AO.moved hW.alike hz
theorem jNest_warm {w : Cond} {s U : State} (h : jNestB w = true) (hW : s.WarmedH U.vm) (hz : va_Nw w s) : va_Nw w U := by
  cases w
  case arrayOver ty =>
    cases ty <;> first | exact jNest_over hW hz | (simp [jNestB] at h)
  all_goals first | exact va_Nw.warmF hW hz | exact va_Nw.warmM hW hz | exact jNest_cast hW hz | exact jNest_decl hW hz | (simp [jNestB] at h)
theorem jnest {w : Cond} (h : w ∈ tables_1) (g : jNestB w = true) : w ∈ jNest := List.mem_filter.mpr ⟨h, g⟩
def jTx : List String := ["columns", "row", "number", "word", "or", "to", "not", "blank", "up", "down", "hide"]
def jSl : List Nat := [7, 3, 6, 4, 2, 2, 3, 5, 2, 4, 4]
def jSb : List (List Int32) := [[99, 111, 108, 117, 109, 110, 115], [114, 111, 119], [110, 117, 109, 98, 101, 114], [119, 111, 114, 100], [111, 114], [116, 111], [110, 111, 116], [98, 108, 97, 110, 107], [117, 112], [100, 111, 119, 110], [104, 105, 100, 101]]
def jBg (l : Launch) (Z : jE) (A : Nat → Prop) (s : State) (st : List (String × Nat × String × Nat)) : Prop :=
  (∀ w ∈ jNest, va_Nw w s) ∧ (∀ q ∈ st, vk_R q.1 q.2.1 q.2.2.1 (jsK Z q.2.2.2) s) ∧ vk_S 11 jSl jSb (jsK Z) (jsV Z) A s s.heap ∧
  vx_Zq Bundle.tN "UNASSIGNED_STACK" Bundle.steD A s s.heap ∧ vx_Zq Bundle.tN "SUPPRESSED_SENTINEL" Bundle.listD A s s.heap ∧
  va_Z "java/lang/String" "COMPACT_STRINGS" "Z" (.int 1) A s s.heap ∧ va_Zq "jdk/internal/util/Preconditions" "SIOOBE_FORMATTER" "Ljava/util/function/BiFunction;" A s s.heap ∧ l.stackTraces = false
theorem jBg.to {l : Launch} {Z : jE} {A B : Nat → Prop} {s U : State} {H : Heap} {locs : List Loc} {st : List (String × Nat × String × Nat)} (h : jBg l Z A s st) (hS : va_S A s.heap H locs) (hU : U.heap = H) (hW : s.WarmedH U.vm) (hBA : ∀ q, B q → A q) : jBg l Z B U st := by
  obtain ⟨h1, h2, h3, h4, h5, h6, h7, h8⟩ := h
  refine ⟨fun w hw => jNest_warm (List.mem_filter.mp hw).2 hW (h1 w hw), fun q hq => vk_R.warm hW (h2 q hq), ?_, ?_, ?_, ?_, ?_, h8⟩
  · rw [hU]; exact vk_S.moved hW.alike ((h3.kept hS.2.1).narrow hBA)
  · rw [hU]; exact vx_Zq.moved hW.alike ((h4.kept hS.2.1).narrow hBA)
  · rw [hU]; exact vx_Zq.moved hW.alike ((h5.kept hS.2.1).narrow hBA)
  · rw [hU]; exact va_Z.moved hW.alike ((h6.kept hS.2.1).narrow hBA)
  · rw [hU]; exact va_Zq.moved hW.alike ((h7.kept hS.2.1).narrow hBA)
def jStr : List (String × Nat × String × Nat) := (tables_1.filterMap (fun w => match w with
  | .stringRef own k tx => some (own, k, tx, (jTx.findIdx? (· == tx)).getD 0)
  | _ => none))
-- CONTRACTS
def jW (y : MethodName) (bytes : ByteArray) (maxL : Nat) (ret : Option FieldType) : List Cond := Cond.code y bytes maxL ret :: jTB
def jPre (l : Launch) (Z : jE) (n : Nat) (C : jC) (U : State) : Prop := va_P Z.1 jcl (jws Z n C) U.heap ∧ va_K Z.1 jcl (jtys Z) U ∧ va_D (fun _ => True) (jws Z n C) ∧ jBg l Z (jA Z n U.heap.size) U jStr
abbrev jPc (l : Launch) (Z : jE) (n : Nat) (C : jC) (avs : List Value) (sz : Nat) : Array Value → State → Prop := va_Pc avs (fun U => U.heap.size = sz ∧ jPre l Z n C U)
def jB (Z : jE) (n : Nat) (C : jC) (t : State) : Prop := va_P Z.1 jcl (jws Z n C) t.heap
abbrev jQi (Z : jE) (n : Nat) (sz : Nat) (post : Int → jC → Prop) : Array Value → State → Outcome → State → Prop := va_Qi (fun r (u : Int × jC) => r = Int32.ofInt u.1 ∧ jRng u.1 ∧ jWF n u.2 ∧ post u.1 u.2) (fun u t => jB Z n u.2 t) (jA Z n sz)
abbrev jQv (Z : jE) (n : Nat) (sz : Nat) (post : jC → Prop) : Array Value → State → Outcome → State → Prop := va_Qv (fun (u : jC) => jWF n u ∧ post u) (fun u t => jB Z n u t) (jA Z n sz)
abbrev jQr (Z : jE) (n : Nat) (sz : Nat) (post : Int → jC → Prop) : Array Value → State → Outcome → State → Prop := va_Qq (fun r (u : Int × jC) => r = jo Z u.1 ∧ jWF n u.2 ∧ post u.1 u.2) (fun u t => jB Z n u.2 t) (jA Z n sz)
abbrev jXC (Z : jE) (n : Nat) (sz : Nat) (ex : String → jC → Prop) : String → State → State → Prop := vx_X (fun (_ : jC) => True) (fun E u t => (jWF n u ∧ ex E u) ∧ jB Z n u t) (jA Z n sz)
/-- a method that returns an int (a boolean): its contract -/
def jCi (l : Launch) (y : MethodName) (bytes : ByteArray) (maxL : Nat) (rt : FieldType) (rm : Room) (Z : jE) (n : Nat) (C : jC) (avs : List Value) (post : Int → jC → Prop) : Prop :=
  ∀ sz, Met l y (jW y bytes maxL (some rt)) rm (jPc l Z n C avs sz) (jQi Z n sz post) rm.cells rm.slots (jA Z n sz)
def jCv (l : Launch) (y : MethodName) (bytes : ByteArray) (maxL : Nat) (rm : Room) (Z : jE) (n : Nat) (C : jC) (avs : List Value) (post : jC → Prop) : Prop :=
  ∀ sz, Met l y (jW y bytes maxL none) rm (jPc l Z n C avs sz) (jQv Z n sz post) rm.cells rm.slots (jA Z n sz)
def jCr (l : Launch) (y : MethodName) (bytes : ByteArray) (maxL : Nat) (rt : FieldType) (rm : Room) (Z : jE) (n : Nat) (C : jC) (avs : List Value) (post : Int → jC → Prop) : Prop :=
  ∀ sz, Met l y (jW y bytes maxL (some rt)) rm (jPc l Z n C avs sz) (jQr Z n sz post) rm.cells rm.slots (jA Z n sz)
def jXi (l : Launch) (y : MethodName) (bytes : ByteArray) (maxL : Nat) (rt : FieldType) (rm : Room) (Z : jE) (n : Nat) (C : jC) (avs : List Value) (ex : String → jC → Prop) (post : Int → jC → Prop) : Prop :=
  ∀ sz, vx_Met l y (jW y bytes maxL (some rt)) rm (jPc l Z n C avs sz) (jQi Z n sz post) (jXC Z n sz ex) rm.cells rm.slots (jA Z n sz)
def jXv (l : Launch) (y : MethodName) (bytes : ByteArray) (maxL : Nat) (rm : Room) (Z : jE) (n : Nat) (C : jC) (avs : List Value) (ex : String → jC → Prop) (post : jC → Prop) : Prop :=
  ∀ sz, vx_Met l y (jW y bytes maxL none) rm (jPc l Z n C avs sz) (jQv Z n sz post) (jXC Z n sz ex) rm.cells rm.slots (jA Z n sz)
def jXr (l : Launch) (y : MethodName) (bytes : ByteArray) (maxL : Nat) (rt : FieldType) (rm : Room) (Z : jE) (n : Nat) (C : jC) (avs : List Value) (ex : String → jC → Prop) (post : Int → jC → Prop) : Prop :=
  ∀ sz, vx_Met l y (jW y bytes maxL (some rt)) rm (jPc l Z n C avs sz) (jQr Z n sz post) (jXC Z n sz ex) rm.cells rm.slots (jA Z n sz)
theorem jPc_blind {l : Launch} {Z : jE} {n : Nat} {C : jC} {avs : List Value} {sz : Nat} : FrameBlind (jPc l Z n C avs sz) := by
  intro a U g mk h
  obtain ⟨h1, h2, hP, hK, hD, hB⟩ := h
  refine ⟨h1, h2, hP, va_K.moved (u := U) (U := U.calling g mk a) (Vm.Alike.refl U.vm) hK, hD, ?_⟩
  exact hB.to (U := U.calling g mk a) (va_S.rf (A := jA Z n U.heap.size)) rfl (State.WarmedH.refl U) (fun _ h => h)
theorem jgood {y : MethodName} {bytes : ByteArray} {maxL : Nat} {ret : Option FieldType} (h : Cond.code y bytes maxL ret ∈ jTB) : GoodIn jTB (jW y bytes maxL ret) := by
  intro w hw
  rcases List.mem_cons.mp hw with rfl | hw
  · exact ⟨h, good_of_word (List.mem_filter.mp h).2⟩
  · exact ⟨hw, good_of_word (List.mem_filter.mp hw).2⟩
-- THE WALK: the machine at a frame, over a world
section JG
variable {p : Program} {l : Launch} {e : Env} {R : Room} {s : State} {m : MethodId} {args : Array Value} {below : List Frame} {meth : Method} {c : Code} {cc : ByteArray} {own : String} {nL : Nat} {Z : jE} {A : Nat → Prop} {cells slots : Nat} {Q : State → Prop} {pc n : Nat} {lv : List (Nat × Value)} {st : List Value} {ws : va_W} {C : jC}
def jX (p : Program) (l : Launch) (s : State) (m : MethodId) (args : Array Value) (c : Code) (cc : ByteArray) (own : String) (nL : Nat) (Z : jE) (A : Nat → Prop) : Prop :=
  p.tables.exec = Jvm.exec ∧ c.code = cc ∧ c.maxLocals = nL ∧ s.vm.findClass own = some m.cls ∧ (∀ w ∈ jTB, w.before args s = true) ∧ va_K Z.1 jcl (jtys Z) s ∧ (∀ q, s.heap.size ≤ q → A q) ∧ jBg l Z A s jStr
def jG (p : Program) (l : Launch) (e : Env) (R : Room) (s : State) (m : MethodId) (args : Array Value) (below : List Frame) (meth : Method) (c : Code) (nL : Nat) (Z : jE) (A : Nat → Prop) (ws : va_W) (cells slots : Nat) (Q : State → Prop) (pc : Nat) (lv : List (Nat × Value)) (st : List Value) : Prop :=
  ∀ (H : Heap) (locs : List Loc) (ls : Array Slot), va_P Z.1 jcl ws H → va_D A ws → va_S A s.heap H locs → lv_has ls nL lv → W p l e R s m args below meth c H locs cells slots Q (F0 m pc ls st)
end JG

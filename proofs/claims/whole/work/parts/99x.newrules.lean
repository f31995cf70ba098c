-- rules for what is made
theorem kv_34 : Cond.instanceMethod Lib.objectInit ∈ jTB := jtb (List.mem_of_getElem? (i := 34) (by decide +kernel)) (by decide +kernel)
theorem kv_35 : Cond.code Lib.objectInit { data := #[177] } 1 none ∈ jTB := jtb (List.mem_of_getElem? (i := 35) (by decide +kernel)) (by decide +kernel)
theorem kv_69 : Cond.arrayClass .int ∈ jTB := jtb (List.mem_of_getElem? (i := 69) (by decide +kernel)) (by decide +kernel)
theorem kv_677 : Cond.arrayClass .byte ∈ jTB := jtb (List.mem_of_getElem? (i := 677) (by decide +kernel)) (by decide +kernel)
theorem kv_2048 : Cond.arrayClass .long ∈ jTB := jtb (List.mem_of_getElem? (i := 2048) (by decide +kernel)) (by decide +kernel)
/-- a constructor's contract: from the bare object to the segment of the picture -/
def jN (l : Launch) (y : MethodName) (bytes : ByteArray) (maxL : Nat) (rm : Room) (Z : jE) (C : jC) (B : Nat) (L : List Nat) (ci : Nat) (fs : List Value) : Prop :=
  ∀ (h0 sz : Nat), Met l y (jW y bytes maxL none) rm (va_Pc [.ref h0] (fun U => U.heap.size = sz ∧ va_P Z.1 jcl [(h0, .inr (ci, fs))] U.heap ∧ va_K Z.1 jcl (jtys Z) U ∧ va_D (fun _ => True) [(h0, .inr (ci, fs))] ∧ jBg l Z (va_A [(h0, .inr (ci, fs))] sz) U jStr)) (va_Qv (fun ad : Nat → Nat => ad B = h0) (fun ad t => va_P Z.1 jcl (jSg Z ad C B L) t.heap ∧ va_D (va_A [(h0, .inr (ci, fs))] sz) (jSg Z ad C B L)) (va_A [(h0, .inr (ci, fs))] sz)) rm.cells rm.slots (va_A [(h0, .inr (ci, fs))] sz)
section JNEW
variable {p : Program} {l : Launch} {e : Env} {R : Room} {s : State} {m : MethodId} {args : Array Value} {below : List Frame} {meth : Method} {c : Code} {cc : ByteArray} {own : String} {nL : Nat} {Z : jE} {A : Nat → Prop} {cells slots : Nat} {Q : State → Prop} {pc : Nat} {lv : List (Nat × Value)} {st : List Value} {ws : va_W} {C : jC}
variable {y : MethodName} {bytes : ByteArray} {maxL idx ix : Nat} {rm : Room}
theorem jg_objInit {a : Nat} (X : jX p l s m args c cc own nL Z A) (hlink : Cond.methodLink own idx Lib.objectInit ∈ jTB) (hd : decode cc pc = .ok (.invokespecial idx, 3)) (hR : 1 ≤ R.frames ∧ (st.map fun v => v.category).sum + 12 ≤ R.locals) (kk : jG p l e R s m args below meth c nL Z A ws cells slots Q (pc + 3) lv st) : jG p l e R s m args below meth c nL Z A ws cells slots Q pc lv (.ref a :: st) := by
  intro H locs ls hP hD hS hl
  refine W.objInit X.1 X.2.1 X.2.2.2.1 (X.2.2.2.2.1 _ hlink) (X.2.2.2.2.1 _ kv_34) (X.2.2.2.2.1 _ kv_35) rfl (hl.1.trans X.2.2.1.symm) rfl hd hR.1 (by show 2 * 0 + _ + 12 ≤ _; omega) ?_
  exact W.eq (g2 := F0 m (pc + 3) ls st) rfl (kk H locs ls hP hD hS hl)
theorem jcls (X : jX p l s m args c cc own nL Z A) {k : Nat} {cA cB : ClassId} {ty : FieldType} (hk : (jtys Z)[k]? = some (cB, ty)) (h1 : va_RA s cA ty) (h2 : ty = .int ∨ ty = .byte ∨ ty = .long) : cA = cB := by
  have h3 := (X.2.2.2.2.2.1.2 k _ hk).2
  rcases h2 with rfl | rfl | rfl
  · have h1 : s.vm.findClass _ = some cA := h1
    have h3 : s.vm.findClass _ = some cB := h3
    exact Option.some.inj (h1.symm.trans h3)
  · have h1 : s.vm.findClass _ = some cA := h1
    have h3 : s.vm.findClass _ = some cB := h3
    exact Option.some.inj (h1.symm.trans h3)
  · have h1 : s.vm.findClass _ = some cA := h1
    have h3 : s.vm.findClass _ = some cB := h3
    exact Option.some.inj (h1.symm.trans h3)
theorem jclsO (X : jX p l s m args c cc own nL Z A) {k : Nat} {cA cB : ClassId} {o : String} (hk : (jtys Z)[k]? = some (cB, .object o)) (h1 : va_RA s cA (.object o)) : cA = cB := by
  obtain ⟨-, -, -, -, -, h3⟩ := (X.2.2.2.2.2.1.2 k _ hk).2
  obtain ⟨-, -, -, -, -, h1⟩ := h1
  exact Option.some.inj (h1.symm.trans h3)
theorem jlast {α : Type} {w : List α} {x : α} : (w ++ [x])[w.length]? = some x := by simp
theorem jg_newi {N : Nat} (X : jX p l s m args c cc own nL Z A) (hN : N < 100000) (hd : decode cc pc = .ok (.newarray .int, 2)) (hC : cells + 1 ≤ R.cells ∧ slots + N ≤ R.slots)
    (kk : ∀ q, jG p l e R s m args below meth c nL Z A (ws ++ [(q, jarr Z N (fun _ => 0))]) (cells + 1) (slots + N) Q (pc + 2) lv (.ref q :: st)) : jG p l e R s m args below meth c nL Z A ws cells slots Q pc lv (jI N :: st) := by
  intro H locs ls hP hD hS hl
  refine va_newa (atype := .int) (ty := .int) (N' := N) (a0 := (N, .inl (fun _ => Int32.ofInt 0))) X.1 X.2.1 (X.2.2.2.2.1 _ kv_69) rfl X.2.2.2.2.2.1 hP hD hS X.2.2.2.2.2.2.1 (fun cA => rfl) ?_ ?_ ?_ hC.1 hC.2 hd (fun q cA H1 hK1 hP1 hD1 hS1 => ?_)
  · have h0 : Int32.ofInt 0 = 0 := rfl
    rw [← h0, ji_lt ⟨by omega, by omega⟩ ji_0]; omega
  · rw [ji_clamp (by omega) (by omega)]; omega
  · show N * 4 ≤ 536870912; omega
  · obtain rfl := jcls X (k := 0) rfl (hK1.2 (jtys Z).length _ jlast).2 (Or.inl rfl)
    exact kk q H1 locs ls hP1 hD1 hS1 hl
theorem jg_newb {N : Nat} (X : jX p l s m args c cc own nL Z A) (hN : N < 100000) (hd : decode cc pc = .ok (.newarray .byte, 2)) (hC : cells + 1 ≤ R.cells ∧ slots + N ≤ R.slots)
    (kk : ∀ q, jG p l e R s m args below meth c nL Z A (ws ++ [(q, .inl (Z.2.1 1, N, .inl (fun _ => Int32.ofInt 0)))]) (cells + 1) (slots + N) Q (pc + 2) lv (.ref q :: st)) : jG p l e R s m args below meth c nL Z A ws cells slots Q pc lv (jI N :: st) := by
  intro H locs ls hP hD hS hl
  refine va_newa (atype := .byte) (ty := .byte) (N' := N) (a0 := (N, .inl (fun _ => Int32.ofInt 0))) X.1 X.2.1 (X.2.2.2.2.1 _ kv_677) rfl X.2.2.2.2.2.1 hP hD hS X.2.2.2.2.2.2.1 (fun cA => rfl) ?_ ?_ ?_ hC.1 hC.2 hd (fun q cA H1 hK1 hP1 hD1 hS1 => ?_)
  · have h0 : Int32.ofInt 0 = 0 := rfl
    rw [← h0, ji_lt ⟨by omega, by omega⟩ ji_0]; omega
  · rw [ji_clamp (by omega) (by omega)]; omega
  · show N * 1 ≤ 536870912; omega
  · obtain rfl := jcls X (k := 1) rfl (hK1.2 (jtys Z).length _ jlast).2 (Or.inr (Or.inl rfl))
    exact kk q H1 locs ls hP1 hD1 hS1 hl
theorem jg_newl {N : Nat} (X : jX p l s m args c cc own nL Z A) (hN : N < 100000) (hd : decode cc pc = .ok (.newarray .long, 2)) (hC : cells + 1 ≤ R.cells ∧ slots + N ≤ R.slots)
    (kk : ∀ q, jG p l e R s m args below meth c nL Z A (ws ++ [(q, .inl (Z.2.1 2, N, .inr (.inl (fun _ => Int64.ofInt 0))))]) (cells + 1) (slots + N) Q (pc + 2) lv (.ref q :: st)) : jG p l e R s m args below meth c nL Z A ws cells slots Q pc lv (jI N :: st) := by
  intro H locs ls hP hD hS hl
  refine va_newa (atype := .long) (ty := .long) (N' := N) (a0 := (N, .inr (.inl (fun _ => Int64.ofInt 0)))) X.1 X.2.1 (X.2.2.2.2.1 _ kv_2048) rfl X.2.2.2.2.2.1 hP hD hS X.2.2.2.2.2.2.1 (fun cA => rfl) ?_ ?_ ?_ hC.1 hC.2 hd (fun q cA H1 hK1 hP1 hD1 hS1 => ?_)
  · have h0 : Int32.ofInt 0 = 0 := rfl
    rw [← h0, ji_lt ⟨by omega, by omega⟩ ji_0]; omega
  · rw [ji_clamp (by omega) (by omega)]; omega
  · show N * 8 ≤ 536870912; omega
  · obtain rfl := jcls X (k := 2) rfl (hK1.2 (jtys Z).length _ jlast).2 (Or.inr (Or.inr rfl))
    exact kk q H1 locs ls hP1 hD1 hS1 hl
theorem jg_newq {N k : Nat} {o : String} {cB : ClassId} (X : jX p l s m args c cc own nL Z A) (hk : (jtys Z)[k]? = some (cB, .object o)) (hN : N < 100000) (hlink : Cond.classLink own idx o ∈ jTB) (hov : Cond.arrayOver (.object o) ∈ jNest) (hd : decode cc pc = .ok (.anewarray idx, 3)) (hC : cells + 1 ≤ R.cells ∧ slots + N ≤ R.slots)
    (kk : ∀ q, jG p l e R s m args below meth c nL Z A (ws ++ [(q, .inl (cB, N, .inr (.inr (.inr (.inr (fun _ => none))))))]) (cells + 1) (slots + N) Q (pc + 3) lv (.ref q :: st)) : jG p l e R s m args below meth c nL Z A ws cells slots Q pc lv (jI N :: st) := by
  intro H locs ls hP hD hS hl
  refine va_newq (C := o) (N' := N) X.1 X.2.1 X.2.2.2.1 (X.2.2.2.2.1 _ hlink) (X.2.2.2.2.2.2.2.1 _ hov) X.2.2.2.2.2.1 hP hD hS X.2.2.2.2.2.2.1 ?_ ?_ (by omega) hC.1 hC.2 hd (fun q cA H1 hK1 hP1 hD1 hS1 => ?_)
  · have h0 : Int32.ofInt 0 = 0 := rfl
    rw [← h0, ji_lt ⟨by omega, by omega⟩ ji_0]; omega
  · rw [ji_clamp (by omega) (by omega)]; omega
  · obtain rfl := jclsO X hk (hK1.2 (jtys Z).length _ jlast).2
    exact kk q H1 locs ls hP1 hD1 hS1 hl
theorem jg_putF {a ci N : Nat} {fs : List Value} {T : u_T} {Cn : String} {v : Value} {ty : FieldType} {ty0 : Nat → FieldType} (X : jX p l s m args c cc own nL Z A) (hi : meth.name = "<init>") (q0 k : Nat) (he : ws[q0]? = some (a, .inr (ci, fs))) (hcl : jcl[ci]? = some (Cn, T, N)) (hin : ∀ w ∈ u_ws Cn T N, w ∈ jTB) (hty : ∀ k, k < N → parseFieldDescriptor (T k).2.2.1 = some (ty0 k)) (hnm : ∀ a, a < N → ∀ b, b < N → a ≠ b → (T a).2.1 ≠ (T b).2.1) (hk : k < N) (hT : (T k).1 = Cn) (ho : Cn = own) (hfin : (T k).2.2.2 = true) (hty1 : ty0 k = ty) (hn : narrow ty v = v) (hfit : fits ty v = true) (hlen : k < fs.length) (hlink : Cond.fieldLink own idx Cn (T k).2.1 (T k).2.2.1 ∈ jTB) (hd : decode cc pc = .ok (.putfield idx, 3)) (kk : jG p l e R s m args below meth c nL Z A (ws.set q0 (a, .inr (ci, fs.set k v))) cells slots Q (pc + 3) lv st) : jG p l e R s m args below meth c nL Z A ws cells slots Q pc lv (v :: .ref a :: st) := by
  intro H locs ls hP hD hS hl
  exact va_putF X.1 X.2.1 X.2.2.2.2.1 hin ty0 hty hnm X.2.2.2.1 X.2.2.2.2.2.1 hP hD hS q0 he hcl k hk (X.2.2.2.2.1 _ hlink) (by rw [hT]; exact fun _ h => h) hfin hi (hT.trans ho) (hty k hk) (by rw [hty1]; exact hn) (by rw [hty1]; exact hfit) hlen hd (fun H locs hP hD hS => kk H locs ls hP hD hS hl)
theorem jg_putP {a ci N : Nat} {fs : List Value} {T : u_T} {Cn : String} {v : Value} {ty : FieldType} {ty0 : Nat → FieldType} (X : jX p l s m args c cc own nL Z A) (q0 k : Nat) (he : ws[q0]? = some (a, .inr (ci, fs))) (hcl : jcl[ci]? = some (Cn, T, N)) (hin : ∀ w ∈ u_ws Cn T N, w ∈ jTB) (hty : ∀ k, k < N → parseFieldDescriptor (T k).2.2.1 = some (ty0 k)) (hnm : ∀ a, a < N → ∀ b, b < N → a ≠ b → (T a).2.1 ≠ (T b).2.1) (hk : k < N) (hT : (T k).1 = Cn) (hfin : (T k).2.2.2 = false) (hty1 : ty0 k = ty) (hn : narrow ty v = v) (hfit : fits ty v = true) (hlen : k < fs.length) (hlink : Cond.fieldLink own idx Cn (T k).2.1 (T k).2.2.1 ∈ jTB) (hd : decode cc pc = .ok (.putfield idx, 3)) (kk : jG p l e R s m args below meth c nL Z A (ws.set q0 (a, .inr (ci, fs.set k v))) cells slots Q (pc + 3) lv st) : jG p l e R s m args below meth c nL Z A ws cells slots Q pc lv (v :: .ref a :: st) := by
  intro H locs ls hP hD hS hl
  exact va_put X.1 X.2.1 X.2.2.2.2.1 hin ty0 hty hnm X.2.2.2.1 X.2.2.2.2.2.1 hP hD hS q0 he hcl k hk (X.2.2.2.2.1 _ hlink) (by rw [hT]; exact fun _ h => h) hfin (hty k hk) (by rw [hty1]; exact hn) (by rw [hty1]; exact hfit) hlen hd (fun H locs hP hD hS => kk H locs ls hP hD hS hl)
theorem jg_getP {a ci N : Nat} {fs : List Value} {T : u_T} {Cn : String} {v : Value} (X : jX p l s m args c cc own nL Z A) (q0 k : Nat) (he : ws[q0]? = some (a, .inr (ci, fs))) (hcl : jcl[ci]? = some (Cn, T, N)) (hin : ∀ w ∈ u_ws Cn T N, w ∈ jTB) (hk : k < N) (hv : fs[k]? = some v) (hT : (T k).1 = Cn) (hlink : Cond.fieldLink own idx Cn (T k).2.1 (T k).2.2.1 ∈ jTB) (hd : decode cc pc = .ok (.getfield idx, 3)) (kk : jG p l e R s m args below meth c nL Z A ws cells slots Q (pc + 3) lv (v :: st)) : jG p l e R s m args below meth c nL Z A ws cells slots Q pc lv (.ref a :: st) := by
  intro H locs ls hP hD hS hl
  exact va_get X.1 X.2.1 X.2.2.2.2.1 hin X.2.2.2.1 X.2.2.2.2.2.1 hP q0 he hcl k hk (X.2.2.2.2.1 _ hlink) (by rw [hT]; exact fun _ h => h) hv hd (kk H locs ls hP hD hS hl)
theorem jg_aastP {a v ci N : Nat} {cB : ClassId} {r : vw_C} {vs : List Value} {f : Nat → Option Nat} {i : Int} (X : jX p l s m args c cc own nL Z A) (q0 t0 qk : Nat) (he : ws[q0]? = some (a, .inl (cB, N, .inr (.inr (.inr (.inr f)))))) (ht : (jtys Z)[t0]? = some (cB, .object r.1)) (hv : ws[qk]? = some (v, .inr (ci, vs))) (hci : jcl[ci]? = some r) (h0 : 0 ≤ i) (h1 : i < N) (hN : N < 100000) (hd : decode cc pc = .ok (.aastore, 1)) (kk : jG p l e R s m args below meth c nL Z A (ws.set q0 (a, .inl (cB, N, .inr (.inr (.inr (.inr (va_up f i.toNat (some v)))))))) cells slots Q (pc + 1) lv st) : jG p l e R s m args below meth c nL Z A ws cells slots Q pc lv (.ref v :: jI i :: .ref a :: st) := by
  intro H locs ls hP hD hS hl
  refine va_astq X.1 X.2.1 X.2.2.2.2.2.1 hP hD hS q0 t0 qk ci he ht hv hci (ji_in h0 h1 (by omega)) hd (fun H locs hP hD hS => ?_)
  rw [ji_clamp h0 (by omega)] at hP hD
  exact kk H locs ls hP hD hS hl
theorem jg_iastP {a N : Nat} {f : Nat → Int32} {i x : Int} (X : jX p l s m args c cc own nL Z A) (q0 : Nat) (he : ws[q0]? = some (a, .inl (Z.2.1 0, N, .inl f))) (h0 : 0 ≤ i) (h1 : i < N) (hN : N < 100000) (hd : decode cc pc = .ok (.iastore, 1)) (kk : jG p l e R s m args below meth c nL Z A (ws.set q0 (a, .inl (Z.2.1 0, N, .inl (upd f i.toNat (Int32.ofInt x))))) cells slots Q (pc + 1) lv st) : jG p l e R s m args below meth c nL Z A ws cells slots Q pc lv (jI x :: jI i :: .ref a :: st) := by
  intro H locs ls hP hD hS hl
  refine va_iast X.1 X.2.1 X.2.2.2.2.2.1 hP hD hS q0 0 he rfl (ji_in h0 h1 (by omega)) hd (fun H locs hP hD hS => ?_)
  rw [ji_clamp h0 (by omega)] at hP hD
  exact kk H locs ls hP hD hS hl
/-- new, dup, invokespecial: an object with all that its constructor makes -/
theorem jg_newI {ci N B : Nat} {fs : List Value} {T : u_T} {Cn : String} {ty : Nat → FieldType} {LX : List Nat} (X : jX p l s m args c cc own nL Z A) (hM : jN l y bytes maxL rm Z C B LX ci fs) (hcl : jcl[ci]? = some (Cn, T, N)) (hin : ∀ w ∈ u_ws Cn T N, w ∈ jTB) (hty : ∀ k, k < N → parseFieldDescriptor (T k).2.2.1 = some (ty k)) (hfs : ∀ j, j < N → defaultValue (ty j) = vp_V fs j) (hk : Cond.classLink own idx Cn ∈ jTB) (hinst : Cond.instantiable Cn N ∈ jTB) (hini : Cond.initialized Cn ∈ jTB) (hyc : y.cls = Cn) (hyn : y.name = "<init>") (him : Cond.instanceMethod y ∈ jTB) (hcode : Cond.code y bytes maxL none ∈ jTB) (hdc : y.cls ≠ "java/lang/invoke/MethodHandle" ∧ y.cls ≠ "java/lang/invoke/VarHandle" ∧ (parseMethodDescriptor y.desc).map (fun d => d.parameters.length) = some 0) (hlink : Cond.methodLink own ix y ∈ jTB ∨ Cond.methodLinkNest own ix y "PrivateViews" ∈ jNest)
    (d0 : decode cc pc = .ok (.new idx, 3)) (d3 : decode cc (pc + 3) = .ok (.dup, 1)) (d4 : decode cc (pc + 4) = .ok (.invokespecial ix, 3)) (hR : rm.frames + 1 ≤ R.frames ∧ 8 + (maxL + 11) + rm.locals ≤ R.locals) (hcat : (st.map fun v => v.category).sum + 1 ≤ 8) (hC : cells + 1 + rm.cells ≤ R.cells ∧ slots + N + rm.slots ≤ R.slots)
    (kk : ∀ adX : Nat → Nat, jG p l e R s m args below meth c nL Z A (ws ++ jSg Z adX C B LX) (cells + 1 + rm.cells) (slots + N + rm.slots) Q (pc + 7) lv (.ref (adX B) :: st)) : jG p l e R s m args below meth c nL Z A ws cells slots Q pc lv st := by
  intro H locs ls hP hD hS hl
  refine va_new (ci := ci) (fs := fs) (C := Cn) (T := T) (N := N) X.1 X.2.1 X.2.2.2.2.1 hin ty hty X.2.2.2.1 (X.2.2.2.2.1 _ hk) (X.2.2.2.2.1 _ hinst) (X.2.2.2.2.1 _ hini) X.2.2.2.2.2.1 hP hD hS X.2.2.2.2.2.2.1 hcl hfs (by omega) (by omega) d0 (fun q H1 hP1 hD1 hS1 => ?_)
  refine lv_dup X.1 X.2.1 d3 rfl ?_
  have hPc := (va_P_app hP1).2
  have hDc : va_D (fun _ => True) [(q, (.inr (ci, fs) : va_E))] := by
    refine ⟨fun i j x y hi hj _ => ?_, fun _ _ _ => trivial⟩
    have h1 := (List.getElem?_eq_some_iff.mp hi).1
    have h2 := (List.getElem?_eq_some_iff.mp hj).1
    simp only [List.length_cons, List.length_nil] at h1 h2
    omega
  have hF : ∀ x, va_A [(q, (.inr (ci, fs) : va_E))] H1.size x → A x := by
    intro x hx
    rcases hx with ⟨k, e, h⟩ | h
    · have h2 := (List.getElem?_eq_some_iff.mp h).1
      simp only [List.length_cons, List.length_nil] at h2
      have hk0 : k = 0 := by omega
      subst hk0
      have h : (q, (.inr (ci, fs) : va_E)) = (x, e) := Option.some.inj h
      have hx : q = x := congrArg Prod.fst h
      rw [← hx]
      exact hD1.2 ws.length _ jlast
    · exact X.2.2.2.2.2.2.1 x (Nat.le_trans hS1.1 h)
  have hpre : PreS s H1 (va_Pc [.ref q] (fun U => U.heap.size = H1.size ∧ va_P Z.1 jcl [(q, .inr (ci, fs))] U.heap ∧ va_K Z.1 jcl (jtys Z) U ∧ va_D (fun _ => True) [(q, .inr (ci, fs))] ∧ jBg l Z (va_A [(q, .inr (ci, fs))] H1.size) U jStr)) (.ref q :: []) := by
    refine ⟨fun a U g mk h => ?_, fun U hU hW => ⟨rfl, by rw [hU], by rw [hU]; exact hPc, va_K.moved hW.alike X.2.2.2.2.2.1, hDc, X.2.2.2.2.2.2.2.to hS1 hU hW hF⟩⟩
    obtain ⟨h1, h2, h3, h4, h5, h6⟩ := h
    refine ⟨h1, h2, h3, va_K.moved (u := U) (U := U.calling g mk a) (Vm.Alike.refl U.vm) h4, h5, ?_⟩
    have := h6.to (U := U.calling g mk a) (H := U.heap) (va_S.rf (A := va_A [(q, .inr (ci, fs))] H1.size)) rfl (State.WarmedH.refl U) (fun _ h => h)
    exact this
  have hini' : Cond.initialized y.cls ∈ jTB := by rw [hyc]; exact hini
  have fin : va_Run p l e R s m args below meth c H1 locs (cells + 1) (slots + N) rm.cells rm.slots (F0 m (pc + 3 + 1) ls (.ref q :: .ref q :: st)) (.ref q :: st) (va_Qv (fun ad : Nat → Nat => ad B = q) (fun ad t => va_P Z.1 jcl (jSg Z ad C B LX) t.heap ∧ va_D (va_A [(q, .inr (ci, fs))] H1.size) (jSg Z ad C B LX)) (va_A [(q, .inr (ci, fs))] H1.size) [Value.ref q].toArray) (va_A [(q, .inr (ci, fs))] H1.size) := by
    have hcat' : ((Value.ref q :: st).map fun v => v.category).sum ≤ 8 := by
      show Value.category (Value.ref q) + (st.map fun v => v.category).sum ≤ 8
      have : Value.category (Value.ref q) = 1 := rfl
      omega
    rcases hlink with hlink | hlink
    · exact va_runI (As := []) (rest := .ref q :: st) ⟨X.1, X.2.1, X.2.2.1, X.2.2.2.1, X.2.2.2.2.1⟩ (hM q H1.size) ⟨callB_of 0 X.2.2.2.2.1 (jgood hcode) rfl rfl rfl (X.2.2.2.2.1 _ hini') (X.2.2.2.2.1 _ hlink) hdc hR, hyn, X.2.2.2.2.1 _ him⟩ hpre rfl rfl hl.1 rfl (lv_room hcat') d4 hC
    · exact va_runIN (As := []) (rest := .ref q :: st) ⟨X.1, X.2.1, X.2.2.1, X.2.2.2.1, X.2.2.2.2.1⟩ (hM q H1.size) ⟨va_cnB 0 X.2.2.2.2.1 (jgood hcode) rfl rfl rfl (X.2.2.2.2.2.2.2.1 _ hlink) (X.2.2.2.2.1 _ hini') hdc hR, hyn, X.2.2.2.2.1 _ him⟩ hpre rfl rfl hl.1 rfl (lv_room hcat') d4 hC
  refine va_callv fin hS1 (fun x _ h => hF x h) hF (fun ad t H2 locs2 ht hvm hw hB hz hk hS2 => ?_)
  obtain ⟨hB1, hB2⟩ := hB
  rw [ht] at hB1
  obtain ⟨p', d'⟩ := va_joinL hP1 hD1 hk hF hB1 hB2
  have hw : ad B = q := hw
  have := kk ad H2 locs2 ls p' d' hS2 hl
  rw [hw] at this
  exact this
theorem jN_of {B ci : Nat} {L : List Nat} {fs : List Value} (hy : plainName y.cls = true) (hyn : y.name = "<init>") (h1 : 1 ≤ maxL)
    (body : ∀ (p : Program) (e : Env) (s : State) (m : MethodId) (args : Array Value) (below : List Frame) (meth : Method) (c : Code) (A : Nat → Prop) (h0 sz : Nat), jX p l s m args c bytes y.cls maxL Z A → A = va_A [(h0, .inr (ci, fs))] sz → meth.sig.returnType = none → meth.locks = false → meth.name = "<init>" → jG p l e rm s m args below meth c maxL Z A [(h0, .inr (ci, fs))] 0 0 (MQ below (va_Qv (fun ad : Nat → Nat => ad B = h0) (fun ad t => va_P Z.1 jcl (jSg Z ad C B L) t.heap ∧ va_D (va_A [(h0, .inr (ci, fs))] sz) (jSg Z ad C B L)) (va_A [(h0, .inr (ci, fs))] sz)) args s rm.cells rm.slots (va_A [(h0, .inr (ci, fs))] sz)) 0 [(0, .ref h0)] []) : jN l y bytes maxL rm Z C B L ci fs := by
  intro h0 sz
  refine Met.ofW (cc := bytes) (maxL := maxL) (ret := none) hy rfl ?_
  intro p e s m args below meth c s₁ Bo hml hv
  obtain ⟨rfl, hsz, hP, hK, hD0, hB⟩ := hv
  have hts := atoms_spec (ws := jW y bytes maxL none) Bo.pre
  have X : jX p l s m [Value.ref h0].toArray c bytes y.cls maxL Z (va_A [(h0, .inr (ci, fs))] sz) := ⟨Bo.exec, Bo.bytes, hml, findClass_of_methodNamed Bo.named, fun w hw => hts w (List.mem_cons_of_mem _ hw), hK, fun q hq => Or.inr (by rw [← hsz]; exact hq), hB⟩
  have hl := lv_entry [Value.ref h0] (n := maxL) (by show 1 ≤ maxL; exact h1)
  rw [lg_entry_eq]
  have hin : meth.name = "<init>" := by have := (name_of_methodNamed Bo.named Bo.method).1; rw [this]; exact hyn
  have hD := hD0.self (sz := sz)
  exact body p e s m _ below meth c _ h0 sz X rfl Bo.returns Bo.notSynchronized hin s.heap [] _ hP hD va_S.rf hl
theorem jg_nret {B ci mc ms h0 sz : Nat} {L : List Nat} {fs : List Value} {ad : Nat → Nat} (X : jX p l s m args c cc own nL Z A) (hAe : A = va_A [(h0, .inr (ci, fs))] sz) (hr : meth.sig.returnType = none) (hlocks : meth.locks = false) (hd : decode cc pc = .ok (.return_, 1)) (hc : cells ≤ mc ∧ slots ≤ ms) (hB : ad B = h0) (hw : ws = jSg Z ad C B L) : jG p l e R s m args below meth c nL Z A ws cells slots (MQ below (va_Qv (fun ad : Nat → Nat => ad B = h0) (fun ad t => va_P Z.1 jcl (jSg Z ad C B L) t.heap ∧ va_D (va_A [(h0, .inr (ci, fs))] sz) (jSg Z ad C B L)) (va_A [(h0, .inr (ci, fs))] sz)) args s mc ms (va_A [(h0, .inr (ci, fs))] sz)) pc lv [] := by
  subst hAe
  subst hw
  intro H locs ls hP hD hS hl
  refine W.widen hc.1 hc.2 ?_
  exact W.vret X.1 X.2.1 hr (fun t ht hW => ⟨⟨ad, rfl, hB, by rw [ht]; exact hP, hD⟩, hS.F ht⟩) hS.2.2 hd hlocks
end JNEW

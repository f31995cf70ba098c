-- THE LAW'S OWN RULES: out (its content is a number of the picture's addresses), helpers with handlers
def jZo (Z : jE) (v : Nat) : jE := (Z.1, Z.2.1, Z.2.2.1, Z.2.2.2.1, fun i => if i = 5000 then v else Z.2.2.2.2 i)
theorem jZo_id (Z : jE) : jZo Z (jsV Z 5000) = Z := by
  obtain ⟨a, b, c, d, f⟩ := Z
  show (a, b, c, d, fun i => if i = 5000 then f 5000 else f i) = (a, b, c, d, f)
  have : (fun i => if i = 5000 then f 5000 else f i) = f := by
    funext i
    by_cases h : i = 5000
    · rw [if_pos h, h]
    · rw [if_neg h]
  rw [this]
theorem jcell_o {Z : jE} {v c : Nat} {a : Int} {f : Int → Int} (h : c ≠ 24) : jcell (jZo Z v) c a f = jcell Z c a f := by
  match c, h with
  | 0, _ => rfl
  | 1, _ => rfl
  | 2, _ => rfl
  | 3, _ => rfl
  | 4, _ => rfl
  | 5, _ => rfl
  | 6, _ => rfl
  | 7, _ => rfl
  | 8, _ => rfl
  | 9, _ => rfl
  | 10, _ => rfl
  | 11, _ => rfl
  | 12, _ => rfl
  | 13, _ => rfl
  | 14, _ => rfl
  | 15, _ => rfl
  | 16, _ => rfl
  | 17, _ => rfl
  | 18, _ => rfl
  | 19, _ => rfl
  | 20, _ => rfl
  | 21, _ => rfl
  | 22, _ => rfl
  | 23, _ => rfl
  | 24, h => exact absurd rfl h
  | c + 25, _ => rfl
theorem jK_24 : ∀ i, i < 661 → jK i = 24 → i = 356 := by decide +kernel
theorem jK_356 : jK 356 = 24 := by decide +kernel
theorem jws_o {Z : jE} {n v : Nat} {C : jC} (hn : jOkn n) : jws (jZo Z v) n C = (jws Z n C).set 356 (jad Z 356, .inl (Z.2.1 2, 1, .inr (.inl (fun _ => Int64.ofNat v)))) := by
  have h6 : 356 < n ∧ n ≤ 661 := by rcases hn with rfl | rfl <;> omega
  apply List.ext_getElem?
  intro i
  by_cases hi : i < n
  · by_cases e : i = 356
    · subst e
      rw [List.getElem?_set_self (by rw [jws_len]; exact hi), jws_at hi, jK_356]
      show some (jad Z 356, (.inl (Z.2.1 2, 1, .inr (.inl (fun _ => Int64.ofNat (if 5000 = 5000 then v else Z.2.2.2.2 5000)))) : va_E)) = _
      rw [if_pos rfl]
    · rw [List.getElem?_set_ne (fun q => e q.symm), jws_at hi, jws_at hi, jcell_o (fun q => e (jK_24 i (by omega) q))]
      rfl
  · rw [List.getElem?_eq_none (by simp [jws_len]; omega), List.getElem?_eq_none (by simp [jws_len]; omega)]
def jEx : List String := [jIOB, jISE, jIAE, jNSE, jUOE]
def jNcs (U : State) : Prop := ∀ a ∈ jEx, ∀ b ∈ jEx, a ≠ b → va_Nc a b U
theorem jNcs.moved {u U : State} (hvm : u.vm.Alike U.vm) (h : jNcs u) : jNcs U := fun a ha b hb q => va_Nc.moved hvm (h a ha b hb q)
abbrev jQh (Z : jE) (n : Nat) (sz : Nat) (post : Int → Nat → jC → Prop) : Array Value → State → Outcome → State → Prop := va_Qi (fun r (u : Int × Nat × jC) => r = Int32.ofInt u.1 ∧ jRng u.1 ∧ jWF n u.2.2 ∧ post u.1 u.2.1 u.2.2) (fun u t => jB (jZo Z u.2.1) n u.2.2 t) (jA Z n sz)
abbrev jPh (l : Launch) (Z : jE) (n : Nat) (C : jC) (avs : List Value) (sz : Nat) : Array Value → State → Prop := va_Pc avs (fun U => U.heap.size = sz ∧ jPre l Z n C U ∧ jNcs U)
def jH (l : Launch) (y : MethodName) (bytes : ByteArray) (maxL : Nat) (hh : List (Nat × Nat × Nat × Nat)) (rm : Room) (Z : jE) (n : Nat) (C : jC) (avs : List Value) (post : Int → Nat → jC → Prop) : Prop :=
  ∀ sz, Met l y (Cond.codeWith y bytes maxL (some .int) hh :: jTB) rm (jPh l Z n C avs sz) (jQh Z n sz post) rm.cells rm.slots (jA Z n sz)
section JLAW
variable {p : Program} {l : Launch} {e : Env} {R : Room} {s : State} {m : MethodId} {args : Array Value} {below : List Frame} {meth : Method} {c : Code} {cc : ByteArray} {own : String} {nL : Nat} {Z : jE} {A : Nat → Prop} {cells slots : Nat} {Q : State → Prop} {pc n : Nat} {lv : List (Nat × Value)} {st : List Value} {ws : va_W} {C : jC}
variable {y : MethodName} {bytes : ByteArray} {maxL np idx : Nat} {rt : FieldType} {ret : Option FieldType} {rm : Room} {avs rest : List Value} {H : Heap} {locs : List Loc} {hh : List (Nat × Nat × Nat × Nat)}
theorem jX_a {ad : Nat → Nat} (X : jX p l s m args c cc own nL Z A) : jX p l s m args c cc own nL (jZa Z ad) A := X
theorem jBg_o {v : Nat} {st : List (String × Nat × String × Nat)} (h : jBg l Z A s st) : jBg l (jZo Z v) A s st := by
  obtain ⟨h1, h2, h3, h4⟩ := h
  refine ⟨h1, h2, ⟨fun i hi => ?_, h3.2⟩, h4⟩
  have := h3.1 i hi
  have e : jsV (jZo Z v) i = jsV Z i := if_neg (by omega)
  rw [e]
  exact this
theorem jX_o {v : Nat} (X : jX p l s m args c cc own nL Z A) : jX p l s m args c cc own nL (jZo Z v) A := by
  obtain ⟨h1, h2, h3, h4, h5, h6, h7, h8⟩ := X
  exact ⟨h1, h2, h3, h4, h5, h6, h7, jBg_o h8⟩
theorem jg_lvsub {lv2 : List (Nat × Value)} (is : List Nat) (h : lv_pick lv is = lv2) (kk : jG p l e R s m args below meth c nL Z A ws cells slots Q pc lv2 st) : jG p l e R s m args below meth c nL Z A ws cells slots Q pc lv st :=
  fun H locs ls hP hD hS hl => kk H locs ls hP hD hS (lv_sub hl is h)
theorem jg_i2l {x : Int} (X : jX p l s m args c cc own nL Z A) (hd : decode cc pc = .ok (.i2l, 1)) (kk : jG p l e R s m args below meth c nL Z A ws cells slots Q (pc + 1) lv (.long (Int32.ofInt x).toInt64 :: st)) : jG p l e R s m args below meth c nL Z A ws cells slots Q pc lv (jI x :: st) :=
  fun H locs ls hP hD hS hl => lv_i2l X.1 X.2.1 hd rfl (kk H locs ls hP hD hS hl)
theorem jg_lconst {n : Fin 2} {v : Int64} (X : jX p l s m args c cc own nL Z A) (hd : decode cc pc = .ok (.lconst n, 1)) (hv : Int64.ofNat (n : Nat) = v) (kk : jG p l e R s m args below meth c nL Z A ws cells slots Q (pc + 1) lv (.long v :: st)) : jG p l e R s m args below meth c nL Z A ws cells slots Q pc lv st :=
  fun H locs ls hP hD hS hl => lv_lconst X.1 X.2.1 hd hv (kk H locs ls hP hD hS hl)
theorem jg_lcmpEq {x : Int64} (X : jX p l s m args c cc own nL Z A) (hd : decode cc pc = .ok (.lcmp, 1)) (kk : jG p l e R s m args below meth c nL Z A ws cells slots Q (pc + 1) lv (jI 0 :: st)) : jG p l e R s m args below meth c nL Z A ws cells slots Q pc lv (.long x :: .long x :: st) :=
  fun H locs ls hP hD hS hl => W.lcmp X.1 X.2.1 hd (by
    have e : lg_cmp x x = Int32.ofInt 0 := by simp [lg_cmp]
    rw [e]; exact kk H locs ls hP hD hS hl)
theorem jg_sastore {i x : Nat} (X : jX p l s m args c cc own nL Z A) (lv2 : List (Nat × Value)) (hd : decode cc pc = .ok (.astore i, 2)) (hi : i < nL) (hl2 : (i, Value.ref x) :: lv.filter (fun q => !(q.1 == i) && !(q.1 + 1 == i && q.2.category == 2)) = lv2) (kk : jG p l e R s m args below meth c nL Z A ws cells slots Q (pc + 2) lv2 st) : jG p l e R s m args below meth c nL Z A ws cells slots Q pc lv (.ref x :: st) :=
  fun H locs ls hP hD hS hl => lv_astore X.1 X.2.1 hd hl hi hl2 (fun ls' hl' => kk H locs ls' hP hD hS hl')
theorem jg_sastore_n {f : Fin 4} {x : Nat} (X : jX p l s m args c cc own nL Z A) (lv2 : List (Nat × Value)) (hd : decode cc pc = .ok (.astore_n f, 1)) (hi : (f : Nat) < nL) (hl2 : ((f : Nat), Value.ref x) :: lv.filter (fun q => !(q.1 == (f : Nat)) && !(q.1 + 1 == (f : Nat) && q.2.category == 2)) = lv2) (kk : jG p l e R s m args below meth c nL Z A ws cells slots Q (pc + 1) lv2 st) : jG p l e R s m args below meth c nL Z A ws cells slots Q pc lv (.ref x :: st) :=
  fun H locs ls hP hD hS hl => lv_astore_n X.1 X.2.1 hd rfl hl hi hl2 (fun ls' hl' => kk H locs ls' hP hD hS hl')
theorem jg_lastO {x : Int64} (X : jX p l s m args c cc own nL Z A) (hn : jOkn n) (hd : decode cc pc = .ok (.lastore, 1)) (kk : ∀ v : Nat, Int64.ofNat v = x → jG p l e R s m args below meth c nL Z A (jws (jZo Z v) n C) cells slots Q (pc + 1) lv st) : jG p l e R s m args below meth c nL Z A (jws Z n C) cells slots Q pc lv (.long x :: jI 0 :: jr Z 356 :: st) := by
  intro H locs ls hP hD hS hl
  have h6 : 356 < n := by rcases hn with rfl | rfl <;> omega
  have ha : (jws Z n C)[356]? = some (jad Z 356, .inl (Z.2.1 2, 1, .inr (.inl (fun _ => Int64.ofNat (jsV Z 5000))))) := by rw [jws_at h6, jK_356]; rfl
  obtain ⟨v, hv⟩ : ∃ v : Nat, Int64.ofNat v = x := ⟨x.toBitVec.toNat, by
    apply Int64.toBitVec_inj.mp
    simp⟩
  refine va_last (a := jad Z 356) X.1 X.2.1 X.2.2.2.2.2.1 hP hD hS 356 2 ha rfl (ji_in (x := 0) (N := 1) (by decide) (by decide) (by decide)) hd (fun H1 locs1 hP1 hD1 hS1 => ?_)
  have e : (vp_updL (fun _ => Int64.ofNat (jsV Z 5000)) (Int32.ofInt 0).toNatClampNeg x) = fun j => if j = 0 then x else Int64.ofNat (jsV Z 5000) := rfl
  have hw : va_P Z.1 jcl (jws (jZo Z v) n C) H1 ∧ va_D A (jws (jZo Z v) n C) := by
    rw [jws_o hn, hv]
    refine ⟨fun k q hk => ?_, va_D_ad hD1 (by rw [List.map_set, List.map_set])⟩
    by_cases h : k = 356
    · subst h
      have hl : 356 < (jws Z n C).length := by rw [jws_len]; exact h6
      rw [List.getElem?_set_self hl] at hk
      have h1 := hP1 356 _ (List.getElem?_set_self hl)
      cases hk
      have e2 : vp_cell (Z.2.1 2) (1, .inr (.inl (fun _ => x))) = vp_cell (Z.2.1 2) (1, .inr (.inl (vp_updL (fun _ => Int64.ofNat (jsV Z 5000)) (Int32.ofInt 0).toNatClampNeg x))) := by
        rw [vp_cell_l, vp_cell_l]
        refine arrV_congr (fun j hj => ?_)
        have : j = 0 := by omega
        subst this
        rfl
      show H1[jad Z 356]? = some (vp_cell (Z.2.1 2) (1, .inr (.inl (fun _ => x))))
      rw [e2]; exact h1
    · rw [List.getElem?_set_ne (fun q => h q.symm)] at hk
      exact hP1 k q (by rw [List.getElem?_set_ne (fun q => h q.symm)]; exact hk)
  exact kk v hv H1 locs1 ls hw.1 hw.2 hS1 hl
theorem jg_laldO (X : jX p l s m args c cc own nL Z A) (hn : jOkn n) (hd : decode cc pc = .ok (.laload, 1)) (kk : jG p l e R s m args below meth c nL Z A (jws Z n C) cells slots Q (pc + 1) lv (.long (Int64.ofNat (jsV Z 5000)) :: st)) : jG p l e R s m args below meth c nL Z A (jws Z n C) cells slots Q pc lv (jI 0 :: jr Z 356 :: st) := by
  intro H locs ls hP hD hS hl
  have h6 : 356 < n := by rcases hn with rfl | rfl <;> omega
  have ha : (jws Z n C)[356]? = some (jad Z 356, .inl (Z.2.1 2, 1, .inr (.inl (fun _ => Int64.ofNat (jsV Z 5000))))) := by rw [jws_at h6, jK_356]; rfl
  exact va_lald (a := jad Z 356) X.1 X.2.1 X.2.2.2.2.2.1 hP 356 2 ha rfl (ji_in (x := 0) (N := 1) (by decide) (by decide) (by decide)) hd (kk H locs ls hP hD hS hl)
theorem jH_of {post : Int → Nat → jC → Prop} {lv0 : List (Nat × Value)} (hy : plainName y.cls = true) (hlen : (lg_sl avs).length ≤ maxL) (hlv : lv_args 0 avs = lv0)
    (body : ∀ (p : Program) (e : Env) (s : State) (m : MethodId) (args : Array Value) (below : List Frame) (meth : Method) (c : Code) (A : Nat → Prop) (sz : Nat), jX p l s m args c bytes y.cls maxL Z A → A = jA Z n sz → meth.sig.returnType = some .int → meth.locks = false → c.exceptionTable.toList = tableOf hh → jNcs s → jG p l e rm s m args below meth c maxL Z A (jws Z n C) 0 0 (MQ below (jQh Z n sz post) args s rm.cells rm.slots (jA Z n sz)) 0 lv0 []) : jH l y bytes maxL hh rm Z n C avs post := by
  intro sz
  refine va_MetW (cc := bytes) (maxL := maxL) (ret := some .int) (hh := hh) hy rfl ?_
  intro p e s m args below meth c s₁ B hml hv
  obtain ⟨rfl, hsz, ⟨hP, hK, hD0, hB⟩, hN⟩ := hv
  have hts := atoms_spec (ws := Cond.codeWith y bytes maxL (some .int) hh :: jTB) B.pre
  rw [hsz] at hB
  have X : jX p l s m avs.toArray c bytes y.cls maxL Z (jA Z n sz) := ⟨B.exec, B.bytes, hml, findClass_of_methodNamed B.named, fun w hw => hts w (List.mem_cons_of_mem _ hw), hK, fun q hq => Or.inr (by rw [← hsz]; exact hq), hB⟩
  have hl := lv_entry avs (n := maxL) hlen
  rw [lg_entry_eq]
  rw [hlv] at hl
  exact body p e s m _ below meth c _ sz X rfl B.returns B.notSynchronized (vx_table (x := y) B (hts _ List.mem_cons_self)) hN s.heap [] _ hP (jA_in hD0 (fun i hi => Or.inl ⟨i, hi, rfl⟩)) va_S.rf hl
theorem jg_hret {v : Nat} {x : Int} {post : Int → Nat → jC → Prop} {mc ms sz : Nat} (X : jX p l s m args c cc own nL Z A) (hAe : A = jA Z n sz) (hlocks : meth.locks = false) (hr : meth.sig.returnType = some .int) (hd : decode cc pc = .ok (.ireturn, 1)) (hc : cells ≤ mc ∧ slots ≤ ms) (rx : jRng x) (hw : jWF n C) (h : post x v C) : jG p l e R s m args below meth c nL Z A (jws (jZo Z v) n C) cells slots (MQ below (jQh Z n sz post) args s mc ms (jA Z n sz)) pc lv [jI x] := by
  subst hAe
  intro H locs ls hP hD hS hl
  refine W.widen hc.1 hc.2 ?_
  exact W.zret X.1 X.2.1 hr rfl (fun t ht hW => ⟨⟨Int32.ofInt x, (x, v, C), rfl, ⟨rfl, rx, hw, h⟩, by show va_P Z.1 jcl (jws (jZo Z v) n C) t.heap; rw [ht]; exact hP⟩, hS.F ht⟩) hS.2.2 hd hlocks
theorem jg_hcall {a : Int} {ci : Nat} {fs : List Value} {r : vw_C} {post : Int → jC → Prop} {ex : String → jC → Prop} (X : jX p l s m args c cc own nL Z A) (hM : jXi l y bytes maxL rt rm Z n C (jr Z a :: avs) ex post) (hy : jMy y bytes maxL (some rt) np) (hlink : Cond.methodLink own idx y ∈ jTB) (ha : jT n a ci) (hcell : jcell Z ci a (C a) = .inr (ci, fs)) (hci : jcl[ci]? = some r) (hyc : r.1 = y.cls) (hn : avs.length = np) (hst : st = avs.reverse ++ jr Z a :: rest) (hcat : (rest.map fun v => v.category).sum ≤ 8) (hd : decode cc pc = .ok (.invokevirtual idx, 3)) (hR : rm.frames + 1 ≤ R.frames ∧ 8 + (maxL + 11) + rm.locals ≤ R.locals) (hC : cells + rm.cells ≤ R.cells ∧ slots + rm.slots ≤ R.slots)
    (kx : ∀ (E : String) (C' : jC), jWF n C' → ex E C' → ∃ (pre : List ExceptionTableEntry) (x : ExceptionTableEntry) (suf : List ExceptionTableEntry), c.exceptionTable.toList = pre ++ x :: suf ∧ (∀ z ∈ pre, z.catchType ≠ 0 ∧ ∃ nm : String, Cond.classLink own z.catchType nm ∈ jTB ∧ va_Nc E nm s) ∧ covers x pc = true ∧ x.catchType ≠ 0 ∧ Cond.classLink own x.catchType E ∈ jTB ∧ Cond.castable E E ∈ jNest ∧ ∀ q9 : Nat, jG p l e R s m args below meth c nL Z A (jws Z n C') (cells + rm.cells) (slots + rm.slots) Q x.handlerPc lv [.ref q9])
    (kk : ∀ (r : Int) (C' : jC), jRng r → jWF n C' → post r C' → jG p l e R s m args below meth c nL Z A (jws Z n C') (cells + rm.cells) (slots + rm.slots) Q (pc + 3) lv (jI r :: rest)) : jG p l e R s m args below meth c nL Z A (jws Z n C) cells slots Q pc lv st := by
  intro H locs ls hP hD hS hl
  have hsub := jA_sub hD hS X.2.2.2.2.2.2.1
  obtain ⟨g1, g2, g3, g4, g5⟩ := hy
  have hrv := jrecv X ha hcell hci hP
  rw [hyc] at hrv
  subst hst
  refine vx_calli (vx_runV (As := avs) (rest := rest) (b := jad Z a.toNat) (C := y.cls) ⟨X.1, X.2.1, X.2.2.1, X.2.2.2.1, X.2.2.2.2.1⟩ (hM H.size) ⟨jcb_of X g4 g3 hlink g5 hR, X.2.2.2.2.1 _ g1, X.2.2.2.2.1 _ g2⟩ ⟨jPc_blind, hrv, jpre_of X hP hD hS _⟩ rfl hn hl.1 rfl (lv_room hcat) hd hC) hS (fun q _ h => hsub q h) hsub (fun q _ h => hsub q h) (fun E ce q9 u t H1 locs1 ht hvm hw hB hz1 hk1 hS1 hce hcv hcl => ?_) (fun r u t H1 locs1 ht hvm hw hB hz1 hk1 hS1 => ?_)
  · obtain ⟨⟨hwf, hex⟩, hB2⟩ := hB
    obtain ⟨pre, x, suf, h1, h2, h3, h4, h5, h6, h7⟩ := kx E u hwf hex
    refine vx_catch (own := own) (name := E) (E := E) (ce := ce) X.2.2.2.1 pre x suf h1 (fun z hz => Or.inr ?_) h3 h4 (X.2.2.2.2.1 _ h5) (va_Nw.use (by simp [Cond.onTables, Cond.keeps, Cond.steady]) (X.2.2.2.2.2.2.2.1 _ h6)) hce hcv hcl ?_
    · obtain ⟨a1, nm, a2, a3⟩ := h2 z hz
      exact ⟨a1, nm, X.2.2.2.2.1 _ a2, a3⟩
    · have h9 : jB Z n u t := hB2
      unfold jB at h9
      rw [ht] at h9
      exact h7 q9 H1 locs1 ls h9 (jD_any hD) hS1 hl
  · obtain ⟨r', C'⟩ := u
    obtain ⟨rfl, hr, hwf, hp⟩ := hw
    exact kk r' C' hr hwf hp H1 locs1 ls (by rw [← ht]; exact hB) (jD_any hD) hS1 hl
theorem jg_callH {post : Int → Nat → jC → Prop} (X : jX p l s m args c cc own nL Z A) (hN : jNcs s) (hM : jH l y bytes maxL hh rm Z n C avs post) (hcode : Cond.codeWith y bytes maxL (some .int) hh ∈ jTB) (hsta : Cond.static y ∈ jTB) (hini : Cond.initialized y.cls ∈ jTB) (hlink : Cond.methodLink own idx y ∈ jTB) (hdc : y.cls ≠ "java/lang/invoke/MethodHandle" ∧ y.cls ≠ "java/lang/invoke/VarHandle" ∧ (parseMethodDescriptor y.desc).map (fun d => d.parameters.length) = some np) (hn : avs.length = np) (hst : st = avs.reverse ++ rest) (hcat : (rest.map fun v => v.category).sum ≤ 8) (hd : decode cc pc = .ok (.invokestatic idx, 3)) (hR : rm.frames + 1 ≤ R.frames ∧ 8 + (maxL + 11) + rm.locals ≤ R.locals) (hC : cells + rm.cells ≤ R.cells ∧ slots + rm.slots ≤ R.slots)
    (kk : ∀ (r : Int) (v : Nat) (C' : jC), jRng r → jWF n C' → post r v C' → jG p l e R s m args below meth c nL Z A (jws (jZo Z v) n C') (cells + rm.cells) (slots + rm.slots) Q (pc + 3) lv (jI r :: rest)) : jG p l e R s m args below meth c nL Z A (jws Z n C) cells slots Q pc lv st := by
  intro H locs ls hP hD hS hl
  have hsub := jA_sub hD hS X.2.2.2.2.2.2.1
  subst hst
  have hG : GoodIn jTB (va_wsS own idx y (Cond.codeWith y bytes maxL (some .int) hh :: jTB)) := by
    intro w hw
    have : w ∈ jTB := by
      simp only [va_wsS, List.mem_append, List.mem_cons, List.not_mem_nil, or_false] at hw
      rcases hw with h | h | h
      · rcases h with rfl | rfl | rfl
        all_goals assumption
      · exact h ▸ hcode
      · exact h
    exact ⟨this, good_of_word (List.mem_filter.mp this).2⟩
  have hbl : FrameBlind (jPh l Z n C avs H.size) := by
    intro a U g mk h
    obtain ⟨h1, h2, h3, h4⟩ := h
    obtain ⟨-, -, h5⟩ := jPc_blind (avs := avs) (sz := H.size) a U g mk ⟨h1, h2, h3⟩
    exact ⟨h1, h2, h5, jNcs.moved (u := U) (U := U.calling g mk a) (Vm.Alike.refl U.vm) h4⟩
  refine va_calli (vx_runSW (As := avs) (rest := rest) ⟨X.1, X.2.1, X.2.2.1, X.2.2.2.1, X.2.2.2.2.1⟩ (hM H.size) (vx_cwSW np X.2.2.2.2.1 hG rfl rfl rfl hdc hR) ⟨hbl, fun U hU hW => ?_⟩ rfl hn hl.1 rfl (lv_room hcat) hd hC) hS (fun q _ h => hsub q h) hsub (fun r u t H1 locs1 ht hvm hw hB hz1 hk1 hS1 => ?_)
  · obtain ⟨h1, h2, h3⟩ := jpre_of X hP hD hS avs U hU hW
    exact ⟨h1, h2, h3, jNcs.moved hW.alike hN⟩
  · obtain ⟨r', v, C'⟩ := u
    obtain ⟨rfl, hr, hwf, hp⟩ := hw
    have h9 : va_P Z.1 jcl (jws (jZo Z v) n C') t.heap := hB
    rw [ht] at h9
    have hD9 : va_D A (jws (jZo Z v) n C') := va_D_ad (w := jws Z n C') (jD_any hD) (by
      simp only [jws, List.map_map]
      rfl)
    exact kk r' v C' hr hwf hp H1 locs1 ls h9 hD9 hS1 hl
-- the script
theorem jg_sld {b L : Nat} {xs : Nat → Int32} {i : Int} (X : jX p l s m args c cc own nL Z A) (hX : va_X b L xs s s.heap) (hbl : b < s.heap.size) (hbA : ¬ A b) (h0 : 0 ≤ i) (h1 : i < L) (hL : L < 100000) (hd : decode cc pc = .ok (.iaload, 1)) (kk : jG p l e R s m args below meth c nL Z A ws cells slots Q (pc + 1) lv (jI (xs i.toNat).toInt :: st)) : jG p l e R s m args below meth c nL Z A ws cells slots Q pc lv (jI i :: .ref b :: st) := by
  intro H locs ls hP hD hS hl
  refine va_sld X.1 X.2.1 hX hbl hbA hS (ji_in h0 h1 (by omega)) hd ?_
  rw [ji_clamp h0 (by omega)]
  have := kk H locs ls hP hD hS hl
  have e : jI (xs i.toNat).toInt = Value.int (xs i.toNat) := congrArg Value.int (ji_of _)
  rw [e] at this
  exact this
theorem jg_slen {b L : Nat} {xs : Nat → Int32} (X : jX p l s m args c cc own nL Z A) (hX : va_X b L xs s s.heap) (hbl : b < s.heap.size) (hbA : ¬ A b) (hd : decode cc pc = .ok (.arraylength, 1)) (kk : jG p l e R s m args below meth c nL Z A ws cells slots Q (pc + 1) lv (jI L :: st)) : jG p l e R s m args below meth c nL Z A ws cells slots Q pc lv (.ref b :: st) := by
  intro H locs ls hP hD hS hl
  refine va_slen X.1 X.2.1 hX hbl hbA hS hd ?_
  have e : Int32.ofInt (L : Int) = Int32.ofNat L := Int32.ofInt_eq_ofNat
  rw [← e]
  exact kk H locs ls hP hD hS hl
end JLAW

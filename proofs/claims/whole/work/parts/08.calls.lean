-- CALLS, RETURNS, THROWS
def jMy (y : MethodName) (bytes : ByteArray) (maxL : Nat) (ret : Option FieldType) (np : Nat) : Prop :=
  Cond.instanceMethod y ∈ jTB ∧ Cond.selects y.cls y y ∈ jTB ∧ Cond.initialized y.cls ∈ jTB ∧ Cond.code y bytes maxL ret ∈ jTB ∧ (y.cls ≠ "java/lang/invoke/MethodHandle" ∧ y.cls ≠ "java/lang/invoke/VarHandle" ∧ (parseMethodDescriptor y.desc).map (fun d => d.parameters.length) = some np)
def jMs (y : MethodName) (bytes : ByteArray) (maxL : Nat) (ret : Option FieldType) (np : Nat) : Prop :=
  Cond.static y ∈ jTB ∧ Cond.initialized y.cls ∈ jTB ∧ Cond.code y bytes maxL ret ∈ jTB ∧ (y.cls ≠ "java/lang/invoke/MethodHandle" ∧ y.cls ≠ "java/lang/invoke/VarHandle" ∧ (parseMethodDescriptor y.desc).map (fun d => d.parameters.length) = some np)
section JCALL
variable {p : Program} {l : Launch} {e : Env} {R : Room} {s : State} {m : MethodId} {args : Array Value} {below : List Frame} {meth : Method} {c : Code} {cc : ByteArray} {own : String} {nL : Nat} {Z : jE} {A : Nat → Prop} {cells slots : Nat} {Q : State → Prop} {pc n : Nat} {lv : List (Nat × Value)} {st : List Value} {ws : va_W} {C : jC}
variable {y : MethodName} {bytes : ByteArray} {maxL np idx : Nat} {rt : FieldType} {ret : Option FieldType} {rm : Room} {avs rest : List Value} {H : Heap} {locs : List Loc}
theorem jpre_of (X : jX p l s m args c cc own nL Z A) (hP : va_P Z.1 jcl (jws Z n C) H) (hD : va_D A (jws Z n C)) (hS : va_S A s.heap H locs) (avs : List Value) : ∀ U : State, U.heap = H → s.WarmedH U.vm → jPc l Z n C avs H.size avs.toArray U := by
  intro U hU hW
  refine ⟨rfl, by rw [hU], by rw [hU]; exact hP, va_K.moved hW.alike X.2.2.2.2.2.1, hD.weaken (fun _ _ _ _ => trivial), ?_⟩
  exact X.2.2.2.2.2.2.2.to hS hU hW (by rw [hU]; exact jA_sub hD hS X.2.2.2.2.2.2.1)
theorem jcb_of (X : jX p l s m args c cc own nL Z A) (hcode : Cond.code y bytes maxL ret ∈ jTB) (hini : Cond.initialized y.cls ∈ jTB) (hlink : Cond.methodLink own idx y ∈ jTB) (hdc : y.cls ≠ "java/lang/invoke/MethodHandle" ∧ y.cls ≠ "java/lang/invoke/VarHandle" ∧ (parseMethodDescriptor y.desc).map (fun d => d.parameters.length) = some np) (hR : rm.frames + 1 ≤ R.frames ∧ 8 + (maxL + 11) + rm.locals ≤ R.locals) :
    CallB R s args own idx y bytes maxL ret (jW y bytes maxL ret) rm rm.cells rm.slots np :=
  callB_of np X.2.2.2.2.1 (jgood hcode) rfl rfl rfl (X.2.2.2.2.1 _ hini) (X.2.2.2.2.1 _ hlink) hdc hR
theorem jrecv (X : jX p l s m args c cc own nL Z A) {a : Int} {ci : Nat} {fs : List Value} {r : vw_C} (ha : jT n a ci) (hcell : jcell Z ci a (C a) = .inr (ci, fs)) (hci : jcl[ci]? = some r) (hP : va_P Z.1 jcl (jws Z n C) H) : ∃ cell : Cell, H[jad Z a.toNat]? = some cell ∧ cell.vm.isStatics = false ∧ s.vm.findClass r.1 = some cell.cls := by
  have hg := jws_get (Z := Z) (C := C) ha
  rw [hcell] at hg
  exact va_recv X.2.2.2.2.2.1 hP hci hg
theorem jg_callVi {a : Int} {ci : Nat} {fs : List Value} {r : vw_C} {post : Int → jC → Prop} (X : jX p l s m args c cc own nL Z A) (hM : jCi l y bytes maxL rt rm Z n C (jr Z a :: avs) post) (hy : jMy y bytes maxL (some rt) np) (hlink : Cond.methodLink own idx y ∈ jTB) (ha : jT n a ci) (hcell : jcell Z ci a (C a) = .inr (ci, fs)) (hci : jcl[ci]? = some r) (hyc : r.1 = y.cls) (hn : avs.length = np) (hst : st = avs.reverse ++ jr Z a :: rest) (hcat : (rest.map fun v => v.category).sum ≤ 8) (hd : decode cc pc = .ok (.invokevirtual idx, 3)) (hR : rm.frames + 1 ≤ R.frames ∧ 8 + (maxL + 11) + rm.locals ≤ R.locals) (hC : cells + rm.cells ≤ R.cells ∧ slots + rm.slots ≤ R.slots)
    (kk : ∀ (r : Int) (C' : jC), jRng r → jWF n C' → post r C' → jG p l e R s m args below meth c nL Z A (jws Z n C') (cells + rm.cells) (slots + rm.slots) Q (pc + 3) lv (jI r :: rest)) : jG p l e R s m args below meth c nL Z A (jws Z n C) cells slots Q pc lv st := by
  intro H locs ls hP hD hS hl
  have hsub := jA_sub hD hS X.2.2.2.2.2.2.1
  obtain ⟨g1, g2, g3, g4, g5⟩ := hy
  have hrv := jrecv X ha hcell hci hP
  rw [hyc] at hrv
  subst hst
  refine va_calli (va_runV (As := avs) (rest := rest) (b := jad Z a.toNat) (C := y.cls) ⟨X.1, X.2.1, X.2.2.1, X.2.2.2.1, X.2.2.2.2.1⟩ (hM H.size) ⟨jcb_of X g4 g3 hlink g5 hR, X.2.2.2.2.1 _ g1, X.2.2.2.2.1 _ g2⟩ ⟨jPc_blind, hrv, jpre_of X hP hD hS _⟩ rfl hn hl.1 rfl (lv_room hcat) hd hC) hS (fun q _ h => hsub q h) hsub (fun r u t H1 locs1 ht hvm hw hB hz1 hk1 hS1 => ?_)
  obtain ⟨r', C'⟩ := u
  obtain ⟨rfl, hr, hwf, hp⟩ := hw
  exact kk r' C' hr hwf hp H1 locs1 ls (by rw [← ht]; exact hB) (jD_any hD) hS1 hl
theorem jg_callVv {a : Int} {ci : Nat} {fs : List Value} {r : vw_C} {post : jC → Prop} (X : jX p l s m args c cc own nL Z A) (hM : jCv l y bytes maxL rm Z n C (jr Z a :: avs) post) (hy : jMy y bytes maxL none np) (hlink : Cond.methodLink own idx y ∈ jTB) (ha : jT n a ci) (hcell : jcell Z ci a (C a) = .inr (ci, fs)) (hci : jcl[ci]? = some r) (hyc : r.1 = y.cls) (hn : avs.length = np) (hst : st = avs.reverse ++ jr Z a :: rest) (hcat : (rest.map fun v => v.category).sum ≤ 8) (hd : decode cc pc = .ok (.invokevirtual idx, 3)) (hR : rm.frames + 1 ≤ R.frames ∧ 8 + (maxL + 11) + rm.locals ≤ R.locals) (hC : cells + rm.cells ≤ R.cells ∧ slots + rm.slots ≤ R.slots)
    (kk : ∀ (C' : jC), jWF n C' → post C' → jG p l e R s m args below meth c nL Z A (jws Z n C') (cells + rm.cells) (slots + rm.slots) Q (pc + 3) lv rest) : jG p l e R s m args below meth c nL Z A (jws Z n C) cells slots Q pc lv st := by
  intro H locs ls hP hD hS hl
  have hsub := jA_sub hD hS X.2.2.2.2.2.2.1
  obtain ⟨g1, g2, g3, g4, g5⟩ := hy
  have hrv := jrecv X ha hcell hci hP
  rw [hyc] at hrv
  subst hst
  refine va_callv (va_runV (As := avs) (rest := rest) (b := jad Z a.toNat) (C := y.cls) ⟨X.1, X.2.1, X.2.2.1, X.2.2.2.1, X.2.2.2.2.1⟩ (hM H.size) ⟨jcb_of X g4 g3 hlink g5 hR, X.2.2.2.2.1 _ g1, X.2.2.2.2.1 _ g2⟩ ⟨jPc_blind, hrv, jpre_of X hP hD hS _⟩ rfl hn hl.1 rfl (lv_room hcat) hd hC) hS (fun q _ h => hsub q h) hsub (fun C' t H1 locs1 ht hvm hw hB hz1 hk1 hS1 => ?_)
  exact kk C' hw.1 hw.2 H1 locs1 ls (by rw [← ht]; exact hB) (jD_any hD) hS1 hl
theorem jg_callVr {a : Int} {ci : Nat} {fs : List Value} {r : vw_C} {post : Int → jC → Prop} (X : jX p l s m args c cc own nL Z A) (hM : jCr l y bytes maxL rt rm Z n C (jr Z a :: avs) post) (hy : jMy y bytes maxL (some rt) np) (hlink : Cond.methodLink own idx y ∈ jTB) (ha : jT n a ci) (hcell : jcell Z ci a (C a) = .inr (ci, fs)) (hci : jcl[ci]? = some r) (hyc : r.1 = y.cls) (hn : avs.length = np) (hst : st = avs.reverse ++ jr Z a :: rest) (hcat : (rest.map fun v => v.category).sum ≤ 8) (hd : decode cc pc = .ok (.invokevirtual idx, 3)) (hR : rm.frames + 1 ≤ R.frames ∧ 8 + (maxL + 11) + rm.locals ≤ R.locals) (hC : cells + rm.cells ≤ R.cells ∧ slots + rm.slots ≤ R.slots)
    (kk : ∀ (r : Int) (C' : jC), jWF n C' → post r C' → jG p l e R s m args below meth c nL Z A (jws Z n C') (cells + rm.cells) (slots + rm.slots) Q (pc + 3) lv (jn Z r :: rest)) : jG p l e R s m args below meth c nL Z A (jws Z n C) cells slots Q pc lv st := by
  intro H locs ls hP hD hS hl
  have hsub := jA_sub hD hS X.2.2.2.2.2.2.1
  obtain ⟨g1, g2, g3, g4, g5⟩ := hy
  have hrv := jrecv X ha hcell hci hP
  rw [hyc] at hrv
  subst hst
  refine va_callq (va_runV (As := avs) (rest := rest) (b := jad Z a.toNat) (C := y.cls) ⟨X.1, X.2.1, X.2.2.1, X.2.2.2.1, X.2.2.2.2.1⟩ (hM H.size) ⟨jcb_of X g4 g3 hlink g5 hR, X.2.2.2.2.1 _ g1, X.2.2.2.2.1 _ g2⟩ ⟨jPc_blind, hrv, jpre_of X hP hD hS _⟩ rfl hn hl.1 rfl (lv_room hcat) hd hC) hS (fun q _ h => hsub q h) hsub (fun r u t H1 locs1 ht hvm hw hB hz1 hk1 hS1 => ?_)
  obtain ⟨r', C'⟩ := u
  obtain ⟨rfl, hwf, hp⟩ := hw
  exact kk r' C' hwf hp H1 locs1 ls (by rw [← ht]; exact hB) (jD_any hD) hS1 hl
theorem jg_callSi {post : Int → jC → Prop} (X : jX p l s m args c cc own nL Z A) (hM : jCi l y bytes maxL rt rm Z n C avs post) (hy : jMs y bytes maxL (some rt) np) (hlink : Cond.methodLink own idx y ∈ jTB) (hn : avs.length = np) (hst : st = avs.reverse ++ rest) (hcat : (rest.map fun v => v.category).sum ≤ 8) (hd : decode cc pc = .ok (.invokestatic idx, 3)) (hR : rm.frames + 1 ≤ R.frames ∧ 8 + (maxL + 11) + rm.locals ≤ R.locals) (hC : cells + rm.cells ≤ R.cells ∧ slots + rm.slots ≤ R.slots)
    (kk : ∀ (r : Int) (C' : jC), jRng r → jWF n C' → post r C' → jG p l e R s m args below meth c nL Z A (jws Z n C') (cells + rm.cells) (slots + rm.slots) Q (pc + 3) lv (jI r :: rest)) : jG p l e R s m args below meth c nL Z A (jws Z n C) cells slots Q pc lv st := by
  intro H locs ls hP hD hS hl
  have hsub := jA_sub hD hS X.2.2.2.2.2.2.1
  obtain ⟨g1, g3, g4, g5⟩ := hy
  subst hst
  refine va_calli (va_runS (As := avs) (rest := rest) ⟨X.1, X.2.1, X.2.2.1, X.2.2.2.1, X.2.2.2.2.1⟩ (hM H.size) ⟨jcb_of X g4 g3 hlink g5 hR, X.2.2.2.2.1 _ g1⟩ ⟨jPc_blind, jpre_of X hP hD hS _⟩ rfl hn hl.1 rfl (lv_room hcat) hd hC) hS (fun q _ h => hsub q h) hsub (fun r u t H1 locs1 ht hvm hw hB hz1 hk1 hS1 => ?_)
  obtain ⟨r', C'⟩ := u
  obtain ⟨rfl, hr, hwf, hp⟩ := hw
  exact kk r' C' hr hwf hp H1 locs1 ls (by rw [← ht]; exact hB) (jD_any hD) hS1 hl
-- a callee that may throw, called in a method without handlers: what it throws goes on
theorem jg_xcallVi {a : Int} {ci : Nat} {fs : List Value} {r : vw_C} {post : Int → jC → Prop} {ex : String → jC → Prop} {Qc : Array Value → State → Outcome → State → Prop} {mc ms sz : Nat} (X : jX p l s m args c cc own nL Z A) (hAe : A = jA Z n sz) (htab : ∀ x ∈ c.exceptionTable.toList, False) (hlocks : meth.locks = false) (hM : jXi l y bytes maxL rt rm Z n C (jr Z a :: avs) ex post) (hy : jMy y bytes maxL (some rt) np) (hlink : Cond.methodLink own idx y ∈ jTB) (ha : jT n a ci) (hcell : jcell Z ci a (C a) = .inr (ci, fs)) (hci : jcl[ci]? = some r) (hyc : r.1 = y.cls) (hn : avs.length = np) (hst : st = avs.reverse ++ jr Z a :: rest) (hcat : (rest.map fun v => v.category).sum ≤ 8) (hd : decode cc pc = .ok (.invokevirtual idx, 3)) (hR : rm.frames + 1 ≤ R.frames ∧ 8 + (maxL + 11) + rm.locals ≤ R.locals) (hC : cells + rm.cells ≤ R.cells ∧ slots + rm.slots ≤ R.slots) (hm : cells + rm.cells ≤ mc ∧ slots + rm.slots ≤ ms)
    (kk : ∀ (r : Int) (C' : jC), jRng r → jWF n C' → post r C' → jG p l e R s m args below meth c nL Z A (jws Z n C') (cells + rm.cells) (slots + rm.slots) (vx_MQ below Qc (jXC Z n sz ex) args s mc ms (jA Z n sz)) (pc + 3) lv (jI r :: rest)) : jG p l e R s m args below meth c nL Z A (jws Z n C) cells slots (vx_MQ below Qc (jXC Z n sz ex) args s mc ms (jA Z n sz)) pc lv st := by
  subst hAe
  intro H locs ls hP hD hS hl
  have hsub := jA_sub hD hS X.2.2.2.2.2.2.1
  obtain ⟨g1, g2, g3, g4, g5⟩ := hy
  have hrv := jrecv X ha hcell hci hP
  rw [hyc] at hrv
  subst hst
  refine vx_calli (vx_runV (As := avs) (rest := rest) (b := jad Z a.toNat) (C := y.cls) ⟨X.1, X.2.1, X.2.2.1, X.2.2.2.1, X.2.2.2.2.1⟩ (hM H.size) ⟨jcb_of X g4 g3 hlink g5 hR, X.2.2.2.2.1 _ g1, X.2.2.2.2.1 _ g2⟩ ⟨jPc_blind, hrv, jpre_of X hP hD hS _⟩ rfl hn hl.1 rfl (lv_room hcat) hd hC) hS (fun q _ h => hsub q h) hsub (fun q _ h => hsub q h) (fun E ce q9 u t H1 locs1 ht hvm hw hB hz1 hk1 hS1 hce hcv hcl => ?_) (fun r u t H1 locs1 ht hvm hw hB hz1 hk1 hS1 => ?_)
  · refine vx_out (E := E) (fun x hx => (htab x hx).elim) hlocks hce hcv hcl (fun t2 ht2 _ => ?_) hS1.2.2 hm.1 hm.2
    refine ⟨u, trivial, ⟨hB.1, ?_⟩, hS1.F ht2⟩
    have h7 : jB Z n u t := hB.2
    unfold jB at h7 ⊢
    rw [ht2, ← ht]
    exact h7
  · obtain ⟨r', C'⟩ := u
    obtain ⟨rfl, hr, hwf, hp⟩ := hw
    exact kk r' C' hr hwf hp H1 locs1 ls (by rw [← ht]; exact hB) (jD_any hD) hS1 hl
theorem jg_xcallVv {a : Int} {ci : Nat} {fs : List Value} {r : vw_C} {post : jC → Prop} {ex : String → jC → Prop} {Qc : Array Value → State → Outcome → State → Prop} {mc ms sz : Nat} (X : jX p l s m args c cc own nL Z A) (hAe : A = jA Z n sz) (htab : ∀ x ∈ c.exceptionTable.toList, False) (hlocks : meth.locks = false) (hM : jXv l y bytes maxL rm Z n C (jr Z a :: avs) ex post) (hy : jMy y bytes maxL none np) (hlink : Cond.methodLink own idx y ∈ jTB) (ha : jT n a ci) (hcell : jcell Z ci a (C a) = .inr (ci, fs)) (hci : jcl[ci]? = some r) (hyc : r.1 = y.cls) (hn : avs.length = np) (hst : st = avs.reverse ++ jr Z a :: rest) (hcat : (rest.map fun v => v.category).sum ≤ 8) (hd : decode cc pc = .ok (.invokevirtual idx, 3)) (hR : rm.frames + 1 ≤ R.frames ∧ 8 + (maxL + 11) + rm.locals ≤ R.locals) (hC : cells + rm.cells ≤ R.cells ∧ slots + rm.slots ≤ R.slots) (hm : cells + rm.cells ≤ mc ∧ slots + rm.slots ≤ ms)
    (kk : ∀ (C' : jC), jWF n C' → post C' → jG p l e R s m args below meth c nL Z A (jws Z n C') (cells + rm.cells) (slots + rm.slots) (vx_MQ below Qc (jXC Z n sz ex) args s mc ms (jA Z n sz)) (pc + 3) lv rest) : jG p l e R s m args below meth c nL Z A (jws Z n C) cells slots (vx_MQ below Qc (jXC Z n sz ex) args s mc ms (jA Z n sz)) pc lv st := by
  subst hAe
  intro H locs ls hP hD hS hl
  have hsub := jA_sub hD hS X.2.2.2.2.2.2.1
  obtain ⟨g1, g2, g3, g4, g5⟩ := hy
  have hrv := jrecv X ha hcell hci hP
  rw [hyc] at hrv
  subst hst
  refine vx_callv (vx_runV (As := avs) (rest := rest) (b := jad Z a.toNat) (C := y.cls) ⟨X.1, X.2.1, X.2.2.1, X.2.2.2.1, X.2.2.2.2.1⟩ (hM H.size) ⟨jcb_of X g4 g3 hlink g5 hR, X.2.2.2.2.1 _ g1, X.2.2.2.2.1 _ g2⟩ ⟨jPc_blind, hrv, jpre_of X hP hD hS _⟩ rfl hn hl.1 rfl (lv_room hcat) hd hC) hS (fun q _ h => hsub q h) hsub (fun q _ h => hsub q h) (fun E ce q9 u t H1 locs1 ht hvm hw hB hz1 hk1 hS1 hce hcv hcl => ?_) (fun u t H1 locs1 ht hvm hw hB hz1 hk1 hS1 => ?_)
  · refine vx_out (E := E) (fun x hx => (htab x hx).elim) hlocks hce hcv hcl (fun t2 ht2 _ => ?_) hS1.2.2 hm.1 hm.2
    refine ⟨u, trivial, ⟨hB.1, ?_⟩, hS1.F ht2⟩
    have h7 : jB Z n u t := hB.2
    unfold jB at h7 ⊢
    rw [ht2, ← ht]
    exact h7
  · exact kk u hw.1 hw.2 H1 locs1 ls (by rw [← ht]; exact hB) (jD_any hD) hS1 hl
theorem jg_xcallVr {a : Int} {ci : Nat} {fs : List Value} {r : vw_C} {post : Int → jC → Prop} {ex : String → jC → Prop} {Qc : Array Value → State → Outcome → State → Prop} {mc ms sz : Nat} (X : jX p l s m args c cc own nL Z A) (hAe : A = jA Z n sz) (htab : ∀ x ∈ c.exceptionTable.toList, False) (hlocks : meth.locks = false) (hM : jXr l y bytes maxL rt rm Z n C (jr Z a :: avs) ex post) (hy : jMy y bytes maxL (some rt) np) (hlink : Cond.methodLink own idx y ∈ jTB) (ha : jT n a ci) (hcell : jcell Z ci a (C a) = .inr (ci, fs)) (hci : jcl[ci]? = some r) (hyc : r.1 = y.cls) (hn : avs.length = np) (hst : st = avs.reverse ++ jr Z a :: rest) (hcat : (rest.map fun v => v.category).sum ≤ 8) (hd : decode cc pc = .ok (.invokevirtual idx, 3)) (hR : rm.frames + 1 ≤ R.frames ∧ 8 + (maxL + 11) + rm.locals ≤ R.locals) (hC : cells + rm.cells ≤ R.cells ∧ slots + rm.slots ≤ R.slots) (hm : cells + rm.cells ≤ mc ∧ slots + rm.slots ≤ ms)
    (kk : ∀ (r : Int) (C' : jC), jWF n C' → post r C' → jG p l e R s m args below meth c nL Z A (jws Z n C') (cells + rm.cells) (slots + rm.slots) (vx_MQ below Qc (jXC Z n sz ex) args s mc ms (jA Z n sz)) (pc + 3) lv (jn Z r :: rest)) : jG p l e R s m args below meth c nL Z A (jws Z n C) cells slots (vx_MQ below Qc (jXC Z n sz ex) args s mc ms (jA Z n sz)) pc lv st := by
  subst hAe
  intro H locs ls hP hD hS hl
  have hsub := jA_sub hD hS X.2.2.2.2.2.2.1
  obtain ⟨g1, g2, g3, g4, g5⟩ := hy
  have hrv := jrecv X ha hcell hci hP
  rw [hyc] at hrv
  subst hst
  refine vx_callq (vx_runV (As := avs) (rest := rest) (b := jad Z a.toNat) (C := y.cls) ⟨X.1, X.2.1, X.2.2.1, X.2.2.2.1, X.2.2.2.2.1⟩ (hM H.size) ⟨jcb_of X g4 g3 hlink g5 hR, X.2.2.2.2.1 _ g1, X.2.2.2.2.1 _ g2⟩ ⟨jPc_blind, hrv, jpre_of X hP hD hS _⟩ rfl hn hl.1 rfl (lv_room hcat) hd hC) hS (fun q _ h => hsub q h) hsub (fun q _ h => hsub q h) (fun E ce q9 u t H1 locs1 ht hvm hw hB hz1 hk1 hS1 hce hcv hcl => ?_) (fun r u t H1 locs1 ht hvm hw hB hz1 hk1 hS1 => ?_)
  · refine vx_out (E := E) (fun x hx => (htab x hx).elim) hlocks hce hcv hcl (fun t2 ht2 _ => ?_) hS1.2.2 hm.1 hm.2
    refine ⟨u, trivial, ⟨hB.1, ?_⟩, hS1.F ht2⟩
    have h7 : jB Z n u t := hB.2
    unfold jB at h7 ⊢
    rw [ht2, ← ht]
    exact h7
  · obtain ⟨r', C'⟩ := u
    obtain ⟨rfl, hwf, hp⟩ := hw
    exact kk r' C' hwf hp H1 locs1 ls (by rw [← ht]; exact hB) (jD_any hD) hS1 hl
-- returns
theorem jg_ireturn {x : Int} {post : Int → jC → Prop} {mc ms sz : Nat} (X : jX p l s m args c cc own nL Z A) (hAe : A = jA Z n sz) (hlocks : meth.locks = false) (hr : meth.sig.returnType = some rt) (hd : decode cc pc = .ok (.ireturn, 1)) (hc : cells ≤ mc ∧ slots ≤ ms) (hnw : narrow rt (jI x) = jI x) (rx : jRng x) (hw : jWF n C) (h : post x C) : jG p l e R s m args below meth c nL Z A (jws Z n C) cells slots (MQ below (jQi Z n sz post) args s mc ms (jA Z n sz)) pc lv [jI x] := by
  subst hAe
  intro H locs ls hP hD hS hl
  refine W.widen hc.1 hc.2 ?_
  exact W.zret X.1 X.2.1 hr hnw (fun t ht hW => ⟨⟨Int32.ofInt x, (x, C), rfl, ⟨rfl, rx, hw, h⟩, by show va_P Z.1 jcl (jws Z n C) t.heap; rw [ht]; exact hP⟩, hS.F ht⟩) hS.2.2 hd hlocks
theorem jg_return {post : jC → Prop} {mc ms sz : Nat} (X : jX p l s m args c cc own nL Z A) (hAe : A = jA Z n sz) (hlocks : meth.locks = false) (hr : meth.sig.returnType = none) (hd : decode cc pc = .ok (.return_, 1)) (hc : cells ≤ mc ∧ slots ≤ ms) (hw : jWF n C) (h : post C) : jG p l e R s m args below meth c nL Z A (jws Z n C) cells slots (MQ below (jQv Z n sz post) args s mc ms (jA Z n sz)) pc lv [] := by
  subst hAe
  intro H locs ls hP hD hS hl
  refine W.widen hc.1 hc.2 ?_
  exact W.vret X.1 X.2.1 hr (fun t ht hW => ⟨⟨C, rfl, ⟨hw, h⟩, by show va_P Z.1 jcl (jws Z n C) t.heap; rw [ht]; exact hP⟩, hS.F ht⟩) hS.2.2 hd hlocks
theorem jg_areturn {x : Int} {post : Int → jC → Prop} {mc ms sz : Nat} (X : jX p l s m args c cc own nL Z A) (hAe : A = jA Z n sz) (hlocks : meth.locks = false) (hr : meth.sig.returnType = some rt) (hrt : (∃ n, rt = .object n) ∨ ∃ t, rt = .array t) (hd : decode cc pc = .ok (.areturn, 1)) (hc : cells ≤ mc ∧ slots ≤ ms) (hw : jWF n C) (h : post x C) : jG p l e R s m args below meth c nL Z A (jws Z n C) cells slots (MQ below (jQr Z n sz post) args s mc ms (jA Z n sz)) pc lv [jn Z x] := by
  subst hAe
  intro H locs ls hP hD hS hl
  refine W.widen hc.1 hc.2 ?_
  refine W.aret X.1 X.2.1 hr hrt ?_ (fun t ht hW => ⟨⟨jo Z x, (x, C), rfl, ⟨rfl, hw, h⟩, by show va_P Z.1 jcl (jws Z n C) t.heap; rw [ht]; exact hP⟩, hS.F ht⟩) hS.2.2 hd hlocks
  by_cases hx : x < 0
  · exact Or.inl (by simp [jn, jo, hx, va_rf])
  · exact Or.inr ⟨_, jn_pos (by omega)⟩
theorem jg_ret_x {Qc : Array Value → State → Outcome → State → Prop} {XC : String → State → State → Prop} {mc ms : Nat} {free : Addr → Prop} (kk : jG p l e R s m args below meth c nL Z A ws cells slots (MQ below Qc args s mc ms free) pc lv st) : jG p l e R s m args below meth c nL Z A ws cells slots (vx_MQ below Qc XC args s mc ms free) pc lv st :=
  fun H locs ls hP hD hS hl => vx_ret (kk H locs ls hP hD hS hl)
-- entries
theorem jCi_of {post : Int → jC → Prop} {lv0 : List (Nat × Value)} (hy : plainName y.cls = true) (hlen : (lg_sl avs).length ≤ maxL) (hlv : lv_args 0 avs = lv0)
    (body : ∀ (p : Program) (e : Env) (s : State) (m : MethodId) (args : Array Value) (below : List Frame) (meth : Method) (c : Code) (A : Nat → Prop) (sz : Nat), jX p l s m args c bytes y.cls maxL Z A → A = jA Z n sz → meth.sig.returnType = some rt → meth.locks = false → jG p l e rm s m args below meth c maxL Z A (jws Z n C) 0 0 (MQ below (jQi Z n sz post) args s rm.cells rm.slots (jA Z n sz)) 0 lv0 []) : jCi l y bytes maxL rt rm Z n C avs post := by
  intro sz
  refine Met.ofW (cc := bytes) (maxL := maxL) (ret := some rt) hy rfl ?_
  intro p e s m args below meth c s₁ B hml hv
  obtain ⟨rfl, hsz, hP, hK, hD0, hB⟩ := hv
  have hts := atoms_spec (ws := jW y bytes maxL (some rt)) B.pre
  rw [hsz] at hB
  have X : jX p l s m avs.toArray c bytes y.cls maxL Z (jA Z n sz) := ⟨B.exec, B.bytes, hml, findClass_of_methodNamed B.named, fun w hw => hts w (List.mem_cons_of_mem _ hw), hK, fun q hq => Or.inr (by rw [← hsz]; exact hq), hB⟩
  have hl := lv_entry avs (n := maxL) hlen
  rw [lg_entry_eq]
  rw [hlv] at hl
  exact body p e s m _ below meth c _ sz X rfl B.returns B.notSynchronized s.heap [] _ hP (jA_in hD0 (fun i hi => Or.inl ⟨i, hi, rfl⟩)) va_S.rf hl
theorem jCv_of {post : jC → Prop} {lv0 : List (Nat × Value)} (hy : plainName y.cls = true) (hlen : (lg_sl avs).length ≤ maxL) (hlv : lv_args 0 avs = lv0)
    (body : ∀ (p : Program) (e : Env) (s : State) (m : MethodId) (args : Array Value) (below : List Frame) (meth : Method) (c : Code) (A : Nat → Prop) (sz : Nat), jX p l s m args c bytes y.cls maxL Z A → A = jA Z n sz → meth.sig.returnType = none → meth.locks = false → jG p l e rm s m args below meth c maxL Z A (jws Z n C) 0 0 (MQ below (jQv Z n sz post) args s rm.cells rm.slots (jA Z n sz)) 0 lv0 []) : jCv l y bytes maxL rm Z n C avs post := by
  intro sz
  refine Met.ofW (cc := bytes) (maxL := maxL) (ret := none) hy rfl ?_
  intro p e s m args below meth c s₁ B hml hv
  obtain ⟨rfl, hsz, hP, hK, hD0, hB⟩ := hv
  have hts := atoms_spec (ws := jW y bytes maxL none) B.pre
  rw [hsz] at hB
  have X : jX p l s m avs.toArray c bytes y.cls maxL Z (jA Z n sz) := ⟨B.exec, B.bytes, hml, findClass_of_methodNamed B.named, fun w hw => hts w (List.mem_cons_of_mem _ hw), hK, fun q hq => Or.inr (by rw [← hsz]; exact hq), hB⟩
  have hl := lv_entry avs (n := maxL) hlen
  rw [lg_entry_eq]
  rw [hlv] at hl
  exact body p e s m _ below meth c _ sz X rfl B.returns B.notSynchronized s.heap [] _ hP (jA_in hD0 (fun i hi => Or.inl ⟨i, hi, rfl⟩)) va_S.rf hl
theorem jCr_of {post : Int → jC → Prop} {lv0 : List (Nat × Value)} (hy : plainName y.cls = true) (hlen : (lg_sl avs).length ≤ maxL) (hlv : lv_args 0 avs = lv0)
    (body : ∀ (p : Program) (e : Env) (s : State) (m : MethodId) (args : Array Value) (below : List Frame) (meth : Method) (c : Code) (A : Nat → Prop) (sz : Nat), jX p l s m args c bytes y.cls maxL Z A → A = jA Z n sz → meth.sig.returnType = some rt → meth.locks = false → jG p l e rm s m args below meth c maxL Z A (jws Z n C) 0 0 (MQ below (jQr Z n sz post) args s rm.cells rm.slots (jA Z n sz)) 0 lv0 []) : jCr l y bytes maxL rt rm Z n C avs post := by
  intro sz
  refine Met.ofW (cc := bytes) (maxL := maxL) (ret := some rt) hy rfl ?_
  intro p e s m args below meth c s₁ B hml hv
  obtain ⟨rfl, hsz, hP, hK, hD0, hB⟩ := hv
  have hts := atoms_spec (ws := jW y bytes maxL (some rt)) B.pre
  rw [hsz] at hB
  have X : jX p l s m avs.toArray c bytes y.cls maxL Z (jA Z n sz) := ⟨B.exec, B.bytes, hml, findClass_of_methodNamed B.named, fun w hw => hts w (List.mem_cons_of_mem _ hw), hK, fun q hq => Or.inr (by rw [← hsz]; exact hq), hB⟩
  have hl := lv_entry avs (n := maxL) hlen
  rw [lg_entry_eq]
  rw [hlv] at hl
  exact body p e s m _ below meth c _ sz X rfl B.returns B.notSynchronized s.heap [] _ hP (jA_in hD0 (fun i hi => Or.inl ⟨i, hi, rfl⟩)) va_S.rf hl
theorem jXi_of {post : Int → jC → Prop} {ex : String → jC → Prop} {lv0 : List (Nat × Value)} (hy : plainName y.cls = true) (hlen : (lg_sl avs).length ≤ maxL) (hlv : lv_args 0 avs = lv0)
    (body : ∀ (p : Program) (e : Env) (s : State) (m : MethodId) (args : Array Value) (below : List Frame) (meth : Method) (c : Code) (A : Nat → Prop) (sz : Nat), jX p l s m args c bytes y.cls maxL Z A → A = jA Z n sz → meth.sig.returnType = some rt → meth.locks = false → (∀ x ∈ c.exceptionTable.toList, False) → jG p l e rm s m args below meth c maxL Z A (jws Z n C) 0 0 (vx_MQ below (jQi Z n sz post) (jXC Z n sz ex) args s rm.cells rm.slots (jA Z n sz)) 0 lv0 []) : jXi l y bytes maxL rt rm Z n C avs ex post := by
  intro sz
  refine vx_ofW (cc := bytes) (maxL := maxL) (ret := some rt) hy rfl ?_
  intro p e s m args below meth c s₁ B hml htab hv
  obtain ⟨rfl, hsz, hP, hK, hD0, hB⟩ := hv
  have hts := atoms_spec (ws := jW y bytes maxL (some rt)) B.pre
  rw [hsz] at hB
  have X : jX p l s m avs.toArray c bytes y.cls maxL Z (jA Z n sz) := ⟨B.exec, B.bytes, hml, findClass_of_methodNamed B.named, fun w hw => hts w (List.mem_cons_of_mem _ hw), hK, fun q hq => Or.inr (by rw [← hsz]; exact hq), hB⟩
  have hl := lv_entry avs (n := maxL) hlen
  rw [lg_entry_eq]
  rw [hlv] at hl
  exact body p e s m _ below meth c _ sz X rfl B.returns B.notSynchronized htab s.heap [] _ hP (jA_in hD0 (fun i hi => Or.inl ⟨i, hi, rfl⟩)) va_S.rf hl
theorem jXv_of {post : jC → Prop} {ex : String → jC → Prop} {lv0 : List (Nat × Value)} (hy : plainName y.cls = true) (hlen : (lg_sl avs).length ≤ maxL) (hlv : lv_args 0 avs = lv0)
    (body : ∀ (p : Program) (e : Env) (s : State) (m : MethodId) (args : Array Value) (below : List Frame) (meth : Method) (c : Code) (A : Nat → Prop) (sz : Nat), jX p l s m args c bytes y.cls maxL Z A → A = jA Z n sz → meth.sig.returnType = none → meth.locks = false → (∀ x ∈ c.exceptionTable.toList, False) → jG p l e rm s m args below meth c maxL Z A (jws Z n C) 0 0 (vx_MQ below (jQv Z n sz post) (jXC Z n sz ex) args s rm.cells rm.slots (jA Z n sz)) 0 lv0 []) : jXv l y bytes maxL rm Z n C avs ex post := by
  intro sz
  refine vx_ofW (cc := bytes) (maxL := maxL) (ret := none) hy rfl ?_
  intro p e s m args below meth c s₁ B hml htab hv
  obtain ⟨rfl, hsz, hP, hK, hD0, hB⟩ := hv
  have hts := atoms_spec (ws := jW y bytes maxL (none)) B.pre
  rw [hsz] at hB
  have X : jX p l s m avs.toArray c bytes y.cls maxL Z (jA Z n sz) := ⟨B.exec, B.bytes, hml, findClass_of_methodNamed B.named, fun w hw => hts w (List.mem_cons_of_mem _ hw), hK, fun q hq => Or.inr (by rw [← hsz]; exact hq), hB⟩
  have hl := lv_entry avs (n := maxL) hlen
  rw [lg_entry_eq]
  rw [hlv] at hl
  exact body p e s m _ below meth c _ sz X rfl B.returns B.notSynchronized htab s.heap [] _ hP (jA_in hD0 (fun i hi => Or.inl ⟨i, hi, rfl⟩)) va_S.rf hl
theorem jXr_of {post : Int → jC → Prop} {ex : String → jC → Prop} {lv0 : List (Nat × Value)} (hy : plainName y.cls = true) (hlen : (lg_sl avs).length ≤ maxL) (hlv : lv_args 0 avs = lv0)
    (body : ∀ (p : Program) (e : Env) (s : State) (m : MethodId) (args : Array Value) (below : List Frame) (meth : Method) (c : Code) (A : Nat → Prop) (sz : Nat), jX p l s m args c bytes y.cls maxL Z A → A = jA Z n sz → meth.sig.returnType = some rt → meth.locks = false → (∀ x ∈ c.exceptionTable.toList, False) → jG p l e rm s m args below meth c maxL Z A (jws Z n C) 0 0 (vx_MQ below (jQr Z n sz post) (jXC Z n sz ex) args s rm.cells rm.slots (jA Z n sz)) 0 lv0 []) : jXr l y bytes maxL rt rm Z n C avs ex post := by
  intro sz
  refine vx_ofW (cc := bytes) (maxL := maxL) (ret := some rt) hy rfl ?_
  intro p e s m args below meth c s₁ B hml htab hv
  obtain ⟨rfl, hsz, hP, hK, hD0, hB⟩ := hv
  have hts := atoms_spec (ws := jW y bytes maxL (some rt)) B.pre
  rw [hsz] at hB
  have X : jX p l s m avs.toArray c bytes y.cls maxL Z (jA Z n sz) := ⟨B.exec, B.bytes, hml, findClass_of_methodNamed B.named, fun w hw => hts w (List.mem_cons_of_mem _ hw), hK, fun q hq => Or.inr (by rw [← hsz]; exact hq), hB⟩
  have hl := lv_entry avs (n := maxL) hlen
  rw [lg_entry_eq]
  rw [hlv] at hl
  exact body p e s m _ below meth c _ sz X rfl B.returns B.notSynchronized htab s.heap [] _ hP (jA_in hD0 (fun i hi => Or.inl ⟨i, hi, rfl⟩)) va_S.rf hl
-- a throw of one's own
theorem jg_throw {ik ic : Nat} {cls : String} {ex : String → jC → Prop} {Qc : Array Value → State → Outcome → State → Prop} {mc ms sz : Nat} (X : jX p l s m args c cc own nL Z A) (hAe : A = jA Z n sz) (htab : ∀ x ∈ c.exceptionTable.toList, False) (hlocks : meth.locks = false) (hcls : Bundle.fit cls = true)
    (hk : Cond.classLink own ik cls ∈ jTB) (hini : Cond.initialized cls ∈ jTB) (hat : ∀ w ∈ vx_at0 own ic cls ["java/lang/RuntimeException", "java/lang/Exception"], w ∈ jTB ∨ w ∈ jNest) (hot : ∀ w ∈ Cond.classLink own ik cls :: Cond.initialized cls :: vx_at0 own ic cls ["java/lang/RuntimeException", "java/lang/Exception"], vx_ot w = true)
    (d0 : decode cc pc = .ok (.new ik, 3)) (d3 : decode cc (pc + 3) = .ok (.dup, 1)) (d4 : decode cc (pc + 4) = .ok (.invokespecial ic, 3)) (d7 : decode cc (pc + 7) = .ok (.athrow, 1))
    (hR : 5 < R.frames ∧ (st.map fun v => v.category).sum + 81 ≤ R.locals ∧ cells + 1 ≤ R.cells ∧ slots + 6 ≤ R.slots) (hm : cells + 1 ≤ mc ∧ slots + 6 ≤ ms) (hw : jWF n C) (h : ex cls C) : jG p l e R s m args below meth c nL Z A (jws Z n C) cells slots (vx_MQ below Qc (jXC Z n sz ex) args s mc ms (jA Z n sz)) pc lv st := by
  subst hAe
  intro H locs ls hP hD hS hl
  have hb := X.2.2.2.2.2.2.2
  refine vx_throw0 (names := ["java/lang/RuntimeException", "java/lang/Exception"]) X.1 X.2.1 hb.2.2.2.2.2.2.2 X.2.2.2.1 hcls (by decide) (X.2.2.2.2.1 _ hk) (X.2.2.2.2.1 _ hini) (fun w hw => ?_) hot hb.2.2.2.1 hb.2.2.2.2.1 hS (hl.1.trans X.2.2.1.symm) d0 d3 d4 d7 (fun x hx => (htab x hx).elim) hR.1 (by simp only [List.length_cons, List.length_nil]; omega) hR.2.2.1 hR.2.2.2 hlocks (fun t hvm hsz hkeep => ?_) hS.2.2 hm.1 hm.2
  · rcases hat w hw with h1 | h1
    · exact X.2.2.2.2.1 w h1
    · have h2 := hb.1 w h1
      have h3 : w.onTables = true := by
        have h4 := hot w (List.mem_cons_of_mem _ (List.mem_cons_of_mem _ hw))
        simp only [vx_ot, Bool.or_eq_true] at h4
        rcases h4 with h4 | h4
        · exact h4
        · rcases good_of_word h4 with h5 | ⟨ty, rfl⟩
          · simp only [Bool.and_eq_true] at h5
            exact h5.1
          · have h6 := (List.mem_filter.mp h1).2
            simp [jNestB] at h6
      exact va_Nw.use h3 h2
  · refine ⟨C, trivial, ⟨⟨hw, h⟩, ?_⟩, ?_⟩
    · exact hP.kept (fun k q hk => hkeep q.1 (hP k q hk).lt)
    · exact ⟨Nat.le_trans hS.1 hsz, fun q h1 h2 => (hkeep q (Nat.lt_of_lt_of_le h1 hS.1)).trans (hS.2.1 q h1 h2)⟩
end JCALL

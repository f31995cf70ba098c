-- pushing cells behind a segment
def jClB : List Nat → Bool
  | [] => true
  | c :: L => Nat.ble (jReach c) (L.length + 1) && (!(c == 22) && (!(c == 11) && jClB L))
theorem jClo_of {C : jC} {L : List Nat} : ∀ {B : Nat}, jClB L = true → jClo C B L := by
  induction L with
  | nil => intro B _; trivial
  | cons c L ih =>
    intro B h
    have h : (Nat.ble (jReach c) (L.length + 1) && (!(c == 22) && (!(c == 11) && jClB L))) = true := h
    simp only [Bool.and_eq_true, Bool.not_eq_true', beq_eq_false_iff_ne] at h
    obtain ⟨h1, h2, h3, h4⟩ := h
    exact ⟨⟨Nat.le_of_ble_eq_true h1, fun q => absurd q h2, fun q => absurd q h3⟩, ih h4⟩
section JPUSH
variable {p : Program} {l : Launch} {e : Env} {R : Room} {s : State} {m : MethodId} {args : Array Value} {below : List Frame} {meth : Method} {c : Code} {cc : ByteArray} {own : String} {nL : Nat} {Z : jE} {A : Nat → Prop} {cells slots : Nat} {Q : State → Prop} {pc : Nat} {lv : List (Nat × Value)} {st : List Value} {ws ws' : va_W} {C : jC}
variable {y : MethodName} {bytes : ByteArray} {maxL idx ix : Nat} {rm : Room} {P : (Nat → Nat) → va_W} {ad : Nat → Nat} {b j : Nat} {L : List Nat}
theorem jg_ws (h : ws = ws') (kk : jG p l e R s m args below meth c nL Z A ws' cells slots Q pc lv st) : jG p l e R s m args below meth c nL Z A ws cells slots Q pc lv st := by rw [h]; exact kk
theorem jg_conv (h1 : ∀ H, va_P Z.1 jcl ws H → va_P Z.1 jcl ws' H) (h2 : ws'.map Prod.fst = ws.map Prod.fst) (kk : jG p l e R s m args below meth c nL Z A ws' cells slots Q pc lv st) : jG p l e R s m args below meth c nL Z A ws cells slots Q pc lv st :=
  fun H locs ls hP hD hS hl => kk H locs ls (h1 H hP) (va_D_ad hD h2) hS hl
theorem jg_pushi {N : Nat} (X : jX p l s m args c cc own nL Z A) (hj : b + L.length = j) (hN : N < 100000) (hd : decode cc pc = .ok (.newarray .int, 2)) (hC : cells + 1 ≤ R.cells ∧ slots + N ≤ R.slots) (hcell : ∀ (Z : jE) (a : Int) (f : Int → Int), jcell Z (1000 + N) a f = jarr Z N f) (hre : jReach (1000 + N) = 1) (hPc : ∀ ad' : Nat → Nat, (∀ i, i < j → ad' i = ad i) → P ad' = P ad) (hc : jClo C b L) (hz : ∀ k, C (j : Int) k = 0)
    (kk : ∀ ad' : Nat → Nat, (∀ i, i < j → ad' i = ad i) → jG p l e R s m args below meth c nL Z A (P ad' ++ jSg Z ad' C b (L ++ [1000 + N])) (cells + 1) (slots + N) Q (pc + 2) lv (.ref (ad' j) :: st)) : jG p l e R s m args below meth c nL Z A (P ad ++ jSg Z ad C b L) cells slots Q pc lv (jI N :: st) := by
  subst hj
  refine jg_newi X hN hd hC (fun q => ?_)
  intro H locs ls hP hD hS hl
  have e : [(q, jarr Z N (fun _ => 0))] = jSg Z (fun _ => q) C (b + L.length) [1000 + N] := by
    show _ = [(q, jcell (jZa Z (fun _ => q)) (1000 + N) ((b + L.length : Nat) : Int) (C ((b + L.length : Nat) : Int)))]
    rw [hcell]
    have : C ((b + L.length : Nat) : Int) = fun _ => 0 := funext hz
    rw [this]; rfl
  rw [e] at hP hD
  obtain ⟨ad', e1, e2, p', d'⟩ := jsg_glue hPc hc (show jClo C (b + L.length) [1000 + N] from ⟨⟨by rw [hre]; exact Nat.le_refl 1, fun q => by omega, fun q => by omega⟩, trivial⟩) hP hD
  have := kk ad' e1 H locs ls p' d' hS hl
  rw [e2 _ (Nat.le_refl _)] at this
  exact this
theorem jg_pushb (X : jX p l s m args c cc own nL Z A) (hj : b + L.length = j) (hd : decode cc pc = .ok (.newarray .byte, 2)) (hC : cells + 1 ≤ R.cells ∧ slots + 400 ≤ R.slots) (hPc : ∀ ad' : Nat → Nat, (∀ i, i < j → ad' i = ad i) → P ad' = P ad) (hc : jClo C b L) (hz : ∀ k, C (j : Int) k = 0)
    (kk : ∀ ad' : Nat → Nat, (∀ i, i < j → ad' i = ad i) → jG p l e R s m args below meth c nL Z A (P ad' ++ jSg Z ad' C b (L ++ [20])) (cells + 1) (slots + 400) Q (pc + 2) lv (.ref (ad' j) :: st)) : jG p l e R s m args below meth c nL Z A (P ad ++ jSg Z ad C b L) cells slots Q pc lv (jI 400 :: st) := by
  subst hj
  refine jg_newb (N := 400) X (by decide) hd hC (fun q => ?_)
  intro H locs ls hP hD hS hl
  have e : [(q, (.inl (Z.2.1 1, 400, .inl (fun _ => Int32.ofInt 0)) : va_E))] = jSg Z (fun _ => q) C (b + L.length) [20] := by
    show _ = [(q, jcell (jZa Z (fun _ => q)) 20 ((b + L.length : Nat) : Int) (C ((b + L.length : Nat) : Int)))]
    have : C ((b + L.length : Nat) : Int) = fun _ => 0 := funext hz
    rw [this]; rfl
  rw [e] at hP hD
  obtain ⟨ad', e1, e2, p', d'⟩ := jsg_glue hPc hc (show jClo C (b + L.length) [20] from ⟨⟨Nat.le_refl 1, fun q => by omega, fun q => by omega⟩, trivial⟩) hP hD
  have := kk ad' e1 H locs ls p' d' hS hl
  rw [e2 _ (Nat.le_refl _)] at this
  exact this
theorem jg_pushX {ci N : Nat} {fs : List Value} {T : u_T} {Cn : String} {ty : Nat → FieldType} {LX : List Nat} (X : jX p l s m args c cc own nL Z A) (hj : b + L.length = j) (hM : jN l y bytes maxL rm Z C j LX ci fs) (hcl : jcl[ci]? = some (Cn, T, N)) (hin : ∀ w ∈ u_ws Cn T N, w ∈ jTB) (hty : ∀ k, k < N → parseFieldDescriptor (T k).2.2.1 = some (ty k)) (hfs : ∀ j, j < N → defaultValue (ty j) = vp_V fs j) (hk : Cond.classLink own idx Cn ∈ jTB) (hinst : Cond.instantiable Cn N ∈ jTB) (hini : Cond.initialized Cn ∈ jTB) (hyc : y.cls = Cn) (hyn : y.name = "<init>") (him : Cond.instanceMethod y ∈ jTB) (hcode : Cond.code y bytes maxL none ∈ jTB) (hdc : y.cls ≠ "java/lang/invoke/MethodHandle" ∧ y.cls ≠ "java/lang/invoke/VarHandle" ∧ (parseMethodDescriptor y.desc).map (fun d => d.parameters.length) = some 0) (hlink : Cond.methodLink own ix y ∈ jTB ∨ Cond.methodLinkNest own ix y "PrivateViews" ∈ jNest)
    (d0 : decode cc pc = .ok (.new idx, 3)) (d3 : decode cc (pc + 3) = .ok (.dup, 1)) (d4 : decode cc (pc + 4) = .ok (.invokespecial ix, 3)) (hR : rm.frames + 1 ≤ R.frames ∧ 8 + (maxL + 11) + rm.locals ≤ R.locals) (hcat : (st.map fun v => v.category).sum + 1 ≤ 8) (hC : cells + 1 + rm.cells ≤ R.cells ∧ slots + N + rm.slots ≤ R.slots)
    (hPc : ∀ ad' : Nat → Nat, (∀ i, i < j → ad' i = ad i) → P ad' = P ad) (hc : jClo C b L) (hcX : jClo C j LX)
    (kk : ∀ ad' : Nat → Nat, (∀ i, i < j → ad' i = ad i) → jG p l e R s m args below meth c nL Z A (P ad' ++ jSg Z ad' C b (L ++ LX)) (cells + 1 + rm.cells) (slots + N + rm.slots) Q (pc + 7) lv (.ref (ad' j) :: st)) : jG p l e R s m args below meth c nL Z A (P ad ++ jSg Z ad C b L) cells slots Q pc lv st := by
  subst hj
  refine jg_newI X hM hcl hin hty hfs hk hinst hini hyc hyn him hcode hdc hlink d0 d3 d4 hR hcat hC (fun adX => ?_)
  intro H locs ls hP hD hS hl
  obtain ⟨ad', e1, e2, p', d'⟩ := jsg_glue hPc hc hcX hP hD
  have := kk ad' e1 H locs ls p' d' hS hl
  rw [e2 _ (Nat.le_refl _)] at this
  exact this
end JPUSH
theorem jrn {Z : jE} {ad : Nat → Nat} {B : Nat} (k : Int) (n : Nat) (h : k = (n : Int)) : jr (jZa Z ad) ((B : Int) + k) = .ref (ad (B + n)) := by
  subst h
  show Value.ref (ad ((B : Int) + (n : Int)).toNat) = _
  have : ((B : Int) + (n : Int)).toNat = B + n := by omega
  rw [this]

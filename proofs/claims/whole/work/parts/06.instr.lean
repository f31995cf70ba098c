section JR
variable {p : Program} {l : Launch} {e : Env} {R : Room} {s : State} {m : MethodId} {args : Array Value} {below : List Frame} {meth : Method} {c : Code} {cc : ByteArray} {own : String} {nL : Nat} {Z : jE} {A : Nat → Prop} {cells slots : Nat} {Q : State → Prop} {pc n : Nat} {lv : List (Nat × Value)} {st : List Value} {ws : va_W} {C : jC}
theorem ji_add (x y : Int) : Int32.ofInt x + Int32.ofInt y = Int32.ofInt (x + y) := (Int32.ofInt_add x y).symm
theorem ji_sub (x y : Int) : Int32.ofInt x - Int32.ofInt y = Int32.ofInt (x - y) := (Int32.ofInt_sub x y).symm
theorem ji_mul (x y : Int) : Int32.ofInt x * Int32.ofInt y = Int32.ofInt (x * y) := (Int32.ofInt_mul x y).symm
theorem ji_toInt {x : Int} (h : jRng x) : (Int32.ofInt x).toInt = x := Int32.toInt_ofInt_of_le h.1 h.2
theorem ji_lt {x y : Int} (hx : jRng x) (hy : jRng y) : Int32.ofInt x < Int32.ofInt y ↔ x < y := by
  rw [Int32.lt_iff_toInt_lt, ji_toInt hx, ji_toInt hy]
theorem ji_le {x y : Int} (hx : jRng x) (hy : jRng y) : Int32.ofInt x ≤ Int32.ofInt y ↔ x ≤ y := by
  rw [Int32.le_iff_toInt_le, ji_toInt hx, ji_toInt hy]
theorem ji_eq {x y : Int} (hx : jRng x) (hy : jRng y) : Int32.ofInt x = Int32.ofInt y ↔ x = y := by
  rw [← Int32.toInt_inj, ji_toInt hx, ji_toInt hy]
theorem ji_of (x : Int32) : Int32.ofInt x.toInt = x := Int32.ofInt_toInt x
theorem ji_rng (x : Int32) : jRng x.toInt := ⟨Int32.le_toInt x, Int32.toInt_lt x⟩
theorem ji_0 : jRng 0 := ⟨by decide, by decide⟩
theorem ji_clamp {x : Int} (h0 : 0 ≤ x) (h1 : x < 2147483648) : (Int32.ofInt x).toNatClampNeg = x.toNat := by
  show (Int32.ofInt x).toInt.toNat = x.toNat
  rw [ji_toInt ⟨by omega, h1⟩]
theorem ji_in {x : Int} {N : Nat} (h0 : 0 ≤ x) (h1 : x < N) (hN : N < 2147483648) : vp_in (Int32.ofInt x) N := by
  rw [vp_in_iff, ji_toInt ⟨by omega, by omega⟩]
  exact ⟨h0, h1⟩
def jAnd (x y : Int) : Int := (Int32.ofInt x &&& Int32.ofInt y).toInt
def jOr (x y : Int) : Int := (Int32.ofInt x ||| Int32.ofInt y).toInt
def jShl (x y : Int) : Int := (Int32.ofInt x <<< (Int32.ofInt y &&& 31)).toInt
def jShr (x y : Int) : Int := (Int32.ofInt x >>> (Int32.ofInt y &&& 31)).toInt
def jByte (x : Int) : Int := (Int32.ofInt x).toInt8.toInt32.toInt
theorem jAnd_rng (x y : Int) : jRng (jAnd x y) := ji_rng _
theorem jOr_rng (x y : Int) : jRng (jOr x y) := ji_rng _
theorem jShl_rng (x y : Int) : jRng (jShl x y) := ji_rng _
theorem jShr_rng (x y : Int) : jRng (jShr x y) := ji_rng _
theorem jByte_rng (x : Int) : jRng (jByte x) := ji_rng _
theorem ji_div {x y : Int} (hx : jRng x) (hy0 : 0 < y) (hy : y < 2147483648) : Int32.ofInt x / Int32.ofInt y = Int32.ofInt (x.tdiv y) := by
  rw [← ji_of (Int32.ofInt x / Int32.ofInt y), Int32.toInt_div_of_ne_right, ji_toInt hx, ji_toInt ⟨by omega, hy⟩]
  intro h
  have := congrArg Int32.toInt h
  rw [ji_toInt ⟨by omega, hy⟩] at this
  have e : (-1 : Int32).toInt = -1 := by decide
  omega
theorem ji_rem {x y : Int} (hx : jRng x) (hy0 : 0 < y) (hy : y < 2147483648) : Int32.ofInt x - Int32.ofInt x / Int32.ofInt y * Int32.ofInt y = Int32.ofInt (x.tmod y) := by
  rw [ji_div hx hy0 hy, ji_mul, ji_sub]
  congr 1
  have := Int.tmod_def x y
  rw [this, Int.mul_comm]
theorem ji_ne0 {y : Int} (h0 : 0 < y) (h : y < 2147483648) : ¬ Int32.ofInt y = 0 := by
  intro q
  have := congrArg Int32.toInt q
  rw [ji_toInt ⟨by omega, h⟩] at this
  have e : (0 : Int32).toInt = 0 := by decide
  omega
theorem ji_idx {i : Int} (h0 : 0 ≤ i) (j : Nat) : j = i.toNat ↔ (j : Int) = i := by omega
theorem ji_upd {Z : jE} {a i x : Int} {len : Nat} {C : jC} (h0 : 0 ≤ i) : jarr Z len (fun j => if j = i then x else C a j) = .inl (Z.2.1 0, len, .inl (upd (fun j => Int32.ofInt (C a j)) i.toNat (Int32.ofInt x))) := by
  unfold jarr
  congr 4
  funext j
  unfold upd
  dsimp only
  by_cases hj : j = i.toNat
  · rw [if_pos hj, if_pos ((ji_idx h0 j).mp hj)]
  · rw [if_neg hj, if_neg (fun q => hj ((ji_idx h0 j).mpr q))]
theorem ji_updB {Z : jE} {a i : Int} {y : Int32} {C : jC} (h0 : 0 ≤ i) : jcell Z 20 a (fun j => if j = i then y.toInt else C a j) = .inl (Z.2.1 1, 400, .inl (upd (fun j => Int32.ofInt (C a j)) i.toNat (Int32.ofInt y.toInt))) := by
  show Sum.inl (Z.2.1 1, 400, Sum.inl _) = _
  congr 4
  funext j
  unfold upd
  dsimp only
  by_cases hj : j = i.toNat
  · rw [if_pos hj, if_pos ((ji_idx h0 j).mp hj)]
  · rw [if_neg hj, if_neg (fun q => hj ((ji_idx h0 j).mpr q))]
theorem ji_updE {Z : jE} {a i x : Int} {C : jC} (h0 : 0 ≤ i) : jcell Z 22 a (fun j => if j = i then x else C a j) = .inl (Z.2.1 4, 8, .inr (.inr (.inr (.inr (va_up (fun j => some (jad Z (C a j).toNat)) i.toNat (some (jad Z x.toNat))))))) := by
  show Sum.inl (Z.2.1 4, 8, Sum.inr (Sum.inr (Sum.inr (Sum.inr _)))) = _
  congr 7
  funext j
  unfold va_up
  dsimp only
  by_cases hj : j = i.toNat
  · rw [if_pos hj, if_pos ((ji_idx h0 j).mp hj)]
  · rw [if_neg hj, if_neg (fun q => hj ((ji_idx h0 j).mpr q))]
theorem jg_iload {i : Nat} {x : Int} (X : jX p l s m args c cc own nL Z A) (hd : decode cc pc = .ok (.iload i, 2)) (k : Nat) (hk : lv[k]? = some (i, jI x)) (kk : jG p l e R s m args below meth c nL Z A ws cells slots Q (pc + 2) lv (jI x :: st)) : jG p l e R s m args below meth c nL Z A ws cells slots Q pc lv st :=
  fun H locs ls hP hD hS hl => lv_iload X.1 X.2.1 hd (lv_at hl k hk) (kk H locs ls hP hD hS hl)
theorem jg_aload {i : Nat} {x : Int} (X : jX p l s m args c cc own nL Z A) (hd : decode cc pc = .ok (.aload i, 2)) (k : Nat) (hk : lv[k]? = some (i, jr Z x)) (kk : jG p l e R s m args below meth c nL Z A ws cells slots Q (pc + 2) lv (jr Z x :: st)) : jG p l e R s m args below meth c nL Z A ws cells slots Q pc lv st :=
  fun H locs ls hP hD hS hl => lv_aload X.1 X.2.1 hd (lv_at hl k hk) (kk H locs ls hP hD hS hl)
theorem jg_iload_n {f : Fin 4} {x : Int} (X : jX p l s m args c cc own nL Z A) (hd : decode cc pc = .ok (.iload_n f, 1)) (k : Nat) (hk : lv[k]? = some ((f : Nat), jI x)) (kk : jG p l e R s m args below meth c nL Z A ws cells slots Q (pc + 1) lv (jI x :: st)) : jG p l e R s m args below meth c nL Z A ws cells slots Q pc lv st :=
  fun H locs ls hP hD hS hl => lv_iload_n X.1 X.2.1 hd rfl (lv_at hl k hk) (kk H locs ls hP hD hS hl)
theorem jg_aload_n {f : Fin 4} {x : Int} (X : jX p l s m args c cc own nL Z A) (hd : decode cc pc = .ok (.aload_n f, 1)) (k : Nat) (hk : lv[k]? = some ((f : Nat), jr Z x)) (kk : jG p l e R s m args below meth c nL Z A ws cells slots Q (pc + 1) lv (jr Z x :: st)) : jG p l e R s m args below meth c nL Z A ws cells slots Q pc lv st :=
  fun H locs ls hP hD hS hl => lv_aload_n X.1 X.2.1 hd rfl (lv_at hl k hk) (kk H locs ls hP hD hS hl)
theorem jg_sload_n {f : Fin 4} {x : Nat} (X : jX p l s m args c cc own nL Z A) (hd : decode cc pc = .ok (.aload_n f, 1)) (k : Nat) (hk : lv[k]? = some ((f : Nat), Value.ref x)) (kk : jG p l e R s m args below meth c nL Z A ws cells slots Q (pc + 1) lv (Value.ref x :: st)) : jG p l e R s m args below meth c nL Z A ws cells slots Q pc lv st :=
  fun H locs ls hP hD hS hl => lv_aload_n X.1 X.2.1 hd rfl (lv_at hl k hk) (kk H locs ls hP hD hS hl)
theorem jg_istore {i : Nat} {x : Int} (X : jX p l s m args c cc own nL Z A) (lv2 : List (Nat × Value)) (hd : decode cc pc = .ok (.istore i, 2)) (hi : i < nL) (hl2 : (i, jI x) :: lv.filter (fun q => !(q.1 == i) && !(q.1 + 1 == i && q.2.category == 2)) = lv2) (kk : jG p l e R s m args below meth c nL Z A ws cells slots Q (pc + 2) lv2 st) : jG p l e R s m args below meth c nL Z A ws cells slots Q pc lv (jI x :: st) :=
  fun H locs ls hP hD hS hl => lv_istore X.1 X.2.1 hd hl hi hl2 (fun ls hl => kk H locs ls hP hD hS hl)
theorem jg_astore {i : Nat} {x : Int} (X : jX p l s m args c cc own nL Z A) (lv2 : List (Nat × Value)) (hd : decode cc pc = .ok (.astore i, 2)) (hi : i < nL) (hl2 : (i, jr Z x) :: lv.filter (fun q => !(q.1 == i) && !(q.1 + 1 == i && q.2.category == 2)) = lv2) (kk : jG p l e R s m args below meth c nL Z A ws cells slots Q (pc + 2) lv2 st) : jG p l e R s m args below meth c nL Z A ws cells slots Q pc lv (jr Z x :: st) :=
  fun H locs ls hP hD hS hl => lv_astore X.1 X.2.1 hd hl hi hl2 (fun ls hl => kk H locs ls hP hD hS hl)
theorem jg_istore_n {f : Fin 4} {x : Int} (X : jX p l s m args c cc own nL Z A) (lv2 : List (Nat × Value)) (hd : decode cc pc = .ok (.istore_n f, 1)) (hi : (f : Nat) < nL) (hl2 : ((f : Nat), jI x) :: lv.filter (fun q => !(q.1 == (f : Nat)) && !(q.1 + 1 == (f : Nat) && q.2.category == 2)) = lv2) (kk : jG p l e R s m args below meth c nL Z A ws cells slots Q (pc + 1) lv2 st) : jG p l e R s m args below meth c nL Z A ws cells slots Q pc lv (jI x :: st) :=
  fun H locs ls hP hD hS hl => lv_istore_n X.1 X.2.1 hd rfl hl hi hl2 (fun ls hl => kk H locs ls hP hD hS hl)
theorem jg_astore_n {f : Fin 4} {x : Int} (X : jX p l s m args c cc own nL Z A) (lv2 : List (Nat × Value)) (hd : decode cc pc = .ok (.astore_n f, 1)) (hi : (f : Nat) < nL) (hl2 : ((f : Nat), jr Z x) :: lv.filter (fun q => !(q.1 == (f : Nat)) && !(q.1 + 1 == (f : Nat) && q.2.category == 2)) = lv2) (kk : jG p l e R s m args below meth c nL Z A ws cells slots Q (pc + 1) lv2 st) : jG p l e R s m args below meth c nL Z A ws cells slots Q pc lv (jr Z x :: st) :=
  fun H locs ls hP hD hS hl => lv_astore_n X.1 X.2.1 hd rfl hl hi hl2 (fun ls hl => kk H locs ls hP hD hS hl)
theorem jg_iinc {i : Nat} {d x : Int} (X : jX p l s m args c cc own nL Z A) (lv2 : List (Nat × Value)) (hd : decode cc pc = .ok (.iinc i d, 3)) (k : Nat) (hk : lv[k]? = some (i, jI x)) (hi : i < nL) (hl2 : (i, jI (x + d)) :: lv.filter (fun q => !(q.1 == i) && !(q.1 + 1 == i && q.2.category == 2)) = lv2) (kk : jG p l e R s m args below meth c nL Z A ws cells slots Q (pc + 3) lv2 st) : jG p l e R s m args below meth c nL Z A ws cells slots Q pc lv st :=
  fun H locs ls hP hD hS hl => lv_iinc X.1 X.2.1 hd hl hk (ji_add x d) hi hl2 (fun ls hl => kk H locs ls hP hD hS hl)
theorem jg_iconst {d : Int} (X : jX p l s m args c cc own nL Z A) (hd : decode cc pc = .ok (.iconst d, 1)) (kk : jG p l e R s m args below meth c nL Z A ws cells slots Q (pc + 1) lv (jI d :: st)) : jG p l e R s m args below meth c nL Z A ws cells slots Q pc lv st :=
  fun H locs ls hP hD hS hl => lv_iconst X.1 X.2.1 hd rfl (kk H locs ls hP hD hS hl)
theorem jg_bipush {d : Int} (X : jX p l s m args c cc own nL Z A) (hd : decode cc pc = .ok (.bipush d, 2)) (hv : (Int8.ofInt d).toInt32 = Int32.ofInt d) (kk : jG p l e R s m args below meth c nL Z A ws cells slots Q (pc + 2) lv (jI d :: st)) : jG p l e R s m args below meth c nL Z A ws cells slots Q pc lv st :=
  fun H locs ls hP hD hS hl => lv_bipush X.1 X.2.1 hd hv (kk H locs ls hP hD hS hl)
theorem jg_sipush {d : Int} (X : jX p l s m args c cc own nL Z A) (hd : decode cc pc = .ok (.sipush d, 3)) (hv : (Int16.ofInt d).toInt32 = Int32.ofInt d) (kk : jG p l e R s m args below meth c nL Z A ws cells slots Q (pc + 3) lv (jI d :: st)) : jG p l e R s m args below meth c nL Z A ws cells slots Q pc lv st :=
  fun H locs ls hP hD hS hl => lv_sipush X.1 X.2.1 hd hv (kk H locs ls hP hD hS hl)
theorem jg_ldc {i : Nat} (d : Int) (X : jX p l s m args c cc own nL Z A) (hw : Cond.constant own i (Int32.ofInt d) ∈ jTB) (hd : decode cc pc = .ok (.ldc i, 2)) (kk : jG p l e R s m args below meth c nL Z A ws cells slots Q (pc + 2) lv (jI d :: st)) : jG p l e R s m args below meth c nL Z A ws cells slots Q pc lv st :=
  fun H locs ls hP hD hS hl => lv_ldc X.1 X.2.1 X.2.2.2.1 (X.2.2.2.2.1 _ hw) hd (kk H locs ls hP hD hS hl)
theorem jg_ldcS {i : Nat} (tx : String) (q : Nat) (X : jX p l s m args c cc own nL Z A) (hw : (own, i, tx, q) ∈ jStr) (hd : decode cc pc = .ok (.ldc i, 2)) (kk : jG p l e R s m args below meth c nL Z A ws cells slots Q (pc + 2) lv (Value.ref (jsK Z q) :: st)) : jG p l e R s m args below meth c nL Z A ws cells slots Q pc lv st :=
  fun H locs ls hP hD hS hl => va_ldcS X.1 X.2.1 X.2.2.2.1 (X.2.2.2.2.2.2.2.2.1 _ hw) hd (kk H locs ls hP hD hS hl)
theorem jg_iadd {x y : Int} (X : jX p l s m args c cc own nL Z A) (hd : decode cc pc = .ok (.iadd, 1)) (kk : jG p l e R s m args below meth c nL Z A ws cells slots Q (pc + 1) lv (jI (x + y) :: st)) : jG p l e R s m args below meth c nL Z A ws cells slots Q pc lv (jI y :: jI x :: st) :=
  fun H locs ls hP hD hS hl => lv_iadd X.1 X.2.1 hd (by rw [ji_add]; exact kk H locs ls hP hD hS hl)
theorem jg_isub {x y : Int} (X : jX p l s m args c cc own nL Z A) (hd : decode cc pc = .ok (.isub, 1)) (kk : jG p l e R s m args below meth c nL Z A ws cells slots Q (pc + 1) lv (jI (x - y) :: st)) : jG p l e R s m args below meth c nL Z A ws cells slots Q pc lv (jI y :: jI x :: st) :=
  fun H locs ls hP hD hS hl => lv_isub X.1 X.2.1 hd (by rw [ji_sub]; exact kk H locs ls hP hD hS hl)
theorem jg_imul {x y : Int} (X : jX p l s m args c cc own nL Z A) (hd : decode cc pc = .ok (.imul, 1)) (kk : jG p l e R s m args below meth c nL Z A ws cells slots Q (pc + 1) lv (jI (x * y) :: st)) : jG p l e R s m args below meth c nL Z A ws cells slots Q pc lv (jI y :: jI x :: st) :=
  fun H locs ls hP hD hS hl => lv_imul X.1 X.2.1 hd (by rw [ji_mul]; exact kk H locs ls hP hD hS hl)
theorem jg_ineg {x : Int} (X : jX p l s m args c cc own nL Z A) (hd : decode cc pc = .ok (.ineg, 1)) (kk : jG p l e R s m args below meth c nL Z A ws cells slots Q (pc + 1) lv (jI (-x) :: st)) : jG p l e R s m args below meth c nL Z A ws cells slots Q pc lv (jI x :: st) :=
  fun H locs ls hP hD hS hl => lv_ineg X.1 X.2.1 hd (by rw [← Int32.ofInt_neg]; exact kk H locs ls hP hD hS hl)
theorem jg_idiv {x y : Int} (X : jX p l s m args c cc own nL Z A) (hd : decode cc pc = .ok (.idiv, 1)) (rx : jRng x) (hy0 : 0 < y) (hy : y < 2147483648) (kk : jG p l e R s m args below meth c nL Z A ws cells slots Q (pc + 1) lv (jI (x.tdiv y) :: st)) : jG p l e R s m args below meth c nL Z A ws cells slots Q pc lv (jI y :: jI x :: st) :=
  fun H locs ls hP hD hS hl => lv_idiv X.1 X.2.1 hd (ji_ne0 hy0 hy) (by rw [ji_div rx hy0 hy]; exact kk H locs ls hP hD hS hl)
theorem jg_irem {x y : Int} (X : jX p l s m args c cc own nL Z A) (hd : decode cc pc = .ok (.irem, 1)) (rx : jRng x) (hy0 : 0 < y) (hy : y < 2147483648) (kk : jG p l e R s m args below meth c nL Z A ws cells slots Q (pc + 1) lv (jI (x.tmod y) :: st)) : jG p l e R s m args below meth c nL Z A ws cells slots Q pc lv (jI y :: jI x :: st) :=
  fun H locs ls hP hD hS hl => lv_irem X.1 X.2.1 hd (ji_ne0 hy0 hy) (by rw [ji_rem rx hy0 hy]; exact kk H locs ls hP hD hS hl)
theorem jg_iand {x y : Int} (X : jX p l s m args c cc own nL Z A) (hd : decode cc pc = .ok (.iand, 1)) (kk : jG p l e R s m args below meth c nL Z A ws cells slots Q (pc + 1) lv (jI (jAnd x y) :: st)) : jG p l e R s m args below meth c nL Z A ws cells slots Q pc lv (jI y :: jI x :: st) :=
  fun H locs ls hP hD hS hl => lv_iand X.1 X.2.1 hd (by rw [← ji_of (Int32.ofInt x &&& Int32.ofInt y)]; exact kk H locs ls hP hD hS hl)
theorem jg_ior {x y : Int} (X : jX p l s m args c cc own nL Z A) (hd : decode cc pc = .ok (.ior, 1)) (kk : jG p l e R s m args below meth c nL Z A ws cells slots Q (pc + 1) lv (jI (jOr x y) :: st)) : jG p l e R s m args below meth c nL Z A ws cells slots Q pc lv (jI y :: jI x :: st) :=
  fun H locs ls hP hD hS hl => lv_ior X.1 X.2.1 hd (by rw [← ji_of (Int32.ofInt x ||| Int32.ofInt y)]; exact kk H locs ls hP hD hS hl)
theorem jg_ishl {x y : Int} (X : jX p l s m args c cc own nL Z A) (hd : decode cc pc = .ok (.ishl, 1)) (kk : jG p l e R s m args below meth c nL Z A ws cells slots Q (pc + 1) lv (jI (jShl x y) :: st)) : jG p l e R s m args below meth c nL Z A ws cells slots Q pc lv (jI y :: jI x :: st) :=
  fun H locs ls hP hD hS hl => lv_ishl X.1 X.2.1 hd (by rw [← ji_of (Int32.ofInt x <<< (Int32.ofInt y &&& 31))]; exact kk H locs ls hP hD hS hl)
theorem jg_ishr {x y : Int} (X : jX p l s m args c cc own nL Z A) (hd : decode cc pc = .ok (.ishr, 1)) (kk : jG p l e R s m args below meth c nL Z A ws cells slots Q (pc + 1) lv (jI (jShr x y) :: st)) : jG p l e R s m args below meth c nL Z A ws cells slots Q pc lv (jI y :: jI x :: st) :=
  fun H locs ls hP hD hS hl => lv_ishr X.1 X.2.1 hd (by rw [← ji_of (Int32.ofInt x >>> (Int32.ofInt y &&& 31))]; exact kk H locs ls hP hD hS hl)
theorem jg_i2b {x : Int} (X : jX p l s m args c cc own nL Z A) (hd : decode cc pc = .ok (.i2b, 1)) (kk : jG p l e R s m args below meth c nL Z A ws cells slots Q (pc + 1) lv (jI (jByte x) :: st)) : jG p l e R s m args below meth c nL Z A ws cells slots Q pc lv (jI x :: st) :=
  fun H locs ls hP hD hS hl => lv_i2b X.1 X.2.1 hd (ji_of _).symm (kk H locs ls hP hD hS hl)
theorem jg_dup {v : Value} (X : jX p l s m args c cc own nL Z A) (hd : decode cc pc = .ok (.dup, 1)) (hv : v.category = 1) (kk : jG p l e R s m args below meth c nL Z A ws cells slots Q (pc + 1) lv (v :: v :: st)) : jG p l e R s m args below meth c nL Z A ws cells slots Q pc lv (v :: st) :=
  fun H locs ls hP hD hS hl => lv_dup X.1 X.2.1 hd hv (kk H locs ls hP hD hS hl)
theorem jg_dup2 {v u : Value} (X : jX p l s m args c cc own nL Z A) (hd : decode cc pc = .ok (.dup2, 1)) (hv : v.category = 1) (hu : u.category = 1) (kk : jG p l e R s m args below meth c nL Z A ws cells slots Q (pc + 1) lv (v :: u :: v :: u :: st)) : jG p l e R s m args below meth c nL Z A ws cells slots Q pc lv (v :: u :: st) :=
  fun H locs ls hP hD hS hl => lv_dup2_11 X.1 X.2.1 hd hv hu (kk H locs ls hP hD hS hl)
theorem jg_pop {v : Value} (X : jX p l s m args c cc own nL Z A) (hd : decode cc pc = .ok (.pop, 1)) (hv : v.category = 1) (kk : jG p l e R s m args below meth c nL Z A ws cells slots Q (pc + 1) lv st) : jG p l e R s m args below meth c nL Z A ws cells slots Q pc lv (v :: st) :=
  fun H locs ls hP hD hS hl => lv_pop X.1 X.2.1 hd hv (kk H locs ls hP hD hS hl)
theorem jg_icmp_eq {x y : Int} {off : Int} {tgt : Nat} {T F : Prop} (X : jX p l s m args c cc own nL Z A) (hd : decode cc pc = .ok (.if_icmp .eq off, 3)) (ht : (pc : Int) + off = (tgt : Int)) (rx : jRng x) (ry : jRng y) (h : if x = y then T else F) (kt : x = y → T → jG p l e R s m args below meth c nL Z A ws cells slots Q tgt lv st) (kf : ¬ (x = y) → F → jG p l e R s m args below meth c nL Z A ws cells slots Q (pc + 3) lv st) : jG p l e R s m args below meth c nL Z A ws cells slots Q pc lv (jI y :: jI x :: st) := by
  intro H locs ls hP hD hS hl
  have I := ji_eq rx ry
  by_cases hq : x = y
  · rw [if_pos hq] at h
    exact lv_icmp_eq X.1 X.2.1 hd ht (fun _ => kt hq h H locs ls hP hD hS hl) (fun z => absurd (I.mpr hq) z)
  · rw [if_neg hq] at h
    exact lv_icmp_eq X.1 X.2.1 hd ht (fun z => absurd (I.mp z) hq) (fun _ => kf hq h H locs ls hP hD hS hl)
theorem jg_if_eq {x : Int} {off : Int} {tgt : Nat} {T F : Prop} (X : jX p l s m args c cc own nL Z A) (hd : decode cc pc = .ok (.ifCond .eq off, 3)) (ht : (pc : Int) + off = (tgt : Int)) (rx : jRng x) (h : if x = 0 then T else F) (kt : x = 0 → T → jG p l e R s m args below meth c nL Z A ws cells slots Q tgt lv st) (kf : ¬ (x = 0) → F → jG p l e R s m args below meth c nL Z A ws cells slots Q (pc + 3) lv st) : jG p l e R s m args below meth c nL Z A ws cells slots Q pc lv (jI x :: st) := by
  intro H locs ls hP hD hS hl
  have I := ji_eq rx ji_0
  by_cases hq : x = 0
  · rw [if_pos hq] at h
    exact lv_if_eq X.1 X.2.1 hd ht (fun _ => kt hq h H locs ls hP hD hS hl) (fun z => absurd (I.mpr hq) z)
  · rw [if_neg hq] at h
    exact lv_if_eq X.1 X.2.1 hd ht (fun z => absurd (I.mp z) hq) (fun _ => kf hq h H locs ls hP hD hS hl)
theorem jg_icmp_ne {x y : Int} {off : Int} {tgt : Nat} {T F : Prop} (X : jX p l s m args c cc own nL Z A) (hd : decode cc pc = .ok (.if_icmp .ne off, 3)) (ht : (pc : Int) + off = (tgt : Int)) (rx : jRng x) (ry : jRng y) (h : if x = y then T else F) (kf : x = y → T → jG p l e R s m args below meth c nL Z A ws cells slots Q (pc + 3) lv st) (kt : ¬ (x = y) → F → jG p l e R s m args below meth c nL Z A ws cells slots Q tgt lv st) : jG p l e R s m args below meth c nL Z A ws cells slots Q pc lv (jI y :: jI x :: st) := by
  intro H locs ls hP hD hS hl
  have I := ji_eq rx ry
  by_cases hq : x = y
  · rw [if_pos hq] at h
    exact lv_icmp_ne X.1 X.2.1 hd ht (fun z => absurd (I.mpr hq) z) (fun _ => kf hq h H locs ls hP hD hS hl)
  · rw [if_neg hq] at h
    exact lv_icmp_ne X.1 X.2.1 hd ht (fun _ => kt hq h H locs ls hP hD hS hl) (fun z => absurd (I.mp z) hq)
theorem jg_if_ne {x : Int} {off : Int} {tgt : Nat} {T F : Prop} (X : jX p l s m args c cc own nL Z A) (hd : decode cc pc = .ok (.ifCond .ne off, 3)) (ht : (pc : Int) + off = (tgt : Int)) (rx : jRng x) (h : if x = 0 then T else F) (kf : x = 0 → T → jG p l e R s m args below meth c nL Z A ws cells slots Q (pc + 3) lv st) (kt : ¬ (x = 0) → F → jG p l e R s m args below meth c nL Z A ws cells slots Q tgt lv st) : jG p l e R s m args below meth c nL Z A ws cells slots Q pc lv (jI x :: st) := by
  intro H locs ls hP hD hS hl
  have I := ji_eq rx ji_0
  by_cases hq : x = 0
  · rw [if_pos hq] at h
    exact lv_if_ne X.1 X.2.1 hd ht (fun z => absurd (I.mpr hq) z) (fun _ => kf hq h H locs ls hP hD hS hl)
  · rw [if_neg hq] at h
    exact lv_if_ne X.1 X.2.1 hd ht (fun _ => kt hq h H locs ls hP hD hS hl) (fun z => absurd (I.mp z) hq)
theorem jg_icmp_lt {x y : Int} {off : Int} {tgt : Nat} {T F : Prop} (X : jX p l s m args c cc own nL Z A) (hd : decode cc pc = .ok (.if_icmp .lt off, 3)) (ht : (pc : Int) + off = (tgt : Int)) (rx : jRng x) (ry : jRng y) (h : if x < y then T else F) (kt : x < y → T → jG p l e R s m args below meth c nL Z A ws cells slots Q tgt lv st) (kf : ¬ (x < y) → F → jG p l e R s m args below meth c nL Z A ws cells slots Q (pc + 3) lv st) : jG p l e R s m args below meth c nL Z A ws cells slots Q pc lv (jI y :: jI x :: st) := by
  intro H locs ls hP hD hS hl
  have I := ji_lt rx ry
  by_cases hq : x < y
  · rw [if_pos hq] at h
    exact lv_icmp_lt X.1 X.2.1 hd ht (fun _ => kt hq h H locs ls hP hD hS hl) (fun z => absurd (I.mpr hq) z)
  · rw [if_neg hq] at h
    exact lv_icmp_lt X.1 X.2.1 hd ht (fun z => absurd (I.mp z) hq) (fun _ => kf hq h H locs ls hP hD hS hl)
theorem jg_if_lt {x : Int} {off : Int} {tgt : Nat} {T F : Prop} (X : jX p l s m args c cc own nL Z A) (hd : decode cc pc = .ok (.ifCond .lt off, 3)) (ht : (pc : Int) + off = (tgt : Int)) (rx : jRng x) (h : if x < 0 then T else F) (kt : x < 0 → T → jG p l e R s m args below meth c nL Z A ws cells slots Q tgt lv st) (kf : ¬ (x < 0) → F → jG p l e R s m args below meth c nL Z A ws cells slots Q (pc + 3) lv st) : jG p l e R s m args below meth c nL Z A ws cells slots Q pc lv (jI x :: st) := by
  intro H locs ls hP hD hS hl
  have I := ji_lt rx ji_0
  by_cases hq : x < 0
  · rw [if_pos hq] at h
    exact lv_if_lt X.1 X.2.1 hd ht (fun _ => kt hq h H locs ls hP hD hS hl) (fun z => absurd (I.mpr hq) z)
  · rw [if_neg hq] at h
    exact lv_if_lt X.1 X.2.1 hd ht (fun z => absurd (I.mp z) hq) (fun _ => kf hq h H locs ls hP hD hS hl)
theorem jg_icmp_ge {x y : Int} {off : Int} {tgt : Nat} {T F : Prop} (X : jX p l s m args c cc own nL Z A) (hd : decode cc pc = .ok (.if_icmp .ge off, 3)) (ht : (pc : Int) + off = (tgt : Int)) (rx : jRng x) (ry : jRng y) (h : if y ≤ x then T else F) (kt : y ≤ x → T → jG p l e R s m args below meth c nL Z A ws cells slots Q tgt lv st) (kf : ¬ (y ≤ x) → F → jG p l e R s m args below meth c nL Z A ws cells slots Q (pc + 3) lv st) : jG p l e R s m args below meth c nL Z A ws cells slots Q pc lv (jI y :: jI x :: st) := by
  intro H locs ls hP hD hS hl
  have I := ji_le ry rx
  by_cases hq : y ≤ x
  · rw [if_pos hq] at h
    exact lv_icmp_ge X.1 X.2.1 hd ht (fun _ => kt hq h H locs ls hP hD hS hl) (fun z => absurd (I.mpr hq) z)
  · rw [if_neg hq] at h
    exact lv_icmp_ge X.1 X.2.1 hd ht (fun z => absurd (I.mp z) hq) (fun _ => kf hq h H locs ls hP hD hS hl)
theorem jg_if_ge {x : Int} {off : Int} {tgt : Nat} {T F : Prop} (X : jX p l s m args c cc own nL Z A) (hd : decode cc pc = .ok (.ifCond .ge off, 3)) (ht : (pc : Int) + off = (tgt : Int)) (rx : jRng x) (h : if 0 ≤ x then T else F) (kt : 0 ≤ x → T → jG p l e R s m args below meth c nL Z A ws cells slots Q tgt lv st) (kf : ¬ (0 ≤ x) → F → jG p l e R s m args below meth c nL Z A ws cells slots Q (pc + 3) lv st) : jG p l e R s m args below meth c nL Z A ws cells slots Q pc lv (jI x :: st) := by
  intro H locs ls hP hD hS hl
  have I := ji_le ji_0 rx
  by_cases hq : 0 ≤ x
  · rw [if_pos hq] at h
    exact lv_if_ge X.1 X.2.1 hd ht (fun _ => kt hq h H locs ls hP hD hS hl) (fun z => absurd (I.mpr hq) z)
  · rw [if_neg hq] at h
    exact lv_if_ge X.1 X.2.1 hd ht (fun z => absurd (I.mp z) hq) (fun _ => kf hq h H locs ls hP hD hS hl)
theorem jg_icmp_gt {x y : Int} {off : Int} {tgt : Nat} {T F : Prop} (X : jX p l s m args c cc own nL Z A) (hd : decode cc pc = .ok (.if_icmp .gt off, 3)) (ht : (pc : Int) + off = (tgt : Int)) (rx : jRng x) (ry : jRng y) (h : if y < x then T else F) (kt : y < x → T → jG p l e R s m args below meth c nL Z A ws cells slots Q tgt lv st) (kf : ¬ (y < x) → F → jG p l e R s m args below meth c nL Z A ws cells slots Q (pc + 3) lv st) : jG p l e R s m args below meth c nL Z A ws cells slots Q pc lv (jI y :: jI x :: st) := by
  intro H locs ls hP hD hS hl
  have I := ji_lt ry rx
  by_cases hq : y < x
  · rw [if_pos hq] at h
    exact lv_icmp_gt X.1 X.2.1 hd ht (fun _ => kt hq h H locs ls hP hD hS hl) (fun z => absurd (I.mpr hq) z)
  · rw [if_neg hq] at h
    exact lv_icmp_gt X.1 X.2.1 hd ht (fun z => absurd (I.mp z) hq) (fun _ => kf hq h H locs ls hP hD hS hl)
theorem jg_if_gt {x : Int} {off : Int} {tgt : Nat} {T F : Prop} (X : jX p l s m args c cc own nL Z A) (hd : decode cc pc = .ok (.ifCond .gt off, 3)) (ht : (pc : Int) + off = (tgt : Int)) (rx : jRng x) (h : if 0 < x then T else F) (kt : 0 < x → T → jG p l e R s m args below meth c nL Z A ws cells slots Q tgt lv st) (kf : ¬ (0 < x) → F → jG p l e R s m args below meth c nL Z A ws cells slots Q (pc + 3) lv st) : jG p l e R s m args below meth c nL Z A ws cells slots Q pc lv (jI x :: st) := by
  intro H locs ls hP hD hS hl
  have I := ji_lt ji_0 rx
  by_cases hq : 0 < x
  · rw [if_pos hq] at h
    exact lv_if_gt X.1 X.2.1 hd ht (fun _ => kt hq h H locs ls hP hD hS hl) (fun z => absurd (I.mpr hq) z)
  · rw [if_neg hq] at h
    exact lv_if_gt X.1 X.2.1 hd ht (fun z => absurd (I.mp z) hq) (fun _ => kf hq h H locs ls hP hD hS hl)
theorem jg_icmp_le {x y : Int} {off : Int} {tgt : Nat} {T F : Prop} (X : jX p l s m args c cc own nL Z A) (hd : decode cc pc = .ok (.if_icmp .le off, 3)) (ht : (pc : Int) + off = (tgt : Int)) (rx : jRng x) (ry : jRng y) (h : if x ≤ y then T else F) (kt : x ≤ y → T → jG p l e R s m args below meth c nL Z A ws cells slots Q tgt lv st) (kf : ¬ (x ≤ y) → F → jG p l e R s m args below meth c nL Z A ws cells slots Q (pc + 3) lv st) : jG p l e R s m args below meth c nL Z A ws cells slots Q pc lv (jI y :: jI x :: st) := by
  intro H locs ls hP hD hS hl
  have I := ji_le rx ry
  by_cases hq : x ≤ y
  · rw [if_pos hq] at h
    exact lv_icmp_le X.1 X.2.1 hd ht (fun _ => kt hq h H locs ls hP hD hS hl) (fun z => absurd (I.mpr hq) z)
  · rw [if_neg hq] at h
    exact lv_icmp_le X.1 X.2.1 hd ht (fun z => absurd (I.mp z) hq) (fun _ => kf hq h H locs ls hP hD hS hl)
theorem jg_if_le {x : Int} {off : Int} {tgt : Nat} {T F : Prop} (X : jX p l s m args c cc own nL Z A) (hd : decode cc pc = .ok (.ifCond .le off, 3)) (ht : (pc : Int) + off = (tgt : Int)) (rx : jRng x) (h : if x ≤ 0 then T else F) (kt : x ≤ 0 → T → jG p l e R s m args below meth c nL Z A ws cells slots Q tgt lv st) (kf : ¬ (x ≤ 0) → F → jG p l e R s m args below meth c nL Z A ws cells slots Q (pc + 3) lv st) : jG p l e R s m args below meth c nL Z A ws cells slots Q pc lv (jI x :: st) := by
  intro H locs ls hP hD hS hl
  have I := ji_le rx ji_0
  by_cases hq : x ≤ 0
  · rw [if_pos hq] at h
    exact lv_if_le X.1 X.2.1 hd ht (fun _ => kt hq h H locs ls hP hD hS hl) (fun z => absurd (I.mpr hq) z)
  · rw [if_neg hq] at h
    exact lv_if_le X.1 X.2.1 hd ht (fun z => absurd (I.mp z) hq) (fun _ => kf hq h H locs ls hP hD hS hl)
theorem jg_goto {off : Int} {tgt : Nat} (X : jX p l s m args c cc own nL Z A) (hd : decode cc pc = .ok (.goto off, 3)) (ht : (pc : Int) + off = (tgt : Int)) (kk : jG p l e R s m args below meth c nL Z A ws cells slots Q tgt lv st) : jG p l e R s m args below meth c nL Z A ws cells slots Q pc lv st :=
  fun H locs ls hP hD hS hl => lv_goto X.1 X.2.1 hd ht (kk H locs ls hP hD hS hl)
theorem jg_ifnull {x : Int} {off : Int} {tgt : Nat} {T F : Prop} (X : jX p l s m args c cc own nL Z A) (hd : decode cc pc = .ok (.ifnull off, 3)) (ht : (pc : Int) + off = (tgt : Int)) (h : if x < 0 then T else F) (kt : x < 0 → T → jG p l e R s m args below meth c nL Z A ws cells slots Q tgt lv st) (kf : 0 ≤ x → F → jG p l e R s m args below meth c nL Z A ws cells slots Q (pc + 3) lv st) : jG p l e R s m args below meth c nL Z A ws cells slots Q pc lv (jn Z x :: st) := by
  intro H locs ls hP hD hS hl
  by_cases hq : x < 0
  · rw [if_pos hq] at h
    have e : jn Z x = .null := by simp [jn, jo, hq, va_rf]
    rw [e]
    exact lv_ifnullN X.1 X.2.1 hd ht (kt hq h H locs ls hP hD hS hl)
  · rw [if_neg hq] at h
    have e : jn Z x = jr Z x := by simp [jn, jo, hq, va_rf]
    rw [e]
    exact lv_ifnull X.1 X.2.1 hd (kf (Int.not_lt.mp hq) h H locs ls hP hD hS hl)
theorem jg_ifnonnull {x : Int} {off : Int} {tgt : Nat} {T F : Prop} (X : jX p l s m args c cc own nL Z A) (hd : decode cc pc = .ok (.ifnonnull off, 3)) (ht : (pc : Int) + off = (tgt : Int)) (h : if x < 0 then T else F) (kt : x < 0 → T → jG p l e R s m args below meth c nL Z A ws cells slots Q (pc + 3) lv st) (kf : 0 ≤ x → F → jG p l e R s m args below meth c nL Z A ws cells slots Q tgt lv st) : jG p l e R s m args below meth c nL Z A ws cells slots Q pc lv (jn Z x :: st) := by
  intro H locs ls hP hD hS hl
  by_cases hq : x < 0
  · rw [if_pos hq] at h
    have e : jn Z x = .null := by simp [jn, jo, hq, va_rf]
    rw [e]
    exact lv_ifnonnullN X.1 X.2.1 hd (kt hq h H locs ls hP hD hS hl)
  · rw [if_neg hq] at h
    have e : jn Z x = jr Z x := by simp [jn, jo, hq, va_rf]
    rw [e]
    exact lv_ifnonnull X.1 X.2.1 hd ht (kf (Int.not_lt.mp hq) h H locs ls hP hD hS hl)
theorem jn_pos {x : Int} (h : 0 ≤ x) : jn Z x = jr Z x := by
  have : ¬ x < 0 := by omega
  simp [jn, jo, this, va_rf]
theorem jg_sub {lv2 : List (Nat × Value)} (ks : List Nat) (h : lv_pick lv ks = lv2) (kk : jG p l e R s m args below meth c nL Z A ws cells slots Q pc lv2 st) : jG p l e R s m args below meth c nL Z A ws cells slots Q pc lv st :=
  fun H locs ls hP hD hS hl => kk H locs ls hP hD hS (lv_sub hl ks h)
theorem jg_widen {cells2 slots2 : Nat} (h1 : cells ≤ cells2) (h2 : slots ≤ slots2) (kk : jG p l e R s m args below meth c nL Z A ws cells2 slots2 Q pc lv st) : jG p l e R s m args below meth c nL Z A ws cells slots Q pc lv st :=
  fun H locs ls hP hD hS hl => W.widen h1 h2 (kk H locs ls hP hD hS hl)
theorem jg_iaload {a i : Int} {len : Nat} (X : jX p l s m args c cc own nL Z A) (hd : decode cc pc = .ok (.iaload, 1)) (ha : jT n a (1000 + len)) (hc : ∀ f, jcell Z (1000 + len) a f = jarr Z len f) (hlen : len < 2147483648) (h0 : 0 ≤ i) (h1 : i < len) (kk : jG p l e R s m args below meth c nL Z A (jws Z n C) cells slots Q (pc + 1) lv (jI (C a i) :: st)) : jG p l e R s m args below meth c nL Z A (jws Z n C) cells slots Q pc lv (jI i :: jr Z a :: st) := by
  intro H locs ls hP hD hS hl
  have hg := jws_get (Z := Z) (C := C) ha
  rw [hc] at hg
  refine va_iald X.1 X.2.1 X.2.2.2.2.2.1 hP a.toNat 0 hg rfl (ji_in h0 h1 hlen) hd ?_
  rw [ji_clamp h0 (by omega), Int.toNat_of_nonneg h0]
  exact kk H locs ls hP hD hS hl
theorem jg_iastore {a i x : Int} {len : Nat} (X : jX p l s m args c cc own nL Z A) (hd : decode cc pc = .ok (.iastore, 1)) (ha : jT n a (1000 + len)) (hc : ∀ f, jcell Z (1000 + len) a f = jarr Z len f) (hlen : len < 2147483648) (h0 : 0 ≤ i) (h1 : i < len) (kk : jG p l e R s m args below meth c nL Z A (jws Z n (jU C a i x)) cells slots Q (pc + 1) lv st) : jG p l e R s m args below meth c nL Z A (jws Z n C) cells slots Q pc lv (jI x :: jI i :: jr Z a :: st) := by
  intro H locs ls hP hD hS hl
  have hg := jws_get (Z := Z) (C := C) ha
  rw [hc] at hg
  refine va_iast X.1 X.2.1 X.2.2.2.2.2.1 hP hD hS a.toNat 0 hg rfl (ji_in h0 h1 hlen) hd (fun H locs hP hD hS => ?_)
  have e : (jws Z n C).set a.toNat (jad Z a.toNat, .inl (Z.2.1 0, len, .inl (upd (fun j => Int32.ofInt (C a j)) (Int32.ofInt i).toNatClampNeg (Int32.ofInt x)))) = jws Z n (jU C a i x) := by
    rw [jU_V]
    refine jws_set ha ?_
    rw [hc, ji_clamp h0 (by omega)]
    exact ji_upd h0
  rw [e] at hP hD
  exact kk H locs ls hP hD hS hl
theorem jg_baload {a i : Int} (X : jX p l s m args c cc own nL Z A) (hd : decode cc pc = .ok (.baload, 1)) (ha : jT n a 20) (h0 : 0 ≤ i) (h1 : i < 400) (kk : jG p l e R s m args below meth c nL Z A (jws Z n C) cells slots Q (pc + 1) lv (jI (C a i) :: st)) : jG p l e R s m args below meth c nL Z A (jws Z n C) cells slots Q pc lv (jI i :: jr Z a :: st) := by
  intro H locs ls hP hD hS hl
  have hg := jws_get (Z := Z) (C := C) ha
  refine va_bald X.1 X.2.1 X.2.2.2.2.2.1 hP a.toNat 1 hg rfl (ji_in h0 h1 (by decide)) hd ?_
  rw [ji_clamp h0 (by omega), Int.toNat_of_nonneg h0]
  exact kk H locs ls hP hD hS hl
theorem jg_bastore {a i x : Int} (X : jX p l s m args c cc own nL Z A) (hd : decode cc pc = .ok (.bastore, 1)) (ha : jT n a 20) (h0 : 0 ≤ i) (h1 : i < 400) (kk : jG p l e R s m args below meth c nL Z A (jws Z n (jU C a i (jByte x))) cells slots Q (pc + 1) lv st) : jG p l e R s m args below meth c nL Z A (jws Z n C) cells slots Q pc lv (jI x :: jI i :: jr Z a :: st) := by
  intro H locs ls hP hD hS hl
  have hg := jws_get (Z := Z) (C := C) ha
  refine va_bast X.1 X.2.1 X.2.2.2.2.2.1 hP hD hS a.toNat 1 hg rfl (ji_in h0 h1 (by decide)) hd (fun H locs hP hD hS => ?_)
  have e : (jws Z n C).set a.toNat (jad Z a.toNat, .inl (Z.2.1 1, 400, .inl (upd (fun j => Int32.ofInt (C a j)) (Int32.ofInt i).toNatClampNeg (vp_nar .byte (Int32.ofInt x))))) = jws Z n (jU C a i (jByte x)) := by
    rw [jU_V]
    refine jws_set ha ?_
    rw [ji_clamp h0 (by omega), vp_nar_byte, ← ji_of ((Int32.ofInt x).toInt8.toInt32)]
    exact ji_updB h0
  rw [e] at hP hD
  exact kk H locs ls hP hD hS hl
theorem jg_aaloadF {a i : Int} (X : jX p l s m args c cc own nL Z A) (hd : decode cc pc = .ok (.aaload, 1)) (ha : jT n a 21) (h0 : 0 ≤ i) (h1 : i < 5) (kk : jG p l e R s m args below meth c nL Z A (jws Z n C) cells slots Q (pc + 1) lv (jr Z (a + 2 + 5 * i) :: st)) : jG p l e R s m args below meth c nL Z A (jws Z n C) cells slots Q pc lv (jI i :: jr Z a :: st) := by
  intro H locs ls hP hD hS hl
  have hg := jws_get (Z := Z) (C := C) ha
  refine va_aldq X.1 X.2.1 X.2.2.2.2.2.1 hP a.toNat 3 hg rfl (ji_in h0 h1 (by decide)) hd ?_
  rw [ji_clamp h0 (by omega)]
  have kq := kk H locs ls hP hD hS hl
  show W p l e R s m args below meth c H locs cells slots Q (F0 m (pc + 1) ls (Value.ref _ :: st))
  rw [Int.toNat_of_nonneg h0]
  exact kq
theorem jg_aaloadV {a i : Int} (X : jX p l s m args c cc own nL Z A) (hd : decode cc pc = .ok (.aaload, 1)) (ha : jT n a 23) (h0 : 0 ≤ i) (h1 : i < 4) (kk : jG p l e R s m args below meth c nL Z A (jws Z n C) cells slots Q (pc + 1) lv (jr Z (a + 8 + 72 * i) :: st)) : jG p l e R s m args below meth c nL Z A (jws Z n C) cells slots Q pc lv (jI i :: jr Z a :: st) := by
  intro H locs ls hP hD hS hl
  have hg := jws_get (Z := Z) (C := C) ha
  refine va_aldq X.1 X.2.1 X.2.2.2.2.2.1 hP a.toNat 5 hg rfl (ji_in h0 h1 (by decide)) hd ?_
  rw [ji_clamp h0 (by omega)]
  have kq := kk H locs ls hP hD hS hl
  show W p l e R s m args below meth c H locs cells slots Q (F0 m (pc + 1) ls (Value.ref _ :: st))
  rw [Int.toNat_of_nonneg h0]
  exact kq
theorem jg_aaloadE {a i : Int} (X : jX p l s m args c cc own nL Z A) (hd : decode cc pc = .ok (.aaload, 1)) (ha : jT n a 22) (h0 : 0 ≤ i) (h1 : i < 8) (kk : jG p l e R s m args below meth c nL Z A (jws Z n C) cells slots Q (pc + 1) lv (jr Z (C a i) :: st)) : jG p l e R s m args below meth c nL Z A (jws Z n C) cells slots Q pc lv (jI i :: jr Z a :: st) := by
  intro H locs ls hP hD hS hl
  have hg := jws_get (Z := Z) (C := C) ha
  refine va_aldq X.1 X.2.1 X.2.2.2.2.2.1 hP a.toNat 4 hg rfl (ji_in h0 h1 (by decide)) hd ?_
  rw [ji_clamp h0 (by omega)]
  have kq := kk H locs ls hP hD hS hl
  show W p l e R s m args below meth c H locs cells slots Q (F0 m (pc + 1) ls (Value.ref _ :: st))
  rw [Int.toNat_of_nonneg h0]
  exact kq
theorem jg_aastoreE {a i x : Int} (X : jX p l s m args c cc own nL Z A) (hd : decode cc pc = .ok (.aastore, 1)) (ha : jT n a 22) (hx : jT n x 0) (h0 : 0 ≤ i) (h1 : i < 8) (kk : jG p l e R s m args below meth c nL Z A (jws Z n (jU C a i x)) cells slots Q (pc + 1) lv st) : jG p l e R s m args below meth c nL Z A (jws Z n C) cells slots Q pc lv (jr Z x :: jI i :: jr Z a :: st) := by
  intro H locs ls hP hD hS hl
  have hg := jws_get (Z := Z) (C := C) ha
  have hv := jws_get (Z := Z) (C := C) hx
  refine va_astq (r := (jN0, jF0, 5)) X.1 X.2.1 X.2.2.2.2.2.1 hP hD hS a.toNat 4 x.toNat 0 hg rfl hv rfl (ji_in h0 h1 (by decide)) hd (fun H locs hP hD hS => ?_)
  have e : (jws Z n C).set a.toNat (jad Z a.toNat, .inl (Z.2.1 4, 8, .inr (.inr (.inr (.inr (va_up (fun j => some (jad Z (C a j).toNat)) (Int32.ofInt i).toNatClampNeg (some (jad Z x.toNat)))))))) = jws Z n (jU C a i x) := by
    rw [jU_V]
    refine jws_set ha ?_
    rw [ji_clamp h0 (by omega)]
    exact ji_updE h0
  rw [e] at hP hD
  exact kk H locs ls hP hD hS hl
theorem jg_tswIn {x : Int} {dflt lo hi off : Int} {offs : Array Int} {len tgt : Nat} (X : jX p l s m args c cc own nL Z A) (hd : decode cc pc = .ok (.tableswitch dflt lo hi offs, len)) (rx : jRng x) (h1 : ¬ x < lo) (h2 : ¬ hi < x) (ho : offs[(x - lo).toNat]? = some off) (ht : (pc : Int) + off = (tgt : Int)) (kk : jG p l e R s m args below meth c nL Z A ws cells slots Q tgt lv st) : jG p l e R s m args below meth c nL Z A ws cells slots Q pc lv (jI x :: st) :=
  fun H locs ls hP hD hS hl => lv_tableIn X.1 X.2.1 hd (by rw [ji_toInt rx]; exact h1) (by rw [ji_toInt rx]; exact h2) (by rw [ji_toInt rx]; exact ho) ht (kk H locs ls hP hD hS hl)
theorem jg_tswOut {x : Int} {dflt lo hi : Int} {offs : Array Int} {len tgt : Nat} (X : jX p l s m args c cc own nL Z A) (hd : decode cc pc = .ok (.tableswitch dflt lo hi offs, len)) (rx : jRng x) (h1 : x < lo ∨ hi < x) (ht : (pc : Int) + dflt = (tgt : Int)) (kk : jG p l e R s m args below meth c nL Z A ws cells slots Q tgt lv st) : jG p l e R s m args below meth c nL Z A ws cells slots Q pc lv (jI x :: st) :=
  fun H locs ls hP hD hS hl => lv_tableOut X.1 X.2.1 hd (by rw [ji_toInt rx]; exact h1) ht (kk H locs ls hP hD hS hl)
theorem jg_null (X : jX p l s m args c cc own nL Z A) (hd : decode cc pc = .ok (.aconst_null, 1)) (kk : jG p l e R s m args below meth c nL Z A ws cells slots Q (pc + 1) lv (jn Z (-1) :: st)) : jG p l e R s m args below meth c nL Z A ws cells slots Q pc lv st :=
  fun H locs ls hP hD hS hl => lv_null X.1 X.2.1 hd (show W p l e R s m args below meth c H locs cells slots Q (F0 m (pc + 1) ls (jn Z (-1) :: st)) from kk H locs ls hP hD hS hl)
theorem jg_eqst {st2 : List Value} (h : st = st2) (kk : jG p l e R s m args below meth c nL Z A ws cells slots Q pc lv st2) : jG p l e R s m args below meth c nL Z A ws cells slots Q pc lv st := h ▸ kk
theorem jg_max {x y : Int} {idx : Nat} (X : jX p l s m args c cc own nL Z A) (hlink : Cond.methodLink own idx Lib.Math.max.name ∈ jTB) (hd : decode cc pc = .ok (.invokestatic idx, 3)) (hs1 : Cond.static Lib.Math.max.name ∈ jTB) (hs2 : Cond.initialized "java/lang/Math" ∈ jTB) (hs3 : Cond.code Lib.Math.max.name Lib.Math.max.code 2 (some .int) ∈ jTB) (hR : 1 ≤ R.frames ∧ (st.map fun v => v.category).sum + 13 ≤ R.locals ∧ cells ≤ R.cells ∧ slots ≤ R.slots) (rx : jRng x) (ry : jRng y) (kk : jG p l e R s m args below meth c nL Z A ws cells slots Q (pc + 3) lv (jI (max x y) :: st)) : jG p l e R s m args below meth c nL Z A ws cells slots Q pc lv (jI y :: jI x :: st) := by
  intro H locs ls hP hD hS hl
  refine va_mmax X.1 X.2.1 (X.2.2.1.trans hl.1.symm) X.2.2.2.1 (X.2.2.2.2.1 _ hlink) (X.2.2.2.2.1 _ hs1) (X.2.2.2.2.1 _ hs2) (X.2.2.2.2.1 _ hs3) hR.1 hR.2.1 hR.2.2.1 hR.2.2.2 hd ?_
  have e : (if Int32.ofInt x < Int32.ofInt y then Int32.ofInt y else Int32.ofInt x) = Int32.ofInt (max x y) := by
    by_cases hq : x < y
    · rw [if_pos ((ji_lt rx ry).mpr hq)]; congr 1; omega
    · rw [if_neg (fun z => hq ((ji_lt rx ry).mp z))]; congr 1; omega
  rw [e]
  exact kk H locs ls hP hD hS hl
theorem jg_min {x y : Int} {idx : Nat} (X : jX p l s m args c cc own nL Z A) (hlink : Cond.methodLink own idx Lib.Math.min.name ∈ jTB) (hd : decode cc pc = .ok (.invokestatic idx, 3)) (hs1 : Cond.static Lib.Math.min.name ∈ jTB) (hs2 : Cond.initialized "java/lang/Math" ∈ jTB) (hs3 : Cond.code Lib.Math.min.name Lib.Math.min.code 2 (some .int) ∈ jTB) (hR : 1 ≤ R.frames ∧ (st.map fun v => v.category).sum + 13 ≤ R.locals ∧ cells ≤ R.cells ∧ slots ≤ R.slots) (rx : jRng x) (ry : jRng y) (kk : jG p l e R s m args below meth c nL Z A ws cells slots Q (pc + 3) lv (jI (min x y) :: st)) : jG p l e R s m args below meth c nL Z A ws cells slots Q pc lv (jI y :: jI x :: st) := by
  intro H locs ls hP hD hS hl
  refine va_mmin X.1 X.2.1 (X.2.2.1.trans hl.1.symm) X.2.2.2.1 (X.2.2.2.2.1 _ hlink) (X.2.2.2.2.1 _ hs1) (X.2.2.2.2.1 _ hs2) (X.2.2.2.2.1 _ hs3) hR.1 hR.2.1 hR.2.2.1 hR.2.2.2 hd ?_
  have e : (if Int32.ofInt y < Int32.ofInt x then Int32.ofInt y else Int32.ofInt x) = Int32.ofInt (min x y) := by
    by_cases hq : y < x
    · rw [if_pos ((ji_lt ry rx).mpr hq)]; congr 1; omega
    · rw [if_neg (fun z => hq ((ji_lt ry rx).mp z))]; congr 1; omega
  rw [e]
  exact kk H locs ls hP hD hS hl
def jCpy (C : jC) (src sp dst dp len : Int) : jC := jV C dst (fun j => if dp ≤ j ∧ j < dp + len then C src (sp + (j - dp)) else C dst j)
theorem jg_copy {a b sp dp k : Int} {n0 n1 idx : Nat} (X : jX p l s m args c cc own nL Z A) (hlink : Cond.methodLink own idx arraycopyName ∈ jTB) (hd : decode cc pc = .ok (.invokestatic idx, 3)) (hs0 : Cond.native arraycopyName ∈ jTB) (hs1 : Cond.static arraycopyName ∈ jTB) (hs2 : Cond.initialized "java/lang/System" ∈ jTB) (ha : jT n a (1000 + n0)) (hca : ∀ f, jcell Z (1000 + n0) a f = jarr Z n0 f) (hb : jT n b (1000 + n1)) (hcb : ∀ f, jcell Z (1000 + n1) b f = jarr Z n1 f) (hn0 : n0 < 2147483648) (hn1 : n1 < 2147483648) (h1 : 0 ≤ sp) (h2 : 0 ≤ dp) (h3 : 0 ≤ k) (h4 : sp + k ≤ n0) (h5 : dp + k ≤ n1) (hR : 1 ≤ R.frames ∧ (st.map fun v => v.category).sum + (nativeFrameWords "java/lang/System" "arraycopy" 5 + 11) ≤ R.locals) (kk : jG p l e R s m args below meth c nL Z A (jws Z n (jCpy C a sp b dp k)) cells slots Q (pc + 3) lv st) : jG p l e R s m args below meth c nL Z A (jws Z n C) cells slots Q pc lv (jI k :: jI dp :: jr Z b :: jI sp :: jr Z a :: st) := by
  intro H locs ls hP hD hS hl
  have hg := jws_get (Z := Z) (C := C) ha
  rw [hca] at hg
  have hg2 := jws_get (Z := Z) (C := C) hb
  rw [hcb] at hg2
  have nz : ∀ z : Int, 0 ≤ z → z < 2147483648 → ¬ Int32.ofInt z < 0 := fun z z0 z1 hq => by
    have := (ji_lt (x := z) (y := 0) ⟨by omega, z1⟩ ji_0).mp hq
    omega
  have e1 := ji_clamp h1 (by omega : sp < 2147483648)
  have e2 := ji_clamp h2 (by omega : dp < 2147483648)
  have e3 := ji_clamp h3 (by omega : k < 2147483648)
  refine va_copyi (ty := .int) X.1 X.2.1 (X.2.2.1.trans hl.1.symm) X.2.2.2.1 (X.2.2.2.2.1 _ hlink) (X.2.2.2.2.1 _ hs0) (X.2.2.2.2.1 _ hs1) (X.2.2.2.2.1 _ hs2) X.2.2.2.2.2.1 hP hD hS a.toNat b.toNat 0 0 hg hg2 rfl rfl rfl (nz sp h1 (by omega)) (nz dp h2 (by omega)) (nz k h3 (by omega)) (by rw [e1, e3]; omega) (by rw [e2, e3]; omega) (fun _ _ => rfl) hR.1 hR.2 hd (fun H locs hP hD hS => ?_)
  have e : (jws Z n C).set b.toNat (jad Z b.toNat, .inl (Z.2.1 0, n1, .inl (va_cpy (fun j => Int32.ofInt (C a j)) (fun j => Int32.ofInt (C b j)) (Int32.ofInt sp).toNatClampNeg (Int32.ofInt dp).toNatClampNeg (Int32.ofInt k).toNatClampNeg))) = jws Z n (jCpy C a sp b dp k) := by
    unfold jCpy
    refine jws_set hb ?_
    rw [hcb, e1, e2, e3]
    unfold jarr
    congr 4
    funext j
    unfold va_cpy
    dsimp only
    by_cases hj : dp ≤ (j : Int) ∧ (j : Int) < dp + k
    · rw [if_pos hj, if_pos (by omega)]
      congr 2
      omega
    · rw [if_neg hj, if_neg (by omega)]
  rw [e] at hP hD
  exact kk H locs ls hP hD hS hl
theorem jWF.cpy {src sp dst dp len : Int} {k : Nat} (hw : jWF n C) (ha : jT n dst k) (hc : k ≠ 22 ∧ k ≠ 11) : jWF n (jCpy C src sp dst dp len) := by
  refine hw.v ha hc (fun j => ?_)
  split
  · exact hw.1 _ _
  · exact hw.1 _ _
end JR

def R_law : String := "PrivateViewsLaw"
def lw_P (b : Addr) (xs : List Int32) (args : Array Value) (s : State) : Prop := args = #[.ref b] ∧ s.IntsAt b xs ∧ xs.length ≤ 3072 ∧ (Jvm.Cond.and given_1 narrow_1).before args s = true
def lw_Q (_ : Array Value) (s : State) (o : Outcome) (t : State) : Prop := o = .returned (some (.int 1)) ∧ Framed s o t [] 319022 8139040
def lw_Z (below : List Frame) (a : Array Value) (s : State) : State → Prop := fun t => ∃ o, t.status = .running ∧ Ended t below o ∧ lw_Q a s o t
/-- the law's own end, with 1 on the stack, nothing written that was there before, its room as the claim has it -/
theorem lw_ret {p : Program} {l : Launch} {e : Env} {s : State} {m : MethodId} {below : List Frame} {meth : Method} {c : Code} {b : Nat} (hx : p.tables.exec = Jvm.exec) (hb : c.code = code) (hr : meth.sig.returnType = ret) (hlocks : meth.locks = false) {pc : Nat} {H : Heap} {ls : Array Slot} (hdg : decode code pc = .ok (.ireturn, 1)) : W p l e room_1 s m #[Value.ref b] below meth c H [] 319022 8139040 (lw_Z below #[Value.ref b] s) (F0 m pc ls [.int 1]) := by
  intro T hT X
  obtain ⟨fs, hret, hrun, hended, hW, hframe⟩ := X.leave (v := some (.int 1)) (hlocks := hlocks) (fun h => by rw [hr] at h; cases h)
  have hmeth' : T.vm.method? m = some meth := X.method'
  refine ⟨T.setFrames fs, ?_, .returned (some (.int 1)), hrun, hended, rfl, ⟨_, rfl⟩, hW, hframe⟩
  jvm_step X.here [X.here.top, hx, hb, hdg, hmeth', hr, ret, narrow_b1]
  (try refine ⟨rfl, ?_⟩); (try refine ⟨rfl, ?_⟩)
  first | (intro acts; rw [hret _ acts rfl rfl rfl]) | rw [hret _ _ rfl rfl rfl]
  exact Steps.refl _
/-- what holds at the law's entry: the machine, the code, the tables' words (any of lw_tbl by 'hts w (by decide +kernel)'), the script of L ints xs at the cell b, what the Statement gives of the start (any of its parts by flat_of_before) -/
def lw_At (p : Program) (s : State) (m : MethodId) (meth : Method) (c : Code) (b L : Nat) (xs : Nat → Int32) : Prop :=
  p.tables.exec = Jvm.exec ∧ c.code = code ∧ meth.sig.returnType = ret ∧ c.maxLocals = 7 ∧ s.vm.findClass R_law = some m.cls ∧ (∀ w ∈ lw_tbl, w.before #[Value.ref b] s = true) ∧ va_X b L xs s s.heap ∧ b < s.heap.size ∧ meth.locks = false ∧ (Jvm.Cond.and given_1 narrow_1).before #[Value.ref b] s = true
-- THE LAW'S WALK: what every case shares
def jwLd (cc : ByteArray) (pc : Nat) (k : Int) : Prop := decode cc pc = .ok (.aload_n 0, 1) ∧ decode cc (pc + 1) = .ok (.iload 4, 2) ∧ decode cc (pc + 3) = .ok (.iconst k, 1) ∧ decode cc (pc + 4) = .ok (.iadd, 1) ∧ decode cc (pc + 5) = .ok (.iaload, 1)
def jwTl (cc : ByteArray) (pc idx : Nat) (f : Int) : Prop := decode cc pc = .ok (.invokevirtual idx, 3) ∧ decode cc (pc + 3) = .ok (.istore 6, 2) ∧ decode cc (pc + 5) = .ok (.aload_n 2, 1) ∧ decode cc (pc + 6) = .ok (.invokevirtual 159, 3) ∧ decode cc (pc + 9) = .ok (.iload 5, 2) ∧ decode cc (pc + 11) = .ok (.if_icmp .eq 5, 3) ∧ decode cc (pc + 16) = .ok (.iload 5, 2) ∧ decode cc (pc + 18) = .ok (.ifCond .ne f, 3)
def jwTi (cc : ByteArray) (pc : Nat) (g : Int) : Prop := decode cc (pc + 21) = .ok (.aload_n 3, 1) ∧ decode cc (pc + 22) = .ok (.iconst 0, 1) ∧ decode cc (pc + 23) = .ok (.laload, 1) ∧ decode cc (pc + 24) = .ok (.iload 6, 2) ∧ decode cc (pc + 26) = .ok (.i2l, 1) ∧ decode cc (pc + 27) = .ok (.lcmp, 1) ∧ decode cc (pc + 28) = .ok (.ifCond .eq 5, 3) ∧ decode cc (pc + 33) = .ok (.goto g, 3)
def jwTb (cc : ByteArray) (pc : Nat) (g : Int) : Prop := decode cc (pc + 21) = .ok (.aload_n 3, 1) ∧ decode cc (pc + 22) = .ok (.iconst 0, 1) ∧ decode cc (pc + 23) = .ok (.laload, 1) ∧ decode cc (pc + 24) = .ok (.iload 6, 2) ∧ decode cc (pc + 26) = .ok (.ifCond .eq 7, 3) ∧ decode cc (pc + 29) = .ok (.lconst 1, 1) ∧ decode cc (pc + 30) = .ok (.goto 4, 3) ∧ decode cc (pc + 33) = .ok (.lconst 0, 1) ∧ decode cc (pc + 34) = .ok (.lcmp, 1) ∧ decode cc (pc + 35) = .ok (.ifCond .eq 5, 3) ∧ decode cc (pc + 40) = .ok (.goto g, 3)
theorem jsV_o (Z : jE) (v : Nat) : jsV (jZo Z v) 5000 = v := by
  show (if (5000 : Nat) = 5000 then v else Z.2.2.2.2 5000) = v
  exact if_pos rfl
abbrev jwLv (Z : jE) (i : Int) (b : Nat) : List (Nat × Value) := [(4, jI i), (0, .ref b), (1, jr Z 0), (2, jr Z 345), (3, jr Z 356)]
def jwSv (xs : Nat → Int32) (i k : Int) : Int := (xs (i + k).toNat).toInt
theorem jwSv_r (xs : Nat → Int32) (i k : Int) : jRng (jwSv xs i k) := ji_rng _
def jwLaw (p : Program) (l : Launch) (s : State) (m : MethodId) (args : Array Value) (c : Code) (Z : jE) (A : Nat → Prop) (b L : Nat) (xs : Nat → Int32) (i : Int) : Prop :=
  jX p l s m args c code "PrivateViewsLaw" 7 Z A ∧ jNcs s ∧ va_X b L xs s s.heap ∧ b < s.heap.size ∧ ¬ A b ∧ L ≤ 3072 ∧ 0 ≤ i ∧ i + 6 ≤ (L : Int)
def jwCo (p : Program) (l : Launch) (e : Env) (s : State) (m : MethodId) (args : Array Value) (below : List Frame) (meth : Method) (c : Code) (A : Nat → Prop) (cells slots : Nat) (Q : State → Prop) (K i : Int) (b : Nat) : Prop :=
  ∀ (Z' : jE) (n' : Nat) (C' : jC), jX p l s m args c code "PrivateViewsLaw" 7 Z' A → jWF n' C' → rAll C' (K + 14) → jG p l e room_1 s m args below meth c 7 Z' A (jws Z' n' C') (cells + 310) (slots + 9400) Q 3096 (jwLv Z' i b) []
section JWALK
variable {p : Program} {l : Launch} {e : Env} {R : Room} {s : State} {m : MethodId} {args : Array Value} {below : List Frame} {meth : Method} {c : Code} {cc : ByteArray} {own : String} {nL : Nat} {Z : jE} {A : Nat → Prop} {cells slots : Nat} {Q : State → Prop} {pc n : Nat} {lv : List (Nat × Value)} {st : List Value} {ws : va_W} {C : jC}
variable {y : MethodName} {bytes : ByteArray} {maxL np idx : Nat} {rt : FieldType} {rm : Room} {avs rest : List Value} {b L : Nat} {xs : Nat → Int32} {i k K : Int}
theorem jg_arg (LW : jwLaw p l s m args c Z A b L xs i) (k0 : 0 ≤ k) (k1 : k < 6) (hd : jwLd code pc k) (q0 q4 : Nat) (e0 : lv[q0]? = some (0, .ref b)) (e4 : lv[q4]? = some (4, jI i)) (kk : jG p l e R s m args below meth c 7 Z A ws cells slots Q (pc + 6) lv (jI (jwSv xs i k) :: st)) : jG p l e R s m args below meth c 7 Z A ws cells slots Q pc lv st := by
  obtain ⟨X, hN, hX, hbl, hbA, hL, h0, h1⟩ := LW
  obtain ⟨d0, d1, d3, d4, d5⟩ := hd
  refine jg_sload_n X d0 q0 e0 ?_
  refine jg_iload (pc := pc + 1) X d1 q4 e4 ?_
  refine jg_iconst (pc := pc + 3) X d3 ?_
  refine jg_iadd (pc := pc + 4) X d4 ?_
  exact jg_sld (pc := pc + 5) X hX hbl hbA (by omega) (by omega) (by omega) d5 kk
set_option maxHeartbeats 4000000 in
set_option maxRecDepth 100000 in
/-- behind the helper: the model's call, thrown(), and the two ways on -/
theorem law_tail1 {wpm : jC → (Int → jC → Prop) → Prop} {cv : Int → Int64} {r : Int} {v : Nat} {K' f : Int} {tg : Nat} (X : jX p l s m args c code "PrivateViewsLaw" 7 (jZo Z v) A) (hM : ∀ post, wpm C post → jCi l y bytes maxL rt rm (jZo Z v) n C (jr (jZo Z v) 345 :: avs) post) (hy : jMy y bytes maxL (some rt) np) (hyc : y.cls = jN12) (hlink : Cond.methodLink "PrivateViewsLaw" idx y ∈ jTB) (hth : Cond.methodLink "PrivateViewsLaw" 159 y_12_thrown ∈ jTB) (hnp : avs.length = np) (hd : jwTl code pc idx f) (htg : ((pc + 18 : Nat) : Int) + f = (tg : Int)) (h : hP cv wpm K' r v C) (rr : jRng r) (hw : jWF n C) (hrm : rm.frames + 1 ≤ room_1.frames ∧ 8 + (maxL + 11) + rm.locals ≤ room_1.locals ∧ rm.cells = 0 ∧ rm.slots = 0) (hc : cells ≤ 319022 ∧ slots ≤ 8139040)
    (kz : ∀ (x : Int) (C2 : jC), jRng x → jWF n C2 → Int64.ofNat v = cv x → rAll C2 K' → jG p l e room_1 s m args below meth c 7 (jZo Z v) A (jws (jZo Z v) n C2) cells slots Q (pc + 21) ((6, jI x) :: (5, jI 0) :: jwLv (jZo Z v) i b) [])
    (kn : ∀ (x r : Int) (C2 : jC), jWF n C2 → rAll C2 K' → jG p l e room_1 s m args below meth c 7 (jZo Z v) A (jws (jZo Z v) n C2) cells slots Q tg ((6, jI x) :: (5, jI r) :: jwLv (jZo Z v) i b) []) :
    jG p l e room_1 s m args below meth c 7 (jZo Z v) A (jws (jZo Z v) n C) cells slots Q pc ((5, jI r) :: jwLv (jZo Z v) i b) (avs.reverse ++ [jr (jZo Z v) 345]) := by
  obtain ⟨d0, d3, d5, d6, d9, d11, d16, d18⟩ := hd
  obtain ⟨m1, m2, m3, m4⟩ := hrm
  have hn := hw.2.2.1
  have hcr : cells + rm.cells ≤ room_1.cells ∧ slots + rm.slots ≤ room_1.slots := ⟨by rw [m3]; exact hc.1, by rw [m4]; exact hc.2⟩
  rcases h with ⟨r0, x, rx, hv, ho⟩ | ⟨r1, r4, ho⟩
  · subst r0
    refine jg_callVi (rest := []) (pc := pc) X (hM _ ho) hy hlink (jl_345_12 hn) rfl rfl hyc.symm hnp rfl (Nat.le_of_ble_eq_true rfl) d0 ⟨m1, m2⟩ hcr (fun b2 C2 rb hw2 hp => ?_)
    obtain ⟨p1, p2, p3⟩ := hp
    subst p2
    rw [m3, m4]
    refine jg_istore (pc := pc + 3) X ((6, jI b2) :: (5, jI 0) :: jwLv (jZo Z v) i b) d3 (by decide) rfl ?_
    refine jg_aload_n (pc := pc + 5) X d5 5 rfl ?_
    refine jg_pcallVi (pc := pc + 6) (rest := []) (post := fun t => t = C2 345 0) X (m_12_thrown hw2 rfl) jM_12_thrown hth (jl_345_12 hn) rfl rfl rfl rfl rfl (Nat.le_of_ble_eq_true rfl) d6 ⟨Nat.le_of_ble_eq_true rfl, Nat.le_of_ble_eq_true rfl⟩ ⟨hc.1, hc.2⟩ (fun t rt2 ht => ?_)
    have ht : t = C2 345 0 := ht
    refine jg_iload (pc := pc + 9) X d9 1 rfl ?_
    refine jg_icmp_eq (T := True) (F := False) (tgt := pc + 16) (pc := pc + 11) X d11 (by omega) rt2 rr (by rw [if_pos (by omega)]; trivial) (fun _ _ => ?_) (fun _ q => q.elim)
    refine jg_iload (pc := pc + 16) X d16 1 rfl ?_
    refine jg_if_ne (T := True) (F := False) (tgt := tg) (pc := pc + 18) X d18 htg rr (by rw [if_pos rfl]; trivial) (fun _ _ => ?_) (fun _ q => q.elim)
    exact kz b2 C2 rb hw2 hv p3
  · refine jg_callVi (rest := []) (pc := pc) X (hM _ ho) hy hlink (jl_345_12 hn) rfl rfl hyc.symm hnp rfl (Nat.le_of_ble_eq_true rfl) d0 ⟨m1, m2⟩ hcr (fun b2 C2 rb hw2 hp => ?_)
    obtain ⟨p1, p3⟩ := hp
    rw [m3, m4]
    refine jg_istore (pc := pc + 3) X ((6, jI b2) :: (5, jI r) :: jwLv (jZo Z v) i b) d3 (by decide) rfl ?_
    refine jg_aload_n (pc := pc + 5) X d5 5 rfl ?_
    refine jg_pcallVi (pc := pc + 6) (rest := []) (post := fun t => t = C2 345 0) X (m_12_thrown hw2 rfl) jM_12_thrown hth (jl_345_12 hn) rfl rfl rfl rfl rfl (Nat.le_of_ble_eq_true rfl) d6 ⟨Nat.le_of_ble_eq_true rfl, Nat.le_of_ble_eq_true rfl⟩ ⟨hc.1, hc.2⟩ (fun t rt2 ht => ?_)
    have ht : t = C2 345 0 := ht
    refine jg_iload (pc := pc + 9) X d9 1 rfl ?_
    refine jg_icmp_eq (T := True) (F := False) (tgt := pc + 16) (pc := pc + 11) X d11 (by omega) rt2 rr (by rw [if_pos (by omega)]; trivial) (fun _ _ => ?_) (fun _ q => q.elim)
    refine jg_iload (pc := pc + 16) X d16 1 rfl ?_
    refine jg_if_ne (T := False) (F := True) (tgt := tg) (pc := pc + 18) X d18 htg rr (by rw [if_neg (by omega)]; trivial) (fun _ q => q.elim) (fun _ _ => ?_)
    exact kn b2 r C2 hw2 p3
set_option maxHeartbeats 4000000 in
set_option maxRecDepth 100000 in
theorem law_tailI {wpm : jC → (Int → jC → Prop) → Prop} {r : Int} {v : Nat} {K' g : Int} {c1 s1 : Nat} (X : jX p l s m args c code "PrivateViewsLaw" 7 Z A) (hM : ∀ post, wpm C post → jCi l y bytes maxL rt rm (jZo Z v) n C (jr (jZo Z v) 345 :: avs) post) (hy : jMy y bytes maxL (some rt) np) (hyc : y.cls = jN12) (hlink : Cond.methodLink "PrivateViewsLaw" idx y ∈ jTB) (hth : Cond.methodLink "PrivateViewsLaw" 159 y_12_thrown ∈ jTB) (hnp : avs.length = np) (hd : jwTl code pc idx 15) (hd2 : jwTi code pc g) (hg : ((pc + 33 : Nat) : Int) + g = 3096) (h : hP cvI wpm K' r v C) (rr : jRng r) (hw : jWF n C) (hrm : rm.frames + 1 ≤ room_1.frames ∧ 8 + (maxL + 11) + rm.locals ≤ room_1.locals ∧ rm.cells = 0 ∧ rm.slots = 0) (hc : cells + 310 ≤ 319022 ∧ slots + 9400 ≤ 8139040) (h1 : c1 ≤ cells + 310 ∧ s1 ≤ slots + 9400) (hK : K' ≤ K + 14)
    (kk : jwCo p l e s m args below meth c A cells slots Q K i b) : jG p l e room_1 s m args below meth c 7 Z A (jws (jZo Z v) n C) c1 s1 Q pc ((5, jI r) :: jwLv Z i b) (avs.reverse ++ [jr Z 345]) := by
  have X2 : jX p l s m args c code "PrivateViewsLaw" 7 (jZo Z v) A := jX_o X
  have hn := hw.2.2.1
  have hg' : ((pc + 33 : Nat) : Int) + g = ((3096 : Nat) : Int) := hg
  obtain ⟨d21, d22, d23, d24, d26, d27, d28, d33⟩ := hd2
  refine law_tail1 (b := b) (tg := pc + 33) X2 hM hy hyc hlink hth hnp hd (by omega) h rr hw hrm ⟨by omega, by omega⟩ (fun x C2 rx hw2 hv hA => ?_) (fun x r C2 hw2 hA => ?_)
  · refine jg_aload_n (pc := pc + 21) X2 d21 6 rfl ?_
    refine jg_iconst (pc := pc + 22) X2 d22 ?_
    refine jg_laldO (pc := pc + 23) X2 hn d23 ?_
    refine jg_iload (pc := pc + 24) X2 d24 0 rfl ?_
    refine jg_i2l (pc := pc + 26) X2 d26 ?_
    have e1 : Int64.ofNat (jsV (jZo Z v) 5000) = (Int32.ofInt x).toInt64 := by
      have : jsV (jZo Z v) 5000 = v := jsV_o Z v
      rw [this]; exact hv
    rw [e1]
    refine jg_lcmpEq (pc := pc + 27) X2 d27 ?_
    refine jg_if_eq (T := True) (F := False) (tgt := pc + 33) (pc := pc + 28) X2 d28 (by omega) ji_0 (by rw [if_pos rfl]; trivial) (fun _ _ => ?_) (fun _ q => q.elim)
    refine jg_goto (tgt := 3096) (pc := pc + 33) X2 d33 hg' ?_
    refine jg_lvsub [2, 3, 4, 5, 6] rfl ?_
    refine jg_widen h1.1 h1.2 ?_
    exact kk (jZo Z v) n C2 X2 hw2 (rAll_mono hA hK)
  · refine jg_goto (tgt := 3096) (pc := pc + 33) X2 d33 hg' ?_
    refine jg_lvsub [2, 3, 4, 5, 6] rfl ?_
    refine jg_widen h1.1 h1.2 ?_
    exact kk (jZo Z v) n C2 X2 hw2 (rAll_mono hA hK)
set_option maxHeartbeats 4000000 in
set_option maxRecDepth 100000 in
theorem law_tailB {wpm : jC → (Int → jC → Prop) → Prop} {r : Int} {v : Nat} {K' g : Int} {c1 s1 : Nat} (X : jX p l s m args c code "PrivateViewsLaw" 7 Z A) (hM : ∀ post, wpm C post → jCi l y bytes maxL rt rm (jZo Z v) n C (jr (jZo Z v) 345 :: avs) post) (hy : jMy y bytes maxL (some rt) np) (hyc : y.cls = jN12) (hlink : Cond.methodLink "PrivateViewsLaw" idx y ∈ jTB) (hth : Cond.methodLink "PrivateViewsLaw" 159 y_12_thrown ∈ jTB) (hnp : avs.length = np) (hd : jwTl code pc idx 22) (hd2 : jwTb code pc g) (hg : ((pc + 40 : Nat) : Int) + g = 3096) (h : hP cvB wpm K' r v C) (rr : jRng r) (hw : jWF n C) (hrm : rm.frames + 1 ≤ room_1.frames ∧ 8 + (maxL + 11) + rm.locals ≤ room_1.locals ∧ rm.cells = 0 ∧ rm.slots = 0) (hc : cells + 310 ≤ 319022 ∧ slots + 9400 ≤ 8139040) (h1 : c1 ≤ cells + 310 ∧ s1 ≤ slots + 9400) (hK : K' ≤ K + 14)
    (kk : jwCo p l e s m args below meth c A cells slots Q K i b) : jG p l e room_1 s m args below meth c 7 Z A (jws (jZo Z v) n C) c1 s1 Q pc ((5, jI r) :: jwLv Z i b) (avs.reverse ++ [jr Z 345]) := by
  have X2 : jX p l s m args c code "PrivateViewsLaw" 7 (jZo Z v) A := jX_o X
  have hn := hw.2.2.1
  have hg' : ((pc + 40 : Nat) : Int) + g = ((3096 : Nat) : Int) := hg
  obtain ⟨d21, d22, d23, d24, d26, d29, d30, d33, d34, d35, d40⟩ := hd2
  refine law_tail1 (b := b) (tg := pc + 40) X2 hM hy hyc hlink hth hnp hd (by omega) h rr hw hrm ⟨by omega, by omega⟩ (fun x C2 rx hw2 hv hA => ?_) (fun x r C2 hw2 hA => ?_)
  · refine jg_aload_n (pc := pc + 21) X2 d21 6 rfl ?_
    refine jg_iconst (pc := pc + 22) X2 d22 ?_
    refine jg_laldO (pc := pc + 23) X2 hn d23 ?_
    refine jg_iload (pc := pc + 24) X2 d24 0 rfl ?_
    have e1 : Int64.ofNat (jsV (jZo Z v) 5000) = cvB x := by
      have : jsV (jZo Z v) 5000 = v := jsV_o Z v
      rw [this]; exact hv
    rw [e1]
    have fin : jG p l e room_1 s m args below meth c 7 (jZo Z v) A (jws (jZo Z v) n C2) c1 s1 Q (pc + 34) ((6, jI x) :: (5, jI 0) :: jwLv (jZo Z v) i b) [.long (cvB x), .long (cvB x)] := by
      refine jg_lcmpEq (pc := pc + 34) X2 d34 ?_
      refine jg_if_eq (T := True) (F := False) (tgt := pc + 40) (pc := pc + 35) X2 d35 (by omega) ji_0 (by rw [if_pos rfl]; trivial) (fun _ _ => ?_) (fun _ q => q.elim)
      refine jg_goto (tgt := 3096) (pc := pc + 40) X2 d40 hg' ?_
      refine jg_lvsub [2, 3, 4, 5, 6] rfl ?_
      refine jg_widen h1.1 h1.2 ?_
      exact kk (jZo Z v) n C2 X2 hw2 (rAll_mono hA hK)
    refine jg_if_eq (T := True) (F := True) (tgt := pc + 33) (pc := pc + 26) X2 d26 (by omega) rx (by split <;> trivial) (fun q _ => ?_) (fun q _ => ?_)
    · refine jg_lconst (pc := pc + 33) (v := cvB x) X2 d33 (by unfold cvB; rw [if_pos q]; rfl) ?_
      exact fin
    · refine jg_lconst (pc := pc + 29) (v := cvB x) X2 d29 (by unfold cvB; rw [if_neg q]; rfl) ?_
      refine jg_goto (tgt := pc + 34) (pc := pc + 30) X2 d30 (by omega) ?_
      exact fin
  · refine jg_goto (tgt := 3096) (pc := pc + 40) X2 d40 hg' ?_
    refine jg_lvsub [2, 3, 4, 5, 6] rfl ?_
    refine jg_widen h1.1 h1.2 ?_
    exact kk (jZo Z v) n C2 X2 hw2 (rAll_mono hA hK)
theorem jg_lawEnd (X : jX p l s m #[.ref b] c code "PrivateViewsLaw" 7 Z A) (hA : ∀ q, A q → s.heap.size ≤ q) (hr : meth.sig.returnType = ret) (hlocks : meth.locks = false) (hc : cells ≤ 319022 ∧ slots ≤ 8139040) (d1 : decode code 3102 = .ok (.iconst 1, 1)) (d2 : decode code 3103 = .ok (.ireturn, 1)) : jG p l e room_1 s m #[.ref b] below meth c 7 Z A ws cells slots (lw_Z below #[Value.ref b] s) 3102 lv [] := by
  intro H locs ls hP hD hS hl
  refine lv_iconst (v := 1) X.1 X.2.1 d1 (by decide) ?_
  refine va_forget (fun q hq => hA _ (hS.2.2 q hq)) ?_
  refine W.widen hc.1 hc.2 ?_
  exact lw_ret X.1 X.2.1 hr hlocks d2
end JWALK

-- a row of objects, made one after the other
def jRep (LX : List Nat) : Nat → List Nat
  | 0 => []
  | k + 1 => jRep LX k ++ LX
theorem jRep_len (LX : List Nat) : ∀ k, (jRep LX k).length = LX.length * k
  | 0 => rfl
  | k + 1 => by rw [jRep, List.length_append, jRep_len LX k, Nat.mul_succ]
theorem jRep_clo {C : jC} {LX : List Nat} {o : Nat} : ∀ k, (∀ i, i < k → jClo C (o + LX.length * i) LX) → jClo C o (jRep LX k)
  | 0, _ => trivial
  | k + 1, h => jClo_app _ _ _ (jRep_clo k (fun i hi => h i (by omega))) (by rw [jRep_len]; exact h k (by omega))
def jRow_ (ad : Nat → Nat) (o sX k : Nat) : Nat → Option Nat := fun j => if j < k then some (ad (o + sX * j)) else none
section JROWS
variable {p : Program} {l : Launch} {e : Env} {R : Room} {s : State} {m : MethodId} {args : Array Value} {below : List Frame} {meth : Method} {c : Code} {cc : ByteArray} {own : String} {nL : Nat} {Z : jE} {A : Nat → Prop} {Q : State → Prop} {C : jC}
variable {y : MethodName} {bytes : ByteArray} {maxL idx ix ig : Nat} {rm : Room}
theorem jg_rows {ci cj N NX hp hd tgt t0 h0 r b o kf Nf : Nat} {fs fX : List Value} {T TX : u_T} {Cn CX : String} {ty : Nat → FieldType} {L0 LX : List Nat} {W0 : va_W} {cB : ClassId} {c0 s0 : Nat}
    (X : jX p l s m args c cc own nL Z A) (hnL : 1 < nL) (h00 : W0[0]? = some (h0, .inr (ci, fs))) (hf : fs[kf]? = some (.ref r)) (hcl : jcl[ci]? = some (Cn, T, Nf)) (hinc : ∀ w ∈ u_ws Cn T Nf, w ∈ jTB) (hkf : kf < Nf) (hT : (T kf).1 = Cn) (hlinkf : Cond.fieldLink own ig Cn (T kf).2.1 (T kf).2.2.1 ∈ jTB)
    (ho : b + L0.length = o) (ht0 : (jtys Z)[t0]? = some (cB, .object CX)) (hN : N < 1000)
    (hM : ∀ k, k < N → jN l y bytes maxL rm Z C (o + LX.length * k) LX cj fX) (hclX : jcl[cj]? = some (CX, TX, NX)) (hinX : ∀ w ∈ u_ws CX TX NX, w ∈ jTB) (htyX : ∀ k, k < NX → parseFieldDescriptor (TX k).2.2.1 = some (ty k)) (hfX : ∀ j, j < NX → defaultValue (ty j) = vp_V fX j) (hk : Cond.classLink own idx CX ∈ jTB) (hinst : Cond.instantiable CX NX ∈ jTB) (hini : Cond.initialized CX ∈ jTB) (hyc : y.cls = CX) (hyn : y.name = "<init>") (him : Cond.instanceMethod y ∈ jTB) (hcode : Cond.code y bytes maxL none ∈ jTB) (hdc : y.cls ≠ "java/lang/invoke/MethodHandle" ∧ y.cls ≠ "java/lang/invoke/VarHandle" ∧ (parseMethodDescriptor y.desc).map (fun d => d.parameters.length) = some 0) (hlink : Cond.methodLink own ix y ∈ jTB ∨ Cond.methodLinkNest own ix y "PrivateViews" ∈ jNest)
    (hobj : ∀ (Z : jE) (a : Int) (f : Int → Int), ∃ vs, jcell Z (LX.headD 99) a f = .inr (cj, vs)) (hLX : LX ≠ [])
    {offx offg : Int} (d0 : decode cc hp = .ok (.if_icmp .ge offx, 3)) (htgt : (hp : Int) + offx = (tgt : Int)) (d3 : decode cc (hp + 3) = .ok (.aload_n 0, 1)) (d4 : decode cc (hp + 4) = .ok (.getfield ig, 3)) (d7 : decode cc (hp + 7) = .ok (.iload_n 1, 1)) (d8 : decode cc (hp + 8) = .ok (.new idx, 3)) (d11 : decode cc (hp + 11) = .ok (.dup, 1)) (d12 : decode cc (hp + 12) = .ok (.invokespecial ix, 3)) (d15 : decode cc (hp + 15) = .ok (.aastore, 1)) (d16 : decode cc (hp + 16) = .ok (.iinc 1 1, 3)) (d19 : decode cc (hp + 19) = .ok (.goto offg, 3)) (hgoto : ((hp + 19 : Nat) : Int) + offg = (hd : Int))
    (head : ∀ (k : Int) (ws : va_W) (cells slots : Nat), jG p l e R s m args below meth c nL Z A ws cells slots Q hp [(1, jI k), (0, .ref h0)] [jI N, jI k] → jG p l e R s m args below meth c nL Z A ws cells slots Q hd [(1, jI k), (0, .ref h0)] [])
    (hR : rm.frames + 1 ≤ R.frames ∧ 8 + (maxL + 11) + rm.locals ≤ R.locals) (hC : c0 + N * (1 + rm.cells) ≤ R.cells ∧ s0 + N * (NX + rm.slots) ≤ R.slots)
    (hc : jClo C b L0) (hcX : ∀ k, k < N → jClo C (o + LX.length * k) LX)
    {adE : Nat → Nat}
    (kk : ∀ ad : Nat → Nat, (∀ i, i < o → ad i = adE i) → jG p l e R s m args below meth c nL Z A ((W0 ++ [(r, .inl (cB, N, .inr (.inr (.inr (.inr (jRow_ ad o LX.length N))))))]) ++ jSg Z ad C b (L0 ++ jRep LX N)) (c0 + N * (1 + rm.cells)) (s0 + N * (NX + rm.slots)) Q tgt [(1, jI N), (0, .ref h0)] []) :
    ∀ (n k : Nat) (ad : Nat → Nat), k + n = N → (∀ i, i < o → ad i = adE i) → jG p l e R s m args below meth c nL Z A ((W0 ++ [(r, .inl (cB, N, .inr (.inr (.inr (.inr (jRow_ ad o LX.length k))))))]) ++ jSg Z ad C b (L0 ++ jRep LX k)) (c0 + k * (1 + rm.cells)) (s0 + k * (NX + rm.slots)) Q hd [(1, jI k), (0, .ref h0)] [] := by
  have w0 : 0 < W0.length := (List.getElem?_eq_some_iff.mp h00).1
  intro n
  induction n with
  | zero =>
    intro k ad hkn hag
    have ek : k = N := by omega
    subst ek
    refine head k _ _ _ ?_
    refine jg_icmp_ge (T := True) (F := False) (tgt := tgt) X d0 htgt ⟨by omega, by omega⟩ ⟨by omega, by omega⟩ (by rw [if_pos (Int.le_refl _)]; trivial) (fun _ _ => kk ad hag) (fun _ h => h.elim)
  | succ n ih =>
    intro k ad hkn hag
    refine head k _ _ _ ?_
    refine jg_icmp_ge (T := False) (F := True) (tgt := tgt) X d0 htgt ⟨by omega, by omega⟩ ⟨by omega, by omega⟩ (by rw [if_neg (by omega)]; trivial) (fun _ h => h.elim) (fun _ _ => ?_)
    refine jg_sload_n (pc := hp + 3) X d3 1 rfl ?_
    refine jg_getP (pc := hp + 4) (ci := ci) X 0 kf ?_ hcl hinc hkf hf hT hlinkf d4 ?_
    · rw [List.append_assoc, List.getElem?_append_left w0]; exact h00
    refine jg_iload_n (pc := hp + 7) X d7 0 rfl ?_
    have hlen : b + (L0 ++ jRep LX k).length = o + LX.length * k := by rw [List.length_append, jRep_len]; omega
    have m1 : (k + 1) * (1 + rm.cells) = k * (1 + rm.cells) + (1 + rm.cells) := Nat.succ_mul _ _
    have m2 : (k + 1) * (NX + rm.slots) = k * (NX + rm.slots) + (NX + rm.slots) := Nat.succ_mul _ _
    have m3 : (k + 1) * (1 + rm.cells) ≤ N * (1 + rm.cells) := Nat.mul_le_mul_right _ (by omega)
    have m4 : (k + 1) * (NX + rm.slots) ≤ N * (NX + rm.slots) := Nat.mul_le_mul_right _ (by omega)
    refine jg_pushX (st := [jI k, .ref r]) (cells := c0 + k * (1 + rm.cells)) (slots := s0 + k * (NX + rm.slots)) (P := fun ad => W0 ++ [(r, .inl (cB, N, .inr (.inr (.inr (.inr (jRow_ ad o LX.length k))))))]) (ad := ad) (b := b) (L := L0 ++ jRep LX k) (j := o + LX.length * k) (pc := hp + 8) X hlen (hM k (by omega)) hclX hinX htyX hfX hk hinst hini hyc hyn him hcode hdc hlink d8 d11 d12 hR (Nat.le_of_ble_eq_true rfl) ⟨by omega, by omega⟩ (fun ad' h => ?_) (jClo_app _ _ _ hc (by rw [ho]; exact jRep_clo k (fun i hi => hcX i (by omega)))) (hcX k (by omega)) (fun ad' h => ?_)
    · have : jRow_ ad' o LX.length k = jRow_ ad o LX.length k := by
        funext j
        unfold jRow_
        by_cases q : j < k
        · have h2 : LX.length * j < LX.length * k := by
            refine Nat.mul_lt_mul_of_pos_left q ?_
            cases LX with
            | nil => exact absurd rfl hLX
            | cons => simp
          rw [if_pos q, if_pos q, h _ (by omega)]
        · rw [if_neg q, if_neg q]
      show W0 ++ _ = W0 ++ _
      rw [this]
    · have hag' : ∀ i, i < o → ad' i = adE i := fun i hi => by rw [h i (by omega)]; exact hag i hi
      obtain ⟨vs, hvs⟩ := hobj (jZa Z ad') ((o + LX.length * k : Nat) : Int) (C ((o + LX.length * k : Nat) : Int))
      have hseg : (jSg Z ad' C b (L0 ++ jRep LX k ++ LX))[(L0 ++ jRep LX k).length]? = some (ad' (o + LX.length * k), .inr (cj, vs)) := by
        have h1 : (L0 ++ jRep LX k ++ LX)[(L0 ++ jRep LX k).length]? = some (LX.headD 99) := by
          rw [List.getElem?_append_right (Nat.le_refl _), Nat.sub_self]
          cases LX with
          | nil => exact absurd rfl hLX
          | cons => rfl
        have := jSg_at (Z := Z) (ad := ad') (C := C) (B := b) h1
        rw [hlen, hvs] at this
        exact this
      have hobjat : ((W0 ++ [(r, (.inl (cB, N, .inr (.inr (.inr (.inr (jRow_ ad' o LX.length k))))) : va_E))]) ++ jSg Z ad' C b (L0 ++ jRep LX k ++ LX))[(W0.length + 1) + (L0 ++ jRep LX k).length]? = some (ad' (o + LX.length * k), .inr (cj, vs)) := by
        generalize hS : jSg Z ad' C b (L0 ++ jRep LX k ++ LX) = S at hseg ⊢
        generalize (L0 ++ jRep LX k).length = n0 at hseg ⊢
        have hl : (W0 ++ [(r, (.inl (cB, N, .inr (.inr (.inr (.inr (jRow_ ad' o LX.length k))))) : va_E))]).length = W0.length + 1 := by simp
        rw [List.getElem?_append_right (by rw [hl]; omega), hl, show W0.length + 1 + n0 - (W0.length + 1) = n0 by omega]
        exact hseg
      have hrow : ((W0 ++ [(r, (.inl (cB, N, .inr (.inr (.inr (.inr (jRow_ ad' o LX.length k))))) : va_E))]) ++ jSg Z ad' C b (L0 ++ jRep LX k ++ LX))[W0.length]? = some (r, .inl (cB, N, .inr (.inr (.inr (.inr (jRow_ ad' o LX.length k)))))) := by
        rw [List.getElem?_append_left (by simp)]; exact jlast
      refine jg_aastP (pc := hp + 8 + 7) (i := k) X W0.length t0 (W0.length + 1 + (L0 ++ jRep LX k).length) hrow ht0 hobjat hclX (by omega) (by omega) (by omega) d15 ?_
      refine jg_iinc (pc := hp + 8 + 7 + 1) X [(1, jI ((k : Int) + 1)), (0, .ref h0)] d16 0 rfl hnL rfl ?_
      refine jg_goto (tgt := hd) (pc := hp + 8 + 7 + 1 + 3) X d19 hgoto ?_
      have hset : ((W0 ++ [(r, (.inl (cB, N, .inr (.inr (.inr (.inr (jRow_ ad' o LX.length k))))) : va_E))]) ++ jSg Z ad' C b (L0 ++ jRep LX k ++ LX)).set W0.length (r, .inl (cB, N, .inr (.inr (.inr (.inr (va_up (jRow_ ad' o LX.length k) (k : Int).toNat (some (ad' (o + LX.length * k))))))))) = (W0 ++ [(r, .inl (cB, N, .inr (.inr (.inr (.inr (jRow_ ad' o LX.length (k + 1)))))))]) ++ jSg Z ad' C b (L0 ++ jRep LX (k + 1)) := by
        have e1 : va_up (jRow_ ad' o LX.length k) (k : Int).toNat (some (ad' (o + LX.length * k))) = jRow_ ad' o LX.length (k + 1) := by
          funext j
          unfold va_up jRow_
          by_cases q : j = k
          · subst q; rw [if_pos (by omega), if_pos (by omega)]
          · rw [if_neg (by omega)]
            by_cases q2 : j < k
            · rw [if_pos q2, if_pos (by omega)]
            · rw [if_neg q2, if_neg (by omega)]
        rw [e1, List.set_append_left _ _ (by simp), List.set_append_right _ _ (Nat.le_refl _), Nat.sub_self, List.append_assoc L0]
        rfl
      rw [hset]
      have := ih (k + 1) ad' (by omega) hag'
      rw [show c0 + k * (1 + rm.cells) + 1 + rm.cells = c0 + (k + 1) * (1 + rm.cells) by omega, show s0 + k * (NX + rm.slots) + NX + rm.slots = s0 + (k + 1) * (NX + rm.slots) by omega]
      exact this
end JROWS

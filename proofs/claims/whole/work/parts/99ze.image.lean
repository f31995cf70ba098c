-- image(): the kept State is made at the first call
def y_11_image : MethodName := ⟨"PrivateViews", "image", "()V"⟩
def q_11_image : Room := { frames := 6, cells := 304, slots := 9379, locals := 147 }
theorem d_11_image_0 : decode prog_1_method_44_code 0 = .ok (.aload_n 0, 1) := by decide +kernel
theorem d_11_image_1 : decode prog_1_method_44_code 1 = .ok (.getfield 333, 3) := by decide +kernel
theorem d_11_image_4 : decode prog_1_method_44_code 4 = .ok (.ifnonnull 14, 3) := by decide +kernel
theorem d_11_image_7 : decode prog_1_method_44_code 7 = .ok (.aload_n 0, 1) := by decide +kernel
theorem d_11_image_8 : decode prog_1_method_44_code 8 = .ok (.new 23, 3) := by decide +kernel
theorem d_11_image_11 : decode prog_1_method_44_code 11 = .ok (.dup, 1) := by decide +kernel
theorem d_11_image_12 : decode prog_1_method_44_code 12 = .ok (.invokespecial 25, 3) := by decide +kernel
theorem d_11_image_15 : decode prog_1_method_44_code 15 = .ok (.putfield 333, 3) := by decide +kernel
theorem d_11_image_18 : decode prog_1_method_44_code 18 = .ok (.aload_n 0, 1) := by decide +kernel
theorem d_11_image_19 : decode prog_1_method_44_code 19 = .ok (.getfield 333, 3) := by decide +kernel
theorem d_11_image_22 : decode prog_1_method_44_code 22 = .ok (.aload_n 0, 1) := by decide +kernel
theorem d_11_image_23 : decode prog_1_method_44_code 23 = .ok (.getfield 26, 3) := by decide +kernel
theorem d_11_image_26 : decode prog_1_method_44_code 26 = .ok (.invokevirtual 336, 3) := by decide +kernel
theorem d_11_image_29 : decode prog_1_method_44_code 29 = .ok (.return_, 1) := by decide +kernel
theorem jRe_357 : ∀ k, k < 357 → jReach (jK k) ≤ 357 - k := by decide +kernel
theorem jK_11 : ∀ k, k < 661 → jK k = 11 → k = 0 := by decide +kernel
theorem kSt_at : ∀ d, d < 304 → kSt[d]? = some (jK (357 + d)) := by decide +kernel
theorem jK_22 : ∀ a, a < 661 → jK a = 22 → 357 ≤ a → (a = 404 ∨ a = 476 ∨ a = 548 ∨ a = 620) := by decide +kernel
theorem jK_e : ∀ k, k < 8 → jK (405 + 5 * k) = 0 ∧ jK (477 + 5 * k) = 0 ∧ jK (549 + 5 * k) = 0 ∧ jK (621 + 5 * k) = 0 := by decide +kernel
/-- the picture with a new kept State -/
def jNk (C : jC) : jC := fun a k => if a = 0 ∧ k = 4 then 357 else if 357 ≤ a ∧ a < 661 then (if (a = 404 ∨ a = 476 ∨ a = 548 ∨ a = 620) ∧ 0 ≤ k ∧ k < 8 then a + 1 + 5 * k else 0) else C a k
theorem jNk_04 (C : jC) : jNk C 0 4 = 357 := if_pos ⟨rfl, rfl⟩
theorem jNk_low {C : jC} {a : Int} (h0 : 0 < a) (h1 : a < 357) : jNk C a = C a := by
  funext k
  unfold jNk
  rw [if_neg (by omega), if_neg (by omega)]
theorem jNk_0 {C : jC} {k : Int} (h : k ≠ 4) : jNk C 0 k = C 0 k := by
  unfold jNk
  rw [if_neg (by omega), if_neg (by omega)]
theorem jNk_z {C : jC} : ∀ d : Nat, 0 ≤ d → d < 304 → (∀ v, v < 4 → d ≠ 47 + 72 * v) → ∀ k, jNk C ((357 + d : Nat) : Int) k = 0 := by
  intro d _ h1 h2 k
  have a0 := h2 0 (by omega)
  have a1 := h2 1 (by omega)
  have a2 := h2 2 (by omega)
  have a3 := h2 3 (by omega)
  unfold jNk
  rw [if_neg (by omega), if_pos (by omega), if_neg (by omega)]
theorem jNk_r {C : jC} : ∀ v : Nat, v < 4 → ∀ j : Nat, j < 8 → jNk C ((357 + 16 + 72 * v + 31 : Nat) : Int) (j : Int) = ((357 + 16 + 72 * v + 32 + 5 * j : Nat) : Int) := by
  intro v hv j hj
  unfold jNk
  rw [if_neg (by omega), if_pos (by omega), if_pos (by omega)]
  omega
theorem jWF_nk {C : jC} (hw : jWF 357 C) : jWF 661 (jNk C) := by
  obtain ⟨w1, w2, w3, w4⟩ := hw
  refine ⟨fun a k => ?_, fun a ha k k0 k1 => ?_, Or.inr rfl, Or.inr ⟨jNk_04 C, rfl⟩⟩
  · unfold jNk
    split
    · exact ⟨by omega, by omega⟩
    · split
      · split
        · exact ⟨by omega, by omega⟩
        · exact ⟨by omega, by omega⟩
      · exact w1 a k
  · obtain ⟨a0, a1, a2⟩ := ha
    by_cases h : a < 357
    · have hz : a ≠ 0 := by
        rintro rfl
        have : jK 0 = 11 := by decide +kernel
        have a2 : jK 0 = 22 := a2
        omega
      rw [jNk_low (by omega) h]
      obtain ⟨b0, b1, b2⟩ := w2 a ⟨a0, h, a2⟩ k k0 k1
      exact ⟨b0, by omega, b2⟩
    · have h4 := jK_22 a.toNat (by omega) a2 (by omega)
      obtain ⟨e1, e2, e3, e4⟩ := jK_e k.toNat (by omega)
      have hv : jNk C a k = a + 1 + 5 * k := by
        unfold jNk
        rw [if_neg (by omega), if_pos (by omega), if_pos (by omega)]
      rw [hv]
      refine ⟨by omega, by omega, ?_⟩
      rcases h4 with h4 | h4 | h4 | h4
      · rw [show (a + 1 + 5 * k).toNat = 405 + 5 * k.toNat by omega]; exact e1
      · rw [show (a + 1 + 5 * k).toNat = 477 + 5 * k.toNat by omega]; exact e2
      · rw [show (a + 1 + 5 * k).toNat = 549 + 5 * k.toNat by omega]; exact e3
      · rw [show (a + 1 + 5 * k).toNat = 621 + 5 * k.toNat by omega]; exact e4
theorem im_tr {Z : jE} {ad' : Nat → Nat} {C : jC} {H : Heap} (hw : jWF 357 C) (h : ∀ i, i < 357 → ad' i = jad Z i) (hP : va_P Z.1 jcl (jws Z 357 C) H) : va_P Z.1 jcl (jws (jZa Z ad') 357 C) H := by
  intro k q hk
  have hk' : k < 357 := by
    have := (List.getElem?_eq_some_iff.mp hk).1
    rwa [jws_len] at this
  rw [jws_at hk'] at hk
  cases hk
  have h0 := hP k _ (jws_at hk')
  show va_at Z.1 jcl (ad' k, jcell (jZa Z ad') (jK k) (k : Int) (C (k : Int))) H
  rw [h k hk']
  by_cases c22 : jK k = 22
  · rw [c22] at h0 ⊢
    have e : vp_cell (Z.2.1 4) (8, .inr (.inr (.inr (.inr (fun j => some (ad' (C (k : Int) (j : Int)).toNat)))))) = vp_cell (Z.2.1 4) (8, .inr (.inr (.inr (.inr (fun j => some (jad Z (C (k : Int) (j : Int)).toNat)))))) := by
      rw [vp_cell_q, vp_cell_q]
      refine arrV_congr (fun j hj => ?_)
      have := hw.2.1 (k : Int) ⟨by omega, by omega, by simpa using c22⟩ (j : Int) (by omega) (by omega)
      obtain ⟨b0, b1, -⟩ := this
      rw [h _ (by omega)]
    show H[jad Z k]? = some (vp_cell (Z.2.1 4) (8, .inr (.inr (.inr (.inr (fun j => some (ad' (C (k : Int) (j : Int)).toNat)))))))
    rw [e]; exact h0
  · refine jcell_tr (ad := jad Z) (M := 357 - k) (fun i i0 i1 => h i (by omega)) (jRe_357 k hk') (fun q => absurd q c22) (fun q => ?_) h0
    have := jK_11 k (by omega) q
    subst this
    rcases hw.2.2.2 with h | h
    · exact h.1
    · exact absurd h.2 (by decide)
abbrev jQm (Z : jE) (n sz : Nat) (post : jC → Prop) : Array Value → State → Outcome → State → Prop := va_Qv (fun (u : (Nat → Nat) × jC) => (∀ i, i < 357 → u.1 i = jad Z i) ∧ jWF 661 u.2 ∧ post u.2) (fun u t => va_P Z.1 jcl (jws (jZa Z u.1) 661 u.2) t.heap ∧ va_D (jA Z n sz) (jws (jZa Z u.1) 661 u.2)) (jA Z n sz)
def jIm (l : Launch) (Z : jE) (n : Nat) (C : jC) (post : jC → Prop) : Prop :=
  ∀ sz, Met l y_11_image (jW y_11_image prog_1_method_44_code 1 none) q_11_image (jPc l Z n C [jr Z 0] sz) (jQm Z n sz post) q_11_image.cells q_11_image.slots (jA Z n sz)
section JIM
variable {p : Program} {l : Launch} {e : Env} {R : Room} {s : State} {m : MethodId} {args : Array Value} {below : List Frame} {meth : Method} {c : Code} {cc : ByteArray} {own : String} {nL : Nat} {Z : jE} {A : Nat → Prop} {cells slots : Nat} {Q : State → Prop} {pc n : Nat} {lv : List (Nat × Value)} {st : List Value} {ws : va_W} {C : jC}
set_option maxHeartbeats 4000000 in
set_option maxRecDepth 100000 in
/-- the second half of image(): over any addresses -/
theorem im_rest {sz : Nat} {ad : Nat → Nat} {post : jC → Prop} (X : jX p l s m args c prog_1_method_44_code "PrivateViews" 1 Z A) (hAe : A = jA Z n sz) (hr : meth.sig.returnType = none) (hlocks : meth.locks = false) (hw : jWF 661 C) (had : ∀ i, i < 357 → ad i = jad Z i) (h : wp_8_copyFrom 357 35 C post) (hc : cells ≤ 304 ∧ slots ≤ 9379) : jG p l e q_11_image s m args below meth c 1 Z A (jws (jZa Z ad) 661 C) cells slots (MQ below (jQm Z n sz post) args s q_11_image.cells q_11_image.slots (jA Z n sz)) 18 [(0, jr (jZa Z ad) 0)] [] := by
  have hn := hw.2.2.1
  have X : jX p l s m args c prog_1_method_44_code "PrivateViews" 1 (jZa Z ad) A := X
  have h4 : C 0 4 = 357 := by
    rcases hw.2.2.2 with h | h
    · exact absurd h.2 (by decide)
    · exact h.1
  show jG p l e q_11_image s m args below meth c 1 (jZa Z ad) A (jws (jZa Z ad) 661 C) cells slots (MQ below (jQm Z n sz post) args s q_11_image.cells q_11_image.slots (jA Z n sz)) 18 [(0, jr (jZa Z ad) 0)] []
  refine jg_aload_n (pc := 18) X d_11_image_18 0 rfl ?_
  refine jgf_11_4 (pc := 19) X (jl_0_11 hn) kw_340 d_11_image_19 ?_
  refine jg_eqst (congrArg (· :: _) ((congrArg (jn (jZa Z ad)) h4).trans (jn_pos (by decide)))) ?_
  refine jg_aload_n (pc := 22) X d_11_image_22 0 rfl ?_
  refine jgf_11_2 (pc := 23) X (jl_0_11 hn) kw_338 d_11_image_23 ?_
  refine jg_callVv (pc := 26) X (m_8_copyFrom (⟨by decide, by decide, by decide +kernel⟩ : jT 661 357 8) (jl_35_8 hn) hw h) jM_8_copyFrom kw_388 (⟨by decide, by decide, by decide +kernel⟩ : jT 661 357 8) rfl rfl rfl rfl rfl (Nat.le_of_ble_eq_true rfl) d_11_image_26 ⟨(Nat.le_of_ble_eq_true rfl), (Nat.le_of_ble_eq_true rfl)⟩ ⟨hc.1, hc.2⟩ (fun C3 w5 h => ?_)
  subst hAe
  intro H locs ls hP hD hS hl
  refine W.widen hc.1 hc.2 ?_
  exact W.vret X.1 X.2.1 hr (fun t ht hW => ⟨⟨(ad, C3), rfl, ⟨had, w5, h⟩, by show va_P Z.1 jcl (jws (jZa Z ad) 661 C3) t.heap; rw [ht]; exact hP, hD⟩, hS.F ht⟩) hS.2.2 d_11_image_29 hlocks
set_option maxHeartbeats 4000000 in
set_option maxRecDepth 100000 in
theorem im_walk {sz : Nat} {post : jC → Prop} (hw0 : jWF n C) (h1 : n = 661 → wp_8_copyFrom 357 35 C post) (h2 : n = 357 → wp_8_copyFrom 357 35 (jNk C) post) (X : jX p l s m args c prog_1_method_44_code "PrivateViews" 1 Z (jA Z n sz)) (hr : meth.sig.returnType = none) (hlocks : meth.locks = false) : jG p l e q_11_image s m args below meth c 1 Z (jA Z n sz) (jws Z n C) 0 0 (MQ below (jQm Z n sz post) args s q_11_image.cells q_11_image.slots (jA Z n sz)) 0 [(0, jr Z 0)] [] := by
  have hn := hw0.2.2.1
  refine jg_aload_n (pc := 0) X d_11_image_0 0 rfl ?_
  refine jgf_11_4 (pc := 1) X (jl_0_11 hn) kw_340 d_11_image_1 ?_
  refine jg_ifnonnull (T := True) (F := True) (tgt := 18) (pc := 4) X d_11_image_4 (by decide) (by split <;> trivial) (fun c1 _ => ?_) (fun c1 _ => ?_)
  · have hn7 : n = 357 := by
      rcases hw0.2.2.2 with h | h
      · exact h.2
      · omega
    subst hn7
    refine jg_aload_n (pc := 7) X d_11_image_7 0 rfl ?_
    refine jg_newI (C := jNk C) (ws := jws Z 357 C) (pc := 8) X (n_8 (B := 357) jNk_z jNk_r) rfl jin8 jty8 nd_8 kv_148 kv_149 kv_6 rfl rfl kv_151 kv_152 ⟨by decide, by decide, by decide +kernel⟩ (Or.inl kv_150) d_11_image_8 d_11_image_11 d_11_image_12 ⟨Nat.le_of_ble_eq_true rfl, Nat.le_of_ble_eq_true rfl⟩ (Nat.le_of_ble_eq_true rfl) ⟨Nat.le_of_ble_eq_true rfl, Nat.le_of_ble_eq_true rfl⟩ (fun adX => ?_)
    obtain ⟨ad, a1, a2⟩ : ∃ ad : Nat → Nat, (∀ i, i < 357 → ad i = jad Z i) ∧ (∀ i, 357 ≤ i → ad i = adX i) := ⟨fun i => if i < 357 then jad Z i else adX i, fun i hi => if_pos hi, fun i hi => if_neg (by omega)⟩
    refine jg_conv (ws' := jws (jZa Z ad) 357 C ++ jSg Z ad (jNk C) 357 kSt) (fun H hP => ?_) ?_ ?_
    · obtain ⟨b1, b2⟩ := va_P_app hP
      exact (im_tr hw0 a1 b1).app (jSg_tr (clo_St jNk_r) (fun i i0 _ => a2 i i0) b2)
    · rw [List.map_append, List.map_append, jSg_ad (ad := adX) (fun i i0 _ => a2 i i0)]
      congr 1
      apply List.ext_getElem?
      intro i
      rw [List.getElem?_map, List.getElem?_map]
      by_cases hi : i < 357
      · rw [jws_at hi, jws_at hi]
        show some (ad i) = some (jad Z i)
        rw [a1 i hi]
      · rw [List.getElem?_eq_none (by rw [jws_len]; omega), List.getElem?_eq_none (by rw [jws_len]; omega)]
    have e0 : jr Z 0 = Value.ref (ad 0) := by rw [a1 0 (by decide)]; rfl
    rw [← a2 357 (Nat.le_refl _), e0]
    refine jg_putP (pc := 15) (ci := 11) (fs := [jr (jZa Z ad) (0 + 1), jr (jZa Z ad) (0 + 3), jr (jZa Z ad) (0 + 35), jr (jZa Z ad) (0 + 339), jn (jZa Z ad) (C 0 4)]) X 0 4 (by rw [List.getElem?_append_left (by rw [jws_len]; decide), jws_at (by decide)]; rfl) rfl jin11 jty11 jnm11 (by decide) rfl rfl rfl rfl rfl (Nat.le_of_ble_eq_true rfl) kw_340 d_11_image_15 ?_
    refine jg_ws (ws' := jws (jZa Z ad) 661 (jNk C)) ?_ ?_
    · apply List.ext_getElem?
      intro i
      by_cases i0 : i = 0
      · subst i0
        rw [List.getElem?_set_self (by rw [List.length_append, jws_len]; omega), jws_at (by decide)]
        show some (ad 0, (.inr (11, _) : va_E)) = some (ad 0, .inr (11, [jr (jZa Z ad) (0 + 1), jr (jZa Z ad) (0 + 3), jr (jZa Z ad) (0 + 35), jr (jZa Z ad) (0 + 339), jn (jZa Z ad) (jNk C 0 4)]))
        rw [jNk_04]
        rfl
      · rw [List.getElem?_set_ne (fun q => i0 q.symm)]
        by_cases hi : i < 357
        · rw [List.getElem?_append_left (by rw [jws_len]; exact hi), jws_at hi, jws_at (by omega), jNk_low (by omega) (by omega)]
        · rw [List.getElem?_append_right (by rw [jws_len]; omega), jws_len]
          by_cases h6 : i < 661
          · have := jSg_at (Z := Z) (ad := ad) (C := jNk C) (B := 357) (kSt_at (i - 357) (by omega))
            rw [show 357 + (i - 357) = i by omega] at this
            rw [this, jws_at h6]
            rfl
          · rw [List.getElem?_eq_none (by rw [jSg_len]; have : kSt.length = 304 := by decide +kernel
                                          omega), List.getElem?_eq_none (by rw [jws_len]; omega)]
    exact im_rest X rfl hr hlocks (jWF_nk hw0) a1 (h2 rfl) ⟨Nat.le_of_ble_eq_true rfl, Nat.le_of_ble_eq_true rfl⟩
  · have hn6 : n = 661 := by
      rcases hw0.2.2.2 with h | h
      · omega
      · exact h.2
    subst hn6
    exact im_rest (ad := jad Z) X rfl hr hlocks hw0 (fun _ _ => rfl) (h1 rfl) ⟨Nat.zero_le _, Nat.zero_le _⟩
set_option maxHeartbeats 4000000 in
set_option maxRecDepth 100000 in
theorem m_image {post : jC → Prop} (hw0 : jWF n C) (h1 : n = 661 → wp_8_copyFrom 357 35 C post) (h2 : n = 357 → wp_8_copyFrom 357 35 (jNk C) post) : jIm l Z n C post := by
  intro sz
  refine Met.ofW (cc := prog_1_method_44_code) (maxL := 1) (ret := none) (by decide) rfl ?_
  intro p e s m args below meth c s₁ B hml hv
  obtain ⟨rfl, hsz, hP, hK, hD0, hB⟩ := hv
  have hts := atoms_spec (ws := jW y_11_image prog_1_method_44_code 1 none) B.pre
  rw [hsz] at hB
  have X : jX p l s m [jr Z 0].toArray c prog_1_method_44_code "PrivateViews" 1 Z (jA Z n sz) := ⟨B.exec, B.bytes, hml, findClass_of_methodNamed B.named, fun w hw => hts w (List.mem_cons_of_mem _ hw), hK, fun q hq => Or.inr (by rw [← hsz]; exact hq), hB⟩
  have hl := lv_entry [jr Z 0] (n := 1) (Nat.le_refl 1)
  rw [lg_entry_eq]
  exact im_walk hw0 h1 h2 X B.returns B.notSynchronized s.heap [] _ hP (jA_in hD0 (fun i hi => Or.inl ⟨i, hi, rfl⟩)) va_S.rf hl
theorem jD_adr {n : Nat} {ad : Nat → Nat} {C C' : jC} {A : Nat → Prop} (h : va_D A (jws (jZa Z ad) n C)) : va_D A (jws (jZa Z ad) n C') := jD_any h
theorem jM_11_image : jMy y_11_image prog_1_method_44_code 1 none 0 := ⟨jtb (List.mem_of_getElem? (i := 385) (by decide +kernel)) (by decide +kernel), jtb (List.mem_of_getElem? (i := 386) (by decide +kernel)) (by decide +kernel), kw_1, jtb (List.mem_of_getElem? (i := 387) (by decide +kernel)) (by decide +kernel), by decide, by decide, by decide +kernel⟩
theorem jg_imcall {idx : Nat} {post : jC → Prop} (X : jX p l s m args c cc own nL Z A) (hn : jOkn n) (hM : jIm l Z n C post) (hlink : Cond.methodLink own idx y_11_image ∈ jTB) (hd : decode cc pc = .ok (.invokevirtual idx, 3)) (hcat : (st.map fun v => v.category).sum ≤ 8) (hR : 7 ≤ R.frames ∧ 167 ≤ R.locals) (hC : cells + 304 ≤ R.cells ∧ slots + 9379 ≤ R.slots)
    (kk : ∀ (ad : Nat → Nat) (C' : jC), (∀ i, i < 357 → ad i = jad Z i) → jWF 661 C' → post C' → jG p l e R s m args below meth c nL Z A (jws (jZa Z ad) 661 C') (cells + 304) (slots + 9379) Q (pc + 3) lv st) : jG p l e R s m args below meth c nL Z A (jws Z n C) cells slots Q pc lv (jr Z 0 :: st) := by
  intro H locs ls hP hD hS hl
  have hsub := jA_sub hD hS X.2.2.2.2.2.2.1
  obtain ⟨g1, g2, g3, g4, g5⟩ := jM_11_image
  have hrv := jrecv X (jl_0_11 hn) (fs := [jr Z (0 + 1), jr Z (0 + 3), jr Z (0 + 35), jr Z (0 + 339), jn Z (C 0 4)]) rfl rfl hP
  refine va_callv (va_runV (As := []) (rest := st) (b := jad Z (0 : Int).toNat) (C := y_11_image.cls) ⟨X.1, X.2.1, X.2.2.1, X.2.2.2.1, X.2.2.2.2.1⟩ (hM H.size) ⟨jcb_of X g4 g3 hlink g5 ⟨hR.1, hR.2⟩, X.2.2.2.2.1 _ g1, X.2.2.2.2.1 _ g2⟩ ⟨jPc_blind, hrv, jpre_of X hP hD hS _⟩ rfl rfl hl.1 rfl (lv_room hcat) hd hC) hS (fun q _ h => hsub q h) hsub (fun u t H1 locs1 ht hvm hw hB hz1 hk1 hS1 => ?_)
  obtain ⟨ad, C'⟩ := u
  obtain ⟨b1, b2⟩ := hB
  rw [ht] at b1
  exact kk ad C' hw.1 hw.2.1 hw.2.2 H1 locs1 ls b1 (b2.weaken (fun k q _ h => hsub _ h)) hS1 hl
end JIM
theorem rAll_low {C C' : jC} {K : Int} (h : rAll C K) (e : ∀ a, 0 < a → a < 357 → a ≠ 345 → C' a = C a) (e5 : ∀ k, k ≠ 4 → C' 345 k = C 345 k) (e0 : C' 0 4 = -1) (e4 : C' 345 4 = 0) : rAll C' K := by
  obtain ⟨h1, h2, h3, h4, h5, h6, h7, -⟩ := h
  have e1 := e 1 (by decide) (by decide) (by decide)
  have e2 := e 2 (by decide) (by decide) (by decide)
  have e9 := e 349 (by decide) (by decide) (by decide)
  have e6 := e 346 (by decide) (by decide) (by decide)
  have f6 := e5 6 (by decide)
  have f11 := e5 11 (by decide)
  unfold rT at h4
  refine ⟨by rw [e1, f6]; exact h1, by rw [f6]; exact h2, by rw [f6]; exact h3, ?_, by rw [e1, f11]; exact h5, ?_, by rw [e6]; exact h7, Or.inl ⟨e0, e4⟩⟩
  · unfold rT; rw [f6, e2, e9]; exact h4
  · rw [e6]
    exact rS_keep (fun b hb => e b (by have := hb.1; omega) (by have := hb.2.1; omega) (by have := hb.2.1; omega)) h6
/-- image(), both sides -/
theorem op_image {n : Nat} {C : jC} {K : Int} (hw : jWF n C) (h : rAll C K) : (n = 661 → wp_8_copyFrom 357 35 C (fun C1 => wp_12_image C1 (fun C2 => C2 345 0 = 0 ∧ rAll C2 K))) ∧ (n = 357 → wp_8_copyFrom 357 35 (jNk C) (fun C1 => wp_12_image C1 (fun C2 => C2 345 0 = 0 ∧ rAll C2 K))) := by
  refine ⟨fun hn => ?_, fun hn => ?_⟩
  · have h4 : C 0 4 = 357 := by
      rcases hw.2.2.2 with q | q
      · omega
      · exact q.1
    have hs : rS 357 C (C 347) := by
      rcases h.2.2.2.2.2.2.2 with q | q
      · omega
      · exact q.2.2.1
    refine op_image1 (rAll_low h (fun a a0 a1 a2 => ?_) (fun k hk => ?_) ?_ ?_) h4 (fun v v0 v1 => rRow_of hs v0 v1)
    · simp only [jU]; rw [if_neg a2, if_neg (by omega)]
    · simp only [jU]; rw [if_pos trivial, if_neg hk, if_neg (by decide)]
    · simp only [jU]; rw [if_neg (by decide), if_pos trivial, if_pos rfl]
    · simp only [jU]; rw [if_pos trivial, if_pos rfl]
  · refine op_image1 (rAll_low h (fun a a0 a1 a2 => ?_) (fun k hk => ?_) ?_ ?_) (jNk_04 C) (fun v v0 v1 => ?_)
    · simp only [jU]; rw [if_neg a2, if_neg (by omega)]; exact jNk_low a0 a1
    · simp only [jU]; rw [if_pos trivial, if_neg hk, if_neg (by decide), jNk_low (by decide) (by decide)]
    · simp only [jU]; rw [if_neg (by decide), if_pos trivial, if_pos rfl]
    · simp only [jU]; rw [if_pos trivial, if_pos rfl]
    · have key : ∀ k, 0 ≤ k → k < 8 → jNk C (357 + 8 + 8 + 72 * v + 31) k = 357 + 8 + 8 + 72 * v + 32 + 5 * k := by
        intro k k0 k1
        unfold jNk
        rw [if_neg (by omega), if_pos (by omega), if_pos (by omega)]
        omega
      refine ⟨fun k k0 k1 => ⟨k, k0, k1, key k k0 k1⟩, fun i j i0 ij j1 => ?_⟩
      rw [key i i0 (by omega), key j (by omega) j1]
      omega

theorem jHid : ∀ h : Nat, h < 32 → ∀ c : Nat, c < 5 → 0 ≤ jOr (h : Int) (jShl 1 (c : Int)) ∧ jOr (h : Int) (jShl 1 (c : Int)) < 32 := by decide +kernel
theorem jHid' {h c : Int} (h0 : 0 ≤ h) (h1 : h < 32) (c0 : 0 ≤ c) (c1 : c < 5) : 0 ≤ jOr h (jShl 1 c) ∧ jOr h (jShl 1 c) < 32 := by
  have := jHid h.toNat (by omega) c.toNat (by omega)
  rw [Int.toNat_of_nonneg h0, Int.toNat_of_nonneg c0] at this
  exact this
theorem sp_cHide {T : Int → Int} {m p z : Int} {C : jC} (h : jCL T m p C) (hk : jLk C) {post : Int → jC → Prop}
    (y1 : ∀ (C' : jC) (x : Int), p ≤ x → jXt C C' → jCL T m x C' → jLk C' → jPM (fun v D q => wp_12_readHide v D q) T m p z C C' 1 x → post 1 C')
    (y0 : ∀ (C' : jC) (x : Int), jXf C C' x → jPM (fun v D q => wp_12_readHide v D q) T m p z C C 0 x → post 0 C') : wp_9_readHide C post := by
  obtain ⟨k1, k2, k3, k4, k5, k6, k7, k8, k9⟩ := id hk
  have m4 := h.2.2.2.2.1
  have p0 := h.2.2.1
  have hb := jBl_b h
  have du := jDg_up (T := T) (show 0 ≤ jBl T m p by omega) hb.2 m4
  unfold wp_9_readHide
  refine sp_cCol h (N := C 3 0) rfl ?_ ?_
  · generalize hbb : jBl T m p = b at *
    generalize hd : jDg T m b = d at *
    generalize hv : jNum T b (d - b) = val at *
    intro d1 d3 vN C2 g2 h2 v5 b6
    have nr := jNum_rng (T := T) (m := m) (f := b) (d := d - b) (fun i i0 i1 => du.2.2.1 i i0 (by omega)) (by omega) d3
    rw [hv] at nr
    have e7 : C2 7 = C 7 := g2.1 7 (by decide)
    have xt := jXt_go g2
    rw [if_neg (by decide), v5]
    have mc : ∀ (v : Int) (D : jC) (q : Int → jC → Prop), 0 ≤ v → v < 4 → jML T m p D → jLr C (D 346) v → (∀ D', jGoM D D' → jML T m d D' → D' 345 10 = val → D' 345 9 = b → (if jAnd (jShr (C 7 3) val) 1 = 1 then q 0 D' else q 1 (jU D' 346 (298 + 2114 * v + 29) (jOr (C 7 3) (jShl 1 val))))) → wp_12_readHide v D q := by
      intro v D q v0 v1 hD hl y
      obtain ⟨l1, l2, l3⟩ := hl
      unfold wp_12_readHide wp_12_columns
      dsimp only
      rw [l1]
      refine ⟨⟨by omega, by omega⟩, ?_⟩
      refine sp_mCol hD k6 k7 ?_ ?_
      · rw [hbb, hd, hv]
        intro _ _ _ D' g1 g3 g4 g5
        have yy := y D' g1 g3 g4 g5
        have w29 : D' 346 (298 + 2114 * v + 29) = C 7 3 := by rw [g1.1 346 (by decide)]; exact l3.2.2.2.2.1.symm
        rw [if_neg (by decide), sp_viewAt v0 v1 (by omega) (by omega), w29, g4]
        refine ⟨by omega, by omega, ?_⟩
        unfold wp_12_has
        by_cases e : jAnd (jShr (C 7 3) val) 1 = 1
        · rw [if_pos e] at yy ⊢
          dsimp only
          rw [if_neg (by decide)]; exact yy
        · rw [if_neg e] at yy ⊢
          dsimp only
          rw [if_pos rfl, sp_viewAt v0 v1 (by omega) (by omega), w29]
          exact ⟨by omega, by omega, yy⟩
      · rw [hbb, hd, hv]
        exact fun q => absurd ⟨d1, d3, vN⟩ q
    unfold wp_2_hides
    rw [if_neg (by omega), if_neg (by omega), e7]
    by_cases e : jAnd (jShr (C 7 3) val) 1 = 1
    · rw [if_pos e]
      dsimp only
      rw [if_neg (by decide)]
      unfold wp_5_failAt
      rw [b6]
      refine ⟨Or.inl rfl, y0 _ b (jXf_bad xt (jBad_u _ _)) ?_⟩
      intro v D q v0 v1 hD h9 hl z1 z0
      refine mc v D q v0 v1 hD hl (fun D' g3 g4 g5 g6 => ?_)
      rw [if_pos e]
      exact z0 rfl D' (jGoW_M g3) g6 (fun j _ => by rw [g3.1 346 (by decide)])
    · rw [if_neg e]
      dsimp only
      rw [if_pos rfl]
      have hh := jHid' k4 k5 nr.1 (show val < 5 by omega)
      generalize hX : jU C2 7 3 (jOr (C 7 3) (jShl 1 val)) = X
      have xb : ∀ b', b' ≠ 7 → X b' = C2 b' := fun b' h1 => by rw [← hX, jU_ne h1]
      have x7 : ∀ j, X 7 j = if j = 3 then jOr (C 7 3) (jShl 1 val) else C 7 j := fun j => by rw [← hX, jU_at, if_pos rfl, e7]
      have xC : ∀ b', b' ≠ 1 → b' ≠ 7 → X b' = C b' := fun b' h0 h1 => by rw [xb b' h1, g2.1 b' h0]
      have xx : jXt C2 X := ⟨fun b' hb' => xb b' (by omega), by rw [xb 1 (by decide)], by rw [xb 1 (by decide)], xb 2 (by decide), by rw [xb 1 (by decide)]⟩
      have lkX : jLk X := ⟨by rw [x7, if_neg (by decide)]; exact k1, by rw [x7, if_neg (by decide)]; exact k2, by rw [x7, if_neg (by decide), xC 9 (by decide) (by decide), xC 3 (by decide) (by decide)]; exact k3, by rw [x7, if_pos rfl]; exact hh.1, by rw [x7, if_pos rfl]; exact hh.2, by rw [xC 3 (by decide) (by decide)]; exact k6, by rw [xC 3 (by decide) (by decide)]; exact k7, by rw [xC 4 (by decide) (by decide)]; exact k8, fun c c0 c1 => by rw [xC _ (by omega) (by omega)]; exact k9 c c0 c1⟩
      refine y1 X d (by have := du.1; omega) (jXt_t xt xx) (jCL_tx h2 xx (by rw [xb 1 (by decide)]; exact h2.2.1) h2.2.2.1 h2.2.2.2.1) lkX ?_
      intro v D q v0 v1 hD h9 hl z1 z0
      refine mc v D q v0 v1 hD hl (fun D' g3 g4 g5 g6 => ?_)
      rw [if_neg e]
      obtain ⟨l1, l2, l3⟩ := hl
      obtain ⟨m1, m2, m3, m5, m6, m7, m8, m9, m10⟩ := l3
      have DW : D' 346 = D 346 := g3.1 346 (by decide)
      have gY : jGoW D' (jU D' 346 (298 + 2114 * v + 29) (jOr (C 7 3) (jShl 1 val))) := jGoW_U _ _ _
      have wY : ∀ j, jU D' 346 (298 + 2114 * v + 29) (jOr (C 7 3) (jShl 1 val)) 346 j = if j = 298 + 2114 * v + 29 then jOr (C 7 3) (jShl 1 val) else D 346 j := fun j => by rw [jU_at, if_pos rfl, DW]
      have hml := jML_W g4 gY (by rw [jU_ne (by decide)]; exact g4.2.1) g4.2.2.1 g4.2.2.2.1
      generalize jU D' 346 (298 + 2114 * v + 29) (jOr (C 7 3) (jShl 1 val)) = Y at *
      have wo : ∀ j, j ≠ 298 + 2114 * v + 29 → Y 346 j = D 346 j := fun j h1 => by rw [wY, if_neg h1]
      refine z1 rfl Y (jGoW_t (jGoW_M g3) gY) hml ⟨by rw [wo 0 (by omega), xC 3 (by decide) (by decide)]; exact l1, fun c c0 c1 => by rw [wo _ (by omega), xC 4 (by decide) (by decide)]; exact l2 c c0 c1, ?_⟩ (fun j hj => wo j (by omega))
      unfold rLens
      simp only [Int.reduceAdd]
      rw [x7 2, if_neg (by decide), x7 3, if_pos rfl, wo (298 + 2114 * v + 25) (by omega), wY (298 + 2114 * v + 29), if_pos rfl, wo 0 (by omega), xC 9 (by decide) (by decide)]
      simp only [Int.reduceAdd] at m5 m9
      refine ⟨m1, m2, m3, fun k a b => by rw [wo _ (by omega)]; exact m5 k a b, rfl, hh.1, hh.2, fun c c0 c1 => ?_, fun c c0 c1 => by rw [wo _ (by omega)]; exact m10 c c0 c1⟩
      have f := m9 c c0 c1
      unfold rFil at f ⊢
      rw [xC (10 + 5 * c) (by omega) (by omega), xC (10 + 5 * c + 1) (by omega) (by omega), xC (10 + 5 * c + 2) (by omega) (by omega), xC (10 + 5 * c + 3) (by omega) (by omega), xC (10 + 5 * c + 4) (by omega) (by omega), wo (4 + c) (by omega), wo (298 + 2114 * v + 30 + 31 * c) (by omega)]
      obtain ⟨r1, r2, r3, r4⟩ := f
      refine ⟨r1, r2, r3, fun k a b => ?_⟩
      rw [wo (298 + 2114 * v + 30 + 31 * c + 1 + 5 * k) (by omega), wo (298 + 2114 * v + 30 + 31 * c + 1 + 5 * k + 1) (by omega), wo (298 + 2114 * v + 30 + 31 * c + 1 + 5 * k + 2) (by omega), wo (298 + 2114 * v + 30 + 31 * c + 1 + 5 * k + 3) (by omega), wo (298 + 2114 * v + 30 + 31 * c + 1 + 5 * k + 4) (by omega)]
      exact r4 k a b
  · intro nd C2 g2
    rw [if_pos rfl]
    refine y0 C2 _ (jXf_bad (jXt_r C) g2) ?_
    intro v D q v0 v1 hD h9 hl z1 z0
    obtain ⟨l1, l2, l3⟩ := hl
    unfold wp_12_readHide wp_12_columns
    dsimp only
    rw [l1]
    refine ⟨⟨by omega, by omega⟩, ?_⟩
    refine sp_mCol hD k6 k7 (fun q1 q2 q3 => absurd ⟨q1, q2, q3⟩ nd) (fun _ D' g3 g4 => ?_)
    rw [if_pos rfl]
    exact z0 rfl D' (jGoW_M g3) g4 (fun j _ => by rw [g3.1 346 (by decide)])
/-- k tests read one after the other, each with an "or" behind: their places and the class's cells of them -/
def jTt (T : Int → Int) (m kind f : Int) (E : jC) (P X : Int → Int) (k : Int) : Prop := ∀ j, 0 ≤ j → j < k → 0 ≤ P j ∧ P j ≤ m ∧ 0 ≤ X j ∧ X j ≤ m ∧ jTM T m (jBl T m (P j)) kind 1 (X j) (fun u1 u2 u3 u4 u5 => rTest kind (E (f + 1) j) (E (f + 2) j) (E (f + 3) j) (E (f + 4) j) u1 u2 u3 u4 u5) ∧ jWq T m (jBl T m (X j)) 4 ∧ P (j + 1) = jBl T m (X j) + 2
/-- the model's world with k tests of filter c of view v written -/
def jTwd (kind f v c : Int) (E : jC) (w0 w : Int → Int) (k : Int) : Prop := (∀ i, 0 ≤ i → i < k → rTest kind (E (f + 1) i) (E (f + 2) i) (E (f + 3) i) (E (f + 4) i) (w (298 + 2114 * v + 30 + 31 * c + 1 + 5 * i)) (w (298 + 2114 * v + 30 + 31 * c + 1 + 5 * i + 1)) (w (298 + 2114 * v + 30 + 31 * c + 1 + 5 * i + 2)) (w (298 + 2114 * v + 30 + 31 * c + 1 + 5 * i + 3)) (w (298 + 2114 * v + 30 + 31 * c + 1 + 5 * i + 4))) ∧ (∀ j, ¬ (298 + 2114 * v + 30 + 31 * c + 1 ≤ j ∧ j < 298 + 2114 * v + 30 + 31 * c + 31) → w j = w0 j)
theorem jTwd_s {kind f v c k : Int} {E : jC} {w0 w w1 : Int → Int} (k0 : 0 ≤ k) (k6 : k < 6) (h : jTwd kind f v c E w0 w k) (ho : ∀ j, ¬ (298 + 2114 * v + 30 + 31 * c + 1 + 5 * k ≤ j ∧ j < 298 + 2114 * v + 30 + 31 * c + 1 + 5 * k + 5) → w1 j = w j) (hr : rTest kind (E (f + 1) k) (E (f + 2) k) (E (f + 3) k) (E (f + 4) k) (w1 (298 + 2114 * v + 30 + 31 * c + 1 + 5 * k)) (w1 (298 + 2114 * v + 30 + 31 * c + 1 + 5 * k + 1)) (w1 (298 + 2114 * v + 30 + 31 * c + 1 + 5 * k + 2)) (w1 (298 + 2114 * v + 30 + 31 * c + 1 + 5 * k + 3)) (w1 (298 + 2114 * v + 30 + 31 * c + 1 + 5 * k + 4))) : jTwd kind f v c E w0 w1 (k + 1) := by
  refine ⟨fun i i0 i1 => ?_, fun j hj => by rw [ho j (by omega), h.2 j hj]⟩
  by_cases e : i = k
  · rw [e]; exact hr
  · rw [ho _ (by omega), ho (298 + 2114 * v + 30 + 31 * c + 1 + 5 * i + 1) (by omega), ho (298 + 2114 * v + 30 + 31 * c + 1 + 5 * i + 2) (by omega), ho (298 + 2114 * v + 30 + 31 * c + 1 + 5 * i + 3) (by omega), ho (298 + 2114 * v + 30 + 31 * c + 1 + 5 * i + 4) (by omega)]
    exact h.1 i i0 (by omega)
theorem sp_testAt {v c k : Int} {D : jC} {post : Int → Prop} (v0 : 0 ≤ v) (v1 : v < 4) (c0 : 0 ≤ c) (c1 : c < 5) (k0 : 0 ≤ k) (k1 : k < 6) (y : post (298 + 2114 * v + 30 + 31 * c + 1 + 5 * k)) : wp_12_testAt v c k D post := by
  unfold wp_12_testAt
  rw [sp_filterAt v0 v1 c0 c1]
  refine ⟨⟨by omega, by omega⟩, ?_⟩
  rw [show 298 + 2114 * v + (30 + 31 * c) + 1 + 5 * k = 298 + 2114 * v + 30 + 31 * c + 1 + 5 * k by omega]
  exact y
theorem sp_mTests {T : Int → Int} {m kind f v c k : Int} {E : jC} {P X : Int → Int} (tt : jTt T m kind f E P X k) (m4 : m ≤ 400) (k0 : 0 ≤ k) (k6 : k ≤ 6) (v0 : 0 ≤ v) (v1 : v < 4) (c0 : 0 ≤ c) (c1 : c < 5) {D : jC} (h : jML T m (P 0) D) (hkd : D 346 (4 + c) = kind) {post : Int → jC → Prop}
    (last : ∀ (K : Int → jC → Prop) (D' : jC), jGoW D D' → jML T m (P k) D' → jTwd kind f v c E (D 346) (D' 346) k → wp_12_readFilter_47 v c post K k D') : jL2 (wp_12_readFilter_47 v c post) 0 D := by
  have s4 : jSlen 4 = 2 := rfl
  refine jL2_of (fun j D' => 0 ≤ j ∧ j ≤ k ∧ jGoW D D' ∧ jML T m (P j) D' ∧ jTwd kind f v c E (D 346) (D' 346) j) (fun j _ => (k - j).toNat) (fun K j D' hi hk => ?_) ⟨by omega, by omega, jGoW_r D, h, fun i a b => by omega, fun _ _ => rfl⟩
  obtain ⟨i0, i1, i2, i3, i4⟩ := hi
  by_cases e : j = k
  · subst e
    exact last K D' i2 i3 i4
  · obtain ⟨p0, p1, x0, x1, tm, w4, pn⟩ := tt j i0 (by omega)
    have bu := jBl_up (T := T) p0 p1 m4
    unfold wp_12_readFilter_47
    refine sp_mBlanks i3 (fun D1 d1 d7 d9 => ?_)
    rw [if_neg (by omega)]
    have h1 : jML T m (jBl T m (P j)) D1 := jML_goN i3 d1 d7 (by have := bu.1; omega) bu.2.1
    refine sp_testAt v0 v1 c0 c1 i0 (by omega) ?_
    refine tm c _ D1 _ c0 c1 (by omega) (by omega) h1 (by rw [d1.1 346 (by decide), i4.2 _ (by omega)]; exact hkd) (fun _ D2 g1 g2 g3 g4 => ?_) (fun z => absurd z (by decide))
    rw [if_neg (by decide)]
    refine sp_mPass g2 (by decide) (fun _ D3 e1 e2 _ => ?_) (fun z => absurd w4 z)
    rw [if_neg (by decide)]
    rw [s4, ← pn] at e2
    refine ⟨⟨by omega, by omega⟩, hk _ _ ⟨by omega, by omega, jGoW_t i2 (jGoW_t (jGoW_N d1) (jGoW_t g1 (jGoW_N e1))), e2, ?_⟩ (by omega)⟩
    have ew : D3 346 = D2 346 := e1.1 346 (by decide)
    have ew1 : D1 346 = D' 346 := d1.1 346 (by decide)
    rw [ew]
    rw [ew1] at g3
    exact jTwd_s i0 (by omega) i4 g3 g4

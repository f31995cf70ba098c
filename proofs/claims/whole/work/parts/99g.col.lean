-- a column's number
theorem sp_cCol {T : Int → Int} {m p N : Int} {C : jC} (h : jCL T m p C) (hN : C 3 0 = N) {post : Int → jC → Prop} (y1 : 1 ≤ jDg T m (jBl T m p) - jBl T m p → jDg T m (jBl T m p) - jBl T m p ≤ 3 → jNum T (jBl T m p) (jDg T m (jBl T m p) - jBl T m p) < N → ∀ C', jGo C C' → jCL T m (jDg T m (jBl T m p)) C' → C' 1 5 = jNum T (jBl T m p) (jDg T m (jBl T m p) - jBl T m p) → C' 1 6 = jBl T m p → post 1 C')
    (y0 : ¬ (1 ≤ jDg T m (jBl T m p) - jBl T m p ∧ jDg T m (jBl T m p) - jBl T m p ≤ 3 ∧ jNum T (jBl T m p) (jDg T m (jBl T m p) - jBl T m p) < N) → ∀ C', jBad C C' (jBl T m p) → post 0 C') : wp_9_readColumn C post := by
  have ef : jFi T m (jBl T m p) 0 = jBl T m p := by unfold jFi; rw [if_neg (by omega)]
  unfold wp_9_readColumn
  refine sp_cNum h (Or.inl rfl) ?_ ?_
  · rw [ef, if_pos rfl]
    intro d1 d3 C2 g h2 v5 b6
    rw [if_neg (by decide), g.1 3 (by decide), hN, v5]
    by_cases c : jNum T (jBl T m p) (jDg T m (jBl T m p) - jBl T m p) < N
    · rw [if_pos c]
      exact y1 d1 d3 c C2 g h2 v5 b6
    · rw [if_neg c]
      unfold wp_5_failAt
      dsimp only
      rw [if_pos rfl, b6]
      exact y0 (fun z => c z.2.2) _ (jBad_go g (jBad_u _ _))
  · rw [ef]
    intro nd C2 g
    rw [if_pos rfl]
    refine y0 (fun z => nd ⟨z.1, z.2.1⟩) C2 ?_
    have : (if jDg T m (jBl T m p) - jBl T m p = 0 then jBl T m p else jBl T m p) = jBl T m p := by split <;> rfl
    rw [this] at g
    exact g
theorem sp_mCol {T : Int → Int} {m p N : Int} {D : jC} (h : jML T m p D) (N0 : 0 ≤ N) (N5 : N ≤ 5) {post : Int → jC → Prop} (y1 : 1 ≤ jDg T m (jBl T m p) - jBl T m p → jDg T m (jBl T m p) - jBl T m p ≤ 3 → jNum T (jBl T m p) (jDg T m (jBl T m p) - jBl T m p) < N → ∀ D', jGoM D D' → jML T m (jDg T m (jBl T m p)) D' → D' 345 10 = jNum T (jBl T m p) (jDg T m (jBl T m p) - jBl T m p) → D' 345 9 = jBl T m p → post 1 D')
    (y0 : ¬ (1 ≤ jDg T m (jBl T m p) - jBl T m p ∧ jDg T m (jBl T m p) - jBl T m p ≤ 3 ∧ jNum T (jBl T m p) (jDg T m (jBl T m p) - jBl T m p) < N) → ∀ D', jGoM D D' → D' 345 9 = jBl T m p → post 0 D') : wp_12_number 0 (N - 1) D post := by
  have hb := jBl_m h
  have p0 := h.2.2.1
  have m4 := h.2.2.2.2.1
  unfold wp_12_number
  refine sp_mBlanks h (fun D1 d1 d7 d9 => ?_)
  have h1 := jML_goN h d1 d7 (by omega) hb.2
  have du := jDg_up (T := T) (show 0 ≤ jBl T m p by omega) hb.2 m4
  refine sp_mFig h1 (Or.inl rfl) (by omega) (by omega) (by omega) (by omega) (fun e1 e2 e3 e4 D' g1 g2 g3 g4 => ⟨Or.inr rfl, ?_⟩) (fun e D' g1 g2 => ⟨Or.inl rfl, ?_⟩)
  · exact y1 e1 e2 (by omega) D' (jGoM_t (jGoN_M d1) g1) g3 (by omega) (by rw [g2, d9])
  · refine y0 (fun z => e ⟨z.1, z.2.1, ?_, by omega⟩) D' (jGoM_t (jGoN_M d1) g1) (by rw [g2, d9])
    have nr := jNum_rng (T := T) (m := m) (f := jBl T m p) (d := jDg T m (jBl T m p) - jBl T m p) (fun i i0 i1 => du.2.2.1 i i0 (by omega)) (by have := z.1; omega) z.2.1
    omega
/-- the class's lens of the text is in order -/
def jLk (e : jC) : Prop := 0 ≤ e 7 2 ∧ e 7 2 ≤ 3 ∧ (∀ k, 0 ≤ k → k < e 7 2 → 0 ≤ e 9 k ∧ e 9 k < 2 * e 3 0) ∧ 0 ≤ e 7 3 ∧ e 7 3 < 32 ∧ 0 ≤ e 3 0 ∧ e 3 0 ≤ 5 ∧ (∀ c, 0 ≤ c → c < 5 → e 4 c = 0 ∨ e 4 c = 1) ∧ (∀ c, 0 ≤ c → c < 5 → 0 ≤ e (10 + 5 * c) 0 ∧ e (10 + 5 * c) 0 ≤ 6)
/-- the model's view v has the text's lens so far -/
def jLr (e : jC) (w : Int → Int) (v : Int) : Prop := w 0 = e 3 0 ∧ (∀ c, 0 ≤ c → c < 5 → w (4 + c) = e 4 c) ∧ rLens e w 7 (298 + 2114 * v)
def jOutL (w w1 : Int → Int) (v : Int) : Prop := ∀ j, ¬ (298 + 2114 * v + 25 ≤ j ∧ j < 298 + 2114 * v + 185) → w1 j = w j
theorem jOutL_t {a b c : Int → Int} {v : Int} (h : jOutL a b v) (h' : jOutL b c v) : jOutL a c v := fun j hj => by rw [h' j hj, h j hj]
theorem jOutL_r (a : Int → Int) (v : Int) : jOutL a a v := fun _ _ => rfl
/-- what the model makes of a part of a view's text, from p on -/
def jPM (W : Int → jC → (Int → jC → Prop) → Prop) (T : Int → Int) (m p z : Int) (e e' : jC) (r x : Int) : Prop := ∀ (v : Int) (D : jC) (post : Int → jC → Prop), 0 ≤ v → v < 4 → jML T m p D → D 345 9 = z → jLr e (D 346) v → (r = 1 → ∀ D', jGoW D D' → jML T m x D' → jLr e' (D' 346) v → jOutL (D 346) (D' 346) v → post 1 D') → (r = 0 → ∀ D', jGoW D D' → D' 345 9 = x → jOutL (D 346) (D' 346) v → post 0 D') → W v D post
theorem sp_cSort {T : Int → Int} {m p z dn : Int} {C : jC} (h : jCL T m p C) (hk : jLk C) (hdn : dn = 0 ∨ dn = 1) {post : Int → jC → Prop}
    (y1 : ∀ (C' : jC) (x : Int), p ≤ x → jXt C C' → jCL T m x C' → jLk C' → (∀ b, b ≠ 1 → b ≠ 7 → b ≠ 9 → C' b = C b) → jPM (fun v D q => wp_12_readSort v dn D q) T m p z C C' 1 x → post 1 C')
    (y0 : ∀ (C' : jC) (x : Int), jXf C C' x → jPM (fun v D q => wp_12_readSort v dn D q) T m p z C C 0 x → post 0 C') : wp_9_readSort z dn C post := by
  obtain ⟨k1, k2, k3, k4, k5, k6, k7, k8, k9⟩ := id hk
  have m4 := h.2.2.2.2.1
  have p0 := h.2.2.1
  have hb := jBl_b h
  have du := jDg_up (T := T) (show 0 ≤ jBl T m p by omega) hb.2 m4
  unfold wp_9_readSort
  by_cases c3 : C 7 2 < 3
  · rw [if_pos c3]
    refine sp_cCol h (N := C 3 0) rfl ?_ ?_
    · generalize hbb : jBl T m p = b at *
      generalize hd : jDg T m b = d at *
      generalize hv : jNum T b (d - b) = val at *
      intro d1 d3 vN C2 g2 h2 v5 b6
      have nr := jNum_rng (T := T) (m := m) (f := b) (d := d - b) (fun i i0 i1 => du.2.2.1 i i0 (by omega)) (by omega) d3
      rw [hv] at nr
      rw [if_neg (by decide), v5]
      have e7 : C2 7 = C 7 := g2.1 7 (by decide)
      have e9 : C2 9 = C 9 := g2.1 9 (by decide)
      -- whether a sort is there by the column
      have sb : ∀ q : Int → Prop, ((∃ k, 0 ≤ k ∧ k < C 7 2 ∧ C 9 k / 2 = val) → q 1) → ((∀ k, 0 ≤ k → k < C 7 2 → C 9 k / 2 ≠ val) → q 0) → wp_2_sortsBy 7 val C2 q := by
        intro q q1 q0
        unfold wp_2_sortsBy
        refine jL1_of (fun k => 0 ≤ k ∧ k ≤ C 7 2 ∧ ∀ j, 0 ≤ j → j < k → C 9 j / 2 ≠ val) (fun k => (C 7 2 - k).toNat) (fun K k hi hk1 => ?_) ⟨by omega, by omega, fun j a b => by omega⟩
        obtain ⟨i0, i1, i2⟩ := hi
        unfold wp_2_sortsBy_2
        rw [e7]
        by_cases a : C 7 2 ≤ k
        · rw [if_pos a]
          exact q0 (fun j a b => i2 j a (by omega))
        · rw [if_neg a]
          unfold wp_2_sortAt
          rw [if_neg (by omega), e7, if_neg a, if_neg (by omega), show (7 : Int) + 2 = 9 from rfl, e9]
          dsimp only
          rw [tdiv_nn (k3 k i0 (by omega)).1]
          by_cases e : C 9 k / 2 = val
          · rw [if_pos e]; exact q1 ⟨k, i0, by omega, e⟩
          · rw [if_neg e]
            refine hk1 _ ⟨by omega, by omega, fun j a b => ?_⟩ (by omega)
            by_cases ej : j = k
            · rw [ej]; exact e
            · exact i2 j a (by omega)
      -- the model as far as the column
      have mc : ∀ (v : Int) (D : jC) (q : Int → jC → Prop), 0 ≤ v → v < 4 → jML T m p D → jLr C (D 346) v → (∀ D', jGoM D D' → jML T m d D' → D' 345 10 = val → D' 345 9 = b → jL1 (wp_12_readSort_36 v dn (C 7 2) D' q) 0) → wp_12_readSort v dn D q := by
        intro v D q v0 v1 hD hl y
        obtain ⟨l1, l2, l3⟩ := hl
        unfold wp_12_readSort wp_12_columns
        rw [sp_viewAt v0 v1 (by omega) (by omega)]
        refine ⟨by omega, by omega, ?_⟩
        rw [← l3.1, if_neg (by omega)]
        dsimp only
        rw [l1]
        refine ⟨⟨by omega, by omega⟩, ?_⟩
        refine sp_mCol hD k6 k7 ?_ ?_
        · rw [hbb, hd, hv]
          intro _ _ _ D' g1 g3 g4 g5
          rw [if_neg (by decide)]
          exact y D' g1 g3 g4 g5
        · rw [hbb, hd, hv]
          exact fun q => absurd ⟨d1, d3, vN⟩ q
      -- the model's search
      have ml : ∀ (v : Int) (D D' : jC) (q : Int → jC → Prop), 0 ≤ v → v < 4 → jGoM D D' → jLr C (D 346) v → D' 345 10 = val → (∀ kk, (kk = -1 ∧ ∀ k, 0 ≤ k → k < C 7 2 → C 9 k / 2 ≠ val) ∨ (0 ≤ kk ∧ kk < C 7 2 ∧ C 9 kk / 2 = val ∧ ∀ k, 0 ≤ k → k < kk → C 9 k / 2 ≠ val) → (if kk = -1 then wp_12_readSort_36 v dn (C 7 2) D' q (fun _ => False) (C 7 2) else q 0 D')) → jL1 (wp_12_readSort_36 v dn (C 7 2) D' q) 0 := by
        intro v D D' q v0 v1 g hl e10 y
        obtain ⟨l1, l2, l3⟩ := hl
        obtain ⟨q1, q2, q3, q4, -⟩ := l3
        refine jL1_of (fun k => 0 ≤ k ∧ k ≤ C 7 2 ∧ ∀ j, 0 ≤ j → j < k → C 9 j / 2 ≠ val) (fun k => (C 7 2 - k).toNat) (fun K k hi hk1 => ?_) ⟨by omega, by omega, fun j a b => by omega⟩
        obtain ⟨i0, i1, i2⟩ := hi
        by_cases a : C 7 2 ≤ k
        · have ek : k = C 7 2 := by omega
          have := y (-1) (Or.inl ⟨rfl, fun j a b => i2 j a (by omega)⟩)
          rw [if_pos rfl] at this
          rw [ek]
          unfold wp_12_readSort_36 at this ⊢
          rw [if_pos (Int.le_refl _)] at this ⊢
          exact this
        · unfold wp_12_readSort_36
          rw [if_neg a]
          refine ⟨⟨by omega, by omega⟩, ?_⟩
          rw [sp_viewAt v0 v1 (by omega) (by omega)]
          refine ⟨by omega, by omega, ?_⟩
          have s := q4 k i0 (by omega)
          simp only [Int.reduceAdd] at s
          have sk := k3 k i0 (by omega)
          have e9' : D' 346 (298 + 2114 * v + (26 + k)) = C 9 k := by rw [g.1 346 (by decide), show 298 + 2114 * v + (26 + k) = 298 + 2114 * v + 26 + k by omega]; exact s.1.symm
          rw [e9', tdiv_nn sk.1, e10]
          by_cases e : C 9 k / 2 = val
          · rw [if_pos e]
            have := y k (Or.inr ⟨i0, by omega, e, i2⟩)
            rw [if_neg (by omega)] at this
            exact this
          · rw [if_neg e]
            refine hk1 _ ⟨by omega, by omega, fun j a b => ?_⟩ (by omega)
            by_cases ej : j = k
            · rw [ej]; exact e
            · exact i2 j a (by omega)
      have xt := jXt_go g2
      refine sb _ (fun dup => ?_) (fun nd => ?_)
      · rw [if_neg (by decide)]
        unfold wp_5_failAt
        rw [b6]
        refine ⟨Or.inl rfl, y0 _ b (jXf_bad xt (jBad_u _ _)) ?_⟩
        intro v D q v0 v1 hD h9 hl z1 z0
        refine mc v D q v0 v1 hD hl (fun D' g3 g4 g5 g6 => ?_)
        refine ml v D D' q v0 v1 g3 hl g5 (fun kk hkk => ?_)
        rcases hkk with ⟨q1, q2⟩ | ⟨q1, -⟩
        · obtain ⟨j, j0, j1, j2⟩ := dup
          exact absurd j2 (q2 j j0 j1)
        · rw [if_neg (by omega)]
          exact z0 rfl D' (jGoW_M g3) g6 (fun j _ => by rw [g3.1 346 (by decide)])
      · rw [if_pos rfl]
        refine ⟨⟨by omega, by omega⟩, ?_⟩
        unfold wp_2_takeSort
        simp only [Int.reduceAdd]
        rw [e7, if_neg (by omega)]
        have q72 : ∀ x, jU C2 9 (C 7 2) x 7 2 = C 7 2 := fun x => by rw [jU_ne (by decide), e7]
        rw [q72]
        refine ⟨k1, ⟨by omega, by omega⟩, ?_⟩
        generalize hX : jU (jU C2 9 (C 7 2) (2 * val + dn)) 7 2 (C 7 2 + 1) = X
        have xb : ∀ b', b' ≠ 7 → b' ≠ 9 → X b' = C2 b' := fun b' h1 h2 => by rw [← hX, jU_ne h1, jU_ne h2]
        have x7 : ∀ j, X 7 j = if j = 2 then C 7 2 + 1 else C 7 j := fun j => by rw [← hX, jU_at, if_pos rfl, jU_ne (by decide), e7]
        have x9 : ∀ j, X 9 j = if j = C 7 2 then 2 * val + dn else C 9 j := fun j => by rw [← hX, jU_ne (by decide), jU_at, if_pos rfl, e9]
        have xC : ∀ b', b' ≠ 1 → b' ≠ 7 → b' ≠ 9 → X b' = C b' := fun b' h0 h1 h2 => by rw [xb b' h1 h2, g2.1 b' h0]
        have xx : jXt C2 X := ⟨fun b' hb' => xb b' (by omega) (by omega), by rw [xb 1 (by decide) (by decide)], by rw [xb 1 (by decide) (by decide)], xb 2 (by decide) (by decide), by rw [xb 1 (by decide) (by decide)]⟩
        have lkX : jLk X := by
          refine ⟨by rw [x7, if_pos rfl]; omega, by rw [x7, if_pos rfl]; omega, fun k k0 k1' => ?_, by rw [x7, if_neg (by decide)]; exact k4, by rw [x7, if_neg (by decide)]; exact k5, by rw [xC 3 (by decide) (by decide) (by decide)]; exact k6, by rw [xC 3 (by decide) (by decide) (by decide)]; exact k7, by rw [xC 4 (by decide) (by decide) (by decide)]; exact k8, fun c c0 c1 => by rw [xC _ (by omega) (by omega) (by omega)]; exact k9 c c0 c1⟩
          rw [x7, if_pos rfl] at k1'
          rw [x9, xC 3 (by decide) (by decide) (by decide)]
          by_cases e : k = C 7 2
          · rw [if_pos e]; omega
          · rw [if_neg e]; exact k3 k k0 (by omega)
        refine y1 X d (by have := du.1; omega) (jXt_t xt xx) (jCL_tx h2 xx (by rw [xb 1 (by decide) (by decide)]; exact h2.2.1) h2.2.2.1 h2.2.2.2.1) lkX xC ?_
        intro v D q v0 v1 hD h9 hl z1 z0
        refine mc v D q v0 v1 hD hl (fun D' g3 g4 g5 g6 => ?_)
        refine ml v D D' q v0 v1 g3 hl g5 (fun kk hkk => ?_)
        rcases hkk with ⟨q1, q2⟩ | ⟨q1, q2, q3, -⟩
        · rw [if_pos q1]
          obtain ⟨l1, l2, l3⟩ := hl
          obtain ⟨m1, m2, m3, m5, m6, m7, m8, m9, m10⟩ := l3
          have DW : D' 346 = D 346 := g3.1 346 (by decide)
          unfold wp_12_readSort_36
          rw [if_pos (Int.le_refl _)]
          refine ⟨⟨by omega, by omega⟩, ?_⟩
          rw [sp_viewAt v0 v1 (by omega) (by omega)]
          refine ⟨by omega, by omega, by rw [g5]; exact ⟨by omega, by omega⟩, ?_⟩
          rw [sp_viewAt v0 v1 (by omega) (by omega), g5]
          have w25 : jU D' 346 (298 + 2114 * v + (26 + C 7 2)) (2 * val + dn) 346 (298 + 2114 * v + 25) = C 7 2 := by rw [jU_at, if_pos rfl, if_neg (by omega), DW]; exact m1.symm
          rw [w25]
          refine ⟨by omega, by omega, ⟨by omega, by omega⟩, ?_⟩
          generalize hY : jU (jU D' 346 (298 + 2114 * v + (26 + C 7 2)) (2 * val + dn)) 346 (298 + 2114 * v + 25) (C 7 2 + 1) = Y
          have gY : jGoW D' Y := by rw [← hY]; exact jGoW_t (jGoW_U _ _ _) (jGoW_U _ _ _)
          have wY : ∀ j, Y 346 j = if j = 298 + 2114 * v + 25 then C 7 2 + 1 else if j = 298 + 2114 * v + 26 + C 7 2 then 2 * val + dn else D 346 j := fun j => by
            rw [← hY, jU_at, if_pos rfl, jU_at, if_pos rfl, DW, show 298 + 2114 * v + (26 + C 7 2) = 298 + 2114 * v + 26 + C 7 2 by omega]
          have wo : ∀ j, j ≠ 298 + 2114 * v + 25 → j ≠ 298 + 2114 * v + 26 + C 7 2 → Y 346 j = D 346 j := fun j h1 h2 => by rw [wY, if_neg h1, if_neg h2]
          refine z1 rfl Y (jGoW_t (jGoW_M g3) gY) (jML_W g4 gY (by rw [← hY, jU_ne (by decide), jU_ne (by decide)]; exact g4.2.1) g4.2.2.1 g4.2.2.2.1) ⟨by rw [wo 0 (by omega) (by omega), xC 3 (by decide) (by decide) (by decide)]; exact l1, fun c c0 c1 => by rw [wo _ (by omega) (by omega), xC 4 (by decide) (by decide) (by decide)]; exact l2 c c0 c1, ?_⟩ (fun j hj => wo j (by omega) (by omega))
          unfold rLens
          simp only [Int.reduceAdd]
          rw [wY (298 + 2114 * v + 25), if_pos rfl, x7 2, if_pos rfl, x7 3, if_neg (by decide), wo 0 (by omega) (by omega), wo (298 + 2114 * v + 29) (by omega) (by omega)]
          refine ⟨rfl, by omega, by omega, fun k a b => ?_, m6, m7, m8, fun c c0 c1 => ?_, fun c c0 c1 => by rw [wo _ (by omega) (by omega)]; exact m10 c c0 c1⟩
          · by_cases e : k = C 7 2
            · have q : Y 346 (298 + 2114 * v + 26 + k) = 2 * val + dn := by rw [wY, if_neg (by omega), if_pos (by omega)]
              rw [x9, if_pos e, q]; omega
            · have q : Y 346 (298 + 2114 * v + 26 + k) = D 346 (298 + 2114 * v + 26 + k) := wo _ (by omega) (by omega)
              rw [x9, if_neg e, q]
              have := m5 k a (by omega)
              simp only [Int.reduceAdd] at this
              exact this
          · have f := m9 c c0 c1
            unfold rFil at f ⊢
            simp only [Int.reduceAdd] at f ⊢
            rw [xC (10 + 5 * c) (by omega) (by omega) (by omega), xC (10 + 5 * c + 1) (by omega) (by omega) (by omega), xC (10 + 5 * c + 2) (by omega) (by omega) (by omega), xC (10 + 5 * c + 3) (by omega) (by omega) (by omega), xC (10 + 5 * c + 4) (by omega) (by omega) (by omega), wo (4 + c) (by omega) (by omega), wo (298 + 2114 * v + 30 + 31 * c) (by omega) (by omega)]
            obtain ⟨r1, r2, r3, r4⟩ := f
            refine ⟨r1, r2, r3, fun k a b => ?_⟩
            rw [wo (298 + 2114 * v + 30 + 31 * c + 1 + 5 * k) (by omega) (by omega), wo (298 + 2114 * v + 30 + 31 * c + 1 + 5 * k + 1) (by omega) (by omega), wo (298 + 2114 * v + 30 + 31 * c + 1 + 5 * k + 2) (by omega) (by omega), wo (298 + 2114 * v + 30 + 31 * c + 1 + 5 * k + 3) (by omega) (by omega), wo (298 + 2114 * v + 30 + 31 * c + 1 + 5 * k + 4) (by omega) (by omega)]
            exact r4 k a b
        · exact absurd q3 (nd kk q1 q2)
    · intro nd C2 g2
      rw [if_pos rfl]
      refine y0 C2 _ (jXf_bad (jXt_r C) g2) ?_
      intro v D q v0 v1 hD h9 hl z1 z0
      obtain ⟨l1, l2, l3⟩ := hl
      unfold wp_12_readSort wp_12_columns
      rw [sp_viewAt v0 v1 (by omega) (by omega)]
      refine ⟨by omega, by omega, ?_⟩
      rw [← l3.1, if_neg (by omega)]
      dsimp only
      rw [l1]
      refine ⟨⟨by omega, by omega⟩, ?_⟩
      refine sp_mCol hD k6 k7 (fun q1 q2 q3 => absurd ⟨q1, q2, q3⟩ nd) (fun _ D' g3 g4 => ?_)
      rw [if_pos rfl]
      exact z0 rfl D' (jGoW_M g3) g4 (fun j _ => by rw [g3.1 346 (by decide)])
  · rw [if_neg c3]
    unfold wp_5_failAt
    refine ⟨Or.inl rfl, y0 _ z (jXf_bad (jXt_r C) (jBad_u _ _)) ?_⟩
    intro v D q v0 v1 hD h9 hl z1 z0
    obtain ⟨l1, l2, l3⟩ := hl
    unfold wp_12_readSort
    rw [sp_viewAt v0 v1 (by omega) (by omega)]
    refine ⟨by omega, by omega, ?_⟩
    rw [← l3.1, if_pos (by omega)]
    exact z0 rfl D (jGoW_r D) h9 (fun _ _ => rfl)

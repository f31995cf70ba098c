-- a view's text is read, and its list laid anew
theorem sp_lcopy7 {C : jC} {q : Int} (hd : 35 ≤ q) {post : jC → Prop} (y : ∀ D : jC, (∀ x, ¬ (q + 1 ≤ x ∧ x < q + 29) → D x = C x) → (∀ w b, rLens C w 7 b → rLens D w (q + 1) b) → post D) : wp_2_copyFrom (q + 1) 7 C post := by
  have e : (7 : Int) = 6 + 1 := rfl
  rw [e]
  refine sp_lcopyF (Or.inr (by omega)) (fun D d1 d2 => y D d1 ?_)
  rw [e]
  exact d2
theorem op_view {C : jC} {K v : Int} (h : rAll C K) : wp_11_view v C (fun E C1 => (E = jIOB ∧ oM (wp_12_view v) K 1 C1) ∨ (E = jIAE ∧ oM (wp_12_view v) K 2 C1)) (fun r C1 => oR (wp_12_view v) K r C1) := by
  have hs := r_now h
  obtain ⟨k1, k2, k3, k4⟩ := r_cols hs
  obtain ⟨o1, o2, o3, o4, o5⟩ := r_ord hs
  have hk2 := h.2.2.2.2.2.2.1
  have h14 := h.2.2.2.2.1
  generalize hT : C 349 = T at *
  generalize hm : C 345 6 = m at *
  have ho := r_open h
  rw [hT, hm] at ho
  have m4 : m ≤ 400 := ho.2.2.2.2.1
  have m0 : 0 ≤ m := ho.2.2.2.1
  generalize hw : C 346 = w at *
  unfold wp_11_view wp_5_useUp
  refine sp_viewNumbered (fun hn => Or.inl ⟨rfl, ?_⟩) (fun v0 v1 => ?_)
  · unfold oM wp_12_view wp_12_uses
    generalize hG : jU (jU C 1 2 (C 1 1)) 1 1 0 = G
    have g1 : ∀ b, b ≠ 1 → G b = C b := fun b hb => by rw [← hG, jU_ne hb, jU_ne hb]
    have g11 : G 1 1 = 0 := by rw [← hG, jU_at, if_pos rfl, if_pos rfl]
    have g14 : G 1 4 = C 1 4 := by rw [← hG, jU_at, if_pos rfl, if_neg (by decide), jU_at, if_pos rfl, if_neg (by decide)]
    show wp_12_noView v (jUse G) _
    rw [sp_noView1 hn, sp_throws1, if_neg (by decide)]
    obtain ⟨u0, u8, u6, u7, u4⟩ := jUse_s G
    have u11 : jUse G 345 11 = G 345 11 := by unfold jUse; simp [jU_at]
    have hb : ∀ b, b ≠ 345 → b ≠ 1 → jU (jUse G) 345 0 1 b = C b := fun b h1 h2 => by rw [jU_ne h1, jUse_b h1, g1 b h2]
    suffices thr : rAll (jU (jUse G) 345 0 1) K from ⟨m0_0 _ _, thr⟩
    refine rAll_tx h (Int.le_refl K) (fun b b1 b2 => ?_) ?_ ?_ ?_ ?_ ?_ ?_
    · exact hb b (by omega) (by omega)
    · rw [jU_ne (by decide), jUse_b (by decide)]; exact g11
    · rw [jU_at, if_pos rfl, if_neg (by decide)]; exact u6
    · rw [jU_ne (by decide), jUse_b (by decide), g14, jU_at, if_pos rfl, if_neg (by decide), u11, g1 345 (by decide)]; exact h14
    · rw [jU_at, if_pos rfl, if_neg (by decide), u4, g1 345 (by decide)]
    · rw [hb 346 (by decide) (by decide), hw]
      refine rS_keep (C := C) (fun b hb' => ?_) hs
      unfold rOwn at hb'
      exact hb b (by omega) (by omega)
    · rw [hb 346 (by decide) (by decide), hw]; exact hk2
  have sC := jKnC_s (jOpn C)
  have kb : ∀ b, ¬ (1 ≤ b ∧ b < 35) → jKnC (jOpn C) b = C b := fun b hb => by rw [jKnC_b (by omega) (by omega), jOpn_b (by omega)]
  have x0 : jXt (jOpn C) (jKnC (jOpn C)) := ⟨fun b hb => jKnC_b (by omega) (by omega), by rw [jKnC_b (by decide) (by decide)], by rw [jKnC_b (by decide) (by decide)], jKnC_b (by decide) (by decide), by rw [jKnC_b (by decide) (by decide)]⟩
  have cl0 : jCL T m 0 (jKnC (jOpn C)) := jCL_tx ho x0 (by rw [jKnC_b (by decide) (by decide)]; exact (jOpn_s C).2.2.1) (by omega) m0
  -- the model's beginning
  have ms : ∀ (D : jC) (post : Int → jC → Prop), (∀ b, ¬ (1 ≤ b ∧ b < 339) → D b = C b) → (∀ D2, (∀ b, b ≠ 345 → b ≠ 348 → D2 b = D b) → D2 345 0 = 0 → D2 345 6 = 0 → D2 345 4 = C 345 4 → jML T m 0 D2 → D2 346 = w → (∀ j, 0 ≤ j → j < 8954 → D2 348 j = w j) → wp_12_readView v D2 (fun x18 C19 => wp_12_isRight x18 C19 (fun x22 C23 => (if x22 = 0 then (wp_12_throwsIf 1 2 C23 (fun x27 C28 => (if x27 = 0 then (wp_12_isRefreshed v C28 (fun _ C33 => wp_12_listOf v C33 (fun x36 => wp_12_size x36 C33 (fun x40 => post x40 C33)))) else (post 0 C28)))) else (wp_12_throwsIf 0 2 C23 (fun x44 C45 => (if x44 = 0 then (wp_12_isRefreshed v C45 (fun _ C50 => wp_12_listOf v C50 (fun x53 => wp_12_size x53 C50 (fun x57 => post x57 C50)))) else (post 0 C45)))))))) → wp_12_view v D post := by
    intro D post dC y
    unfold wp_12_view wp_12_uses
    show wp_12_noView v (jUse D) _
    rw [sp_noView0 v0 v1, sp_throws0, if_pos rfl]
    obtain ⟨u0, u8, u6, u7, u4⟩ := jUse_s D
    refine sp_keeps (fun D2 g1 g2 => ?_)
    have e345 : D2 345 = jUse D 345 := g1 345 (by decide)
    refine y D2 (fun b h1 h2 => by rw [g1 b h2]; exact jUse_b h1) (by rw [e345]; exact u0) (by rw [e345]; exact u6) (by rw [e345, u4, dC 345 (by omega)]) ⟨by rw [e345, u8, dC 345 (by omega), hm], by rw [e345]; exact u7, by omega, m0, m4, ?_⟩ ?_ (fun j j0 j1 => ?_)
    · rw [g1 349 (by decide)]
      show jUse D 349 = T
      rw [jUse_b (by decide), dC 349 (by omega), hT]
    · rw [g1 346 (by decide)]
      show jUse D 346 = w
      rw [jUse_b (by decide), dC 346 (by omega), hw]
    · rw [g2 j j0 j1]
      show jUse D 346 j = w j
      rw [jUse_b (by decide), dC 346 (by omega), hw]
  have bad : ∀ (C1 : jC) (x : Int), jXf (jKnC (jOpn C)) C1 x → (∀ (D2 : jC) (post : Int → jC → Prop), jML T m 0 D2 → D2 346 = w → (∀ D', jGoW D2 D' → D' 345 9 = x → post 0 D') → wp_12_readView v D2 post) → oM (wp_12_view v) K 2 C1 := by
    intro C1 x g1 y
    have c1C : ∀ b, ¬ (1 ≤ b ∧ b < 35) → C1 b = C b := fun b hb => by rw [g1.1 b hb, kb b hb]
    unfold oM
    refine ms C1 _ (fun b hb => c1C b (by omega)) (fun D2 e1 e0 e6 ei eL ew e8 => ?_)
    refine y D2 _ eL ew (fun D' d1 d9 => ?_)
    refine sp_isRight0 (fun D3 f1 f2 f3 f4 => ?_)
    rw [if_pos rfl, sp_throws1, if_neg (by decide)]
    have fb : ∀ b, b ≠ 345 → b ≠ 346 → b ≠ 348 → jU D3 345 0 2 b = C1 b := fun b h1 h2 h3 => by rw [jU_ne h1, f1 b h1 h2, d1.1 b h1 h2, e1 b h1 h3]
    have f345 : ∀ j, j ≠ 0 → j ≠ 7 → j ≠ 9 → j ≠ 10 → j ≠ 11 → jU D3 345 0 2 345 j = D2 345 j := fun j h0 h1 h2 h3 h4 => by rw [jU_at, if_pos rfl, if_neg h0, f2 j h4, d1.2 j h1 h2 h3]
    have w3 : ∀ j, 0 ≤ j → j < 8954 → jU D3 345 0 2 346 j = w j := fun j j0 j1 => by rw [jU_ne (by decide), f4 j j0 j1, d1.1 348 (by decide) (by decide), e8 j j0 j1]
    refine ⟨m0_0 _ _, rAll_tx h (Int.le_refl K) (fun b b1 b2 => ?_) ?_ ?_ ?_ ?_ ?_ ?_⟩
    · rw [fb b (by omega) (by omega) (by omega), c1C b (by omega)]
    · rw [fb 1 (by decide) (by decide) (by decide), g1.2.1, jKnC_b (by decide) (by decide)]; exact (jOpn_s C).1
    · rw [f345 6 (by decide) (by decide) (by decide) (by decide) (by decide)]; exact e6
    · rw [fb 1 (by decide) (by decide) (by decide), g1.2.2, jU_at, if_pos rfl, if_neg (by decide), f3, d9]
    · rw [f345 4 (by decide) (by decide) (by decide) (by decide) (by decide)]; exact ei
    · refine rS_w (w := w) (rS_keep (C := C) (fun b hb => ?_) hs) w3
      unfold rOwn at hb
      rw [fb b (by omega) (by omega) (by omega), c1C b (by omega)]
    · rw [w3 2 (by omega) (by omega)]; omega
  have good : ∀ (C5 : jC), jXt (jKnC (jOpn C)) C5 → (∀ (D2 : jC) (post : Int → jC → Prop), jML T m 0 D2 → D2 346 = w → (∀ D', jGoW D2 D' → jLr C5 (D' 346) v → jOutL w (D' 346) v → post 1 D') → wp_12_readView v D2 post) → wp_2_copyFrom (51 + 72 * v + 1) 7 C5 (fun C20 => wp_8_freshInto 35 (51 + 72 * v + 1) (51 + 72 * v + 29) C20 (fun C24 => wp_6_length (51 + 72 * v + 29) C24 (fun x27 => oR (wp_12_view v) K x27 C24))) := by
    intro C5 x5 run
    have c5C : ∀ b, ¬ (1 ≤ b ∧ b < 35) → C5 b = C b := fun b hb => by rw [x5.1 b hb, kb b hb]
    have r5 : rS 35 C5 w := rS_keep (fun b hb => by unfold rOwn at hb; exact c5C b (by omega)) hs
    have c11 : C5 1 1 = 0 := by rw [x5.2.1, jKnC_b (by decide) (by decide)]; exact (jOpn_s C).1
    have c14 : C5 1 4 = -1 := by rw [x5.2.2.2.2, jKnC_b (by decide) (by decide)]; exact (jOpn_s C).2.2.2
    have mk : ∃ w1, jLr C5 w1 v ∧ jOutL w w1 v := by
      obtain ⟨D2, q1, q2⟩ : ∃ D2 : jC, jML T m 0 D2 ∧ D2 346 = w := ⟨fun b j => if b = 345 then (if j = 8 then m else 0) else if b = 346 then w j else if b = 349 then T j else 0, ⟨rfl, rfl, Int.le_refl 0, m0, m4, rfl⟩, rfl⟩
      obtain ⟨r0, r1, q⟩ := nm_12_readView (run D2 (fun _ D' => jLr C5 (D' 346) v ∧ jOutL w (D' 346) v) q1 q2 (fun D' _ a b => ⟨a, b⟩))
      exact ⟨r1 346, q⟩
    obtain ⟨w1, lr1, out1⟩ := mk
    refine sp_lcopy7 (q := 51 + 72 * v) (by omega) (fun C20 c1 c2 => ?_)
    have s20 : ∀ w', jLr C5 w' v → jOutL w w' v → rS 35 C20 w' := fun w' a b => rS_lens r5 v0 v1 (fun b hb _ _ => c1 b hb) b (c2 w' _ a.2.2)
    refine sp_freshOwn (s20 w1 lr1 out1) v0 v1 (fun ft C24 hft d1 d2 d3 => ?_)
    show oR (wp_12_view v) K (C24 (51 + 72 * v + 29) 1) C24
    have c24C : ∀ b, ¬ (1 ≤ b ∧ b < 339) → C24 b = C b := fun b hb => by rw [d1 b (by omega) (by omega), c1 b (by omega), c5C b (by omega)]
    have e1w : w1 273 = w 273 := out1 273 (by omega)
    rw [d2]
    unfold oR
    refine ms C24 _ c24C (fun D2 e1 e0 e6 ei eL ew e8 => ?_)
    refine run D2 _ eL ew (fun D' g1 lr' out' => ?_)
    generalize hw' : D' 346 = w' at *
    have s' := s20 w' lr' out'
    have e2w : w' 273 = w1 273 := by rw [e1w]; exact out' 273 (by omega)
    have hft' : jFits C20 w' v ft (w' 273) := by rw [e2w]; exact fits_other (s20 w1 lr1 out1) s' v0 v1 (Int.le_refl _) hft
    refine sp_isRight1 ?_
    rw [if_neg (by decide), sp_throws0, if_pos rfl]
    refine sp_isRef s' v0 v1 hft' (D := jU D' 345 11 (-1)) (by rw [jU_ne (by decide), hw']) (fun n D3 f1 f2 => ?_)
    rw [sp_listOf v0 v1]
    refine sp_size (by omega) (by omega) ?_
    have fb : ∀ b, b ≠ 345 → b ≠ 346 → b ≠ 348 → b ≠ 351 → D3 b = C24 b := fun b h1 h2 h3 h4 => by rw [f1 b h2 h4, jU_ne h1, g1.1 b h1 h2, e1 b h1 h3]
    have f345 : ∀ j, j ≠ 7 → j ≠ 9 → j ≠ 10 → j ≠ 11 → D3 345 j = D2 345 j := fun j h1 h2 h3 h4 => by rw [f1 345 (by decide) (by decide), jU_at, if_pos rfl, if_neg h4, g1.2 j h1 h2 h3]
    have e25 : w' (298 + 2114 * v + 25) = w1 (298 + 2114 * v + 25) := by
      have a := lr'.2.2.1
      have b := lr1.2.2.1
      omega
    have eFS : jFS C20 w' v ft (w' 273) = jFS C20 w1 v ft (w1 273) := by unfold jFS; rw [e25, e2w]
    have W0 : jFW C20 w' v ft (298 + 2114 * v) = jFrM ft (w1 273) := by unfold jFW; rw [if_pos rfl, e2w]
    have W2 : jFW C20 w' v ft 2 = w 2 := by unfold jFW; rw [if_neg (by omega), if_neg (by omega)]; exact out' 2 (by omega)
    refine ⟨by rw [f345 0 (by decide) (by decide) (by decide) (by decide)]; exact e0, by rw [f2, W0], rAll_tx h (Int.le_refl K) (fun b b1 b2 => by rw [fb b (by omega) (by omega) (by omega) (by omega), c24C b (by omega)]) ?_ ?_ ?_ ?_ ?_ ?_⟩
    · rw [fb 1 (by decide) (by decide) (by decide) (by decide), d1 1 (by omega) (by omega), c1 1 (by omega)]; exact c11
    · rw [f345 6 (by decide) (by decide) (by decide) (by decide)]; exact e6
    · rw [fb 1 (by decide) (by decide) (by decide) (by decide), d1 1 (by omega) (by omega), c1 1 (by omega), f1 345 (by decide) (by decide), jU_at, if_pos rfl, if_pos rfl]; exact c14
    · rw [f345 4 (by decide) (by decide) (by decide) (by decide)]; exact ei
    · rw [f2]
      refine rS_fresh s' v0 v1 hft' (fun b b1 b2 b3 => by rw [fb b (by omega) (by omega) (by omega) (by omega), d1 b b1 b2]) ?_ (fun i i0 i1 => ?_)
      · rw [fb _ (by omega) (by omega) (by omega) (by omega), d2, e2w]
      · rw [fb _ (by omega) (by omega) (by omega) (by omega), eFS]
        exact d3 i i0 (by rw [← e2w]; exact i1)
    · rw [f2, W2]; exact hk2
  -- the class
  unfold wp_5_openUsedText wp_9_readView wp_9_knowColumns
  rw [show (36 : Int) + 1 = 37 from rfl]
  refine sp_forget7 (C := jKnC (jOpn C)) (fun C6 xt6 q1 q3 q4 l2 l3 l10 => ?_)
  have cl6 : jCL T m 0 C6 := jCL_tx cl0 xt6 (by rw [q1]; exact cl0.2.1) (by omega) m0
  have n0 : C6 3 0 = w 0 := by rw [q3, sC.1, jOpn_b (by decide), k1]
  have kk : ∀ c, 0 ≤ c → c < 5 → C6 4 c = w (4 + c) := fun c c0 c1 => by rw [q4, sC.2.2 c c0 c1, jOpn_b (by decide)]; exact (r_kind hs c0 c1).1
  have lk6 : jLk C6 := ⟨by omega, by omega, fun k a b => by omega, by omega, by omega, by omega, by omega, fun c c0 c1 => by rw [kk c c0 c1]; exact (r_kind hs c0 c1).2, fun c c0 c1 => by rw [l10 c c0 c1]; omega⟩
  have zin : ∀ j, 25 ≤ j → j < 185 → jZW w v (298 + 2114 * v + j) = 0 := fun j a b => by unfold jZW; rw [if_pos (by omega)]
  have zout : jOutL w (jZW w v) v := fun j hj => by unfold jZW; rw [if_neg hj]
  have lr6 : jLr C6 (jZW w v) v := by
    have z25 := zin 25 (by omega) (by omega)
    have z29 := zin 29 (by omega) (by omega)
    refine ⟨by rw [n0]; exact zout 0 (by omega), fun c c0 c1 => by rw [kk c c0 c1]; exact zout _ (by omega), ?_⟩
    unfold rLens
    rw [z25, z29, l2, l3]
    refine ⟨rfl, by omega, by omega, fun k a b => by omega, rfl, by omega, by omega, fun c c0 c1 => ?_, fun c c0 c1 => ?_⟩
    · unfold rFil
      rw [show 298 + 2114 * v + 30 + 31 * c = 298 + 2114 * v + (30 + 31 * c) by omega, zin (30 + 31 * c) (by omega) (by omega), show 7 + 3 + 5 * c = 10 + 5 * c by omega, l10 c c0 c1]
      exact ⟨rfl, by omega, by omega, fun k a b => by omega⟩
    · rw [zout 0 (by omega)] at c0
      rw [show 298 + 2114 * v + 30 + 31 * c = 298 + 2114 * v + (30 + 31 * c) by omega, zin (30 + 31 * c) (by omega) (by omega)]
  have mbeg : ∀ (D2 : jC) (post : Int → jC → Prop), jML T m 0 D2 → D2 346 = w → (∀ D3, jGoW D2 D3 → jML T m (jBl T m 0) D3 → D3 346 = jZW w v → (if jBl T m 0 = m then post 1 D3 else jL1 (wp_12_readView_44 v post) D3)) → wp_12_readView v D2 post := by
    intro D2 post eL ew y
    refine sp_mWipe v0 v1 (fun D' g1 g2 g3 => ?_)
    have eL' : jML T m 0 D' := by
      obtain ⟨a1, a2, a3, a4, a5, a6⟩ := eL
      exact ⟨by rw [g2]; exact a1, by rw [g2]; exact a2, a3, a4, a5, by rw [g1.1 349 (by decide) (by decide)]; exact a6⟩
    have hb := jBl_m eL'
    refine sp_mBlanks eL' (fun D3 d1 d7 d9 => ?_)
    have e8 : D3 345 8 = m := by rw [d1.2 8 (by decide) (by decide)]; exact eL'.1
    have := y D3 (jGoW_t g1 (jGoW_N d1)) (jML_goN eL' d1 d7 hb.1 hb.2) (by rw [d1.1 346 (by decide), g3, ew])
    rw [d7, e8]
    exact this
  refine sp_cOver cl6 (fun e1 C4 g4 c4 => ?_) (fun e1 C4 g4 c4 => ?_)
  · rw [if_neg (by decide)]
    show (if (1 : Int) = 0 then _ else wp_2_copyFrom _ _ C4 _)
    rw [if_neg (by decide)]
    refine good C4 (jXt_t xt6 (jXt_go (jGo3_go g4))) (fun D2 post eL ew y => ?_)
    refine mbeg D2 post eL ew (fun D3 d1 d2 d3 => ?_)
    rw [if_pos e1]
    exact y D3 d1 (by rw [d3]; exact jLr_eq g4.1 lr6) (by rw [d3]; exact zout)
  · rw [if_pos rfl]
    have xt4 : jXt (jKnC (jOpn C)) C4 := jXt_t xt6 (jXt_go (jGo3_go g4))
    have lr4 := jLr_eq (v := v) g4.1 lr6
    refine sp_cView c4 (jLk_eq g4.1 lk6) (fun e P L C5 e' x L0 e0 P0 tr pp xm x5 lk5 ee => ?_) (fun e P L C5 x L0 e0 P0 tr why x5 => ?_)
    · rw [if_neg (by decide)]
      refine good C5 (jXt_t xt4 x5) (fun D2 post eL ew y => ?_)
      refine mbeg D2 post eL ew (fun D3 d1 d2 d3 => ?_)
      rw [if_neg (by omega)]
      refine sp_mView L0 tr v0 v1 (by rw [P0]; exact d2) (by rw [e0, d3]; exact lr4) (fun K' D' g1 g2 g3 g5 => ?_)
      refine sp_mPart1 pp v0 v1 g2 g3 (fun z => by omega) (fun _ D4 f1 f2 f3 => ?_) (fun z => by omega)
      exact y D4 (jGoW_t d1 (jGoW_t g1 f1)) (jLr_eq ee f2) (jOutL_t zout (jOutL_t (by rw [d3] at g5; exact g5) f3))
    · rw [if_pos rfl]
      refine Or.inr ⟨rfl, bad C5 x (jXf_tx xt4 x5) (fun D2 post eL ew y => ?_)⟩
      refine mbeg D2 post eL ew (fun D3 d1 d2 d3 => ?_)
      rw [if_neg (by omega)]
      refine sp_mView L0 tr v0 v1 (by rw [P0]; exact d2) (by rw [e0, d3]; exact lr4) (fun K' D' g1 g2 g3 g5 => ?_)
      rcases why with pp | ⟨e', x', pp, z1, z2, z3⟩
      · unfold wp_12_readView_44
        refine pp (D' 345 9) v D' _ v0 v1 g2 rfl g3 (fun z => absurd z (by decide)) (fun _ D4 f1 f2 f3 => ?_)
        rw [if_pos rfl]
        exact y D4 (jGoW_t d1 (jGoW_t g1 f1)) f2
      · refine sp_mPart1 pp v0 v1 g2 g3 (fun _ z => absurd z z2) (fun z => by omega) (fun _ _ D4 f1 f2 => ?_)
        exact y D4 (jGoW_t d1 (jGoW_t g1 f1)) (by rw [f2, z3])

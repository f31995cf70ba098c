-- a view's list laid anew in its own cells: its lens is asked elsewhere
theorem cg_matches (a b c : Int) (C D : jC) (post : Int → Prop) : wp_1_matches a b c D post = wp_1_matches a b c C post := rfl
theorem cg_isAs {f k v : Int} {C D : jC} (h1 : D (f + 1) = C (f + 1)) (h2 : D (f + 2) = C (f + 2)) (h3 : D (f + 3) = C (f + 3)) : wp_1_isAs f k v D = wp_1_isAs f k v C := by
  funext post
  unfold wp_1_isAs wp_1_isAs_27
  rw [h1, h2, h3]
  rfl
theorem cg_accepts {f v : Int} {C D : jC} (h0 : D f = C f) (h1 : D (f + 1) = C (f + 1)) (h2 : D (f + 2) = C (f + 2)) (h3 : D (f + 3) = C (f + 3)) (h4 : D (f + 4) = C (f + 4)) : wp_1_accepts f v D = wp_1_accepts f v C := by
  have e : ∀ post, wp_1_accepts_2 f v D post = wp_1_accepts_2 f v C post := by
    intro post
    funext k x
    unfold wp_1_accepts_2
    rw [h0, h4, cg_isAs h1 h2 h3]
  funext post
  unfold wp_1_accepts
  rw [e]
theorem cg_valueAt {s c : Int} {C D : jC} (h : ∀ b, 36 ≤ b → b < 41 → D b = C b) : wp_7_valueAt 36 s c D = wp_7_valueAt 36 s c C := by
  funext post
  unfold wp_7_valueAt wp_7_isSeat wp_7_isColumn
  simp only [Int.reduceAdd]
  rw [h 36 (by decide) (by decide), h 39 (by decide) (by decide)]
theorem cg_unlike {q s : Int} {C D : jC} (h : ∀ b, 36 ≤ b → b < 41 → D b = C b) (hq : ∀ b, q ≤ b → b < q + 28 → D b = C b) : wp_2_firstUnlike q 36 s D = wp_2_firstUnlike q 36 s C := by
  have e : ∀ post, wp_2_firstUnlike_2 q 36 s D post = wp_2_firstUnlike_2 q 36 s C post := by
    intro post
    funext k c
    unfold wp_2_firstUnlike_2
    by_cases a : 5 ≤ c
    · rw [if_pos a, if_pos a]
    rw [if_neg a, if_neg a, cg_valueAt h]
    by_cases b : 0 ≤ c
    · have e : ∀ x, wp_1_accepts (q + 1 + 2 + 5 * c) x D = wp_1_accepts (q + 1 + 2 + 5 * c) x C := fun x => cg_accepts (hq _ (by omega) (by omega)) (hq _ (by omega) (by omega)) (hq _ (by omega) (by omega)) (hq _ (by omega) (by omega)) (hq _ (by omega) (by omega))
      simp only [e]
    · exact propext ⟨fun z => absurd z.1 b, fun z => absurd z.1 b⟩
  funext post
  unfold wp_2_firstUnlike
  rw [e]
theorem cg_ahead {q x y : Int} {C D : jC} (h : ∀ b, 36 ≤ b → b < 41 → D b = C b) (hq : D q = C q) (hq2 : D (q + 2) = C (q + 2)) : wp_2_isAhead q 36 x y D = wp_2_isAhead q 36 x y C := by
  have e : ∀ post, wp_2_isAhead_3 q 36 x y D post = wp_2_isAhead_3 q 36 x y C post := by
    intro post
    funext k c
    unfold wp_2_isAhead_3 wp_2_sortAt wp_7_compareBy
    rw [hq, hq2]
    simp only [cg_valueAt h]
    rfl
  funext post
  unfold wp_2_isAhead
  rw [e]
theorem sp_freshOwn {C : jC} {w : Int → Int} (h : rS 35 C w) {v : Int} (v0 : 0 ≤ v) (v1 : v < 4) {post : jC → Prop}
    (y : ∀ (ft : Int → Int) (C1 : jC), jFits C w v ft (w 273) → (∀ b, b ≠ (51 + 72 * v + 29) → b ≠ (51 + 72 * v + 29 + 1) → C1 b = C b) → C1 (51 + 72 * v + 29) 1 = jFrM ft (w 273) → (∀ i, 0 ≤ i → i < jFrM ft (w 273) → C1 (51 + 72 * v + 29 + 1) i = jFS C w v ft (w 273) i) → post C1) : wp_8_freshInto 35 (51 + 72 * v + 1) (51 + 72 * v + 29) C post := by
  obtain ⟨o1, o2, o3, o4, o5⟩ := r_ord h
  unfold wp_8_freshInto wp_6_takeAllOut
  refine jL2_of (fun k D => 0 ≤ k ∧ k ≤ w 273 ∧ ∃ ft, jFits C w v ft k ∧ (∀ b, b ≠ (51 + 72 * v + 29) → b ≠ (51 + 72 * v + 29 + 1) → D b = C b) ∧ D (51 + 72 * v + 29) 1 = jFrM ft k ∧ (∀ i, 0 ≤ i → i < jFrM ft k → D (51 + 72 * v + 29 + 1) i = jFS C w v ft k i)) (fun k _ => (w 273 - k).toNat) (fun K k D hi hk => ?_) ⟨by omega, by omega, fun _ => 0, fun i a b => by omega, fun b b1 b2 => jU_ne b1, ?_, fun i a b => absurd b (by show ¬ i < 0; omega)⟩
  · obtain ⟨i0, i1, ft, hft, d1, d2, d3⟩ := hi
    obtain ⟨m0, m1, m2, m3⟩ := jFS_ok h i0 i1 hft
    have h36 : ∀ b, 36 ≤ b → b < 41 → D b = C b := fun b b0 b1 => d1 b (by omega) (by omega)
    have hq : ∀ b, 51 + 72 * v + 1 ≤ b → b < 51 + 72 * v + 1 + 28 → D b = C b := fun b b0 b1 => d1 b (by omega) (by omega)
    unfold wp_8_freshInto_6
    simp only [Int.reduceAdd]
    rw [sp_length, d1 41 (by omega) (by omega)]
    by_cases a : C 41 1 ≤ k
    · rw [if_pos a]
      have e : k = w 273 := by omega
      rw [e] at hft d2 d3
      exact y ft D hft d1 d2 d3
    · rw [if_neg a, sp_at]
      have ea : jAt D 41 k = C 42 k := by
        unfold jAt
        simp only [Int.reduceAdd]
        rw [d1 41 (by omega) (by omega), d1 42 (by omega) (by omega), if_pos (by omega)]
      rw [ea]
      obtain ⟨s0, s1, sl⟩ := r_olive h i0 (show k < w 273 by omega)
      obtain ⟨r, r0, r1, r2⟩ := sp_why h v0 v1 s0 s1 sl
      rw [cg_unlike h36 hq]
      refine r1 _ ?_
      have hft' : jFits C w v (fun j => if j = k then (if r = -1 then 1 else 0) else ft j) (k + 1) := by
        intro i a b
        by_cases e : i = k
        · subst e
          dsimp only
          rw [if_pos rfl]
          refine ⟨by split <;> omega, fun C' hC post z => ?_⟩
          unfold wp_12_isFit
          refine r2 C' hC _ ?_
          by_cases e : r = -1
          · rw [if_pos e] at z ⊢; exact z
          · rw [if_neg e] at z ⊢; exact z
        · dsimp only
          rw [if_neg e]; exact hft i a (by omega)
      have cM : jFrM (fun j => if j = k then (if r = -1 then 1 else 0) else ft j) k = jFrM ft k := jFrM_congr (fun i a b => by rw [if_neg (by omega)])
      have cS : jFS C w v (fun j => if j = k then (if r = -1 then 1 else 0) else ft j) k = jFS C w v ft k := jFrS_congr _ (fun i a b => by rw [if_neg (by omega)])
      have sM := jFrM_s (ft := fun j => if j = k then (if r = -1 then 1 else 0) else ft j) i0
      have sS := jFS_s (C := C) (w := w) (v := v) (ft := fun j => if j = k then (if r = -1 then 1 else 0) else ft j) i0
      rw [cM, if_pos rfl] at sM
      rw [cM, cS, if_pos rfl] at sS
      by_cases e : r = -1
      · rw [if_pos e, sp_length, d2]
        simp only [if_pos e] at sM sS hft'
        rw [if_pos trivial] at sS
        have stp : ∀ (p : Int) (K1 : jC → Prop), 0 ≤ p → p ≤ jFrM ft k → jPos (fun p => jLex C (C (51 + 72 * v + 3)) (w (298 + 2114 * v + 25)) (C 42 k) (jFS C w v ft k p)) (jFrM ft k).toNat = p → (∀ D' : jC, (0 ≤ k + 1 ∧ k + 1 ≤ w 273 ∧ ∃ ft, jFits C w v ft (k + 1) ∧ (∀ b, b ≠ (51 + 72 * v + 29) → b ≠ (51 + 72 * v + 29 + 1) → D' b = C b) ∧ D' (51 + 72 * v + 29) 1 = jFrM ft (k + 1) ∧ (∀ i, 0 ≤ i → i < jFrM ft (k + 1) → D' (51 + 72 * v + 29 + 1) i = jFS C w v ft (k + 1) i)) → K1 D') → wp_6_putAt (51 + 72 * v + 29) p (C 42 k) D K1 := by
          intro p K1 p0 p1 hp hK
          refine sp_putAt ⟨by omega, by omega⟩ p0 (by omega) (by omega) ?_
          refine hK _ ⟨by omega, by omega, _, hft', fun b b1 b2 => ?_, ?_, fun i a b => ?_⟩
          · rw [jV_ne b1, jV_ne b2, d1 b b1 b2]
          · rw [jV_eq, jSet_eq, sM, d2]
          · rw [jV_ne (by omega), jV_eq, sS, hp, d2]
            rw [sM] at b
            unfold jInsF
            by_cases c1 : i < 0 + p
            · rw [if_pos c1, if_pos c1]; exact d3 i a (by omega)
            rw [if_neg c1, if_neg c1]
            by_cases c2 : i = 0 + p
            · rw [if_pos c2, if_pos c2]
            rw [if_neg c2, if_neg c2, if_pos (by omega), if_pos (by omega)]
            exact d3 (i - 1) (by omega) (by omega)
        refine jL1_of (fun p => 0 ≤ p ∧ p ≤ jFrM ft k ∧ jPos (fun p => jLex C (C (51 + 72 * v + 3)) (w (298 + 2114 * v + 25)) (C 42 k) (jFS C w v ft k p)) (jFrM ft k).toNat = jPos (fun p => jLex C (C (51 + 72 * v + 3)) (w (298 + 2114 * v + 25)) (C 42 k) (jFS C w v ft k p)) p.toNat) (fun p => p.toNat) (fun K1 p hi1 hk1 => ?_) ⟨by omega, by omega, rfl⟩
        obtain ⟨j0, j1, j2⟩ := hi1
        unfold wp_8_freshInto_53
        by_cases b : p ≤ 0
        · rw [if_pos b]
          have ep : p = 0 := by omega
          subst ep
          refine stp 0 _ (by omega) (by omega) j2 (fun D' hD' => ⟨⟨by omega, by omega⟩, hk _ _ hD' (by omega)⟩)
        · rw [if_neg b, sp_at]
          have eb : jAt D (51 + 72 * v + 29) (p - 1) = jFS C w v ft k (p - 1) := by
            unfold jAt
            rw [if_pos (by omega)]
            exact d3 (p - 1) (by omega) (by omega)
          rw [eb]
          obtain ⟨t, t0, t1, t2⟩ := m2 (p - 1) (by omega) (by omega)
          obtain ⟨u0, u1, ul⟩ := r_olive h t0 (show t < w 273 by omega)
          rw [show (35 : Int) + 1 = 36 from rfl, cg_ahead h36 (hq (51 + 72 * v + 1) (by omega) (by omega)) (hq (51 + 72 * v + 1 + 2) (by omega) (by omega))]
          refine sp_ahead h v0 v1 s0 s1 (by rw [t2]; exact u0) (by rw [t2]; exact u1) _ ?_
          rw [jPos_s (show 0 < p by omega)] at j2
          by_cases c : jLex C (C (51 + 72 * v + 3)) (w (298 + 2114 * v + 25)) (C 42 k) (jFS C w v ft k (p - 1)) < 0
          · rw [if_pos c] at j2
            rw [if_pos c, if_neg (by decide)]
            exact hk1 _ ⟨by omega, by omega, j2⟩ (by omega)
          · rw [if_neg c] at j2
            rw [if_neg c, if_pos rfl]
            exact stp p _ (by omega) (by omega) j2 (fun D' hD' => ⟨⟨by omega, by omega⟩, hk _ _ hD' (by omega)⟩)
      · rw [if_neg e]
        simp only [if_neg e] at sM sS hft'
        rw [if_neg (by decide)] at sS
        refine hk _ _ ⟨by omega, by omega, _, hft', d1, by rw [d2, sM]; omega, fun i a b => ?_⟩ (by omega)
        rw [sM] at b
        rw [sS]
        exact d3 i a (by omega)
  · rw [jU_at, if_pos rfl, if_pos rfl]; rfl
/-- the list laid anew, as the model writes it -/
def jFW (C : jC) (w : Int → Int) (v : Int) (ft : Int → Int) : Int → Int := fun j => if j = 298 + 2114 * v then jFrM ft (w 273) else if 298 + 2114 * v + 1 ≤ j ∧ j < 298 + 2114 * v + 1 + jFrM ft (w 273) then C 38 (jFS C w v ft (w 273) (j - (298 + 2114 * v + 1))) else w j
theorem sp_isRef {C : jC} {w : Int → Int} (hs : rS 35 C w) {v : Int} (v0 : 0 ≤ v) (v1 : v < 4) {ft : Int → Int} (hft : jFits C w v ft (w 273)) {D : jC} (hD : D 346 = w) {post : Int → jC → Prop}
    (y : ∀ n D2, (∀ b, b ≠ 346 → b ≠ 351 → D2 b = D b) → D2 346 = jFW C w v ft → post n D2) : wp_12_isRefreshed v D post := by
  obtain ⟨o1, o2, o3, o4, o5⟩ := r_ord hs
  obtain ⟨m0, m1, m2, m3⟩ := jFS_ok hs o2 (Int.le_refl _) hft
  obtain ⟨l1, l2, l3, l4, -⟩ := r_list hs v0 v1
  have eW : ∀ j, jFW C w v ft j = if j = 298 + 2114 * v then jFrM ft (w 273) else if 298 + 2114 * v + 1 ≤ j ∧ j < 298 + 2114 * v + 1 + jFrM ft (w 273) then C 38 (jFS C w v ft (w 273) (j - (298 + 2114 * v + 1))) else w j := fun _ => rfl
  unfold wp_12_isRefreshed
  rw [sp_listOf v0 v1]
  refine sp_laysFresh hs v0 v1 hft hD (fun C2 d1 d2 => ?_)
  generalize hM : jFrM ft (w 273) = k at *
  generalize hS : jFS C w v ft (w 273) = S at *
  have d2w : C2 346 = w := by rw [d1 346 (by decide), hD]
  refine jL2_of (fun n j => 0 ≤ j ∧ j ≤ k ∧ 0 ≤ n ∧ n ≤ j) (fun _ j => (k - j).toNat) (fun K2 n j hi2 hk2 => ?_) ⟨by omega, by omega, by omega, by omega⟩
  obtain ⟨j0, j1, n0, n1⟩ := hi2
  unfold wp_12_isRefreshed_17
  by_cases b : k ≤ j
  · rw [if_pos b]
    refine sp_size (by omega) (by omega) ?_
    rw [d2w]
    refine ⟨by omega, by omega, ⟨by omega, by omega⟩, ?_⟩
    refine jL2_of (fun i D2 => 0 ≤ i ∧ i ≤ k ∧ (∀ b, b ≠ 346 → D2 b = C2 b) ∧ (∀ j, D2 346 j = if j = 298 + 2114 * v then k else if 298 + 2114 * v + 1 ≤ j ∧ j < 298 + 2114 * v + 1 + i then C 38 (S (j - (298 + 2114 * v + 1))) else w j)) (fun i _ => (k - i).toNat) (fun K3 i D2 hi3 hk3 => ?_) ⟨by omega, by omega, fun b hb => jU_ne hb, fun j => ?_⟩
    · obtain ⟨t0, t1, g1, g2⟩ := hi3
      unfold wp_12_isRefreshed_80
      by_cases c : k ≤ i
      · rw [if_pos c]
        have ei : i = k := by omega
        subst ei
        refine y _ D2 (fun b b1 b2 => by rw [g1 b b1, d1 b b2]) ?_
        funext t
        rw [g2, eW]
      · rw [if_neg c]
        refine ⟨by omega, by omega, by omega, by omega, hk3 _ _ ⟨by omega, by omega, fun b hb => by rw [jU_ne hb, g1 b hb], fun j => ?_⟩ (by omega)⟩
        rw [jU_at, if_pos rfl, g1 351 (by decide), d2 i t0 (by omega), g2 j]
        by_cases e1 : j = 298 + 2114 * v + 1 + i
        · rw [if_pos e1, if_neg (by omega), if_pos (by omega), e1, show 298 + 2114 * v + 1 + i - (298 + 2114 * v + 1) = i by omega]
        · rw [if_neg e1]
          by_cases e2 : j = 298 + 2114 * v
          · rw [if_pos e2, if_pos e2]
          · rw [if_neg e2, if_neg e2]
            by_cases e3 : 298 + 2114 * v + 1 ≤ j ∧ j < 298 + 2114 * v + 1 + i
            · rw [if_pos e3, if_pos (by omega)]
            · rw [if_neg e3, if_neg (by omega)]
    · rw [jU_at, if_pos rfl, d2w]
      by_cases e2 : j = 298 + 2114 * v
      · rw [if_pos e2, if_pos e2]
      · rw [if_neg e2, if_neg e2, if_neg (by omega)]
  · rw [if_neg b]
    refine ⟨by omega, by omega, ?_⟩
    rw [d2 j j0 (by omega)]
    refine sp_placeIn (by omega) (by rw [d2w]; omega) (by omega) (fun r hr => ?_)
    by_cases e : r = -1
    · rw [if_pos e]
      exact hk2 _ _ ⟨by omega, by omega, by omega, by omega⟩ (by omega)
    · rw [if_neg e]
      exact ⟨⟨by omega, by omega⟩, hk2 _ _ ⟨by omega, by omega, by omega, by omega⟩ (by omega)⟩
theorem rS_fresh {C E : jC} {w : Int → Int} (hs : rS 35 C w) {v : Int} (v0 : 0 ≤ v) (v1 : v < 4) {ft : Int → Int} (hft : jFits C w v ft (w 273)) (e1 : ∀ b, b ≠ 51 + 72 * v + 29 → b ≠ 51 + 72 * v + 29 + 1 → b < 339 → E b = C b) (e2 : E (51 + 72 * v + 29) 1 = jFrM ft (w 273)) (e3 : ∀ i, 0 ≤ i → i < jFrM ft (w 273) → E (51 + 72 * v + 29 + 1) i = jFS C w v ft (w 273) i) : rS 35 E (jFW C w v ft) := by
  obtain ⟨o1, o2, o3, o4, o5⟩ := r_ord hs
  obtain ⟨m0, m1, m2, m3⟩ := jFS_ok hs o2 (Int.le_refl _) hft
  have eW : ∀ j, jFW C w v ft j = if j = 298 + 2114 * v then jFrM ft (w 273) else if 298 + 2114 * v + 1 ≤ j ∧ j < 298 + 2114 * v + 1 + jFrM ft (w 273) then C 38 (jFS C w v ft (w 273) (j - (298 + 2114 * v + 1))) else w j := fun _ => rfl
  generalize hM : jFrM ft (w 273) = k at *
  generalize hS : jFS C w v ft (w 273) = S at *
  have gw : jFW C w v ft (298 + 2114 * v) = k := by rw [eW, if_pos rfl]
  have g38 : E 38 = C 38 := e1 38 (by omega) (by omega) (by omega)
  refine rS_list hs v0 v1 (fun b b1 b2 b3 => e1 b b1 (by omega) b3) (fun j hj => ?_) ?_ (fun t a b => ?_)
  · rw [eW, if_neg (by omega), if_neg (by omega)]
  · unfold rLst
    simp only [Int.reduceAdd]
    rw [e2, gw, g38]
    refine ⟨rfl, by omega, by omega, fun t a b => ?_, fun t u a b c => ?_⟩
    · rw [e3 t a b, eW, if_neg (by omega), if_pos (by omega), show 298 + 2114 * v + 1 + t - (298 + 2114 * v + 1) = t by omega]
      obtain ⟨p, p0, p1, p2⟩ := m2 t a b
      obtain ⟨u0, u1, ul⟩ := r_olive hs p0 p1
      rw [p2]
      exact ⟨u0, u1, rfl⟩
    · rw [e3 t a (by omega), e3 u (by omega) c]; exact m3 t u a b c
  · rw [gw] at b
    rw [e3 t a b]
    obtain ⟨p, p0, p1, p2⟩ := m2 t a b
    rw [p2]; exact (r_olive hs p0 p1).2.2
/-- one view's lens is another: all else stays -/
theorem rS_lens {C D : jC} {w w1 : Int → Int} (h : rS 35 C w) {v : Int} (v0 : 0 ≤ v) (v1 : v < 4) (hd : ∀ b, ¬ (51 + 72 * v + 1 ≤ b ∧ b < 51 + 72 * v + 29) → b < 339 → 35 ≤ b → D b = C b) (hw : ∀ j, ¬ (298 + 2114 * v + 25 ≤ j ∧ j < 298 + 2114 * v + 185) → w1 j = w j)
    (n1 : rLens D w1 (51 + 72 * v + 1) (298 + 2114 * v)) : rS 35 D w1 := by
  obtain ⟨hA, hB, hO, hW, hV, hG, hZ⟩ := h
  have k : ∀ b, b < 51 → 35 ≤ b → D b = C b := fun b hb hb2 => hd b (by omega) (by omega) hb2
  have ww : ∀ j, j < 298 → w1 j = w j := fun j hj => hw j (by omega)
  have hlive : ∀ s, rLive D 35 s ↔ rLive C 35 s := by
    intro s; unfold rLive; rw [k (35 + 6) (by omega) (by omega), k (35 + 7) (by omega) (by omega)]
  have w05 : w 0 ≤ 5 := hA.2.2.1
  refine ⟨?_, ?_, ?_, ?_, ?_, ?_, ?_⟩
  · unfold rA at hA ⊢
    rw [k (35 + 1) (by omega) (by omega), k (35 + 9) (by omega) (by omega), ww 0 (by omega), ww 1 (by omega), ww 2 (by omega), ww 3 (by omega)]; exact hA
  · intro c c0 c1
    rw [k (35 + 2) (by omega) (by omega), ww (4 + c) (by omega)]; exact hB c c0 c1
  · exact rLst_keep hO (by rw [k (35 + 6) (by omega) (by omega)]) (fun i _ _ => by rw [k (35 + 6 + 1) (by omega) (by omega)]) (fun i _ _ => by rw [k (35 + 3) (by omega) (by omega)]) (fun j a b => ww j (by omega))
  · obtain ⟨q1, q2, q3⟩ := hW
    refine ⟨fun s s0 s1 hl => ?_, fun s s0 s1 hl => ?_, fun s t s0 s1 t0 t1 hs ht => ?_⟩
    · rw [hlive] at hl
      obtain ⟨u1, u2, u3, u4⟩ := q1 s s0 s1 hl
      rw [k (35 + 3) (by omega) (by omega), ww (9 + 11 * s) (by omega), ww 2 (by omega), ww 0 (by omega)]
      refine ⟨u1, u2, u3, fun c c0 c1 => ?_⟩
      have := u4 c c0 c1
      unfold rCell at this ⊢
      rw [k (35 + 4) (by omega) (by omega), k (35 + 5) (by omega) (by omega), ww (4 + c) (by omega), ww (9 + 11 * s + 1 + c) (by omega), ww (9 + 11 * s + 6 + c) (by omega)]
      exact this
    · rw [hlive] at hl
      rw [ww (9 + 11 * s) (by omega)]; exact q2 s s0 s1 hl
    · rw [hlive] at hs ht
      rw [k (35 + 3) (by omega) (by omega)]; exact q3 s t s0 s1 t0 t1 hs ht
  · intro u u0 u1
    obtain ⟨p1, p2, p3, p4⟩ := hV u u0 u1
    rw [show 35 + 8 + 8 + 72 * u = 51 + 72 * u by omega] at p1 p2 p3 p4 ⊢
    have l : rLens D w1 (51 + 72 * u + 1) (298 + 2114 * u) := by
      by_cases eu : u = v
      · rw [eu]; exact n1
      · exact rLens_keep p3 hA.2.1 (fun x x0 x1 => hd x (by omega) (by omega) (by omega)) (ww 0 (by omega)) (fun c c0 c1 => ww _ (by omega)) (fun j j0 j1 => hw j (by omega))
    have e : rEds D w1 (51 + 72 * u) (298 + 2114 * u) := rEds_keep p4 (by rw [hd (51 + 72 * u) (by omega) (by omega) (by omega)]) (fun x x0 x1 => hd x (by omega) (by omega) (by omega)) (ww 0 (by omega)) (fun c c0 c1 => ww _ (by omega)) w05 (fun j j0 j1 => hw j (by omega))
    have kq : D (51 + 72 * u + 29 + 1) = C (51 + 72 * u + 29 + 1) := hd _ (by omega) (by omega) (by omega)
    refine ⟨rLst_keep p1 (by rw [hd (51 + 72 * u + 29) (by omega) (by omega) (by omega)]) (fun i _ _ => by rw [kq]) (fun i _ _ => by rw [k (35 + 3) (by omega) (by omega)]) (fun j a b => hw j (by omega)), fun i i0 i1 => ?_, l, e⟩
    rw [hw (298 + 2114 * u) (by omega)] at i1
    rw [hlive, kq]; exact p2 i i0 i1
  · exact rG_keep hG (k _ (by omega) (by omega)) (k _ (by omega) (by omega)) (ww 3 (by omega)) hA.2.2.2.2.2.2.2.2.2.2 (fun j a b => hw j (by omega))
  · unfold rZ at hZ ⊢
    rw [ww 0 (by omega), ww 273 (by omega)]; exact hZ

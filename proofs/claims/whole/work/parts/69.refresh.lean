-- refresh
theorem op_refresh {C : jC} {K v : Int} (h : rAll C K) : wp_11_refresh v C (fun E C1 => E = jIOB ∧ oM (wp_12_refresh v) K 1 C1) (fun r C1 => oR (wp_12_refresh v) K r C1) := by
  have hs := r_now h
  unfold wp_11_refresh
  refine sp_viewNumbered (fun hn => ⟨rfl, ?_⟩) (fun v0 v1 => ?_)
  · unfold oM wp_12_refresh
    rw [sp_noView1 hn, sp_throws1, if_neg (by decide), m00]
    exact ⟨m0_0 _ _, rAll_m0 h⟩
  · unfold wp_4_takeFresh
    refine sp_freshInto hs v0 v1 (fun ft C1 hft c1 c2 c3 => ?_)
    obtain ⟨o1, o2, o3, o4, o5⟩ := r_ord hs
    obtain ⟨m0, m1, m2, m3⟩ := jFS_ok hs o2 (Int.le_refl _) hft
    obtain ⟨l1, l2, l3, l4, -⟩ := r_list hs v0 v1
    have H : ∀ i, ∃ r, jFst (fun j => C (51 + 72 * v + 29 + 1) j = jFS C (C 346) v ft (C 346 273) i) (C (51 + 72 * v + 29) 1) r := fun i => jFst_ex _ _ (by omega)
    obtain ⟨σ, hσ⟩ := Classical.skolem.mp H
    obtain ⟨ρ, eρ⟩ : ∃ ρ : Int → Int, ∀ i, ρ i = if σ i = -1 then 0 else 1 := ⟨_, fun _ => rfl⟩
    have hρ : ∀ i, ρ i = 0 ∨ ρ i = 1 := by
      intro i; rw [eρ]; split <;> simp
    generalize hM : jFrM ft (C 346 273) = M at *
    generalize hS : jFS C (C 346) v ft (C 346 273) = S at *
    have e29 : C1 (51 + 72 * v + 29) = C (51 + 72 * v + 29) := c1 _ (by omega) (by omega)
    have e30 : C1 (51 + 72 * v + 29 + 1) = C (51 + 72 * v + 29 + 1) := c1 _ (by omega) (by omega)
    refine jL2_of (fun n k => 0 ≤ k ∧ k ≤ M ∧ n = jFold (jCnt ρ) 0 k.toNat) (fun _ k => (M - k).toNat) (fun K1 n k hi hk => ?_) ⟨by omega, by omega, rfl⟩
    obtain ⟨i0, i1, rfl⟩ := hi
    have nr := jCnt_rng hρ i0
    unfold wp_4_takeFresh_17
    rw [sp_length, c2]
    by_cases a : M ≤ k
    · rw [if_pos a, sp_length, sp_length, c2, e29, l1]
      have ek : k = M := by omega
      subst ek
      unfold wp_6_copyFrom
      generalize hN : jFold (jCnt ρ) 0 k.toNat = N at *
      refine ⟨⟨by omega, by omega⟩, ?_⟩
      have f1 : ∀ b, b ≠ 51 + 72 * v + 29 → b ≠ 51 + 72 * v + 29 + 1 → jU (jCpy C1 (340 + 1) 0 (51 + 72 * v + 29 + 1) 0 24) (51 + 72 * v + 29) 1 (jCpy C1 (340 + 1) 0 (51 + 72 * v + 29 + 1) 0 24 340 1) b = C1 b := fun b b1 b2 => by rw [jU_ne b1, jCpy_ne b2]
      have f2 : jU (jCpy C1 (340 + 1) 0 (51 + 72 * v + 29 + 1) 0 24) (51 + 72 * v + 29) 1 (jCpy C1 (340 + 1) 0 (51 + 72 * v + 29 + 1) 0 24 340 1) (51 + 72 * v + 29) 1 = k := by
        rw [jU_at, if_pos rfl, if_pos rfl, jCpy_ne (by omega)]; exact c2
      have f3 : ∀ i, 0 ≤ i → i < 24 → jU (jCpy C1 (340 + 1) 0 (51 + 72 * v + 29 + 1) 0 24) (51 + 72 * v + 29) 1 (jCpy C1 (340 + 1) 0 (51 + 72 * v + 29 + 1) 0 24 340 1) (51 + 72 * v + 29 + 1) i = C1 341 i := by
        intro i i0 i1
        rw [jU_ne (by omega), jCpy_eq]
        dsimp only
        rw [if_pos (by omega), show 0 + (i - 0) = i by omega]
        rfl
      generalize jU (jCpy C1 (340 + 1) 0 (51 + 72 * v + 29 + 1) 0 24) (51 + 72 * v + 29) 1 (jCpy C1 (340 + 1) 0 (51 + 72 * v + 29 + 1) 0 24 340 1) = D at f1 f2 f3 ⊢
      have dw : D 346 = C 346 := by rw [f1 346 (by omega) (by omega), c1 346 (by decide) (by decide)]
      unfold oR wp_12_refresh
      dsimp only
      rw [sp_noView0 v0 v1, sp_throws0, if_pos rfl]
      unfold wp_12_isRefreshed
      rw [sp_listOf v0 v1]
      refine sp_laysFresh hs v0 v1 hft (by rw [m0_w, dw]) (fun C2 d1 d2 => ?_)
      rw [hM] at d2 ⊢
      rw [hS] at d2
      have d2w : C2 346 = C 346 := by rw [d1 346 (by decide), m0_w, dw]
      refine jL2_of (fun n j => 0 ≤ j ∧ j ≤ k ∧ n = jFold (jCnt ρ) 0 j.toNat) (fun _ j => (k - j).toNat) (fun K2 n j hi2 hk2 => ?_) ⟨by omega, by omega, rfl⟩
      obtain ⟨j0, j1, rfl⟩ := hi2
      have nr2 := jCnt_rng hρ j0
      unfold wp_12_isRefreshed_17
      by_cases b : k ≤ j
      · rw [if_pos b]
        have ej : j = k := by omega
        rw [ej, hN]
        refine sp_size (by omega) (by omega) ?_
        rw [d2w]
        refine ⟨by omega, by omega, ⟨by omega, by omega⟩, ?_⟩
        refine jL2_of (fun i D2 => 0 ≤ i ∧ i ≤ k ∧ (∀ b, b ≠ 346 → D2 b = C2 b) ∧ (∀ j, D2 346 j = if j = 298 + 2114 * v then k else if 298 + 2114 * v + 1 ≤ j ∧ j < 298 + 2114 * v + 1 + i then C 38 (S (j - (298 + 2114 * v + 1))) else C 346 j)) (fun i _ => (k - i).toNat) (fun K3 i D2 hi3 hk3 => ?_) ⟨by omega, by omega, fun b hb => jU_ne hb, fun j => ?_⟩
        · obtain ⟨t0, t1, g1, g2⟩ := hi3
          unfold wp_12_isRefreshed_80
          by_cases c : k ≤ i
          · rw [if_pos c]
            have ei : i = k := by omega
            subst ei
            have gb : ∀ b, b ≠ 345 → b ≠ 346 → b ≠ 351 → D2 b = D b := fun b b1 b2 b3 => by rw [g1 b b2, d1 b b3, jU_ne b1]
            have g345 : D2 345 0 = 0 := by rw [g1 345 (by decide), d1 345 (by decide)]; exact m0_0 _ _
            refine ⟨g345, by omega, rAll_w h (fun b b1 b2 => ?_) (fun j hj => ?_) ?_ ?_⟩
            · rw [gb b (by omega) (by omega) (by omega), f1 b (by omega) (by omega), c1 b (by omega) (by omega)]
            · rw [g1 345 (by decide), d1 345 (by decide), jU_at, if_pos rfl, if_neg hj, f1 345 (by omega) (by omega), c1 345 (by decide) (by decide)]
            · have gw : D2 346 (298 + 2114 * v) = i := by rw [g2, if_pos rfl]
              have gS : ∀ t, 0 ≤ t → t < i → D2 (51 + 72 * v + 29 + 1) t = S t := fun t a b => by rw [gb _ (by omega) (by omega) (by omega), f3 t a (by omega), c3 t a b]
              have g38 : D2 38 = C 38 := by rw [gb 38 (by decide) (by decide) (by decide), f1 38 (by omega) (by omega), c1 38 (by decide) (by decide)]
              refine rS_list hs v0 v1 (fun b b1 b2 b3 => ?_) (fun j hj => ?_) ?_ (fun t a b => ?_)
              · rw [gb b (by omega) (by omega) (by omega), f1 b b1 (by omega), c1 b (by omega) (by omega)]
              · rw [g2, if_neg (by omega), if_neg (by omega)]
              · unfold rLst
                simp only [Int.reduceAdd]
                rw [gb (51 + 72 * v + 29) (by omega) (by omega) (by omega), f2, gw, g38]
                refine ⟨rfl, by omega, by omega, fun t a b => ?_, fun t u a b c => ?_⟩
                · rw [gS t a b, g2, if_neg (by omega), if_pos (by omega), show 298 + 2114 * v + 1 + t - (298 + 2114 * v + 1) = t by omega]
                  obtain ⟨p, p0, p1, p2⟩ := m2 t a b
                  obtain ⟨u0, u1, ul⟩ := r_olive hs p0 p1
                  rw [p2]
                  exact ⟨u0, u1, rfl⟩
                · rw [gS t a (by omega), gS u (by omega) c]; exact m3 t u a b c
              · rw [gw] at b
                rw [gS t a b]
                obtain ⟨p, p0, p1, p2⟩ := m2 t a b
                rw [p2]; exact (r_olive hs p0 p1).2.2
            · rw [g2, if_neg (by omega), if_neg (by omega)]; exact h.2.2.2.2.2.2.1
          · rw [if_neg c]
            refine ⟨by omega, by omega, by omega, by omega, hk3 _ _ ⟨by omega, by omega, fun b hb => by rw [jU_ne hb, g1 b hb], fun j => ?_⟩ (by omega)⟩
            rw [jU_at, if_pos rfl, g1 351 (by decide), d2 i t0 (by omega), g2 j]
            by_cases e1 : j = 298 + 2114 * v + 1 + i
            · rw [if_pos e1, if_neg (by omega), if_pos (by omega), e1, show 298 + 2114 * v + 1 + i - (298 + 2114 * v + 1) = i by omega]
            · rw [if_neg e1]
              by_cases e2 : j = 298 + 2114 * v
              · rw [if_pos e2, if_pos e2]
              · rw [if_neg e2, if_neg e2]
                by_cases e3 : 298 + 2114 * v + 1 ≤ j ∧ j < 298 + 2114 * v + 1 + i
                · rw [if_pos e3, if_pos (by omega)]
                · rw [if_neg e3, if_neg (by omega)]
        · rw [jU_at, if_pos rfl, d2w]
          by_cases e2 : j = 298 + 2114 * v
          · rw [if_pos e2, if_pos e2]
          · rw [if_neg e2, if_neg e2, if_neg (by omega)]
      · rw [if_neg b]
        refine ⟨by omega, by omega, ?_⟩
        rw [d2 j j0 (by omega)]
        obtain ⟨p, p0, p1, p2⟩ := m2 j j0 (by omega)
        obtain ⟨u0, u1, ul⟩ := r_olive hs p0 p1
        refine sp_placeIn (by omega) (by rw [d2w]; omega) (by omega) (fun r hr => ?_)
        rw [d2w, p2] at hr
        have hj := hσ j
        rw [p2] at hj
        have er := r_place hs v0 v1 u0 u1 ul hj hr
        rw [← er]
        have st : jFold (jCnt ρ) 0 (j + 1).toNat = jFold (jCnt ρ) 0 j.toNat + ρ j := jFold_s j0
        by_cases e : σ j = -1
        · rw [if_pos e]
          refine hk2 _ _ ⟨by omega, by omega, ?_⟩ (by omega)
          rw [st, eρ, if_pos e]
        · rw [if_neg e]
          refine ⟨⟨by omega, by omega⟩, hk2 _ _ ⟨by omega, by omega, ?_⟩ (by omega)⟩
          rw [st, eρ, if_neg e]
    · rw [if_neg a, sp_at]
      have ea : jAt C1 340 k = S k := by
        unfold jAt
        rw [c2, if_pos (by omega)]
        exact c3 k i0 (by omega)
      rw [ea]
      refine sp_holds (by rw [e29]; omega) (fun r hr => ?_)
      rw [e29, e30] at hr
      rw [jFst_uniq hr (hσ k)]
      have st : jFold (jCnt ρ) 0 (k + 1).toNat = jFold (jCnt ρ) 0 k.toNat + ρ k := jFold_s i0
      by_cases e : σ k = -1
      · rw [if_pos e, if_pos rfl]
        refine hk _ _ ⟨by omega, by omega, ?_⟩ (by omega)
        rw [st, eρ, if_pos e]; omega
      · rw [if_neg e, if_neg (by decide)]
        refine ⟨⟨by omega, by omega⟩, hk _ _ ⟨by omega, by omega, ?_⟩ (by omega)⟩
        rw [st, eρ, if_neg e]

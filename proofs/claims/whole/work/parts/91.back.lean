-- back, and image
theorem rS_w {a : Int} {C : jC} {w w1 : Int → Int} (h : rS a C w) (hw : ∀ j, 0 ≤ j → j < 8954 → w1 j = w j) : rS a C w1 := by
  obtain ⟨hA, hB, hO, hW, hV, hG, hZ⟩ := h
  refine ⟨?_, ?_, ?_, ?_, ?_, ?_, ?_⟩
  · unfold rA at hA ⊢
    rw [hw 0 (by omega) (by omega), hw 1 (by omega) (by omega), hw 2 (by omega) (by omega), hw 3 (by omega) (by omega)]; exact hA
  · intro c c0 c1
    rw [hw (4 + c) (by omega) (by omega)]; exact hB c c0 c1
  · exact rLst_keep hO rfl (fun _ _ _ => rfl) (fun _ _ _ => rfl) (fun j a b => hw j (by omega) (by omega))
  · obtain ⟨q1, q2, q3⟩ := hW
    refine ⟨fun s s0 s1 hl => ?_, fun s s0 s1 hl => ?_, q3⟩
    · obtain ⟨u1, u2, u3, u4⟩ := q1 s s0 s1 hl
      rw [hw (9 + 11 * s) (by omega) (by omega), hw 2 (by omega) (by omega), hw 0 (by omega) (by omega)]
      refine ⟨u1, u2, u3, fun c c0 c1 => ?_⟩
      have := u4 c c0 c1
      have w05 := hA.2.2.1
      unfold rCell at this ⊢
      rw [hw (4 + c) (by omega) (by omega), hw (9 + 11 * s + 1 + c) (by omega) (by omega), hw (9 + 11 * s + 6 + c) (by omega) (by omega)]
      exact this
    · rw [hw (9 + 11 * s) (by omega) (by omega)]; exact q2 s s0 s1 hl
  · intro u u0 u1
    obtain ⟨p1, p2, p3, p4⟩ := hV u u0 u1
    refine ⟨rLst_keep p1 rfl (fun _ _ _ => rfl) (fun _ _ _ => rfl) (fun j a b => hw j (by omega) (by omega)), fun i i0 i1 => ?_, ?_, ?_⟩
    · rw [hw (298 + 2114 * u) (by omega) (by omega)] at i1
      exact p2 i i0 i1
    · exact rLens_keep p3 hA.2.1 (fun _ _ _ => rfl) (hw 0 (by omega) (by omega)) (fun q q0 q1 => hw _ (by omega) (by omega)) (fun j j0 j1 => hw j (by omega) (by omega))
    · exact rEds_keep p4 rfl (fun _ _ _ => rfl) (hw 0 (by omega) (by omega)) (fun q q0 q1 => hw _ (by omega) (by omega)) hA.2.2.1 (fun j j0 j1 => hw j (by omega) (by omega))
  · exact rG_keep hG rfl rfl (hw 3 (by omega) (by omega)) hA.2.2.2.2.2.2.2.2.2.2 (fun j a b => hw j (by omega) (by omega))
  · unfold rZ at hZ ⊢
    rw [hw 0 (by omega) (by omega), hw 273 (by omega) (by omega)]; exact hZ
theorem rRow_of {a : Int} {C : jC} {w : Int → Int} (h : rS a C w) {v : Int} (v0 : 0 ≤ v) (v1 : v < 4) : rRow C (a + 8 + 8 + 72 * v) := by
  obtain ⟨-, -, -, -, hV, -⟩ := h
  obtain ⟨-, -, -, p4⟩ := hV v v0 v1
  exact ⟨p4.2.2.2.1, p4.2.2.2.2.1⟩
theorem op_back {C : jC} {K : Int} (h : rAll C K) : wp_11_back C (fun r C1 => oR wp_12_back K r C1) := by
  have hs := r_now h
  unfold wp_11_back
  obtain ⟨a1, a2, a3, a4, a5, a6, a7, a8⟩ := id h
  by_cases e : C 0 4 < 0
  · rw [if_pos e]
    unfold oR wp_12_back
    have e4 : jU C 345 0 0 345 4 = 0 := by
      rw [jU_at, if_pos rfl, if_neg (by decide)]
      rcases a8 with z | z
      · exact z.2
      · omega
    dsimp only
    rw [if_pos e4]
    exact ⟨m0_0 _ _, rfl, rAll_m0 h⟩
  · rw [if_neg e]
    obtain ⟨b1, b2, b3, b4⟩ : C 0 4 = 357 ∧ C 345 4 = 1 ∧ rS 357 C (C 347) ∧ C 347 2 ≤ K := by
      rcases a8 with z | z
      · omega
      · exact z
    rw [b1]
    refine sp_scopy b3 (fun v v0 v1 => rRow_of hs v0 v1) (by omega) (fun D d1 d2 => ?_)
    have D345 : D 345 = C 345 := d1 345 (by omega)
    unfold oR wp_12_back
    have e4 : jU D 345 0 0 345 4 = 1 := by
      rw [jU_at, if_pos rfl, if_neg (by decide), D345]; exact b2
    dsimp only
    rw [if_neg (by omega)]
    refine jL2_of (fun k E => 0 ≤ k ∧ k ≤ 8954 ∧ (∀ b, b ≠ 346 → E b = jU D 345 0 0 b) ∧ ∀ j, 0 ≤ j → j < k → E 346 j = C 347 j) (fun k _ => (8954 - k).toNat) (fun K1 k E hi hk => ?_) ⟨by omega, by omega, fun _ _ => rfl, fun j a b => by omega⟩
    obtain ⟨i0, i1, g1, g2⟩ := hi
    unfold wp_12_back_16
    by_cases a : 8954 ≤ k
    · rw [if_pos a]
      have gD : ∀ b, b ≠ 345 → b ≠ 346 → E b = D b := fun b h1 h2 => by rw [g1 b h2, jU_ne h1]
      have gC : ∀ b, ¬ (36 ≤ b ∧ b < 339) → b ≠ 345 → b ≠ 346 → E b = C b := fun b h0 h1 h2 => by rw [gD b h1 h2, d1 b (by omega)]
      have w2 : E 346 2 = C 347 2 := g2 2 (by omega) (by omega)
      refine ⟨by rw [g1 345 (by decide)]; exact m0_0 _ _, rfl, rAll_w h (fun b b1 b2 => gC b (by omega) (by omega) (by omega)) (fun j hj => ?_) ?_ (by rw [w2]; exact b4)⟩
      · rw [g1 345 (by decide), jU_at, if_pos rfl, if_neg hj, D345]
      · exact rS_w (rS_keep (fun b hb => by unfold rOwn at hb; exact gD b (by omega) (by omega)) d2) (fun j j0 j1 => g2 j j0 (by omega))
    · rw [if_neg a]
      refine ⟨i0, hk _ _ ⟨by omega, by omega, fun b hb => by rw [jU_ne hb, g1 b hb], fun j j0 j1 => ?_⟩ (by omega)⟩
      have e347 : E 347 = C 347 := by rw [g1 347 (by decide), jU_ne (by decide), d1 347 (by omega)]
      rw [jU_at, if_pos rfl]
      by_cases ej : j = k
      · rw [if_pos ej, e347, ej]
      · rw [if_neg ej]; exact g2 j j0 (by omega)
/-- image, once the kept State is there -/
theorem op_image1 {C : jC} {K : Int} (h0 : rAll (jU (jU C 0 4 (-1)) 345 4 0) K) (hk : C 0 4 = 357) (hr : ∀ v, 0 ≤ v → v < 4 → rRow C (357 + 8 + 8 + 72 * v)) : wp_8_copyFrom 357 35 C (fun C1 => wp_12_image C1 (fun C2 => C2 345 0 = 0 ∧ rAll C2 K)) := by
  obtain ⟨a1, a2, a3, a4, a5, a6, a7, -⟩ := h0
  have e0 : ∀ b, b ≠ 0 → b ≠ 345 → jU (jU C 0 4 (-1)) 345 4 0 b = C b := fun b h1 h2 => by rw [jU_ne h2, jU_ne h1]
  have e345 : ∀ j, j ≠ 4 → jU (jU C 0 4 (-1)) 345 4 0 345 j = C 345 j := fun j hj => by rw [jU_at, if_pos rfl, if_neg hj, jU_ne (by decide)]
  rw [e0 1 (by decide) (by decide), e345 6 (by decide)] at a1
  rw [e345 6 (by decide)] at a2 a3 a4
  rw [e0 1 (by decide) (by decide), e345 11 (by decide)] at a5
  rw [e0 346 (by decide) (by decide)] at a6 a7
  have hs : rS 35 C (C 346) := rS_keep (fun b hb => by unfold rOwn at hb; exact (e0 b (by omega) (by omega)).symm) a6
  refine sp_scopy hs hr (by omega) (fun D d1 d2 => ?_)
  unfold wp_12_image
  refine jL2_of (fun k E => 0 ≤ k ∧ k ≤ 8954 ∧ (∀ b, b ≠ 347 → E b = jU D 345 0 0 b) ∧ ∀ j, 0 ≤ j → j < k → E 347 j = C 346 j) (fun k _ => (8954 - k).toNat) (fun K1 k E hi hk => ?_) ⟨by omega, by omega, fun _ _ => rfl, fun j a b => by omega⟩
  obtain ⟨i0, i1, g1, g2⟩ := hi
  have gD : ∀ b, b ≠ 345 → b ≠ 347 → E b = D b := fun b h1 h2 => by rw [g1 b h2, jU_ne h1]
  unfold wp_12_image_7
  by_cases a : 8954 ≤ k
  · rw [if_pos a]
    have f1 : ∀ b, b ≠ 345 → jU E 345 4 1 b = E b := fun b hb => jU_ne hb
    have fD : ∀ b, b ≠ 345 → b ≠ 347 → jU E 345 4 1 b = D b := fun b h1 h2 => by rw [f1 b h1, gD b h1 h2]
    have f345 : ∀ j, j ≠ 4 → j ≠ 0 → jU E 345 4 1 345 j = C 345 j := fun j h1 h2 => by rw [jU_at, if_pos rfl, if_neg h1, g1 345 (by decide), jU_at, if_pos rfl, if_neg h2, d1 345 (by omega)]
    refine ⟨by rw [jU_at, if_pos rfl, if_neg (by decide), g1 345 (by decide)]; exact m0_0 _ _, ?_⟩
    unfold rAll
    rw [fD 1 (by decide) (by decide), d1 1 (by omega), f345 6 (by decide) (by decide), f345 11 (by decide) (by decide), fD 346 (by decide) (by decide), d1 346 (by omega), fD 0 (by decide) (by decide), d1 0 (by omega), f1 347 (by decide)]
    refine ⟨a1, a2, a3, fun i i0 i1 => ?_, a5, ?_, a7, Or.inr ⟨‹C 0 4 = 357›, by rw [jU_at, if_pos rfl, if_pos rfl], ?_, by rw [g2 2 (by omega) (by omega)]; exact a7⟩⟩
    · have := a4 i i0 i1
      rw [e0 349 (by decide) (by decide), e0 2 (by decide) (by decide)] at this
      rw [fD 349 (by decide) (by decide), fD 2 (by decide) (by decide), d1 349 (by omega), d1 2 (by omega)]
      exact this
    · exact rS_keep (fun b hb => by unfold rOwn at hb; rw [fD b (by omega) (by omega), d1 b (by omega)]) hs
    · exact rS_w (rS_keep (fun b hb => by unfold rOwn at hb; exact fD b (by omega) (by omega)) d2) (fun j j0 j1 => g2 j j0 (by omega))
  · rw [if_neg a]
    refine ⟨i0, hk _ _ ⟨by omega, by omega, fun b hb => by rw [jU_ne hb, g1 b hb], fun j j0 j1 => ?_⟩ (by omega)⟩
    have e346 : E 346 = C 346 := by rw [gD 346 (by decide) (by decide), d1 346 (by omega)]
    rw [jU_at, if_pos rfl]
    by_cases ej : j = k
    · rw [if_pos ej, e346, ej]
    · rw [if_neg ej]; exact g2 j j0 (by omega)

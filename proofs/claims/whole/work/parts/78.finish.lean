theorem jEdW_lo {b j : Int} {w d : Int → Int} (n0 : 0 ≤ jEdN b w) (n1 : jEdN b w ≤ 7) (h : j < b + 185 ∨ b + 2114 ≤ j) : jEdW b w d j = w j := by
  unfold jEdW
  rw [if_neg (by omega), if_neg (by omega), if_neg (by omega)]
theorem sp_finish {C : jC} {w d : Int → Int} (h : rS 35 C w) (hr : rDr C w d) (d6 : d 0 ≤ 60) {v : Int} (v0 : 0 ≤ v) (v1 : v < 4) {post : Int → jC → Prop}
    (y0 : d 0 = 0 → post 0 C) (y : d 0 ≠ 0 → ∀ C1 : jC, (∀ b, ¬ (51 + 72 * v + 31 ≤ b ∧ b < 51 + 72 * v + 72) → b ≠ 51 + 72 * v → C1 b = C b) → rS 35 C1 (jEdW (298 + 2114 * v) w d) → post (d 0) C1) : wp_8_finishEdit 35 v C post := by
  obtain ⟨-, -, k3, -⟩ := r_cols h
  obtain ⟨r1, r2, -⟩ := id hr
  unfold wp_8_finishEdit
  simp only [Int.reduceAdd]
  rw [r1]
  by_cases e : d 0 ≤ 0
  · rw [if_pos e]
    have := y0 (by omega)
    rw [show d 0 = 0 by omega]; exact this
  · rw [if_neg e, if_neg (by omega), if_neg (by omega)]
    have y := y (by omega)
    obtain ⟨-, -, -, hE⟩ := r_view h v0 v1
    obtain ⟨e1, e2, e3, e4, e5, e6⟩ := hE
    have wl : ∀ j, (j < 298 + 2114 * v + 185 ∨ 298 + 2114 * v + 2114 ≤ j) → jEdW (298 + 2114 * v) w d j = w j := fun j hj => jEdW_lo (by unfold jEdN; split <;> omega) (by unfold jEdN; split <;> omega) hj
    have tail : ∀ (F : jC) (n : Int), 0 ≤ n → n ≤ 7 → n = jEdN (298 + 2114 * v) w → (∀ b, b ≠ 51 + 72 * v → b ≠ 51 + 72 * v + 31 → F b = C b) → F (51 + 72 * v) 3 = n → (∀ k, 0 ≤ k → k < 8 → ∃ j, 0 ≤ j ∧ j < 8 ∧ F (51 + 72 * v + 31) k = 51 + 72 * v + 32 + 5 * j) → (∀ i j, 0 ≤ i → i < j → j < 8 → F (51 + 72 * v + 31) i ≠ F (51 + 72 * v + 31) j) → (∀ k, 0 ≤ k → k < n → ∃ t, rEdit C w (F (51 + 72 * v + 31) k) t ∧ ∀ i, 0 ≤ i → i < 241 → jEdW (298 + 2114 * v) w d (298 + 2114 * v + 186 + 241 * k + i) = w (t + i)) → wp_0_copyFrom (F (51 + 72 * v + 31) n) 46 F (fun C5 => jRng (C5 (51 + 72 * v) 3 + 1) ∧ post (jU C5 (51 + 72 * v) 3 (C5 (51 + 72 * v) 3 + 1) 46 0) (jU C5 (51 + 72 * v) 3 (C5 (51 + 72 * v) 3 + 1))) := by
      intro F n n0 n7 hn f1 f2 f3 f4 f5
      obtain ⟨j, j0, j1, ej⟩ := f3 n n0 (by omega)
      have f46 : F 46 = C 46 := f1 46 (by omega) (by omega)
      refine sp_ecopy (by rw [f46]; omega) (by rw [f46]; omega) (by omega) (fun E g1 g2 g3 => ?_)
      rw [f46] at g2 g3
      have gq : E (51 + 72 * v) = F (51 + 72 * v) := g1 _ (by omega)
      rw [gq, f2]
      refine ⟨⟨by omega, by omega⟩, ?_⟩
      have eD : ∀ b, b ≠ 51 + 72 * v → jU E (51 + 72 * v) 3 (n + 1) b = E b := fun b hb => jU_ne hb
      rw [eD 46 (by omega), g1 46 (by omega), f46, r1]
      have e31 : E (51 + 72 * v + 31) = F (51 + 72 * v + 31) := g1 _ (by omega)
      refine y _ (fun b b1 b2 => by rw [eD b b2, g1 b (by omega), f1 b b2 (by omega)]) (rS_eds h v0 v1 (fun b b1 b2 b3 => by rw [eD b b2, g1 b (by omega), f1 b b2 (by omega)]) (fun j hj => wl j hj) ?_)
      unfold rEds
      rw [eD (51 + 72 * v + 31) (by omega), e31]
      have wn : jEdW (298 + 2114 * v) w d (298 + 2114 * v + 185) = n + 1 := by unfold jEdW; rw [if_pos rfl, hn]
      rw [wn]
      refine ⟨by rw [jU_at, if_pos rfl, if_pos rfl], by omega, by omega, f3, f4, fun k k0 k1 => ?_⟩
      by_cases ek : k = n
      · subst ek
        refine rEdit_new hr (by omega) d6 ?_ (fun t t0 t1 i i0 i1 => ?_) (wl 0 (by omega)) (fun c c0 c1 => wl _ (by omega)) k3 (fun i i0 i1 => ?_)
        · rw [eD _ (by omega), g2]
        · rw [eD _ (by omega), g3 t t0 t1 i i0 i1, f1 (46 + t) (by omega) (by omega)]
        · unfold jEdW
          rw [if_neg (by omega), ← hn, if_pos (by omega)]
          congr 1; omega
      · obtain ⟨t, t0, t1⟩ := f5 k k0 (by omega)
        obtain ⟨j', j0', j1', ej'⟩ := f3 k k0 (by omega)
        have ne := f4 k n k0 (by omega) (by omega)
        refine rEdit_move t0 (fun x x0 x1 => ?_) (wl 0 (by omega)) (fun c c0 c1 => wl _ (by omega)) k3 t1
        rw [eD x (by omega), g1 x (by omega), f1 x (by omega) (by omega)]
    unfold wp_10_remember
    by_cases c : C (51 + 72 * v) 3 < 8
    · rw [if_pos c]
      refine ⟨by omega, ?_⟩
      have en : jEdN (298 + 2114 * v) w = C (51 + 72 * v) 3 := by unfold jEdN; rw [if_neg (by omega), e1]
      refine tail C _ (by omega) (by omega) en.symm (fun _ _ _ => rfl) rfl e4 e5 (fun k k0 k1 => ⟨_, e6 k k0 (by omega), fun i i0 i1 => ?_⟩)
      unfold jEdW
      rw [if_neg (by omega), if_neg (by omega), if_neg (by omega)]
    · rw [if_neg c]
      have w8 : w (298 + 2114 * v + 185) = 8 := by omega
      have en : jEdN (298 + 2114 * v) w = 7 := by unfold jEdN; rw [if_pos w8]
      unfold wp_10_forgetOldest
      refine jL2_of (fun k E => 1 ≤ k ∧ k ≤ 8 ∧ E = jV C (51 + 72 * v + 31) (fun i => if 0 ≤ i ∧ i < k - 1 then C (51 + 72 * v + 31) (i + 1) else C (51 + 72 * v + 31) i)) (fun k _ => (8 - k).toNat) (fun K k E hi hk => ?_) ⟨by omega, by omega, ?_⟩
      · obtain ⟨i0, i1, rfl⟩ := hi
        unfold wp_10_forgetOldest_9
        by_cases a : 8 ≤ k
        · rw [if_pos a]
          have ek : k = 8 := by omega
          subst ek
          generalize hF : jU (jU (jV C (51 + 72 * v + 31) (fun i => if 0 ≤ i ∧ i < 8 - 1 then C (51 + 72 * v + 31) (i + 1) else C (51 + 72 * v + 31) i)) (51 + 72 * v + 31) 7 (C (51 + 72 * v + 31) 0)) (51 + 72 * v) 3 7 = F
          have F1 : ∀ b, b ≠ 51 + 72 * v → b ≠ 51 + 72 * v + 31 → F b = C b := fun b b1 b2 => by rw [← hF, jU_ne b1, jU_ne b2, jV_ne b2]
          have F2 : F (51 + 72 * v) 3 = 7 := by rw [← hF, jU_at, if_pos rfl, if_pos rfl]
          have F3 : ∀ i, 0 ≤ i → i < 8 → F (51 + 72 * v + 31) i = if i = 7 then C (51 + 72 * v + 31) 0 else C (51 + 72 * v + 31) (i + 1) := by
            intro i a b
            rw [← hF, jU_ne (by omega), jU_at, if_pos rfl, jV_eq]
            by_cases c : i = 7
            · rw [if_pos c, if_pos c]
            · rw [if_neg c, if_neg c, if_pos (by omega)]
          dsimp only
          rw [F2]
          refine ⟨by omega, by omega, ?_⟩
          refine tail F 7 (by omega) (by omega) en.symm F1 F2 (fun k k0 k1 => ?_) (fun i j i0 i1 j1 => ?_) (fun k k0 k1 => ?_)
          · rw [F3 k k0 k1]
            by_cases c : k = 7
            · rw [if_pos c]; exact e4 0 (by omega) (by omega)
            · rw [if_neg c]; exact e4 (k + 1) (by omega) (by omega)
          · rw [F3 i i0 (by omega), F3 j (by omega) j1, if_neg (by omega)]
            by_cases c : j = 7
            · rw [if_pos c]
              exact (e5 0 (i + 1) (by omega) (by omega) (by omega)).symm
            · rw [if_neg c]
              exact e5 (i + 1) (j + 1) (by omega) (by omega) (by omega)
          · rw [F3 k k0 (by omega), if_neg (by omega)]
            refine ⟨_, e6 (k + 1) (by omega) (by omega), fun i i0 i1 => ?_⟩
            unfold jEdW
            rw [if_neg (by omega), if_neg (by omega), if_pos ⟨w8, by omega, by omega⟩]
            congr 1; omega
        · rw [if_neg a]
          refine ⟨by omega, by omega, ?_⟩
          refine hk _ _ ⟨by omega, by omega, ?_⟩ (by omega)
          rw [jU_S, jV_V, jV_eq]
          congr 1
          funext j
          unfold jSet
          dsimp only
          by_cases c1 : j = k - 1
          · rw [if_pos c1, if_neg (by omega), if_pos (by omega), c1]
            congr 1; omega
          · rw [if_neg c1]
            by_cases c2 : 0 ≤ j ∧ j < k - 1
            · rw [if_pos c2, if_pos (by omega)]
            · rw [if_neg c2, if_neg (by omega)]
      · funext b
        by_cases b1 : b = 51 + 72 * v + 31
        · subst b1
          rw [jV_eq]
          funext j
          rw [if_neg (by omega)]
        · rw [jV_ne b1]

-- one grid pasted over a row
def jHd (z c : Int) : Int := if jAnd (jShr z c) 1 = 1 then 1 else 0
theorem jHd_01 (z c : Int) : jHd z c = 0 ∨ jHd z c = 1 := by unfold jHd; split <;> omega
theorem hd_c {C : jC} {Q z c : Int} (h : C Q 3 = z) (c0 : 0 ≤ c) (c1 : c < 5) : jDet (wp_2_hides Q c C) (jHd z c) := by
  intro post y
  unfold wp_2_hides
  rw [if_neg (by omega), if_neg (by omega), h]
  unfold jHd at y
  by_cases a : jAnd (jShr z c) 1 = 1
  · rw [if_pos a] at y ⊢; exact y
  · rw [if_neg a] at y ⊢; exact y
theorem hd_m {D : jC} {v z c : Int} (v0 : 0 ≤ v) (v1 : v < 4) (h : D 346 (298 + 2114 * v + 29) = z) : jDet (wp_12_isHidden v c D) (jHd z c) := by
  intro post y
  unfold wp_12_isHidden wp_12_has
  rw [sp_viewAt v0 v1 (by omega) (by omega), h]
  refine ⟨by omega, by omega, ?_⟩
  unfold jHd at y
  by_cases a : jAnd (jShr z c) 1 = 1
  · rw [if_pos a] at y ⊢; exact ⟨Or.inr rfl, y⟩
  · rw [if_neg a] at y ⊢; exact ⟨Or.inl rfl, y⟩
theorem sp_toldAt {g i : Int} {E : jC} (g0 : 0 ≤ g) (g1 : g < E 3 2) (g12 : E 3 2 ≤ 12) (i0 : 0 ≤ i) (i1 : i < E 5 g) (i5 : E 5 g ≤ 5) {post : Int → Prop} (y : post (E 6 (g * 5 + i))) : wp_9_toldAt g i E post := by
  unfold wp_9_toldAt wp_9_widthOf
  rw [if_neg (by omega), if_neg (by omega), if_neg (by omega), if_neg (by omega), if_neg (by omega), if_neg (by omega)]
  dsimp only
  rw [if_neg (by omega)]
  unfold wp_9_toldAt_36
  rw [if_neg (by decide)]
  exact ⟨by omega, by omega, y⟩
theorem sp_pGrid {E : jC} {W d : Int → Int} (h : rS 35 E W) (hr : rDr E W d) {v s g c0 n N : Int} (v0 : 0 ≤ v) (v1 : v < 4) (s0 : 0 ≤ s) (s1 : s < 24) (sl : rLive E 35 s) (hN : W 0 = N) (N5 : N ≤ 5) (c00 : 0 ≤ c0) (g0 : 0 ≤ g) (g1 : g < E 3 2) (g12 : E 3 2 ≤ 12) (hn : E 5 g = n) (n1 : 1 ≤ n) (n5 : n ≤ 5)
    {sn : Int → Int} (hs : ∀ c, jSn (jHd (W (298 + 2114 * v + 29))) N c (sn c)) (sc : sn c0 = c0) (hx : ∀ i, 0 ≤ i → i < n → jGu sn c0 i.toNat < N ∧ jVal (W (4 + jGu sn c0 i.toNat)) (E 6 (g * 5 + i))) (hf : ∀ i, 0 ≤ i → i < d 0 → d (1 + 4 * i) ≠ E 38 s) (d6 : d 0 + n ≤ 60) {post : jC → Prop}
    (y : ∀ (E' : jC) (W' d' : Int → Int), (∀ b, b ≠ 39 → b ≠ 40 → b ≠ 44 → b ≠ 45 → ¬ (46 ≤ b ∧ b ≤ 50) → E' b = E b) → rS 35 E' W' → rDr E' W' d' → (∀ j, j ≠ 3 → j < 8754 → ¬ (9 + 11 * s + 1 ≤ j ∧ j < 9 + 11 * s + 11) → W' j = W j) → d' 0 ≤ d 0 + n → (∀ i, 0 ≤ i → i < d' 0 → (i < d 0 ∧ d' (1 + 4 * i) = d (1 + 4 * i)) ∨ d' (1 + 4 * i) = E 38 s) → (∀ (B : jC) (post' : jC → Prop), B 346 = W → B 352 = d → B 353 (6 * g) = n → (∀ i, 0 ≤ i → i < n → B 353 (6 * g + 1 + i) = E 6 (g * 5 + i)) → post' (jV (jV B 346 W') 352 d') → wp_12_isPasted v (E 38 s) c0 g B post') → post E') : wp_8_pasteGrid 35 g v s c0 E post := by
  obtain ⟨k1, k2, k3, k4⟩ := r_cols h
  obtain ⟨U, eU⟩ : ∃ U : Int → Int, ∀ i, U i = jGu sn c0 i.toNat := ⟨_, fun _ => rfl⟩
  obtain ⟨X, eX⟩ : ∃ X : Int → Int, ∀ i, X i = E 6 (g * 5 + i) := ⟨_, fun _ => rfl⟩
  have u0 : ∀ i, 0 ≤ i → 0 ≤ U i := fun i i0 => by rw [eU]; have := jGu_up (c := c0) hs i.toNat; omega
  have ux : ∀ i, 0 ≤ i → i < n → U i < N ∧ jVal (W (4 + U i)) (X i) := fun i i0 i1 => by rw [eU, eX]; exact hx i i0 i1
  have us : ∀ i, 0 ≤ i → U (i + 1) = sn (U i + 1) := fun i i0 => by rw [eU, eU, jGu_s i0]
  have ul : ∀ i j, 0 ≤ i → i < j → U i < U j := fun i j i0 ij => by rw [eU, eU]; exact jGu_lt hs i0 ij
  have ok : jSeqOk E W (fun _ => s) U X n := ⟨by omega, fun k a b => ⟨s0, s1, sl, u0 k a, by rw [hN]; exact (ux k a b).1, (ux k a b).2⟩, fun t k a b c z => by have := ul t k a b; have := z.2; omega⟩
  have z29 : E (51 + 72 * v + 1) 3 = W (298 + 2114 * v + 29) := (r_lens h v0 v1).2.2.2.2.1
  obtain ⟨Wk, eW⟩ : ∃ Wk : Int → Int → Int, ∀ k, Wk k = jSeqW v (fun _ => s) U X W k.toNat := ⟨_, fun _ => rfl⟩
  obtain ⟨dk, eD⟩ : ∃ dk : Int → Int → Int, ∀ k, dk k = jSeqD v (fun _ => s) U X W d k.toNat := ⟨_, fun _ => rfl⟩
  have wlo : ∀ k, 0 ≤ k → k ≤ n → ∀ j, j ≠ 3 → j < 8754 → ¬ (9 + 11 * s + 1 ≤ j ∧ j < 9 + 11 * s + 11) → Wk k j = W j := fun k a b j h3 h8 hj => by
    rw [eW]
    refine jSeqW_low (C := E) k3 ok h3 h8 _ (by omega) (fun t t0 t1 => ?_)
    have := u0 t t0
    have := (ux t t0 (by omega)).1
    omega
  have W0 : Wk 0 = W := by rw [eW]; rfl
  have D0 : dk 0 = d := by rw [eD]; rfl
  have Ws : ∀ k, 0 ≤ k → Wk (k + 1) = jAlW v s (U k) (X k) (Wk k) := fun k a => by rw [eW, eW]; exact jSeqW_s a
  have Ds : ∀ k, 0 ≤ k → dk (k + 1) = jAlD s (U k) (X k) (Wk k) (dk k) := fun k a => by rw [eW, eD, eD]; exact jSeqD_s a
  unfold wp_8_pasteGrid
  refine jL3_of (fun c i F => 0 ≤ i ∧ i ≤ n ∧ 0 ≤ c ∧ (i < n → sn c = U i) ∧ (∀ b, b ≠ 39 → b ≠ 40 → b ≠ 44 → b ≠ 45 → ¬ (46 ≤ b ∧ b ≤ 50) → F b = E b) ∧ rS 35 F (Wk i) ∧ rDr F (Wk i) (dk i) ∧ dk i 0 ≤ d 0 + i ∧ (∀ q, 0 ≤ q → q < dk i 0 → (q < d 0 ∧ dk i (1 + 4 * q) = d (1 + 4 * q)) ∨ (dk i (1 + 4 * q) = E 38 s ∧ ∃ t, 0 ≤ t ∧ t < i ∧ dk i (1 + 4 * q + 1) = U t)) ∧ (∀ j, 0 ≤ j → j ≤ i → 0 ≤ dk j 0 ∧ dk j 0 ≤ d 0 + j ∧ ∃ G : jC, G 38 = E 38 ∧ rS 35 G (Wk j) ∧ rLive G 35 s)) (fun _ i _ => (n - i).toNat) (fun K c i F hi hk => ?_) ⟨Int.le_refl 0, by omega, c00, fun _ => by rw [sc, eU]; rfl, fun _ _ _ _ _ _ => rfl, by rw [W0]; exact h, by rw [W0, D0]; exact hr, by rw [D0]; omega, fun q q0 q1 => Or.inl ⟨by rw [D0] at q1; exact q1, by rw [D0]⟩, fun j j0 j1 => ?_⟩
  · obtain ⟨i0, i1, ic, isn, f1, f2, f3, f4, f5, f6⟩ := hi
    have e5 : F 5 = E 5 := f1 5 (by decide) (by decide) (by decide) (by decide) (by decide)
    have e3 : F 3 = E 3 := f1 3 (by decide) (by decide) (by decide) (by decide) (by decide)
    have e6 : F 6 = E 6 := f1 6 (by decide) (by decide) (by decide) (by decide) (by decide)
    have e38 : F 38 = E 38 := f1 38 (by decide) (by decide) (by decide) (by decide) (by decide)
    unfold wp_8_pasteGrid_7 wp_9_widthOf
    rw [if_neg (by omega), if_neg (by omega), e5, hn]
    dsimp only
    by_cases a : n ≤ i
    · rw [if_pos a]
      have en : i = n := by omega
      subst en
      refine y F (Wk i) (dk i) f1 f2 f3 (wlo i i0 i1) f4 (fun q q0 q1 => ?_) (fun B post' b1 b2 b3 b4 z => ?_)
      · rcases f5 q q0 q1 with w | w
        · exact Or.inl w
        · exact Or.inr w.1
      · -- the model
        unfold wp_12_isPasted
        refine jL3_of (fun c j B' => 0 ≤ j ∧ j ≤ i ∧ (j < i → c = U j) ∧ B' = jV (jV B 346 (Wk j)) 352 (dk j)) (fun _ j _ => (i - j).toNat) (fun K' c' j B' hj hk' => ?_) ⟨Int.le_refl 0, by omega, fun _ => by rw [eU]; rfl, ?_⟩
        · obtain ⟨j0, j1, jc, rfl⟩ := hj
          have x353 : jV (jV B 346 (Wk j)) 352 (dk j) 353 = B 353 := by rw [jV_ne (by decide), jV_ne (by decide)]
          have x346 : jV (jV B 346 (Wk j)) 352 (dk j) 346 = Wk j := by rw [jV_ne (by decide), jV_eq]
          have x352 : jV (jV B 346 (Wk j)) 352 (dk j) 352 = dk j := jV_eq _ _ _
          unfold wp_12_isPasted_6
          rw [x353, b3]
          refine ⟨by omega, by omega, ?_⟩
          by_cases a' : i ≤ j
          · rw [if_pos a']
            rw [show j = i by omega]; exact z
          · rw [if_neg a', b4 j j0 (by omega), jc (by omega), ← eX]
            refine ⟨by omega, by omega, ?_⟩
            obtain ⟨t1, t2, G, G38, rG, lG⟩ := f6 j j0 j1
            have uj := ux j j0 (by omega)
            have u0j := u0 j j0
            have za := sp_alters (v := v) (c := U j) (x := X j) rG s0 s1 lG u0j (by omega) x346 (fun _ => by rw [x352]; omega) (post := fun C7 => jRng (U j + 1) ∧ wp_12_seenFrom v (U j + 1) C7 (fun x11 => K' x11 (j + 1) C7))
            rw [G38] at za
            refine za ?_
            rw [x352, ← Ws j j0, ← Ds j j0]
            have e2 : jV (jV (jV (jV B 346 (Wk j)) 352 (dk j)) 346 (Wk (j + 1))) 352 (dk (j + 1)) = jV (jV B 346 (Wk (j + 1))) 352 (dk (j + 1)) := by
              funext b
              by_cases b1 : b = 352
              · subst b1; rw [jV_eq, jV_eq]
              · rw [jV_ne b1, jV_ne b1]
                by_cases b2 : b = 346
                · subst b2; rw [jV_eq, jV_eq]
                · rw [jV_ne b2, jV_ne b2, jV_ne b1, jV_ne b2]
            rw [e2]
            have x346' : jV (jV B 346 (Wk (j + 1))) 352 (dk (j + 1)) 346 = Wk (j + 1) := by rw [jV_ne (by decide), jV_eq]
            refine ⟨⟨by omega, by omega⟩, ?_⟩
            refine sp_seen (w := Wk (j + 1)) (N := N) (hd := jHd (W (298 + 2114 * v + 29))) (by rw [wlo (j + 1) (by omega) (by omega) 0 (by decide) (by decide) (by omega)]; exact hN) N5 (fun c c0 c1 => ⟨jHd_01 _ _, fun D hD => hd_m v0 v1 (by rw [hD]; exact wlo (j + 1) (by omega) (by omega) _ (by omega) (by omega) (by omega))⟩) hs (by omega) x346' _ ?_
            rw [← us j j0]
            exact hk' _ _ _ ⟨by omega, by omega, fun _ => rfl, rfl⟩ (by omega)
        · rw [W0, D0, ← b1, jV_id, ← b2, jV_id]
    · rw [if_neg a]
      have uj := ux i i0 (by omega)
      have u0j := u0 i i0
      have si := hs c
      rw [isn (by omega)] at si
      refine jL1_of (fun c' => c ≤ c' ∧ c' ≤ U i) (fun c' => (U i - c').toNat) (fun K1 c' hc hk1 => ?_) ⟨Int.le_refl _, si.1⟩
      obtain ⟨c1, c2⟩ := hc
      unfold wp_8_pasteGrid_17
      rw [if_neg (by omega)]
      refine ⟨v0, v1, ?_⟩
      rw [show (35 : Int) + 8 + 8 = 51 from rfl]
      refine hd_c (z := W (298 + 2114 * v + 29)) (by rw [f1 (51 + 72 * v + 1) (by omega) (by omega) (by omega) (by omega) (by omega)]; exact z29) (by omega) (by omega) _ ?_
      by_cases b : jHd (W (298 + 2114 * v + 29)) c' = 0
      · rw [if_pos b]
        have ec : c' = U i := by
          by_cases q : c' = U i
          · exact q
          · have := (si.2.1 c' c1 (by omega)).2; omega
        subst ec
        refine sp_toldAt g0 (by rw [e3]; exact g1) (by rw [e3]; exact g12) i0 (by rw [e5, hn]; omega) (by rw [e5, hn]; exact n5) ?_
        rw [e6, ← eX]
        have lF : rLive F 35 s := by
          obtain ⟨z, z0, z1, z2⟩ := sl
          exact ⟨z, z0, by rw [f1 _ (by decide) (by decide) (by decide) (by decide) (by decide)]; exact z1, by rw [f1 _ (by decide) (by decide) (by decide) (by decide) (by decide)]; exact z2⟩
        have w0 : Wk i 0 = N := by rw [wlo i i0 i1 0 (by decide) (by decide) (by omega)]; exact hN
        refine sp_change f2 f3 v0 v1 s0 s1 lF u0j (by rw [w0]; exact uj.1) (by rw [wlo i i0 i1 _ (by omega) (by omega) (by omega)]; exact uj.2) (fun _ => ⟨by omega, fun q q0 q1 zz => ?_⟩) (fun F' p1 p2 p3 => ?_)
        · rw [e38] at zz
          rcases f5 q q0 q1 with ⟨w1, w2⟩ | ⟨w1, t, t0, t1, w2⟩
          · exact hf q q0 w1 (by rw [← w2]; exact zz.1)
          · have := ul t i t0 t1
            have := zz.2
            omega
        · rw [← Ws i i0] at p2 p3
          rw [← Ds i i0] at p3
          have lF' : rLive F' 35 s := by
            obtain ⟨z, z0, z1, z2⟩ := lF
            exact ⟨z, z0, by rw [p1 _ (by decide) (by decide) (by decide) (by decide) (by decide)]; exact z1, by rw [p1 _ (by decide) (by decide) (by decide) (by decide) (by decide)]; exact z2⟩
          have dl := jAlD_0 (s := s) (c := U i) (x := X i) (w := Wk i) (d := dk i)
          rw [← Ds i i0] at dl
          have key := (r_live f2 s0 s1 lF).1
          rw [e38] at key
          refine ⟨⟨by omega, by omega⟩, hk _ _ _ ⟨by omega, by omega, by omega, fun _ => (us i i0).symm, fun b b1 b2 b3 b4 b5 => by rw [p1 b b1 b2 b3 b4 b5, f1 b b1 b2 b3 b4 b5], p2, p3, by omega, fun q q0 q1 => ?_, fun j j0 j1 => ?_⟩ (by omega)⟩
          · have d0 := f3.2.1
            rw [Ds i i0] at q1 ⊢
            generalize dk i = dd at *
            generalize Wk i = ww at *
            unfold jAlD at q1 ⊢
            by_cases e : ww (9 + 11 * s + 1 + U i) = X i
            · rw [if_pos e] at q1 ⊢
              rcases f5 q q0 q1 with w | ⟨w1, t, t0, t1, w2⟩
              · exact Or.inl w
              · exact Or.inr ⟨w1, t, t0, by omega, w2⟩
            · rw [if_neg e] at q1 ⊢
              have D0' : jDrD (ww (9 + 11 * s)) (U i) (ww (9 + 11 * s + 1 + U i)) (X i) dd 0 = dd 0 + 1 := by unfold jDrD; rw [if_pos rfl]
              rw [D0'] at q1
              unfold jDrD
              by_cases qq : q = dd 0
              · refine Or.inr ⟨?_, i, i0, by omega, ?_⟩
                · rw [if_neg (by omega), if_pos (by omega)]; exact key
                · rw [if_neg (by omega), if_neg (by omega), if_pos (by omega)]
              · have n1 : ∀ z, z = 1 + 4 * q ∨ z = 1 + 4 * q + 1 → (if z = 0 then dd 0 + 1 else if z = 1 + 4 * dd 0 then ww (9 + 11 * s) else if z = 1 + 4 * dd 0 + 1 then U i else if z = 1 + 4 * dd 0 + 2 then ww (9 + 11 * s + 1 + U i) else if z = 1 + 4 * dd 0 + 3 then X i else dd z) = dd z := fun z hz => by
                  rw [if_neg (by omega), if_neg (by omega), if_neg (by omega), if_neg (by omega), if_neg (by omega)]
                rw [n1 _ (Or.inl rfl), n1 _ (Or.inr rfl)]
                rcases f5 q q0 (by omega) with w | ⟨w1, t, t0, t1, w2⟩
                · exact Or.inl w
                · exact Or.inr ⟨w1, t, t0, by omega, w2⟩
          · by_cases e : j = i + 1
            · subst e
              exact ⟨p3.2.1, by omega, F', by rw [p1 38 (by decide) (by decide) (by decide) (by decide) (by decide), e38], p2, lF'⟩
            · exact f6 j j0 (by omega)
      · rw [if_neg b]
        have : c' ≠ U i := by
          intro q
          rcases si.2.2 with w | w
          · omega
          · rw [← q] at w
            have := jHd_01 (W (298 + 2114 * v + 29)) c'
            omega
        exact hk1 _ ⟨by omega, by omega⟩ (by omega)
  · have : j = 0 := by omega
    subst this
    rw [D0, W0]
    exact ⟨hr.2.1, by omega, E, rfl, h, sl⟩

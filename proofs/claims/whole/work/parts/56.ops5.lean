-- find
theorem op_find {C : jC} {K v c x s : Int} (h : rAll C K) : wp_11_find v c x s C (fun E C1 => (E = jIOB ∧ oM (wp_12_find v c x s) K 1 C1) ∨ (E = jIAE ∧ oM (wp_12_find v c x s) K 2 C1)) (fun r => oR (wp_12_find v c x s) K r C) := by
  have hs := r_now h
  obtain ⟨k1, k2, k3, -⟩ := r_cols hs
  unfold wp_11_find
  refine sp_viewNumbered (fun hn => Or.inl ⟨rfl, ?_⟩) (fun h0 h1 => ?_)
  · unfold oM wp_12_find
    rw [sp_noView1 hn, if_neg (by decide)]
    unfold wp_12_find_26
    rw [sp_throws1, if_neg (by decide), m00]
    exact ⟨m0_0 _ _, rAll_m0 h⟩
  refine sp_needColumn (by omega) (fun hn => Or.inl ⟨rfl, ?_⟩) (fun c0 c1 => ?_)
  · unfold oM wp_12_find
    rw [sp_noView0 h0 h1, if_pos rfl, sp_noCol1 hs (m0_w _ _) hn, if_neg (by decide)]
    unfold wp_12_find_26
    rw [sp_throws1, if_neg (by decide), m00]
    exact ⟨m0_0 _ _, rAll_m0 h⟩
  have mo : ∀ post : Int → jC → Prop, wp_12_find_26 0 v c x s (jU C 345 0 0) post → wp_12_find v c x s C post := by
    intro post y
    unfold wp_12_find
    rw [sp_noView0 h0 h1, if_pos rfl, sp_noCol0 hs (m0_w _ _) c0 c1, if_pos rfl]
    exact y
  by_cases a : s < 0
  · rw [if_pos a]
    refine Or.inr ⟨rfl, mo _ ?_⟩
    unfold wp_12_find_26
    rw [sp_throws0, if_pos rfl, if_pos a, sp_throws1, if_neg (by decide), m00]
    exact ⟨m0_0 _ _, rAll_m0 h⟩
  rw [if_neg a]
  obtain ⟨l1, l2, l3, l4, -⟩ := r_list hs h0 h1
  have good : (∀ post : Int → jC → Prop, wp_12_firstPlace v c x s (jU C 345 0 0) (fun r => post r (jU C 345 0 0)) → wp_12_find_26 0 v c x s (jU C 345 0 0) post) → jL1 (wp_11_find_44 c x (51 + 72 * v) C (fun E C1 => (E = jIOB ∧ oM (wp_12_find v c x s) K 1 C1) ∨ (E = jIAE ∧ oM (wp_12_find v c x s) K 2 C1)) (fun r => oR (wp_12_find v c x s) K r C)) s := by
    intro mo2
    have mo3 : ∀ r, jFrom (jLv C v c) x s (C 346 (298 + 2114 * v)) r → oR (wp_12_find v c x s) K r C := by
      intro r hr
      unfold oR
      refine mo _ (mo2 _ ?_)
      refine sp_firstPlace hs h0 h1 c0 (by omega) (by omega) (m0_w C 0) (fun r' hr' => ⟨m0_0 _ _, ?_, rAll_m0 h⟩)
      rcases hr with ⟨b0, b1, b2, b3⟩ | ⟨b0, b1⟩
      · rcases hr' with ⟨d0, d1, d2, d3⟩ | ⟨d0, d1⟩
        · by_cases z : r < r'
          · exact absurd b2 (d3 r b0 z)
          · by_cases z2 : r' < r
            · exact absurd d2 (b3 r' d0 z2)
            · omega
        · exact absurd b2 (d1 r b0 b1)
      · rcases hr' with ⟨d0, d1, d2, d3⟩ | ⟨d0, d1⟩
        · exact absurd d2 (b1 r' d0 d1)
        · omega
    refine jL1_of (fun k => s ≤ k ∧ ∀ j, s ≤ j → j < k → jLv C v c j ≠ x) (fun k => (C 346 (298 + 2114 * v) - k).toNat) (fun Q k hi hk => ?_) ⟨by omega, fun j _ _ => by omega⟩
    obtain ⟨i0, i1⟩ := hi
    unfold wp_11_find_44
    rw [sp_length, l1]
    by_cases b : C 346 (298 + 2114 * v) ≤ k
    · rw [if_pos b]; exact mo3 _ (Or.inr ⟨rfl, fun j j0 j1 => i1 j j0 (by omega)⟩)
    · rw [if_neg b, sp_vat hs h0 h1 (by omega) (by omega), sp_vval hs h0 h1 (by omega) (by omega) c0 (by omega)]
      by_cases e : jLv C v c k = x
      · rw [if_pos e]; exact mo3 _ (Or.inl ⟨i0, by omega, e, i1⟩)
      · rw [if_neg e]
        refine hk _ ⟨by omega, fun j j0 j1 => ?_⟩ (by omega)
        by_cases ej : j = k
        · rw [ej]; exact e
        · exact i1 j j0 (by omega)
  unfold wp_7_mayHoldOrBlank
  by_cases b : x = -1000000
  · rw [if_pos b]
    dsimp only
    rw [if_neg (by decide)]
    refine good (fun post y => ?_)
    unfold wp_12_find_26
    rw [sp_throws0, if_pos rfl, if_neg a, if_pos b, sp_throws0, if_pos rfl]
    exact y
  · rw [if_neg b]
    obtain ⟨r, r01, -, r1, r2⟩ := sp_hold (v := x) hs c0 c1
    refine r1 _ ?_
    by_cases z : r = 0
    · rw [if_pos z]
      dsimp only
      rw [if_pos rfl]
      refine Or.inr ⟨rfl, mo _ ?_⟩
      unfold wp_12_find_26
      rw [sp_throws0, if_pos rfl, if_neg a, if_neg b]
      refine r2 _ (m0_w C 0) _ ?_
      rw [if_pos z, sp_throws1, if_neg (by decide), m00]
      exact ⟨m0_0 _ _, rAll_m0 h⟩
    · rw [if_neg z]
      dsimp only
      rw [if_neg (by decide)]
      refine good (fun post y => ?_)
      unfold wp_12_find_26
      rw [sp_throws0, if_pos rfl, if_neg a, if_neg b]
      refine r2 _ (m0_w C 0) _ ?_
      rw [if_neg z, sp_throws0, if_pos rfl]
      exact y
-- twice
theorem sp_hides {C : jC} {w : Int → Int} (h : rS 35 C w) {v c : Int} (v0 : 0 ≤ v) (v1 : v < 4) (c0 : 0 ≤ c) (c1 : c < 5) :
    ∃ x, (x = 0 ∨ x = 1) ∧ jDet (wp_2_hides (51 + 72 * v + 1) c C) x ∧ ∀ C' : jC, C' 346 = w → jDet (wp_12_isHidden v c C') x := by
  obtain ⟨l1, l2, l3, l4, l5, -⟩ := r_lens h v0 v1
  obtain ⟨x, hx⟩ : ∃ x : Int, x = if jAnd (jShr (w (298 + 2114 * v + 29)) c) 1 = 1 then 1 else 0 := ⟨_, rfl⟩
  have x01 : x = 0 ∨ x = 1 := by split at hx <;> omega
  refine ⟨x, x01, fun post y => ?_, fun C' hC post y => ?_⟩
  · unfold wp_2_hides
    rw [if_neg (by omega), if_neg (by omega), l5]
    by_cases a : jAnd (jShr (w (298 + 2114 * v + 29)) c) 1 = 1
    · rw [if_pos a] at hx ⊢; rw [← hx]; exact y
    · rw [if_neg a] at hx ⊢; rw [← hx]; exact y
  · unfold wp_12_isHidden wp_12_has
    rw [sp_viewAt v0 v1 (by omega) (by omega), hC]
    refine ⟨by omega, by omega, ?_⟩
    by_cases a : jAnd (jShr (w (298 + 2114 * v + 29)) c) 1 = 1
    · rw [if_pos a] at hx ⊢; subst hx; exact ⟨Or.inr rfl, y⟩
    · rw [if_neg a] at hx ⊢; subst hx; exact ⟨Or.inl rfl, y⟩
theorem sp_twins {C : jC} {w : Int → Int} (h : rS 35 C w) {v i j : Int} (v0 : 0 ≤ v) (v1 : v < 4) (i0 : 0 ≤ i) (i1 : i < w (298 + 2114 * v)) (j0 : 0 ≤ j) (j1 : j < w (298 + 2114 * v)) :
    ∃ x, (x = 0 ∨ x = 1) ∧ jDet (wp_4_isSeenAlike 36 (51 + 72 * v) i j C) x ∧ ∀ C' : jC, C' 346 = w → jDet (wp_12_areTwins v i j C') x := by
  obtain ⟨k1, k2, k3, -⟩ := r_cols h
  have H : ∀ c, ∃ x, 0 ≤ c → c < w 0 → (x = 0 ∨ x = 1) ∧ jDet (wp_2_hides (51 + 72 * v + 1) c C) x ∧ ∀ C' : jC, C' 346 = w → jDet (wp_12_isHidden v c C') x := by
    intro c
    by_cases hc : 0 ≤ c ∧ c < w 0
    · obtain ⟨x, hx⟩ := sp_hides h v0 v1 hc.1 (show c < 5 by omega)
      exact ⟨x, fun _ _ => hx⟩
    · exact ⟨0, fun a b => absurd ⟨a, b⟩ hc⟩
  obtain ⟨ρ, hρ⟩ := Classical.skolem.mp H
  obtain ⟨χ, hχ⟩ := jChi (fun _ => ∀ c, 0 ≤ c → c < w 0 → ρ c = 0 → jLv C v c i = jLv C v c j)
  obtain ⟨χ0, χ1⟩ := hχ 0
  refine ⟨χ 0, χ0, fun post y => ?_, fun C' hC post y => ?_⟩
  · unfold wp_4_isSeenAlike
    refine jL1_of (fun c => 0 ≤ c ∧ c ≤ w 0 ∧ ∀ d, 0 ≤ d → d < c → ρ d = 0 → jLv C v d i = jLv C v d j) (fun c => (w 0 - c).toNat) (fun Q c hi hk => ?_) ⟨by omega, k2, fun d _ _ => by omega⟩
    obtain ⟨a0, a1, a2⟩ := hi
    unfold wp_4_isSeenAlike_3
    rw [k1]
    by_cases a : w 0 ≤ c
    · rw [if_pos a, ← χ1.mpr (fun d d0 d1 => a2 d d0 (by omega))]; exact y
    · rw [if_neg a]
      obtain ⟨g1, g2, -⟩ := hρ c a0 (by omega)
      refine g2 _ ?_
      have nx : (ρ c = 0 → jLv C v c i = jLv C v c j) → Q (c + 1) := by
        intro z
        refine hk _ ⟨by omega, by omega, fun d d0 d1 d2 => ?_⟩ (by omega)
        by_cases e : d = c
        · rw [e] at d2 ⊢; exact z d2
        · exact a2 d d0 (by omega) d2
      by_cases b : ρ c = 0
      · rw [if_pos b, sp_alike h v0 v1 a0 (by omega) i0 i1 j0 j1]
        by_cases e : jLv C v c i = jLv C v c j
        · rw [if_pos e, if_neg (by decide)]; exact nx (fun _ => e)
        · rw [if_neg e, if_pos rfl]
          have : χ 0 = 0 := by
            rcases χ0 with q | q
            · exact q
            · exact absurd (χ1.mp q c a0 (by omega) b) e
          rw [← this]; exact y
      · rw [if_neg b]; exact nx (fun z => absurd z b)
  · unfold wp_12_areTwins
    refine jL2_of (fun b c => 0 ≤ c ∧ c ≤ w 0 ∧ (b = 0 ∨ b = 1) ∧ (b = 0 → χ 0 = 0) ∧ (b = 1 → ∀ d, 0 ≤ d → d < c → ρ d = 0 → jLv C v d i = jLv C v d j)) (fun _ c => (w 0 - c).toNat) (fun Q b c hi hk => ?_) ⟨by omega, k2, Or.inr rfl, fun z => absurd z (by decide), fun _ d _ _ => by omega⟩
    obtain ⟨a0, a1, a2, a3, a4⟩ := hi
    unfold wp_12_areTwins_6 wp_12_columns
    dsimp only
    rw [hC]
    have fin : b = 0 ∨ w 0 ≤ c → post b := by
      intro z
      rcases a2 with e | e
      · rw [e, ← a3 e]; exact y
      · rw [e, ← χ1.mpr (fun d d0 d1 => a4 e d d0 (by omega))]; exact y
    by_cases a : w 0 ≤ c
    · rw [if_pos a]; exact ⟨a2, fin (Or.inr a)⟩
    · rw [if_neg a]
      by_cases e : b = 0
      · rw [if_pos e]; exact ⟨a2, fin (Or.inl e)⟩
      · rw [if_neg e]
        obtain ⟨g1, -, g3⟩ := hρ c a0 (by omega)
        refine g3 C' hC _ ?_
        have nx : (ρ c = 0 → jLv C v c i = jLv C v c j) → Q 1 (c + 1) := by
          intro z
          refine hk _ _ ⟨by omega, by omega, Or.inr rfl, fun z => absurd z (by decide), fun _ d d0 d1 d2 => ?_⟩ (by omega)
          by_cases e2 : d = c
          · rw [e2] at d2 ⊢; exact z d2
          · exact a4 (by omega) d d0 (by omega) d2
        by_cases f : ρ c = 0
        · rw [if_pos f]
          refine sp_mval h v0 v1 i0 i1 a0 (by omega) hC _ ?_
          refine sp_mval h v0 v1 j0 j1 a0 (by omega) hC _ ?_
          by_cases z : jLv C v c i = jLv C v c j
          · rw [if_pos z]; exact nx (fun _ => z)
          · rw [if_neg z]
            refine hk _ _ ⟨by omega, by omega, Or.inl rfl, fun _ => ?_, fun q => absurd q (by decide)⟩ (by omega)
            rcases χ0 with q | q
            · exact q
            · exact absurd (χ1.mp q c a0 (by omega) f) z
        · rw [if_neg f]; exact nx (fun z => absurd z f)
def jTw (t : Int → Int → Int) (i j y : Int) : Int := if t i j = 1 then jOr y (jShl 1 i) else y
def jTwo (t : Int → Int → Int) (i x : Int) : Int := jFold (jTw t i) x i.toNat
theorem jTw_rng {t : Int → Int → Int} {i x : Int} (hx : jRng x) (n : Nat) : jRng (jFold (jTw t i) x n) := by
  induction n with
  | zero => exact hx
  | succ n ih =>
    show jRng (if t i n = 1 then _ else _)
    split
    · exact jOr_rng _ _
    · exact ih
theorem jTwo_rng {t : Int → Int → Int} (n : Nat) : jRng (jFold (jTwo t) 0 n) := by
  induction n with
  | zero => exact (show jRng 0 from ⟨by decide, by decide⟩)
  | succ n ih => exact jTw_rng ih _
theorem op_twice {C : jC} {K v : Int} (h : rAll C K) : wp_11_twice v C (fun E C1 => E = jIOB ∧ oM (wp_12_twice v) K 1 C1) (fun r => oR (wp_12_twice v) K r C) := by
  have hs := r_now h
  unfold wp_11_twice
  refine sp_viewNumbered (fun hn => ⟨rfl, ?_⟩) (fun h0 h1 => ?_)
  · unfold oM wp_12_twice
    rw [sp_noView, if_neg hn, sp_throws1, if_neg (by decide), m00]
    exact ⟨m0_0 _ _, rAll_m0 h⟩
  obtain ⟨l1, l2, l3, l4, -⟩ := r_list hs h0 h1
  have H : ∀ i, ∃ f : Int → Int, ∀ j, 0 ≤ j → j < i → i < C 346 (298 + 2114 * v) → (f j = 0 ∨ f j = 1) ∧ jDet (wp_4_isSeenAlike 36 (51 + 72 * v) i j C) (f j) ∧ ∀ C' : jC, C' 346 = C 346 → jDet (wp_12_areTwins v i j C') (f j) := by
    intro i
    have H2 : ∀ j, ∃ x, 0 ≤ j → j < i → i < C 346 (298 + 2114 * v) → (x = 0 ∨ x = 1) ∧ jDet (wp_4_isSeenAlike 36 (51 + 72 * v) i j C) x ∧ ∀ C' : jC, C' 346 = C 346 → jDet (wp_12_areTwins v i j C') x := by
      intro j
      by_cases hj : 0 ≤ j ∧ j < i ∧ i < C 346 (298 + 2114 * v)
      · obtain ⟨x, hx⟩ := sp_twins hs h0 h1 (show 0 ≤ i by omega) hj.2.2 hj.1 (show j < C 346 (298 + 2114 * v) by omega)
        exact ⟨x, fun _ _ _ => hx⟩
      · exact ⟨0, fun a b c => absurd ⟨a, b, c⟩ hj⟩
    exact Classical.skolem.mp H2
  obtain ⟨t, ht⟩ := Classical.skolem.mp H
  unfold wp_4_repeatedBits
  refine jL2_of (fun x k => 1 ≤ k ∧ (k ≤ C 346 (298 + 2114 * v) ∨ k = 1) ∧ x = jFold (jTwo t) 0 k.toNat) (fun _ k => (C 346 (298 + 2114 * v) - k).toNat) (fun Q x k hi hk => ?_) ⟨by omega, by omega, rfl⟩
  obtain ⟨i0, i1, i2⟩ := hi
  unfold wp_4_repeatedBits_5
  rw [sp_length, l1]
  by_cases a : C 346 (298 + 2114 * v) ≤ k
  · rw [if_pos a]
    unfold oR wp_12_twice
    dsimp only
    rw [sp_noView, if_pos ⟨h0, h1⟩, sp_throws0, if_pos rfl]
    have ex : x = jFold (jTwo t) 0 (C 346 (298 + 2114 * v)).toNat := by
      rcases i1 with z | z
      · rw [i2, show k = C 346 (298 + 2114 * v) by omega]
      · by_cases e : C 346 (298 + 2114 * v) = 1
        · rw [i2, e, z]
        · rw [i2, z, show C 346 (298 + 2114 * v) = 0 by omega]; rfl
    refine jL2_of (fun x k => 0 ≤ k ∧ k ≤ C 346 (298 + 2114 * v) ∧ x = jFold (jTwo t) 0 k.toNat) (fun _ k => (C 346 (298 + 2114 * v) - k).toNat) (fun Q' x' k' hi' hk' => ?_) ⟨by omega, by omega, rfl⟩
    obtain ⟨j0, j1, j2⟩ := hi'
    unfold wp_12_twice_23
    rw [sp_vsize h0 h1, m0_w]
    by_cases a' : C 346 (298 + 2114 * v) ≤ k'
    · rw [if_pos a']
      refine ⟨m0_0 _ _, ?_, rAll_m0 h⟩
      rw [ex, j2, show k' = C 346 (298 + 2114 * v) by omega]
    · rw [if_neg a']
      refine jL2_of (fun y j => 0 ≤ j ∧ j ≤ k' ∧ y = jFold (jTw t k') x' j.toNat) (fun _ j => (k' - j).toNat) (fun Q2 y j hi2 hk2 => ?_) ⟨by omega, by omega, rfl⟩
      obtain ⟨b0, b1, b2⟩ := hi2
      unfold wp_12_twice_38
      by_cases c : k' ≤ j
      · rw [if_pos c]
        refine ⟨⟨by omega, by omega⟩, hk' _ _ ⟨by omega, by omega, ?_⟩ (by omega)⟩
        rw [jFold_s j0, jTwo, ← j2, b2, show j = k' by omega]
      · rw [if_neg c]
        obtain ⟨g1, -, g3⟩ := ht k' j b0 (by omega) (by omega)
        refine g3 _ (m0_w C 0) _ ?_
        have ry : jRng y := by rw [b2]; exact jTw_rng (j2 ▸ jTwo_rng _) _
        by_cases z : t k' j = 0
        · rw [if_pos z, jOr_0 ry]
          refine hk2 _ _ ⟨by omega, by omega, ?_⟩ (by omega)
          rw [jFold_s b0, jTw, if_neg (by omega), b2]
        · rw [if_neg z]
          refine hk2 _ _ ⟨by omega, by omega, ?_⟩ (by omega)
          rw [jFold_s b0, jTw, if_pos (by omega), b2]
  · rw [if_neg a]
    refine jL2_of (fun y j => 0 ≤ j ∧ j ≤ k ∧ y = jFold (jTw t k) x j.toNat) (fun _ j => (k - j).toNat) (fun Q2 y j hi2 hk2 => ?_) ⟨by omega, by omega, rfl⟩
    obtain ⟨b0, b1, b2⟩ := hi2
    unfold wp_4_repeatedBits_20
    by_cases c : k ≤ j
    · rw [if_pos c]
      refine ⟨⟨by omega, by omega⟩, hk _ _ ⟨by omega, by omega, ?_⟩ (by omega)⟩
      rw [jFold_s (show 0 ≤ k by omega), jTwo, ← i2, b2, show j = k by omega]
    · rw [if_neg c]
      obtain ⟨g1, g2, -⟩ := ht k j b0 (by omega) (by omega)
      refine g2 _ ?_
      by_cases z : t k j = 0
      · rw [if_pos z]
        refine hk2 _ _ ⟨by omega, by omega, ?_⟩ (by omega)
        rw [jFold_s b0, jTw, if_neg (by omega), b2]
      · rw [if_neg z]
        refine hk2 _ _ ⟨by omega, by omega, ?_⟩ (by omega)
        rw [jFold_s b0, jTw, if_pos (by omega), b2]

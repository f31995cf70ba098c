-- feed
def jFive (a b c d e : Int) (k : Int) : Int := if k = 0 then a else if k = 1 then b else if k = 2 then c else if k = 3 then d else e
def jFb (a b c d e m : Int) : Int := jShr (jFive a b c d e (m / 4)) (24 - 8 * (m % 4))
theorem jFeed5 {a b c d e n i : Int} {f : Int → Int} (h0 : n ≤ i) (h1 : i < n + 20) : jFeed e (n + 4 + 4 + 4 + 4) (jFeed d (n + 4 + 4 + 4) (jFeed c (n + 4 + 4) (jFeed b (n + 4) (jFeed a n f)))) i = jAnd (jFb a b c d e (i - n)) 255 := by
  obtain ⟨m, hm⟩ : ∃ m, m = i - n := ⟨_, rfl⟩
  have hi : i = n + m := by omega
  subst hi
  rw [show n + m - n = m by omega]
  have cs : m = 0 ∨ m = 1 ∨ m = 2 ∨ m = 3 ∨ m = 4 ∨ m = 5 ∨ m = 6 ∨ m = 7 ∨ m = 8 ∨ m = 9 ∨ m = 10 ∨ m = 11 ∨ m = 12 ∨ m = 13 ∨ m = 14 ∨ m = 15 ∨ m = 16 ∨ m = 17 ∨ m = 18 ∨ m = 19 := by omega
  have z : ∀ x y : Int, (n + x = n + y) = (x = y) := fun x y => propext ⟨fun q => by omega, fun q => by omega⟩
  have z0 : ∀ x : Int, (n + x = n) = (x = 0) := fun x => propext ⟨fun q => by omega, fun q => by omega⟩
  unfold jFeed jFb jFive
  simp only [Int.add_assoc, z, z0, Int.reduceAdd]
  rcases cs with rfl | rfl | rfl | rfl | rfl | rfl | rfl | rfl | rfl | rfl | rfl | rfl | rfl | rfl | rfl | rfl | rfl | rfl | rfl | rfl <;> simp
theorem jFeed5_lt {a b c d e n i : Int} {f : Int → Int} (h0 : i < n) : jFeed e (n + 4 + 4 + 4 + 4) (jFeed d (n + 4 + 4 + 4) (jFeed c (n + 4 + 4) (jFeed b (n + 4) (jFeed a n f)))) i = f i := by
  unfold jFeed
  simp only [show ¬ i = n + 4 + 4 + 4 + 4 by omega, show ¬ i = n + 4 + 4 + 4 + 4 + 1 by omega, show ¬ i = n + 4 + 4 + 4 + 4 + 2 by omega, show ¬ i = n + 4 + 4 + 4 + 4 + 3 by omega, show ¬ i = n + 4 + 4 + 4 by omega, show ¬ i = n + 4 + 4 + 4 + 1 by omega, show ¬ i = n + 4 + 4 + 4 + 2 by omega, show ¬ i = n + 4 + 4 + 4 + 3 by omega, show ¬ i = n + 4 + 4 by omega, show ¬ i = n + 4 + 4 + 1 by omega, show ¬ i = n + 4 + 4 + 2 by omega, show ¬ i = n + 4 + 4 + 3 by omega, show ¬ i = n + 4 by omega, show ¬ i = n + 4 + 1 by omega, show ¬ i = n + 4 + 2 by omega, show ¬ i = n + 4 + 3 by omega, show ¬ i = n by omega, show ¬ i = n + 1 by omega, show ¬ i = n + 2 by omega, show ¬ i = n + 3 by omega, if_false]
theorem sp_mfeed {C : jC} {a b c d e n : Int} {post : Int → jC → Prop} (hn : C 345 6 = n) (h0 : 0 ≤ n) (h1 : n + 20 ≤ 400) (y : ∀ C1 : jC, (∀ q, q ≠ 345 → q ≠ 349 → q ≠ 350 → C1 q = C q) → (∀ j, j ≠ 0 → j ≠ 6 → C1 345 j = C 345 j) → C1 345 0 = 0 → C1 345 6 = n + 20 → (∀ i, C1 349 i = if n ≤ i ∧ i < n + 20 then jByte (jByte (jFb a b c d e (i - n))) else C 349 i) → post (n + 20) C1) : wp_12_feed a b c d e C post := by
  have e6 : jU C 345 0 0 345 6 = n := by rw [jU_at, if_pos rfl, if_neg (by decide)]; exact hn
  unfold wp_12_feed
  rw [e6]
  refine ⟨⟨by omega, by omega⟩, ?_⟩
  rw [if_pos (by omega)]
  refine jL2_of (fun k D => 0 ≤ k ∧ k ≤ 20 ∧ (∀ q, q ≠ 345 → q ≠ 349 → q ≠ 350 → D q = C q) ∧ (∀ j, j ≠ 0 → D 345 j = C 345 j) ∧ D 345 0 = 0 ∧ (∀ j, 0 ≤ j → j < 5 → D 350 j = jFive a b c d e j) ∧ (∀ i, D 349 i = if n ≤ i ∧ i < n + k then jByte (jByte (jFb a b c d e (i - n))) else C 349 i)) (fun k _ => (20 - k).toNat) (fun Q k D hi hk => ?_) ⟨by omega, by omega, fun q q1 q2 q3 => ?_, fun j j0 => ?_, ?_, fun j j0 j1 => ?_, fun i => ?_⟩
  · obtain ⟨a0, a1, a2, a3, a4, a5, a6⟩ := hi
    have d6 : D 345 6 = n := by rw [a3 6 (by decide)]; exact hn
    unfold wp_12_feed_60
    by_cases z : 20 ≤ k
    · rw [if_pos z, d6]
      have e1 : jU D 345 6 (n + 20) 345 6 = n + 20 := by rw [jU_at, if_pos rfl, if_pos rfl]
      rw [e1]
      refine ⟨⟨by omega, by omega⟩, y _ (fun q q1 q2 q3 => ?_) (fun j j0 j6 => ?_) ?_ e1 (fun i => ?_)⟩
      · rw [jU_ne q1]; exact a2 q q1 q2 q3
      · rw [jU_at, if_pos rfl, if_neg j6]; exact a3 j j0
      · rw [jU_at, if_pos rfl, if_neg (by decide)]; exact a4
      · rw [jU_ne (by decide), a6, show k = 20 by omega]
    · rw [if_neg z, d6, tdiv_nn a0, tmod_nn a0, a5 (k / 4) (by omega) (by omega)]
      refine ⟨by omega, by omega, by omega, by omega, hk _ _ ⟨by omega, by omega, fun q q1 q2 q3 => ?_, fun j j0 => ?_, ?_, fun j j0 j1 => ?_, fun i => ?_⟩ (by omega)⟩
      · rw [jU_ne q2]; exact a2 q q1 q2 q3
      · rw [jU_ne (by decide)]; exact a3 j j0
      · rw [jU_ne (by decide)]; exact a4
      · rw [jU_ne (by decide)]; exact a5 j j0 j1
      · rw [jU_at, if_pos rfl, a6]
        by_cases q : i = n + k
        · rw [if_pos q, if_pos (by omega), q, show n + k - n = k by omega]; rfl
        · rw [if_neg q]
          by_cases q2 : n ≤ i ∧ i < n + k
          · rw [if_pos q2, if_pos (by omega)]
          · rw [if_neg q2, if_neg (by omega)]
  · rw [jU_ne q3, jU_ne q3, jU_ne q3, jU_ne q3, jU_ne q3, jU_ne q1]
  · rw [jU_ne (by decide), jU_ne (by decide), jU_ne (by decide), jU_ne (by decide), jU_ne (by decide), jU_at, if_pos rfl, if_neg j0]
  · rw [jU_ne (by decide), jU_ne (by decide), jU_ne (by decide), jU_ne (by decide), jU_ne (by decide), m0_0]
  · unfold jFive
    simp only [jU_at, if_true]
    grind
  · rw [jU_ne (by decide), jU_ne (by decide), jU_ne (by decide), jU_ne (by decide), jU_ne (by decide), jU_ne (by decide), if_neg (by omega)]
theorem op_feed {C : jC} {K a b c d e : Int} (h : rAll C K) : wp_11_feed a b c d e C (fun r C1 => oR (wp_12_feed a b c d e) K r C1) := by
  obtain ⟨a1, a2, a3, a4, a5, a6, a7, a8⟩ := id h
  unfold wp_11_feed
  refine ⟨⟨by omega, by omega⟩, ?_⟩
  by_cases z : C 1 1 + 20 ≤ 400
  · rw [if_pos z]
    refine sp_takeIn (by omega) (by omega) (fun C1 p1 p2 p3 p4 => ?_)
    refine sp_takeIn (by omega) (by omega) (fun C2 q1 q2 q3 q4 => ?_)
    refine sp_takeIn (by omega) (by omega) (fun C3 r1 r2 r3 r4 => ?_)
    refine sp_takeIn (by omega) (by omega) (fun C4 s1 s2 s3 s4 => ?_)
    refine sp_takeIn (by omega) (by omega) (fun C5 t1 t2 t3 t4 => ?_)
    have k1 : ∀ b, b ≠ 1 → b ≠ 2 → C5 b = C b := fun b b1 b2 => by rw [t1 b b1 b2, s1 b b1 b2, r1 b b1 b2, q1 b b1 b2, p1 b b1 b2]
    have k2 : ∀ j, j ≠ 1 → C5 1 j = C 1 j := fun j j1 => by rw [t2 j j1, s2 j j1, r2 j j1, q2 j j1, p2 j j1]
    have k4 : C5 2 = jFeed e (C 345 6 + 4 + 4 + 4 + 4) (jFeed d (C 345 6 + 4 + 4 + 4) (jFeed c (C 345 6 + 4 + 4) (jFeed b (C 345 6 + 4) (jFeed a (C 345 6) (C 2))))) := by
      rw [t4, s4, r4, q4, p4, s3, r3, q3, p3, a1]
    unfold oR
    refine sp_mfeed (n := C 345 6) (by rw [k1 345 (by decide) (by decide)]) a2 (by omega) (fun D d1 d2 d3 d4 d5 => ?_)
    refine ⟨d3, by omega, ?_⟩
    have k5 : ∀ b, b ≠ 1 → b ≠ 2 → b ≠ 345 → b ≠ 349 → b ≠ 350 → D b = C b := fun b b1 b2 b3 b4 b5 => by rw [d1 b b3 b4 b5, k1 b b1 b2]
    have k6 : ∀ j, D 1 j = C5 1 j := fun j => by rw [d1 1 (by decide) (by decide) (by decide)]
    unfold rAll
    rw [k6, k6, d4, k2 4 (by decide), d2 4 (by decide) (by decide), d2 11 (by decide) (by decide), k1 345 (by decide) (by decide), k5 346 (by decide) (by decide) (by decide) (by decide) (by decide), k5 347 (by decide) (by decide) (by decide) (by decide) (by decide), k5 0 (by decide) (by decide) (by decide) (by decide) (by decide)]
    have kk : ∀ a, (a = 35 ∨ a = 357) → ∀ b, rOwn a b → D b = C b := by
      intro a ha b hb
      unfold rOwn at hb
      exact k5 b (by omega) (by omega) (by omega) (by omega) (by omega)
    refine ⟨by omega, by omega, by omega, fun i i0 i1 => ?_, a5, rS_keep (kk 35 (Or.inl rfl)) a6, a7, ?_⟩
    · rw [d5, d1 2 (by decide) (by decide) (by decide), k4, k1 349 (by decide) (by decide)]
      by_cases y : i < C 345 6
      · rw [if_neg (by omega), jFeed5_lt y]
        exact a4 i i0 y
      · rw [if_pos (by omega), jFeed5 (by omega) (by omega)]
        have jb := jByte_b (show jRng (jFb a b c d e (i - C 345 6)) from jShr_r _ _)
        refine ⟨?_, ?_, jByte_ub (jShr_r _ _)⟩
        · rw [jByte_id jb.1 jb.2]; exact jb.1
        · rw [jByte_id jb.1 jb.2]; exact jb.2
    · rcases a8 with w | ⟨w1, w2, w3, w4⟩
      · exact Or.inl w
      · exact Or.inr ⟨w1, w2, rS_keep (kk 357 (Or.inr rfl)) w3, w4⟩
  · rw [if_neg z]
    unfold oR wp_12_feed
    have e6 : jU C 345 0 0 345 6 = C 345 6 := by rw [jU_at, if_pos rfl, if_neg (by decide)]
    dsimp only
    rw [e6]
    refine ⟨⟨by omega, by omega⟩, ?_⟩
    rw [if_neg (by omega)]
    exact ⟨m0_0 _ _, rfl, rAll_m0 h⟩

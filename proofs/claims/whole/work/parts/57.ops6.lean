-- between, unlike
theorem r_oplace {C : jC} {w : Int → Int} (h : rS 35 C w) {s r r' : Int} (s0 : 0 ≤ s) (s1 : s < 24) (hl : rLive C 35 s) (hr : jFst (fun j => C 42 j = s) (C 41 1) r) (hr' : jFst (fun j => w (274 + j) = C 38 s) (w 273) r') : r = r' := by
  obtain ⟨o1, o2, o3, o4, -⟩ := r_ord h
  rw [o1] at hr
  refine jFst_uniq (jFst_congr (fun j j0 j1 => ?_) hr) hr'
  obtain ⟨a1, a2, a3⟩ := o4 j j0 j1
  rw [a3]
  constructor
  · intro e; rw [e]
  · intro e
    have := h.2.2.2.1.2.2 _ _ a1 a2 s0 s1 ⟨j, j0, by simp only [Int.reduceAdd]; omega, rfl⟩ hl
    simp only [Int.reduceAdd] at this
    exact this e
theorem r_oin {C : jC} {w : Int → Int} (h : rS 35 C w) {s r : Int} (hl : rLive C 35 s) (hr : jFst (fun j => C 42 j = s) (C 41 1) r) : 0 ≤ r ∧ r < w 273 := by
  obtain ⟨o1, o2, o3, o4, -⟩ := r_ord h
  obtain ⟨i, i0, i1, i2⟩ := hl
  simp only [Int.reduceAdd] at i1 i2
  rcases hr with ⟨a0, a1, -⟩ | ⟨a0, a1⟩
  · exact ⟨a0, by omega⟩
  · exact absurd i2 (a1 i i0 i1)
theorem op_between {C : jC} {K v i j : Int} (h : rAll C K) : wp_11_between v i j C (fun E C1 => (E = jIOB ∧ oM (wp_12_between v i j) K 1 C1) ∨ (E = jIAE ∧ oM (wp_12_between v i j) K 2 C1)) (fun r => oR (wp_12_between v i j) K r C) := by
  have hs := r_now h
  have no : ∀ post : Int → jC → Prop, post 0 (jU C 345 0 1) → wp_12_between_31 v i j (jU C 345 0 0) post := by
    intro post y
    unfold wp_12_between_31
    rw [sp_throws1, if_neg (by decide), m00]
    exact y
  unfold wp_11_between
  refine sp_viewNumbered (fun hn => Or.inl ⟨rfl, ?_⟩) (fun h0 h1 => ?_)
  · unfold oM wp_12_between
    rw [sp_noView1 hn, if_neg (by decide)]
    exact no _ ⟨m0_0 _ _, rAll_m0 h⟩
  obtain ⟨l1, l2, l3, l4, -⟩ := r_list hs h0 h1
  obtain ⟨o1, o2, o3, o4, -⟩ := r_ord hs
  have P : ∀ k (post : Int → Prop), wp_12_noPlace v k (jU C 345 0 0) post = post (if 0 ≤ k ∧ k < C 346 (298 + 2114 * v) then 0 else 1) := by
    intro k post
    rw [sp_noPlace h0 h1 (by rw [m0_w]; exact l2) (by rw [m0_w]; exact l3), m0_w]
  refine sp_seatAtPlace (by omega) (fun k a b => (l4 k a (by omega)).1) (fun hn => Or.inl ⟨rfl, ?_⟩) (fun i0 i1 => ?_)
  · unfold oM wp_12_between
    rw [sp_noView0 h0 h1, if_pos rfl, P, if_neg (show ¬ (if 0 ≤ i ∧ i < C 346 (298 + 2114 * v) then (0 : Int) else 1) = 0 by rw [if_neg (by omega)]; decide)]
    exact no _ ⟨m0_0 _ _, rAll_m0 h⟩
  refine sp_seatAtPlace (by omega) (fun k a b => (l4 k a (by omega)).1) (fun hn => Or.inl ⟨rfl, ?_⟩) (fun j0 j1 => ?_)
  · unfold oM wp_12_between
    rw [sp_noView0 h0 h1, if_pos rfl, P, if_pos (show (if 0 ≤ i ∧ i < C 346 (298 + 2114 * v) then (0 : Int) else 1) = 0 by rw [if_pos (by omega)]), P, if_neg (show ¬ (if 0 ≤ j ∧ j < C 346 (298 + 2114 * v) then (0 : Int) else 1) = 0 by rw [if_neg (by omega)]; decide)]
    exact no _ ⟨m0_0 _ _, rAll_m0 h⟩
  have mo : ∀ post : Int → jC → Prop, (i = j → post 0 (jU C 345 0 2)) → (i ≠ j → wp_12_between_54 0 v i j (jU C 345 0 0) post) → wp_12_between v i j C post := by
    intro post y1 y0
    unfold wp_12_between
    rw [sp_noView0 h0 h1, if_pos rfl, P, if_pos (show (if 0 ≤ i ∧ i < C 346 (298 + 2114 * v) then (0 : Int) else 1) = 0 by rw [if_pos (by omega)]), P, if_pos (show (if 0 ≤ j ∧ j < C 346 (298 + 2114 * v) then (0 : Int) else 1) = 0 by rw [if_pos (by omega)]), sp_throws0, if_pos rfl]
    by_cases e : i = j
    · rw [if_pos e]
      unfold wp_12_between_54
      rw [sp_throws1, if_neg (by decide), m00]
      exact y1 e
    · rw [if_neg e]; exact y0 e
  by_cases e : i = j
  · rw [if_pos e]
    exact Or.inr ⟨rfl, mo _ (fun _ => ⟨m0_0 _ _, rAll_m0 h⟩) (fun z => absurd e z)⟩
  rw [if_neg e]
  obtain ⟨a1, a2, a3, a4⟩ := l4 i i0 (by omega)
  obtain ⟨b1, b2, b3, b4⟩ := l4 j j0 (by omega)
  unfold wp_4_unseenBetween
  refine sp_placeOf (by omega) (fun p hp => ?_)
  refine sp_placeOf (by omega) (fun q hq => ?_)
  simp only [Int.reduceAdd] at hp hq
  obtain ⟨p0, p1⟩ := r_oin hs a4 hp
  obtain ⟨q0, q1⟩ := r_oin hs b4 hq
  refine ⟨⟨by omega, by omega⟩, ?_⟩
  have live : ∀ k, 0 ≤ k → k < C 346 273 → rLive C 35 (C 42 k) := fun k a b => ⟨k, a, by simp only [Int.reduceAdd]; omega, rfl⟩
  have H2 : ∀ k, ∃ r, jFst (fun j => C (51 + 72 * v + 29 + 1) j = C 42 k) (C (51 + 72 * v + 29) 1) r := fun k => jFst_ex _ _ (by omega)
  obtain ⟨π, hπ⟩ := Classical.skolem.mp H2
  obtain ⟨ρ, hρ⟩ := jChi (fun k => π (min p q + 1 + k) = -1)
  have R : ∀ n : Nat, 0 ≤ jFold (jCnt ρ) 0 n ∧ jFold (jCnt ρ) 0 n ≤ n := by
    intro n
    have := jCnt_rng (fun i => (hρ i).1) (show (0 : Int) ≤ n by omega)
    simpa using this
  refine jL2_of (fun x k => min p q + 1 ≤ k ∧ k ≤ max p q ∧ x = jFold (jCnt ρ) 0 (k - (min p q + 1)).toNat) (fun _ k => (max p q - k).toNat) (fun Q x k hi hk => ?_) ⟨by omega, ?_, by rw [Int.sub_self]; rfl⟩
  · obtain ⟨i0', i1', i2⟩ := hi
    have rg := R (k - (min p q + 1)).toNat
    unfold wp_4_unseenBetween_29
    by_cases a : max p q ≤ k
    · rw [if_pos a]
      unfold oR
      refine mo _ (fun z => absurd z e) (fun _ => ?_)
      unfold wp_12_between_54
      rw [sp_throws0, if_pos rfl, sp_listOf h0 h1]
      refine sp_mkeyAt (by omega) (by omega) ?_
      rw [m0_w, a3]
      refine sp_placeIn (by omega) (by rw [m0_w]; omega) (by omega) (fun p' hp' => ?_)
      rw [m0_w] at hp'
      have ep := r_oplace hs a1 a2 a4 hp hp'
      subst ep
      refine sp_mkeyAt (by omega) (by omega) ?_
      rw [m0_w, b3]
      refine sp_placeIn (by omega) (by rw [m0_w]; omega) (by omega) (fun q' hq' => ?_)
      rw [m0_w] at hq'
      have eq := r_oplace hs b1 b2 b4 hq hq'
      subst eq
      refine ⟨⟨by omega, by omega⟩, ?_⟩
      refine jL2_of (fun x k => min p q + 1 ≤ k ∧ k ≤ max p q ∧ x = jFold (jCnt ρ) 0 (k - (min p q + 1)).toNat) (fun _ k => (max p q - k).toNat) (fun Q' x' k' hi' hk' => ?_) ⟨by omega, by omega, by rw [Int.sub_self]; rfl⟩
      obtain ⟨c0, c1, c2⟩ := hi'
      have rg' := R (k' - (min p q + 1)).toNat
      unfold wp_12_between_115
      by_cases a' : max p q ≤ k'
      · rw [if_pos a']
        refine ⟨m0_0 _ _, ?_, rAll_m0 h⟩
        rw [c2, i2, show k' = k by omega]
      · rw [if_neg a']
        obtain ⟨d1, d2, d3⟩ := o4 k' (by omega) (by omega)
        refine sp_mkeyAt (by omega) (by omega) ?_
        rw [m0_w, show (273 : Int) + 1 + k' = 274 + k' by omega, d3]
        refine sp_placeIn (by omega) (by rw [m0_w]; omega) (by omega) (fun z hz => ?_)
        rw [m0_w] at hz
        have ez := r_place hs h0 h1 d1 d2 (live k' (by omega) (by omega)) (hπ k') hz
        have ch := hρ (k' - (min p q + 1))
        rw [show min p q + 1 + (k' - (min p q + 1)) = k' by omega] at ch
        by_cases y : z = -1
        · rw [if_pos y]
          have := ch.2.mpr (by omega)
          refine ⟨⟨by omega, by omega⟩, hk' _ _ ⟨by omega, by omega, ?_⟩ (by omega)⟩
          rw [jFold_p c0, jCnt, this, c2]
        · rw [if_neg y]
          have : ρ (k' - (min p q + 1)) = 0 := by
            rcases ch.1 with g | g
            · exact g
            · have := ch.2.mp g; omega
          refine hk' _ _ ⟨by omega, by omega, ?_⟩ (by omega)
          rw [jFold_p c0, jCnt, this, c2]
    · rw [if_neg a, sp_at]
      have ea : jAt C 41 k = C 42 k := by unfold jAt; rw [if_pos (by omega)]; rfl
      rw [ea]
      refine sp_holds (by omega) (fun z hz => ?_)
      have ez := jFst_uniq hz (hπ k)
      have ch := hρ (k - (min p q + 1))
      rw [show min p q + 1 + (k - (min p q + 1)) = k by omega] at ch
      by_cases y : z = -1
      · rw [if_pos y, if_pos rfl]
        have := ch.2.mpr (by omega)
        refine ⟨⟨by omega, by omega⟩, hk _ _ ⟨by omega, by omega, ?_⟩ (by omega)⟩
        rw [jFold_p i0', jCnt, this, i2]
      · rw [if_neg y, if_neg (by decide)]
        have : ρ (k - (min p q + 1)) = 0 := by
          rcases ch.1 with g | g
          · exact g
          · have := ch.2.mp g; omega
        refine hk _ _ ⟨by omega, by omega, ?_⟩ (by omega)
        rw [jFold_p i0', jCnt, this, i2, Int.add_zero]
  · have : p ≠ q := by
      intro z
      rcases hp with ⟨-, -, g1, -⟩ | ⟨g, -⟩
      · rcases hq with ⟨-, -, g2, -⟩ | ⟨g, -⟩
        · rw [← z] at g2
          obtain ⟨-, -, -, -, l5⟩ := r_list hs h0 h1
          have g3 : C (51 + 72 * v + 29 + 1) i = C (51 + 72 * v + 29 + 1) j := by rw [← g1, ← g2]
          by_cases y : i < j
          · exact l5 i j i0 y (by omega) g3
          · exact l5 j i j0 (by omega) (by omega) g3.symm
        · omega
      · omega
    omega

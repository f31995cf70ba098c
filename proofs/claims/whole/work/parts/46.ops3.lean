theorem sp_seatOfKey {key : Int} {C : jC} {ex : String → jC → Prop} {post : Int → Prop} {K : Int} (hr : rAll C K) (h1 : ∀ r, jFst (fun j => C 38 (C 42 j) = key) (C 41 1) r → r = -1 → ex jIOB C) (h2 : ∀ r, jFst (fun j => C 38 (C 42 j) = key) (C 41 1) r → 0 ≤ r → r < C 41 1 → 0 ≤ C 42 r → C 42 r < 24 → post (C 42 r)) : wp_11_seatOfKey key C ex post := by
  obtain ⟨o1, o2, o3, o4, -⟩ := r_ord (r_now hr)
  unfold wp_11_seatOfKey
  refine sp_seatOf (a := 36) ?_ (fun i i0 i1 => ?_) (fun r hf => ?_)
  · simp only [Int.reduceAdd]; omega
  · simp only [Int.reduceAdd] at i1 ⊢
    have := o4 i i0 (by omega)
    exact ⟨this.1, this.2.1⟩
  · simp only [Int.reduceAdd] at hf ⊢
    by_cases hn : r = -1
    · rw [if_pos hn, if_pos rfl]; exact h1 r hf hn
    · rcases id hf with ⟨a1, a2, -, -⟩ | ⟨a1, -⟩
      · have := o4 r a1 (by omega)
        rw [if_neg hn, if_neg (by omega)]
        exact h2 r hf a1 a2 this.1 this.2.1
      · exact absurd a1 hn
/-- the model's row of a key that the class has not -/
theorem r_none {C : jC} {K key r r' x : Int} (h : rAll C K) (h1 : jFst (fun j => C 38 (C 42 j) = key) (C 41 1) r) (h2 : jFst (fun j => 0 ≤ key ∧ jU C 345 0 x 346 (9 + 11 * j) = key) 24 r') (hn : r = -1) : r' = -1 := by
  rw [m0_w] at h2
  have := r_row (a := 35) (r_now h) (key := key) (r := r) (r' := r') (by simpa using h1) h2
  omega
theorem r_some {C : jC} {K key r r' x : Int} (h : rAll C K) (h1 : jFst (fun j => C 38 (C 42 j) = key) (C 41 1) r) (h2 : jFst (fun j => 0 ≤ key ∧ jU C 345 0 x 346 (9 + 11 * j) = key) 24 r') (hn : 0 ≤ r) : r' = C 42 r ∧ 0 ≤ r' ∧ r' < 24 ∧ C 38 r' = key ∧ 0 ≤ key ∧ rLive C 35 r' := by
  rw [m0_w] at h2
  have := r_row (a := 35) (r_now h) (key := key) (r := r) (r' := r') (by simpa using h1) h2
  rcases this with ⟨a1, -⟩ | ⟨-, -, -, a4, a5, a6, a7, a8, a9⟩
  · omega
  · exact ⟨a4, a5, a6, a7, a8, a9⟩
theorem op_cell {C : jC} {K key c : Int} (h : rAll C K) : wp_11_cell key c C (fun E C1 => E = jIOB ∧ oM (wp_12_cell key c) K 1 C1) (fun r => oR (wp_12_cell key c) K r C) := by
  have hs := r_now h
  obtain ⟨c1, c2, c3, -⟩ := r_cols hs
  unfold wp_11_cell
  refine sp_seatOfKey h (fun r hf hn => ⟨rfl, ?_⟩) (fun r hf r0 r1 s0 s1 => ?_)
  · unfold oM wp_12_cell
    refine sp_rowOf (fun r' hf' => ?_)
    rw [if_pos (r_none h hf hf' hn), if_pos rfl, sp_throws1, if_neg (by decide), m00]
    exact ⟨m0_0 _ _, rAll_m0 h⟩
  · refine sp_needColumn (by omega) (fun hn => ⟨rfl, ?_⟩) (fun h0 h1 => ?_)
    · unfold oM wp_12_cell
      refine sp_rowOf (fun r' hf' => ?_)
      obtain ⟨q1, q2, q3, q4, q5, q6⟩ := r_some h hf hf' r0
      rw [if_neg (show ¬ r' = -1 by omega), if_neg (by omega), sp_noColumn (by rw [m0_w]; exact c2) (by rw [m0_w]; exact c3), m0_w, if_neg (by omega), sp_throws1, if_neg (by decide), m00]
      exact ⟨m0_0 _ _, rAll_m0 h⟩
    · rw [sp_valueAt (by omega), if_pos ⟨⟨s0, s1⟩, h0, h1⟩]
      unfold oR wp_12_cell
      refine sp_rowOf (fun r' hf' => ?_)
      obtain ⟨q1, q2, q3, q4, q5, q6⟩ := r_some h hf hf' r0
      rw [if_neg (show ¬ r' = -1 by omega), if_neg (by omega), sp_noColumn (by rw [m0_w]; exact c2) (by rw [m0_w]; exact c3), m0_w, if_pos (by omega), sp_throws0, if_pos rfl]
      unfold wp_12_cellOf
      refine sp_rowOf (fun r2 hf2 => ?_)
      have e2 := jFst_uniq hf2 hf'
      subst e2
      rw [if_neg (show ¬ r2 = -1 by omega), m0_w]
      have hl := (r_live hs q2 q3 q6).2.2.2 c h0 (by omega)
      refine ⟨by omega, by omega, m0_0 _ _, ?_, rAll_m0 h⟩
      rw [← q1]
      simp only [Int.reduceAdd]
      exact hl.1.symm
theorem op_by {C : jC} {K key c : Int} (h : rAll C K) : wp_11_by key c C (fun E C1 => E = jIOB ∧ oM (wp_12_by key c) K 1 C1) (fun r => oR (wp_12_by key c) K r C) := by
  have hs := r_now h
  obtain ⟨c1, c2, c3, -⟩ := r_cols hs
  unfold wp_11_by
  refine sp_seatOfKey h (fun r hf hn => ⟨rfl, ?_⟩) (fun r hf r0 r1 s0 s1 => ?_)
  · unfold oM wp_12_by
    refine sp_rowOf (fun r' hf' => ?_)
    rw [if_pos (r_none h hf hf' hn), if_pos rfl]
    unfold wp_12_by_28
    rw [sp_throws1, if_neg (by decide), m00]
    exact ⟨m0_0 _ _, rAll_m0 h⟩
  · refine sp_needColumn (by omega) (fun hn => ⟨rfl, ?_⟩) (fun h0 h1 => ?_)
    · unfold oM wp_12_by
      refine sp_rowOf (fun r' hf' => ?_)
      obtain ⟨q1, q2, q3, q4, q5, q6⟩ := r_some h hf hf' r0
      rw [if_neg (show ¬ r' = -1 by omega), if_neg (by omega), sp_noColumn (by rw [m0_w]; exact c2) (by rw [m0_w]; exact c3), m0_w, if_neg (by omega)]
      unfold wp_12_by_28
      rw [sp_throws1, if_neg (by decide), m00]
      exact ⟨m0_0 _ _, rAll_m0 h⟩
    · rw [sp_writerAt (by omega), if_pos ⟨⟨s0, s1⟩, h0, h1⟩]
      unfold oR wp_12_by
      refine sp_rowOf (fun r' hf' => ?_)
      obtain ⟨q1, q2, q3, q4, q5, q6⟩ := r_some h hf hf' r0
      rw [if_neg (show ¬ r' = -1 by omega), if_neg (by omega), sp_noColumn (by rw [m0_w]; exact c2) (by rw [m0_w]; exact c3), m0_w, if_pos (by omega)]
      unfold wp_12_by_28
      rw [sp_throws0, if_pos rfl]
      refine sp_rowOf (fun r2 hf2 => ?_)
      have e2 := jFst_uniq hf2 hf'
      subst e2
      rw [if_neg (show ¬ r2 = -1 by omega), m0_w]
      have hl := (r_live hs q2 q3 q6).2.2.2 c h0 (by omega)
      refine ⟨by omega, by omega, m0_0 _ _, ?_, rAll_m0 h⟩
      rw [← q1]
      simp only [Int.reduceAdd]
      exact hl.2.1.symm
/-- noKey of the model -/
theorem sp_noKey1 {C : jC} {K v key : Int} {post : Int → jC → Prop} (h : post 1 (jU C 345 0 1)) (hn : ¬ (0 ≤ v ∧ v < 4)) : wp_12_noKey v key C post := by
  unfold wp_12_noKey
  rw [sp_noView, if_neg hn, if_neg (by decide), sp_throws1, m00]
  exact ⟨Or.inr rfl, h⟩
theorem sp_noKey2 {C : jC} {K v key r : Int} {post : Int → jC → Prop} (hr : rAll C K) (h0 : 0 ≤ v) (h1 : v < 4) (hf : jFst (fun j => C 38 (C 42 j) = key) (C 41 1) r) (hn : r = -1) (h : post 1 (jU C 345 0 1)) : wp_12_noKey v key C post := by
  unfold wp_12_noKey
  rw [sp_noView, if_pos (show (if 0 ≤ v ∧ v < 4 then (0 : Int) else 1) = 0 by rw [if_pos ⟨h0, h1⟩])]
  refine sp_rowOf (fun r' hf' => ?_)
  rw [if_pos (r_none hr hf hf' hn), if_pos rfl, sp_throws1, m00]
  exact ⟨Or.inr rfl, h⟩
theorem sp_noKey0 {C : jC} {K v key r : Int} {post : Int → jC → Prop} (hr : rAll C K) (h0 : 0 ≤ v) (h1 : v < 4) (hf : jFst (fun j => C 38 (C 42 j) = key) (C 41 1) r) (r0 : 0 ≤ r) (h : C 38 (C 42 r) = key → 0 ≤ key → rLive C 35 (C 42 r) → post 0 (jU C 345 0 0)) : wp_12_noKey v key C post := by
  unfold wp_12_noKey
  rw [sp_noView, if_pos (show (if 0 ≤ v ∧ v < 4 then (0 : Int) else 1) = 0 by rw [if_pos ⟨h0, h1⟩])]
  refine sp_rowOf (fun r' hf' => ?_)
  obtain ⟨q1, q2, q3, q4, q5, q6⟩ := r_some hr hf hf' r0
  rw [if_neg (show ¬ r' = -1 by omega), if_neg (by omega), sp_throws0]
  rw [q1] at q4 q6
  exact ⟨Or.inl rfl, h q4 q5 q6⟩
/-- places of a live row in a list: by seat in the class, by key in the model -/
theorem r_place {C : jC} {w : Int → Int} (h : rS 35 C w) {v s r r' : Int} (h0 : 0 ≤ v) (h1 : v < 4) (s0 : 0 ≤ s) (s1 : s < 24) (hl : rLive C 35 s) (hr : jFst (fun j => C (51 + 72 * v + 29 + 1) j = s) (C (51 + 72 * v + 29) 1) r) (hr' : jFst (fun j => w (298 + 2114 * v + 1 + j) = C 38 s) (w (298 + 2114 * v)) r') : r = r' := by
  obtain ⟨l1, l2, l3, l4, -⟩ := r_list h h0 h1
  rw [l1] at hr
  refine jFst_uniq (jFst_congr (fun j j0 j1 => ?_) hr) hr'
  obtain ⟨a1, a2, a3, a4⟩ := l4 j j0 j1
  rw [a3]
  constructor
  · intro e; rw [e]
  · intro e
    have := h.2.2.2.1.2.2 _ _ a1 a2 s0 s1 a4 hl
    simp only [Int.reduceAdd] at this
    exact this e
theorem op_place {C : jC} {K v key : Int} (h : rAll C K) : wp_11_place v key C (fun E C1 => E = jIOB ∧ oM (wp_12_place v key) K 1 C1) (fun r => oR (wp_12_place v key) K r C) := by
  have hs := r_now h
  unfold wp_11_place
  refine sp_viewNumbered (fun hn => ⟨rfl, ?_⟩) (fun h0 h1 => ?_)
  · unfold oM wp_12_place
    refine sp_noKey1 (K := K) ?_ hn
    rw [if_neg (by decide)]
    exact ⟨m0_0 _ _, rAll_m0 h⟩
  · obtain ⟨l1, l2, l3, l4, -⟩ := r_list hs h0 h1
    refine sp_seatOfKey h (fun r hf hn => ⟨rfl, ?_⟩) (fun r hf r0 r1 s0 s1 => ?_)
    · unfold oM wp_12_place
      refine sp_noKey2 h h0 h1 hf hn ?_
      rw [if_neg (by decide)]
      exact ⟨m0_0 _ _, rAll_m0 h⟩
    · refine sp_placeOf (by omega) (fun p hp => ?_)
      unfold oR wp_12_place
      refine sp_noKey0 h h0 h1 hf r0 (fun k1 k2 k3 => ?_)
      rw [if_pos rfl, sp_listOf h0 h1]
      refine sp_placeIn (by omega) (by rw [m0_w]; omega) (by omega) (fun p' hp' => ?_)
      rw [m0_w] at hp'
      refine ⟨m0_0 _ _, ?_, rAll_m0 h⟩
      exact (r_place hs h0 h1 s0 s1 k3 hp (by rw [k1]; exact hp')).symm
theorem op_end {C : jC} {K x : Int} (h : rAll C K) : wp_11_end x C (fun r C1 => oR (wp_12_end x) K r C1) := by
  obtain ⟨a1, a2, a3, a4, a5, a6, a7, a8⟩ := id h
  have e6 : ∀ D : jC, jU D 345 0 0 345 6 = D 345 6 := fun D => by rw [jU_at, if_pos rfl, if_neg (by decide)]
  unfold wp_11_end
  by_cases h1 : x < 0
  · rw [if_pos h1]
    unfold oR wp_12_end
    dsimp only
    rw [if_pos h1]
    exact ⟨m0_0 _ _, rfl, rAll_m0 h⟩
  · rw [if_neg h1]
    by_cases h2 : x ≤ C 1 1
    · rw [if_pos h2]
      unfold oR wp_12_end
      dsimp only
      have e7 : jU C 1 1 x 345 6 = C 345 6 := by rw [jU_ne (by decide)]
      rw [if_neg h1, e6, e7, if_pos (by omega)]
      refine ⟨by rw [jU_at, if_pos rfl, if_neg (by decide), m0_0], rfl, ?_⟩
      have ek : ∀ b, b ≠ 1 → b ≠ 345 → jU (jU (jU C 1 1 x) 345 0 0) 345 6 x b = C b := fun b b1 b2 => by rw [jU_ne b2, jU_ne b2, jU_ne b1]
      have ek1 : ∀ j, jU (jU (jU C 1 1 x) 345 0 0) 345 6 x 1 j = if j = 1 then x else C 1 j := fun j => by rw [jU_ne (by decide), jU_ne (by decide), jU_at, if_pos rfl]
      have ek2 : ∀ j, jU (jU (jU C 1 1 x) 345 0 0) 345 6 x 345 j = if j = 6 then x else if j = 0 then 0 else C 345 j := fun j => by rw [jU_at, if_pos rfl, jU_at, if_pos rfl, jU_ne (by decide)]
      generalize jU (jU (jU C 1 1 x) 345 0 0) 345 6 x = D at ek ek1 ek2
      unfold rAll
      rw [ek1, ek1, ek2, ek2, ek2, ek 346 (by decide) (by decide), ek 347 (by decide) (by decide), ek 0 (by decide) (by decide)]
      simp only [if_true, if_false, Int.reduceEq]
      refine ⟨trivial, by omega, by omega, ?_, a5, rS_keep (fun b hb => ek b (by unfold rOwn at hb; omega) (by unfold rOwn at hb; omega)) a6, a7, ?_⟩
      · intro i i0 i1
        rw [ek 349 (by decide) (by decide), ek 2 (by decide) (by decide)]
        exact a4 i i0 (by omega)
      · rcases a8 with a8 | ⟨q1, q2, q3, q4⟩
        · exact Or.inl a8
        · exact Or.inr ⟨q1, q2, rS_keep (fun b hb => ek b (by unfold rOwn at hb; omega) (by unfold rOwn at hb; omega)) q3, q4⟩
    · rw [if_neg h2]
      unfold oR wp_12_end
      dsimp only
      rw [if_neg h1, e6, if_neg (by omega)]
      exact ⟨m0_0 _ _, rfl, rAll_m0 h⟩

-- rank
theorem rAll_x {C D : jC} {K : Int} (h : rAll C K) (hd : ∀ b, ¬ (339 ≤ b ∧ b < 346) → ¬ (350 ≤ b ∧ b < 357) → D b = C b) (h5 : ∀ j, j ≠ 0 → D 345 j = C 345 j) : rAll D K := by
  obtain ⟨a1, a2, a3, a4, a5, a6, a7, a8⟩ := h
  unfold rAll
  rw [hd 1 (by omega) (by omega), h5 6 (by decide), h5 11 (by decide), h5 4 (by decide), hd 346 (by omega) (by omega), hd 347 (by omega) (by omega), hd 0 (by omega) (by omega)]
  refine ⟨a1, a2, a3, fun i i0 i1 => ?_, a5, rS_keep (fun b hb => hd b (by unfold rOwn at hb; omega) (by unfold rOwn at hb; omega)) a6, a7, ?_⟩
  · rw [hd 349 (by omega) (by omega), hd 2 (by omega) (by omega)]; exact a4 i i0 i1
  · rcases a8 with w | ⟨w1, w2, w3, w4⟩
    · exact Or.inl w
    · exact Or.inr ⟨w1, w2, rS_keep (fun b hb => hd b (by unfold rOwn at hb; omega) (by unfold rOwn at hb; omega)) w3, w4⟩
theorem sp_rankOf {n key : Int} {C : jC} {post : Int → Prop} (n0 : 0 ≤ n) (n1 : n ≤ 24) (y : ∀ r, jFst (fun j => C 351 j = key) n r → post r) : wp_12_rankOf n key C post := by
  unfold wp_12_rankOf
  refine jL1_of (fun k => 0 ≤ k ∧ k ≤ n ∧ ∀ j, 0 ≤ j → j < k → ¬ C 351 j = key) (fun k => (n - k).toNat) (fun K k hi hk => ?_) ⟨by omega, by omega, fun j a b => by omega⟩
  obtain ⟨i0, i1, i2⟩ := hi
  unfold wp_12_rankOf_2
  by_cases a : n ≤ k
  · rw [if_pos a, if_pos a]
    exact y _ (Or.inr ⟨rfl, fun j j0 j1 => i2 j j0 (by omega)⟩)
  · rw [if_neg a]
    refine ⟨by omega, by omega, ?_⟩
    by_cases e : C 351 k = key
    · rw [if_pos e, if_neg a]
      exact y _ (Or.inl ⟨i0, by omega, e, i2⟩)
    · rw [if_neg e]
      refine hk _ ⟨by omega, by omega, fun j j0 j1 => ?_⟩ (by omega)
      by_cases d : j = k
      · rw [d]; exact e
      · exact i2 j j0 (by omega)
/-- the rank of a live row, in the class's fresh list and in the model's -/
theorem sp_ranks {C : jC} {w : Int → Int} (h : rS 35 C w) {v : Int} {ft : Int → Int} (hf : jFits C w v ft (w 273)) :
    ∃ π : Int → Int, (∀ s, -1 ≤ π s ∧ π s < 24) ∧ (∀ s t, 0 ≤ π s → π s = π t → s = t) ∧ (∀ C1 : jC, C1 340 1 = jFrM ft (w 273) → (∀ i, 0 ≤ i → i < jFrM ft (w 273) → C1 341 i = jFS C w v ft (w 273) i) → ∀ s, jDet (wp_6_placeOf 340 s C1) (π s)) ∧
    (∀ C2 : jC, (∀ i, 0 ≤ i → i < jFrM ft (w 273) → C2 351 i = C 38 (jFS C w v ft (w 273) i)) → ∀ s, 0 ≤ s → s < 24 → rLive C 35 s → jDet (wp_12_rankOf (jFrM ft (w 273)) (C 38 s) C2) (π s)) := by
  obtain ⟨o1, o2, o3, o4, o5⟩ := r_ord h
  obtain ⟨m0, m1, m2, m3⟩ := jFS_ok h o2 (Int.le_refl _) hf
  have H : ∀ s, ∃ r, jFst (fun j => jFS C w v ft (w 273) j = s) (jFrM ft (w 273)) r := fun s => jFst_ex _ _ m0
  obtain ⟨π, hπ⟩ := Classical.skolem.mp H
  refine ⟨π, fun s => ?_, fun s t a b => ?_, fun C1 c1 c2 s post z => ?_, fun C2 c2 s s0 s1 sl post z => ?_⟩
  · rcases hπ s with ⟨a1, a2, -⟩ | ⟨a1, -⟩ <;> omega
  · rcases hπ s with ⟨a1, a2, a3, -⟩ | ⟨a1, -⟩
    · rcases hπ t with ⟨b1, b2, b3, -⟩ | ⟨b1, -⟩
      · rw [← a3, ← b3, b]
      · omega
    · omega
  · refine sp_placeOf (by omega) (fun r hr => ?_)
    simp only [Int.reduceAdd] at hr
    rw [c1] at hr
    rw [jFst_uniq (jFst_congr (fun j j0 j1 => by rw [c2 j j0 j1]) hr) (hπ s)]
    exact z
  · refine sp_rankOf m0 (by omega) (fun r hr => ?_)
    have e : r = π s := by
      refine jFst_uniq (jFst_congr (fun j j0 j1 => ?_) hr) (hπ s)
      rw [c2 j j0 j1]
      obtain ⟨t, t0, t1, t2⟩ := m2 j j0 j1
      obtain ⟨u0, u1, ul⟩ := r_olive h t0 t1
      rw [t2]
      exact ⟨fun e => r_key h u0 u1 ul s0 s1 sl e, fun e => by rw [e]⟩
    rw [e]; exact z
theorem op_rank {C : jC} {K v key : Int} (h : rAll C K) : wp_11_rank v key C (fun E C1 => E = jIOB ∧ oM (wp_12_rank v key) K 1 C1) (fun r C1 => oR (wp_12_rank v key) K r C1) := by
  have hs := r_now h
  unfold wp_11_rank
  refine sp_viewNumbered (fun hn => ⟨rfl, ?_⟩) (fun v0 v1 => ?_)
  · unfold oM wp_12_rank
    refine sp_noKey1 (K := K) ?_ hn
    rw [if_neg (by decide)]
    exact ⟨m0_0 _ _, rAll_m0 h⟩
  · refine sp_seatOfKey h (fun r hf hn => ⟨rfl, ?_⟩) (fun r hf r0 r1 s0 s1 => ?_)
    · unfold oM wp_12_rank
      refine sp_noKey2 h v0 v1 hf hn ?_
      rw [if_neg (by decide)]
      exact ⟨m0_0 _ _, rAll_m0 h⟩
    · unfold wp_4_freshPlace
      refine sp_freshInto hs v0 v1 (fun ft C1 hft c1 c2 c3 => ?_)
      obtain ⟨π, -, -, p1, p2⟩ := sp_ranks hs hft
      refine p1 C1 c2 c3 _ _ ?_
      have h1 : rAll C1 K := rAll_q h (fun b hb => c1 b (by omega) (by omega))
      unfold oR wp_12_rank
      refine sp_noKey0 h1 v0 v1 (r := r) (by rw [c1 38 (by decide) (by decide), c1 42 (by decide) (by decide), c1 41 (by decide) (by decide)]; exact hf) r0 (fun k1 k2 k3 => ?_)
      rw [if_pos rfl]
      refine sp_laysFresh hs v0 v1 hft (by rw [m0_w, c1 346 (by decide) (by decide)]) (fun C2 d1 d2 => ?_)
      rw [c1 38 (by decide) (by decide), c1 42 (by decide) (by decide)] at k1
      rw [← k1]
      refine p2 C2 d2 _ s0 s1 (r_olive hs r0 (by rw [← (r_ord hs).1]; exact r1)).2.2 _ ?_
      refine ⟨by rw [d1 345 (by decide)]; exact m0_0 _ _, rfl, rAll_x h1 (fun b b1 b2 => ?_) (fun j hj => ?_)⟩
      · rw [d1 b (by omega), jU_ne (by omega)]
      · rw [d1 345 (by decide), jU_at, if_pos rfl, if_neg hj]

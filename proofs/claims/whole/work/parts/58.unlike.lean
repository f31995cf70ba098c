-- unlike: pairs that stand the other way round
def jTurn (π : Int → Int) (i j x : Int) : Int := if π i ≠ -1 ∧ π j ≠ -1 ∧ π j < π i then x + 1 else x
/-- the pairs of i and a later place below n, from j on -/
def jTurnI (π : Int → Int) (n i x : Int) : Int := jFold (fun k y => jTurn π i (i + 1 + k) y) x (n - (i + 1)).toNat
theorem jTurn_rng {π : Int → Int} {i x : Int} (m : Nat) : x ≤ jFold (fun k y => jTurn π i (i + 1 + k) y) x m ∧ jFold (fun k y => jTurn π i (i + 1 + k) y) x m ≤ x + m := by
  induction m with
  | zero => exact (show x ≤ x ∧ x ≤ x + ((0 : Nat) : Int) by omega)
  | succ m ih =>
    show x ≤ jTurn π i (i + 1 + m) (jFold (fun k y => jTurn π i (i + 1 + k) y) x m) ∧ jTurn π i (i + 1 + m) (jFold (fun k y => jTurn π i (i + 1 + k) y) x m) ≤ x + ((m + 1 : Nat) : Int)
    generalize jFold (fun k y => jTurn π i (i + 1 + k) y) x m = F at ih ⊢
    unfold jTurn
    split <;> omega
theorem jTurnI_rng {π : Int → Int} {n : Int} (n24 : n ≤ 24) (m : Nat) : 0 ≤ jFold (jTurnI π n) 0 m ∧ jFold (jTurnI π n) 0 m ≤ 24 * m := by
  induction m with
  | zero => exact (show (0 : Int) ≤ 0 ∧ (0 : Int) ≤ 24 * ((0 : Nat) : Int) by omega)
  | succ m ih =>
    show 0 ≤ jTurnI π n m (jFold (jTurnI π n) 0 m) ∧ jTurnI π n m (jFold (jTurnI π n) 0 m) ≤ _
    unfold jTurnI
    have := jTurn_rng (π := π) (i := m) (x := jFold (jTurnI π n) 0 m) (n - (m + 1)).toNat
    unfold jTurnI at this ih
    omega
theorem jTurnI_no {π : Int → Int} {n i x : Int} (h : π i = -1) : jTurnI π n i x = x := by
  unfold jTurnI
  have key : ∀ m : Nat, jFold (fun k y => jTurn π i (i + 1 + k) y) x m = x := by
    intro m
    induction m with
    | zero => rfl
    | succ m ih =>
      show jTurn π i (i + 1 + m) (jFold (fun k y => jTurn π i (i + 1 + k) y) x m) = x
      rw [ih, jTurn, if_neg (fun z => z.1 h)]
  exact key _
theorem op_unlike {C : jC} {K v u : Int} (h : rAll C K) : wp_11_unlike v u C (fun E C1 => (E = jIOB ∧ oM (wp_12_unlike v u) K 1 C1) ∨ (E = jIAE ∧ oM (wp_12_unlike v u) K 2 C1)) (fun r => oR (wp_12_unlike v u) K r C) := by
  have hs := r_now h
  unfold wp_11_unlike
  refine sp_viewNumbered (fun hn => Or.inl ⟨rfl, ?_⟩) (fun h0 h1 => ?_)
  · unfold oM wp_12_unlike
    rw [sp_noView1 hn, if_neg (by decide)]
    unfold wp_12_unlike_25
    rw [sp_throws1, if_neg (by decide), m00]
    exact ⟨m0_0 _ _, rAll_m0 h⟩
  refine sp_viewNumbered (fun hn => Or.inl ⟨rfl, ?_⟩) (fun u0 u1 => ?_)
  · unfold oM wp_12_unlike
    rw [sp_noView0 h0 h1, if_pos rfl, sp_noView1 hn, if_neg (by decide)]
    unfold wp_12_unlike_25
    rw [sp_throws1, if_neg (by decide), m00]
    exact ⟨m0_0 _ _, rAll_m0 h⟩
  by_cases e : v = u
  · rw [if_pos e]
    refine Or.inr ⟨rfl, ?_⟩
    unfold oM wp_12_unlike
    rw [sp_noView0 h0 h1, if_pos rfl, sp_noView0 u0 u1, if_pos rfl]
    unfold wp_12_unlike_25
    rw [sp_throws0, if_pos rfl, if_pos e, sp_throws1, if_neg (by decide), m00]
    exact ⟨m0_0 _ _, rAll_m0 h⟩
  rw [if_neg e]
  obtain ⟨l1, l2, l3, l4, -⟩ := r_list hs h0 h1
  obtain ⟨t1, t2, t3, t4, -⟩ := r_list hs u0 u1
  have H2 : ∀ k, ∃ r, jFst (fun j => C (51 + 72 * u + 29 + 1) j = C (51 + 72 * v + 29 + 1) k) (C (51 + 72 * u + 29) 1) r := fun k => jFst_ex _ _ (by omega)
  obtain ⟨π, hπ⟩ := Classical.skolem.mp H2
  have pc : ∀ k, 0 ≤ k → k < C 346 (298 + 2114 * v) → ∀ post : Int → Prop, post (π k) → wp_6_placeOf (51 + 72 * u + 29) (C (51 + 72 * v + 29 + 1) k) C post := by
    intro k a b post y
    refine sp_placeOf (by omega) (fun r hr => ?_)
    rw [jFst_uniq hr (hπ k)]; exact y
  have pm : ∀ k, 0 ≤ k → k < C 346 (298 + 2114 * v) → ∀ post : Int → Prop, post (π k) → wp_12_placeIn (298 + 2114 * u) (C 346 (298 + 2114 * v + 1 + k)) (jU C 345 0 0) post := by
    intro k a b post y
    obtain ⟨a1, a2, a3, a4⟩ := l4 k a b
    rw [a3]
    refine sp_placeIn (by omega) (by rw [m0_w]; omega) (by omega) (fun r hr => ?_)
    rw [m0_w] at hr
    rw [← r_place hs u0 u1 a1 a2 a4 (hπ k) hr]; exact y
  have pr : ∀ k, 0 ≤ k → k < C 346 (298 + 2114 * v) → -1 ≤ π k := by
    intro k a b
    rcases hπ k with ⟨g, -⟩ | ⟨g, -⟩ <;> omega
  generalize hn : C 346 (298 + 2114 * v) = n at l1 l2 l3 l4 pc pm pr
  unfold wp_4_pairsTurned
  refine jL2_of (fun x k => 0 ≤ k ∧ k ≤ n ∧ x = jFold (jTurnI π n) 0 k.toNat) (fun _ k => (n - k).toNat) (fun Q x k hi hk => ?_) ⟨by omega, by omega, rfl⟩
  obtain ⟨i0, i1, i2⟩ := hi
  have rg := jTurnI_rng (π := π) l3 k.toNat
  unfold wp_4_pairsTurned_5
  rw [sp_length, l1]
  by_cases a : n ≤ k
  · rw [if_pos a]
    unfold oR wp_12_unlike
    dsimp only
    rw [sp_noView0 h0 h1, if_pos rfl, sp_noView0 u0 u1, if_pos rfl]
    unfold wp_12_unlike_25
    rw [sp_throws0, if_pos rfl, if_neg e, sp_throws0, if_pos rfl, sp_listOf h0 h1]
    refine jL2_of (fun x k => 0 ≤ k ∧ k ≤ n ∧ x = jFold (jTurnI π n) 0 k.toNat) (fun _ k => (n - k).toNat) (fun Q' x' k' hi' hk' => ?_) ⟨by omega, by omega, rfl⟩
    obtain ⟨j0, j1, j2⟩ := hi'
    have rg' := jTurnI_rng (π := π) l3 k'.toNat
    unfold wp_12_unlike_63
    refine sp_size (by omega) (by omega) ?_
    rw [m0_w, hn]
    by_cases a' : n ≤ k'
    · rw [if_pos a']
      refine ⟨m0_0 _ _, ?_, rAll_m0 h⟩
      rw [i2, j2, show k' = k by omega]
    · rw [if_neg a']
      refine jL2_of (fun y j => k' + 1 ≤ j ∧ j ≤ n ∧ y = jFold (fun m z => jTurn π k' (k' + 1 + m) z) x' (j - (k' + 1)).toNat) (fun _ j => (n - j).toNat) (fun Q2 y j hi2 hk2 => ?_) ⟨by omega, by omega, by rw [Int.sub_self]; rfl⟩
      obtain ⟨b0, b1, b2⟩ := hi2
      have rg2 := jTurn_rng (π := π) (i := k') (x := x') (j - (k' + 1)).toNat
      unfold wp_12_unlike_79
      refine sp_size (by omega) (by omega) ?_
      rw [m0_w, hn]
      by_cases c : n ≤ j
      · rw [if_pos c]
        refine ⟨⟨by omega, by omega⟩, hk' _ _ ⟨by omega, by omega, ?_⟩ (by omega)⟩
        rw [jFold_s j0, jTurnI, ← j2, b2, show j = n by omega]
      · rw [if_neg c, sp_listOf u0 u1]
        refine sp_mkeyAt (by omega) (by omega) ?_
        rw [m0_w]
        refine pm k' j0 (by omega) _ ?_
        rw [sp_listOf u0 u1]
        refine sp_mkeyAt (by omega) (by omega) ?_
        rw [m0_w]
        refine pm j (by omega) (by omega) _ ?_
        have nx : ¬ (π k' ≠ -1 ∧ π j ≠ -1 ∧ π j < π k') → Q2 (y + 0) (j + 1) := by
          intro z
          refine hk2 _ _ ⟨by omega, by omega, ?_⟩ (by omega)
          rw [jFold_p b0, jTurn, show k' + 1 + (j - (k' + 1)) = j by omega, if_neg z, b2, Int.add_zero]
        by_cases z1 : π k' = -1
        · rw [if_pos z1]; exact nx (fun z => z.1 z1)
        rw [if_neg z1]
        by_cases z2 : π j = -1
        · rw [if_pos z2]; exact nx (fun z => z.2.1 z2)
        rw [if_neg z2]
        by_cases z3 : π k' ≤ π j
        · rw [if_pos z3]; exact nx (fun z => by omega)
        · rw [if_neg z3]
          refine ⟨⟨by omega, by omega⟩, hk2 _ _ ⟨by omega, by omega, ?_⟩ (by omega)⟩
          rw [jFold_p b0, jTurn, show k' + 1 + (j - (k' + 1)) = j by omega, if_pos ⟨z1, z2, by omega⟩, b2]
  · rw [if_neg a, sp_vat hs h0 h1 i0 (by omega)]
    refine pc k i0 (by omega) _ ?_
    refine jL2_of (fun y j => k + 1 ≤ j ∧ j ≤ n ∧ y = jFold (fun m z => jTurn π k (k + 1 + m) z) x (j - (k + 1)).toNat) (fun _ j => (n - j).toNat) (fun Q2 y j hi2 hk2 => ?_) ⟨by omega, by omega, by rw [Int.sub_self]; rfl⟩
    obtain ⟨b0, b1, b2⟩ := hi2
    have rg2 := jTurn_rng (π := π) (i := k) (x := x) (j - (k + 1)).toNat
    unfold wp_4_pairsTurned_32
    by_cases z1 : π k = -1
    · rw [if_pos z1]
      refine ⟨⟨by omega, by omega⟩, hk _ _ ⟨by omega, by omega, ?_⟩ (by omega)⟩
      rw [jFold_s i0, ← i2, jTurnI_no z1, b2]
      have key : ∀ m : Nat, jFold (fun q z => jTurn π k (k + 1 + q) z) x m = x := by
        intro m
        induction m with
        | zero => rfl
        | succ m ih =>
          show jTurn π k (k + 1 + m) (jFold (fun q z => jTurn π k (k + 1 + q) z) x m) = x
          rw [ih, jTurn, if_neg (fun z => z.1 z1)]
      exact key _
    · rw [if_neg z1, sp_length, l1]
      by_cases c : n ≤ j
      · rw [if_pos c]
        refine ⟨⟨by omega, by omega⟩, hk _ _ ⟨by omega, by omega, ?_⟩ (by omega)⟩
        rw [jFold_s i0, jTurnI, ← i2, b2, show j = n by omega]
      · rw [if_neg c, sp_vat hs h0 h1 (by omega) (by omega)]
        refine pc j (by omega) (by omega) _ ?_
        have nx : ¬ (π k ≠ -1 ∧ π j ≠ -1 ∧ π j < π k) → Q2 y (j + 1) := by
          intro z
          refine hk2 _ _ ⟨by omega, by omega, ?_⟩ (by omega)
          rw [jFold_p b0, jTurn, show k + 1 + (j - (k + 1)) = j by omega, if_neg z, b2]
        by_cases z2 : π j = -1
        · rw [if_pos z2]; exact nx (fun z => z.2.1 z2)
        rw [if_neg z2]
        by_cases z3 : π k ≤ π j
        · rw [if_pos z3]; exact nx (fun z => by omega)
        · rw [if_neg z3]
          refine ⟨⟨by omega, by omega⟩, hk2 _ _ ⟨by omega, by omega, ?_⟩ (by omega)⟩
          rw [jFold_p b0, jTurn, show k + 1 + (j - (k + 1)) = j by omega, if_pos ⟨z1, z2, by omega⟩, b2]

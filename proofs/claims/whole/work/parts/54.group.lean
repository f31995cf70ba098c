-- group, total
theorem jFold_p {f : Int → Int → Int} {z s k : Int} (h : s ≤ k) : jFold f z (k + 1 - s).toNat = f (k - s) (jFold f z (k - s).toNat) := by
  rw [show k + 1 - s = (k - s) + 1 by omega]
  exact jFold_s (by omega)
def jLikeC (f : Int → Int) (s i x : Int) : Int := if f (s + i) = f s then x + 1 else x
def jLikeL (f : Int → Int) (s i x : Int) : Int := if f (s + i) = f s then s + i else x
def jLikeS (f g : Int → Int) (s i x : Int) : Int := if f (s + i) = f s ∧ g (s + i) ≠ -1000000 then x + g (s + i) else x
theorem jLikeC_rng (f : Int → Int) (s : Int) (n : Nat) : 0 ≤ jFold (jLikeC f s) 0 n ∧ jFold (jLikeC f s) 0 n ≤ n := by
  induction n with
  | zero => exact (show (0 : Int) ≤ 0 ∧ (0 : Int) ≤ ((0 : Nat) : Int) by decide)
  | succ n ih =>
    show 0 ≤ (if f (s + n) = f s then jFold (jLikeC f s) 0 n + 1 else jFold (jLikeC f s) 0 n) ∧ (if f (s + n) = f s then jFold (jLikeC f s) 0 n + 1 else jFold (jLikeC f s) 0 n) ≤ ((n + 1 : Nat) : Int)
    split <;> omega
theorem jLikeS_rng {f g : Int → Int} {s m : Int} (s0 : 0 ≤ s) (h : ∀ i, 0 ≤ i → i < m → g i = -1000000 ∨ (-999 ≤ g i ∧ g i ≤ 999)) (n : Nat) (hn : s + n ≤ m) : -999 * (n : Int) ≤ jFold (jLikeS f g s) 0 n ∧ jFold (jLikeS f g s) 0 n ≤ 999 * (n : Int) := by
  induction n with
  | zero => exact (show -999 * (0 : Int) ≤ 0 ∧ (0 : Int) ≤ 999 * 0 by decide)
  | succ n ih =>
    have ih := ih (by omega)
    have hg := h (s + n) (by omega) (by omega)
    show -999 * ((n + 1 : Nat) : Int) ≤ (if f (s + n) = f s ∧ g (s + n) ≠ -1000000 then jFold (jLikeS f g s) 0 n + g (s + n) else jFold (jLikeS f g s) 0 n) ∧ (if f (s + n) = f s ∧ g (s + n) ≠ -1000000 then jFold (jLikeS f g s) 0 n + g (s + n) else jFold (jLikeS f g s) 0 n) ≤ _
    split <;> omega
theorem sp_rowsLike {C : jC} {w : Int → Int} (h : rS 35 C w) {v c s : Int} (v0 : 0 ≤ v) (v1 : v < 4) (c0 : 0 ≤ c) (c1 : c < w 0) (s0 : 0 ≤ s) (s1 : s < w (298 + 2114 * v)) : jDet (wp_4_rowsLike 36 (51 + 72 * v + 29) c s C) (jFold (jLikeC (jLv C v c) s) 0 (w (298 + 2114 * v) - s).toNat) := by
  intro post y
  obtain ⟨l1, l2, l3, l4, -⟩ := r_list h v0 v1
  unfold wp_4_rowsLike
  refine jL2_of (fun x k => s ≤ k ∧ k ≤ w (298 + 2114 * v) ∧ x = jFold (jLikeC (jLv C v c) s) 0 (k - s).toNat) (fun _ k => (w (298 + 2114 * v) - k).toNat) (fun Q x k hi hk => ?_) ⟨by omega, by omega, by rw [Int.sub_self]; rfl⟩
  obtain ⟨i0, i1, i2⟩ := hi
  unfold wp_4_rowsLike_7
  rw [sp_length, l1]
  have rg := jLikeC_rng (jLv C v c) s (k - s).toNat
  by_cases a : w (298 + 2114 * v) ≤ k
  · rw [if_pos a, i2, show k = w (298 + 2114 * v) by omega]; exact y
  · rw [if_neg a, sp_alike h v0 v1 c0 c1 (by omega) (by omega) s0 s1]
    by_cases e : jLv C v c k = jLv C v c s
    · rw [if_pos e, if_neg (by decide)]
      refine ⟨⟨by omega, by omega⟩, hk _ _ ⟨by omega, by omega, ?_⟩ (by omega)⟩
      rw [jFold_p i0, jLikeC, show s + (k - s) = k by omega, if_pos e, i2]
    · rw [if_neg e, if_pos rfl]
      refine hk _ _ ⟨by omega, by omega, ?_⟩ (by omega)
      rw [jFold_p i0, jLikeC, show s + (k - s) = k by omega, if_neg e, i2]
theorem sp_lastLike {C : jC} {w : Int → Int} (h : rS 35 C w) {v c s : Int} (v0 : 0 ≤ v) (v1 : v < 4) (c0 : 0 ≤ c) (c1 : c < w 0) (s0 : 0 ≤ s) (s1 : s < w (298 + 2114 * v)) : jDet (wp_4_lastLike 36 (51 + 72 * v + 29) c s C) (jFold (jLikeL (jLv C v c) s) s (w (298 + 2114 * v) - s).toNat) := by
  intro post y
  obtain ⟨l1, l2, l3, l4, -⟩ := r_list h v0 v1
  unfold wp_4_lastLike
  refine jL2_of (fun x k => s ≤ k ∧ k ≤ w (298 + 2114 * v) ∧ x = jFold (jLikeL (jLv C v c) s) s (k - s).toNat) (fun _ k => (w (298 + 2114 * v) - k).toNat) (fun Q x k hi hk => ?_) ⟨by omega, by omega, by rw [Int.sub_self]; rfl⟩
  obtain ⟨i0, i1, i2⟩ := hi
  unfold wp_4_lastLike_8
  rw [sp_length, l1]
  by_cases a : w (298 + 2114 * v) ≤ k
  · rw [if_pos a, i2, show k = w (298 + 2114 * v) by omega]; exact y
  · rw [if_neg a, sp_alike h v0 v1 c0 c1 (by omega) (by omega) s0 s1]
    by_cases e : jLv C v c k = jLv C v c s
    · rw [if_pos e, if_neg (by decide)]
      refine hk _ _ ⟨by omega, by omega, ?_⟩ (by omega)
      rw [jFold_p i0, jLikeL, show s + (k - s) = k by omega, if_pos e]
    · rw [if_neg e, if_pos rfl]
      refine hk _ _ ⟨by omega, by omega, ?_⟩ (by omega)
      rw [jFold_p i0, jLikeL, show s + (k - s) = k by omega, if_neg e, i2]
theorem sp_g109 {C : jC} {w : Int → Int} (h : rS 35 C w) {v c s p : Int} (v0 : 0 ≤ v) (v1 : v < 4) (c0 : 0 ≤ c) (c1 : c < w 0) (s0 : 0 ≤ s) (s1 : s < w (298 + 2114 * v)) {C' : jC} (hC : C' 346 = w) {post : Int → jC → Prop}
    (y : post (if p = 0 then jLv C v c s else if p = 1 then jFold (jLikeC (jLv C v c) s) 0 (w (298 + 2114 * v) - s).toNat else if p = 2 then s else jFold (jLikeL (jLv C v c) s) s (w (298 + 2114 * v) - s).toNat) C') : jL3 (wp_12_group_109 v c p s (jLv C v c s) C' post) 0 s s := by
  obtain ⟨l1, l2, l3, l4, -⟩ := r_list h v0 v1
  refine jL3_of (fun x u k => s ≤ k ∧ k ≤ w (298 + 2114 * v) ∧ x = jFold (jLikeC (jLv C v c) s) 0 (k - s).toNat ∧ u = jFold (jLikeL (jLv C v c) s) s (k - s).toNat) (fun _ _ k => (w (298 + 2114 * v) - k).toNat) (fun Q x u k hi hk => ?_) ⟨by omega, by omega, by rw [Int.sub_self]; rfl, by rw [Int.sub_self]; rfl⟩
  obtain ⟨i0, i1, i2, i3⟩ := hi
  unfold wp_12_group_109
  rw [sp_vsize v0 v1, hC]
  have rg := jLikeC_rng (jLv C v c) s (k - s).toNat
  by_cases a : w (298 + 2114 * v) ≤ k
  · rw [show w (298 + 2114 * v) = k by omega, ← i2, ← i3] at y
    rw [if_pos a]
    by_cases p0 : p = 0
    · rw [if_pos p0] at y ⊢; exact y
    rw [if_neg p0] at y ⊢
    by_cases p1 : p = 1
    · rw [if_pos p1] at y ⊢; exact y
    rw [if_neg p1] at y ⊢
    by_cases p2 : p = 2
    · rw [if_pos p2] at y ⊢; exact y
    rw [if_neg p2] at y ⊢
    exact y
  · rw [if_neg a]
    refine sp_mval h v0 v1 (show 0 ≤ k by omega) (by omega) c0 c1 hC _ ?_
    by_cases e : jLv C v c k = jLv C v c s
    · rw [if_pos e]
      refine ⟨⟨by omega, by omega⟩, hk _ _ _ ⟨by omega, by omega, ?_, ?_⟩ (by omega)⟩
      · rw [jFold_p i0, jLikeC, show s + (k - s) = k by omega, if_pos e, i2]
      · rw [jFold_p i0, jLikeL, show s + (k - s) = k by omega, if_pos e]
    · rw [if_neg e]
      refine hk _ _ _ ⟨by omega, by omega, ?_, ?_⟩ (by omega)
      · rw [jFold_p i0, jLikeC, show s + (k - s) = k by omega, if_neg e, i2]
      · rw [jFold_p i0, jLikeL, show s + (k - s) = k by omega, if_neg e, i3]
theorem op_group {C : jC} {K v c g p : Int} (h : rAll C K) : wp_11_group v c g p C (fun E C1 => (E = jIOB ∧ oM (wp_12_group v c g p) K 1 C1) ∨ (E = jNSE ∧ oM (wp_12_group v c g p) K 2 C1) ∨ (E = jIAE ∧ oM (wp_12_group v c g p) K 3 C1)) (fun r => oR (wp_12_group v c g p) K r C) := by
  have hs := r_now h
  obtain ⟨k1, k2, k3, -⟩ := r_cols hs
  unfold wp_11_group
  refine sp_viewNumbered (fun hn => Or.inl ⟨rfl, ?_⟩) (fun h0 h1 => ?_)
  · unfold oM wp_12_group
    rw [sp_noView1 hn, if_neg (by decide)]
    unfold wp_12_group_26
    rw [sp_throws1, if_neg (by decide), m00]
    exact ⟨m0_0 _ _, rAll_m0 h⟩
  refine sp_needColumn (by omega) (fun hn => Or.inl ⟨rfl, ?_⟩) (fun c0 c1 => ?_)
  · unfold oM wp_12_group
    rw [sp_noView0 h0 h1, if_pos rfl, sp_noCol1 hs (m0_w _ _) hn, if_neg (by decide)]
    unfold wp_12_group_26
    rw [sp_throws1, if_neg (by decide), m00]
    exact ⟨m0_0 _ _, rAll_m0 h⟩
  have bad : ¬ (0 ≤ p ∧ p ≤ 3) → oM (wp_12_group v c g p) K 2 C := by
    intro hp
    unfold oM wp_12_group
    rw [sp_noView0 h0 h1, if_pos rfl, sp_noCol0 hs (m0_w _ _) c0 c1, if_pos rfl]
    unfold wp_12_group_26
    rw [sp_throws0, if_pos rfl, sp_in0 hp, if_pos rfl]
    unfold wp_12_group_49
    rw [sp_throws1, if_neg (by decide), m00]
    exact ⟨m0_0 _ _, rAll_m0 h⟩
  by_cases a : p < 0
  · rw [if_pos a]; exact Or.inr (Or.inl ⟨rfl, bad (by omega)⟩)
  rw [if_neg a]
  by_cases b : ¬ p ≤ 3
  · rw [if_neg b]; exact Or.inr (Or.inl ⟨rfl, bad (by omega)⟩)
  replace b : p ≤ 3 := by omega
  rw [if_pos b]
  obtain ⟨ρ, hρ⟩ := jChi (jNew (jLv C v c))
  unfold wp_11_firstOfGroup
  refine sp_groupStart hs h0 h1 c0 (by omega) hρ (fun s hS => ?_)
  have mo : ∀ post : Int → jC → Prop, (s = -1 → wp_12_group_79 1 v c p s (jU C 345 0 0) post) → (s ≠ -1 → wp_12_group_79 0 v c p s (jU C 345 0 0) post) → wp_12_group v c g p C post := by
    intro post y1 y0
    unfold wp_12_group
    rw [sp_noView0 h0 h1, if_pos rfl, sp_noCol0 hs (m0_w _ _) c0 c1, if_pos rfl]
    unfold wp_12_group_26
    rw [sp_throws0, if_pos rfl, sp_in1 (by omega) b, if_neg (by decide)]
    unfold wp_12_group_49
    rw [sp_throws0, if_pos rfl]
    refine sp_groupAt hs h0 h1 c0 (by omega) hρ (m0_w C 0) (fun s' hS' => ?_)
    have e := jGrp_uniq (fun i => (hρ i).1) hS' hS
    subst e
    by_cases e : s' = -1
    · rw [if_pos e]; exact y1 e
    · rw [if_neg e]; exact y0 e
  by_cases e : s = -1
  · rw [if_pos e]
    refine Or.inr (Or.inr ⟨rfl, ?_⟩)
    unfold oM
    refine mo _ (fun _ => ?_) (fun z => absurd e z)
    unfold wp_12_group_79
    rw [sp_throws1, if_neg (by decide), m00]
    exact ⟨m0_0 _ _, rAll_m0 h⟩
  · rw [if_neg e]
    have s01 : 0 ≤ s ∧ s < C 346 (298 + 2114 * v) := by
      rcases hS with ⟨a0, a1, -⟩ | ⟨a0, -⟩
      · exact ⟨a0, a1⟩
      · exact absurd a0 e
    have mo2 : ∀ r, r = (if p = 0 then jLv C v c s else if p = 1 then jFold (jLikeC (jLv C v c) s) 0 (C 346 (298 + 2114 * v) - s).toNat else if p = 2 then s else jFold (jLikeL (jLv C v c) s) s (C 346 (298 + 2114 * v) - s).toNat) → oR (wp_12_group v c g p) K r C := by
      intro r hr
      unfold oR
      refine mo _ (fun z => absurd z e) (fun _ => ?_)
      unfold wp_12_group_79
      rw [sp_throws0, if_pos rfl]
      refine sp_mval hs h0 h1 s01.1 s01.2 c0 (by omega) (m0_w C 0) _ ?_
      exact sp_g109 hs h0 h1 c0 (by omega) s01.1 s01.2 (m0_w C 0) ⟨m0_0 _ _, hr.symm, rAll_m0 h⟩
    dsimp only
    by_cases p0 : p = 0
    · rw [if_pos p0, sp_vat hs h0 h1 s01.1 s01.2, sp_vval hs h0 h1 s01.1 s01.2 c0 (by omega)]
      exact mo2 _ (by rw [if_pos p0])
    rw [if_neg p0]
    by_cases p1 : p = 1
    · rw [if_pos p1]
      refine sp_rowsLike hs h0 h1 c0 (by omega) s01.1 s01.2 _ (mo2 _ ?_)
      rw [if_neg p0, if_pos p1]
    rw [if_neg p1]
    by_cases p2 : p = 2
    · rw [if_pos p2]
      exact mo2 _ (by rw [if_neg p0, if_neg p1, if_pos p2])
    rw [if_neg p2]
    refine sp_lastLike hs h0 h1 c0 (by omega) s01.1 s01.2 _ (mo2 _ ?_)
    rw [if_neg p0, if_neg p1, if_neg p2]
theorem op_total {C : jC} {K v c g d : Int} (h : rAll C K) : wp_11_total v c g d C (fun E C1 => (E = jIOB ∧ oM (wp_12_total v c g d) K 1 C1) ∨ (E = jISE ∧ oM (wp_12_total v c g d) K 2 C1) ∨ (E = jIAE ∧ oM (wp_12_total v c g d) K 3 C1)) (fun r => oR (wp_12_total v c g d) K r C) := by
  have hs := r_now h
  obtain ⟨k1, k2, k3, -⟩ := r_cols hs
  unfold wp_11_total
  refine sp_viewNumbered (fun hn => Or.inl ⟨rfl, ?_⟩) (fun h0 h1 => ?_)
  · unfold oM wp_12_total
    rw [sp_noView1 hn, if_neg (by decide)]
    unfold wp_12_total_35
    rw [sp_throws1, if_neg (by decide), m00]
    exact ⟨m0_0 _ _, rAll_m0 h⟩
  refine sp_needColumn (by omega) (fun hn => Or.inl ⟨rfl, ?_⟩) (fun c0 c1 => ?_)
  · unfold oM wp_12_total
    rw [sp_noView0 h0 h1, if_pos rfl, sp_noCol1 hs (m0_w _ _) hn, if_neg (by decide)]
    unfold wp_12_total_35
    rw [sp_throws1, if_neg (by decide), m00]
    exact ⟨m0_0 _ _, rAll_m0 h⟩
  refine sp_needColumn (by omega) (fun hn => Or.inl ⟨rfl, ?_⟩) (fun d0 d1 => ?_)
  · unfold oM wp_12_total
    rw [sp_noView0 h0 h1, if_pos rfl, sp_noCol0 hs (m0_w _ _) c0 c1, if_pos rfl, sp_noCol1 hs (m0_w _ _) hn, if_neg (by decide)]
    unfold wp_12_total_35
    rw [sp_throws1, if_neg (by decide), m00]
    exact ⟨m0_0 _ _, rAll_m0 h⟩
  refine sp_needNumbers hs d0 d1 (fun hk => Or.inr (Or.inl ⟨rfl, ?_⟩)) (fun hk => ?_)
  · unfold oM wp_12_total
    rw [sp_noView0 h0 h1, if_pos rfl, sp_noCol0 hs (m0_w _ _) c0 c1, if_pos rfl, sp_noCol0 hs (m0_w _ _) d0 d1, if_pos rfl]
    unfold wp_12_total_35
    rw [sp_throws0, if_pos rfl, sp_isWords d0 (by omega), m0_w, if_pos hk, sp_throws1, if_neg (by decide), m00]
    exact ⟨m0_0 _ _, rAll_m0 h⟩
  obtain ⟨l1, l2, l3, l4, -⟩ := r_list hs h0 h1
  have hv : ∀ i, 0 ≤ i → i < C 346 (298 + 2114 * v) → jLv C v d i = -1000000 ∨ (-999 ≤ jLv C v d i ∧ jLv C v d i ≤ 999) := by
    intro i i0 i1
    rcases r_lv hs h0 h1 i0 i1 d0 (by omega) with z | ⟨-, z⟩ | ⟨z, -⟩
    · exact Or.inl z
    · exact Or.inr z
    · omega
  obtain ⟨ρ, hρ⟩ := jChi (jNew (jLv C v c))
  unfold wp_11_firstOfGroup
  refine sp_groupStart hs h0 h1 c0 (by omega) hρ (fun s hS => ?_)
  have mo : ∀ post : Int → jC → Prop, (s = -1 → post 0 (jU C 345 0 3)) → (s ≠ -1 → jL2 (wp_12_total_95 v c d s (jU C 345 0 0) post) 0 s) → wp_12_total v c g d C post := by
    intro post y1 y0
    unfold wp_12_total
    rw [sp_noView0 h0 h1, if_pos rfl, sp_noCol0 hs (m0_w _ _) c0 c1, if_pos rfl, sp_noCol0 hs (m0_w _ _) d0 d1, if_pos rfl]
    unfold wp_12_total_35
    rw [sp_throws0, if_pos rfl, sp_isWords d0 (by omega), m0_w, if_neg (by omega), sp_throws0, if_pos rfl]
    refine sp_groupAt hs h0 h1 c0 (by omega) hρ (m0_w C 0) (fun s' hS' => ?_)
    have e := jGrp_uniq (fun i => (hρ i).1) hS' hS
    subst e
    by_cases e : s' = -1
    · rw [if_pos e, sp_throws1, if_neg (by decide), m00]; exact y1 e
    · rw [if_neg e, sp_throws0, if_pos rfl]; exact y0 e
  by_cases e : s = -1
  · rw [if_pos e]
    refine Or.inr (Or.inr ⟨rfl, ?_⟩)
    unfold oM
    refine mo _ (fun _ => ⟨m0_0 _ _, rAll_m0 h⟩) (fun z => absurd e z)
  rw [if_neg e]
  have s01 : 0 ≤ s ∧ s < C 346 (298 + 2114 * v) := by
    rcases hS with ⟨a0, a1, -⟩ | ⟨a0, -⟩
    · exact ⟨a0, a1⟩
    · exact absurd a0 e
  unfold wp_4_sumLike
  refine jL2_of (fun x k => s ≤ k ∧ k ≤ C 346 (298 + 2114 * v) ∧ x = jFold (jLikeS (jLv C v c) (jLv C v d) s) 0 (k - s).toNat) (fun _ k => (C 346 (298 + 2114 * v) - k).toNat) (fun Q x k hi hk => ?_) ⟨by omega, by omega, by rw [Int.sub_self]; rfl⟩
  obtain ⟨i0, i1, i2⟩ := hi
  unfold wp_4_sumLike_7
  rw [sp_length, l1]
  have rg := jLikeS_rng (f := jLv C v c) s01.1 hv (k - s).toNat (by omega)
  by_cases a : C 346 (298 + 2114 * v) ≤ k
  · rw [if_pos a]
    unfold oR
    refine mo _ (fun z => absurd z e) (fun _ => ?_)
    refine jL2_of (fun x k => s ≤ k ∧ k ≤ C 346 (298 + 2114 * v) ∧ x = jFold (jLikeS (jLv C v c) (jLv C v d) s) 0 (k - s).toNat) (fun _ k => (C 346 (298 + 2114 * v) - k).toNat) (fun Q' x' k' hi' hk' => ?_) ⟨by omega, by omega, by rw [Int.sub_self]; rfl⟩
    obtain ⟨j0, j1, j2⟩ := hi'
    unfold wp_12_total_95
    rw [sp_vsize h0 h1, m0_w]
    have rg' := jLikeS_rng (f := jLv C v c) s01.1 hv (k' - s).toNat (by omega)
    by_cases a' : C 346 (298 + 2114 * v) ≤ k'
    · rw [if_pos a']
      refine ⟨m0_0 _ _, ?_, rAll_m0 h⟩
      rw [i2, j2, show k' = k by omega]
    · rw [if_neg a']
      have no : ¬ (jLv C v c k' = jLv C v c s ∧ jLv C v d k' ≠ -1000000) → wp_12_total_146 0 v c d s x' k' (jU C 345 0 0) (fun b C2 => C2 345 0 = 0 ∧ b = x ∧ rAll C2 K) Q' := by
        intro z
        unfold wp_12_total_146
        rw [if_pos rfl]
        refine ⟨⟨by omega, by omega⟩, hk' _ _ ⟨by omega, by omega, ?_⟩ (by omega)⟩
        rw [jFold_p j0, jLikeS, show s + (k' - s) = k' by omega, if_neg z, j2, Int.add_zero]
      have mv := sp_mval hs h0 h1 (show 0 ≤ k' by omega) (show k' < C 346 (298 + 2114 * v) by omega) d0 (by omega) (m0_w C 0)
      refine sp_mval hs h0 h1 (show 0 ≤ k' by omega) (by omega) c0 (by omega) (m0_w C 0) _ ?_
      refine sp_mval hs h0 h1 s01.1 s01.2 c0 (by omega) (m0_w C 0) _ ?_
      by_cases z : jLv C v c k' = jLv C v c s
      · rw [if_pos z]
        refine mv _ ?_
        by_cases z2 : jLv C v d k' = -1000000
        · rw [if_pos z2]; exact no (fun q => q.2 z2)
        · rw [if_neg z2]
          unfold wp_12_total_146
          rw [if_neg (by decide)]
          have hvk := hv k' (by omega) (by omega)
          refine mv _ ⟨⟨by omega, by omega⟩, ⟨by omega, by omega⟩, hk' _ _ ⟨by omega, by omega, ?_⟩ (by omega)⟩
          rw [jFold_p j0, jLikeS, show s + (k' - s) = k' by omega, if_pos ⟨z, z2⟩, j2]
      · rw [if_neg z]; exact no (fun q => z q.1)
  · rw [if_neg a, sp_vat hs h0 h1 (by omega) (by omega), sp_vval hs h0 h1 (by omega) (by omega) d0 (by omega)]
    have no : ¬ (jLv C v c k = jLv C v c s ∧ jLv C v d k ≠ -1000000) → Q x (k + 1) := by
      intro z
      refine hk _ _ ⟨by omega, by omega, ?_⟩ (by omega)
      rw [jFold_p i0, jLikeS, show s + (k - s) = k by omega, if_neg z, i2]
    by_cases z2 : jLv C v d k = -1000000
    · rw [if_pos z2]; exact no (fun q => q.2 z2)
    · rw [if_neg z2, sp_alike hs h0 h1 c0 (by omega) (by omega) (by omega) s01.1 s01.2]
      by_cases z : jLv C v c k = jLv C v c s
      · rw [if_pos z, if_neg (by decide)]
        have hvk := hv k (by omega) (by omega)
        refine ⟨⟨by omega, by omega⟩, hk _ _ ⟨by omega, by omega, ?_⟩ (by omega)⟩
        rw [jFold_p i0, jLikeS, show s + (k - s) = k by omega, if_pos ⟨z, z2⟩, i2]
      · rw [if_neg z, if_pos rfl]; exact no (fun q => z q.1)

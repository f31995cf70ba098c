-- sorts, about, log, fits, why, stale, pending
theorem sp_in1 {v l h : Int} {C : jC} {post : Int → Prop} (h1 : l ≤ v) (h2 : v ≤ h) : wp_12_in v l h C post = post 1 := by rw [sp_in, if_pos ⟨h1, h2⟩]
theorem sp_in0 {v l h : Int} {C : jC} {post : Int → Prop} (h1 : ¬ (l ≤ v ∧ v ≤ h)) : wp_12_in v l h C post = post 0 := by rw [sp_in, if_neg h1]
theorem op_fits {C : jC} {K v key : Int} (h : rAll C K) : wp_11_fits v key C (fun E C1 => E = jIOB ∧ oM (wp_12_fits v key) K 1 C1) (fun r => oR (wp_12_fits v key) K r C) := by
  have hs := r_now h
  unfold wp_11_fits
  refine sp_viewNumbered (fun hn => ⟨rfl, ?_⟩) (fun h0 h1 => ?_)
  · unfold oM wp_12_fits
    refine sp_noKey1 (K := K) ?_ hn
    rw [if_neg (by decide)]
    exact ⟨m0_0 _ _, rAll_m0 h⟩
  · refine sp_seatOfKey h (fun r hf hn => ⟨rfl, ?_⟩) (fun r hf r0 r1 s0 s1 => ?_)
    · unfold oM wp_12_fits
      refine sp_noKey2 h h0 h1 hf hn ?_
      rw [if_neg (by decide)]
      exact ⟨m0_0 _ _, rAll_m0 h⟩
    · obtain ⟨x, x0, x1, x2⟩ := sp_fit hs h0 h1 s0 s1 ⟨r, r0, by simpa using r1, rfl⟩
      refine x1 _ ⟨x0, ?_⟩
      unfold oR wp_12_fits
      refine sp_noKey0 h h0 h1 hf r0 (fun k1 k2 k3 => ?_)
      rw [if_pos rfl, ← k1]
      refine x2 _ (m0_w _ _) _ ?_
      rcases x0 with rfl | rfl
      · rw [if_pos rfl]; exact ⟨m0_0 _ _, rfl, rAll_m0 h⟩
      · rw [if_neg (by decide)]; exact ⟨m0_0 _ _, rfl, rAll_m0 h⟩
theorem op_why {C : jC} {K v key : Int} (h : rAll C K) : wp_11_why v key C (fun E C1 => E = jIOB ∧ oM (wp_12_why v key) K 1 C1) (fun r => oR (wp_12_why v key) K r C) := by
  have hs := r_now h
  unfold wp_11_why
  refine sp_viewNumbered (fun hn => ⟨rfl, ?_⟩) (fun h0 h1 => ?_)
  · unfold oM wp_12_why
    refine sp_noKey1 (K := K) ?_ hn
    rw [if_neg (by decide)]
    exact ⟨m0_0 _ _, rAll_m0 h⟩
  · refine sp_seatOfKey h (fun r hf hn => ⟨rfl, ?_⟩) (fun r hf r0 r1 s0 s1 => ?_)
    · unfold oM wp_12_why
      refine sp_noKey2 h h0 h1 hf hn ?_
      rw [if_neg (by decide)]
      exact ⟨m0_0 _ _, rAll_m0 h⟩
    · obtain ⟨x, x0, x1, x2⟩ := sp_why hs h0 h1 s0 s1 ⟨r, r0, by simpa using r1, rfl⟩
      refine x1 _ ?_
      unfold oR wp_12_why
      refine sp_noKey0 h h0 h1 hf r0 (fun k1 k2 k3 => ?_)
      rw [if_pos rfl, ← k1]
      exact x2 _ (m0_w _ _) _ ⟨m0_0 _ _, rfl, rAll_m0 h⟩
theorem op_sorts {C : jC} {K v i : Int} (h : rAll C K) : wp_11_sorts v i C (fun E C1 => E = jIOB ∧ oM (wp_12_sorts v i) K 1 C1) (fun r => oR (wp_12_sorts v i) K r C) := by
  have hs := r_now h
  unfold wp_11_sorts
  refine sp_viewNumbered (fun hn => ⟨rfl, ?_⟩) (fun h0 h1 => ?_)
  · unfold oM wp_12_sorts
    rw [sp_noView, if_neg hn, sp_throws1, if_neg (by decide), m00]
    exact ⟨m0_0 _ _, rAll_m0 h⟩
  · obtain ⟨l1, l2, l3, l4, -⟩ := r_lens hs h0 h1
    have key : ∀ y, y = (if 0 ≤ i ∧ i < C 346 (298 + 2114 * v + 25) then C 346 (298 + 2114 * v + 26 + i) else -1) → oR (wp_12_sorts v i) K y C := by
      intro y hy
      unfold oR wp_12_sorts
      dsimp only
      rw [sp_noView, if_pos ⟨h0, h1⟩, sp_throws0, if_pos rfl, sp_viewAt h0 h1 (by omega) (by omega), m0_w, sp_in]
      refine ⟨by omega, by omega, ⟨by omega, by omega⟩, ?_⟩
      by_cases hi : 0 ≤ i ∧ i < C 346 (298 + 2114 * v + 25)
      · rw [if_pos hi] at hy
        rw [if_pos (show 0 ≤ i ∧ i ≤ C 346 (298 + 2114 * v + 25) - 1 by omega), if_neg (by decide), sp_viewAt h0 h1 (by omega) (by omega), show 298 + 2114 * v + (26 + i) = 298 + 2114 * v + 26 + i by omega]
        exact ⟨⟨by omega, by omega⟩, by omega, by omega, m0_0 _ _, hy.symm, rAll_m0 h⟩
      · rw [if_neg hi] at hy
        rw [if_neg (show ¬ (0 ≤ i ∧ i ≤ C 346 (298 + 2114 * v + 25) - 1) by omega), if_pos rfl]
        exact ⟨m0_0 _ _, hy.symm, rAll_m0 h⟩
    unfold wp_2_sortAt
    by_cases a : i < 0
    · rw [if_pos a]; exact key _ (by rw [if_neg (by omega)])
    · rw [if_neg a]
      by_cases b : C (51 + 72 * v + 1) 2 ≤ i
      · rw [if_pos b]; exact key _ (by rw [if_neg (by omega)])
      · rw [if_neg b, if_neg (by omega)]
        refine key _ ?_
        rw [if_pos (by omega)]
        exact (l4 i (by omega) (by omega)).1
/-- a running number -/
def jFold (f : Int → Int → Int) (z : Int) : Nat → Int
  | 0 => z
  | n + 1 => f n (jFold f z n)
theorem jFold_s {f : Int → Int → Int} {z k : Int} (h : 0 ≤ k) : jFold f z (k + 1).toNat = f k (jFold f z k.toNat) := by
  rw [show (k + 1).toNat = k.toNat + 1 by omega]
  show f (k.toNat : Int) _ = _
  rw [Int.toNat_of_nonneg h]
theorem jOr_0 {x : Int} (h : jRng x) : jOr x 0 = x := by
  unfold jOr
  rw [show Int32.ofInt 0 = 0 from rfl, Int32.or_zero, ji_toInt h]
def jBit (p : Int → Int) (i x : Int) : Int := if p i = 1 then jOr x (jShl 1 i) else x
theorem jBit_rng (p : Int → Int) (n : Nat) : jRng (jFold (jBit p) 0 n) := by
  induction n with
  | zero => exact (show jRng 0 from ⟨by decide, by decide⟩)
  | succ n ih =>
    show jRng (if p n = 1 then _ else _)
    split
    · exact jOr_rng _ _
    · exact ih
theorem op_about {C : jC} {K v i : Int} (h : rAll C K) : wp_11_about v i C (fun E C1 => (E = jIOB ∧ oM (wp_12_about v i) K 1 C1) ∨ (E = jNSE ∧ oM (wp_12_about v i) K 2 C1)) (fun r => oR (wp_12_about v i) K r C) := by
  have hs := r_now h
  unfold wp_11_about
  refine sp_viewNumbered (fun hn => Or.inl ⟨rfl, ?_⟩) (fun h0 h1 => ?_)
  · unfold oM wp_12_about
    rw [sp_noView, if_neg hn, sp_throws1, if_neg (by decide), m00]
    exact ⟨m0_0 _ _, rAll_m0 h⟩
  · obtain ⟨l1, l2, l3, l4, l5, l6, l7, l8, -⟩ := r_lens hs h0 h1
    obtain ⟨a1, -⟩ := r_list hs h0 h1
    obtain ⟨e1, -⟩ := (r_view hs h0 h1).2.2.2
    have mo : 0 ≤ i → i ≤ 4 → ∀ y, wp_12_about_32 0 v i (jU C 345 0 0) (fun b C2 => C2 345 0 = 0 ∧ b = y ∧ rAll C2 K) → oR (wp_12_about v i) K y C := by
      intro i0 i4 y hy
      unfold oR wp_12_about
      dsimp only
      rw [sp_noView, if_pos ⟨h0, h1⟩, sp_throws0, if_pos rfl, sp_in1 i0 i4, if_neg (by decide)]
      exact hy
    have fin : ∀ x y : Int, x = y → (jU C 345 0 0) 345 0 = 0 ∧ x = y ∧ rAll (jU C 345 0 0) K := fun x y e => ⟨m0_0 _ _, e, rAll_m0 h⟩
    by_cases c0 : i = 0
    · rw [if_pos c0]
      refine mo (by omega) (by omega) _ ?_
      unfold wp_12_about_32 wp_12_size
      rw [sp_throws0, if_pos rfl, if_pos c0, sp_listOf h0 h1, m0_w]
      exact ⟨by omega, by omega, fin _ _ a1.symm⟩
    rw [if_neg c0]
    by_cases c1 : i = 1
    · rw [if_pos c1]
      refine mo (by omega) (by omega) _ ?_
      unfold wp_12_about_32
      rw [sp_throws0, if_pos rfl, if_neg c0, if_pos c1, sp_viewAt h0 h1 (by omega) (by omega), m0_w]
      exact ⟨by omega, by omega, fin _ _ l1.symm⟩
    rw [if_neg c1]
    by_cases c2 : i = 2
    · rw [if_pos c2]
      refine mo (by omega) (by omega) _ ?_
      unfold wp_12_about_32
      rw [sp_throws0, if_pos rfl, if_neg c0, if_neg c1, if_pos c2, sp_viewAt h0 h1 (by omega) (by omega), m0_w]
      exact ⟨by omega, by omega, fin _ _ l5.symm⟩
    rw [if_neg c2]
    by_cases c3 : i = 3
    · rw [if_pos c3]
      have G : ∀ c, 0 ≤ c → c < 5 → C (51 + 72 * v + 1 + 1 + 2 + 5 * c) 0 = C 346 (298 + 2114 * v + (30 + 31 * c)) := by
        intro c c0 c1
        obtain ⟨f1, -⟩ := l8 c c0 c1
        rw [show 51 + 72 * v + 1 + 3 + 5 * c = 51 + 72 * v + 1 + 1 + 2 + 5 * c by omega] at f1
        rw [show 298 + 2114 * v + 30 + 31 * c = 298 + 2114 * v + (30 + 31 * c) by omega] at f1
        exact f1
      obtain ⟨p, hp⟩ : ∃ p : Int → Int, p = fun c => if C 346 (298 + 2114 * v + (30 + 31 * c)) ≤ 0 then 0 else 1 := ⟨_, rfl⟩
      have hb : ∀ c x, jBit p c x = if C 346 (298 + 2114 * v + (30 + 31 * c)) ≤ 0 then x else jOr x (jShl 1 c) := by
        intro c x
        unfold jBit
        by_cases z : C 346 (298 + 2114 * v + (30 + 31 * c)) ≤ 0
        · have e : p c = 0 := by rw [hp]; exact if_pos z
          rw [if_neg (show ¬ p c = 1 by omega), if_pos z]
        · have e : p c = 1 := by rw [hp]; exact if_neg z
          rw [if_pos e, if_neg z]
      unfold wp_2_filteredBits
      refine jL2_of (fun x k => 0 ≤ k ∧ k ≤ 5 ∧ x = jFold (jBit p) 0 k.toNat) (fun _ k => (5 - k).toNat) (fun Q x k hi hk => ?_) ⟨by omega, by omega, rfl⟩
      obtain ⟨i0, i1, i2⟩ := hi
      unfold wp_2_filteredBits_4
      by_cases a : 5 ≤ k
      · rw [if_pos a]
        refine mo (by omega) (by omega) _ ?_
        unfold wp_12_about_32
        rw [sp_throws0, if_pos rfl, if_neg c0, if_neg c1, if_neg c2, if_pos c3]
        refine jL2_of (fun x k => 0 ≤ k ∧ k ≤ 5 ∧ x = jFold (jBit p) 0 k.toNat) (fun _ k => (5 - k).toNat) (fun Q' x' k' hi' hk' => ?_) ⟨by omega, by omega, rfl⟩
        obtain ⟨j0, j1, j2⟩ := hi'
        unfold wp_12_about_110
        by_cases a' : 5 ≤ k'
        · rw [if_pos a']
          refine fin _ _ ?_
          rw [i2, j2, show k' = k by omega]
        · rw [if_neg a', sp_filterAt h0 h1 j0 (by omega), m0_w]
          refine ⟨by omega, by omega, ?_⟩
          by_cases z : C 346 (298 + 2114 * v + (30 + 31 * k')) ≤ 0
          · rw [if_pos z, jOr_0 (j2 ▸ jBit_rng p _)]
            refine hk' _ _ ⟨by omega, by omega, ?_⟩ (by omega)
            rw [jFold_s j0, hb, if_pos z, j2]
          · rw [if_neg z]
            refine hk' _ _ ⟨by omega, by omega, ?_⟩ (by omega)
            rw [jFold_s j0, hb, if_neg z, j2]
      · rw [if_neg a, G k i0 (by omega)]
        refine ⟨i0, ?_⟩
        by_cases z : C 346 (298 + 2114 * v + (30 + 31 * k)) ≤ 0
        · rw [if_pos z]
          refine hk _ _ ⟨by omega, by omega, ?_⟩ (by omega)
          rw [jFold_s i0, hb, if_pos z, i2]
        · rw [if_neg z]
          refine hk _ _ ⟨by omega, by omega, ?_⟩ (by omega)
          rw [jFold_s i0, hb, if_neg z, i2]
    rw [if_neg c3]
    by_cases c4 : i = 4
    · rw [if_pos c4]
      refine mo (by omega) (by omega) _ ?_
      unfold wp_12_about_32
      rw [sp_throws0, if_pos rfl, if_neg c0, if_neg c1, if_neg c2, if_neg c3, sp_viewAt h0 h1 (by omega) (by omega), m0_w]
      exact ⟨by omega, by omega, fin _ _ e1.symm⟩
    · rw [if_neg c4]
      refine Or.inr ⟨rfl, ?_⟩
      unfold oM wp_12_about
      dsimp only
      rw [sp_noView, if_pos ⟨h0, h1⟩, sp_throws0, if_pos rfl, sp_in0 (by omega), if_pos rfl]
      unfold wp_12_about_32
      rw [sp_throws1, if_neg (by decide), m00]
      exact ⟨m0_0 _ _, rAll_m0 h⟩
theorem op_log {C : jC} {K g p : Int} (h : rAll C K) : wp_11_log g p C (fun E C1 => E = jNSE ∧ oM (wp_12_log g p) K 1 C1) (fun r => oR (wp_12_log g p) K r C) := by
  have hs := r_now h
  have hA := hs.1
  have hG := hs.2.2.2.2.2.1
  simp only [rA, rG, Int.reduceAdd] at hA hG
  have bad : ¬ (0 ≤ p ∧ p ≤ 4) → oM (wp_12_log g p) K 1 C := by
    intro hp
    unfold oM wp_12_log
    rw [sp_in0 hp, if_pos rfl]
    unfold wp_12_log_20
    rw [sp_throws1, if_neg (by decide), m00]
    exact ⟨m0_0 _ _, rAll_m0 h⟩
  unfold wp_11_log
  by_cases a : p < 0
  · rw [if_pos a]; exact ⟨rfl, bad (by omega)⟩
  rw [if_neg a]
  by_cases b : p < 5
  · rw [if_pos b]
    have key : ∀ y, y = (if 0 ≤ g ∧ g < C 346 3 then C 346 (8754 + 5 * g + p) else -1) → oR (wp_12_log g p) K y C := by
      intro y hy
      unfold oR wp_12_log
      rw [sp_in1 (by omega) (by omega), if_neg (by decide)]
      unfold wp_12_log_20
      rw [sp_throws0, if_pos rfl, m0_w, sp_in]
      refine ⟨⟨by omega, by omega⟩, ?_⟩
      by_cases c : 0 ≤ g ∧ g < C 346 3
      · rw [if_pos c] at hy
        rw [if_pos (show 0 ≤ g ∧ g ≤ C 346 3 - 1 by omega), if_neg (by decide)]
        exact ⟨by omega, by omega, m0_0 _ _, hy.symm, rAll_m0 h⟩
      · rw [if_neg c] at hy
        rw [if_neg (show ¬ (0 ≤ g ∧ g ≤ C 346 3 - 1) by omega), if_pos rfl]
        exact ⟨m0_0 _ _, hy.symm, rAll_m0 h⟩
    unfold wp_3_partOf
    by_cases c : g < 0
    · rw [if_pos c]; exact key _ (by rw [if_neg (by omega)])
    rw [if_neg c]
    by_cases d : C 44 2 ≤ g
    · rw [if_pos d]; exact key _ (by rw [if_neg (by omega)])
    rw [if_neg d, if_neg a, if_pos b]
    refine ⟨⟨by omega, by omega⟩, key _ ?_⟩
    rw [if_pos (by omega)]
    simp only [Int.reduceAdd]
    exact hG.2.2 g p (by omega) (by omega) (by omega) (by omega)
  · rw [if_neg b]; exact ⟨rfl, bad (by omega)⟩
theorem sp_holds {a x : Int} {C : jC} {post : Int → Prop} (hn : C a 1 ≤ 24) (h : ∀ r, jFst (fun j => C (a + 1) j = x) (C a 1) r → post (if r = -1 then 0 else 1)) : wp_6_holds a x C post := by
  unfold wp_6_holds
  refine sp_placeOf hn (fun r hr => ?_)
  have := h r hr
  by_cases e : r = -1
  · rw [if_pos e] at this ⊢; exact this
  · rw [if_neg e] at this ⊢; exact this
theorem op_stale {C : jC} {K v : Int} (h : rAll C K) : wp_11_stale v C (fun E C1 => E = jIOB ∧ oM (wp_12_stale v) K 1 C1) (fun r => oR (wp_12_stale v) K r C) := by
  have hs := r_now h
  unfold wp_11_stale
  refine sp_viewNumbered (fun hn => ⟨rfl, ?_⟩) (fun h0 h1 => ?_)
  · unfold oM wp_12_stale
    rw [sp_noView, if_neg hn, sp_throws1, if_neg (by decide), m00]
    exact ⟨m0_0 _ _, rAll_m0 h⟩
  · obtain ⟨l1, l2, l3, l4, -⟩ := r_list hs h0 h1
    have H : ∀ k, ∃ x, 0 ≤ k → k < C 346 (298 + 2114 * v) → (x = 0 ∨ x = 1) ∧ jDet (wp_2_suits (51 + 72 * v + 1) 36 (C (51 + 72 * v + 29 + 1) k) C) (1 - x) ∧ ∀ C' : jC, C' 346 = C 346 → jDet (wp_12_isFit v (C 346 (298 + 2114 * v + 1 + k)) C') (1 - x) := by
      intro k
      by_cases hk : 0 ≤ k ∧ k < C 346 (298 + 2114 * v)
      · obtain ⟨a1, a2, a3, a4⟩ := l4 k hk.1 hk.2
        obtain ⟨x, x0, x1, x2⟩ := sp_fit hs h0 h1 a1 a2 a4
        refine ⟨1 - x, fun _ _ => ⟨by omega, ?_⟩⟩
        rw [a3, show 1 - (1 - x) = x by omega]
        exact ⟨x1, x2⟩
      · exact ⟨0, fun a b => absurd ⟨a, b⟩ hk⟩
    obtain ⟨ρ, hρ⟩ := Classical.skolem.mp H
    unfold wp_4_staleBits
    refine jL2_of (fun x k => 0 ≤ k ∧ k ≤ C 346 (298 + 2114 * v) ∧ x = jFold (jBit ρ) 0 k.toNat) (fun _ k => (C 346 (298 + 2114 * v) - k).toNat) (fun Q x k hi hk => ?_) ⟨by omega, by omega, rfl⟩
    obtain ⟨i0, i1, i2⟩ := hi
    unfold wp_4_staleBits_5
    rw [sp_length, l1]
    by_cases a : C 346 (298 + 2114 * v) ≤ k
    · rw [if_pos a]
      unfold oR wp_12_stale
      dsimp only
      rw [sp_noView, if_pos ⟨h0, h1⟩, sp_throws0, if_pos rfl]
      refine jL2_of (fun x k => 0 ≤ k ∧ k ≤ C 346 (298 + 2114 * v) ∧ x = jFold (jBit ρ) 0 k.toNat) (fun _ k => (C 346 (298 + 2114 * v) - k).toNat) (fun Q' x' k' hi' hk' => ?_) ⟨by omega, by omega, rfl⟩
      obtain ⟨j0, j1, j2⟩ := hi'
      unfold wp_12_stale_23 wp_12_size
      rw [sp_listOf h0 h1, m0_w, sp_listOf h0 h1]
      refine ⟨by omega, by omega, ?_⟩
      dsimp only
      by_cases a' : C 346 (298 + 2114 * v) ≤ k'
      · rw [if_pos a']
        refine ⟨m0_0 _ _, ?_, rAll_m0 h⟩
        rw [i2, j2, show k' = k by omega]
      · rw [if_neg a']
        unfold wp_12_keyAt
        rw [m0_w]
        refine ⟨by omega, by omega, ?_⟩
        obtain ⟨g1, -, g3⟩ := hρ k' j0 (by omega)
        refine g3 _ (m0_w _ _) _ ?_
        rcases g1 with z | z
        · rw [if_neg (by omega), jOr_0 (j2 ▸ jBit_rng ρ _)]
          refine hk' _ _ ⟨by omega, by omega, ?_⟩ (by omega)
          rw [jFold_s j0, jBit, if_neg (by omega), j2]
        · rw [if_pos (by omega)]
          refine hk' _ _ ⟨by omega, by omega, ?_⟩ (by omega)
          rw [jFold_s j0, jBit, if_pos z, j2]
    · rw [if_neg a, sp_at]
      have e : jAt C (51 + 72 * v + 29) k = C (51 + 72 * v + 29 + 1) k := by unfold jAt; rw [if_pos (by omega)]
      rw [e]
      obtain ⟨g1, g2, -⟩ := hρ k i0 (by omega)
      refine g2 _ ?_
      rcases g1 with z | z
      · rw [if_neg (by omega)]
        refine hk _ _ ⟨by omega, by omega, ?_⟩ (by omega)
        rw [jFold_s i0, jBit, if_neg (by omega), i2]
      · rw [if_pos (by omega)]
        refine hk _ _ ⟨by omega, by omega, ?_⟩ (by omega)
        rw [jFold_s i0, jBit, if_pos z, i2]
theorem op_pending {C : jC} {K v : Int} (h : rAll C K) : wp_11_pending v C (fun E C1 => E = jIOB ∧ oM (wp_12_pending v) K 1 C1) (fun r => oR (wp_12_pending v) K r C) := by
  have hs := r_now h
  unfold wp_11_pending
  refine sp_viewNumbered (fun hn => ⟨rfl, ?_⟩) (fun h0 h1 => ?_)
  · unfold oM wp_12_pending
    rw [sp_noView, if_neg hn, sp_throws1, if_neg (by decide), m00]
    exact ⟨m0_0 _ _, rAll_m0 h⟩
  · obtain ⟨l1, l2, l3, l4, -⟩ := r_list hs h0 h1
    obtain ⟨o1, o2, o3, o4, -⟩ := r_ord hs
    have live : ∀ k, 0 ≤ k → k < C 346 273 → rLive C 35 (C 42 k) := fun k a b => ⟨k, a, by simp only [Int.reduceAdd]; omega, rfl⟩
    have H : ∀ k, ∃ x, 0 ≤ k → k < C 346 273 → (x = 0 ∨ x = 1) ∧ jDet (wp_2_suits (51 + 72 * v + 1) 36 (C 42 k) C) x ∧ ∀ C' : jC, C' 346 = C 346 → jDet (wp_12_isFit v (C 346 (274 + k)) C') x := by
      intro k
      by_cases hk : 0 ≤ k ∧ k < C 346 273
      · obtain ⟨a1, a2, a3⟩ := o4 k hk.1 hk.2
        obtain ⟨x, x0, x1, x2⟩ := sp_fit hs h0 h1 a1 a2 (live k hk.1 hk.2)
        refine ⟨x, fun _ _ => ⟨x0, x1, ?_⟩⟩
        rw [a3]; exact x2
      · exact ⟨0, fun a b => absurd ⟨a, b⟩ hk⟩
    obtain ⟨σ, hσ⟩ := Classical.skolem.mp H
    have H2 : ∀ k, ∃ r, jFst (fun j => C (51 + 72 * v + 29 + 1) j = C 42 k) (C (51 + 72 * v + 29) 1) r := fun k => jFst_ex _ _ (by omega)
    obtain ⟨π, hπ⟩ := Classical.skolem.mp H2
    obtain ⟨ρ, hρ⟩ : ∃ ρ : Int → Int, ∀ k, (ρ k = 1 ↔ (π k = -1 ∧ σ k = 1)) := ⟨fun k => if π k = -1 ∧ σ k = 1 then 1 else 0, fun k => by
      by_cases z : π k = -1 ∧ σ k = 1
      · simp [z]
      · simp [z]⟩
    unfold wp_4_pendingBits
    simp only [Int.reduceAdd]
    refine jL2_of (fun x k => 0 ≤ k ∧ k ≤ C 346 273 ∧ x = jFold (jBit ρ) 0 k.toNat) (fun _ k => (C 346 273 - k).toNat) (fun Q x k hi hk => ?_) ⟨by omega, by omega, rfl⟩
    obtain ⟨i0, i1, i2⟩ := hi
    unfold wp_4_pendingBits_14
    rw [sp_length, o1]
    by_cases a : C 346 273 ≤ k
    · rw [if_pos a]
      unfold oR wp_12_pending
      dsimp only
      rw [sp_noView, if_pos ⟨h0, h1⟩, sp_throws0, if_pos rfl]
      refine jL2_of (fun x k => 0 ≤ k ∧ k ≤ C 346 273 ∧ x = jFold (jBit ρ) 0 k.toNat) (fun _ k => (C 346 273 - k).toNat) (fun Q' x' k' hi' hk' => ?_) ⟨by omega, by omega, rfl⟩
      obtain ⟨j0, j1, j2⟩ := hi'
      unfold wp_12_pending_23
      rw [sp_rows, m0_w]
      by_cases a' : C 346 273 ≤ k'
      · rw [if_pos a']
        refine ⟨m0_0 _ _, ?_, rAll_m0 h⟩
        rw [i2, j2, show k' = k by omega]
      · rw [if_neg a']
        unfold wp_12_keyAt
        rw [m0_w]
        simp only [Int.reduceAdd]
        refine ⟨by omega, by omega, ?_⟩
        obtain ⟨g1, -, g3⟩ := hσ k' j0 (by omega)
        obtain ⟨b1, b2, b3⟩ := o4 k' j0 (by omega)
        have no : ¬ (π k' = -1 ∧ σ k' = 1) → Q' (jOr x' 0) (k' + 1) := by
          intro z
          rw [jOr_0 (j2 ▸ jBit_rng ρ _)]
          refine hk' _ _ ⟨by omega, by omega, ?_⟩ (by omega)
          rw [jFold_s j0, jBit, if_neg (fun y => z ((hρ k').mp y)), j2]
        refine g3 _ (m0_w _ _) _ ?_
        by_cases z : σ k' = 0
        · rw [if_pos z]; exact no (by omega)
        · rw [if_neg z, sp_listOf h0 h1]
          refine ⟨by omega, by omega, ?_⟩
          refine sp_placeIn (by omega) (by rw [m0_w]; omega) (by omega) (fun p hp => ?_)
          rw [m0_w, b3] at hp
          have e := r_place hs h0 h1 b1 b2 (live k' j0 (by omega)) (hπ k') hp
          by_cases y : p = -1
          · rw [if_pos y]
            refine hk' _ _ ⟨by omega, by omega, ?_⟩ (by omega)
            rw [jFold_s j0, jBit, if_pos ((hρ k').mpr ⟨by omega, by omega⟩), j2]
          · rw [if_neg y]; exact no (by omega)
    · rw [if_neg a, sp_at]
      have e : jAt C 41 k = C 42 k := by unfold jAt; rw [if_pos (by omega)]; rfl
      rw [e]
      refine sp_holds (by omega) (fun p hp => ?_)
      have ep := jFst_uniq hp (hπ k)
      obtain ⟨g1, g2, -⟩ := hσ k i0 (by omega)
      have no : ¬ (π k = -1 ∧ σ k = 1) → Q x (k + 1) := by
        intro z
        refine hk _ _ ⟨by omega, by omega, ?_⟩ (by omega)
        rw [jFold_s i0, jBit, if_neg (fun y => z ((hρ k).mp y)), i2]
      by_cases y : p = -1
      · rw [if_pos y, if_pos rfl]
        refine g2 _ ?_
        by_cases z : σ k = 0
        · rw [if_pos z]; exact no (by omega)
        · rw [if_neg z]
          refine hk _ _ ⟨by omega, by omega, ?_⟩ (by omega)
          rw [jFold_s i0, jBit, if_pos ((hρ k).mpr ⟨by omega, by omega⟩), i2]
      · rw [if_neg y, if_neg (by decide)]; exact no (by omega)

-- middle
theorem rAll_q {C D : jC} {K : Int} (h : rAll C K) (hd : ∀ b, ¬ (339 ≤ b ∧ b < 345) → D b = C b) : rAll D K := by
  obtain ⟨a1, a2, a3, a4, a5, a6, a7, a8⟩ := h
  unfold rAll
  rw [hd 1 (by omega), hd 345 (by omega), hd 346 (by omega), hd 347 (by omega), hd 0 (by omega)]
  refine ⟨a1, a2, a3, fun i i0 i1 => ?_, a5, rS_keep (fun b hb => hd b (by unfold rOwn at hb; omega)) a6, a7, ?_⟩
  · rw [hd 349 (by omega), hd 2 (by omega)]; exact a4 i i0 i1
  · rcases a8 with w | ⟨w1, w2, w3, w4⟩
    · exact Or.inl w
    · exact Or.inr ⟨w1, w2, rS_keep (fun b hb => hd b (by unfold rOwn at hb; omega)) w3, w4⟩
theorem sp_upTo {C : jC} {w : Int → Int} (h : rS 35 C w) {v c x q : Int} (v0 : 0 ≤ v) (v1 : v < 4) (c0 : 0 ≤ c) (c1 : c < w 0) (hq : q = 0 ∨ q = 1) {C' : jC} (hC : C' 346 = w) : jDet (wp_12_upTo v c x q C') (jFold (jBel (jLv C v c) x q) 0 (w (298 + 2114 * v)).toNat) := by
  intro post y
  obtain ⟨l1, l2, l3, -⟩ := r_list h v0 v1
  unfold wp_12_upTo
  refine jL2_of (fun z k => 0 ≤ k ∧ k ≤ w (298 + 2114 * v) ∧ z = jFold (jBel (jLv C v c) x q) 0 k.toNat) (fun _ k => (w (298 + 2114 * v) - k).toNat) (fun Q z k hi hk => ?_) ⟨by omega, by omega, rfl⟩
  obtain ⟨i0, i1, i2⟩ := hi
  have rg := jBel_rng (jLv C v c) x q k.toNat
  unfold wp_12_upTo_6
  rw [sp_vsize v0 v1, hC]
  by_cases a : w (298 + 2114 * v) ≤ k
  · rw [if_pos a, i2, show k = w (298 + 2114 * v) by omega]; exact y
  · rw [if_neg a]
    refine sp_mval h v0 v1 i0 (by omega) c0 c1 hC _ ?_
    have yes : (jLv C v c k ≠ -1000000 ∧ (jLv C v c k < x ∨ (q = 1 ∧ jLv C v c k = x))) → jRng (z + 1) ∧ Q (z + 1) (k + 1) := by
      intro g
      refine ⟨⟨by omega, by omega⟩, hk _ _ ⟨by omega, by omega, ?_⟩ (by omega)⟩
      rw [jFold_s i0, jBel, if_pos g, i2]
    have no : ¬ (jLv C v c k ≠ -1000000 ∧ (jLv C v c k < x ∨ (q = 1 ∧ jLv C v c k = x))) → Q (z + 0) (k + 1) := by
      intro g
      refine hk _ _ ⟨by omega, by omega, ?_⟩ (by omega)
      rw [jFold_s i0, jBel, if_neg g, i2, Int.add_zero]
    by_cases b : jLv C v c k = -1000000
    · rw [if_pos b]; exact no (fun g => g.1 b)
    rw [if_neg b]
    by_cases d : jLv C v c k < x
    · rw [if_pos d]; exact yes ⟨b, Or.inl d⟩
    rw [if_neg d]
    by_cases e : q = 0
    · rw [if_pos e]; exact no (fun g => by omega)
    rw [if_neg e]
    by_cases f : jLv C v c k = x
    · rw [if_pos f]; exact yes ⟨b, Or.inr ⟨by omega, f⟩⟩
    · rw [if_neg f]; exact no (fun g => by omega)
theorem op_middle {C : jC} {K v c : Int} (h : rAll C K) : wp_11_middle v c C (fun E C1 => E = jIOB ∧ oM (wp_12_middle v c) K 1 C1) (fun r C1 => oR (wp_12_middle v c) K r C1) := by
  have hs := r_now h
  obtain ⟨k1, k2, k3, -⟩ := r_cols hs
  unfold wp_11_middle
  refine sp_viewNumbered (fun hn => ⟨rfl, ?_⟩) (fun h0 h1 => ?_)
  · unfold oM wp_12_middle
    rw [sp_noView1 hn, if_neg (by decide), sp_throws1, if_neg (by decide), m00]
    exact ⟨m0_0 _ _, rAll_m0 h⟩
  refine sp_needColumn (by omega) (fun hn => ⟨rfl, ?_⟩) (fun c0 c1 => ?_)
  · unfold oM wp_12_middle
    rw [sp_noView0 h0 h1, if_pos rfl, sp_noCol1 hs (m0_w _ _) hn, if_neg (by decide), sp_throws1, if_neg (by decide), m00]
    exact ⟨m0_0 _ _, rAll_m0 h⟩
  obtain ⟨l1, l2, l3, l4, -⟩ := r_list hs h0 h1
  obtain ⟨f, hf⟩ : ∃ f, f = jLv C v c := ⟨_, rfl⟩
  obtain ⟨n, hn⟩ : ∃ n, n = C 346 (298 + 2114 * v) := ⟨_, rfl⟩
  have fv : ∀ i, 0 ≤ i → i < n → f i < 1000000 := by
    intro i a b
    have := jVal_rng (r_lv hs h0 h1 a (by omega) c0 (by omega))
    rw [hf]; omega
  have mo : ∀ (D : jC) (m r : Int), (∀ b, b ≠ 344 → D b = C b) → jRow f (D 344) m n → r = (if m = 0 then -1000000 else D 344 ((m - 1) / 2)) → oR (wp_12_middle v c) K r D := by
    intro D m r hD hR hr
    have hA : rAll D K := rAll_q h (fun b hb => hD b (by omega))
    have hsD := r_now hA
    have eD : D 346 = C 346 := hD 346 (by decide)
    have lD : ∀ i, jLv D v c i = f i := by
      intro i; rw [hf]; unfold jLv; rw [hD 39 (by decide), hD (51 + 72 * v + 29 + 1) (by omega)]
    have lD2 : jLv D v c = f := funext lD
    have eN : D 346 (298 + 2114 * v) = n := by rw [eD, hn]
    have eW : D 346 0 = C 346 0 := by rw [eD]
    obtain ⟨m0', m1', r3, r4, r5, r6⟩ := hR
    have cnt : jFold (jBel f 1000000 0) 0 n.toNat = m := by
      rw [← r6, jBel_all (fun i a b => ?_)]
      · omega
      · obtain ⟨j, j0, j1, j2⟩ := r5 i a (by omega)
        have := fv j j0 j1
        exact ⟨r3 i a (by omega), Or.inl (by omega)⟩
    unfold oR wp_12_middle
    rw [sp_noView0 h0 h1, if_pos rfl, sp_noCol0 hsD (m0_w _ _) c0 (by rw [hD 36 (by decide)]; exact c1), if_pos rfl, sp_throws0, if_pos rfl]
    refine jL2_of (fun z k => 0 ≤ k ∧ k ≤ n ∧ z = jFold (jBel f 1000000 0) 0 k.toNat) (fun _ k => (n - k).toNat) (fun Q z k hi hk => ?_) ⟨by omega, by omega, rfl⟩
    obtain ⟨i0, i1, i2⟩ := hi
    have rg := jBel_rng f 1000000 0 k.toNat
    unfold wp_12_middle_40
    rw [sp_vsize h0 h1, m0_w, eN]
    by_cases a : n ≤ k
    · rw [if_pos a]
      have ez : z = m := by rw [i2, show k = n by omega, cnt]
      subst ez
      refine ⟨⟨by omega, by omega⟩, ?_⟩
      refine jL1_of (fun i => 0 ≤ i ∧ i ≤ n ∧ (z ≠ 0 → ∀ j, 0 ≤ j → j < i → f j ≠ D 344 ((z - 1) / 2))) (fun i => (n - i).toNat) (fun Q2 i hi2 hk2 => ?_) ⟨by omega, by omega, fun _ j _ _ => by omega⟩
      obtain ⟨b0, b1, b2⟩ := hi2
      unfold wp_12_middle_90
      rw [sp_vsize h0 h1, m0_w, eN]
      by_cases b : n ≤ i
      · rw [if_pos b]
        refine ⟨m0_0 _ _, ?_, rAll_m0 hA⟩
        by_cases e : z = 0
        · rw [hr, if_pos e]
        · obtain ⟨j, j0, j1, j2⟩ := r5 ((z - 1) / 2) (by omega) (by omega)
          exact absurd j2 (b2 e j j0 (by omega))
      · rw [if_neg b]
        by_cases e : z ≤ 0
        · rw [if_pos e]
          refine ⟨m0_0 _ _, ?_, rAll_m0 hA⟩
          rw [hr, if_pos (by omega)]
        · rw [if_neg e]
          have at1 := jBel_at (S := D 344) (t := (z - 1) / 2) (m := z) (by omega) (by omega) r3 r4
          rw [r6, r6] at at1
          rw [tdiv_nn (by omega)]
          refine sp_mval hsD h0 h1 b0 (by omega) c0 (by omega) (m0_w D 0) _ ?_
          rw [lD]
          have nx : f i ≠ D 344 ((z - 1) / 2) → Q2 (i + 1) := by
            intro g
            refine hk2 _ ⟨by omega, by omega, fun _ j j0 j1 => ?_⟩ (by omega)
            by_cases ej : j = i
            · rw [ej]; exact g
            · exact b2 (by omega) j j0 (by omega)
          by_cases d : f i = -1000000
          · rw [if_pos d]
            exact nx (fun g => r3 ((z - 1) / 2) (by omega) (by omega) (by rw [← g]; exact d))
          rw [if_neg d]
          refine sp_upTo hsD h0 h1 c0 (by omega) (Or.inl rfl) (m0_w D 0) _ ?_
          rw [lD2, eN]
          by_cases g : (z - 1) / 2 < jFold (jBel f (f i) 0) 0 n.toNat
          · rw [if_pos g]
            exact nx (fun q => by rw [q] at g; omega)
          rw [if_neg g]
          refine sp_upTo hsD h0 h1 c0 (by omega) (Or.inr rfl) (m0_w D 0) _ ?_
          rw [lD2, eN]
          by_cases g2 : jFold (jBel f (f i) 1) 0 n.toNat ≤ (z - 1) / 2
          · rw [if_pos g2]
            exact nx (fun q => by rw [q] at g2; omega)
          · rw [if_neg g2]
            refine ⟨m0_0 _ _, ?_, rAll_m0 hA⟩
            rw [hr, if_neg (by omega)]
            exact jBel_uniq (f := f) (t := (z - 1) / 2) (n := n.toNat) (by omega) (by omega) at1.1 at1.2
    · rw [if_neg a]
      refine sp_mval hsD h0 h1 i0 (by omega) c0 (by omega) (m0_w D 0) _ ?_
      rw [lD]
      by_cases d : f k = -1000000
      · rw [if_pos d]
        refine hk _ _ ⟨by omega, by omega, ?_⟩ (by omega)
        rw [jFold_s i0, jBel, if_neg (fun q => q.1 d), i2, Int.add_zero]
      · rw [if_neg d]
        refine ⟨⟨by omega, by omega⟩, hk _ _ ⟨by omega, by omega, ?_⟩ (by omega)⟩
        rw [jFold_s i0, jBel, if_pos ⟨d, Or.inl (fv k i0 (by omega))⟩, i2]
  unfold wp_4_middleOf
  refine jL3_of (fun m k D => 0 ≤ k ∧ k ≤ n ∧ (∀ b, b ≠ 344 → D b = C b) ∧ jRow f (D 344) m k) (fun _ k _ => (n - k).toNat) (fun Q m k D hi hk => ?_) ⟨by omega, by omega, fun _ _ => rfl, ⟨by omega, by omega, fun i _ _ => by omega, fun i j _ _ _ => by omega, fun i _ _ => by omega, fun y q => rfl⟩⟩
  obtain ⟨i0, i1, i2, i3⟩ := hi
  have hR := id i3
  obtain ⟨m0', m1', r3, r4, r5, r6⟩ := i3
  have hA : rAll D K := rAll_q h (fun b hb => i2 b (by omega))
  have hsD := r_now hA
  have eD : D 346 = C 346 := i2 346 (by decide)
  unfold wp_4_middleOf_6
  rw [sp_length, i2 (51 + 72 * v + 29) (by omega), l1, ← hn]
  by_cases a : n ≤ k
  · rw [if_pos a]
    rw [show k = n by omega] at hR
    by_cases e : m = 0
    · rw [if_pos e]; exact mo D m _ i2 hR (by rw [if_pos e])
    · rw [if_neg e]
      rw [tdiv_nn (by omega)]
      exact ⟨⟨by omega, by omega⟩, by omega, by omega, mo D m _ i2 hR (by rw [if_neg e])⟩
  · rw [if_neg a, if_neg (by omega), sp_vat hsD h0 h1 i0 (by rw [eD]; omega), sp_vval hsD h0 h1 i0 (by rw [eD]; omega) c0 (by rw [eD]; omega)]
    have ek : jLv D v c k = f k := by rw [hf]; unfold jLv; rw [i2 39 (by decide), i2 (51 + 72 * v + 29 + 1) (by omega)]
    rw [ek]
    by_cases d : f k = -1000000
    · rw [if_pos d]
      exact hk _ _ _ ⟨by omega, by omega, i2, jRow_skip i0 hR d⟩ (by omega)
    · rw [if_neg d]
      refine sp_ins m0' (by omega) i0 (by omega) r4 (fun D1 p d1 p0 p1 t1 t2 t3 u1 u2 => ?_)
      exact hk _ _ _ ⟨by omega, by omega, fun b hb => by rw [d1 b hb, i2 b hb], jRow_put i0 hR d p0 p1 t1 t2 t3 u1 u2⟩ (by omega)

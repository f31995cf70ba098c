-- middle
theorem rAll_q {C D : jC} {K : Int} (h : rAll C K) (hd : ∀ b, ¬ (339 ≤ b ∧ b < 345) → D b = C b) : rAll D K := by
  obtain ⟨a1, a2, a3, a4, a5, a6, a7, a8⟩ := h
  unfold rAll
  rw [hd 1 (by omega), hd 345 (by omega), hd 346 (by omega), hd 347 (by omega), hd 0 (by omega)]
  refine ⟨a1, a2, a3, fun i i0 i1 => ?_, a5, rS_keep (fun b hb => hd b (by unfold rOwn at hb; omega)) a6, a7, ?_⟩
  · rw [hd 349 (by omega), hd 2 (by omega)]; exact a4 i i0 i1
  · rcases a8 with w | ⟨w1, w2, w3, w4⟩
    · exact Or.inl w
    · exact Or.inr ⟨w1, w2, rS_keep (fun b hb => hd b (by unfold rOwn at hb; omega)) w3, w4⟩
theorem sp_upTo {C : jC} {w : Int → Int} (h : rS 35 C w) {v c x q : Int} (v0 : 0 ≤ v) (v1 : v < 4) (c0 : 0 ≤ c) (c1 : c < w 0) (hq : q = 0 ∨ q = 1) {C' : jC} (hC : C' 346 = w) : jDet (wp_12_upTo v c x q C') (jFold (jBel (jLv C v c) x q) 0 (w (298 + 2114 * v)).toNat) := by
  intro post y
  obtain ⟨l1, l2, l3, -⟩ := r_list h v0 v1
  unfold wp_12_upTo
  refine jL2_of (fun z k => 0 ≤ k ∧ k ≤ w (298 + 2114 * v) ∧ z = jFold (jBel (jLv C v c) x q) 0 k.toNat) (fun _ k => (w (298 + 2114 * v) - k).toNat) (fun Q z k hi hk => ?_) ⟨by omega, by omega, rfl⟩
  obtain ⟨i0, i1, i2⟩ := hi
  have rg := jBel_rng (jLv C v c) x q k.toNat
  unfold wp_12_upTo_6
  rw [sp_vsize v0 v1, hC]
  by_cases a : w (298 + 2114 * v) ≤ k
  · rw [if_pos a, i2, show k = w (298 + 2114 * v) by omega]; exact y
  · rw [if_neg a]
    refine sp_mval h v0 v1 i0 (by omega) c0 c1 hC _ ?_
    have yes : (jLv C v c k ≠ -1000000 ∧ (jLv C v c k < x ∨ (q = 1 ∧ jLv C v c k = x))) → jRng (z + 1) ∧ Q (z + 1) (k + 1) := by
      intro g
      refine ⟨⟨by omega, by omega⟩, hk _ _ ⟨by omega, by omega, ?_⟩ (by omega)⟩
      rw [jFold_s i0, jBel, if_pos g, i2]
    have no : ¬ (jLv C v c k ≠ -1000000 ∧ (jLv C v c k < x ∨ (q = 1 ∧ jLv C v c k = x))) → Q (z + 0) (k + 1) := by
      intro g
      refine hk _ _ ⟨by omega, by omega, ?_⟩ (by omega)
      rw [jFold_s i0, jBel, if_neg g, i2, Int.add_zero]
    by_cases b : jLv C v c k = -1000000
    · rw [if_pos b]; exact no (fun g => g.1 b)
    rw [if_neg b]
    by_cases d : jLv C v c k < x
    · rw [if_pos d]; exact yes ⟨b, Or.inl d⟩
    rw [if_neg d]
    by_cases e : q = 0
    · rw [if_pos e]; exact no (fun g => by omega)
    rw [if_neg e]
    by_cases f : jLv C v c k = x
    · rw [if_pos f]; exact yes ⟨b, Or.inr ⟨by omega, f⟩⟩
    · rw [if_neg f]; exact no (fun g => by omega)

-- what bars the taking back
theorem sp_seatKey {C : jC} {w : Int → Int} (h : rS 35 C w) (key : Int) :
    ∃ σ, ((σ = -1 ∧ ∀ s, 0 ≤ s → s < 24 → rLive C 35 s → C 38 s ≠ key) ∨ (0 ≤ σ ∧ σ < 24 ∧ rLive C 35 σ ∧ C 38 σ = key)) ∧ jDet (wp_7_seatOf 36 key C) σ ∧ ∀ D : jC, D 346 = w → jDet (wp_12_rowOf key D) (if σ = -1 then -1 else 9 + 11 * σ) := by
  obtain ⟨o1, o2, o3, o4, o5⟩ := r_ord h
  obtain ⟨r, hr⟩ := jFst_ex (fun j => C 38 (C 42 j) = key) (C 41 1) (by omega)
  obtain ⟨r', hr'⟩ := jFst_ex (fun j => 0 ≤ key ∧ w (9 + 11 * j) = key) 24 (by omega)
  have rr := r_row h hr hr'
  simp only [Int.reduceAdd] at rr
  have det : ∀ σ, σ = (if r = -1 then -1 else C 42 r) → jDet (wp_7_seatOf 36 key C) σ := by
    intro σ e post z
    refine sp_seatOf (by simp only [Int.reduceAdd]; omega) (fun i a b => ?_) (fun q hq => ?_)
    · simp only [Int.reduceAdd] at b ⊢
      exact ⟨(o4 i a (by omega)).1, (o4 i a (by omega)).2.1⟩
    · simp only [Int.reduceAdd] at hq ⊢
      rw [jFst_uniq hq hr, ← e]; exact z
  have mdet : ∀ σ, σ = (if r' = -1 then -1 else 9 + 11 * r') → ∀ D : jC, D 346 = w → jDet (wp_12_rowOf key D) σ := by
    intro σ e D hD post z
    refine sp_rowOf (fun q hq => ?_)
    rw [hD] at hq
    rw [jFst_uniq hq hr', ← e]; exact z
  rcases rr with ⟨q1, q2⟩ | ⟨q1, q2, q3, q4, q5, q6, q7, q8, q9⟩
  · refine ⟨-1, Or.inl ⟨rfl, fun s s0 s1 sl e => ?_⟩, det _ (by rw [if_pos q1]), mdet _ (by rw [if_pos q2, if_pos rfl])⟩
    rcases hr with ⟨a0, -⟩ | ⟨-, a1⟩
    · omega
    · obtain ⟨j, j0, j1, j2⟩ := sl
      simp only [Int.reduceAdd] at j1 j2
      exact a1 j j0 j1 (by show C 38 (C 42 j) = key; rw [j2]; exact e)
  · refine ⟨r', Or.inr ⟨q5, q6, q9, q7⟩, det _ (by rw [if_neg q1, q4]), mdet _ (by rw [if_neg (by omega)])⟩
/-- a change still stands -/
def jStd (w : Int → Int) (σ : Int → Int) (t i : Int) : Prop := σ i ≠ -1 ∧ w (9 + 11 * σ i + 1 + w (t + 1 + 4 * i + 1)) = w (t + 1 + 4 * i + 3)
theorem sp_bar {C : jC} {w : Int → Int} (h : rS 35 C w) {e t : Int} (he : rEdit C w e t) (t0 : 0 ≤ t) (t1 : t + 241 ≤ 8954) :
    ∃ (σ : Int → Int) (r : Int), (∀ i, (σ i = -1) ∨ (0 ≤ σ i ∧ σ i < 24 ∧ rLive C 35 (σ i) ∧ C 38 (σ i) = w (t + 1 + 4 * i))) ∧ jFst (fun i => ¬ jStd w σ t i) (w t) r ∧ jDet (wp_0_firstBarred e 36 C) (if r = -1 then -1 else w (t + 1 + 4 * r)) ∧ ∀ D : jC, D 346 = w → jDet (wp_12_firstBar t D) (if r = -1 then -1 else t + 1 + 4 * r) := by
  obtain ⟨k1, k2, k3, -⟩ := r_cols h
  obtain ⟨e1, e2, e3, e4, e5⟩ := he
  obtain ⟨σ, hσ⟩ := Classical.skolem.mp (fun i => sp_seatKey h (w (t + 1 + 4 * i)))
  obtain ⟨r, hr⟩ := jFst_ex (fun i => ¬ jStd w σ t i) (w t) (by omega)
  refine ⟨σ, r, fun i => ?_, hr, fun post z => ?_, fun D hD post z => ?_⟩
  · rcases (hσ i).1 with q | q
    · exact Or.inl q.1
    · exact Or.inr q
  · unfold wp_0_firstBarred
    refine jL1_of (fun i => 0 ≤ i ∧ i ≤ w t ∧ ∀ j, 0 ≤ j → j < i → jStd w σ t j) (fun i => (w t - i).toNat) (fun K i hi hk => ?_) ⟨by omega, by omega, fun j a b => by omega⟩
    obtain ⟨i0, i1, i2⟩ := hi
    unfold wp_0_firstBarred_2
    rw [e1]
    by_cases a : w t ≤ i
    · rw [if_pos a]
      have : r = -1 := jFst_uniq hr (Or.inr ⟨rfl, fun j a b c => c (i2 j a (by omega))⟩)
      rw [if_pos this] at z; exact z
    · rw [if_neg a, if_neg (by omega)]
      obtain ⟨f1, f2, f3, f4, f5, f6, f7, -⟩ := e4 i i0 (by omega)
      have no : ¬ jStd w σ t i → post (w (t + 1 + 4 * i)) := by
        intro q
        have : r = i := jFst_uniq hr (Or.inl ⟨i0, by omega, q, fun j a b c => c (i2 j a b)⟩)
        rw [if_neg (by omega), this] at z; exact z
      refine ⟨i0, ?_⟩
      rw [f1, f2, f4]
      obtain ⟨g1, g2, -⟩ := hσ i
      refine g2 _ ?_
      by_cases b : σ i = -1
      · rw [if_pos b]
        exact no (fun q => q.1 b)
      · rw [if_neg b]
        rcases g1 with g1 | ⟨g3, g4, g5, g6⟩
        · exact absurd g1.1 b
        rw [sp_val h g3 g4 f6 f7, ((r_live h g3 g4 g5).2.2.2 _ f6 f7).1]
        by_cases c : w (9 + 11 * σ i + 1 + w (t + 1 + 4 * i + 1)) = w (t + 1 + 4 * i + 3)
        · rw [if_pos c]
          refine hk _ ⟨by omega, by omega, fun j a d => ?_⟩ (by omega)
          by_cases ej : j = i
          · rw [ej]; exact ⟨b, c⟩
          · exact i2 j a (by omega)
        · rw [if_neg c]
          exact no (fun q => c q.2)
  · unfold wp_12_firstBar
    refine jL1_of (fun i => 0 ≤ i ∧ i ≤ w t ∧ ∀ j, 0 ≤ j → j < i → jStd w σ t j) (fun i => (w t - i).toNat) (fun K i hi hk => ?_) ⟨by omega, by omega, fun j a b => by omega⟩
    obtain ⟨i0, i1, i2⟩ := hi
    unfold wp_12_firstBar_2 wp_12_firstBar_32
    refine ⟨by omega, by omega, ?_⟩
    rw [hD]
    by_cases a : w t ≤ i
    · rw [if_pos a, if_pos a]
      have : r = -1 := jFst_uniq hr (Or.inr ⟨rfl, fun j a b c => c (i2 j a (by omega))⟩)
      rw [if_pos this] at z
      exact ⟨by omega, by omega, z⟩
    · rw [if_neg a, if_neg a]
      obtain ⟨f1, f2, f3, f4, f5, f6, f7, -⟩ := e4 i i0 (by omega)
      have no : ¬ jStd w σ t i → post (t + 1 + 4 * i) := by
        intro q
        have : r = i := jFst_uniq hr (Or.inl ⟨i0, by omega, q, fun j a b c => c (i2 j a b)⟩)
        rw [if_neg (by omega), this] at z; exact z
      have rg : jRng (t + 1 + 4 * i) := ⟨by omega, by omega⟩
      refine ⟨rg, ?_⟩
      unfold wp_12_stands
      refine ⟨by omega, by omega, ?_⟩
      rw [hD]
      obtain ⟨g1, -, g2⟩ := hσ i
      refine g2 D hD _ ?_
      by_cases b : σ i = -1
      · rw [if_pos b, if_pos rfl]
        dsimp only
        rw [if_pos rfl]
        exact ⟨by omega, by omega, rg, no (fun q => q.1 b)⟩
      · rcases g1 with g1 | ⟨g3, g4, g5, g6⟩
        · exact absurd g1.1 b
        rw [if_neg b, if_neg (by omega)]
        refine ⟨by omega, by omega, by omega, by omega, ?_⟩
        by_cases c : w (9 + 11 * σ i + 1 + w (t + 1 + 4 * i + 1)) = w (t + 1 + 4 * i + 3)
        · rw [if_pos c]
          dsimp only
          rw [if_neg (by decide)]
          refine hk _ ⟨by omega, by omega, fun j a d => ?_⟩ (by omega)
          by_cases ej : j = i
          · rw [ej]; exact ⟨b, c⟩
          · exact i2 j a (by omega)
        · rw [if_neg c]
          dsimp only
          rw [if_pos rfl]
          exact ⟨by omega, by omega, rg, no (fun q => c q.2)⟩
theorem sp_editAt {v k : Int} {C : jC} {post : Int → Prop} (v0 : 0 ≤ v) (v1 : v < 4) (k0 : 0 ≤ k) (k1 : k < 8) (y : post (298 + 2114 * v + 186 + 241 * k)) : wp_12_editAt v k C post := by
  unfold wp_12_editAt
  refine ⟨⟨by omega, by omega⟩, ?_⟩
  rw [sp_viewAt v0 v1 (by omega) (by omega), show 298 + 2114 * v + (186 + 241 * k) = 298 + 2114 * v + 186 + 241 * k by omega]
  exact y
theorem op_barred {C : jC} {K v : Int} (h : rAll C K) : wp_11_barred v C (fun E C1 => E = jIOB ∧ oM (wp_12_barred v) K 1 C1) (fun r => oR (wp_12_barred v) K r C) := by
  have hs := r_now h
  unfold wp_11_barred
  refine sp_viewNumbered (fun hn => ⟨rfl, ?_⟩) (fun v0 v1 => ?_)
  · unfold oM wp_12_barred
    rw [sp_noView1 hn, sp_throws1, if_neg (by decide), m00]
    exact ⟨m0_0 _ _, rAll_m0 h⟩
  obtain ⟨-, -, -, hE⟩ := r_view hs v0 v1
  obtain ⟨e1, e2, e3, e4, e5, e6⟩ := hE
  have w0 : jU C 345 0 0 346 = C 346 := m0_w _ _
  unfold wp_10_latestEdit
  by_cases a : C (51 + 72 * v) 3 ≤ 0
  · rw [if_pos a]
    dsimp only
    rw [if_pos (by decide)]
    unfold oR wp_12_barred
    rw [sp_noView0 v0 v1, sp_throws0, if_pos rfl, sp_viewAt v0 v1 (by omega) (by omega), w0]
    refine ⟨by omega, by omega, ?_⟩
    rw [if_pos (by omega)]
    exact ⟨m0_0 _ _, rfl, rAll_m0 h⟩
  · rw [if_neg a, if_neg (by omega)]
    obtain ⟨j, j0, j1, ej⟩ := e4 (C (51 + 72 * v) 3 - 1) (by omega) (by omega)
    rw [if_neg (by omega)]
    obtain ⟨σ, r, -, hr, b1, b2⟩ := sp_bar hs (e6 (C (51 + 72 * v) 3 - 1) (by omega) (by omega)) (by omega) (by omega)
    refine b1 _ ?_
    unfold oR wp_12_barred
    dsimp only
    rw [sp_noView0 v0 v1, sp_throws0, if_pos rfl, sp_viewAt v0 v1 (by omega) (by omega), w0]
    refine ⟨by omega, by omega, ?_⟩
    rw [if_neg (by omega)]
    refine ⟨⟨by omega, by omega⟩, sp_editAt v0 v1 (by omega) (by omega) ?_⟩
    rw [← e1]
    refine b2 _ w0 _ ?_
    by_cases c : r = -1
    · rw [if_pos c, if_pos rfl, if_pos c]
      exact ⟨m0_0 _ _, rfl, rAll_m0 h⟩
    · obtain ⟨r0, r1⟩ : 0 ≤ r ∧ r < C 346 (298 + 2114 * v + 186 + 241 * (C (51 + 72 * v) 3 - 1)) := by
        rcases hr with ⟨q1, q2, -⟩ | ⟨q1, -⟩
        · exact ⟨q1, q2⟩
        · exact absurd q1 c
      have := (e6 (C (51 + 72 * v) 3 - 1) (by omega) (by omega)).2.2.1
      rw [if_neg c, if_neg (by omega), if_neg c]
      exact ⟨by omega, by omega, m0_0 _ _, rfl, rAll_m0 h⟩

-- the values of a column down a view's list
def jLv (C : jC) (v c i : Int) : Int := C 39 (C (51 + 72 * v + 29 + 1) i * 5 + c)
theorem sp_vat {C : jC} {w : Int → Int} (h : rS 35 C w) {v i : Int} {post : Int → Prop} (v0 : 0 ≤ v) (v1 : v < 4) (i0 : 0 ≤ i) (i1 : i < w (298 + 2114 * v)) : wp_6_at (51 + 72 * v + 29) i C post = post (C (51 + 72 * v + 29 + 1) i) := by
  obtain ⟨l1, l2, l3, l4, -⟩ := r_list h v0 v1
  have e : jAt C (51 + 72 * v + 29) i = C (51 + 72 * v + 29 + 1) i := by unfold jAt; rw [if_pos (by omega)]
  rw [sp_at, e]
theorem sp_vval {C : jC} {w : Int → Int} (h : rS 35 C w) {v i c : Int} {post : Int → Prop} (v0 : 0 ≤ v) (v1 : v < 4) (i0 : 0 ≤ i) (i1 : i < w (298 + 2114 * v)) (c0 : 0 ≤ c) (c1 : c < w 0) : wp_7_valueAt 36 (C (51 + 72 * v + 29 + 1) i) c C post = post (jLv C v c i) := by
  obtain ⟨k1, k2, k3, -⟩ := r_cols h
  obtain ⟨l1, l2, l3, l4, -⟩ := r_list h v0 v1
  obtain ⟨a1, a2, a3, a4⟩ := l4 i i0 i1
  rw [sp_valueAt (by omega), if_pos ⟨⟨a1, a2⟩, c0, by omega⟩]
  simp only [Int.reduceAdd, jLv]
theorem sp_mval {C : jC} {w : Int → Int} (h : rS 35 C w) {v i c : Int} (v0 : 0 ≤ v) (v1 : v < 4) (i0 : 0 ≤ i) (i1 : i < w (298 + 2114 * v)) (c0 : 0 ≤ c) (c1 : c < w 0) {C' : jC} (hC : C' 346 = w) : jDet (wp_12_valueAt v i c C') (jLv C v c i) := by
  obtain ⟨k1, k2, k3, -⟩ := r_cols h
  obtain ⟨l1, l2, l3, l4, -⟩ := r_list h v0 v1
  obtain ⟨a1, a2, a3, a4⟩ := l4 i i0 i1
  intro post y
  unfold wp_12_valueAt
  rw [sp_listOf v0 v1]
  refine sp_mkeyAt (by omega) (by omega) ?_
  rw [hC, a3]
  have := sp_cellOf h a1 a2 a4 c0 (show c < 5 by omega) hC
  simp only [Int.reduceAdd] at this
  refine this _ ?_
  have e := (r_live h a1 a2 a4).2.2.2 c c0 c1
  rw [← e.1]
  exact y
theorem r_lv {C : jC} {w : Int → Int} (h : rS 35 C w) {v i c : Int} (v0 : 0 ≤ v) (v1 : v < 4) (i0 : 0 ≤ i) (i1 : i < w (298 + 2114 * v)) (c0 : 0 ≤ c) (c1 : c < w 0) : jVal (w (4 + c)) (jLv C v c i) := by
  obtain ⟨l1, l2, l3, l4, -⟩ := r_list h v0 v1
  obtain ⟨a1, a2, a3, a4⟩ := l4 i i0 i1
  have e := (r_live h a1 a2 a4).2.2.2 c c0 c1
  unfold jLv
  rw [e.1]
  exact e.2.2
theorem sp_vsize {v : Int} {C : jC} {post : Int → Prop} (v0 : 0 ≤ v) (v1 : v < 4) : wp_12_listOf v C (fun x => wp_12_size x C post) = post (C 346 (298 + 2114 * v)) := by
  rw [sp_listOf v0 v1]
  exact propext ⟨fun z => z.2.2, fun z => ⟨by omega, by omega, z⟩⟩
theorem sp_noView0 {v : Int} {C : jC} {post : Int → Prop} (v0 : 0 ≤ v) (v1 : v < 4) : wp_12_noView v C post = post 0 := by rw [sp_noView, if_pos ⟨v0, v1⟩]
theorem sp_noView1 {v : Int} {C : jC} {post : Int → Prop} (h : ¬ (0 ≤ v ∧ v < 4)) : wp_12_noView v C post = post 1 := by rw [sp_noView, if_neg h]
theorem sp_noCol0 {C C' : jC} {w : Int → Int} (h : rS 35 C w) (hC : C' 346 = w) {c : Int} {post : Int → Prop} (c0 : 0 ≤ c) (c1 : c < C 36 0) : wp_12_noColumn c C' post = post 0 := by
  obtain ⟨k1, k2, k3, -⟩ := r_cols h
  rw [sp_noColumn (by rw [hC]; exact k2) (by rw [hC]; exact k3), hC, if_pos ⟨c0, by omega⟩]
theorem sp_noCol1 {C C' : jC} {w : Int → Int} (h : rS 35 C w) (hC : C' 346 = w) {c : Int} {post : Int → Prop} (hc : ¬ (0 ≤ c ∧ c < C 36 0)) : wp_12_noColumn c C' post = post 1 := by
  obtain ⟨k1, k2, k3, -⟩ := r_cols h
  rw [sp_noColumn (by rw [hC]; exact k2) (by rw [hC]; exact k3), hC, if_neg (by omega)]
theorem sp_needNumbers {C : jC} {w : Int → Int} (h : rS 35 C w) {c : Int} {ex : String → jC → Prop} {post : Prop} (c0 : 0 ≤ c) (c1 : c < C 36 0) (h1 : w (4 + c) = 1 → ex jISE C) (h0 : w (4 + c) = 0 → post) : wp_11_needNumbers c C ex post := by
  obtain ⟨k1, k2, k3, -⟩ := r_cols h
  obtain ⟨q1, q2⟩ := r_kind h c0 (show c < 5 by omega)
  unfold wp_11_needNumbers
  rw [sp_kindOf (by omega), if_pos (show 0 ≤ c ∧ c < C 36 0 from ⟨c0, c1⟩)]
  simp only [Int.reduceAdd]
  by_cases e : C 37 c = 0
  · rw [if_pos e]; exact h0 (by omega)
  · rw [if_neg e]; exact h1 (by omega)
theorem sp_isWords {c : Int} {C : jC} {post : Int → Prop} (c0 : 0 ≤ c) (c1 : c < 5) : wp_12_isWords c C post = post (if C 346 (4 + c) = 1 then 1 else 0) := by
  unfold wp_12_isWords
  by_cases e : C 346 (4 + c) = 1
  · rw [if_pos e, if_pos e]; exact propext ⟨fun z => z.2.2, fun z => ⟨by omega, by omega, z⟩⟩
  · rw [if_neg e, if_neg e]; exact propext ⟨fun z => z.2.2, fun z => ⟨by omega, by omega, z⟩⟩
/-- a sum down a list -/
def jSumF (f : Int → Int) (i x : Int) : Int := if f i = -1000000 then x else x + f i
theorem jSumF_rng {f : Int → Int} {m k : Int} (h : ∀ i, 0 ≤ i → i < m → f i = -1000000 ∨ (-999 ≤ f i ∧ f i ≤ 999)) (k0 : 0 ≤ k) (k1 : k ≤ m) : -999 * k ≤ jFold (jSumF f) 0 k.toNat ∧ jFold (jSumF f) 0 k.toNat ≤ 999 * k := by
  have key : ∀ n : Nat, (n : Int) ≤ m → -999 * (n : Int) ≤ jFold (jSumF f) 0 n ∧ jFold (jSumF f) 0 n ≤ 999 * (n : Int) := by
    intro n
    induction n with
    | zero => intro _; exact (show -999 * (0 : Int) ≤ 0 ∧ (0 : Int) ≤ 999 * 0 by decide)
    | succ n ih =>
      intro hn
      have ih := ih (by omega)
      have hf := h n (by omega) (by omega)
      show -999 * ((n + 1 : Nat) : Int) ≤ (if f n = -1000000 then jFold (jSumF f) 0 n else jFold (jSumF f) 0 n + f n) ∧ (if f n = -1000000 then jFold (jSumF f) 0 n else jFold (jSumF f) 0 n + f n) ≤ _
      split <;> omega
  have := key k.toNat (by omega)
  rw [Int.toNat_of_nonneg k0] at this
  exact this
theorem op_sum {C : jC} {K v c : Int} (h : rAll C K) : wp_11_sum v c C (fun E C1 => (E = jIOB ∧ oM (wp_12_sum v c) K 1 C1) ∨ (E = jISE ∧ oM (wp_12_sum v c) K 2 C1)) (fun r => oR (wp_12_sum v c) K r C) := by
  have hs := r_now h
  obtain ⟨k1, k2, k3, -⟩ := r_cols hs
  unfold wp_11_sum
  refine sp_viewNumbered (fun hn => Or.inl ⟨rfl, ?_⟩) (fun h0 h1 => ?_)
  · unfold oM wp_12_sum
    rw [sp_noView1 hn, if_neg (by decide)]
    unfold wp_12_sum_26
    rw [sp_throws1, if_neg (by decide), m00]
    exact ⟨m0_0 _ _, rAll_m0 h⟩
  refine sp_needColumn (by omega) (fun hn => Or.inl ⟨rfl, ?_⟩) (fun c0 c1 => ?_)
  · unfold oM wp_12_sum
    rw [sp_noView0 h0 h1, if_pos rfl, sp_noCol1 hs (m0_w _ _) hn, if_neg (by decide)]
    unfold wp_12_sum_26
    rw [sp_throws1, if_neg (by decide), m00]
    exact ⟨m0_0 _ _, rAll_m0 h⟩
  refine sp_needNumbers hs c0 c1 (fun hk => Or.inr ⟨rfl, ?_⟩) (fun hk => ?_)
  · unfold oM wp_12_sum
    rw [sp_noView0 h0 h1, if_pos rfl, sp_noCol0 hs (m0_w _ _) c0 c1, if_pos rfl]
    unfold wp_12_sum_26
    rw [sp_throws0, if_pos rfl, sp_isWords c0 (by omega), m0_w, if_pos hk, sp_throws1, if_neg (by decide), m00]
    exact ⟨m0_0 _ _, rAll_m0 h⟩
  obtain ⟨l1, l2, l3, l4, -⟩ := r_list hs h0 h1
  have hv : ∀ i, 0 ≤ i → i < C 346 (298 + 2114 * v) → jLv C v c i = -1000000 ∨ (-999 ≤ jLv C v c i ∧ jLv C v c i ≤ 999) := by
    intro i i0 i1
    rcases r_lv hs h0 h1 i0 i1 c0 (by omega) with z | ⟨-, z⟩ | ⟨z, -⟩
    · exact Or.inl z
    · exact Or.inr z
    · omega
  unfold wp_4_sumOf
  refine jL2_of (fun x k => 0 ≤ k ∧ k ≤ C 346 (298 + 2114 * v) ∧ x = jFold (jSumF (jLv C v c)) 0 k.toNat) (fun _ k => (C 346 (298 + 2114 * v) - k).toNat) (fun Q x k hi hk => ?_) ⟨by omega, by omega, rfl⟩
  obtain ⟨i0, i1, i2⟩ := hi
  unfold wp_4_sumOf_6
  rw [sp_length, l1]
  by_cases a : C 346 (298 + 2114 * v) ≤ k
  · rw [if_pos a]
    unfold oR wp_12_sum
    dsimp only
    rw [sp_noView0 h0 h1, if_pos rfl, sp_noCol0 hs (m0_w _ _) c0 c1, if_pos rfl]
    unfold wp_12_sum_26
    rw [sp_throws0, if_pos rfl, sp_isWords c0 (by omega), m0_w, if_neg (by omega), sp_throws0, if_pos rfl]
    refine jL2_of (fun x k => 0 ≤ k ∧ k ≤ C 346 (298 + 2114 * v) ∧ x = jFold (jSumF (jLv C v c)) 0 k.toNat) (fun _ k => (C 346 (298 + 2114 * v) - k).toNat) (fun Q' x' k' hi' hk' => ?_) ⟨by omega, by omega, rfl⟩
    obtain ⟨j0, j1, j2⟩ := hi'
    unfold wp_12_sum_53
    rw [sp_vsize h0 h1, m0_w]
    by_cases a' : C 346 (298 + 2114 * v) ≤ k'
    · rw [if_pos a']
      refine ⟨m0_0 _ _, ?_, rAll_m0 h⟩
      rw [i2, j2, show k' = k by omega]
    · rw [if_neg a']
      have mv := sp_mval hs h0 h1 j0 (show k' < C 346 (298 + 2114 * v) by omega) c0 (by omega) (m0_w C 0)
      refine mv _ ?_
      have rg := jSumF_rng hv j0 j1
      have hvk := hv k' j0 (by omega)
      by_cases z : jLv C v c k' = -1000000
      · rw [if_pos z]
        refine hk' _ _ ⟨by omega, by omega, ?_⟩ (by omega)
        rw [jFold_s j0, jSumF, if_pos z, j2, Int.add_zero]
      · rw [if_neg z]
        refine mv _ ⟨⟨by omega, by omega⟩, hk' _ _ ⟨by omega, by omega, ?_⟩ (by omega)⟩
        rw [jFold_s j0, jSumF, if_neg z, j2]
  · rw [if_neg a, sp_vat hs h0 h1 i0 (by omega), sp_vval hs h0 h1 i0 (by omega) c0 (by omega)]
    have rg := jSumF_rng hv i0 i1
    have hvk := hv k i0 (by omega)
    by_cases z : jLv C v c k = -1000000
    · rw [if_pos z]
      refine hk _ _ ⟨by omega, by omega, ?_⟩ (by omega)
      rw [jFold_s i0, jSumF, if_pos z, i2, Int.add_zero]
    · rw [if_neg z]
      refine ⟨⟨by omega, by omega⟩, hk _ _ ⟨by omega, by omega, ?_⟩ (by omega)⟩
      rw [jFold_s i0, jSumF, if_neg z, i2]

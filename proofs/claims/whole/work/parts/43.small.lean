-- small predicates of the class
theorem ite_eq_p {α : Prop} {c : Prop} [Decidable c] (post : Int → Prop) (x y : Int) : (if c then post x else post y) = post (if c then x else y) := by split <;> rfl
theorem sp_isSeat (a s : Int) (C : jC) (post : Int → Prop) : wp_7_isSeat a s C post = post (if 0 ≤ s ∧ s < 24 then 1 else 0) := by
  unfold wp_7_isSeat
  by_cases h1 : s < 0
  · rw [if_pos h1, if_neg (by omega)]
  · rw [if_neg h1]
    by_cases h2 : 24 ≤ s
    · rw [if_pos h2, if_neg (by omega)]
    · rw [if_neg h2, if_pos (by omega)]
theorem sp_isColumn {a c : Int} {C : jC} {post : Int → Prop} (h5 : C a 0 ≤ 5) : wp_7_isColumn a c C post = post (if 0 ≤ c ∧ c < C a 0 then 1 else 0) := by
  unfold wp_7_isColumn
  by_cases h1 : c < 0
  · rw [if_pos h1, if_neg (by omega)]
  · rw [if_neg h1]
    by_cases h2 : C a 0 ≤ c
    · rw [if_pos h2, if_neg (by omega)]
    · rw [if_neg h2, if_neg (by omega), if_pos (by omega)]
theorem sp_keyAt (a s : Int) (C : jC) (post : Int → Prop) : wp_7_keyAt a s C post = post (if 0 ≤ s ∧ s < 24 then C (a + 2) s else -1) := by
  unfold wp_7_keyAt
  rw [sp_isSeat]
  by_cases h : 0 ≤ s ∧ s < 24
  · rw [if_pos h, if_neg (by decide), if_pos h]
    exact propext ⟨fun z => z.2.2, fun z => ⟨h.1, h.2, z⟩⟩
  · rw [if_neg h, if_pos rfl, if_neg h]
theorem sp_kindOf {a c : Int} {C : jC} {post : Int → Prop} (h5 : C a 0 ≤ 5) : wp_7_kindOf a c C post = post (if 0 ≤ c ∧ c < C a 0 then C (a + 1) c else -1) := by
  unfold wp_7_kindOf
  rw [sp_isColumn h5]
  by_cases h : 0 ≤ c ∧ c < C a 0
  · rw [if_pos h, if_neg (by decide), if_pos h]
    exact propext ⟨fun z => z.2.2, fun z => ⟨h.1, by omega, z⟩⟩
  · rw [if_neg h, if_pos rfl, if_neg h]
theorem sp_valueAt {a s c : Int} {C : jC} {post : Int → Prop} (h5 : C a 0 ≤ 5) : wp_7_valueAt a s c C post = post (if (0 ≤ s ∧ s < 24) ∧ 0 ≤ c ∧ c < C a 0 then C (a + 3) (s * 5 + c) else -1000000) := by
  unfold wp_7_valueAt
  rw [sp_isSeat]
  by_cases h : 0 ≤ s ∧ s < 24
  · rw [if_pos h, if_neg (by decide), sp_isColumn h5]
    by_cases h' : 0 ≤ c ∧ c < C a 0
    · rw [if_pos h', if_neg (by decide), if_pos ⟨h, h'⟩]
      exact propext ⟨fun z => z.2.2, fun z => ⟨by omega, by omega, z⟩⟩
    · rw [if_neg h', if_pos rfl, if_neg (fun z => h' z.2)]
  · rw [if_neg h, if_pos rfl, if_neg (fun z => h z.1)]
theorem sp_writerAt {a s c : Int} {C : jC} {post : Int → Prop} (h5 : C a 0 ≤ 5) : wp_7_writerAt a s c C post = post (if (0 ≤ s ∧ s < 24) ∧ 0 ≤ c ∧ c < C a 0 then C (a + 4) (s * 5 + c) else -1) := by
  unfold wp_7_writerAt
  rw [sp_isSeat]
  by_cases h : 0 ≤ s ∧ s < 24
  · rw [if_pos h, if_neg (by decide), sp_isColumn h5]
    by_cases h' : 0 ≤ c ∧ c < C a 0
    · rw [if_pos h', if_neg (by decide), if_pos ⟨h, h'⟩]
      exact propext ⟨fun z => z.2.2, fun z => ⟨by omega, by omega, z⟩⟩
    · rw [if_neg h', if_pos rfl, if_neg (fun z => h' z.2)]
  · rw [if_neg h, if_pos rfl, if_neg (fun z => h z.1)]
theorem sp_rowsNow (a : Int) (C : jC) (post : Int → Prop) : wp_7_rowsNow a C post = post (C (a + 5) 1) := rfl
theorem sp_seatOf {a key : Int} {C : jC} {post : Int → Prop} (hn : C (a + 5) 1 ≤ 24) (hs : ∀ i, 0 ≤ i → i < C (a + 5) 1 → 0 ≤ C (a + 6) i ∧ C (a + 6) i < 24) (h : ∀ r, jFst (fun j => C (a + 2) (C (a + 6) j) = key) (C (a + 5) 1) r → post (if r = -1 then -1 else C (a + 6) r)) : wp_7_seatOf a key C post := by
  unfold wp_7_seatOf
  refine jL1_of (fun k => 0 ≤ k ∧ ∀ j, 0 ≤ j → j < k → ¬ C (a + 2) (C (a + 6) j) = key) (fun k => (C (a + 5) 1 - k).toNat) (fun k x1 hi hk => ?_) ⟨by omega, fun j _ _ => by omega⟩
  obtain ⟨i0, i1⟩ := hi
  unfold wp_7_seatOf_2
  rw [sp_length]
  split
  · exact h (-1) (Or.inr ⟨rfl, fun j j0 j1 => i1 j j0 (by omega)⟩)
  · have hx := hs x1 i0 (by omega)
    have e : jAt C (a + 5) x1 = C (a + 6) x1 := by
      unfold jAt; rw [if_pos (by omega)]
      rw [show a + 5 + 1 = a + 6 by omega]
    rw [sp_at, e, sp_keyAt, if_pos hx]
    split
    · have := h x1 (Or.inl ⟨i0, by omega, by assumption, i1⟩)
      rw [if_neg (by omega)] at this
      exact this
    · refine hk _ ⟨by omega, fun j j0 j1 => ?_⟩ (by omega)
      by_cases hj : j = x1
      · subst hj; assumption
      · exact i1 j j0 (by omega)
-- small predicates of the model
theorem sp_in (v l h : Int) (C : jC) (post : Int → Prop) : wp_12_in v l h C post = post (if l ≤ v ∧ v ≤ h then 1 else 0) := by
  unfold wp_12_in
  by_cases h1 : v < l
  · rw [if_pos h1, if_neg (by omega)]
  · rw [if_neg h1]
    by_cases h2 : h < v
    · rw [if_pos h2, if_neg (by omega)]
    · rw [if_neg h2, if_pos (by omega)]
theorem sp_noView (v : Int) (C : jC) (post : Int → Prop) : wp_12_noView v C post = post (if 0 ≤ v ∧ v < 4 then 0 else 1) := by
  unfold wp_12_noView
  rw [sp_in]
  by_cases h : 0 ≤ v ∧ v ≤ 3
  · rw [if_pos h, if_neg (by decide), if_pos (by omega)]
  · rw [if_neg h, if_pos rfl, if_neg (by omega)]
theorem sp_noColumn {c : Int} {C : jC} {post : Int → Prop} (h0 : 0 ≤ C 346 0) (h5 : C 346 0 ≤ 5) : wp_12_noColumn c C post = post (if 0 ≤ c ∧ c < C 346 0 then 0 else 1) := by
  unfold wp_12_noColumn wp_12_columns
  dsimp only
  rw [sp_in]
  have : jRng (C 346 0 - 1) := ⟨by omega, by omega⟩
  by_cases h : 0 ≤ c ∧ c ≤ C 346 0 - 1
  · rw [if_pos h, if_neg (by decide), if_pos (by omega)]
    exact propext ⟨fun z => z.2, fun z => ⟨this, z⟩⟩
  · rw [if_neg h, if_pos rfl, if_neg (by omega)]
    exact propext ⟨fun z => z.2, fun z => ⟨this, z⟩⟩
theorem sp_throws0 (k : Int) (C : jC) (post : Int → jC → Prop) : wp_12_throwsIf 0 k C post = post 0 C := by
  unfold wp_12_throwsIf
  rw [if_pos rfl]
  exact propext ⟨fun z => z.2, fun z => ⟨Or.inl rfl, z⟩⟩
theorem sp_throws1 (k : Int) (C : jC) (post : Int → jC → Prop) : wp_12_throwsIf 1 k C post = post 1 (jU C 345 0 k) := by
  unfold wp_12_throwsIf
  rw [if_neg (by decide)]
  exact propext ⟨fun z => z.2, fun z => ⟨Or.inr rfl, z⟩⟩
theorem sp_viewAt {v k : Int} {C : jC} {post : Int → Prop} (h0 : 0 ≤ v) (h1 : v < 4) (k0 : 0 ≤ k) (k1 : k < 2114) : wp_12_viewAt v k C post = post (298 + 2114 * v + k) := by
  unfold wp_12_viewAt
  exact propext ⟨fun z => z.2, fun z => ⟨⟨by omega, by omega⟩, z⟩⟩
theorem sp_listOf {v : Int} {C : jC} {post : Int → Prop} (h0 : 0 ≤ v) (h1 : v < 4) : wp_12_listOf v C post = post (298 + 2114 * v) := by
  unfold wp_12_listOf
  rw [sp_viewAt h0 h1 (by omega) (by omega)]
  congr 1; omega
theorem sp_noPlace {v i : Int} {C : jC} {post : Int → Prop} (h0 : 0 ≤ v) (h1 : v < 4) (hs : 0 ≤ C 346 (298 + 2114 * v)) (hs2 : C 346 (298 + 2114 * v) ≤ 24) : wp_12_noPlace v i C post = post (if 0 ≤ i ∧ i < C 346 (298 + 2114 * v) then 0 else 1) := by
  unfold wp_12_noPlace wp_12_size
  rw [sp_listOf h0 h1]
  have : jRng (C 346 (298 + 2114 * v) - 1) := ⟨by omega, by omega⟩
  dsimp only
  rw [sp_in]
  by_cases h : 0 ≤ i ∧ i ≤ C 346 (298 + 2114 * v) - 1
  · rw [if_pos h, if_neg (by decide), if_pos (by omega)]
    exact propext ⟨fun z => z.2.2.2, fun z => ⟨by omega, by omega, this, z⟩⟩
  · rw [if_neg h, if_pos rfl, if_neg (by omega)]
    exact propext ⟨fun z => z.2.2.2, fun z => ⟨by omega, by omega, this, z⟩⟩
theorem sp_rows (C : jC) (post : Int → Prop) : wp_12_rows C post = post (C 346 273) := by
  unfold wp_12_rows wp_12_size
  exact propext ⟨fun z => z.2.2, fun z => ⟨by decide, by decide, z⟩⟩
theorem sp_rowOf {key : Int} {C : jC} {post : Int → Prop} (h : ∀ r, jFst (fun j => 0 ≤ key ∧ C 346 (9 + 11 * j) = key) 24 r → post (if r = -1 then -1 else 9 + 11 * r)) : wp_12_rowOf key C post := by
  unfold wp_12_rowOf
  have stop : jL1 (wp_12_rowOf_11 key C post) 24 ↔ post (-1) := by
    constructor
    · rintro ⟨k, hk⟩
      cases k with
      | zero => exact hk.elim
      | succ k =>
        have hk : wp_12_rowOf_11 key C post (jI1 (wp_12_rowOf_11 key C post) k) 24 := hk
        unfold wp_12_rowOf_11 at hk
        rw [if_pos (by decide), if_pos rfl] at hk
        exact hk
    · intro hp
      refine ⟨1, ?_⟩
      show wp_12_rowOf_11 key C post (jI1 (wp_12_rowOf_11 key C post) 0) 24
      unfold wp_12_rowOf_11
      rw [if_pos (by decide), if_pos rfl]
      exact hp
  by_cases hk0 : 0 ≤ key
  · rw [if_pos hk0]
    refine jL1_of (fun k => 0 ≤ k ∧ k ≤ 24 ∧ ∀ j, 0 ≤ j → j < k → ¬ (0 ≤ key ∧ C 346 (9 + 11 * j) = key)) (fun k => (24 - k).toNat) (fun k x1 hi hk => ?_) ⟨by omega, by omega, fun j _ _ => by omega⟩
    obtain ⟨i0, i9, i1⟩ := hi
    unfold wp_12_rowOf_11
    by_cases h24 : 24 ≤ x1
    · rw [if_pos h24, if_pos (by omega)]
      have := h (-1) (Or.inr ⟨rfl, fun j j0 j1 => i1 j j0 (by omega)⟩)
      rw [if_pos rfl] at this
      exact this
    · rw [if_neg h24]
      refine ⟨by omega, ?_⟩
      by_cases he : C 346 (9 + 11 * x1) = key
      · rw [if_pos he, if_neg (by omega)]
        have := h x1 (Or.inl ⟨i0, by omega, ⟨hk0, he⟩, i1⟩)
        rw [if_neg (by omega)] at this
        exact this
      · rw [if_neg he]
        refine hk _ ⟨by omega, by omega, fun j j0 j1 => ?_⟩ (by omega)
        by_cases hj : j = x1
        · subst hj; exact fun z => he z.2
        · exact i1 j j0 (by omega)
  · rw [if_neg hk0]
    refine stop.mpr ?_
    have := h (-1) (Or.inr ⟨rfl, fun j _ _ z => hk0 z.1⟩)
    rw [if_pos rfl] at this
    exact this

-- the relation, taken apart for the State now
theorem rAll_m0 {C : jC} {K x : Int} (h : rAll C K) : rAll (jU C 345 0 x) K := by
  have e : ∀ b, b ≠ 345 → jU C 345 0 x b = C b := fun b hb => jU_ne hb
  have e2 : ∀ j, j ≠ 0 → jU C 345 0 x 345 j = C 345 j := fun j hj => by rw [jU_at, if_pos rfl, if_neg hj]
  unfold rAll at h ⊢
  rw [e 1 (by decide), e2 6 (by decide), e2 11 (by decide), e2 4 (by decide), e 346 (by decide), e 347 (by decide), e 0 (by decide)]
  obtain ⟨h1, h2, h3, h4, h5, h6, h7, h8⟩ := h
  refine ⟨h1, h2, h3, ?_, h5, rS_keep (fun b hb => e b ?_) h6, h7, ?_⟩
  · unfold rT at h4 ⊢
    rw [e 349 (by decide), e 2 (by decide)]; exact h4
  · unfold rOwn at hb; omega
  · rcases h8 with h8 | ⟨q1, q2, q3, q4⟩
    · exact Or.inl h8
    · exact Or.inr ⟨q1, q2, rS_keep (fun b hb => e b (by unfold rOwn at hb; omega)) q3, q4⟩
/-- a key of the model, where a row of the class: seatOf and rowOf agree -/
theorem r_row {C : jC} {w : Int → Int} {a : Int} (h : rS a C w) {key r r' : Int} (h1 : jFst (fun j => C (a + 3) (C (a + 7) j) = key) (C (a + 6) 1) r) (h2 : jFst (fun j => 0 ≤ key ∧ w (9 + 11 * j) = key) 24 r') :
    (r = -1 ∧ r' = -1) ∨ (r ≠ -1 ∧ 0 ≤ r ∧ r < C (a + 6) 1 ∧ r' = C (a + 7) r ∧ 0 ≤ r' ∧ r' < 24 ∧ C (a + 3) r' = key ∧ 0 ≤ key ∧ rLive C a r') := by
  obtain ⟨hA, hB, hO, hW, hV, hG, hZ⟩ := h
  obtain ⟨o1, o2, o3, o4, o5⟩ := hO
  obtain ⟨w1, w2, w3⟩ := hW
  have o4' : ∀ i, 0 ≤ i → i < w 273 → 0 ≤ C (a + 7) i ∧ C (a + 7) i < 24 := fun i i0 i1 => by
    have := o4 i i0 i1
    rw [show a + 6 + 1 = a + 7 by omega] at this
    exact ⟨this.1, this.2.1⟩
  rcases h1 with ⟨a1, a2, a3, a4⟩ | ⟨a1, a2⟩
  · refine Or.inr ?_
    rw [o1] at a2
    have hs := o4' r a1 a2
    have hl : rLive C a (C (a + 7) r) := ⟨r, a1, by rw [o1]; exact a2, rfl⟩
    have hr := w1 _ hs.1 hs.2 hl
    have hk : 0 ≤ key := by rw [← a3]; exact hr.2.1
    have e : r' = C (a + 7) r := by
      refine jFst_uniq h2 (Or.inl ⟨hs.1, hs.2, ⟨hk, by rw [hr.1]; exact a3⟩, fun j j0 j1 hj => ?_⟩)
      by_cases hlj : rLive C a j
      · have hrj := w1 j j0 (by omega) hlj
        have := w3 j (C (a + 7) r) j0 (by omega) hs.1 hs.2 hlj hl (by rw [← hrj.1, hj.2, a3])
        omega
      · have := w2 j j0 (by omega) hlj
        omega
    refine ⟨by omega, a1, by rw [o1]; exact a2, e, ?_⟩
    rw [e]
    exact ⟨hs.1, hs.2, a3, hk, hl⟩
  · refine Or.inl ⟨a1, ?_⟩
    rcases h2 with ⟨b1, b2, b3, b4⟩ | ⟨b1, -⟩
    · exfalso
      by_cases hl : rLive C a r'
      · obtain ⟨i, i0, i1, i2⟩ := id hl
        refine a2 i i0 i1 ?_
        show C (a + 3) (C (a + 7) i) = key
        rw [i2]
        rw [← (w1 r' b1 b2 hl).1]
        exact b3.2
      · have := w2 r' b1 b2 hl
        omega
    · exact b1
-- what an op of the model must answer, behind the class's
def oM (wpm : jC → (Int → jC → Prop) → Prop) (K k : Int) (C : jC) : Prop := wpm C (fun _ C2 => C2 345 0 = k ∧ rAll C2 K)
def oR (wpm : jC → (Int → jC → Prop) → Prop) (K r : Int) (C : jC) : Prop := wpm C (fun b C2 => C2 345 0 = 0 ∧ b = r ∧ rAll C2 K)
theorem m0_0 (C : jC) (x : Int) : jU C 345 0 x 345 0 = x := by rw [jU_at, if_pos rfl, if_pos rfl]
theorem op_fault {C : jC} {K : Int} (h : rAll C K) : wp_11_fault C (fun r => oR (wp_12_fault) K r C) := by
  unfold wp_11_fault oR wp_12_fault
  refine ⟨m0_0 _ _, ?_, rAll_m0 h⟩
  rw [jU_at, if_pos rfl, if_neg (by decide)]
  exact h.2.2.2.2.1.symm
theorem op_count {C : jC} {K x : Int} (h : rAll C K) : wp_11_count x C (fun r => oR (wp_12_count x) K r C) := by
  have hs := h.2.2.2.2.2.1
  obtain ⟨hA, hB, hO, hW, hV, hG, hZ⟩ := hs
  simp only [rA, rLst, Int.reduceAdd] at hA hO
  have e : jU C 345 0 0 346 = C 346 := jU_ne (by decide)
  unfold wp_11_count oR wp_12_count
  simp only [sp_rowsNow, sp_rows, wp_12_columns, e, m0_0, Int.reduceAdd]
  have h0 := rAll_m0 (x := 0) h
  by_cases x0 : x = 0
  · simp only [if_pos x0]; exact ⟨trivial, hA.1.symm, h0⟩
  simp only [if_neg x0]
  by_cases x1 : x = 1
  · simp only [if_pos x1]; exact ⟨trivial, hO.1.symm, h0⟩
  simp only [if_neg x1]
  by_cases x2 : x = 2
  · simp only [if_pos x2]; exact ⟨trivial, hA.2.2.2.1.symm, h0⟩
  simp only [if_neg x2]
  by_cases x3 : x = 3
  · simp only [if_pos x3]; exact ⟨trivial, hA.2.2.2.2.2.2.1.symm, h0⟩
  simp only [if_neg x3]
  by_cases x4 : x = 4
  · simp only [if_pos x4]; exact ⟨trivial, hA.2.2.2.2.2.2.2.2.1.symm, h0⟩
  simp only [if_neg x4]
  exact ⟨trivial, trivial, h0⟩

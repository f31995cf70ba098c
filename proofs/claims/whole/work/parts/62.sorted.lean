-- the class's rising row
theorem sp_ins {L c m k x : Int} {D : jC} {post : Int → jC → Prop} {Q : Int → Int → jC → Prop} (m0 : 0 ≤ m) (m1 : m < 24) (k0 : 0 ≤ k) (k1 : k < 24) (hs : ∀ i j, 0 ≤ i → i < j → j < m → D 344 i ≤ D 344 j)
    (h : ∀ (D1 : jC) (p : Int), (∀ b, b ≠ 344 → D1 b = D b) → 0 ≤ p → p ≤ m → (∀ i, 0 ≤ i → i < p → D1 344 i = D 344 i) → D1 344 p = x → (∀ i, p ≤ i → i < m → D1 344 (i + 1) = D 344 i) → (∀ i, 0 ≤ i → i < p → D 344 i ≤ x) → (∀ i, p ≤ i → i < m → x < D 344 i) → Q (m + 1) (k + 1) D1) : jL2 (wp_4_middleOf_46 36 L c m k x post Q) m D := by
  refine jL2_of (fun p E => 0 ≤ p ∧ p ≤ m ∧ (∀ b, b ≠ 344 → E b = D b) ∧ (∀ i, 0 ≤ i → i < p → E 344 i = D 344 i) ∧ (∀ i, p ≤ i → i < m → E 344 (i + 1) = D 344 i) ∧ (∀ i, p ≤ i → i < m → x < D 344 i)) (fun p _ => p.toNat) (fun K p E hi hk => ?_) ⟨m0, Int.le_refl _, fun b _ => rfl, fun i _ _ => rfl, fun i _ _ => by omega, fun i _ _ => by omega⟩
  obtain ⟨p0, p1, e1, e2, e3, e4⟩ := hi
  have fin : (∀ i, 0 ≤ i → i < p → D 344 i ≤ x) → Q (m + 1) (k + 1) (jU E 344 p x) := by
    intro hl
    refine h _ p (fun b hb => ?_) p0 p1 (fun i i0 i1 => ?_) ?_ (fun i i0 i1 => ?_) hl e4
    · rw [jU_ne hb]; exact e1 b hb
    · rw [jU_at, if_pos rfl, if_neg (by omega)]; exact e2 i i0 i1
    · rw [jU_at, if_pos rfl, if_pos rfl]
    · rw [jU_at, if_pos rfl, if_neg (by omega)]; exact e3 i i0 i1
  unfold wp_4_middleOf_46
  by_cases a : p ≤ 0
  · rw [if_pos a]
    exact ⟨p0, ⟨by omega, by omega⟩, ⟨by omega, by omega⟩, fin (fun i _ _ => by omega)⟩
  · rw [if_neg a]
    refine ⟨by omega, ?_⟩
    rw [e2 (p - 1) (by omega) (by omega)]
    by_cases b : D 344 (p - 1) ≤ x
    · rw [if_pos b]
      refine ⟨by omega, ⟨by omega, by omega⟩, ⟨by omega, by omega⟩, fin (fun i i0 i1 => ?_)⟩
      by_cases z : i = p - 1
      · rw [z]; exact b
      · have := hs i (p - 1) i0 (by omega) (by omega); omega
    · rw [if_neg b]
      refine ⟨by omega, hk _ _ ⟨by omega, by omega, fun b hb => ?_, fun i i0 i1 => ?_, fun i i0 i1 => ?_, fun i i0 i1 => ?_⟩ (by omega)⟩
      · rw [jU_ne hb]; exact e1 b hb
      · rw [jU_at, if_pos rfl, if_neg (by omega)]; exact e2 i i0 (by omega)
      · rw [jU_at, if_pos rfl]
        by_cases z : i = p + -1
        · rw [if_pos (by omega), z]; rfl
        · rw [if_neg (by omega)]; exact e3 i (by omega) i1
      · by_cases z : i = p - 1
        · rw [z]; omega
        · exact e4 i (by omega) i1
/-- the row after k of the list's n values -/
def jRow (f : Int → Int) (S : Int → Int) (m k : Int) : Prop := 0 ≤ m ∧ m ≤ k ∧ (∀ i, 0 ≤ i → i < m → S i ≠ -1000000) ∧ (∀ i j, 0 ≤ i → i < j → j < m → S i ≤ S j) ∧ (∀ i, 0 ≤ i → i < m → ∃ j, 0 ≤ j ∧ j < k ∧ f j = S i) ∧ (∀ y q, jFold (jBel S y q) 0 m.toNat = jFold (jBel f y q) 0 k.toNat)
theorem jRow_skip {f S : Int → Int} {m k : Int} (k0 : 0 ≤ k) (h : jRow f S m k) (hx : f k = -1000000) : jRow f S m (k + 1) := by
  obtain ⟨h1, h2, h3, h4, h5, h6⟩ := h
  refine ⟨h1, by omega, h3, h4, fun i i0 i1 => ?_, fun y q => ?_⟩
  · obtain ⟨j, j0, j1, j2⟩ := h5 i i0 i1
    exact ⟨j, j0, by omega, j2⟩
  · rw [h6, jFold_s k0, jBel, if_neg (fun z => z.1 hx)]
theorem jRow_put {f S T : Int → Int} {m k p : Int} (k0 : 0 ≤ k) (h : jRow f S m k) (hx : f k ≠ -1000000) (p0 : 0 ≤ p) (p1 : p ≤ m) (t1 : ∀ i, 0 ≤ i → i < p → T i = S i) (t2 : T p = f k) (t3 : ∀ i, p ≤ i → i < m → T (i + 1) = S i) (u1 : ∀ i, 0 ≤ i → i < p → S i ≤ f k) (u2 : ∀ i, p ≤ i → i < m → f k < S i) : jRow f T (m + 1) (k + 1) := by
  obtain ⟨h1, h2, h3, h4, h5, h6⟩ := h
  have T3 : ∀ i, p < i → i ≤ m → T i = S (i - 1) := fun i a b => by
    have := t3 (i - 1) (by omega) (by omega)
    rw [show i - 1 + 1 = i by omega] at this
    exact this
  refine ⟨by omega, by omega, fun i i0 i1 => ?_, fun i j i0 i1 j1 => ?_, fun i i0 i1 => ?_, fun y q => ?_⟩
  · by_cases a : i < p
    · rw [t1 i i0 a]; exact h3 i i0 (by omega)
    · by_cases b : i = p
      · rw [b, t2]; exact hx
      · rw [T3 i (by omega) (by omega)]; exact h3 _ (by omega) (by omega)
  · by_cases a : j < p
    · rw [t1 i i0 (by omega), t1 j (by omega) a]; exact h4 i j i0 i1 (by omega)
    · by_cases b : j = p
      · rw [b, t2, t1 i i0 (by omega)]; exact u1 i i0 (by omega)
      · rw [T3 j (by omega) (by omega)]
        by_cases c : i < p
        · rw [t1 i i0 c]; exact h4 i (j - 1) i0 (by omega) (by omega)
        · by_cases d : i = p
          · rw [d, t2]; have := u2 (j - 1) (by omega) (by omega); omega
          · rw [T3 i (by omega) (by omega)]; exact h4 _ _ (by omega) (by omega) (by omega)
  · by_cases a : i < p
    · obtain ⟨j, j0, j1, j2⟩ := h5 i i0 (by omega)
      exact ⟨j, j0, by omega, by rw [t1 i i0 a]; exact j2⟩
    · by_cases b : i = p
      · exact ⟨k, k0, by omega, by rw [b, t2]⟩
      · obtain ⟨j, j0, j1, j2⟩ := h5 (i - 1) (by omega) (by omega)
        exact ⟨j, j0, by omega, by rw [T3 i (by omega) (by omega)]; exact j2⟩
  · have := jBel_ins (S := S) (T := T) (y := y) (q := q) (x := f k) (p := p) (m := m.toNat) p0 (by omega) t1 t2 (fun i a b => t3 i a (by omega))
    rw [show (m + 1).toNat = m.toNat + 1 by omega, this, h6, jFold_s k0]
    generalize jFold (jBel f y q) 0 k.toNat = F
    unfold jBel
    split <;> omega

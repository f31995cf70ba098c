-- the class's rising row
theorem sp_ins {L c m k x : Int} {D : jC} {post : Int → jC → Prop} {Q : Int → Int → jC → Prop} (m0 : 0 ≤ m) (m1 : m < 24) (k0 : 0 ≤ k) (k1 : k < 24) (hs : ∀ i j, 0 ≤ i → i < j → j < m → D 344 i ≤ D 344 j)
    (h : ∀ (D1 : jC) (p : Int), (∀ b, b ≠ 344 → D1 b = D b) → 0 ≤ p → p ≤ m → (∀ i, 0 ≤ i → i < p → D1 344 i = D 344 i) → D1 344 p = x → (∀ i, p ≤ i → i < m → D1 344 (i + 1) = D 344 i) → (∀ i, 0 ≤ i → i < p → D 344 i ≤ x) → (∀ i, p ≤ i → i < m → x < D 344 i) → Q (m + 1) (k + 1) D1) : jL2 (wp_4_middleOf_46 36 L c m k x post Q) m D := by
  refine jL2_of (fun p E => 0 ≤ p ∧ p ≤ m ∧ (∀ b, b ≠ 344 → E b = D b) ∧ (∀ i, 0 ≤ i → i < p → E 344 i = D 344 i) ∧ (∀ i, p ≤ i → i < m → E 344 (i + 1) = D 344 i) ∧ (∀ i, p ≤ i → i < m → x < D 344 i)) (fun p _ => p.toNat) (fun K p E hi hk => ?_) ⟨m0, Int.le_refl _, fun b _ => rfl, fun i _ _ => rfl, fun i _ _ => by omega, fun i _ _ => by omega⟩
  obtain ⟨p0, p1, e1, e2, e3, e4⟩ := hi
  have fin : (∀ i, 0 ≤ i → i < p → D 344 i ≤ x) → Q (m + 1) (k + 1) (jU E 344 p x) := by
    intro hl
    refine h _ p (fun b hb => ?_) p0 p1 (fun i i0 i1 => ?_) ?_ (fun i i0 i1 => ?_) hl e4
    · rw [jU_ne hb]; exact e1 b hb
    · rw [jU_at, if_pos rfl, if_neg (by omega)]; exact e2 i i0 i1
    · rw [jU_at, if_pos rfl, if_pos rfl]
    · rw [jU_at, if_pos rfl, if_neg (by omega)]; exact e3 i i0 i1
  unfold wp_4_middleOf_46
  by_cases a : p ≤ 0
  · rw [if_pos a]
    exact ⟨p0, ⟨by omega, by omega⟩, ⟨by omega, by omega⟩, fin (fun i _ _ => by omega)⟩
  · rw [if_neg a]
    refine ⟨by omega, ?_⟩
    rw [e2 (p - 1) (by omega) (by omega)]
    by_cases b : D 344 (p - 1) ≤ x
    · rw [if_pos b]
      refine ⟨by omega, ⟨by omega, by omega⟩, ⟨by omega, by omega⟩, fin (fun i i0 i1 => ?_)⟩
      by_cases z : i = p - 1
      · rw [z]; exact b
      · have := hs i (p - 1) i0 (by omega) (by omega); omega
    · rw [if_neg b]
      refine ⟨by omega, hk _ _ ⟨by omega, by omega, fun b hb => ?_, fun i i0 i1 => ?_, fun i i0 i1 => ?_, fun i i0 i1 => ?_⟩ (by omega)⟩
      · rw [jU_ne hb]; exact e1 b hb
      · rw [jU_at, if_pos rfl, if_neg (by omega)]; exact e2 i i0 (by omega)
      · rw [jU_at, if_pos rfl]
        by_cases z : i = p + -1
        · rw [if_pos (by omega), z]; rfl
        · rw [if_neg (by omega)]; exact e3 i (by omega) i1
      · by_cases z : i = p - 1
        · rw [z]; omega
        · exact e4 i (by omega) i1

-- PLAIN FACTS about the predicates
theorem jU_at (C : jC) (a k v b j : Int) : jU C a k v b j = if b = a then (if j = k then v else C a j) else C b j := by
  unfold jU; split <;> rfl
theorem jU_ne {C : jC} {a k v b : Int} (h : b ≠ a) : jU C a k v b = C b := by simp [jU, h]
theorem jU_eq (C : jC) (a k v : Int) : jU C a k v a = fun j => if j = k then v else C a j := by simp [jU]
theorem jV_ne {C : jC} {a b : Int} {f : Int → Int} (h : b ≠ a) : jV C a f b = C b := by simp [jV, h]
theorem jV_eq (C : jC) (a : Int) (f : Int → Int) : jV C a f a = f := by simp [jV]
theorem jCpy_ne {C : jC} {s sp d dp k b : Int} (h : b ≠ d) : jCpy C s sp d dp k b = C b := by simp [jCpy, jV, h]
theorem jCpy_eq (C : jC) (s sp d dp k : Int) : jCpy C s sp d dp k d = fun j => if dp ≤ j ∧ j < dp + k then C s (sp + (j - dp)) else C d j := by simp [jCpy, jV]
-- first places
/-- r is the first k below n with p, or -1 -/
def jFst (p : Int → Prop) (n r : Int) : Prop := (0 ≤ r ∧ r < n ∧ p r ∧ ∀ j, 0 ≤ j → j < r → ¬ p j) ∨ (r = -1 ∧ ∀ j, 0 ≤ j → j < n → ¬ p j)
theorem jFst_uniq {p : Int → Prop} {n r r' : Int} (h : jFst p n r) (h' : jFst p n r') : r = r' := by
  rcases h with ⟨a1, a2, a3, a4⟩ | ⟨a1, a2⟩ <;> rcases h' with ⟨b1, b2, b3, b4⟩ | ⟨b1, b2⟩
  · rcases Int.lt_trichotomy r r' with h | h | h
    · exact absurd a3 (b4 r a1 h)
    · exact h
    · exact absurd b3 (a4 r' b1 h)
  · exact absurd a3 (b2 r a1 a2)
  · exact absurd b3 (a2 r' b1 b2)
  · omega
theorem jFst_congr {p q : Int → Prop} {n r : Int} (h : ∀ j, 0 ≤ j → j < n → (p j ↔ q j)) (hr : jFst p n r) : jFst q n r := by
  rcases hr with ⟨a1, a2, a3, a4⟩ | ⟨a1, a2⟩
  · exact Or.inl ⟨a1, a2, (h r a1 a2).mp a3, fun j j0 j1 => fun z => a4 j j0 j1 ((h j j0 (by omega)).mpr z)⟩
  · exact Or.inr ⟨a1, fun j j0 j1 => fun z => a2 j j0 j1 ((h j j0 j1).mpr z)⟩
/-- the value of a list of rows at a place -/
def jAt (C : jC) (a i : Int) : Int := if 0 ≤ i ∧ i < C a 1 ∧ i < 24 then C (a + 1) i else -1
theorem sp_at (a i : Int) (C : jC) (post : Int → Prop) : wp_6_at a i C post = post (jAt C a i) := by
  unfold wp_6_at jAt
  by_cases h1 : i < 0
  · rw [if_pos h1, if_neg (by omega)]
  · rw [if_neg h1]
    by_cases h2 : C a 1 ≤ i
    · rw [if_pos h2, if_neg (by omega)]
    · rw [if_neg h2]
      by_cases h3 : 24 ≤ i
      · rw [if_pos h3, if_neg (by omega)]
      · rw [if_neg h3, if_pos (by omega)]
theorem sp_length (a : Int) (C : jC) (post : Int → Prop) : wp_6_length a C post = post (C a 1) := rfl
theorem sp_placeOf {a x : Int} {C : jC} {post : Int → Prop} (hn : C a 1 ≤ 24) (h : ∀ r, jFst (fun j => C (a + 1) j = x) (C a 1) r → post r) : wp_6_placeOf a x C post := by
  unfold wp_6_placeOf
  refine jL1_of (fun k => 0 ≤ k ∧ ∀ j, 0 ≤ j → j < k → ¬ C (a + 1) j = x) (fun k => (C a 1 - k).toNat) (fun k x1 hi hk => ?_) ⟨by omega, fun j _ _ => by omega⟩
  unfold wp_6_placeOf_2
  obtain ⟨i0, i1⟩ := hi
  split
  · exact h _ (Or.inr ⟨rfl, fun j j0 j1 => i1 j j0 (by omega)⟩)
  · rw [sp_at]
    have e : jAt C a x1 = C (a + 1) x1 := by unfold jAt; rw [if_pos (by omega)]
    rw [e]
    split
    · exact h _ (Or.inl ⟨i0, by omega, by assumption, i1⟩)
    · refine hk _ ⟨by omega, fun j j0 j1 => ?_⟩ (by omega)
      by_cases hj : j = x1
      · subst hj; assumption
      · exact i1 j j0 (by omega)

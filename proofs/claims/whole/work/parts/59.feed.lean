-- bytes
theorem jByte_eq {x : Int} (h : jRng x) : jByte x = if x % 256 < 128 then x % 256 else x % 256 - 256 := by
  unfold jByte
  rw [Int8.toInt_toInt32, Int32.toInt_toInt8, ji_toInt h]
  rfl
theorem jByte_b {x : Int} (h : jRng x) : -128 ≤ jByte x ∧ jByte x < 128 := by
  rw [jByte_eq h]
  split <;> omega
theorem jByte_id {x : Int} (h0 : -128 ≤ x) (h1 : x < 128) : jByte x = x := by
  rw [jByte_eq ⟨by omega, by omega⟩]
  split <;> omega
theorem jByte_ub {x : Int} (h : jRng x) : jAnd x 255 = jUb (jByte (jByte x)) := by
  have := jByte_b h
  rw [jByte_id this.1 this.2, jAnd255 h, jByte_eq h]
  unfold jUb
  split <;> split <;> omega
theorem jShr_r (x y : Int) : jRng (jShr x y) := by
  unfold jShr
  have a := Int32.le_toInt (Int32.ofInt x >>> (Int32.ofInt y &&& 31))
  have b := Int32.toInt_lt (Int32.ofInt x >>> (Int32.ofInt y &&& 31))
  exact ⟨by omega, by omega⟩
/-- four bytes more -/
def jFeed (x n : Int) (f : Int → Int) : Int → Int := fun i => if i = n then jAnd (jShr x 24) 255 else if i = n + 1 then jAnd (jShr x 16) 255 else if i = n + 2 then jAnd (jShr x 8) 255 else if i = n + 3 then jAnd (jShr x 0) 255 else f i
theorem tk_step {x s : Int} {C : jC} {post : jC → Prop} {k : Int → jC → Prop} (hs : ¬ s < 0) (h0 : 0 ≤ C 1 1) (h1 : C 1 1 < 400) (h : k (s + -8) (jU (jU C 2 (C 1 1) (jAnd (jShr x s) 255)) 1 1 (C 1 1 + 1))) : wp_5_takeIn_3 x post k s C := by
  unfold wp_5_takeIn_3
  have e : jU C 2 (C 1 1) (jAnd (jShr x s) 255) 1 1 = C 1 1 := by rw [jU_ne (by decide)]
  rw [if_neg hs, if_neg (by omega), e]
  exact ⟨h0, ⟨by omega, by omega⟩, h⟩
theorem sp_takeIn {x : Int} {C : jC} {post : jC → Prop} (h0 : 0 ≤ C 1 1) (h1 : C 1 1 + 4 ≤ 400) (h : ∀ C1 : jC, (∀ b, b ≠ 1 → b ≠ 2 → C1 b = C b) → (∀ j, j ≠ 1 → C1 1 j = C 1 j) → C1 1 1 = C 1 1 + 4 → C1 2 = jFeed x (C 1 1) (C 2) → post C1) : wp_5_takeIn x C post := by
  have E : ∀ (D : jC) (n y : Int), jU (jU D 2 n y) 1 1 (n + 1) 1 1 = n + 1 := fun D n y => by rw [jU_at, if_pos rfl, if_pos rfl]
  unfold wp_5_takeIn
  refine ⟨5, ?_⟩
  refine tk_step (k := jI2 (wp_5_takeIn_3 x post) 4) (by decide) h0 (by omega) ?_
  refine tk_step (k := jI2 (wp_5_takeIn_3 x post) 3) (by decide) (by rw [E]; omega) (by rw [E]; omega) ?_
  refine tk_step (k := jI2 (wp_5_takeIn_3 x post) 2) (by decide) (by rw [E, E]; omega) (by rw [E, E]; omega) ?_
  refine tk_step (k := jI2 (wp_5_takeIn_3 x post) 1) (by decide) (by rw [E, E, E]; omega) (by rw [E, E, E]; omega) ?_
  show wp_5_takeIn_3 x post (jI2 (wp_5_takeIn_3 x post) 0) _ _
  unfold wp_5_takeIn_3
  rw [if_pos (by decide)]
  rw [E, E, E]
  refine h _ (fun b b1 b2 => ?_) (fun j j1 => ?_) ?_ ?_
  · rw [jU_ne b1, jU_ne b2, jU_ne b1, jU_ne b2, jU_ne b1, jU_ne b2, jU_ne b1, jU_ne b2]
  · rw [jU_at, if_pos rfl, if_neg j1, jU_ne (by decide), jU_at, if_pos rfl, if_neg j1, jU_ne (by decide), jU_at, if_pos rfl, if_neg j1, jU_ne (by decide), jU_at, if_pos rfl, if_neg j1, jU_ne (by decide)]
  · rw [E]; omega
  · funext i
    unfold jFeed
    simp only [jU_at]
    simp only [if_true, Int.reduceEq, if_false, Int.reduceAdd, Int.reduceNeg]
    grind

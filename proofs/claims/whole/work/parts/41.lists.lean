-- lists of rows: insert and take out
def jInsF (f : Int → Int) (o p n x : Int) : Int → Int := fun j => if j < o + p then f j else if j = o + p then x else if j ≤ o + n then f (j - 1) else f j
def jDelF (f : Int → Int) (o p n : Int) : Int → Int := fun j => if o + p ≤ j ∧ j < o + n - 1 then f (j + 1) else f j
def jSet (f : Int → Int) (k v : Int) : Int → Int := fun j => if j = k then v else f j
theorem jU_S (C : jC) (a k v : Int) : jU C a k v = jV C a (jSet (C a) k v) := rfl
theorem jSet_eq (f : Int → Int) (k v : Int) : jSet f k v k = v := by simp [jSet]
theorem jSet_ne {f : Int → Int} {k v j : Int} (h : j ≠ k) : jSet f k v j = f j := by simp [jSet, h]
theorem jV_V (C : jC) (a : Int) (f g : Int → Int) : jV (jV C a f) a g = jV C a g := by
  funext b; unfold jV; split <;> rfl
theorem jV_id (C : jC) (a : Int) : jV C a (C a) = C := by
  funext b; unfold jV; split
  · rename_i h; rw [h]
  · rfl
theorem sp_putAt {a p x : Int} {C : jC} {post : jC → Prop} (hw : jRng (C a 1 + 1)) (h0 : 0 ≤ p) (h1 : p ≤ C a 1) (h2 : C a 1 < 24) (h : post (jV (jV C (a + 1) (jInsF (C (a + 1)) 0 p (C a 1) x)) a (jSet (C a) 1 (C a 1 + 1)))) : wp_6_putAt a p x C post := by
  unfold wp_6_putAt
  rw [if_neg (by omega), if_neg (by omega), if_pos h2]
  have hne : a + 1 ≠ a := by omega
  have hne2 : a ≠ a + 1 := by omega
  refine jL2_of (fun k C' => p ≤ k ∧ k ≤ C a 1 ∧ C' = jV C (a + 1) (fun j => if k < j ∧ j ≤ C a 1 then C (a + 1) (j - 1) else C (a + 1) j)) (fun k _ => (k - p).toNat) (fun kk k C' hi hk => ?_) ⟨h1, by omega, ?_⟩
  · obtain ⟨i0, i1, rfl⟩ := hi
    unfold wp_6_putAt_27
    split
    · have hkp : k = p := by omega
      subst hkp
      refine ⟨h0, by omega, ?_, ?_⟩
      · rw [jU_ne hne2, jV_ne hne2]; exact hw
      · rw [jU_ne hne2, jV_ne hne2]
        have e : jU (jU (jV C (a + 1) fun j => if k < j ∧ j ≤ C a 1 then C (a + 1) (j - 1) else C (a + 1) j) (a + 1) k x) a 1 (C a 1 + 1) = jV (jV C (a + 1) (jInsF (C (a + 1)) 0 k (C a 1) x)) a (jSet (C a) 1 (C a 1 + 1)) := by
          rw [jU_S, jU_S, jV_V, jV_eq]
          rw [jV_ne hne2]
          congr 2
          funext j
          simp only [jSet, jInsF, jDelF]
          grind
        rw [e]; exact h
    · refine ⟨by omega, by omega, by omega, by omega, ?_⟩
      refine hk _ _ ⟨by omega, by omega, ?_⟩ (by omega)
      rw [jU_S, jV_V, jV_eq]
      congr 1
      funext j
      simp only [jSet, jInsF, jDelF]
      grind
  · funext b
    unfold jV
    split
    · rename_i e; rw [e]; funext j; rw [if_neg (by omega)]
    · rfl
theorem sp_putLast {a x : Int} {C : jC} {post : jC → Prop} (hw : jRng (C a 1 + 1)) (h1 : 0 ≤ C a 1) (h2 : C a 1 < 24) (h : post (jV (jV C (a + 1) (jInsF (C (a + 1)) 0 (C a 1) (C a 1) x)) a (jSet (C a) 1 (C a 1 + 1)))) : wp_6_putLast a x C post := by
  unfold wp_6_putLast
  exact sp_putAt hw h1 (by omega) h2 h
theorem sp_takeOut {a x : Int} {C : jC} {post : jC → Prop} (hw : jRng (C a 1 - 1)) (h2 : C a 1 ≤ 24) (hno : (∀ j, 0 ≤ j → j < C a 1 → ¬ C (a + 1) j = x) → post C) (h : ∀ r, 0 ≤ r → r < C a 1 → C (a + 1) r = x → (∀ j, 0 ≤ j → j < r → ¬ C (a + 1) j = x) → post (jV (jV C (a + 1) (jDelF (C (a + 1)) 0 r (C a 1))) a (jSet (C a) 1 (C a 1 - 1)))) : wp_6_takeOut a x C post := by
  unfold wp_6_takeOut
  have hne : a + 1 ≠ a := by omega
  have hne2 : a ≠ a + 1 := by omega
  refine sp_placeOf h2 (fun r hr => ?_)
  rcases hr with ⟨a1, a2, a3, a4⟩ | ⟨a1, a2⟩
  · rw [if_neg (by omega)]
    refine ⟨hw, ?_⟩
    refine jL2_of (fun k C' => r ≤ k ∧ k ≤ C a 1 - 1 ∧ C' = jV (jV C (a + 1) (fun j => if r ≤ j ∧ j < k then C (a + 1) (j + 1) else C (a + 1) j)) a (jSet (C a) 1 (C a 1 - 1))) (fun k _ => (C a 1 - k).toNat) (fun kk k C' hi hk => ?_) ⟨by omega, by omega, ?_⟩
    · obtain ⟨i0, i1, rfl⟩ := hi
      unfold wp_6_takeOut_24
      have es : jV (jV C (a + 1) (fun j => if r ≤ j ∧ j < k then C (a + 1) (j + 1) else C (a + 1) j)) a (jSet (C a) 1 (C a 1 - 1)) a 1 = C a 1 - 1 := by rw [jV_eq, jSet_eq]
      have ef : jV (jV C (a + 1) (fun j => if r ≤ j ∧ j < k then C (a + 1) (j + 1) else C (a + 1) j)) a (jSet (C a) 1 (C a 1 - 1)) (a + 1) = (fun j => if r ≤ j ∧ j < k then C (a + 1) (j + 1) else C (a + 1) j) := by rw [jV_ne hne, jV_eq]
      rw [es, ef]
      split
      · have := h r a1 a2 a3 a4
        have e : (fun j => if r ≤ j ∧ j < k then C (a + 1) (j + 1) else C (a + 1) j) = jDelF (C (a + 1)) 0 r (C a 1) := by
          funext j
          simp only [jSet, jInsF, jDelF]
          grind
        rw [e]; exact this
      · split
        · exfalso; omega
        · refine ⟨by omega, by omega, by omega, ?_⟩
          refine hk _ _ ⟨by omega, by omega, ?_⟩ (by omega)
          dsimp only
          rw [if_neg (by omega)]
          funext b
          unfold jU jV
          by_cases e1 : b = a + 1
          · subst e1
            rw [if_pos rfl, if_neg hne, if_pos rfl, if_neg hne, if_pos rfl]
            funext j
            grind
          · rw [if_neg e1]
            by_cases e2 : b = a
            · rw [if_pos e2, if_pos e2]
            · rw [if_neg e2, if_neg e2, if_neg e1, if_neg e1]
    · rw [jU_S]
      congr 1
      funext b
      unfold jV
      split
      · rename_i e; rw [e]; funext j; rw [if_neg (by omega)]
      · rfl
  · rw [if_pos a1]
    exact hno a2
-- the model's lists, in the world
theorem sp_size {b : Int} {C : jC} {post : Int → Prop} (h0 : 0 ≤ b) (h1 : b < 8954) (h : post (C 346 b)) : wp_12_size b C post := ⟨h0, h1, h⟩
theorem sp_mkeyAt {b i : Int} {C : jC} {post : Int → Prop} (h0 : 0 ≤ b + 1 + i) (h1 : b + 1 + i < 8954) (h : post (C 346 (b + 1 + i))) : wp_12_keyAt b i C post := ⟨h0, h1, h⟩
theorem sp_placeIn {b x : Int} {C : jC} {post : Int → Prop} (h0 : 0 ≤ b) (h1 : b + 1 + C 346 b ≤ 8954) (h2 : b < 8954) (h : ∀ r, jFst (fun j => C 346 (b + 1 + j) = x) (C 346 b) r → post r) : wp_12_placeIn b x C post := by
  unfold wp_12_placeIn
  refine jL1_of (fun k => 0 ≤ k ∧ ∀ j, 0 ≤ j → j < k → ¬ C 346 (b + 1 + j) = x) (fun k => (C 346 b - k).toNat) (fun k x1 hi hk => ?_) ⟨by omega, fun j _ _ => by omega⟩
  unfold wp_12_placeIn_2
  obtain ⟨i0, i1⟩ := hi
  refine sp_size h0 (by omega) ?_
  split
  · refine sp_size h0 (by omega) ?_
    rw [if_pos (by assumption)]
    exact h _ (Or.inr ⟨rfl, fun j j0 j1 => i1 j j0 (by omega)⟩)
  · refine sp_mkeyAt (by omega) (by omega) ?_
    split
    · refine sp_size h0 (by omega) ?_
      rw [if_neg (by assumption)]
      exact h _ (Or.inl ⟨i0, by omega, by assumption, i1⟩)
    · refine hk _ ⟨by omega, fun j j0 j1 => ?_⟩ (by omega)
      by_cases hj : j = x1
      · subst hj; assumption
      · exact i1 j j0 (by omega)
theorem sp_puts {b p x : Int} {C : jC} {post : jC → Prop} (hw : jRng (C 346 b + 1)) (hb : 0 ≤ b) (h0 : 0 ≤ p) (h1 : p ≤ C 346 b) (h2 : b + 1 + C 346 b < 8954) (h : post (jV C 346 (jSet (jInsF (C 346) (b + 1) p (C 346 b) x) b (C 346 b + 1)))) : wp_12_puts b p x C post := by
  unfold wp_12_puts
  refine sp_size hb (by omega) ?_
  refine jL2_of (fun k C' => p ≤ k ∧ k ≤ C 346 b ∧ C' = jV C 346 (fun j => if b + 1 + k < j ∧ j ≤ b + 1 + C 346 b then C 346 (j - 1) else C 346 j)) (fun k _ => (k - p).toNat) (fun kk k C' hi hk => ?_) ⟨h1, by omega, ?_⟩
  · obtain ⟨i0, i1, rfl⟩ := hi
    unfold wp_12_puts_7
    rw [jV_eq]
    split
    · have hkp : k = p := by omega
      subst hkp
      refine ⟨by omega, by omega, by omega, by omega, ?_, ?_⟩
      · rw [jU_at, if_pos rfl, if_neg (by omega), jV_eq, if_neg (by omega)]; exact hw
      · rw [jU_at, if_pos rfl, if_neg (by omega), jV_eq, if_neg (by omega)]
        have e : jU (jU (jV C 346 fun j => if b + 1 + k < j ∧ j ≤ b + 1 + C 346 b then C 346 (j - 1) else C 346 j) 346 (b + 1 + k) x) 346 b (C 346 b + 1) = jV C 346 (jSet (jInsF (C 346) (b + 1) k (C 346 b) x) b (C 346 b + 1)) := by
          rw [jU_S, jU_S, jV_V, jV_V, jV_eq, jV_eq]
          congr 2
          funext j
          simp only [jSet, jInsF, jDelF]
          grind
        rw [e]; exact h
    · refine ⟨by omega, by omega, by omega, by omega, ?_⟩
      refine hk _ _ ⟨by omega, by omega, ?_⟩ (by omega)
      rw [jU_S, jV_V, jV_eq]
      congr 1
      funext j
      simp only [jSet, jInsF, jDelF]
      grind
  · funext z
    unfold jV
    split
    · rename_i e; rw [e]; funext j; rw [if_neg (by omega)]
    · rfl
theorem sp_putsLast {b x : Int} {C : jC} {post : jC → Prop} (hw : jRng (C 346 b + 1)) (hb : 0 ≤ b) (h1 : 0 ≤ C 346 b) (h2 : b + 1 + C 346 b < 8954) (h : post (jV C 346 (jSet (jInsF (C 346) (b + 1) (C 346 b) (C 346 b) x) b (C 346 b + 1)))) : wp_12_putsLast b x C post := by
  unfold wp_12_putsLast
  exact sp_size hb (by omega) (sp_puts hw hb h1 (by omega) h2 h)
theorem sp_takes {b x : Int} {C : jC} {post : jC → Prop} (hw : jRng (C 346 b - 1)) (hb : 0 ≤ b) (h2 : b + 1 + C 346 b ≤ 8954) (h3 : b < 8954) (hno : (∀ j, 0 ≤ j → j < C 346 b → ¬ C 346 (b + 1 + j) = x) → post C) (h : ∀ r, 0 ≤ r → r < C 346 b → C 346 (b + 1 + r) = x → (∀ j, 0 ≤ j → j < r → ¬ C 346 (b + 1 + j) = x) → post (jV C 346 (jSet (jDelF (C 346) (b + 1) r (C 346 b)) b (C 346 b - 1)))) : wp_12_takes b x C post := by
  unfold wp_12_takes
  refine sp_placeIn hb h2 h3 (fun r hr => ?_)
  rcases hr with ⟨a1, a2, a3, a4⟩ | ⟨a1, a2⟩
  · rw [if_neg (by omega)]
    refine jL2_of (fun k C' => r ≤ k ∧ k ≤ C 346 b - 1 ∧ C' = jV C 346 (fun j => if b + 1 + r ≤ j ∧ j < b + 1 + k then C 346 (j + 1) else C 346 j)) (fun k _ => (C 346 b - k).toNat) (fun kk k C' hi hk => ?_) ⟨by omega, by omega, ?_⟩
    · obtain ⟨i0, i1, rfl⟩ := hi
      generalize hw9 : (fun j => if b + 1 + r ≤ j ∧ j < b + 1 + k then C 346 (j + 1) else C 346 j) = w9
      have e1 : w9 b = C 346 b := by rw [← hw9]; grind
      have e2 : w9 (b + 2 + k) = C 346 (b + 2 + k) := by rw [← hw9]; grind
      unfold wp_12_takes_16
      refine sp_size hb (by omega) ?_
      rw [jV_eq, e1]
      refine ⟨⟨by omega, by unfold jRng at hw; omega⟩, ?_⟩
      split
      · refine ⟨by omega, by omega, hw, ?_⟩
        have := h r a1 a2 a3 a4
        rw [jU_S, jV_V, jV_eq]
        have e : w9 = jDelF (C 346) (b + 1) r (C 346 b) := by
          rw [← hw9]
          funext j
          simp only [jDelF]
          grind
        rw [e]; exact this
      · refine ⟨by omega, by omega, by omega, by omega, ?_⟩
        refine hk _ _ ⟨by omega, by omega, ?_⟩ (by omega)
        rw [e2, jU_S, jV_V, jV_eq]
        congr 1
        rw [← hw9]
        funext j
        simp only [jSet]
        grind
    · funext z
      unfold jV
      split
      · rename_i e; rw [e]; funext j; rw [if_neg (by omega)]
      · rfl
  · rw [if_pos a1]
    exact hno a2

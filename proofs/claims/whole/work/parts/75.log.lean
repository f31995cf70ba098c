-- one change more in the log
def jLogW (v key c was is : Int) (w : Int → Int) : Int → Int := fun j => if j = 3 then min 40 (w 3 + 1) else if 8754 ≤ j ∧ j < 8954 then (if j = 8754 then v else if j = 8755 then key else if j = 8756 then c else if j = 8757 then was else if j = 8758 then is else w (j - 5)) else w j
theorem sp_mlog {v key c was is : Int} {D : jC} {post : jC → Prop} (h0 : 0 ≤ D 346 3) (h1 : D 346 3 ≤ 40) (y : post (jV D 346 (jLogW v key c was is (D 346)))) : wp_12_isTold v key c was is D post := by
  unfold wp_12_isTold
  refine jL2_of (fun k E => 4 ≤ k ∧ k ≤ 199 ∧ E = jV D 346 (fun j => if 8754 + k < j ∧ j < 8954 then D 346 (j - 5) else D 346 j)) (fun k _ => k.toNat) (fun K k E hi hk => ?_) ⟨by omega, by omega, ?_⟩
  · obtain ⟨i0, i1, rfl⟩ := hi
    unfold wp_12_isTold_5
    by_cases a : k < 5
    · rw [if_pos a]
      have ek : k = 4 := by omega
      subst ek
      obtain ⟨F, hF⟩ : ∃ F : Int → Int, F = (fun j => if j = 8758 then is else if j = 8757 then was else if j = 8756 then c else if j = 8755 then key else if j = 8754 then v else if 8754 + 4 < j ∧ j < 8954 then D 346 (j - 5) else D 346 j) := ⟨_, rfl⟩
      have e : jU (jU (jU (jU (jU (jV D 346 (fun j => if 8754 + 4 < j ∧ j < 8954 then D 346 (j - 5) else D 346 j)) 346 8754 v) 346 8755 key) 346 8756 c) 346 8757 was) 346 8758 is = jV D 346 F := by
        simp only [jU_S, jV_V, jV_eq]
        rw [hF]
        rfl
      rw [e, jV_eq]
      have e3 : F 3 = D 346 3 := by
        rw [hF]
        dsimp only
        rw [if_neg (by decide), if_neg (by decide), if_neg (by decide), if_neg (by decide), if_neg (by decide), if_neg (by decide)]
      rw [e3]
      refine ⟨⟨by omega, by omega⟩, ?_⟩
      have e4 : jU (jV D 346 F) 346 3 (min 40 (D 346 3 + 1)) = jV D 346 (jLogW v key c was is (D 346)) := by
        rw [jU_S, jV_V, jV_eq]
        congr 1
        funext j
        rw [hF]
        unfold jSet jLogW
        grind
      rw [e4]; exact y
    · rw [if_neg a]
      refine ⟨by omega, by omega, ?_⟩
      refine hk _ _ ⟨by omega, by omega, ?_⟩ (by omega)
      rw [jU_S, jV_V, jV_eq]
      congr 1
      funext j
      unfold jSet
      grind
  · have : (fun j => if 8754 + 199 < j ∧ j < 8954 then D 346 (j - 5) else D 346 j) = D 346 := by
      funext j
      rw [if_neg (by omega)]
    rw [this, jV_id]
theorem sp_clog {v key c was is : Int} {C : jC} {post : jC → Prop} (h0 : 0 ≤ C 44 1) (h1 : C 44 1 < 40) (h2 : 0 ≤ C 44 2) (h3 : C 44 2 ≤ 40)
    (y : ∀ C1 : jC, (∀ b, b ≠ 44 → b ≠ 45 → C1 b = C b) → C1 44 1 = (C 44 1 + 1) % 40 → C1 44 2 = min (C 44 2 + 1) 40 → (∀ j, C1 45 j = if j = C 44 1 * 5 then v else if j = C 44 1 * 5 + 1 then key else if j = C 44 1 * 5 + 2 then c else if j = C 44 1 * 5 + 3 then was else if j = C 44 1 * 5 + 4 then is else C 45 j) → post C1) : wp_3_takeChange 44 v key c was is C post := by
  unfold wp_3_takeChange
  simp only [Int.reduceAdd]
  refine ⟨⟨by omega, by omega⟩, ?_⟩
  rw [if_neg (by omega)]
  refine ⟨⟨by omega, by omega⟩, ?_⟩
  rw [if_pos (by omega)]
  generalize hX : jU (jU (jU (jU (jU C 45 (C 44 1 * 5) v) 45 (C 44 1 * 5 + 1) key) 45 (C 44 1 * 5 + 2) c) 45 (C 44 1 * 5 + 3) was) 45 (C 44 1 * 5 + 4) is = X
  have x1 : ∀ b, b ≠ 45 → X b = C b := fun b hb => by rw [← hX, jU_ne hb, jU_ne hb, jU_ne hb, jU_ne hb, jU_ne hb]
  have x2 : ∀ j, X 45 j = if j = C 44 1 * 5 then v else if j = C 44 1 * 5 + 1 then key else if j = C 44 1 * 5 + 2 then c else if j = C 44 1 * 5 + 3 then was else if j = C 44 1 * 5 + 4 then is else C 45 j := by
    intro j
    rw [← hX]
    simp only [jU_at]
    grind
  have x44 := x1 44 (by decide)
  have z1 : ∀ q, jU X 44 1 q 44 2 = C 44 2 := fun q => by rw [jU_at, if_pos rfl, if_neg (by decide), x44]
  rw [z1, x44, tmod_nn (by omega)]
  refine ⟨by omega, by omega, by omega, by omega, by omega, ⟨by omega, by omega⟩, ⟨by omega, by omega⟩, ?_⟩
  refine y _ (fun b b1 b2 => by rw [jU_ne b1, jU_ne b1, x1 b b2]) (by rw [jU_at, if_pos rfl, if_neg (by decide), jU_at, if_pos rfl, if_pos rfl]) (by rw [jU_at, if_pos rfl, if_pos rfl]) (fun j => by rw [jU_ne (by decide), jU_ne (by decide), x2])
/-- the log's relation, one change on -/
theorem rG_log {C C1 : jC} {w w1 : Int → Int} {v key c was is : Int} (h : rG 35 C w) (h3 : C 44 2 = w 3) (h30 : 0 ≤ w 3) (h34 : w 3 ≤ 40) (c1 : C1 44 1 = (C 44 1 + 1) % 40) (c2 : ∀ j, C1 45 j = if j = C 44 1 * 5 then v else if j = C 44 1 * 5 + 1 then key else if j = C 44 1 * 5 + 2 then c else if j = C 44 1 * 5 + 3 then was else if j = C 44 1 * 5 + 4 then is else C 45 j)
    (w3 : w1 3 = min 40 (w 3 + 1)) (wl : ∀ j, 8754 ≤ j → j < 8954 → w1 j = if j = 8754 then v else if j = 8755 then key else if j = 8756 then c else if j = 8757 then was else if j = 8758 then is else w (j - 5)) : rG 35 C1 w1 := by
  obtain ⟨a1, a2, a3⟩ := h
  simp only [Int.reduceAdd] at a1 a2 a3
  unfold rG
  simp only [Int.reduceAdd]
  rw [c1]
  refine ⟨by omega, by omega, fun g p g0 g1 p0 p1 => ?_⟩
  rw [w3] at g1
  rw [wl _ (by omega) (by omega), c2]
  by_cases e : g = 0
  · have en : ((C 44 1 + 1) % 40 - 1 - g) % 40 = C 44 1 := by omega
    rw [en]
    have hp : p = 0 ∨ p = 1 ∨ p = 2 ∨ p = 3 ∨ p = 4 := by omega
    subst e
    rcases hp with rfl | rfl | rfl | rfl | rfl
    · rw [if_pos (by omega), if_pos (by omega)]
    · rw [if_neg (by omega), if_pos (by omega), if_neg (by omega), if_pos (by omega)]
    · rw [if_neg (by omega), if_neg (by omega), if_pos (by omega), if_neg (by omega), if_neg (by omega), if_pos (by omega)]
    · rw [if_neg (by omega), if_neg (by omega), if_neg (by omega), if_pos (by omega), if_neg (by omega), if_neg (by omega), if_neg (by omega), if_pos (by omega)]
    · rw [if_neg (by omega), if_neg (by omega), if_neg (by omega), if_neg (by omega), if_pos (by omega), if_neg (by omega), if_neg (by omega), if_neg (by omega), if_neg (by omega), if_pos (by omega)]
  · have en : ((C 44 1 + 1) % 40 - 1 - g) % 40 = (C 44 1 - 1 - (g - 1)) % 40 := by omega
    have nn : (C 44 1 - 1 - (g - 1)) % 40 ≠ C 44 1 := by omega
    rw [en, if_neg (by omega), if_neg (by omega), if_neg (by omega), if_neg (by omega), if_neg (by omega), if_neg (by omega), if_neg (by omega), if_neg (by omega), if_neg (by omega), if_neg (by omega)]
    rw [a3 (g - 1) p (by omega) (by omega) p0 p1]
    congr 1
    omega

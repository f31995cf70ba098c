-- comparing rows by a view's sorts
def jCmp (s a b : Int) : Int := if a = b then 0 else if a = -1000000 then 1 else if b = -1000000 then -1 else if s % 2 = 1 then (if b ≤ a then -1 else 1) else (if b ≤ a then 1 else -1)
theorem jCmp_sgn (s a b : Int) : jCmp s a b = 0 ∨ jCmp s a b = 1 ∨ jCmp s a b = -1 := by
  unfold jCmp
  grind
theorem jCmp_anti (s a b : Int) : jCmp s a b = - jCmp s b a := by
  unfold jCmp
  grind
def jCs (C : jC) (s x y : Int) : Int := jCmp s (C 39 (x * 5 + s / 2)) (C 39 (y * 5 + s / 2))
theorem sp_compareBy {C : jC} {w : Int → Int} (h : rS 35 C w) {s x y : Int} {post : Int → Prop} (s0 : 0 ≤ s) (s1 : s < 2 * w 0) (x0 : 0 ≤ x) (x1 : x < 24) (y0 : 0 ≤ y) (y1 : y < 24) : wp_7_compareBy 36 s x y C post = post (jCs C s x y) := by
  obtain ⟨k1, k2, k3, -⟩ := r_cols h
  unfold wp_7_compareBy
  have V : ∀ z (q : Int → Prop), 0 ≤ z → z < 24 → wp_7_valueAt 36 z (s / 2) C q = q (C 39 (z * 5 + s / 2)) := by
    intro z q z0 z1
    rw [sp_valueAt (by omega), if_pos ⟨⟨z0, z1⟩, by omega, by omega⟩]
    rfl
  rw [tdiv_nn s0, tmod_nn s0, V x _ x0 x1, V y _ y0 y1]
  unfold jCs
  generalize C 39 (x * 5 + s / 2) = a
  generalize C 39 (y * 5 + s / 2) = b
  unfold jCmp wp_7_compareBy_68
  by_cases e1 : a = b
  · rw [if_pos e1, if_pos e1]
  rw [if_neg e1, if_neg e1]
  by_cases e2 : a = -1000000
  · rw [if_pos e2, if_pos e2, if_pos e2]
  rw [if_neg e2, if_neg e2]
  by_cases e3 : b = -1000000
  · rw [if_pos e3, if_neg e2, if_pos e3]
  rw [if_neg e3, if_neg e3]
  by_cases e4 : s % 2 = 1
  · rw [if_pos e4, if_pos e4]
    by_cases e5 : b ≤ a
    · rw [if_pos e5, if_neg (by decide), if_pos e5, if_neg e2]
    · rw [if_neg e5, if_pos rfl, if_neg e5, if_neg e2]
  · rw [if_neg e4, if_neg e4]
    by_cases e5 : b ≤ a
    · rw [if_pos e5, if_pos rfl, if_pos e5, if_neg e2]
    · rw [if_neg e5, if_neg (by decide), if_neg e5, if_neg e2]
theorem sp_bySort {C : jC} {w : Int → Int} (h : rS 35 C w) {s x y : Int} (s0 : 0 ≤ s) (s1 : s < 2 * w 0) (x0 : 0 ≤ x) (x1 : x < 24) (y0 : 0 ≤ y) (y1 : y < 24) (lx : rLive C 35 x) (ly : rLive C 35 y) {C' : jC} (hC : C' 346 = w) : jDet (wp_12_bySort s (C 38 x) (C 38 y) C') (jCs C s x y) := by
  intro post z
  obtain ⟨k1, k2, k3, -⟩ := r_cols h
  have cx := sp_cellOf h x0 x1 lx (show 0 ≤ s / 2 by omega) (by omega) hC
  have cy := sp_cellOf h y0 y1 ly (show 0 ≤ s / 2 by omega) (by omega) hC
  simp only [Int.reduceAdd] at cx cy
  have ex := (r_live h x0 x1 lx).2.2.2 (s / 2) (by omega) (by omega)
  have ey := (r_live h y0 y1 ly).2.2.2 (s / 2) (by omega) (by omega)
  rw [← ex.1] at cx
  rw [← ey.1] at cy
  unfold jCs at z
  unfold wp_12_bySort
  rw [tdiv_nn s0]
  refine cx _ (cy _ ?_)
  generalize C 39 (x * 5 + s / 2) = a at z
  generalize C 39 (y * 5 + s / 2) = b at z
  unfold jCmp at z
  unfold wp_12_bySort_68
  rw [tmod_nn s0]
  by_cases e1 : a = b
  · rw [if_pos e1] at z; rw [if_pos e1]; exact z
  rw [if_neg e1] at z; rw [if_neg e1]
  by_cases e2 : a = -1000000
  · rw [if_pos e2] at z; rw [if_pos e2, if_pos e2]; exact z
  rw [if_neg e2] at z; rw [if_neg e2]
  by_cases e3 : b = -1000000
  · rw [if_pos e3] at z; rw [if_pos e3, if_neg e2]; exact z
  rw [if_neg e3] at z; rw [if_neg e3]
  by_cases e4 : s % 2 = 1
  · rw [if_pos e4] at z
    by_cases e5 : a ≤ b
    · rw [if_neg (by omega)] at z; rw [if_pos e5, if_neg (by omega), if_pos rfl]; exact z
    · rw [if_pos (by omega)] at z; rw [if_neg e5, if_neg (by omega), if_neg (by decide)]; exact z
  · rw [if_neg e4] at z
    by_cases e5 : a ≤ b
    · rw [if_neg (by omega)] at z; rw [if_pos e5, if_pos (by omega), if_neg (by decide)]; exact z
    · rw [if_pos (by omega)] at z; rw [if_neg e5, if_pos (by omega), if_pos rfl]; exact z

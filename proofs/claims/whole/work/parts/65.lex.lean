-- the first sort that tells two rows apart
def jSt (f : Int → Int) (n : Int) : Int := jFold (fun k a => if a = 0 then f k else a) 0 n.toNat
theorem jSt_s {f : Int → Int} {k : Int} (h : 0 ≤ k) : jSt f (k + 1) = if jSt f k = 0 then f k else jSt f k := jFold_s h
theorem jSt_stick {f : Int → Int} {k n : Int} (h0 : 0 ≤ k) (h1 : k ≤ n) (h : jSt f k ≠ 0) : jSt f n = jSt f k := by
  have key : ∀ m : Nat, jSt f (k + m) = jSt f k := by
    intro m
    induction m with
    | zero => rw [show k + ((0 : Nat) : Int) = k by omega]
    | succ m ih =>
      rw [show k + ((m + 1 : Nat) : Int) = k + (m : Int) + 1 by omega, jSt_s (by omega), ih, if_neg h]
  have := key (n - k).toNat
  rw [show k + ((n - k).toNat : Int) = n by omega] at this
  exact this
theorem jSt_at {f : Int → Int} {k n : Int} (h0 : 0 ≤ k) (h1 : k < n) (h : jSt f k = 0) (hf : f k ≠ 0) : jSt f n = f k := by
  have e : jSt f (k + 1) = f k := by rw [jSt_s h0, if_pos h]
  rw [← e]
  exact jSt_stick (by omega) (by omega) (by rw [e]; exact hf)
theorem jSt_anti {f g : Int → Int} (h : ∀ k, f k = - g k) (n : Int) : jSt f n = - jSt g n := by
  unfold jSt
  generalize n.toNat = m
  induction m with
  | zero => rfl
  | succ m ih =>
    show (if jFold (fun k a => if a = 0 then f k else a) 0 m = 0 then f m else jFold (fun k a => if a = 0 then f k else a) 0 m) = - (if jFold (fun k a => if a = 0 then g k else a) 0 m = 0 then g m else jFold (fun k a => if a = 0 then g k else a) 0 m)
    rw [ih, h]
    by_cases e : jFold (fun k a => if a = 0 then g k else a) 0 m = 0
    · rw [if_pos (by omega), if_pos e]
    · rw [if_neg (by omega), if_neg e]
theorem jSt_congr {f g : Int → Int} {n : Int} (h : ∀ k, 0 ≤ k → k < n → f k = g k) : jSt f n = jSt g n := by
  unfold jSt
  exact jFold_congr (fun i x i0 i1 => by rw [h i i0 (by omega)])
def jLex (C : jC) (q : Int → Int) (n x y : Int) : Int := jSt (fun k => jCs C (q k) x y) n
theorem jLex_anti (C : jC) (q : Int → Int) (n x y : Int) : jLex C q n x y = - jLex C q n y x := jSt_anti (fun _ => jCmp_anti _ _ _) n
theorem sp_ahead {C : jC} {w : Int → Int} (h : rS 35 C w) {v x y : Int} (v0 : 0 ≤ v) (v1 : v < 4) (x0 : 0 ≤ x) (x1 : x < 24) (y0 : 0 ≤ y) (y1 : y < 24) : jDet (wp_2_isAhead (51 + 72 * v + 1) 36 x y C) (if jLex C (C (51 + 72 * v + 3)) (w (298 + 2114 * v + 25)) x y < 0 then 1 else 0) := by
  intro post z
  obtain ⟨q1, q2, q3, q4, -⟩ := r_lens h v0 v1
  rw [show 51 + 72 * v + 1 + 2 = 51 + 72 * v + 3 by omega] at q4
  unfold jLex at z
  generalize hn : w (298 + 2114 * v + 25) = n at z q1 q2 q3 q4
  unfold wp_2_isAhead
  refine jL1_of (fun k => 0 ≤ k ∧ k ≤ n ∧ jSt (fun k => jCs C (C (51 + 72 * v + 3) k) x y) k = 0) (fun k => (n - k).toNat) (fun K k hi hk => ?_) ⟨by omega, by omega, rfl⟩
  obtain ⟨i0, i1, i2⟩ := hi
  unfold wp_2_isAhead_3
  by_cases a : C (51 + 72 * v + 1) 2 ≤ k
  · rw [if_pos a]
    have e : k = n := by omega
    rw [e] at i2
    rw [i2, if_neg (by decide)] at z
    exact z
  · rw [if_neg a]
    unfold wp_2_sortAt
    rw [if_neg (by omega), if_neg a, if_neg (by omega), show 51 + 72 * v + 1 + 2 = 51 + 72 * v + 3 by omega]
    obtain ⟨p1, p2, p3⟩ := q4 k i0 (by omega)
    rw [sp_compareBy h (by omega) (by omega) x0 x1 y0 y1]
    by_cases e : jCs C (C (51 + 72 * v + 3) k) x y = 0
    · rw [if_pos e]
      refine hk _ ⟨by omega, by omega, ?_⟩ (by omega)
      rw [jSt_s i0, if_pos i2]
      exact e
    · rw [if_neg e]
      rw [jSt_at (f := fun k => jCs C (C (51 + 72 * v + 3) k) x y) i0 (show k < n by omega) i2 e] at z
      by_cases d : 0 ≤ jCs C (C (51 + 72 * v + 3) k) x y
      · rw [if_pos d]; rw [if_neg (by omega)] at z; exact z
      · rw [if_neg d]; rw [if_pos (by omega)] at z; exact z
theorem r_olive {C : jC} {w : Int → Int} (h : rS 35 C w) {i : Int} (i0 : 0 ≤ i) (i1 : i < w 273) : 0 ≤ C 42 i ∧ C 42 i < 24 ∧ rLive C 35 (C 42 i) := by
  obtain ⟨o1, o2, o3, o4, -⟩ := r_ord h
  obtain ⟨a1, a2, -⟩ := o4 i i0 i1
  exact ⟨a1, a2, ⟨i, i0, by simp only [Int.reduceAdd]; omega, rfl⟩⟩
theorem r_key {C : jC} {w : Int → Int} (h : rS 35 C w) {s t : Int} (s0 : 0 ≤ s) (s1 : s < 24) (ls : rLive C 35 s) (t0 : 0 ≤ t) (t1 : t < 24) (lt : rLive C 35 t) (e : C 38 s = C 38 t) : s = t := by
  have := h.2.2.2.1.2.2 s t s0 s1 t0 t1 ls lt
  simp only [Int.reduceAdd] at this
  exact this e
theorem sp_oplace {C : jC} {w : Int → Int} (h : rS 35 C w) {i : Int} (i0 : 0 ≤ i) (i1 : i < w 273) {C' : jC} (hC : C' 346 = w) : jDet (wp_12_placeIn 273 (C 38 (C 42 i)) C') i := by
  intro post z
  obtain ⟨o1, o2, o3, o4, o5⟩ := r_ord h
  obtain ⟨a1, a2, a3⟩ := r_olive h i0 i1
  refine sp_placeIn (by decide) (by rw [hC]; omega) (by decide) (fun r hr => ?_)
  simp only [Int.reduceAdd, hC] at hr
  have e : r = i := by
    refine jFst_uniq hr (Or.inl ⟨i0, i1, (o4 i i0 i1).2.2, fun j j0 j1 => ?_⟩)
    intro e
    have e : w (274 + j) = C 38 (C 42 i) := e
    rw [(o4 j j0 (by omega)).2.2] at e
    obtain ⟨b1, b2, b3⟩ := r_olive h j0 (show j < w 273 by omega)
    exact o5 j i j0 j1 i1 (r_key h b1 b2 b3 a1 a2 a3 e)
  rw [e]; exact z
theorem sp_bySorts {C : jC} {w : Int → Int} (h : rS 35 C w) {v x y px py : Int} (v0 : 0 ≤ v) (v1 : v < 4) (x0 : 0 ≤ x) (x1 : x < 24) (lx : rLive C 35 x) (y0 : 0 ≤ y) (y1 : y < 24) (ly : rLive C 35 y) {C' : jC} (hC : C' 346 = w) (hx : jDet (wp_12_placeIn 273 (C 38 x) C') px) (hy : jDet (wp_12_placeIn 273 (C 38 y) C') py) :
    jDet (wp_12_bySorts (298 + 2114 * v + 26) (w (298 + 2114 * v + 25)) (C 38 x) (C 38 y) C') (if jLex C (C (51 + 72 * v + 3)) (w (298 + 2114 * v + 25)) x y = 0 then (if px ≤ py then -1 else 1) else jLex C (C (51 + 72 * v + 3)) (w (298 + 2114 * v + 25)) x y) := by
  intro post z
  obtain ⟨q1, q2, q3, q4, -⟩ := r_lens h v0 v1
  rw [show 51 + 72 * v + 1 + 2 = 51 + 72 * v + 3 by omega] at q4
  unfold jLex at z
  generalize hn : w (298 + 2114 * v + 25) = n at z q1 q2 q3 q4 ⊢
  have fin : wp_12_bySorts_41 (C 38 x) (C 38 y) (jSt (fun k => jCs C (C (51 + 72 * v + 3) k) x y) n) C' post := by
    unfold wp_12_bySorts_41
    by_cases e : jSt (fun k => jCs C (C (51 + 72 * v + 3) k) x y) n = 0
    · rw [if_pos e] at z ⊢
      refine hx _ (hy _ ?_)
      by_cases d : px ≤ py
      · rw [if_pos d] at z ⊢; exact z
      · rw [if_neg d] at z ⊢; exact z
    · rw [if_neg e] at z ⊢; exact z
  unfold wp_12_bySorts
  refine jL2_of (fun a k => 0 ≤ k ∧ k ≤ n ∧ a = jSt (fun k => jCs C (C (51 + 72 * v + 3) k) x y) k) (fun _ k => (n - k).toNat) (fun K a k hi hk => ?_) ⟨by omega, by omega, rfl⟩
  obtain ⟨i0, i1, rfl⟩ := hi
  unfold wp_12_bySorts_6
  by_cases a : n ≤ k
  · rw [if_pos a]
    have e : k = n := by omega
    rw [e]; exact fin
  · rw [if_neg a]
    by_cases b : jSt (fun k => jCs C (C (51 + 72 * v + 3) k) x y) k = 0
    · rw [if_pos b]
      obtain ⟨p1, p2, p3⟩ := q4 k i0 (by omega)
      refine ⟨by omega, by omega, ?_⟩
      rw [hC, ← p1]
      refine sp_bySort h (by omega) (by omega) x0 x1 y0 y1 lx ly hC _ ?_
      refine hk _ _ ⟨by omega, by omega, ?_⟩ (by omega)
      rw [jSt_s i0, if_pos b]
    · rw [if_neg b]
      rw [← jSt_stick i0 (show k ≤ n by omega) b]
      exact fin

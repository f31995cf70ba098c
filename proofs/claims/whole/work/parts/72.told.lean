-- by which sorts an order can be told
theorem jSt_1 (f : Int → Int) : jSt f 1 = f 0 := by
  have : jSt f (0 + 1) = if jSt f 0 = 0 then f 0 else jSt f 0 := jSt_s (by omega)
  rw [if_pos (show jSt f 0 = 0 from rfl)] at this
  exact this
theorem jSt_2 (f : Int → Int) : jSt f 2 = if f 0 = 0 then f 1 else f 0 := by
  have : jSt f (1 + 1) = if jSt f 1 = 0 then f 1 else jSt f 1 := jSt_s (by omega)
  rw [jSt_1] at this
  exact this
def jOk (C : jC) (f : Int → Int) (m x y px py : Int) : Prop := jSt (fun k => jCs C (f k) x y) m < 0 ∨ (jSt (fun k => jCs C (f k) x y) m = 0 ∧ px ≤ py)
/-- the list l of n rows, at the places P, is told by the sorts f -/
def jTl (C : jC) (l P : Int → Int) (n : Int) (f : Int → Int) (m : Int) : Prop := ∀ i, 0 ≤ i → i + 1 < n → jOk C f m (l i) (l (i + 1)) (P i) (P (i + 1))
theorem sp_cTold {C : jC} {w : Int → Int} (h : rS 35 C w) {v : Int} (v0 : 0 ≤ v) (v1 : v < 4) {P f : Int → Int} {m s1 s2 : Int} (hP : ∀ i, 0 ≤ i → i < w (298 + 2114 * v) → 0 ≤ P i ∧ P i < 24)
    (hm : (m = 0 ∧ s1 = -1 ∧ s2 = -1) ∨ (m = 1 ∧ s1 = f 0 ∧ s2 = -1) ∨ (m = 2 ∧ s1 = f 0 ∧ s2 = f 1)) (hf : ∀ k, 0 ≤ k → k < m → 0 ≤ f k ∧ f k < 2 * w 0) (h342 : ∀ i, 0 ≤ i → i < w (298 + 2114 * v) → C 342 i = P i)
    {post : Int → Prop} (y1 : jTl C (C (51 + 72 * v + 29 + 1)) P (w (298 + 2114 * v)) f m → post 1) (y0 : ¬ jTl C (C (51 + 72 * v + 29 + 1)) P (w (298 + 2114 * v)) f m → post 0) : wp_4_isTold 36 (51 + 72 * v + 29) s1 s2 C post := by
  obtain ⟨l1, l2, l3, l4, -⟩ := r_list h v0 v1
  unfold wp_4_isTold
  refine jL1_of (fun k => 1 ≤ k ∧ ∀ i, 0 ≤ i → i + 1 < k → i + 1 < w (298 + 2114 * v) → jOk C f m (C (51 + 72 * v + 29 + 1) i) (C (51 + 72 * v + 29 + 1) (i + 1)) (P i) (P (i + 1))) (fun k => (w (298 + 2114 * v) - k).toNat) (fun K k hi hk => ?_) ⟨by omega, fun i a b => by omega⟩
  obtain ⟨i0, i1⟩ := hi
  unfold wp_4_isTold_3
  rw [sp_length, l1]
  by_cases a : w (298 + 2114 * v) ≤ k
  · rw [if_pos a]
    exact y1 (fun i b c => i1 i b (by omega) c)
  · rw [if_neg a, if_neg (by omega)]
    refine ⟨⟨by omega, by omega⟩, ?_⟩
    rw [sp_vat h v0 v1 (by omega) (by omega), sp_vat h v0 v1 (by omega) (by omega)]
    obtain ⟨x0, x1, -⟩ := l4 (k - 1) (by omega) (by omega)
    obtain ⟨z0, z1, -⟩ := l4 k (by omega) (by omega)
    have P0 := hP (k - 1) (by omega) (by omega)
    have P1 := hP k (by omega) (by omega)
    have e1 := h342 (k - 1) (by omega) (by omega)
    have e2 := h342 k (by omega) (by omega)
    have fin : wp_4_isTold_80 36 (51 + 72 * v + 29) s1 s2 k (jSt (fun j => jCs C (f j) (C (51 + 72 * v + 29 + 1) (k - 1)) (C (51 + 72 * v + 29 + 1) k)) m) C post K := by
      have st : jOk C f m (C (51 + 72 * v + 29 + 1) (k - 1)) (C (51 + 72 * v + 29 + 1) k) (P (k - 1)) (P k) → K (k + 1) := by
        intro o
        refine hk _ ⟨by omega, fun i b c d => ?_⟩ (by omega)
        by_cases e : i = k - 1
        · subst e
          rw [show k - 1 + 1 = k by omega]; exact o
        · exact i1 i b (by omega) d
      have no : ¬ jOk C f m (C (51 + 72 * v + 29 + 1) (k - 1)) (C (51 + 72 * v + 29 + 1) k) (P (k - 1)) (P k) → post 0 := by
        intro o
        refine y0 (fun z => o ?_)
        have := z (k - 1) (by omega) (by omega)
        rw [show k - 1 + 1 = k by omega] at this
        exact this
      unfold jOk at st no
      generalize jSt (fun j => jCs C (f j) (C (51 + 72 * v + 29 + 1) (k - 1)) (C (51 + 72 * v + 29 + 1) k)) m = L at st no
      unfold wp_4_isTold_80
      by_cases c : L = 0
      · rw [if_pos c, e1, e2]
        refine ⟨by omega, by omega, by omega, by omega, ⟨by omega, by omega⟩, ?_⟩
        by_cases d : P (k - 1) - P k ≤ 0
        · rw [if_pos d]; exact st (by omega)
        · rw [if_neg d]; exact no (by omega)
      · rw [if_neg c]
        by_cases d : L ≤ 0
        · rw [if_pos d]; exact ⟨⟨by omega, by omega⟩, st (by omega)⟩
        · rw [if_neg d]; exact no (by omega)
    have s0 : jSt (fun j => jCs C (f j) (C (51 + 72 * v + 29 + 1) (k - 1)) (C (51 + 72 * v + 29 + 1) k)) 0 = 0 := rfl
    have s1' : jSt (fun j => jCs C (f j) (C (51 + 72 * v + 29 + 1) (k - 1)) (C (51 + 72 * v + 29 + 1) k)) 1 = jCs C (f 0) (C (51 + 72 * v + 29 + 1) (k - 1)) (C (51 + 72 * v + 29 + 1) k) := jSt_1 _
    have s2' : jSt (fun j => jCs C (f j) (C (51 + 72 * v + 29 + 1) (k - 1)) (C (51 + 72 * v + 29 + 1) k)) 2 = if jCs C (f 0) (C (51 + 72 * v + 29 + 1) (k - 1)) (C (51 + 72 * v + 29 + 1) k) = 0 then jCs C (f 1) (C (51 + 72 * v + 29 + 1) (k - 1)) (C (51 + 72 * v + 29 + 1) k) else jCs C (f 0) (C (51 + 72 * v + 29 + 1) (k - 1)) (C (51 + 72 * v + 29 + 1) k) := jSt_2 _
    rcases hm with ⟨rfl, rfl, rfl⟩ | ⟨rfl, rfl, rfl⟩ | ⟨rfl, rfl, rfl⟩
    · rw [if_pos rfl]
      unfold wp_4_isTold_55
      rw [if_pos rfl, if_pos rfl]
      rw [s0] at fin
      exact fin
    · have f0 := hf 0 (by omega) (by omega)
      rw [if_neg (by omega), sp_compareBy h (by omega) (by omega) x0 x1 z0 z1]
      unfold wp_4_isTold_55
      rw [s1'] at fin
      by_cases c : jCs C (f 0) (C (51 + 72 * v + 29 + 1) (k - 1)) (C (51 + 72 * v + 29 + 1) k) = 0
      · rw [if_pos c, if_pos rfl]; exact fin
      · rw [if_neg c]; exact fin
    · have f0 := hf 0 (by omega) (by omega)
      have f1 := hf 1 (by omega) (by omega)
      rw [if_neg (by omega), sp_compareBy h (by omega) (by omega) x0 x1 z0 z1]
      unfold wp_4_isTold_55
      rw [s2'] at fin
      by_cases c : jCs C (f 0) (C (51 + 72 * v + 29 + 1) (k - 1)) (C (51 + 72 * v + 29 + 1) k) = 0
      · rw [if_pos c, if_neg (by omega), sp_compareBy h (by omega) (by omega) x0 x1 z0 z1]
        rw [if_pos c] at fin; exact fin
      · rw [if_neg c]
        rw [if_neg c] at fin; exact fin
theorem sp_byTried {C : jC} {w : Int → Int} (h : rS 35 C w) {f : Int → Int} {m x y px py : Int} (m0 : 0 ≤ m) (m1 : m ≤ 2) (hf : ∀ k, 0 ≤ k → k < m → 0 ≤ f k ∧ f k < 2 * w 0) (x0 : 0 ≤ x) (x1 : x < 24) (lx : rLive C 35 x) (y0 : 0 ≤ y) (y1 : y < 24) (ly : rLive C 35 y) {C' : jC} (hC : C' 346 = w) (h355 : ∀ k, 0 ≤ k → k < m → C' 355 k = f k) (hx : jDet (wp_12_placeIn 273 (C 38 x) C') px) (hy : jDet (wp_12_placeIn 273 (C 38 y) C') py) :
    jDet (wp_12_byTried m (C 38 x) (C 38 y) C') (if jSt (fun k => jCs C (f k) x y) m = 0 then (if px ≤ py then -1 else 1) else jSt (fun k => jCs C (f k) x y) m) := by
  intro post z
  have fin : wp_12_byTried_38 (C 38 x) (C 38 y) (jSt (fun k => jCs C (f k) x y) m) C' post := by
    unfold wp_12_byTried_38
    by_cases e : jSt (fun k => jCs C (f k) x y) m = 0
    · rw [if_pos e] at z ⊢
      refine hx _ (hy _ ?_)
      by_cases d : px ≤ py
      · rw [if_pos d] at z ⊢; exact z
      · rw [if_neg d] at z ⊢; exact z
    · rw [if_neg e] at z ⊢; exact z
  unfold wp_12_byTried
  refine jL2_of (fun a k => 0 ≤ k ∧ k ≤ m ∧ a = jSt (fun k => jCs C (f k) x y) k) (fun _ k => (m - k).toNat) (fun K a k hi hk => ?_) ⟨by omega, by omega, rfl⟩
  obtain ⟨i0, i1, rfl⟩ := hi
  unfold wp_12_byTried_6
  by_cases a : m ≤ k
  · rw [if_pos a]
    have e : k = m := by omega
    rw [e]; exact fin
  · rw [if_neg a]
    by_cases b : jSt (fun k => jCs C (f k) x y) k = 0
    · rw [if_pos b]
      obtain ⟨p1, p2⟩ := hf k i0 (by omega)
      refine ⟨by omega, by omega, ?_⟩
      rw [h355 k i0 (by omega)]
      refine sp_bySort h (by omega) (by omega) x0 x1 y0 y1 lx ly hC _ ?_
      refine hk _ _ ⟨by omega, by omega, ?_⟩ (by omega)
      rw [jSt_s i0, if_pos b]
    · rw [if_neg b]
      rw [← jSt_stick i0 (show k ≤ m by omega) b]
      exact fin
theorem sp_mTold {C : jC} {w : Int → Int} (h : rS 35 C w) {v : Int} (v0 : 0 ≤ v) (v1 : v < 4) {P f : Int → Int} {m : Int} (m0 : 0 ≤ m) (m1 : m ≤ 2) (hP : ∀ i, 0 ≤ i → i < w (298 + 2114 * v) → 0 ≤ P i ∧ P i < w 273 ∧ C 42 (P i) = C (51 + 72 * v + 29 + 1) i)
    (hf : ∀ k, 0 ≤ k → k < m → 0 ≤ f k ∧ f k < 2 * w 0) {C' : jC} (hC : C' 346 = w) (h355 : ∀ k, 0 ≤ k → k < m → C' 355 k = f k)
    {post : Int → Prop} (y1 : jTl C (C (51 + 72 * v + 29 + 1)) P (w (298 + 2114 * v)) f m → post 1) (y0 : ¬ jTl C (C (51 + 72 * v + 29 + 1)) P (w (298 + 2114 * v)) f m → post 0) : wp_12_isSorted (298 + 2114 * v) m C' post := by
  obtain ⟨l1, l2, l3, l4, -⟩ := r_list h v0 v1
  unfold wp_12_isSorted
  refine jL2_of (fun a k => 0 ≤ k ∧ k ≤ 24 ∧ ((a = 1 ∧ ∀ i, 0 ≤ i → i < k → i + 1 < w (298 + 2114 * v) → jOk C f m (C (51 + 72 * v + 29 + 1) i) (C (51 + 72 * v + 29 + 1) (i + 1)) (P i) (P (i + 1))) ∨ (a = 0 ∧ ¬ jTl C (C (51 + 72 * v + 29 + 1)) P (w (298 + 2114 * v)) f m))) (fun _ k => (w (298 + 2114 * v) - k).toNat) (fun K a k hi hk => ?_) ⟨by omega, by omega, Or.inl ⟨rfl, fun i a b => by omega⟩⟩
  obtain ⟨i0, i9, i1⟩ := hi
  unfold wp_12_isSorted_5
  refine sp_size (by omega) (by omega) ⟨⟨by omega, by omega⟩, ?_⟩
  rw [hC]
  by_cases b : w (298 + 2114 * v) ≤ k + 1
  · rw [if_pos b]
    rcases i1 with ⟨rfl, i1⟩ | ⟨rfl, i1⟩
    · exact ⟨by omega, y1 (fun i b c => i1 i b (by omega) c)⟩
    · exact ⟨by omega, y0 i1⟩
  · rw [if_neg b]
    rcases i1 with ⟨rfl, i1⟩ | ⟨rfl, i1⟩
    · rw [if_neg (by decide)]
      refine sp_mkeyAt (by omega) (by omega) ?_
      refine sp_mkeyAt (by omega) (by omega) ?_
      obtain ⟨x0, x1, x2, x3⟩ := l4 k (by omega) (by omega)
      obtain ⟨z0, z1, z2, z3⟩ := l4 (k + 1) (by omega) (by omega)
      obtain ⟨p0, p1, p2⟩ := hP k (by omega) (by omega)
      obtain ⟨q0, q1, q2⟩ := hP (k + 1) (by omega) (by omega)
      rw [hC, x2, z2]
      have hx := sp_oplace h p0 p1 hC
      have hy := sp_oplace h q0 q1 hC
      rw [p2] at hx
      rw [q2] at hy
      refine sp_byTried h m0 m1 hf x0 x1 x3 z0 z1 z3 hC h355 hx hy _ ?_
      have st : jOk C f m (C (51 + 72 * v + 29 + 1) k) (C (51 + 72 * v + 29 + 1) (k + 1)) (P k) (P (k + 1)) → K 1 (k + 1) := by
        intro o
        refine hk _ _ ⟨by omega, by omega, Or.inl ⟨rfl, fun i b c d => ?_⟩⟩ (by omega)
        by_cases e : i = k
        · subst e; exact o
        · exact i1 i b (by omega) d
      have no : ¬ jOk C f m (C (51 + 72 * v + 29 + 1) k) (C (51 + 72 * v + 29 + 1) (k + 1)) (P k) (P (k + 1)) → K 0 (k + 1) := by
        intro o
        exact hk _ _ ⟨by omega, by omega, Or.inr ⟨rfl, fun z => o (z k (by omega) (by omega))⟩⟩ (by omega)
      unfold jOk at st no
      generalize jSt (fun j => jCs C (f j) (C (51 + 72 * v + 29 + 1) k) (C (51 + 72 * v + 29 + 1) (k + 1))) m = L at st no ⊢
      by_cases c : 0 ≤ (if L = 0 then (if P k ≤ P (k + 1) then (-1 : Int) else 1) else L)
      · rw [if_pos c]
        refine no (fun z => ?_)
        by_cases d : L = 0
        · rw [if_pos d] at c
          rw [if_pos (by omega)] at c
          omega
        · rw [if_neg d] at c
          omega
      · rw [if_neg c]
        refine st ?_
        by_cases d : L = 0
        · rw [if_pos d] at c
          by_cases e : P k ≤ P (k + 1)
          · exact Or.inr ⟨d, e⟩
          · rw [if_neg e] at c; omega
        · rw [if_neg d] at c
          omega
    · rw [if_pos rfl]
      exact ⟨by omega, y0 i1⟩
/-- which sorts were found -/
def jOut (N : Int) (t0 : Prop) (t1 : Int → Prop) (t2 : Int → Int → Prop) (z a b : Int) : Prop :=
  (z = 0 ∧ t0) ∨ (z = 1 ∧ ¬ t0 ∧ 0 ≤ a ∧ a < N ∧ t1 a ∧ ∀ j, 0 ≤ j → j < a → ¬ t1 j) ∨
  (z = 2 ∧ ¬ t0 ∧ (∀ j, 0 ≤ j → j < N → ¬ t1 j) ∧ 0 ≤ a ∧ a < N ∧ 0 ≤ b ∧ b < N ∧ t2 a b ∧ ∀ a' b', 0 ≤ a' → 0 ≤ b' → b' < N → (a' < a ∨ (a' = a ∧ b' < b)) → ¬ t2 a' b') ∨
  (z = -1 ∧ ¬ t0 ∧ (∀ j, 0 ≤ j → j < N → ¬ t1 j) ∧ ∀ a' b', 0 ≤ a' → a' < N → 0 ≤ b' → b' < N → ¬ t2 a' b')
theorem jOut_uniq {N : Int} {t0 : Prop} {t1 : Int → Prop} {t2 : Int → Int → Prop} {z a b z' a' b' : Int} (h : jOut N t0 t1 t2 z a b) (h' : jOut N t0 t1 t2 z' a' b') : z = z' ∧ (1 ≤ z → a = a') ∧ (2 ≤ z → b = b') := by
  rcases h with ⟨rfl, x1⟩ | ⟨rfl, x1, x2, x3, x4, x5⟩ | ⟨rfl, x1, x2, x3, x4, x5, x6, x7, x8⟩ | ⟨rfl, x1, x2, x3⟩ <;> rcases h' with ⟨rfl, y1⟩ | ⟨rfl, y1, y2, y3, y4, y5⟩ | ⟨rfl, y1, y2, y3, y4, y5, y6, y7, y8⟩ | ⟨rfl, y1, y2, y3⟩
  · exact ⟨rfl, by omega, by omega⟩
  · exact absurd x1 y1
  · exact absurd x1 y1
  · exact absurd x1 y1
  · exact absurd y1 x1
  · refine ⟨rfl, fun _ => ?_, by omega⟩
    rcases Int.lt_trichotomy a a' with c | c | c
    · exact absurd x4 (y5 a x2 c)
    · exact c
    · exact absurd y4 (x5 a' y2 c)
  · exact absurd x4 (y2 a x2 x3)
  · exact absurd x4 (y2 a x2 x3)
  · exact absurd y1 x1
  · exact absurd y4 (x2 a' y2 y3)
  · have key : a = a' ∧ b = b' := by
      by_cases c : a' < a ∨ (a' = a ∧ b' < b)
      · exact absurd y7 (x8 a' b' y3 y5 y6 c)
      · by_cases d : a < a' ∨ (a = a' ∧ b < b')
        · exact absurd x7 (y8 a b x3 x5 x6 d)
        · omega
    exact ⟨rfl, fun _ => key.1, fun _ => key.2⟩
  · exact absurd x7 (y3 a b x3 x4 x5 x6)
  · exact absurd y1 x1
  · exact absurd y4 (x2 a' y2 y3)
  · exact absurd y7 (x3 a' b' y3 y4 y5 y6)
  · exact ⟨rfl, by omega, by omega⟩

-- how few must be moved
theorem jFold_comp {f g : Int → Int → Int} {pr : Int → Int} {z : Int} (k : Nat) (hp : ∀ i : Int, 0 ≤ i → i < (k : Int) → pr i = 0 ∨ pr i = 1) (h1 : ∀ (i x : Int), 0 ≤ i → i < (k : Int) → pr i = 1 → f (jFold (jCnt pr) 0 i.toNat) x = g i x) (h0 : ∀ (i x : Int), 0 ≤ i → i < (k : Int) → pr i = 0 → g i x = x) (n0 : ∀ i : Int, 0 ≤ i → 0 ≤ jFold (jCnt pr) 0 i.toNat) : jFold f z (jFold (jCnt pr) 0 k).toNat = jFold g z k := by
  induction k with
  | zero => rfl
  | succ k ih =>
    have ih' := ih (fun i a b => hp i a (by omega)) (fun i x a b => h1 i x a (by omega)) (fun i x a b => h0 i x a (by omega))
    have e : jFold (jCnt pr) 0 (k + 1) = jFold (jCnt pr) 0 k + pr k := rfl
    have e2 : jFold g z (k + 1) = g k (jFold g z k) := rfl
    have nk := n0 k (by omega)
    rw [show ((k : Int)).toNat = k by omega] at nk
    rcases hp k (by omega) (by omega) with p | p
    · rw [e, e2, p, h0 k _ (by omega) (by omega) p, ← ih']
      congr 2
      omega
    · rw [e, e2, p, jFold_s nk, ih']
      have := h1 k (jFold g z k) (by omega) (by omega) p
      rw [show ((k : Int)).toNat = k by omega] at this
      exact this
/-- the longest rising row that ends at a place -/
def jLisF (π : Int → Int) (T : Int → Int) (x : Int) (j a : Int) : Int := if π j ≠ -1 ∧ π j < x then max a (T j) else a
def jLis (π : Int → Int) : Nat → Int → Int
  | 0 => fun _ => 0
  | k + 1 => jSet (jLis π k) k (if π k = -1 then 0 else 1 + jFold (jLisF π (jLis π k) (π k)) 0 k)
theorem jLis_s {π : Int → Int} {k : Int} (h : 0 ≤ k) : jLis π (k + 1).toNat = jSet (jLis π k.toNat) k (if π k = -1 then 0 else 1 + jFold (jLisF π (jLis π k.toNat) (π k)) 0 k.toNat) := by
  rw [show (k + 1).toNat = k.toNat + 1 by omega]
  show jSet (jLis π k.toNat) (k.toNat : Int) (if π (k.toNat : Int) = -1 then 0 else 1 + jFold (jLisF π (jLis π k.toNat) (π (k.toNat : Int))) 0 k.toNat) = _
  rw [Int.toNat_of_nonneg h]
theorem jLisF_rng {π T : Int → Int} {x b : Int} (n : Nat) (hb : 0 ≤ b) (h : ∀ j : Int, 0 ≤ j → j < (n : Int) → 0 ≤ T j ∧ T j ≤ b) : 0 ≤ jFold (jLisF π T x) 0 n ∧ jFold (jLisF π T x) 0 n ≤ b := by
  induction n with
  | zero => exact ⟨Int.le_refl 0, hb⟩
  | succ n ih =>
    have ih' := ih (fun j a c => h j a (by omega))
    have hn := h n (by omega) (by omega)
    show 0 ≤ jLisF π T x n (jFold (jLisF π T x) 0 n) ∧ jLisF π T x n (jFold (jLisF π T x) 0 n) ≤ b
    generalize jFold (jLisF π T x) 0 n = a at ih'
    unfold jLisF
    split <;> omega
theorem jLis_rng (π : Int → Int) (k : Nat) : ∀ j, 0 ≤ jLis π k j ∧ jLis π k j ≤ k := by
  induction k with
  | zero => intro j; exact ⟨by show (0 : Int) ≤ 0; omega, by show (0 : Int) ≤ 0; omega⟩
  | succ k ih =>
    intro j
    have f := jLisF_rng (π := π) (T := jLis π k) (x := π k) (b := k) k (by omega) (fun j _ _ => ih j)
    have ij := ih j
    show 0 ≤ jSet (jLis π k) k (if π k = -1 then 0 else 1 + jFold (jLisF π (jLis π k) (π k)) 0 k) j ∧ jSet (jLis π k) k (if π k = -1 then 0 else 1 + jFold (jLisF π (jLis π k) (π k)) 0 k) j ≤ _
    unfold jSet
    by_cases e : j = k
    · rw [if_pos e]; split <;> omega
    · rw [if_neg e]; omega
theorem jLis_old {π : Int → Int} {k j : Int} (h : 0 ≤ k) (hj : j ≠ k) : jLis π (k + 1).toNat j = jLis π k.toNat j := by
  rw [jLis_s h, jSet_ne hj]
def jBest (π : Int → Int) (k : Int) : Int := jFold (fun i a => max a (jLis π (i + 1).toNat i)) 0 k.toNat
theorem jBest_s {π : Int → Int} {k : Int} (h : 0 ≤ k) : jBest π (k + 1) = max (jBest π k) (jLis π (k + 1).toNat k) := jFold_s h
theorem jBest_rng (π : Int → Int) {k : Int} (h : 0 ≤ k) : 0 ≤ jBest π k ∧ jBest π k ≤ k := by
  unfold jBest
  have key : ∀ n : Nat, 0 ≤ jFold (fun i a => max a (jLis π (i + 1).toNat i)) 0 n ∧ jFold (fun i a => max a (jLis π (i + 1).toNat i)) 0 n ≤ n := by
    intro n
    induction n with
    | zero => exact ⟨Int.le_refl 0, Int.le_refl 0⟩
    | succ n ih =>
      show 0 ≤ max (jFold (fun i a => max a (jLis π (i + 1).toNat i)) 0 n) (jLis π ((n : Int) + 1).toNat n) ∧ max (jFold (fun i a => max a (jLis π (i + 1).toNat i)) 0 n) (jLis π ((n : Int) + 1).toNat n) ≤ _
      have := jLis_rng π ((n : Int) + 1).toNat n
      omega
  have := key k.toNat
  omega

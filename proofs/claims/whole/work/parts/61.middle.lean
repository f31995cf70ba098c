-- the middle value: counts
/-- how many of f's first n are below y (or y itself where q is 1), the empty ones aside -/
def jBel (f : Int → Int) (y q : Int) (i x : Int) : Int := if f i ≠ -1000000 ∧ (f i < y ∨ (q = 1 ∧ f i = y)) then x + 1 else x
theorem jBel_rng (f : Int → Int) (y q : Int) (n : Nat) : 0 ≤ jFold (jBel f y q) 0 n ∧ jFold (jBel f y q) 0 n ≤ n := by
  induction n with
  | zero => exact (show (0 : Int) ≤ 0 ∧ (0 : Int) ≤ ((0 : Nat) : Int) by decide)
  | succ n ih =>
    show 0 ≤ jBel f y q n (jFold (jBel f y q) 0 n) ∧ jBel f y q n (jFold (jBel f y q) 0 n) ≤ ((n + 1 : Nat) : Int)
    generalize jFold (jBel f y q) 0 n = F at ih ⊢
    unfold jBel
    split <;> omega
theorem jFold_congr {f g : Int → Int → Int} {z : Int} {n : Nat} (h : ∀ (i x : Int), 0 ≤ i → i < (n : Int) → f i x = g i x) : jFold f z n = jFold g z n := by
  induction n with
  | zero => rfl
  | succ n ih =>
    show f n (jFold f z n) = g n (jFold g z n)
    rw [ih (fun i x a b => h i x a (by omega)), h n _ (by omega) (by omega)]
/-- putting a value in between adds its share -/
theorem jBel_ins {S T : Int → Int} {y q x p : Int} {m : Nat} (p0 : 0 ≤ p) (p1 : p ≤ m) (h1 : ∀ i, 0 ≤ i → i < p → T i = S i) (h2 : T p = x) (h3 : ∀ i, p ≤ i → i < m → T (i + 1) = S i) : jFold (jBel T y q) 0 (m + 1) = jFold (jBel S y q) 0 m + (if x ≠ -1000000 ∧ (x < y ∨ (q = 1 ∧ x = y)) then 1 else 0) := by
  induction m with
  | zero =>
    have : p = 0 := by omega
    subst this
    show jBel T y q 0 0 = 0 + _
    unfold jBel
    rw [h2]
    split <;> rfl
  | succ m ih =>
    by_cases e : p = ((m + 1 : Nat) : Int)
    · show jBel T y q ((m + 1 : Nat) : Int) (jFold (jBel T y q) 0 (m + 1)) = _
      rw [jFold_congr (f := jBel T y q) (g := jBel S y q) (fun i z a b => by unfold jBel; rw [h1 i a (by omega)])]
      generalize jFold (jBel S y q) 0 (m + 1) = F
      unfold jBel
      rw [← e, h2]
      split <;> omega
    · have ih := ih (by omega) (fun i a b => h3 i a (by omega))
      show jBel T y q ((m + 1 : Nat) : Int) (jFold (jBel T y q) 0 (m + 1)) = jBel S y q m (jFold (jBel S y q) 0 m) + _
      rw [ih]
      generalize jFold (jBel S y q) 0 m = F
      unfold jBel
      rw [show ((m + 1 : Nat) : Int) = (m : Int) + 1 by omega, h3 m (by omega) (by omega)]
      split <;> split <;> omega

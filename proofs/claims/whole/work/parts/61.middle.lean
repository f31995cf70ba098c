-- the middle value: counts
/-- how many of f's first n are below y (or y itself where q is 1), the empty ones aside -/
def jBel (f : Int → Int) (y q : Int) (i x : Int) : Int := if f i ≠ -1000000 ∧ (f i < y ∨ (q = 1 ∧ f i = y)) then x + 1 else x
theorem jBel_rng (f : Int → Int) (y q : Int) (n : Nat) : 0 ≤ jFold (jBel f y q) 0 n ∧ jFold (jBel f y q) 0 n ≤ n := by
  induction n with
  | zero => exact (show (0 : Int) ≤ 0 ∧ (0 : Int) ≤ ((0 : Nat) : Int) by decide)
  | succ n ih =>
    show 0 ≤ jBel f y q n (jFold (jBel f y q) 0 n) ∧ jBel f y q n (jFold (jBel f y q) 0 n) ≤ ((n + 1 : Nat) : Int)
    generalize jFold (jBel f y q) 0 n = F at ih ⊢
    unfold jBel
    split <;> omega
theorem jFold_congr {f g : Int → Int → Int} {z : Int} {n : Nat} (h : ∀ (i x : Int), 0 ≤ i → i < (n : Int) → f i x = g i x) : jFold f z n = jFold g z n := by
  induction n with
  | zero => rfl
  | succ n ih =>
    show f n (jFold f z n) = g n (jFold g z n)
    rw [ih (fun i x a b => h i x a (by omega)), h n _ (by omega) (by omega)]
/-- putting a value in between adds its share -/
theorem jBel_ins {S T : Int → Int} {y q x p : Int} {m : Nat} (p0 : 0 ≤ p) (p1 : p ≤ m) (h1 : ∀ i, 0 ≤ i → i < p → T i = S i) (h2 : T p = x) (h3 : ∀ i, p ≤ i → i < m → T (i + 1) = S i) : jFold (jBel T y q) 0 (m + 1) = jFold (jBel S y q) 0 m + (if x ≠ -1000000 ∧ (x < y ∨ (q = 1 ∧ x = y)) then 1 else 0) := by
  induction m with
  | zero =>
    have : p = 0 := by omega
    subst this
    show jBel T y q 0 0 = 0 + _
    unfold jBel
    rw [h2]
    split <;> rfl
  | succ m ih =>
    by_cases e : p = ((m + 1 : Nat) : Int)
    · show jBel T y q ((m + 1 : Nat) : Int) (jFold (jBel T y q) 0 (m + 1)) = _
      rw [jFold_congr (f := jBel T y q) (g := jBel S y q) (fun i z a b => by unfold jBel; rw [h1 i a (by omega)])]
      generalize jFold (jBel S y q) 0 (m + 1) = F
      unfold jBel
      rw [← e, h2]
      split <;> omega
    · have ih := ih (by omega) (fun i a b => h3 i a (by omega))
      show jBel T y q ((m + 1 : Nat) : Int) (jFold (jBel T y q) 0 (m + 1)) = jBel S y q m (jFold (jBel S y q) 0 m) + _
      rw [ih]
      generalize jFold (jBel S y q) 0 m = F
      unfold jBel
      rw [show ((m + 1 : Nat) : Int) = (m : Int) + 1 by omega, h3 m (by omega) (by omega)]
      split <;> split <;> omega
theorem jBel_mono (f : Int → Int) (y q : Int) (t d : Nat) : jFold (jBel f y q) 0 t ≤ jFold (jBel f y q) 0 (t + d) := by
  induction d with
  | zero => exact Int.le_refl _
  | succ d ih =>
    show _ ≤ jBel f y q ((t + d : Nat) : Int) (jFold (jBel f y q) 0 (t + d))
    generalize jFold (jBel f y q) 0 (t + d) = F at ih ⊢
    generalize jFold (jBel f y q) 0 t = G at ih ⊢
    unfold jBel
    split <;> omega
theorem jBel_tail {f : Int → Int} {y q : Int} {t d : Nat} (h : ∀ i : Int, (t : Int) ≤ i → i < ((t + d : Nat) : Int) → ¬ (f i < y ∨ (q = 1 ∧ f i = y))) : jFold (jBel f y q) 0 (t + d) = jFold (jBel f y q) 0 t := by
  induction d with
  | zero => rfl
  | succ d ih =>
    show jBel f y q ((t + d : Nat) : Int) (jFold (jBel f y q) 0 (t + d)) = _
    rw [ih (fun i a b => h i a (by omega))]
    unfold jBel
    rw [if_neg (fun z => h _ (by omega) (by omega) z.2)]
theorem jBel_all {f : Int → Int} {y q : Int} {t : Nat} (h : ∀ i : Int, 0 ≤ i → i < (t : Int) → f i ≠ -1000000 ∧ (f i < y ∨ (q = 1 ∧ f i = y))) : jFold (jBel f y q) 0 t = t := by
  induction t with
  | zero => rfl
  | succ t ih =>
    show jBel f y q t (jFold (jBel f y q) 0 t) = _
    rw [ih (fun i a b => h i a (by omega))]
    unfold jBel
    rw [if_pos (h _ (by omega) (by omega))]
    omega
theorem jBel_lt {f : Int → Int} {x y : Int} (h : x < y) (n : Nat) : jFold (jBel f x 1) 0 n ≤ jFold (jBel f y 0) 0 n := by
  induction n with
  | zero => exact Int.le_refl _
  | succ n ih =>
    show jBel f x 1 n (jFold (jBel f x 1) 0 n) ≤ jBel f y 0 n (jFold (jBel f y 0) 0 n)
    generalize jFold (jBel f x 1) 0 n = F at ih ⊢
    generalize jFold (jBel f y 0) 0 n = G at ih ⊢
    unfold jBel
    split <;> split <;> omega
/-- the place of a value in a rising row -/
theorem jBel_at {S : Int → Int} {t m : Int} (t0 : 0 ≤ t) (t1 : t < m) (hn : ∀ i, 0 ≤ i → i < m → S i ≠ -1000000) (hs : ∀ i j, 0 ≤ i → i < j → j < m → S i ≤ S j) : jFold (jBel S (S t) 0) 0 m.toNat ≤ t ∧ t < jFold (jBel S (S t) 1) 0 m.toNat := by
  constructor
  · have e : m.toNat = t.toNat + (m.toNat - t.toNat) := by omega
    rw [e, jBel_tail (fun i a b => ?_)]
    · have := (jBel_rng S (S t) 0 t.toNat).2
      omega
    · have : S t ≤ S i := by
        by_cases z : t = i
        · rw [z]; exact Int.le_refl _
        · exact hs t i t0 (by omega) (by omega)
      omega
  · have e : m.toNat = (t.toNat + 1) + (m.toNat - (t.toNat + 1)) := by omega
    have m1 := jBel_mono S (S t) 1 (t.toNat + 1) (m.toNat - (t.toNat + 1))
    rw [← e] at m1
    have a1 := jBel_all (f := S) (y := S t) (q := 1) (t := t.toNat + 1) (fun i a b => by
      refine ⟨hn i a (by omega), ?_⟩
      by_cases z : i = t
      · exact Or.inr ⟨rfl, by rw [z]⟩
      · have := hs i t a (by omega) t1
        by_cases z2 : S i = S t
        · exact Or.inr ⟨rfl, z2⟩
        · exact Or.inl (by omega))
    omega
/-- the value in the middle is one -/
theorem jBel_uniq {f : Int → Int} {x y t : Int} {n : Nat} (x1 : jFold (jBel f x 0) 0 n ≤ t) (x2 : t < jFold (jBel f x 1) 0 n) (y1 : jFold (jBel f y 0) 0 n ≤ t) (y2 : t < jFold (jBel f y 1) 0 n) : x = y := by
  by_cases a : x < y
  · have := jBel_lt (f := f) a n; omega
  · by_cases b : y < x
    · have := jBel_lt (f := f) b n; omega
    · omega

-- THE RELATION between a State of the class (its number a, cells C) and a world w of the model
def rLive (C : jC) (a s : Int) : Prop := ∃ i, 0 ≤ i ∧ i < C (a + 6) 1 ∧ C (a + 7) i = s
/-- a list: the class's rows q, the model's at b -/
def rLst (C : jC) (a : Int) (w : Int → Int) (q b : Int) : Prop :=
  C q 1 = w b ∧ 0 ≤ w b ∧ w b ≤ 24 ∧ (∀ i, 0 ≤ i → i < w b → 0 ≤ C (q + 1) i ∧ C (q + 1) i < 24 ∧ w (b + 1 + i) = C (a + 3) (C (q + 1) i)) ∧ (∀ i j, 0 ≤ i → i < j → j < w b → C (q + 1) i ≠ C (q + 1) j)
/-- a word as a number: letters, then none -/
def jWord (x : Int) : Prop := ∃ p q r s : Int, x = p * 19683 + q * 729 + r * 27 + s ∧ 1 ≤ p ∧ p ≤ 26 ∧ 0 ≤ q ∧ q ≤ 26 ∧ 0 ≤ r ∧ r ≤ 26 ∧ 0 ≤ s ∧ s ≤ 26 ∧ (q = 0 → r = 0) ∧ (r = 0 → s = 0)
def jVal (kind x : Int) : Prop := x = -1000000 ∨ (kind = 0 ∧ -999 ≤ x ∧ x ≤ 999) ∨ (kind = 1 ∧ jWord x)
def rA (a : Int) (C : jC) (w : Int → Int) : Prop :=
  C (a + 1) 0 = w 0 ∧ 0 ≤ w 0 ∧ w 0 ≤ 5 ∧ C (a + 1) 6 = w 1 ∧ 0 ≤ w 1 ∧ w 1 ≤ 12 ∧ C (a + 1) 7 = w 2 ∧ 0 ≤ w 2 ∧ C (a + 9) 2 = w 3 ∧ 0 ≤ w 3 ∧ w 3 ≤ 40
def rB (a : Int) (C : jC) (w : Int → Int) : Prop := ∀ c, 0 ≤ c → c < 5 → C (a + 2) c = w (4 + c) ∧ (w (4 + c) = 0 ∨ w (4 + c) = 1)
def rCell (a : Int) (C : jC) (w : Int → Int) (s c : Int) : Prop :=
  C (a + 4) (s * 5 + c) = w (9 + 11 * s + 1 + c) ∧ C (a + 5) (s * 5 + c) = w (9 + 11 * s + 6 + c) ∧ jVal (w (4 + c)) (w (9 + 11 * s + 1 + c)) ∧ -1 ≤ w (9 + 11 * s + 6 + c) ∧ w (9 + 11 * s + 6 + c) < 4
def rW (a : Int) (C : jC) (w : Int → Int) : Prop :=
  (∀ s, 0 ≤ s → s < 24 → rLive C a s → w (9 + 11 * s) = C (a + 3) s ∧ 0 ≤ C (a + 3) s ∧ C (a + 3) s < w 2 ∧ ∀ c, 0 ≤ c → c < w 0 → rCell a C w s c) ∧
  (∀ s, 0 ≤ s → s < 24 → ¬ rLive C a s → w (9 + 11 * s) = -1) ∧
  (∀ s t, 0 ≤ s → s < 24 → 0 ≤ t → t < 24 → rLive C a s → rLive C a t → C (a + 3) s = C (a + 3) t → s = t)
/-- a pattern of n signs: the class's bits, the model's code -/
def rPat (low from_ n : Int) : Prop := ∃ p0 p1 p2 p3 : Int, (∀ x, (x = p0 ∨ x = p1 ∨ x = p2 ∨ x = p3) → 0 ≤ x ∧ x ≤ 27) ∧
  low = p0 + 32 * p1 + 1024 * p2 + 32768 * p3 ∧
  ((n = 0 ∧ p0 = 0 ∧ p1 = 0 ∧ p2 = 0 ∧ p3 = 0 ∧ from_ = 0) ∨ (n = 1 ∧ 1 ≤ p0 ∧ p1 = 0 ∧ p2 = 0 ∧ p3 = 0 ∧ from_ = p0) ∨ (n = 2 ∧ 1 ≤ p0 ∧ 1 ≤ p1 ∧ p2 = 0 ∧ p3 = 0 ∧ from_ = 32 * p0 + p1) ∨
   (n = 3 ∧ 1 ≤ p0 ∧ 1 ≤ p1 ∧ 1 ≤ p2 ∧ p3 = 0 ∧ from_ = 1024 * p0 + 32 * p1 + p2) ∨ (n = 4 ∧ 1 ≤ p0 ∧ 1 ≤ p1 ∧ 1 ≤ p2 ∧ 1 ≤ p3 ∧ from_ = 32768 * p0 + 1024 * p1 + 32 * p2 + p3))
def rTest (kind form low high turns isnot what from_ to_ star : Int) : Prop :=
  0 ≤ turns ∧ turns ≤ 4 ∧ isnot = turns % 2 ∧ form = what ∧ (form = 0 ∨ (form = 1 ∧ kind = 0 ∧ low = from_ ∧ high = to_ ∧ -999 ≤ low ∧ low ≤ 999 ∧ -999 ≤ high ∧ high ≤ 999) ∨ (form = 2 ∧ kind = 1 ∧ rPat low from_ to_ ∧ high = star ∧ (star = 0 ∨ star = 1) ∧ (1 ≤ to_ ∨ star = 1)))
def rFil (C : jC) (w : Int → Int) (kind f t : Int) : Prop :=
  C f 0 = w t ∧ 0 ≤ w t ∧ w t ≤ 6 ∧ ∀ k, 0 ≤ k → k < w t → rTest kind (C (f + 1) k) (C (f + 2) k) (C (f + 3) k) (C (f + 4) k) (w (t + 1 + 5 * k)) (w (t + 1 + 5 * k + 1)) (w (t + 1 + 5 * k + 2)) (w (t + 1 + 5 * k + 3)) (w (t + 1 + 5 * k + 4))
/-- a lens: the class's at q, the model's view at b -/
def rLens (C : jC) (w : Int → Int) (q b : Int) : Prop :=
  C q 2 = w (b + 25) ∧ 0 ≤ w (b + 25) ∧ w (b + 25) ≤ 3 ∧ (∀ k, 0 ≤ k → k < w (b + 25) → C (q + 2) k = w (b + 26 + k) ∧ 0 ≤ w (b + 26 + k) ∧ w (b + 26 + k) < 2 * w 0) ∧
  C q 3 = w (b + 29) ∧ 0 ≤ w (b + 29) ∧ w (b + 29) < 32 ∧ (∀ c, 0 ≤ c → c < 5 → rFil C w (w (4 + c)) (q + 3 + 5 * c) (b + 30 + 31 * c)) ∧ (∀ c, w 0 ≤ c → c < 5 → w (b + 30 + 31 * c) = 0)
/-- an edit: the class's at e, the model's at t -/
def rEdit (C : jC) (w : Int → Int) (e t : Int) : Prop :=
  C e 0 = w t ∧ 1 ≤ w t ∧ w t ≤ 60 ∧ (∀ i, 0 ≤ i → i < w t → C (e + 1) i = w (t + 1 + 4 * i) ∧ C (e + 2) i = w (t + 1 + 4 * i + 1) ∧ C (e + 3) i = w (t + 1 + 4 * i + 2) ∧ C (e + 4) i = w (t + 1 + 4 * i + 3) ∧
    0 ≤ w (t + 1 + 4 * i) ∧ 0 ≤ w (t + 1 + 4 * i + 1) ∧ w (t + 1 + 4 * i + 1) < w 0 ∧ jVal (w (4 + w (t + 1 + 4 * i + 1))) (w (t + 1 + 4 * i + 2)) ∧ jVal (w (4 + w (t + 1 + 4 * i + 1))) (w (t + 1 + 4 * i + 3)) ∧ w (t + 1 + 4 * i + 2) ≠ w (t + 1 + 4 * i + 3)) ∧
  (∀ i j, 0 ≤ i → i < j → j < w t → ¬ (w (t + 1 + 4 * i) = w (t + 1 + 4 * j) ∧ w (t + 1 + 4 * i + 1) = w (t + 1 + 4 * j + 1)))
/-- the edits of a view: the class's view q, the model's at b -/
def rEds (C : jC) (w : Int → Int) (q b : Int) : Prop :=
  C q 3 = w (b + 185) ∧ 0 ≤ w (b + 185) ∧ w (b + 185) ≤ 8 ∧ (∀ k, 0 ≤ k → k < 8 → ∃ j, 0 ≤ j ∧ j < 8 ∧ C (q + 31) k = q + 32 + 5 * j) ∧ (∀ i j, 0 ≤ i → i < j → j < 8 → C (q + 31) i ≠ C (q + 31) j) ∧
  (∀ k, 0 ≤ k → k < w (b + 185) → rEdit C w (C (q + 31) k) (b + 186 + 241 * k))
def rV (a : Int) (C : jC) (w : Int → Int) (q b : Int) : Prop :=
  rLst C a w (q + 29) b ∧ (∀ i, 0 ≤ i → i < w b → rLive C a (C (q + 29 + 1) i)) ∧ rLens C w (q + 1) b ∧ rEds C w q b
def rG (a : Int) (C : jC) (w : Int → Int) : Prop :=
  0 ≤ C (a + 9) 1 ∧ C (a + 9) 1 < 40 ∧ ∀ g p, 0 ≤ g → g < w 3 → 0 ≤ p → p < 5 → C (a + 10) ((C (a + 9) 1 - 1 - g) % 40 * 5 + p) = w (8754 + 5 * g + p)
/-- no columns, no rows -/
def rZ (w : Int → Int) : Prop := w 0 = 0 → w 273 = 0
def rS (a : Int) (C : jC) (w : Int → Int) : Prop := rA a C w ∧ rB a C w ∧ rLst C a w (a + 6) 273 ∧ rW a C w ∧ (∀ v, 0 ≤ v → v < 4 → rV a C w (a + 8 + 8 + 72 * v) (298 + 2114 * v)) ∧ rG a C w ∧ rZ w
def jUb (b : Int) : Int := if b < 0 then b + 256 else b
/-- the tape, as far as m bytes -/
def rT (C : jC) (m : Int) : Prop := ∀ i, 0 ≤ i → i < m → -128 ≤ C 349 i ∧ C 349 i < 128 ∧ C 2 i = jUb (C 349 i)
/-- all: the object and the model, after so many keys at most -/
def rAll (C : jC) (K : Int) : Prop :=
  C 1 1 = C 345 6 ∧ 0 ≤ C 345 6 ∧ C 345 6 ≤ 400 ∧ rT C (C 345 6) ∧ C 1 4 = C 345 11 ∧ rS 35 C (C 346) ∧ C 346 2 ≤ K ∧
  ((C 0 4 = -1 ∧ C 345 4 = 0) ∨ (C 0 4 = 357 ∧ C 345 4 = 1 ∧ rS 357 C (C 347) ∧ C 347 2 ≤ K))
-- a State's relation speaks of its own cells alone
def rOwn (a b : Int) : Prop := a + 1 ≤ b ∧ b < a + 304 ∧ ¬ (a + 11 ≤ b ∧ b < a + 16)
theorem rS_keep {a : Int} {C C' : jC} {w : Int → Int} (h : ∀ b, rOwn a b → C' b = C b) (hs : rS a C w) : rS a C' w := by
  have k : ∀ b, a + 1 ≤ b → b < a + 304 → ¬ (a + 11 ≤ b ∧ b < a + 16) → C' b = C b := fun b h1 h2 h3 => h b ⟨h1, h2, h3⟩
  have hlive : ∀ s, rLive C' a s ↔ rLive C a s := by
    intro s; unfold rLive; rw [k (a + 6) (by omega) (by omega) (by omega), k (a + 7) (by omega) (by omega) (by omega)]
  obtain ⟨hA, hB, hO, hW, hV, hG, hZ⟩ := hs
  refine ⟨?_, ?_, ?_, ?_, ?_, ?_, hZ⟩
  · unfold rA at hA ⊢
    rw [k (a + 1) (by omega) (by omega) (by omega), k (a + 9) (by omega) (by omega) (by omega)]; exact hA
  · unfold rB at hB ⊢
    rw [k (a + 2) (by omega) (by omega) (by omega)]; exact hB
  · unfold rLst at hO ⊢
    rw [k (a + 6) (by omega) (by omega) (by omega), k (a + 6 + 1) (by omega) (by omega) (by omega), k (a + 3) (by omega) (by omega) (by omega)]; exact hO
  · unfold rW rCell at hW ⊢
    simp only [hlive]
    rw [k (a + 3) (by omega) (by omega) (by omega), k (a + 4) (by omega) (by omega) (by omega), k (a + 5) (by omega) (by omega) (by omega)]; exact hW
  · intro v v0 v1
    have hv := hV v v0 v1
    obtain ⟨h1, h2, h3, h4⟩ := hv
    refine ⟨?_, ?_, ?_, ?_⟩
    · unfold rLst at h1 ⊢
      rw [k (a + 8 + 8 + 72 * v + 29) (by omega) (by omega) (by omega), k (a + 8 + 8 + 72 * v + 29 + 1) (by omega) (by omega) (by omega), k (a + 3) (by omega) (by omega) (by omega)]; exact h1
    · simp only [hlive]
      rw [k (a + 8 + 8 + 72 * v + 29 + 1) (by omega) (by omega) (by omega)]; exact h2
    · unfold rLens at h3 ⊢
      rw [k (a + 8 + 8 + 72 * v + 1) (by omega) (by omega) (by omega), k (a + 8 + 8 + 72 * v + 1 + 2) (by omega) (by omega) (by omega)]
      obtain ⟨q1, q2, q3, q4, q5, q6, q7, q8, q9⟩ := h3
      refine ⟨q1, q2, q3, q4, q5, q6, q7, fun c c0 c1 => ?_, q9⟩
      have := q8 c c0 c1
      unfold rFil at this ⊢
      rw [k (a + 8 + 8 + 72 * v + 1 + 3 + 5 * c) (by omega) (by omega) (by omega), k (a + 8 + 8 + 72 * v + 1 + 3 + 5 * c + 1) (by omega) (by omega) (by omega), k (a + 8 + 8 + 72 * v + 1 + 3 + 5 * c + 2) (by omega) (by omega) (by omega), k (a + 8 + 8 + 72 * v + 1 + 3 + 5 * c + 3) (by omega) (by omega) (by omega), k (a + 8 + 8 + 72 * v + 1 + 3 + 5 * c + 4) (by omega) (by omega) (by omega)]
      exact this
    · unfold rEds at h4 ⊢
      rw [k (a + 8 + 8 + 72 * v) (by omega) (by omega) (by omega), k (a + 8 + 8 + 72 * v + 31) (by omega) (by omega) (by omega)]
      obtain ⟨q1, q2, q3, q4, q5, q6⟩ := h4
      refine ⟨q1, q2, q3, q4, q5, fun i i0 i1 => ?_⟩
      have hq := q6 i i0 i1
      obtain ⟨j, j0, j1, ej⟩ := q4 i i0 (by omega)
      rw [ej] at hq ⊢
      unfold rEdit at hq ⊢
      rw [k (a + 8 + 8 + 72 * v + 32 + 5 * j) (by omega) (by omega) (by omega), k (a + 8 + 8 + 72 * v + 32 + 5 * j + 1) (by omega) (by omega) (by omega), k (a + 8 + 8 + 72 * v + 32 + 5 * j + 2) (by omega) (by omega) (by omega), k (a + 8 + 8 + 72 * v + 32 + 5 * j + 3) (by omega) (by omega) (by omega), k (a + 8 + 8 + 72 * v + 32 + 5 * j + 4) (by omega) (by omega) (by omega)]
      exact hq
  · unfold rG at hG ⊢
    rw [k (a + 9) (by omega) (by omega) (by omega), k (a + 10) (by omega) (by omega) (by omega)]; exact hG

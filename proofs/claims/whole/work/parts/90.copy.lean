-- a State copied
theorem rEdit_copy {C D : jC} {w : Int → Int} {e f t : Int} (h : rEdit C w f t) (e0 : D e 0 = C f 0) (e1 : ∀ u, 1 ≤ u → u ≤ 4 → ∀ i, 0 ≤ i → i < C f 0 → D (e + u) i = C (f + u) i) : rEdit D w e t := by
  obtain ⟨a1, a2, a3, a4, a5⟩ := h
  unfold rEdit
  rw [e0]
  refine ⟨a1, a2, a3, fun i i0 i1 => ?_, a5⟩
  have := a4 i i0 i1
  rw [e1 1 (by omega) (by omega) i i0 (by omega), e1 2 (by omega) (by omega) i i0 (by omega), e1 3 (by omega) (by omega) i i0 (by omega), e1 4 (by omega) (by omega) i i0 (by omega)]
  exact this
theorem sp_fcopy {f g : Int} {C : jC} {post : jC → Prop} (hd : f + 4 < g ∨ g + 4 < f) (y : ∀ D : jC, (∀ b, ¬ (f ≤ b ∧ b ≤ f + 4) → D b = C b) → D f 0 = C g 0 → (∀ u, 1 ≤ u → u ≤ 4 → ∀ i, 0 ≤ i → i < 6 → D (f + u) i = C (g + u) i) → post D) : wp_1_copyFrom f g C post := by
  unfold wp_1_copyFrom
  refine y _ (fun b hb => by rw [jCpy_ne (by omega), jCpy_ne (by omega), jCpy_ne (by omega), jCpy_ne (by omega), jU_ne (by omega)]) (by rw [jCpy_ne (by omega), jCpy_ne (by omega), jCpy_ne (by omega), jCpy_ne (by omega), jU_at, if_pos rfl, if_pos rfl]) (fun u u0 u1 i i0 i1 => ?_)
  have hu : u = 1 ∨ u = 2 ∨ u = 3 ∨ u = 4 := by omega
  rcases hu with rfl | rfl | rfl | rfl
  · rw [jCpy_ne (by omega), jCpy_ne (by omega), jCpy_ne (by omega), jCpy_f i0 i1, jU_ne (by omega)]
  · rw [jCpy_ne (by omega), jCpy_ne (by omega), jCpy_f i0 i1, jCpy_ne (by omega), jU_ne (by omega)]
  · rw [jCpy_ne (by omega), jCpy_f i0 i1, jCpy_ne (by omega), jCpy_ne (by omega), jU_ne (by omega)]
  · rw [jCpy_f i0 i1, jCpy_ne (by omega), jCpy_ne (by omega), jCpy_ne (by omega), jU_ne (by omega)]
theorem sp_lcopy {C : jC} {w : Int → Int} {q p b : Int} (h : rLens C w (p + 1) b) (hd : q + 29 ≤ p ∨ p + 29 ≤ q) {post : jC → Prop} (y : ∀ D : jC, (∀ x, ¬ (q + 1 ≤ x ∧ x < q + 29) → D x = C x) → rLens D w (q + 1) b → post D) : wp_2_copyFrom (q + 1) (p + 1) C post := by
  obtain ⟨a1, a2, a3, a4, a5, a6, a7, a8, a9⟩ := h
  unfold wp_2_copyFrom
  refine jL2_of (fun k D => 0 ≤ k ∧ k ≤ 5 ∧ (∀ x, ¬ (q + 4 ≤ x ∧ x < q + 4 + 5 * k) → D x = C x) ∧ ∀ c, 0 ≤ c → c < k → rFil D w (w (4 + c)) (q + 1 + 3 + 5 * c) (b + 30 + 31 * c)) (fun k _ => (5 - k).toNat) (fun K k D hi hk => ?_) ⟨by omega, by omega, fun _ _ => rfl, fun c a b => by omega⟩
  obtain ⟨i0, i1, d1, d2⟩ := hi
  unfold wp_2_copyFrom_2
  by_cases a : 5 ≤ k
  · rw [if_pos a]
    have ek : k = 5 := by omega
    subst ek
    generalize hX : jCpy D (p + 1 + 2) 0 (q + 1 + 2) 0 3 = X
    have x1 : ∀ x, x ≠ q + 1 + 2 → X x = D x := fun x hx => by rw [← hX, jCpy_ne hx]
    have x2 : ∀ i, 0 ≤ i → i < 3 → X (q + 1 + 2) i = D (p + 1 + 2) i := fun i i0 i1 => by rw [← hX, jCpy_f i0 i1]
    have e1 : X (p + 1) = C (p + 1) := by rw [x1 _ (by omega), d1 _ (by omega)]
    have e2 : ∀ z, jU X (q + 1) 2 z (p + 1) = C (p + 1) := fun z => by rw [jU_ne (by omega), e1]
    rw [e2, e1]
    generalize hY : jU (jU X (q + 1) 2 (C (p + 1) 2)) (q + 1) 3 (C (p + 1) 3) = Y
    have y1 : ∀ x, x ≠ q + 1 → x ≠ q + 1 + 2 → Y x = D x := fun x h1 h2 => by rw [← hY, jU_ne h1, jU_ne h1, x1 x h2]
    refine y Y (fun x hx => by rw [y1 x (by omega) (by omega), d1 x (by omega)]) ?_
    unfold rLens
    have q2 : Y (q + 1) 2 = C (p + 1) 2 := by rw [← hY, jU_at, if_pos rfl, if_neg (by decide), jU_at, if_pos rfl, if_pos rfl]
    have q3 : Y (q + 1) 3 = C (p + 1) 3 := by rw [← hY, jU_at, if_pos rfl, if_pos rfl]
    rw [q2, q3]
    refine ⟨a1, a2, a3, fun j j0 j1 => ?_, a5, a6, a7, fun c c0 c1 => ?_, a9⟩
    · have : Y (q + 1 + 2) j = C (p + 1 + 2) j := by rw [← hY, jU_ne (by omega), jU_ne (by omega), x2 j j0 (by omega), d1 _ (by omega)]
      rw [this]; exact a4 j j0 j1
    · have f := d2 c c0 c1
      unfold rFil at f ⊢
      rw [y1 _ (by omega) (by omega), y1 (q + 1 + 3 + 5 * c + 1) (by omega) (by omega), y1 (q + 1 + 3 + 5 * c + 2) (by omega) (by omega), y1 (q + 1 + 3 + 5 * c + 3) (by omega) (by omega), y1 (q + 1 + 3 + 5 * c + 4) (by omega) (by omega)]
      exact f
  · rw [if_neg a]
    refine ⟨i0, ?_⟩
    rw [show q + 1 + 1 + 2 + 5 * k = q + 1 + 3 + 5 * k by omega, show p + 1 + 1 + 2 + 5 * k = p + 1 + 3 + 5 * k by omega]
    refine sp_fcopy (by omega) (fun E f1 f2 f3 => ?_)
    refine hk _ _ ⟨by omega, by omega, fun x hx => by rw [f1 x (by omega), d1 x (by omega)], fun c c0 c1 => ?_⟩ (by omega)
    by_cases e : c = k
    · subst e
      obtain ⟨g1, g2, g3, g4⟩ := a8 c c0 (by omega)
      unfold rFil
      rw [f2, d1 _ (by omega)]
      refine ⟨g1, g2, g3, fun j j0 j1 => ?_⟩
      rw [f3 1 (by omega) (by omega) j j0 (by omega), f3 2 (by omega) (by omega) j j0 (by omega), f3 3 (by omega) (by omega) j j0 (by omega), f3 4 (by omega) (by omega) j j0 (by omega), d1 _ (by omega), d1 (p + 1 + 3 + 5 * c + 2) (by omega), d1 (p + 1 + 3 + 5 * c + 3) (by omega), d1 (p + 1 + 3 + 5 * c + 4) (by omega)]
      exact g4 j j0 j1
    · have f := d2 c c0 (by omega)
      unfold rFil at f ⊢
      rw [f1 _ (by omega), f1 (q + 1 + 3 + 5 * c + 1) (by omega), f1 (q + 1 + 3 + 5 * c + 2) (by omega), f1 (q + 1 + 3 + 5 * c + 3) (by omega), f1 (q + 1 + 3 + 5 * c + 4) (by omega)]
      exact f
/-- the row of edits of a view holds its eight edits -/
def rRow (C : jC) (q : Int) : Prop := (∀ k, 0 ≤ k → k < 8 → ∃ j, 0 ≤ j ∧ j < 8 ∧ C (q + 31) k = q + 32 + 5 * j) ∧ (∀ i j, 0 ≤ i → i < j → j < 8 → C (q + 31) i ≠ C (q + 31) j)
theorem sp_vcopy {C : jC} {w : Int → Int} {q p b : Int} (hl : rLens C w (p + 1) b) (he : rEds C w p b) (hr : rRow C q) (hd : q + 72 ≤ p ∨ p + 72 ≤ q) {post : jC → Prop} (y : ∀ D : jC, (∀ x, ¬ (q ≤ x ∧ x < q + 72) → D x = C x) → rLens D w (q + 1) b → rEds D w q b → D (q + 29) 1 = C (p + 29) 1 → (∀ i, 0 ≤ i → i < 24 → D (q + 29 + 1) i = C (p + 29 + 1) i) → post D) : wp_10_copyFrom q p C post := by
  obtain ⟨r1, r2⟩ := hr
  obtain ⟨e1, e2, e3, e4, e5, e6⟩ := he
  unfold wp_10_copyFrom
  refine sp_lcopy hl (by omega) (fun D d1 d2 => ?_)
  unfold wp_6_copyFrom
  generalize hX : jU (jCpy D (p + 29 + 1) 0 (q + 29 + 1) 0 24) (q + 29) 1 (jCpy D (p + 29 + 1) 0 (q + 29 + 1) 0 24 (p + 29) 1) = X
  have x1 : ∀ x, x ≠ q + 29 → x ≠ q + 29 + 1 → X x = D x := fun x h1 h2 => by rw [← hX, jU_ne h1, jCpy_ne h2]
  have x2 : X (q + 29) 1 = C (p + 29) 1 := by rw [← hX, jU_at, if_pos rfl, if_pos rfl, jCpy_ne (by omega), d1 _ (by omega)]
  have x3 : ∀ i, 0 ≤ i → i < 24 → X (q + 29 + 1) i = C (p + 29 + 1) i := fun i i0 i1 => by rw [← hX, jU_ne (by omega), jCpy_f i0 i1, d1 _ (by omega)]
  rw [x1 p (by omega) (by omega), d1 p (by omega)]
  generalize hY : jU X q 3 (C p 3) = Y
  have y1 : ∀ x, x ≠ q → Y x = X x := fun x h1 => by rw [← hY, jU_ne h1]
  have y3 : Y q 3 = C p 3 := by rw [← hY, jU_at, if_pos rfl, if_pos rfl]
  have yC : ∀ x, ¬ (q ≤ x ∧ x < q + 31) → Y x = C x := fun x hx => by rw [y1 x (by omega), x1 x (by omega) (by omega), d1 x (by omega)]
  refine jL2_of (fun k E => 0 ≤ k ∧ k ≤ C p 3 ∧ (∀ x, (∀ j, 0 ≤ j → j < k → ¬ (C (q + 31) j ≤ x ∧ x ≤ C (q + 31) j + 4)) → E x = Y x) ∧ (∀ j, 0 ≤ j → j < k → rEdit E w (C (q + 31) j) (b + 186 + 241 * j))) (fun k _ => (C p 3 - k).toNat) (fun K k E hi hk => ?_) ⟨by omega, by omega, fun _ _ => rfl, fun j a b => by omega⟩
  obtain ⟨i0, i1, g1, g2⟩ := hi
  have far : ∀ x, ¬ (q + 32 ≤ x ∧ x < q + 72) → E x = Y x := fun x hx => g1 x (fun j j0 j1 => by
    obtain ⟨u, u0, u1, u2⟩ := r1 j j0 (by omega)
    omega)
  unfold wp_10_copyFrom_32
  rw [far q (by omega), y3]
  by_cases a : C p 3 ≤ k
  · rw [if_pos a]
    have ek : k = C p 3 := by omega
    refine y E (fun x hx => by rw [far x (by omega), yC x (by omega)]) ?_ ?_ ?_ (fun i a b => ?_)
    · unfold rLens at d2 ⊢
      have s1 : ∀ x, q + 1 ≤ x → x < q + 29 → E x = D x := fun x h1 h2 => by rw [far x (by omega), y1 x (by omega), x1 x (by omega) (by omega)]
      rw [s1 (q + 1) (by omega) (by omega), s1 (q + 1 + 2) (by omega) (by omega)]
      obtain ⟨z1, z2, z3, z4, z5, z6, z7, z8, z9⟩ := d2
      refine ⟨z1, z2, z3, z4, z5, z6, z7, fun c c0 c1 => ?_, z9⟩
      have f := z8 c c0 c1
      unfold rFil at f ⊢
      rw [s1 _ (by omega) (by omega), s1 (q + 1 + 3 + 5 * c + 1) (by omega) (by omega), s1 (q + 1 + 3 + 5 * c + 2) (by omega) (by omega), s1 (q + 1 + 3 + 5 * c + 3) (by omega) (by omega), s1 (q + 1 + 3 + 5 * c + 4) (by omega) (by omega)]
      exact f
    · unfold rEds
      rw [far q (by omega), y3, far (q + 31) (by omega), yC (q + 31) (by omega)]
      exact ⟨e1, e2, e3, r1, r2, fun j j0 j1 => g2 j j0 (by omega)⟩
    · rw [far _ (by omega), y1 _ (by omega), x2]
    · rw [far _ (by omega), y1 _ (by omega), x3 i a b]
  · rw [if_neg a, if_neg (by omega)]
    refine ⟨i0, ?_⟩
    rw [far (q + 31) (by omega), yC (q + 31) (by omega), far (p + 31) (by omega), yC (p + 31) (by omega)]
    obtain ⟨u, u0, u1, u2⟩ := r1 k i0 (by omega)
    obtain ⟨v, v0, v1, v2⟩ := e4 k i0 (by omega)
    have es := e6 k i0 (by omega)
    have fC : ∀ x, C (p + 31) k ≤ x → x ≤ C (p + 31) k + 4 → E x = C x := fun x h1 h2 => by rw [far x (by omega), yC x (by omega)]
    have n0 : E (C (p + 31) k) 0 = C (C (p + 31) k) 0 := by rw [fC _ (by omega) (by omega)]
    have es1 := es.1
    have es2 := es.2.1
    have es3 := es.2.2.1
    refine sp_ecopy (by rw [n0]; omega) (by rw [n0]; omega) (by omega) (fun F f1 f2 f3 => ?_)
    refine hk _ _ ⟨by omega, by omega, fun x hx => ?_, fun j j0 j1 => ?_⟩ (by omega)
    · have := hx k i0 (by omega)
      rw [f1 x this]
      exact g1 x (fun j j0 j1 => hx j j0 (by omega))
    · by_cases e : j = k
      · subst e
        rw [n0] at f2 f3
        exact rEdit_copy es f2 (fun t t0 t1 i i0 i1 => by rw [f3 t t0 t1 i i0 i1, fC _ (by omega) (by omega)])
      · have ne := r2 j k j0 (by omega) (by omega)
        obtain ⟨z, z0, z1, z2⟩ := r1 j j0 (by omega)
        have o := g2 j j0 (by omega)
        exact rEdit_copy o (by rw [f1 _ (by omega)]) (fun t t0 t1 i i0 i1 => by rw [f1 _ (by omega)])
theorem sp_scopy {C : jC} {w : Int → Int} {a c : Int} (h : rS c C w) (hr : ∀ v, 0 ≤ v → v < 4 → rRow C (a + 8 + 8 + 72 * v)) (hd : a + 304 ≤ c ∨ c + 304 ≤ a) {post : jC → Prop} (y : ∀ D : jC, (∀ x, ¬ (a + 1 ≤ x ∧ x < a + 304) → D x = C x) → rS a D w → post D) : wp_8_copyFrom a c C post := by
  obtain ⟨hA, hB, hO, hW, hV, hG, hZZ⟩ := h
  unfold wp_8_copyFrom wp_7_copyFrom wp_6_copyFrom
  dsimp only
  generalize hX : jCpy (jCpy (jCpy (jCpy (jU C (a + 1) 0 (C (c + 1) 0)) (c + 1 + 1) 0 (a + 1 + 1) 0 5) (c + 1 + 2) 0 (a + 1 + 2) 0 24) (c + 1 + 3) 0 (a + 1 + 3) 0 120) (c + 1 + 4) 0 (a + 1 + 4) 0 120 = X
  have x1 : ∀ x, ¬ (a + 1 ≤ x ∧ x < a + 6) → X x = C x := fun x hx => by rw [← hX, jCpy_ne (by omega), jCpy_ne (by omega), jCpy_ne (by omega), jCpy_ne (by omega), jU_ne (by omega)]
  have x0 : ∀ j, X (a + 1) j = if j = 0 then C (c + 1) 0 else C (a + 1) j := fun j => by rw [← hX, jCpy_ne (by omega), jCpy_ne (by omega), jCpy_ne (by omega), jCpy_ne (by omega), jU_at, if_pos rfl]
  have x2 : ∀ i, 0 ≤ i → i < 5 → X (a + 2) i = C (c + 2) i := fun i i0 i1 => by
    rw [← hX, show a + 2 = a + 1 + 1 by omega, jCpy_ne (by omega), jCpy_ne (by omega), jCpy_ne (by omega), jCpy_f i0 i1, jU_ne (by omega), show c + 1 + 1 = c + 2 by omega]
  have x3 : ∀ i, 0 ≤ i → i < 24 → X (a + 3) i = C (c + 3) i := fun i i0 i1 => by
    rw [← hX, show a + 3 = a + 1 + 2 by omega, jCpy_ne (by omega), jCpy_ne (by omega), jCpy_f i0 i1, jCpy_ne (by omega), jU_ne (by omega), show c + 1 + 2 = c + 3 by omega]
  have x4 : ∀ i, 0 ≤ i → i < 120 → X (a + 4) i = C (c + 4) i := fun i i0 i1 => by
    rw [← hX, show a + 4 = a + 1 + 3 by omega, jCpy_ne (by omega), jCpy_f i0 i1, jCpy_ne (by omega), jCpy_ne (by omega), jU_ne (by omega), show c + 1 + 3 = c + 4 by omega]
  have x5 : ∀ i, 0 ≤ i → i < 120 → X (a + 5) i = C (c + 5) i := fun i i0 i1 => by
    rw [← hX, show a + 5 = a + 1 + 4 by omega, jCpy_f i0 i1, jCpy_ne (by omega), jCpy_ne (by omega), jCpy_ne (by omega), jU_ne (by omega), show c + 1 + 4 = c + 5 by omega]
  generalize hY : jU (jCpy X (c + 1 + 5 + 1) 0 (a + 1 + 5 + 1) 0 24) (a + 1 + 5) 1 (jCpy X (c + 1 + 5 + 1) 0 (a + 1 + 5 + 1) 0 24 (c + 1 + 5) 1) = Y
  have y1 : ∀ x, x ≠ a + 6 → x ≠ a + 7 → Y x = X x := fun x h1 h2 => by rw [← hY, jU_ne (by omega), jCpy_ne (by omega)]
  have y6 : Y (a + 6) 1 = C (c + 6) 1 := by rw [← hY, show a + 6 = a + 1 + 5 by omega, jU_at, if_pos rfl, if_pos rfl, jCpy_ne (by omega), x1 _ (by omega), show c + 1 + 5 = c + 6 by omega]
  have y7 : ∀ i, 0 ≤ i → i < 24 → Y (a + 7) i = C (c + 7) i := fun i i0 i1 => by rw [← hY, show a + 7 = a + 1 + 5 + 1 by omega, jU_ne (by omega), jCpy_f i0 i1, x1 _ (by omega), show c + 1 + 5 + 1 = c + 7 by omega]
  have yc : Y (c + 1) = C (c + 1) := by rw [y1 _ (by omega) (by omega), x1 _ (by omega)]
  have zc : ∀ z, jU Y (a + 1) 6 z (c + 1) = C (c + 1) := fun z => by rw [jU_ne (by omega), yc]
  rw [zc, yc]
  generalize hZ : jU (jU Y (a + 1) 6 (C (c + 1) 6)) (a + 1) 7 (C (c + 1) 7) = Z
  have z1 : ∀ x, x ≠ a + 1 → Z x = Y x := fun x h1 => by rw [← hZ, jU_ne h1, jU_ne h1]
  have zC : ∀ x, ¬ (a + 1 ≤ x ∧ x < a + 8) → Z x = C x := fun x hx => by rw [z1 x (by omega), y1 x (by omega) (by omega), x1 x (by omega)]
  have s0 : Z (a + 1) 0 = C (c + 1) 0 := by rw [← hZ, jU_at, if_pos rfl, if_neg (by decide), jU_at, if_pos rfl, if_neg (by decide), y1 _ (by omega) (by omega), x0, if_pos rfl]
  have s6 : Z (a + 1) 6 = C (c + 1) 6 := by rw [← hZ, jU_at, if_pos rfl, if_neg (by decide), jU_at, if_pos rfl, if_pos rfl]
  have s7 : Z (a + 1) 7 = C (c + 1) 7 := by rw [← hZ, jU_at, if_pos rfl, if_pos rfl]
  have z2 : ∀ i, 0 ≤ i → i < 5 → Z (a + 2) i = C (c + 2) i := fun i i0 i1 => by rw [z1 _ (by omega), y1 _ (by omega) (by omega), x2 i i0 i1]
  have z3 : ∀ i, 0 ≤ i → i < 24 → Z (a + 3) i = C (c + 3) i := fun i i0 i1 => by rw [z1 _ (by omega), y1 _ (by omega) (by omega), x3 i i0 i1]
  have z4 : ∀ i, 0 ≤ i → i < 120 → Z (a + 4) i = C (c + 4) i := fun i i0 i1 => by rw [z1 _ (by omega), y1 _ (by omega) (by omega), x4 i i0 i1]
  have z5 : ∀ i, 0 ≤ i → i < 120 → Z (a + 5) i = C (c + 5) i := fun i i0 i1 => by rw [z1 _ (by omega), y1 _ (by omega) (by omega), x5 i i0 i1]
  have z6 : Z (a + 6) 1 = C (c + 6) 1 := by rw [z1 _ (by omega), y6]
  have z7 : ∀ i, 0 ≤ i → i < 24 → Z (a + 7) i = C (c + 7) i := fun i i0 i1 => by rw [z1 _ (by omega), y7 i i0 i1]
  refine jL2_of (fun k E => 0 ≤ k ∧ k ≤ 4 ∧ (∀ x, ¬ (a + 16 ≤ x ∧ x < a + 16 + 72 * k) → E x = Z x) ∧ ∀ v, 0 ≤ v → v < k → rLens E w (a + 8 + 8 + 72 * v + 1) (298 + 2114 * v) ∧ rEds E w (a + 8 + 8 + 72 * v) (298 + 2114 * v) ∧ E (a + 8 + 8 + 72 * v + 29) 1 = C (c + 8 + 8 + 72 * v + 29) 1 ∧ (∀ i, 0 ≤ i → i < 24 → E (a + 8 + 8 + 72 * v + 29 + 1) i = C (c + 8 + 8 + 72 * v + 29 + 1) i)) (fun k _ => (4 - k).toNat) (fun K k E hi hk => ?_) ⟨by omega, by omega, fun _ _ => rfl, fun v a b => by omega⟩
  obtain ⟨i0, i1, g1, g2⟩ := hi
  have gC : ∀ x, ¬ (a + 1 ≤ x ∧ x < a + 8) → ¬ (a + 16 ≤ x ∧ x < a + 304) → E x = C x := fun x h1 h2 => by rw [g1 x (by omega), zC x h1]
  unfold wp_8_copyFrom_13
  by_cases b : 4 ≤ k
  · rw [if_pos b]
    have ek : k = 4 := by omega
    subst ek
    unfold wp_3_copyFrom
    generalize hL : jCpy E (c + 9 + 1) 0 (a + 9 + 1) 0 200 = L
    have l1 : ∀ x, x ≠ a + 9 + 1 → L x = E x := fun x hx => by rw [← hL, jCpy_ne hx]
    have l2 : ∀ i, 0 ≤ i → i < 200 → L (a + 10) i = C (c + 10) i := fun i i0 i1 => by rw [← hL, show a + 10 = a + 9 + 1 by omega, jCpy_f i0 i1, gC _ (by omega) (by omega), show c + 9 + 1 = c + 10 by omega]
    have lc : L (c + 9) = C (c + 9) := by rw [l1 _ (by omega), gC _ (by omega) (by omega)]
    have lc2 : ∀ z, jU L (a + 9) 1 z (c + 9) = C (c + 9) := fun z => by rw [jU_ne (by omega), lc]
    rw [lc2, lc]
    generalize hM : jU (jU L (a + 9) 1 (C (c + 9) 1)) (a + 9) 2 (C (c + 9) 2) = M
    have m1 : ∀ x, x ≠ a + 9 → x ≠ a + 10 → M x = E x := fun x h1 h2 => by rw [← hM, jU_ne h1, jU_ne h1, l1 x (by omega)]
    have m91 : M (a + 9) 1 = C (c + 9) 1 := by rw [← hM, jU_at, if_pos rfl, if_neg (by decide), jU_at, if_pos rfl, if_pos rfl]
    have m92 : M (a + 9) 2 = C (c + 9) 2 := by rw [← hM, jU_at, if_pos rfl, if_pos rfl]
    have m10 : ∀ i, 0 ≤ i → i < 200 → M (a + 10) i = C (c + 10) i := fun i i0 i1 => by rw [← hM, jU_ne (by omega), jU_ne (by omega), l2 i i0 i1]
    have mz : ∀ x, a + 1 ≤ x → x < a + 8 → M x = Z x := fun x h1 h2 => by rw [m1 x (by omega) (by omega), g1 x (by omega)]
    have keyEq : ∀ t, 0 ≤ t → t < 24 → M (a + 3) t = C (c + 3) t := fun t t0 t1 => by rw [mz _ (by omega) (by omega), z3 t t0 t1]
    have live : ∀ t, rLive M a t ↔ rLive C c t := by
      intro t
      unfold rLive
      rw [mz (a + 6) (by omega) (by omega), mz (a + 7) (by omega) (by omega), z6]
      have := hO.1
      have o3 := hO.2.2.1
      constructor
      · rintro ⟨j, j0, j1, j2⟩
        exact ⟨j, j0, j1, by rw [← z7 j j0 (by omega)]; exact j2⟩
      · rintro ⟨j, j0, j1, j2⟩
        exact ⟨j, j0, j1, by rw [z7 j j0 (by omega)]; exact j2⟩
    refine y M (fun x hx => by rw [m1 x (by omega) (by omega), gC x (by omega) (by omega)]) ⟨?_, ?_, ?_, ?_, ?_, ?_, hZZ⟩
    · unfold rA at hA ⊢
      rw [mz (a + 1) (by omega) (by omega), s0, s6, s7, m92]; exact hA
    · intro q q0 q1
      rw [mz (a + 2) (by omega) (by omega), z2 q q0 q1]; exact hB q q0 q1
    · obtain ⟨o1, o2, o3, o4, o5⟩ := hO
      unfold rLst
      rw [mz (a + 6) (by omega) (by omega), z6]
      have e7 : ∀ i, 0 ≤ i → i < 24 → M (a + 6 + 1) i = C (c + 6 + 1) i := fun i i0 i1 => by
        rw [show a + 6 + 1 = a + 7 by omega, show c + 6 + 1 = c + 7 by omega, mz (a + 7) (by omega) (by omega), z7 i i0 i1]
      refine ⟨o1, o2, o3, fun i i0 i1 => ?_, fun i j i0 i1 j1 => ?_⟩
      · obtain ⟨p1, p2, p3⟩ := o4 i i0 i1
        rw [e7 i i0 (by omega), keyEq _ p1 p2]
        exact ⟨p1, p2, p3⟩
      · rw [e7 i i0 (by omega), e7 j (by omega) (by omega)]; exact o5 i j i0 i1 j1
    · obtain ⟨q1, q2, q3⟩ := hW
      refine ⟨fun t t0 t1 hl => ?_, fun t t0 t1 hl => ?_, fun t u t0 t1 u0 u1 ht hu => ?_⟩
      · rw [live] at hl
        obtain ⟨u1, u2, u3, u4⟩ := q1 t t0 t1 hl
        rw [keyEq t t0 t1]
        refine ⟨u1, u2, u3, fun q q0 q1 => ?_⟩
        have f := u4 q q0 q1
        have w05 := hA.2.2.1
        unfold rCell at f ⊢
        rw [mz (a + 4) (by omega) (by omega), z4 _ (by omega) (by omega), mz (a + 5) (by omega) (by omega), z5 _ (by omega) (by omega)]
        exact f
      · rw [live] at hl
        exact q2 t t0 t1 hl
      · rw [live] at ht hu
        rw [keyEq t t0 t1, keyEq u u0 u1]; exact q3 t u t0 t1 u0 u1 ht hu
    · intro v v0 v1
      obtain ⟨p1, p2, p3, p4⟩ := hV v v0 v1
      obtain ⟨f1, f2, f3, f4⟩ := g2 v v0 v1
      have mE : ∀ x, a + 16 ≤ x → M x = E x := fun x hx => m1 x (by omega) (by omega)
      obtain ⟨o1, o2, o3, o4, o5⟩ := p1
      refine ⟨?_, fun i i0 i1 => ?_, ?_, ?_⟩
      · unfold rLst
        rw [mE (a + 8 + 8 + 72 * v + 29) (by omega), f3, mE (a + 8 + 8 + 72 * v + 29 + 1) (by omega)]
        refine ⟨o1, o2, o3, fun i i0 i1 => ?_, fun i j i0 i1 j1 => ?_⟩
        · obtain ⟨p1, p2, p3⟩ := o4 i i0 i1
          rw [f4 i i0 (by omega), keyEq _ p1 p2]
          exact ⟨p1, p2, p3⟩
        · rw [f4 i i0 (by omega), f4 j (by omega) (by omega)]; exact o5 i j i0 i1 j1
      · rw [live, mE (a + 8 + 8 + 72 * v + 29 + 1) (by omega), f4 i i0 (by omega)]
        exact p2 i i0 i1
      · exact rLens_keep f1 hA.2.1 (fun x x0 x1 => mE x (by omega)) rfl (fun _ _ _ => rfl) (fun _ _ _ => rfl)
      · exact rEds_keep f2 (by rw [mE _ (by omega)]) (fun x x0 x1 => mE x (by omega)) rfl (fun _ _ _ => rfl) hA.2.2.1 (fun _ _ _ => rfl)
    · obtain ⟨q1, q2, q3⟩ := hG
      have w3 := hA.2.2.2.2.2.2.2.2.2.2
      unfold rG
      rw [m91]
      refine ⟨q1, q2, fun g p g0 g1 p0 p1 => ?_⟩
      rw [m10 _ (by omega) (by omega)]
      exact q3 g p g0 g1 p0 p1
  · rw [if_neg b]
    refine ⟨i0, ?_⟩
    obtain ⟨p1, p2, p3, p4⟩ := hV k i0 (by omega)
    have src : ∀ x, c + 8 + 8 + 72 * k ≤ x → x < c + 8 + 8 + 72 * k + 72 → E x = C x := fun x h1 h2 => gC x (by omega) (by omega)
    have rr : rRow E (a + 8 + 8 + 72 * k) := by
      have := hr k i0 (by omega)
      unfold rRow at this ⊢
      rw [g1 (a + 8 + 8 + 72 * k + 31) (by omega), zC _ (by omega)]
      exact this
    refine sp_vcopy (b := 298 + 2114 * k) (rLens_keep p3 hA.2.1 (fun x x0 x1 => src x (by omega) (by omega)) rfl (fun _ _ _ => rfl) (fun _ _ _ => rfl)) (rEds_keep p4 (by rw [src _ (by omega) (by omega)]) (fun x x0 x1 => src x (by omega) (by omega)) rfl (fun _ _ _ => rfl) hA.2.2.1 (fun _ _ _ => rfl)) rr (by omega) (fun F f1 f2 f3 f4 f5 => ?_)
    rw [src _ (by omega) (by omega)] at f4
    rw [src (c + 8 + 8 + 72 * k + 29 + 1) (by omega) (by omega)] at f5
    refine hk _ _ ⟨by omega, by omega, fun x hx => by rw [f1 x (by omega), g1 x (by omega)], fun v v0 v1 => ?_⟩ (by omega)
    by_cases e : v = k
    · subst e; exact ⟨f2, f3, f4, f5⟩
    · obtain ⟨h1, h2, h3, h4⟩ := g2 v v0 (by omega)
      have ff : ∀ x, a + 8 + 8 + 72 * v ≤ x → x < a + 8 + 8 + 72 * v + 72 → F x = E x := fun x q1 q2 => f1 x (by omega)
      refine ⟨rLens_keep h1 hA.2.1 (fun x x0 x1 => ff x (by omega) (by omega)) rfl (fun _ _ _ => rfl) (fun _ _ _ => rfl), rEds_keep h2 (by rw [ff _ (by omega) (by omega)]) (fun x x0 x1 => ff x (by omega) (by omega)) rfl (fun _ _ _ => rfl) hA.2.2.1 (fun _ _ _ => rfl), by rw [ff _ (by omega) (by omega), h3], fun i i0 i1 => by rw [ff _ (by omega) (by omega), h4 i i0 i1]⟩

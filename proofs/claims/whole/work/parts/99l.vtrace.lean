-- the parts of a view's text, one after another
def jVT (T : Int → Int) (m : Int) (e : Int → jC) (P : Int → Int) (L : Int) : Prop := ∀ j, 0 ≤ j → j < L → ∃ (e' : jC) (x : Int), jPP T m (P j) (e j) e' 1 x ∧ P j < x ∧ x ≤ m ∧ jBl T m x < m ∧ T (jBl T m x) = 59 ∧ P (j + 1) = jBl T m x + 1 ∧ ∀ b, b ≠ 1 → e (j + 1) b = e' b
theorem sp_cView {T : Int → Int} {m p : Int} {C : jC} (h : jCL T m p C) (hk : jLk C) {post : Int → jC → Prop}
    (y1 : ∀ (e : Int → jC) (P : Int → Int) (L : Int) (C' e' : jC) (x : Int), 0 ≤ L → e 0 = C → P 0 = p → jVT T m e P L → jPP T m (P L) (e L) e' 1 x → jBl T m x = m → jXt C C' → jLk C' → (∀ b, b ≠ 1 → C' b = e' b) → post 1 C')
    (y0 : ∀ (e : Int → jC) (P : Int → Int) (L : Int) (C' : jC) (x : Int), 0 ≤ L → e 0 = C → P 0 = p → jVT T m e P L → (jPP T m (P L) (e L) (e L) 0 x ∨ ∃ (e' : jC) (x' : Int), jPP T m (P L) (e L) e' 1 x' ∧ jBl T m x' < m ∧ T (jBl T m x') ≠ 59 ∧ x = jBl T m x') → jXf C C' x → post 0 C') : jL2 (wp_9_readView_23 post) 0 C := by
  have m4 := h.2.2.2.2.1
  have p0 := h.2.2.1
  refine jL2_of (fun k E => 0 ≤ k ∧ ∃ (e : Int → jC) (P : Int → Int), e 0 = C ∧ P 0 = p ∧ jVT T m e P k ∧ e k = E ∧ 2 * k ≤ P k ∧ jCL T m (P k) E ∧ jXt C E ∧ jLk E) (fun _ E => (m - E 1 3).toNat) (fun K k E hi hk1 => ?_) ⟨Int.le_refl 0, fun _ => C, fun _ => p, rfl, rfl, fun j a b => by omega, rfl, by show 2 * 0 ≤ p; omega, h, jXt_r C, hk⟩
  obtain ⟨k0, e, P, e0, P0, tr, ee, pk, cl, xt, lk⟩ := hi
  have cp := cl.2.2.2.1
  unfold wp_9_readView_23
  rw [if_neg (by omega)]
  refine sp_cPart cl lk (fun C1 x px x1 cl1 lk1 pp => ?_) (fun C1 x x1 pp => ?_)
  · rw [if_neg (by decide)]
    have xb := jBl_b cl1
    have x0 := cl1.2.2.1
    have bb := jBl_bl (T := T) x0 cl1.2.2.2.1 m4
    refine sp_cOver cl1 (fun e1 C2 g2 c2 => ?_) (fun e1 C2 g2 c2 => ?_)
    · rw [if_neg (by decide)]
      exact y1 e P k C2 C1 x k0 e0 P0 tr (by rw [ee]; exact pp) e1 (jXt_t xt (jXt_t x1 (jXt_go (jGo3_go g2)))) (jLk_eq g2.1 lk1) g2.1
    · rw [if_pos rfl]
      refine sp_cSign c2 (by decide) (by decide) ?_ ?_
      · rw [bb]
        intro q1 q2 C3 g3 c3
        rw [if_neg (by decide)]
        have g23 : ∀ b, b ≠ 1 → C3 b = C1 b := fun b hb => by rw [g3.1 b hb, g2.1 b hb]
        obtain ⟨f, ef⟩ : ∃ f : Int → jC, ∀ j, f j = if j = k + 1 then C3 else e j := ⟨_, fun _ => rfl⟩
        obtain ⟨Q, eQ⟩ : ∃ Q : Int → Int, ∀ j, Q j = if j = k + 1 then jBl T m x + 1 else P j := ⟨_, fun _ => rfl⟩
        refine hk1 _ _ ⟨by omega, f, Q, by rw [ef, if_neg (by omega), e0], by rw [eQ, if_neg (by omega), P0], fun j j0 j1 => ?_, by rw [ef, if_pos rfl], by rw [eQ, if_pos rfl]; omega, by rw [eQ, if_pos rfl]; exact c3, jXt_t xt (jXt_t x1 (jXt_t (jXt_go (jGo3_go g2)) (jXt_go (jGo3_go g3)))), jLk_eq g3.1 (jLk_eq g2.1 lk1)⟩ ?_
        · by_cases ej : j = k
          · subst ej
            rw [ef j, eQ j, if_neg (by omega), if_neg (by omega), eQ, if_pos rfl, ef, if_pos rfl]
            exact ⟨C1, x, by rw [ee]; exact pp, px, cl1.2.2.2.1, q1, q2, rfl, g23⟩
          · have := tr j j0 (by omega)
            rw [ef j, eQ j, eQ (j + 1), ef (j + 1), if_neg (by omega), if_neg (by omega), if_neg (by omega), if_neg (by omega)]
            exact this
        · have z1 := c3.2.1
          have z2 := cl.2.1
          have z3 := c3.2.2.2.1
          omega
      · rw [bb]
        intro q C3 g3 c3
        rw [if_pos rfl]
        unfold wp_5_failHere
        rw [c3.2.1]
        refine ⟨Or.inl rfl, y0 e P k _ (jBl T m x) k0 e0 P0 tr (Or.inr ⟨C1, x, by rw [ee]; exact pp, e1, fun z => q ⟨e1, z⟩, rfl⟩) (jXf_bad (jXt_t xt (jXt_t x1 (jXt_t (jXt_go (jGo3_go g2)) (jXt_go (jGo3_go g3))))) (jBad_u _ _))⟩
  · rw [if_pos rfl]
    exact y0 e P k C1 x k0 e0 P0 tr (Or.inl (by rw [ee]; exact pp)) (jXf_tx xt x1)
theorem sp_mPart1 {T : Int → Int} {m p v x : Int} {e e' : jC} (pp : jPP T m p e e' 1 x) (v0 : 0 ≤ v) (v1 : v < 4) {D : jC} (hD : jML T m p D) (hl : jLr e (D 346) v) {post : Int → jC → Prop} {K : jC → Prop}
    (y1 : jBl T m x < m → T (jBl T m x) = 59 → ∀ D', jGoW D D' → jML T m (jBl T m x + 1) D' → jLr e' (D' 346) v → jOutL (D 346) (D' 346) v → K D')
    (yE : jBl T m x = m → ∀ D', jGoW D D' → jLr e' (D' 346) v → jOutL (D 346) (D' 346) v → post 1 D')
    (y0 : jBl T m x < m → T (jBl T m x) ≠ 59 → ∀ D', jGoW D D' → D' 345 9 = jBl T m x → post 0 D') : wp_12_readView_44 v post K D := by
  unfold wp_12_readView_44
  refine pp (D 345 9) v D _ v0 v1 hD rfl hl (fun _ D1 g1 l1 r1 o1 => ?_) (fun z => absurd z (by decide))
  rw [if_neg (by decide)]
  have xb := jBl_m l1
  refine sp_mSign l1 (fun q1 q2 D2 g2 l2 => ?_) (fun q D2 g2 l2 b2 => ?_)
  · rw [if_neg (by decide)]
    have ew : D2 346 = D1 346 := g2.1 346 (by decide)
    exact y1 q1 q2 D2 (jGoW_t g1 (jGoW_N g2)) l2 (by rw [ew]; exact r1) (by rw [ew]; exact o1)
  · rw [if_pos rfl, l2.1, l2.2.1]
    have ew : D2 346 = D1 346 := g2.1 346 (by decide)
    by_cases a : jBl T m x = m
    · rw [if_pos a]
      exact yE a D2 (jGoW_t g1 (jGoW_N g2)) (by rw [ew]; exact r1) (by rw [ew]; exact o1)
    · rw [if_neg a]
      exact y0 (by omega) (fun z => q ⟨by omega, z⟩) D2 (jGoW_t g1 (jGoW_N g2)) b2
theorem sp_mView {T : Int → Int} {m v L : Int} {e : Int → jC} {P : Int → Int} (L0 : 0 ≤ L) (tr : jVT T m e P L) (v0 : 0 ≤ v) (v1 : v < 4) {D : jC} (hD : jML T m (P 0) D) (hl : jLr (e 0) (D 346) v) {post : Int → jC → Prop}
    (y : ∀ (K : jC → Prop) (D' : jC), jGoW D D' → jML T m (P L) D' → jLr (e L) (D' 346) v → jOutL (D 346) (D' 346) v → wp_12_readView_44 v post K D') : jL1 (wp_12_readView_44 v post) D := by
  refine jL1_of (fun E => ∃ j, 0 ≤ j ∧ j ≤ L ∧ jGoW D E ∧ jML T m (P j) E ∧ jLr (e j) (E 346) v ∧ jOutL (D 346) (E 346) v) (fun E => (m - E 345 7).toNat) (fun K E hi hk => ?_) ⟨0, by omega, L0, jGoW_r D, hD, hl, jOutL_r _ _⟩
  obtain ⟨j, i0, i1, i2, i3, i4, i5⟩ := hi
  by_cases a : j = L
  · subst a
    exact y K E i2 i3 i4 i5
  · obtain ⟨e', x, pp, px, xm, q1, q2, q3, q4⟩ := tr j i0 (by omega)
    refine sp_mPart1 pp v0 v1 i3 i4 (fun _ _ D' g1 l1 r1 o1 => ?_) (fun z => by omega) (fun _ z => absurd q2 z)
    refine hk D' ⟨j + 1, by omega, by omega, jGoW_t i2 g1, by rw [q3]; exact l1, jLr_eq q4 r1, jOutL_t i5 o1⟩ ?_
    have z1 := l1.2.1
    have z2 := i3.2.1
    have z3 := l1.2.2.2.1
    have z4 := l1.2.2.1
    have := (jBl_up (T := T) (p := x) (by have := i3.2.2.1; omega) xm i3.2.2.2.2.1).1
    omega

-- the lines of a sheet's text
def jLnA (T : Int → Int) (m : Int) (e e' : jC) (q : Int) : Prop := jWq T m (jBl T m (e 1 3)) 0 ∧ e 3 0 = 0 ∧ ∃ g : Int → Int, 1 ≤ e' 3 0 ∧ e' 3 0 ≤ 5 ∧ g 0 = jBl T m (e 1 3) + 7 ∧ (∀ j, 0 ≤ j → j ≤ e' 3 0 → 0 ≤ g j ∧ g j ≤ m) ∧ (∀ j, 0 ≤ j → j < e' 3 0 → jKd T m g (e' 4) j) ∧ (e' 3 0 = 5 ∨ jNoK T m (g (e' 3 0))) ∧ q = jBl T m (g (e' 3 0)) ∧ e' 3 2 = e 3 2 ∧ (∀ j, e' 3 0 ≤ j → e' 4 j = e 4 j) ∧ e' 5 = e 5 ∧ e' 6 = e 6
def jLnR (T : Int → Int) (m : Int) (cr cx cy : Int → Int → Int) (r0 : Int) (e e' : jC) (q : Int) : Prop := ¬ jWq T m (jBl T m (e 1 3)) 0 ∧ jWq T m (jBl T m (e 1 3)) 1 ∧ 1 ≤ e 3 0 ∧ r0 + e 3 2 < 24 ∧ (∀ c, 0 ≤ c → c < e 3 0 → cr (e 4 c) (jQ cx (e 4) (jBl T m (e 1 3) + 3) c.toNat) = 1) ∧ q = jBl T m (jQ cx (e 4) (jBl T m (e 1 3) + 3) (e 3 0).toNat) ∧ e' 3 0 = e 3 0 ∧ e' 4 = e 4 ∧ e' 3 2 = e 3 2 + 1 ∧ e' 5 (e 3 2) = e 3 0 ∧ (∀ j, j ≠ e 3 2 → e' 5 j = e 5 j) ∧ (∀ c, 0 ≤ c → c < e 3 0 → e' 6 (e 3 2 * 5 + c) = cy (e 4 c) (jQ cx (e 4) (jBl T m (e 1 3) + 3) c.toNat)) ∧ (∀ j, j < e 3 2 * 5 → e' 6 j = e 6 j)
/-- a line that is wrong, at x -/
def jLnF (T : Int → Int) (m : Int) (cr cx : Int → Int → Int) (r0 : Int) (e : jC) (x : Int) : Prop :=
  (jWq T m (jBl T m (e 1 3)) 0 ∧ e 3 0 ≠ 0 ∧ x = jBl T m (e 1 3)) ∨
  (jWq T m (jBl T m (e 1 3)) 0 ∧ e 3 0 = 0 ∧ jNoK T m (jBl T m (e 1 3) + 7) ∧ x = jBl T m (jBl T m (e 1 3) + 7)) ∨
  (¬ jWq T m (jBl T m (e 1 3)) 0 ∧ jWq T m (jBl T m (e 1 3)) 1 ∧ (e 3 0 = 0 ∨ 24 ≤ r0 + e 3 2) ∧ x = jBl T m (e 1 3)) ∨
  (¬ jWq T m (jBl T m (e 1 3)) 0 ∧ jWq T m (jBl T m (e 1 3)) 1 ∧ 1 ≤ e 3 0 ∧ r0 + e 3 2 < 24 ∧ ∃ c, 0 ≤ c ∧ c < e 3 0 ∧ (∀ i, 0 ≤ i → i < c → cr (e 4 i) (jQ cx (e 4) (jBl T m (e 1 3) + 3) i.toNat) = 1) ∧ cr (e 4 c) (jQ cx (e 4) (jBl T m (e 1 3) + 3) c.toNat) = 0 ∧ x = cx (e 4 c) (jQ cx (e 4) (jBl T m (e 1 3) + 3) c.toNat)) ∨
  (¬ jWq T m (jBl T m (e 1 3)) 0 ∧ ¬ jWq T m (jBl T m (e 1 3)) 1 ∧ x = jBl T m (e 1 3))
/-- what the text has told so far is in order -/
def jSd (T : Int → Int) (m r0 k : Int) (e : jC) : Prop := 0 ≤ e 3 0 ∧ e 3 0 ≤ 5 ∧ (∀ c, 0 ≤ c → c < 5 → e 4 c = 0 ∨ e 4 c = 1) ∧ 0 ≤ e 3 2 ∧ e 3 2 ≤ k ∧ r0 + e 3 2 ≤ 24 ∧ (e 3 0 = 0 → e 3 2 = 0) ∧ jCL T m (e 1 3) e ∧ (∀ r, 0 ≤ r → r < e 3 2 → e 5 r = e 3 0 ∧ ∀ c, 0 ≤ c → c < e 3 0 → jVal (e 4 c) (e 6 (r * 5 + c)))
theorem jLnA_sd {T : Int → Int} {m r0 k q : Int} {e e' : jC} (h : jSd T m r0 k e) (l : jLnA T m e e' q) (hc : jCL T m (e' 1 3) e') : jSd T m r0 (k + 1) e' := by
  obtain ⟨a1, a2, a3, a4, a5, a6, a7, a8, a9⟩ := h
  obtain ⟨l1, l2, g, l3, l4, l5, l6, l7, l8, l9, l10, l11, l12, l13⟩ := l
  have r := a7 l2
  refine ⟨by omega, l4, fun c c0 c1 => ?_, by omega, by omega, by omega, by omega, hc, fun r r0 r1 => by omega⟩
  by_cases e : c < e' 3 0
  · rcases l7 c c0 e with z | z
    · exact Or.inl z.2.1
    · exact Or.inr z.2.2.1
  · rw [l11 c (by omega)]; exact a3 c c0 c1
theorem jLnR_sd {T : Int → Int} {m r0 k q : Int} {cr cx cy : Int → Int → Int} (F : jCellF T m cr cx cy) {e e' : jC} (h : jSd T m r0 k e) (l : jLnR T m cr cx cy r0 e e' q) (hc : jCL T m (e' 1 3) e') : jSd T m r0 (k + 1) e' := by
  obtain ⟨a1, a2, a3, a4, a5, a6, a7, a8, a9⟩ := h
  obtain ⟨l1, l2, l3, l4, l5, l6, l7, l8, l9, l10, l11, l12, l13⟩ := l
  have b0 := a8.2.2.1
  have hbu := jBl_b a8
  have w1 := l2.1
  have s1 : jSlen 1 = 3 := rfl
  rw [s1] at w1
  refine ⟨by omega, by omega, by rw [l8]; exact a3, by omega, by omega, by omega, by omega, hc, fun r rr0 rr1 => ?_⟩
  rw [l7, l8]
  by_cases er : r = e 3 2
  · subst er
    refine ⟨l10, fun c c0 c1 => ?_⟩
    rw [l12 c c0 c1]
    have qb := jQ_b F (κ := e 4) (show 0 ≤ jBl T m (e 1 3) + 3 by omega) (by omega) c.toNat (fun i i0 i1 => a3 i i0 (by omega)) (fun i i0 i1 => l5 i i0 (by omega))
    exact ((F (e 4 c) _ (by omega) qb.2 (a3 c c0 (by omega))).2.1 (l5 c c0 c1)).2.2
  · obtain ⟨x1, x2⟩ := a9 r rr0 (by omega)
    rw [l11 r er]
    refine ⟨x1, fun c c0 c1 => ?_⟩
    rw [l13 _ (by omega)]
    exact x2 c c0 c1
theorem sp_cLine {T : Int → Int} {m r0 k : Int} {cr cx cy : Int → Int → Int} (F : jCellF T m cr cx cy) {C : jC} (h : jSd T m r0 k C) (k14 : k < 14) (hr0 : 0 ≤ r0) {post : Int → jC → Prop}
    (y1 : ∀ (C' : jC) (q p' : Int), (jLnA T m C C' q ∨ jLnR T m cr cx cy r0 C C' q) → jXt C C' → jCL T m p' C' → jBl T m p' = q → post 1 C') (y0 : ∀ (C' : jC) (x : Int), jLnF T m cr cx r0 C x → jXf C C' x → post 0 C') : wp_9_readLine r0 C post := by
  obtain ⟨a1, a2, a3, a4, a5, a6, a7, a8, a9⟩ := id h
  have m4 := a8.2.2.2.2.1
  have p0 := a8.2.2.1
  have p1 := a8.2.2.2.1
  have s0 : jSlen 0 = 7 := rfl
  have s1 : jSlen 1 = 3 := rfl
  have bb := jBl_bl (T := T) p0 p1 m4
  unfold wp_9_readLine
  refine sp_cBl3 a8 (fun C1 g1 h1 => ?_)
  generalize hb : jBl T m (C 1 3) = b at *
  rw [h1.2.1]
  refine sp_cTakeWord h1 (by decide) (fun w C2 g2 h2 => ?_) (fun w C2 g2 h2 => ?_)
  · rw [bb] at w h2
    rw [s0] at h2
    have g12 := jGo3_t g1 g2
    have x12 := jXt_go (jGo3_go g12)
    have e3 : C2 3 = C 3 := g12.1 3 (by decide)
    rw [if_neg (by decide), e3]
    by_cases c : C 3 0 = 0
    · rw [if_pos c]
      refine sp_cKinds h2 (fun n q g C3 n1 n5 t1 t2 t3 t4 t5 t6 t7 t8 t9 t10 t11 => ⟨by omega, ?_⟩) (fun t C3 t1 => ⟨by omega, ?_⟩)
      · refine y1 C3 (jBl T m (g n)) q (Or.inl ?_) (jXt_t x12 t5) t6 t7
        refine ⟨by rw [hb]; exact w, c, g, by omega, by omega, by rw [hb]; exact t1, by rw [t8]; exact t2, by rw [t8]; exact t3, by rw [t8]; exact t4, by rw [t8], by rw [t9, e3], fun j hj => by rw [t10 j (by omega), g12.1 4 (by decide)], by rw [t11 5 (by decide) (by decide) (by decide), g12.1 5 (by decide)], by rw [t11 6 (by decide) (by decide) (by decide), g12.1 6 (by decide)]⟩
      · refine y0 C3 (jBl T m (b + 7)) (Or.inr (Or.inl ?_)) (jXf_tx x12 t1)
        rw [hb]
        exact ⟨w, c, t, rfl⟩
    · rw [if_neg c]
      unfold wp_5_failAt
      exact ⟨by omega, y0 _ b (Or.inl (by rw [hb]; exact ⟨w, c, rfl⟩)) (jXf_bad x12 (jBad_u _ _))⟩
  · rw [bb] at w h2
    rw [if_pos rfl]
    refine sp_cTakeWord h2 (by decide) (fun w1 C3 g3 h3 => ?_) (fun w1 C3 g3 h3 => ?_)
    · rw [bb] at w1 h3
      rw [s1] at h3
      have g13 := jGo3_t (jGo3_t g1 g2) g3
      have x13 := jXt_go (jGo3_go g13)
      have e3 : C3 3 = C 3 := g13.1 3 (by decide)
      have e4 : C3 4 = C 4 := g13.1 4 (by decide)
      have e5 : C3 5 = C 5 := g13.1 5 (by decide)
      have e6 : C3 6 = C 6 := g13.1 6 (by decide)
      rw [if_neg (by decide), e3]
      unfold wp_5_failAt
      by_cases c : C 3 0 ≤ 0
      · rw [if_pos c]
        exact ⟨by omega, y0 _ b (Or.inr (Or.inr (Or.inl (by rw [hb]; exact ⟨w, w1, Or.inl (by omega), rfl⟩)))) (jXf_bad x13 (jBad_u _ _))⟩
      · rw [if_neg c]
        refine ⟨⟨by omega, by omega⟩, ?_⟩
        by_cases d : 24 ≤ r0 + C 3 2
        · rw [if_pos d]
          exact ⟨by omega, y0 _ b (Or.inr (Or.inr (Or.inl (by rw [hb]; exact ⟨w, w1, Or.inr d, rfl⟩)))) (jXf_bad x13 (jBad_u _ _))⟩
        · rw [if_neg d]
          refine sp_cRow F h3 (n := C 3 0) (r := C 3 2) (by rw [e3]) (by omega) a2 (by rw [e3]) a4 (by omega) (by rw [e4]; exact fun c c0 c1 => a3 c c0 (by omega)) ?_ ?_
          · rw [e4, e5, e6]
            intro t1 C4 t2 t3 t4 t5 t6 t7 t8 t9 t10
            refine ⟨by omega, y1 C4 _ _ (Or.inr ?_) (jXt_t x13 t2) t3 rfl⟩
            unfold jLnR
            rw [hb]
            exact ⟨w, w1, by omega, by omega, t1, rfl, t4, t5, t6, t7, t8, t9, t10⟩
          · rw [e4]
            intro c' c0 c1 t1 t2 C4 t3
            refine ⟨by omega, y0 C4 _ (Or.inr (Or.inr (Or.inr (Or.inl ?_)))) (jXf_tx x13 t3)⟩
            rw [hb]
            exact ⟨w, w1, by omega, by omega, c', c0, c1, t1, t2, rfl⟩
    · rw [bb] at w1 h3
      have g13 := jGo3_t (jGo3_t g1 g2) g3
      rw [if_pos rfl]
      unfold wp_5_failHere
      rw [h3.2.1]
      exact ⟨by omega, y0 _ b (Or.inr (Or.inr (Or.inr (Or.inr (by rw [hb]; exact ⟨w, w1, rfl⟩))))) (jXf_bad (jXt_go (jGo3_go g13)) (jBad_u _ _))⟩
/-- L lines, each with a sign behind it -/
def jTr (T : Int → Int) (m : Int) (cr cx cy : Int → Int → Int) (r0 : Int) (e : Int → jC) (L : Int) : Prop := ∀ j, 0 ≤ j → j < L → jSd T m r0 j (e j) ∧ ∃ q, (jLnA T m (e j) (e (j + 1)) q ∨ jLnR T m cr cx cy r0 (e j) (e (j + 1)) q) ∧ q < m ∧ T q = 59 ∧ (e (j + 1)) 1 3 = q + 1
theorem jLn_go {T : Int → Int} {m : Int} {cr cx cy : Int → Int → Int} {r0 q : Int} {e e1 e2 : jC} (h : jLnA T m e e1 q ∨ jLnR T m cr cx cy r0 e e1 q) (g : jGo3 e1 e2) : jLnA T m e e2 q ∨ jLnR T m cr cx cy r0 e e2 q := by
  unfold jLnA jLnR at *
  rw [g.1 3 (by decide), g.1 4 (by decide), g.1 5 (by decide), g.1 6 (by decide)]
  exact h
theorem jLn_q {T : Int → Int} {m : Int} {cr cx cy : Int → Int → Int} (F : jCellF T m cr cx cy) {r0 q k : Int} {e e' : jC} (hs : jSd T m r0 k e) (h : jLnA T m e e' q ∨ jLnR T m cr cx cy r0 e e' q) : 0 ≤ q ∧ q ≤ m := by
  obtain ⟨a1, a2, a3, a4, a5, a6, a7, a8, a9⟩ := hs
  have m4 := a8.2.2.2.2.1
  have b0 := a8.2.2.1
  have hbu := jBl_b a8
  rcases h with ⟨l1, l2, g, l3, l4, l5, l6, l7, l8, l9, -⟩ | ⟨l1, l2, l3, l4, l5, l6, -⟩
  · have gb := l6 (e' 3 0) (by omega) (Int.le_refl _)
    have u := jBl_up (T := T) gb.1 gb.2 m4
    rw [l9]
    exact ⟨by have := u.1; omega, u.2.1⟩
  · have w1 := l2.1
    have s1 : jSlen 1 = 3 := rfl
    rw [s1] at w1
    have qb := jQ_b F (κ := e 4) (show 0 ≤ jBl T m (e 1 3) + 3 by omega) (by omega) (e 3 0).toNat (fun i i0 i1 => a3 i i0 (by omega)) (fun i i0 i1 => l5 i i0 (by omega))
    have u := jBl_up (T := T) (show 0 ≤ jQ cx (e 4) (jBl T m (e 1 3) + 3) (e 3 0).toNat by omega) qb.2 m4
    rw [l6]
    exact ⟨by have := u.1; omega, u.2.1⟩
theorem sp_cSheet {T : Int → Int} {m r0 : Int} {cr cx cy : Int → Int → Int} (F : jCellF T m cr cx cy) {C : jC} (h : jSd T m r0 0 C) (hr : C 41 1 = r0) (hr0 : 0 ≤ r0) {post : Int → jC → Prop}
    (y1 : ∀ (e : Int → jC) (L : Int) (C' : jC), 0 ≤ L → L < 14 → e 0 = C → jTr T m cr cx cy r0 e L → jSd T m r0 L (e L) → (jLnA T m (e L) C' m ∨ jLnR T m cr cx cy r0 (e L) C' m) → jXt C C' → jSd T m r0 (L + 1) C' → post 1 C')
    (y0 : ∀ (e : Int → jC) (L : Int) (C' : jC) (x : Int), 0 ≤ L → L ≤ 14 → e 0 = C → jTr T m cr cx cy r0 e L → jSd T m r0 L (e L) → ((L = 14 ∧ x = jBl T m ((e L) 1 3)) ∨ (L < 14 ∧ jLnF T m cr cx r0 (e L) x) ∨ (L < 14 ∧ x < m ∧ T x ≠ 59 ∧ ∃ e', (jLnA T m (e L) e' x ∨ jLnR T m cr cx cy r0 (e L) e' x))) → jXf C C' x → post 0 C') : jL2 (wp_9_readSheet_16 36 post) 0 C := by
  refine jL2_of (fun k E => 0 ≤ k ∧ k ≤ 14 ∧ jXt C E ∧ jSd T m r0 k E ∧ ∃ e : Int → jC, e 0 = C ∧ e k = E ∧ jTr T m cr cx cy r0 e k) (fun k _ => (14 - k).toNat) (fun K k E hi hk => ?_) ⟨by omega, by omega, jXt_r C, h, fun _ => C, rfl, rfl, fun j a b => by omega⟩
  obtain ⟨i0, i1, i2, i3, e, e0, ek, tr⟩ := hi
  have iCL := i3.2.2.2.2.2.2.2.1
  unfold wp_9_readSheet_16
  by_cases a : 14 ≤ k
  · rw [if_pos a]
    refine sp_cBl3 iCL (fun C1 g1 h1 => ?_)
    unfold wp_5_failHere
    rw [h1.2.1]
    refine ⟨by omega, y0 e k _ (jBl T m (E 1 3)) i0 i1 e0 tr (by rw [ek]; exact i3) (Or.inl ⟨by omega, by rw [ek]⟩) (jXf_bad (jXt_t i2 (jXt_go (jGo3_go g1))) (jBad_u _ _))⟩
  · rw [if_neg a, sp_rowsNow]
    simp only [Int.reduceAdd]
    rw [i2.1 41 (by omega), hr]
    refine sp_cLine F i3 (by omega) hr0 (fun C1 q p' ln t1 t2 t3 => ?_) (fun C1 x lf t1 => ?_)
    · rw [if_neg (by decide)]
      have qb := jLn_q F i3 ln
      have tb := t2.2.2.2.2.1
      have tb0 := t2.2.2.1
      have tb1 := t2.2.2.2.1
      have bb := jBl_bl (T := T) tb0 tb1 tb
      rw [t3] at bb
      refine sp_cOver t2 ?_ ?_
      · rw [t3]
        intro qm C2 g2 h2
        rw [if_neg (by decide)]
        subst qm
        have ln2 := jLn_go ln g2
        have c2 : jCL T q (C2 1 3) C2 := by rw [h2.2.1]; exact h2
        refine y1 e k C2 i0 (by omega) e0 tr (by rw [ek]; exact i3) (by rw [ek]; exact ln2) (jXt_t i2 (jXt_t t1 (jXt_go (jGo3_go g2)))) ?_
        rcases ln2 with z | z
        · exact jLnA_sd i3 z c2
        · exact jLnR_sd F i3 z c2
      · rw [t3]
        intro qm C2 g2 h2
        rw [if_pos rfl]
        refine sp_cSign h2 (by decide) (by decide) ?_ ?_
        · rw [bb]
          intro q1 q2 C3 g3 h3
          rw [if_neg (by decide)]
          have g23 := jGo3_t g2 g3
          have ln3 := jLn_go ln g23
          have c3 : jCL T m (C3 1 3) C3 := by rw [h3.2.1]; exact h3
          have sd3 : jSd T m r0 (k + 1) C3 := by
            rcases ln3 with z | z
            · exact jLnA_sd i3 z c3
            · exact jLnR_sd F i3 z c3
          obtain ⟨e', he⟩ : ∃ e' : Int → jC, ∀ j, e' j = if j = k + 1 then C3 else e j := ⟨_, fun _ => rfl⟩
          refine hk _ _ ⟨by omega, by omega, jXt_t i2 (jXt_t t1 (jXt_go (jGo3_go g23))), sd3, e', by rw [he, if_neg (by omega)]; exact e0, by rw [he, if_pos rfl], fun j j0 j1 => ?_⟩ (by omega)
          rw [he, he]
          by_cases ej : j = k
          · subst ej
            rw [if_neg (by omega), if_pos rfl, ek]
            exact ⟨i3, q, ln3, q1, q2, h3.2.1⟩
          · rw [if_neg (by omega), if_neg (by omega)]
            exact tr j j0 (by omega)
        · rw [bb]
          intro q1 C3 g3 h3
          rw [if_pos rfl]
          unfold wp_5_failHere
          rw [h3.2.1]
          refine ⟨by omega, y0 e k _ q i0 i1 e0 tr (by rw [ek]; exact i3) (Or.inr (Or.inr ⟨by omega, qm, fun z => q1 ⟨qm, z⟩, C1, by rw [ek]; exact ln⟩)) (jXf_bad (jXt_t i2 (jXt_t t1 (jXt_go (jGo3_go (jGo3_t g2 g3))))) (jBad_u _ _))⟩
    · rw [if_pos rfl]
      exact y0 e k C1 x i0 i1 e0 tr (by rw [ek]; exact i3) (Or.inr (Or.inl ⟨by omega, by rw [ek]; exact lf⟩)) (jXf_tx i2 t1)

theorem sp_mPass {T : Int → Int} {m p : Int} {D : jC} (h : jML T m p D) {q : Nat} (hq : q < 11) {post : Int → jC → Prop} (y1 : jWq T m (jBl T m p) q → ∀ D', jGoN D D' → jML T m (jBl T m p + jSlen q) D' → D' 345 9 = jBl T m p → post 1 D') (y0 : ¬ jWq T m (jBl T m p) q → ∀ D', jGoN D D' → jML T m (jBl T m p) D' → D' 345 9 = jBl T m p → post 0 D') : wp_12_passes q D post := by
  obtain ⟨s1, s2, s3⟩ := jSw_rng q hq
  have hb := jBl_m h
  obtain ⟨a1, a2, a3, a4, a5, a6⟩ := id h
  unfold wp_12_passes
  refine sp_mLetters h (fun D1 d1 d2 d3 => ?_)
  have hu := jLt_up (T := T) (show 0 ≤ jBl T m p by omega) hb.2 a5
  refine sp_mWordAt (by rw [d1.1 349 (by decide)]; exact a6) (by omega) hb.2 a5 d2 d3 hq (fun w => ?_) (fun w => ?_)
  · rw [if_neg (by decide)]
    have e := (jWq_lt (by omega) hb.2 a5 hq).mp w
    exact y1 w D1 d1 (jML_goN h d1 (by rw [d2]; omega) (by omega) (by have := hu.2.1; omega)) d3
  · rw [if_pos rfl, d3]
    exact y0 w _ (jGoN_t d1 (jGoN_u _ _ (Or.inl rfl))) (jML_goN h (jGoN_t d1 (jGoN_u _ _ (Or.inl rfl))) (by rw [jU_at, if_pos rfl, if_pos rfl]) (by omega) hb.2) (by rw [jU_at, if_pos rfl, if_neg (by decide), d3])
/-- a test of the model's, behind its nots -/
def jTb (c t n : Int) (post : Int → jC → Prop) (D : jC) : Prop := (0 ≤ (t + 0) ∧ (t + 0) < 8954 ∧ 0 ≤ (t + 1) ∧ (t + 1) < 8954 ∧
  wp_12_passes 7 (jU (jU D 346 (t + 0) (n.tmod 2)) 346 (t + 1) 0) (fun x13 C14 => (if x13 = 0 then (wp_12_isWords c C14 (fun x18 => (if x18 = 0 then (wp_12_signed (-999) C14 (fun x23 C24 => (if x23 = 0 then (post 0 C24) else
    ((0 ≤ (t + 2) ∧ (t + 2) < 8954 ∧ 0 ≤ (t + 3) ∧ (t + 3) < 8954 ∧ wp_12_passes 5 (jU (jU (jU C24 346 (t + 1) 1) 346 (t + 2) ((jU C24 346 (t + 1) 1) 345 10)) 346 (t + 3) ((jU (jU C24 346 (t + 1) 1) 346 (t + 2) ((jU C24 346 (t + 1) 1) 345 10)) 345 10)) (fun x37 C38 => (if x37 = 0 then (post 1 C38) else (wp_12_signed (C38 345 10) C38 (fun x42 C43 => ((x42 = 0 ∨ x42 = 1) ∧ post x42 (jU C43 346 (t + 3) (C43 345 10)))))))))))) else (wp_12_readPattern t C14 (fun x50 C51 => ((x50 = 0 ∨ x50 = 1) ∧ post x50 C51)))))) else (post 1 C14))))
/-- n nots, from p on; P their places -/
def jNt (T : Int → Int) (m p n : Int) (P : Int → Int) : Prop := 0 ≤ n ∧ n ≤ 4 ∧ P 0 = p ∧ (∀ i, 0 ≤ i → i ≤ n → 0 ≤ P i ∧ P i ≤ m ∧ p ≤ P i) ∧ (∀ i, 0 ≤ i → i < n → jWq T m (jBl T m (P i)) 6 ∧ P (i + 1) = jBl T m (P i) + 3) ∧ (n = 4 ∨ ¬ jWq T m (jBl T m (P n)) 6)
theorem sp_mNots {T : Int → Int} {m p n c t : Int} {P : Int → Int} (hn : jNt T m p n P) {D : jC} (h : jML T m p D) {post : Int → jC → Prop}
    (y1 : ¬ jWq T m (jBl T m (P n)) 6 → ∀ D', jGoN D D' → jML T m (jBl T m (P n)) D' → jTb c t n post D') (y0 : jWq T m (jBl T m (P n)) 6 → ∀ D', jGoN D D' → D' 345 9 = jBl T m (P n) → post 0 D') : wp_12_readTest c t D post := by
  obtain ⟨n0, n4, P0, Pb, Pw, Pe⟩ := hn
  have m4 := h.2.2.2.2.1
  have s6 : jSlen 6 = 3 := rfl
  unfold wp_12_readTest
  refine jL2_of (fun i E => 0 ≤ i ∧ i ≤ n ∧ jGoN D E ∧ jML T m (P i) E) (fun i _ => (n - i).toNat) (fun K i E hi hk => ?_) ⟨by omega, by omega, jGoN_r D, by rw [P0]; exact h⟩
  obtain ⟨i0, i1, i2, i3⟩ := hi
  unfold wp_12_readTest_2
  refine sp_mPass i3 (by decide) (fun w D' g1 g2 g3 => ?_) (fun w D' g1 g2 g3 => ?_)
  · rw [if_neg (by decide)]
    by_cases e : i = n
    · subst e
      have e4 : i = 4 := by
        rcases Pe with z | z
        · exact z
        · exact absurd w z
      rw [if_pos e4]
      exact y0 w D' (jGoN_t i2 g1) g3
    · rw [if_neg (by omega)]
      rw [s6] at g2
      exact ⟨⟨by omega, by omega⟩, hk _ _ ⟨by omega, by omega, jGoN_t i2 g1, by rw [(Pw i i0 (by omega)).2]; exact g2⟩ (by omega)⟩
  · rw [if_pos rfl]
    have e : i = n := by
      by_cases z : i = n
      · exact z
      · exact absurd (Pw i i0 (by omega)).1 w
    subst e
    exact y1 w D' (jGoN_t i2 g1) g2
/-- what the model makes of a test from p on -/
def jTM (T : Int → Int) (m p kind r x : Int) (R : Int → Int → Int → Int → Int → Prop) : Prop := ∀ (c t : Int) (D : jC) (post : Int → jC → Prop), 0 ≤ c → c < 5 → 298 ≤ t → t + 4 < 8954 → jML T m p D → D 346 (4 + c) = kind →
  (r = 1 → ∀ D', jGoW D D' → jML T m x D' → (∀ j, ¬ (t ≤ j ∧ j < t + 5) → D' 346 j = D 346 j) → R (D' 346 t) (D' 346 (t + 1)) (D' 346 (t + 2)) (D' 346 (t + 3)) (D' 346 (t + 4)) → post 1 D') → (r = 0 → ∀ D', jGoW D D' → D' 345 9 = x → (∀ j, ¬ (t ≤ j ∧ j < t + 5) → D' 346 j = D 346 j) → post 0 D') → wp_12_readTest c t D post
theorem sp_cNots {T : Int → Int} {m p : Int} {C : jC} (h : jCL T m p C) {post : Int → jC → Prop} (y : ∀ (n q : Int) (P : Int → Int) (C' : jC), jNt T m p n P → jGo3 C C' → jCL T m q C' → jBl T m q = jBl T m (P n) → post n C') : wp_9_takeNots C post := by
  have m4 := h.2.2.2.2.1
  have p0 := h.2.2.1
  have p1 := h.2.2.2.1
  have s6 : jSlen 6 = 3 := rfl
  unfold wp_9_takeNots
  refine jL2_of (fun i E => 0 ≤ i ∧ i ≤ 4 ∧ jGo3 C E ∧ ∃ P : Int → Int, P 0 = p ∧ (∀ j, 0 ≤ j → j ≤ i → 0 ≤ P j ∧ P j ≤ m ∧ p ≤ P j) ∧ (∀ j, 0 ≤ j → j < i → jWq T m (jBl T m (P j)) 6 ∧ P (j + 1) = jBl T m (P j) + 3) ∧ jCL T m (P i) E) (fun i _ => (4 - i).toNat) (fun K i E hi hk => ?_) ⟨by omega, by omega, ⟨fun _ _ => rfl, fun _ _ => rfl⟩, fun _ => p, rfl, fun j _ _ => ⟨p0, p1, Int.le_refl _⟩, fun j a b => by omega, h⟩
  obtain ⟨i0, i1, i2, P, P0, Pb, Pw, iL⟩ := hi
  unfold wp_9_takeNots_2
  by_cases a : 4 ≤ i
  · rw [if_pos a]
    exact y i (P i) P E ⟨i0, i1, P0, Pb, Pw, Or.inl (by omega)⟩ i2 iL rfl
  · rw [if_neg a]
    have bb := jBl_bl (T := T) iL.2.2.1 iL.2.2.2.1 m4
    have hbu := jBl_b iL
    refine sp_cTakeWord iL (by decide) (fun w C1 g1 h1 => ?_) (fun w C1 g1 h1 => ?_)
    · rw [if_neg (by decide)]
      rw [s6] at h1
      obtain ⟨P', eP⟩ : ∃ P' : Int → Int, ∀ j, P' j = if j = i + 1 then jBl T m (P i) + 3 else P j := ⟨_, fun _ => rfl⟩
      have pi := Pb i i0 (Int.le_refl _)
      refine hk _ _ ⟨by omega, by omega, jGo3_t i2 g1, P', by rw [eP, if_neg (by omega)]; exact P0, fun j j0 j1 => ?_, fun j j0 j1 => ?_, by rw [eP, if_pos rfl]; exact h1⟩ (by omega)
      · rw [eP]
        by_cases e : j = i + 1
        · rw [if_pos e]; exact ⟨h1.2.2.1, h1.2.2.2.1, by omega⟩
        · rw [if_neg e]; exact Pb j j0 (by omega)
      · rw [eP, eP]
        by_cases e : j = i
        · subst e
          rw [if_neg (by omega), if_pos rfl]
          exact ⟨w, rfl⟩
        · rw [if_neg (by omega), if_neg (by omega)]; exact Pw j j0 (by omega)
    · rw [if_pos rfl]
      exact y i _ P C1 ⟨i0, i1, P0, Pb, Pw, Or.inr w⟩ (jGo3_t i2 g1) h1 bb
theorem jWq_ne {T : Int → Int} {m b : Int} {q q' : Nat} (b0 : 0 ≤ b) (b1 : b ≤ m) (m4 : m ≤ 400) (hq : q < 11) (hq' : q' < 11) (hne : jSlen q ≠ jSlen q') (h : jWq T m b q) : ¬ jWq T m b q' := by
  intro h'
  have e := ((jWq_lt b0 b1 m4 hq).mp h).1
  have e' := ((jWq_lt b0 b1 m4 hq').mp h').1
  omega
theorem jWq_let {T : Int → Int} {m b : Int} {q : Nat} (hq : q < 11) (h : jWq T m b q) : b < m ∧ 97 ≤ T b ∧ T b ≤ 122 := by
  obtain ⟨l1, l2, l3⟩ := jSw_rng q hq
  have c0 := h.2.1 0 (by omega) (by omega)
  have s0 := l3 0 (by omega) (by omega)
  rw [Int.add_zero] at c0
  have := h.1
  exact ⟨by omega, by omega, by omega⟩
theorem jDg_0 {T : Int → Int} {m b : Int} (b0 : 0 ≤ b) (b1 : b ≤ m) (m4 : m ≤ 400) (h : 97 ≤ T b) (hm : b < m) : jDg T m b = b := by
  refine jUp_uniq (jDg_up b0 b1 m4) ⟨Int.le_refl _, b1, fun i a c => by omega, Or.inr ?_⟩
  unfold jIsD
  rw [if_neg (by omega)]
  decide
/-- one test of a filter: its nots, then blank, or what the column's kind asks (o: of numbers) -/
def jTst (f o : Int) (C : jC) (post : Int → jC → Prop) (post1 : jC → Prop) : Prop := wp_9_takeNots C (fun n C1 => wp_5_takeWord 7 C1 (fun x C2 => (if x = 0 then (if o = 0 then wp_9_readPattern f n C2 post else wp_9_readRange f n C2 post) else wp_1_takeTest f 0 0 0 n C2 post1)))
theorem sp_test2 {T : Int → Int} {m p p' f k kind o : Int} {C : jC} (h : jCL T m p C) (hp : jBl T m p' = jBl T m p) (pp0 : 0 ≤ p') (pp1 : p' ≤ m) (f1 : 10 ≤ f) (f2 : f + 4 < 35) (hk : C f 0 = k) (k0 : 0 ≤ k) (k6 : k < 6) (hkind : kind = 0 ∨ kind = 1) (o1 : kind = 0 → o = 1) (o0 : kind = 1 → o = 0) {post : Int → jC → Prop} {post1 : jC → Prop} (y2 : ∀ C' : jC, post 1 C' → post1 C')
    (y1 : ∀ (C' : jC) (x a b c d : Int), p ≤ x → jXt C C' → jCL T m x C' → jTa C C' f k a b c d → jTM T m p' kind 1 x (fun u1 u2 u3 u4 u5 => rTest kind a b c d u1 u2 u3 u4 u5) → post 1 C')
    (y0 : ∀ (C' : jC) (x : Int), jXf C C' x → jTM T m p' kind 0 x (fun _ _ _ _ _ => True) → post 0 C') : jTst f o C post post1 := by
  have m4 := h.2.2.2.2.1
  have s5 : jSlen 5 = 2 := rfl
  have s7 : jSlen 7 = 5 := rfl
  unfold jTst
  refine sp_cNots h (fun n q P C1 hn g1 h1 hq => ?_)
  obtain ⟨n0, n4, P0, Pb, Pw, Pe⟩ := id hn
  have Pn := Pb n n0 (Int.le_refl _)
  have bu := jBl_up (T := T) Pn.1 Pn.2.1 m4
  have bb := jBl_bl (T := T) Pn.1 Pn.2.1 m4
  have kk : C1 f 0 = k := by rw [g1.1 f (by omega)]; exact hk
  have x1 := jXt_go (jGo3_go g1)
  have qb := jBl_bl (T := T) h1.2.2.1 h1.2.2.2.1 m4
  rw [hq] at qb
  generalize hbb : jBl T m (P n) = b at *
  have b0 : 0 ≤ b := by have := bu.1; omega
  have b1 := bu.2.1
  have pb : p ≤ b := by have := bu.1; omega
  -- the model, as far as the nots
  have mn : ∀ (c t : Int) (D : jC) (post : Int → jC → Prop), jML T m p' D → (¬ jWq T m b 6 → ∀ D', jGoN D D' → jML T m b D' → jTb c t n post D') → (jWq T m b 6 → ∀ D', jGoN D D' → D' 345 9 = b → post 0 D') → wp_12_readTest c t D post := by
    intro c t D post hD z1 z0
    obtain ⟨P', eP⟩ : ∃ P' : Int → Int, ∀ i, P' i = if i = 0 then p' else P i := ⟨_, fun _ => rfl⟩
    have eb : ∀ i, 0 ≤ i → jBl T m (P' i) = jBl T m (P i) := by
      intro i i0
      rw [eP]
      by_cases e : i = 0
      · rw [if_pos e, hp, e, P0]
      · rw [if_neg e]
    have ple : p' ≤ jBl T m p := by
      rw [← hp]
      exact (jBl_up (T := T) pp0 pp1 m4).1
    have hn' : jNt T m p' n P' := by
      refine ⟨n0, n4, by rw [eP, if_pos rfl], fun i i0 i1 => ?_, fun i i0 i1 => ?_, ?_⟩
      · rw [eP]
        by_cases e : i = 0
        · rw [if_pos e]; exact ⟨pp0, pp1, Int.le_refl _⟩
        · rw [if_neg e]
          have q := Pb i i0 i1
          refine ⟨q.1, q.2.1, ?_⟩
          have w := (Pw (i - 1) (by omega) (by omega)).2
          rw [show i - 1 + 1 = i by omega] at w
          have q' := Pb (i - 1) (by omega) (by omega)
          have u := jBl_up (T := T) q'.1 q'.2.1 m4
          by_cases e1 : i = 1
          · subst e1
            rw [show (1 : Int) - 1 = 0 by omega, P0] at w
            omega
          · have w1 := (Pw 0 (by omega) (by omega)).2
            rw [P0, Int.zero_add] at w1
            have m1 : ∀ k : Nat, (k : Int) + 1 ≤ n → P 1 ≤ P (k + 1) := by
              intro k
              induction k with
              | zero => intro _; exact Int.le_refl _
              | succ k ih =>
                intro hk
                have i1 := ih (by omega)
                have w2 := (Pw (k + 1) (by omega) (by omega)).2
                have q2 := Pb (k + 1) (by omega) (by omega)
                have u2 := jBl_up (T := T) q2.1 q2.2.1 m4
                have u21 := u2.1
                rw [show ((k + 1 : Nat) : Int) + 1 = (k : Int) + 1 + 1 by omega, w2]
                omega
            have := m1 (i - 1).toNat (by omega)
            rw [show ((i - 1).toNat : Int) + 1 = i by omega] at this
            omega
      · rw [eb i i0, eP (i + 1), if_neg (by omega)]
        exact Pw i i0 i1
      · rw [eb n n0, hbb]; exact Pe
    refine sp_mNots hn' hD ?_ ?_
    · rw [eb n n0, hbb]; exact z1
    · rw [eb n n0, hbb]; exact z0
  have tm2 : n.tmod 2 = n % 2 := tmod_nn n0
  -- a state of the model with the head of the test written
  have hd : ∀ (t : Int) (D' : jC), jGoW D' (jU (jU D' 346 (t + 0) (n.tmod 2)) 346 (t + 1) 0) := fun t D' => jGoW_t (jGoW_U _ _ _) (jGoW_U _ _ _)
  have hv : ∀ (t : Int) (D' : jC) (j : Int), jU (jU D' 346 (t + 0) (n.tmod 2)) 346 (t + 1) 0 346 j = if j = t + 1 then 0 else if j = t then n % 2 else D' 346 j := fun t D' j => by rw [jU_at, if_pos rfl, jU_at, if_pos rfl, Int.add_zero, tm2]
  refine sp_cTakeWord h1 (by decide) (fun w C2 g2 h2 => ?_) (fun w C2 g2 h2 => ?_)
  · -- blank
    rw [if_neg (by decide)]
    rw [hq] at w h2
    rw [s7] at h2
    have g12 := jGo3_t g1 g2
    refine sp_takeTest f1 f2 (k := k) (by rw [g12.1 f (by omega)]; exact hk) k0 k6 (fun C3 t1 t2 => ?_)
    have xx : jXt C2 C3 := ⟨fun x hx => t1 x (by omega), by rw [t1 1 (by omega)], by rw [t1 1 (by omega)], t1 2 (by omega), by rw [t1 1 (by omega)]⟩
    refine y2 _ (y1 C3 (b + 5) 0 0 0 n (by omega) (jXt_t (jXt_go (jGo3_go g12)) xx) (jCL_tx h2 xx (by rw [t1 1 (by omega)]; exact h2.2.1) h2.2.2.1 h2.2.2.2.1) (jTa_go f1 (jGo3_go g12) t2) ?_)
    intro c t D post' c0 c1 t0 t9 hD hkd z1 z0
    refine mn c t D post' hD (fun _ D' e1 e2 => ?_) (fun w6 => absurd w6 (jWq_ne b0 b1 m4 (by decide) (by decide) (by decide) w))
    refine ⟨by omega, by omega, by omega, by omega, ?_⟩
    have hX := jML_W e2 (hd t D') (by rw [jU_ne (by decide), jU_ne (by decide)]; exact e2.2.1) b0 b1
    refine sp_mPass hX (by decide) ?_ ?_
    · rw [bb]
      intro _ D2 e3 e4 _
      rw [if_neg (by decide)]
      rw [s7] at e4
      have wD : ∀ j, D2 346 j = if j = t + 1 then 0 else if j = t then n % 2 else D 346 j := fun j => by rw [e3.1 346 (by decide), hv t D' j, e1.1 346 (by decide)]
      refine z1 rfl D2 (jGoW_t (jGoW_N e1) (jGoW_t (hd t D') (jGoW_N e3))) e4 (fun j hj => by rw [wD, if_neg (by omega), if_neg (by omega)]) ?_
      rw [wD t, wD (t + 1), if_neg (by omega), if_pos rfl, if_pos rfl]
      exact ⟨n0, n4, rfl, rfl, Or.inl rfl⟩
    · rw [bb]
      exact fun z => absurd w z
  · rw [hq] at w h2
    rw [if_pos rfl]
    have g12 := jGo3_t g1 g2
    have x12 := jXt_go (jGo3_go g12)
    have k2 : C2 f 0 = k := by rw [g12.1 f (by omega)]; exact hk
    -- the model behind "blank"
    have mb : ∀ (c t : Int) (D : jC) (post' : Int → jC → Prop), 0 ≤ c → c < 5 → 298 ≤ t → t + 4 < 8954 → jML T m p' D → D 346 (4 + c) = kind → (jWq T m b 6 → ∀ D', jGoN D D' → D' 345 9 = b → post' 0 D') → (¬ jWq T m b 6 → ∀ D2, jGoW D D2 → jML T m b D2 → (∀ j, D2 346 j = if j = t + 1 then 0 else if j = t then n % 2 else D 346 j) → (if kind = 0 then (wp_12_signed (-999) D2 (fun x23 C24 => (if x23 = 0 then (post' 0 C24) else
    ((0 ≤ (t + 2) ∧ (t + 2) < 8954 ∧ 0 ≤ (t + 3) ∧ (t + 3) < 8954 ∧ wp_12_passes 5 (jU (jU (jU C24 346 (t + 1) 1) 346 (t + 2) ((jU C24 346 (t + 1) 1) 345 10)) 346 (t + 3) ((jU (jU C24 346 (t + 1) 1) 346 (t + 2) ((jU C24 346 (t + 1) 1) 345 10)) 345 10)) (fun x37 C38 => (if x37 = 0 then (post' 1 C38) else (wp_12_signed (C38 345 10) C38 (fun x42 C43 => ((x42 = 0 ∨ x42 = 1) ∧ post' x42 (jU C43 346 (t + 3) (C43 345 10)))))))))))) else (wp_12_readPattern t D2 (fun x50 C51 => ((x50 = 0 ∨ x50 = 1) ∧ post' x50 C51))))) → wp_12_readTest c t D post' := by
      intro c t D post' c0 c1 t0 t9 hD hkd z6 z
      refine mn c t D post' hD (fun n6 D' e1 e2 => ?_) z6
      refine ⟨by omega, by omega, by omega, by omega, ?_⟩
      have hX := jML_W e2 (hd t D') (by rw [jU_ne (by decide), jU_ne (by decide)]; exact e2.2.1) b0 b1
      refine sp_mPass hX (by decide) ?_ ?_
      · rw [bb]
        exact fun q => absurd q w
      · rw [bb]
        intro _ D2 e3 e4 _
        rw [if_pos rfl]
        have wD : ∀ j, D2 346 j = if j = t + 1 then 0 else if j = t then n % 2 else D 346 j := fun j => by rw [e3.1 346 (by decide), hv t D' j, e1.1 346 (by decide)]
        have zz := z n6 D2 (jGoW_t (jGoW_N e1) (jGoW_t (hd t D') (jGoW_N e3))) e4 wD
        have kd2 : D2 346 (4 + c) = kind := by rw [wD, if_neg (by omega), if_neg (by omega)]; exact hkd
        rcases hkind with e | e
        · rw [sp_isWords0 c0 c1 (by rw [kd2]; exact e), if_pos rfl]
          rw [if_pos e] at zz; exact zz
        · rw [sp_isWords1 c0 c1 (by rw [kd2]; exact e), if_neg (by decide)]
          rw [if_neg (by omega)] at zz; exact zz
    have q2b := jBl_bl (T := T) h2.2.2.1 h2.2.2.2.1 m4
    rcases hkind with ek | ek
    · -- a range
      rw [if_neg (by have := o1 ek; omega)]
      unfold wp_9_readRange
      have fib := jFi_b (T := T) (mb := 1) b1
      have fu := jDg_up (T := T) (show 0 ≤ jFi T m b 1 by omega) fib.2.1 m4
      refine sp_cNum h2 (Or.inr rfl) ?_ ?_
      · rw [bb]
        intro d1 d3 C3 g3 h3 v3 _
        rw [if_neg (by decide)]
        have nw6 : ¬ jWq T m b 6 := by
          intro z
          have := jWq_let (by decide) z
          have ef : jFi T m b 1 = b := by unfold jFi; rw [if_neg (by omega)]
          rw [ef, jDg_0 b0 b1 m4 this.2.1 this.1] at d1
          omega
        have vEq : C3 1 5 = jVn T m b (jFi T m b 1) := v3
        have nr := jNum_rng (T := T) (m := m) (f := jFi T m b 1) (d := jDg T m (jFi T m b 1) - jFi T m b 1) (fun i i0 i1 => fu.2.2.1 i i0 (by omega)) (by omega) d3
        have vr : -999 ≤ jVn T m b (jFi T m b 1) ∧ jVn T m b (jFi T m b 1) ≤ 999 := by unfold jVn; split <;> omega
        generalize hv1 : jVn T m b (jFi T m b 1) = v1 at *
        generalize hz : jDg T m (jFi T m b 1) = z at *
        have z0' : 0 ≤ z := h3.2.2.1
        have x13 := jXt_t x12 (jXt_go g3)
        have zu := jBl_up (T := T) h3.2.2.1 h3.2.2.2.1 m4
        have zbb := jBl_bl (T := T) h3.2.2.1 h3.2.2.2.1 m4
        generalize hb2 : jBl T m z = b2 at *
        have k3 : C3 f 0 = k := by rw [g3.1 f (by omega)]; exact k2
        -- the model as far as "to"
        have mto : ∀ (t : Int) (D D2 : jC) (post' : Int → jC → Prop), 298 ≤ t → t + 4 < 8954 → jGoW D D2 → jML T m b D2 → (∀ j, D2 346 j = if j = t + 1 then 0 else if j = t then n % 2 else D 346 j) → (∀ D4, jGoW D D4 → jML T m z D4 → D4 345 10 = v1 → (∀ j, D4 346 j = if j = t + 3 then v1 else if j = t + 2 then v1 else if j = t + 1 then 1 else if j = t then n % 2 else D 346 j) → wp_12_passes 5 D4 (fun x37 C38 => (if x37 = 0 then (post' 1 C38) else (wp_12_signed (C38 345 10) C38 (fun x42 C43 => ((x42 = 0 ∨ x42 = 1) ∧ post' x42 (jU C43 346 (t + 3) (C43 345 10)))))))) → wp_12_signed (-999) D2 (fun x23 C24 => (if x23 = 0 then (post' 0 C24) else ((0 ≤ (t + 2) ∧ (t + 2) < 8954 ∧ 0 ≤ (t + 3) ∧ (t + 3) < 8954 ∧ wp_12_passes 5 (jU (jU (jU C24 346 (t + 1) 1) 346 (t + 2) ((jU C24 346 (t + 1) 1) 345 10)) 346 (t + 3) ((jU (jU C24 346 (t + 1) 1) 346 (t + 2) ((jU C24 346 (t + 1) 1) 345 10)) 345 10)) (fun x37 C38 => (if x37 = 0 then (post' 1 C38) else (wp_12_signed (C38 345 10) C38 (fun x42 C43 => ((x42 = 0 ∨ x42 = 1) ∧ post' x42 (jU C43 346 (t + 3) (C43 345 10))))))))))) := by
          intro t D D2 post' t0 t9 gD hD2 wD y
          refine sp_mSigned hD2 (by omega) (by omega) ?_ ?_
          · rw [bb, hz, hv1]
            intro _ _ _ D3 e1 e2 e3
            rw [if_neg (by decide)]
            have q10 : ∀ x, jU D3 346 (t + 1) x 345 10 = v1 := fun x => by rw [jU_ne (by decide)]; exact e3
            have q10' : ∀ x y, jU (jU D3 346 (t + 1) x) 346 (t + 2) y 345 10 = v1 := fun x y => by rw [jU_ne (by decide), jU_ne (by decide)]; exact e3
            rw [q10, q10']
            refine ⟨by omega, by omega, by omega, by omega, ?_⟩
            have gg : jGoW D3 (jU (jU (jU D3 346 (t + 1) 1) 346 (t + 2) v1) 346 (t + 3) v1) := jGoW_t (jGoW_U _ _ _) (jGoW_t (jGoW_U _ _ _) (jGoW_U _ _ _))
            refine y _ (jGoW_t gD (jGoW_t (jGoW_M e1) gg)) (jML_W e2 gg (by rw [jU_ne (by decide), jU_ne (by decide), jU_ne (by decide)]; exact e2.2.1) e2.2.2.1 e2.2.2.2.1) (by rw [jU_ne (by decide), jU_ne (by decide), jU_ne (by decide)]; exact e3) (fun j => ?_)
            rw [jU_at, if_pos rfl, jU_at, if_pos rfl, jU_at, if_pos rfl, e1.1 346 (by decide), wD]
            by_cases q1 : j = t + 3
            · rw [if_pos q1, if_pos q1]
            rw [if_neg q1, if_neg q1]
            by_cases q2 : j = t + 2
            · rw [if_pos q2, if_pos q2]
            rw [if_neg q2, if_neg q2]
            by_cases q3 : j = t + 1
            · rw [if_pos q3, if_pos q3]
            rw [if_neg q3, if_neg q3, if_neg q3]
          · rw [bb, hz, hv1]
            exact fun q => absurd ⟨d1, d3, vr.1⟩ q
        refine sp_cTakeWord h3 (by decide) ?_ ?_
        · rw [hb2]
          intro w5 C4 g4 h4
          rw [if_neg (by decide)]
          rw [s5] at h4
          have x14 := jXt_t x13 (jXt_go (jGo3_go g4))
          have b3u := jBl_up (T := T) h4.2.2.1 h4.2.2.2.1 m4
          have fib3 := jFi_b (T := T) (mb := 1) (show jBl T m (b2 + 2) ≤ m from b3u.2.1)
          have b30 : 0 ≤ jBl T m (b2 + 2) := by have := b3u.1; have := h4.2.2.1; omega
          have fu3 := jDg_up (T := T) (show 0 ≤ jFi T m (jBl T m (b2 + 2)) 1 by omega) fib3.2.1 m4
          have bb3 := jBl_bl (T := T) h4.2.2.1 h4.2.2.2.1 m4
          have k4 : C4 f 0 = k := by rw [g4.1 f (by omega)]; exact k3
          -- the model as far as the second number
          have msec : ∀ (t : Int) (D4 : jC) (q : Int → jC → Prop), jML T m z D4 → D4 345 10 = v1 → (∀ D5, jGoN D4 D5 → jML T m (b2 + 2) D5 → D5 345 10 = v1 → wp_12_signed v1 D5 (fun x42 C43 => ((x42 = 0 ∨ x42 = 1) ∧ q x42 (jU C43 346 (t + 3) (C43 345 10))))) → wp_12_passes 5 D4 (fun x37 C38 => (if x37 = 0 then (q 1 C38) else (wp_12_signed (C38 345 10) C38 (fun x42 C43 => ((x42 = 0 ∨ x42 = 1) ∧ q x42 (jU C43 346 (t + 3) (C43 345 10))))))) := by
            intro t D4 q hD4 e10 y
            refine sp_mPass hD4 (by decide) ?_ ?_
            · rw [hb2]
              intro _ D5 e1 e2 _
              rw [if_neg (by decide)]
              rw [s5] at e2
              have t10 : D5 345 10 = v1 := by rw [e1.2 10 (by decide) (by decide)]; exact e10
              rw [t10]
              exact y D5 e1 e2 t10
            · rw [hb2]
              exact fun q => absurd w5 q
          refine sp_cNum h4 (Or.inr rfl) ?_ ?_
          · intro d5 d6 C5 g5 h5 v5 b5
            rw [if_neg (by decide)]
            have v2Eq : C5 1 5 = jVn T m (jBl T m (b2 + 2)) (jFi T m (jBl T m (b2 + 2)) 1) := v5
            have nr3 := jNum_rng (T := T) (m := m) (f := jFi T m (jBl T m (b2 + 2)) 1) (d := jDg T m (jFi T m (jBl T m (b2 + 2)) 1) - jFi T m (jBl T m (b2 + 2)) 1) (fun i i0 i1 => fu3.2.2.1 i i0 (by omega)) (by omega) d6
            have vr3 : -999 ≤ jVn T m (jBl T m (b2 + 2)) (jFi T m (jBl T m (b2 + 2)) 1) ∧ jVn T m (jBl T m (b2 + 2)) (jFi T m (jBl T m (b2 + 2)) 1) ≤ 999 := by unfold jVn; split <;> omega
            rw [vEq, v2Eq]
            have x15 := jXt_t x14 (jXt_go g5)
            by_cases le : v1 ≤ jVn T m (jBl T m (b2 + 2)) (jFi T m (jBl T m (b2 + 2)) 1)
            · rw [if_pos le]
              refine sp_takeTest f1 f2 (k := k) (by rw [g5.1 f (by omega)]; exact k4) k0 k6 (fun C6 t1 t2 => ?_)
              have xx : jXt C5 C6 := ⟨fun x hx => t1 x (by omega), by rw [t1 1 (by omega)], by rw [t1 1 (by omega)], t1 2 (by omega), by rw [t1 1 (by omega)]⟩
              refine y1 C6 _ 1 v1 (jVn T m (jBl T m (b2 + 2)) (jFi T m (jBl T m (b2 + 2)) 1)) n ?_ (jXt_t x15 xx) (jCL_tx h5 xx (by rw [t1 1 (by omega)]; exact h5.2.1) h5.2.2.1 h5.2.2.2.1) (jTa_go f1 (jGo_t (jGo3_go g12) (jGo_t g3 (jGo_t (jGo3_go g4) g5))) t2) ?_
              · have := fu3.1; have := b3u.1; have := zu.1; have := fu.1; omega
              · intro c t D post' c0 c1 t0 t9 hD hkd z1 z0
                refine mb c t D post' c0 c1 t0 t9 hD hkd (fun q => absurd q nw6) (fun _ D2 e1 e2 wD => ?_)
                rw [if_pos ek]
                refine mto t D D2 post' t0 t9 e1 e2 wD (fun D4 q1 q2 q3 q4 => ?_)
                refine msec t D4 post' q2 q3 (fun D5 r1 r2 r3 => ?_)
                refine sp_mSigned r2 vr.1 vr.2 (fun _ _ _ D6 s1 s2 s3 => ⟨Or.inr rfl, ?_⟩) (fun q => absurd ⟨d5, d6, le⟩ q)
                have g6 : jGoW D6 (jU D6 346 (t + 3) (D6 345 10)) := jGoW_U _ _ _
                have w6 : ∀ j, jU D6 346 (t + 3) (D6 345 10) 346 j = if j = t + 3 then jVn T m (jBl T m (b2 + 2)) (jFi T m (jBl T m (b2 + 2)) 1) else if j = t + 2 then v1 else if j = t + 1 then 1 else if j = t then n % 2 else D 346 j := by
                  intro j
                  rw [jU_at, if_pos rfl, s3, s1.1 346 (by decide), r1.1 346 (by decide), q4]
                  by_cases q1 : j = t + 3
                  · rw [if_pos q1, if_pos q1]
                  · rw [if_neg q1, if_neg q1, if_neg q1]
                refine z1 rfl _ (jGoW_t q1 (jGoW_t (jGoW_N r1) (jGoW_t (jGoW_M s1) g6))) (jML_W s2 g6 (by rw [jU_ne (by decide)]; exact s2.2.1) s2.2.2.1 s2.2.2.2.1) (fun j hj => by rw [w6, if_neg (by omega), if_neg (by omega), if_neg (by omega), if_neg (by omega)]) ?_
                rw [w6 t, w6 (t + 1), w6 (t + 2), w6 (t + 3), if_neg (by omega), if_neg (by omega), if_neg (by omega), if_pos rfl, if_neg (by omega), if_neg (by omega), if_pos rfl, if_neg (by omega), if_pos rfl, if_pos rfl]
                exact ⟨n0, n4, rfl, rfl, Or.inr (Or.inl ⟨rfl, ek, rfl, rfl, vr.1, vr.2, vr3.1, vr3.2⟩)⟩
            · rw [if_neg le]
              unfold wp_5_failAt
              rw [b5]
              refine ⟨Or.inl rfl, y0 _ _ (jXf_bad x15 (jBad_u _ _)) ?_⟩
              intro c t D post' c0 c1 t0 t9 hD hkd z1 z0
              refine mb c t D post' c0 c1 t0 t9 hD hkd (fun q => absurd q nw6) (fun _ D2 e1 e2 wD => ?_)
              rw [if_pos ek]
              refine mto t D D2 post' t0 t9 e1 e2 wD (fun D4 q1 q2 q3 q4 => ?_)
              refine msec t D4 post' q2 q3 (fun D5 r1 r2 r3 => ?_)
              refine sp_mSigned r2 vr.1 vr.2 (fun _ _ q => absurd q le) (fun _ D6 s1 s2 => ⟨Or.inl rfl, ?_⟩)
              rw [if_neg (by omega)] at s2
              refine z0 rfl _ (jGoW_t q1 (jGoW_t (jGoW_N r1) (jGoW_t (jGoW_M s1) (jGoW_U _ _ _)))) (by rw [jU_ne (by decide)]; exact s2) (fun j hj => ?_)
              rw [jU_at, if_pos rfl, if_neg (by omega), s1.1 346 (by decide), r1.1 346 (by decide), q4, if_neg (by omega), if_neg (by omega), if_neg (by omega), if_neg (by omega)]
          · intro nd C5 g5
            rw [if_pos rfl]
            refine y0 C5 _ (jXf_bad x14 g5) ?_
            intro c t D post' c0 c1 t0 t9 hD hkd z1 z0
            refine mb c t D post' c0 c1 t0 t9 hD hkd (fun q => absurd q nw6) (fun _ D2 e1 e2 wD => ?_)
            rw [if_pos ek]
            refine mto t D D2 post' t0 t9 e1 e2 wD (fun D4 q1 q2 q3 q4 => ?_)
            refine msec t D4 post' q2 q3 (fun D5 r1 r2 r3 => ?_)
            refine sp_mSigned r2 vr.1 vr.2 (fun q1 q2 => absurd ⟨q1, q2⟩ nd) (fun _ D6 s1 s2 => ⟨Or.inl rfl, ?_⟩)
            refine z0 rfl _ (jGoW_t q1 (jGoW_t (jGoW_N r1) (jGoW_t (jGoW_M s1) (jGoW_U _ _ _)))) (by rw [jU_ne (by decide)]; exact s2) (fun j hj => ?_)
            rw [jU_at, if_pos rfl, if_neg (by omega), s1.1 346 (by decide), r1.1 346 (by decide), q4, if_neg (by omega), if_neg (by omega), if_neg (by omega), if_neg (by omega)]
        · rw [hb2]
          intro w5 C4 g4 h4
          rw [if_pos rfl]
          have v4 : C4 1 5 = v1 := by rw [g4.2 5 (by decide)]; exact vEq
          rw [vEq, v4]
          refine sp_takeTest f1 f2 (k := k) (by rw [g4.1 f (by omega)]; exact k3) k0 k6 (fun C6 t1 t2 => ?_)
          have xx : jXt C4 C6 := ⟨fun x hx => t1 x (by omega), by rw [t1 1 (by omega)], by rw [t1 1 (by omega)], t1 2 (by omega), by rw [t1 1 (by omega)]⟩
          refine y1 C6 b2 1 v1 v1 n ?_ (jXt_t x13 (jXt_t (jXt_go (jGo3_go g4)) xx)) (jCL_tx h4 xx (by rw [t1 1 (by omega)]; exact h4.2.1) h4.2.2.1 h4.2.2.2.1) (jTa_go f1 (jGo_t (jGo3_go g12) (jGo_t g3 (jGo3_go g4))) t2) ?_
          · have := zu.1; have := fu.1; omega
          · intro c t D post' c0 c1 t0 t9 hD hkd z1 z0
            refine mb c t D post' c0 c1 t0 t9 hD hkd (fun q => absurd q nw6) (fun _ D2 e1 e2 wD => ?_)
            rw [if_pos ek]
            refine mto t D D2 post' t0 t9 e1 e2 wD (fun D4 q1 q2 q3 q4 => ?_)
            refine sp_mPass q2 (by decide) ?_ ?_
            · rw [hb2]
              exact fun q => absurd q w5
            · rw [hb2]
              intro _ D5 r1 r2 _
              rw [if_pos rfl]
              have w5' : ∀ j, D5 346 j = if j = t + 3 then v1 else if j = t + 2 then v1 else if j = t + 1 then 1 else if j = t then n % 2 else D 346 j := fun j => by rw [r1.1 346 (by decide)]; exact q4 j
              refine z1 rfl D5 (jGoW_t q1 (jGoW_N r1)) r2 (fun j hj => by rw [w5', if_neg (by omega), if_neg (by omega), if_neg (by omega), if_neg (by omega)]) ?_
              rw [w5' t, w5' (t + 1), w5' (t + 2), w5' (t + 3), if_neg (by omega), if_neg (by omega), if_neg (by omega), if_pos rfl, if_neg (by omega), if_neg (by omega), if_pos rfl, if_neg (by omega), if_pos rfl, if_pos rfl]
              exact ⟨n0, n4, rfl, rfl, Or.inr (Or.inl ⟨rfl, ek, rfl, rfl, vr.1, vr.2, vr.1, vr.2⟩)⟩
      · rw [bb]
        intro nd C3 g3
        rw [if_pos rfl]
        refine y0 C3 _ (jXf_bad x12 g3) ?_
        intro c t D post' c0 c1 t0 t9 hD hkd z1 z0
        refine mb c t D post' c0 c1 t0 t9 hD hkd (fun w6 D' e1 e2 => ?_) (fun _ D2 e1 e2 wD => ?_)
        · have lt := jWq_let (by decide) w6
          have ef : jFi T m b 1 = b := by unfold jFi; rw [if_neg (by omega)]
          refine z0 rfl D' (jGoW_N e1) ?_ (fun j _ => by rw [e1.1 346 (by decide)])
          rw [e2, ef, jDg_0 b0 b1 m4 lt.2.1 lt.1, if_pos (by omega)]
        · rw [if_pos ek]
          refine sp_mSigned e2 (by omega) (by omega) ?_ ?_
          · rw [bb]
            exact fun q1 q2 => absurd ⟨q1, q2⟩ nd
          · rw [bb]
            intro _ D3 s1 s2
            rw [if_pos rfl]
            exact z0 rfl D3 (jGoW_t e1 (jGoW_M s1)) s2 (fun j hj => by rw [s1.1 346 (by decide), wD, if_neg (by omega), if_neg (by omega)])
    · -- a pattern
      rw [if_pos (o0 ek)]
      have pu := jPr_up (T := T) b0 b1 m4
      refine sp_cPat h2 f1 f2 k2 k0 k6 ?_ ?_
      · rw [bb]
        intro p1 p2 p3 C3 g3 h3 t3
        refine y1 C3 _ 2 _ _ n ?_ (jXt_t x12 g3) h3 (jTa_go f1 (jGo3_go g12) t3) ?_
        · have := pu.1
          have : 0 ≤ jStr01 T m (jPr T m b) := by unfold jStr01; split <;> omega
          omega
        · intro c t D post' c0 c1 t0 t9 hD hkd z1 z0
          refine mb c t D post' c0 c1 t0 t9 hD hkd (fun q => absurd (Or.inr (Or.inr (Or.inl q))) p1) (fun _ D2 e1 e2 wD => ?_)
          rw [if_neg (by omega)]
          refine sp_mPat e2 (by omega) t9 (by rw [bb]; exact w) ?_ ?_
          · rw [bb]
            intro _ _ _ D3 s1 s2 s3 s4 s5 s6 s7
            refine ⟨Or.inr rfl, z1 rfl D3 (jGoW_t e1 s1) s2 (fun j hj => by rw [s3 j (by omega), wD, if_neg (by omega), if_neg (by omega)]) ?_⟩
            rw [s4, s5, s6, s7, s3 t (by omega), wD, if_neg (by omega), if_pos rfl]
            refine ⟨n0, n4, rfl, rfl, Or.inr (Or.inr ⟨rfl, ek, jPat_ok (fun i a c => pu.2.2.1 _ (by omega) (by omega)) (by have := pu.1; omega) p2, rfl, ?_, ?_⟩)⟩
            · unfold jStr01; split <;> simp
            · omega
          · rw [bb]
            exact fun q => absurd ⟨p1, p2, p3⟩ q
      · rw [bb]
        intro nd C3 g3
        refine y0 C3 b (jXf_tx x12 g3) ?_
        intro c t D post' c0 c1 t0 t9 hD hkd z1 z0
        refine mb c t D post' c0 c1 t0 t9 hD hkd (fun w6 D' e1 e2 => z0 rfl D' (jGoW_N e1) e2 (fun j _ => by rw [e1.1 346 (by decide)])) (fun _ D2 e1 e2 wD => ?_)
        rw [if_neg (by omega)]
        refine sp_mPat e2 (by omega) t9 (by rw [bb]; exact w) ?_ ?_
        · rw [bb]
          exact fun q1 q2 q3 => absurd ⟨q1, q2, q3⟩ nd
        · rw [bb]
          intro _ D3 s1 s2 s3
          exact ⟨Or.inl rfl, z0 rfl D3 (jGoW_t e1 s1) s2 (fun j hj => by rw [s3 j (by omega), wD, if_neg (by omega), if_neg (by omega)])⟩

-- signs, words and numbers
def jGo3 (C C' : jC) : Prop := (∀ b, b ≠ 1 → C' b = C b) ∧ (∀ j, j ≠ 3 → C' 1 j = C 1 j)
theorem jGo3_go {C C' : jC} (h : jGo3 C C') : jGo C C' := ⟨h.1, fun j a _ _ => h.2 j a⟩
theorem jGo3_t {A B C : jC} (h : jGo3 A B) (h' : jGo3 B C) : jGo3 A C := ⟨fun b hb => by rw [h'.1 b hb, h.1 b hb], fun j a => by rw [h'.2 j a, h.2 j a]⟩
theorem jGo3_u (C : jC) (v : Int) : jGo3 C (jU C 1 3 v) := ⟨fun b hb => jU_ne hb, fun j a => by rw [jU_at, if_pos rfl, if_neg a]⟩
/-- the reader has failed, at x -/
def jBad (C C' : jC) (x : Int) : Prop := (∀ b, b ≠ 1 → C' b = C b) ∧ C' 1 1 = C 1 1 ∧ C' 1 2 = C 1 2 ∧ C' 1 4 = x
theorem jBad_go {A B C : jC} {x : Int} (h : jGo A B) (h' : jBad B C x) : jBad A C x := ⟨fun b hb => by rw [h'.1 b hb, h.1 b hb], by rw [h'.2.1, h.2 1 (by decide) (by decide) (by decide)], by rw [h'.2.2.1, h.2 2 (by decide) (by decide) (by decide)], h'.2.2.2⟩
theorem jBad_u (C : jC) (x : Int) : jBad C (jU C 1 4 x) x := ⟨fun b hb => jU_ne hb, by rw [jU_at, if_pos rfl, if_neg (by decide)], by rw [jU_at, if_pos rfl, if_neg (by decide)], by rw [jU_at, if_pos rfl, if_pos rfl]⟩
theorem jBl_b {T : Int → Int} {m p : Int} {C : jC} (h : jCL T m p C) : p ≤ jBl T m p ∧ jBl T m p ≤ m := by
  obtain ⟨a1, a2, a3, a4, a5, a6⟩ := h
  have := jBl_up (T := T) a3 a4 a5
  exact ⟨this.1, this.2.1⟩
theorem jBl_m {T : Int → Int} {m p : Int} {C : jC} (h : jML T m p C) : p ≤ jBl T m p ∧ jBl T m p ≤ m := by
  obtain ⟨a1, a2, a3, a4, a5, a6⟩ := h
  have := jBl_up (T := T) a3 a4 a5
  exact ⟨this.1, this.2.1⟩
theorem sp_cBl3 {T : Int → Int} {m p : Int} {C : jC} (h : jCL T m p C) {post : jC → Prop} (y : ∀ C', jGo3 C C' → jCL T m (jBl T m p) C' → post C') : wp_5_skipBlanks C post := by
  refine sp_cBlanks h (fun C' g1 g2 g3 => y C' ⟨g1.1, g3⟩ (jCL_go h g1 g2 ?_ (jBl_b h).2))
  have := (jBl_b h).1
  have := h.2.2.1
  omega
theorem sp_cTakeWord {T : Int → Int} {m p : Int} {C : jC} (h : jCL T m p C) {q : Nat} (hq : q < 11) {post : Int → jC → Prop} (y1 : jWq T m (jBl T m p) q → ∀ C', jGo3 C C' → jCL T m (jBl T m p + jSlen q) C' → post 1 C') (y0 : ¬ jWq T m (jBl T m p) q → ∀ C', jGo3 C C' → jCL T m (jBl T m p) C' → post 0 C') : wp_5_takeWord q C post := by
  obtain ⟨s1, s2, s3⟩ := jSw_rng q hq
  unfold wp_5_takeWord
  refine sp_cBl3 h (fun C1 g1 h1 => ?_)
  refine sp_cWord h1 hq (fun w => ?_) (fun w => ?_)
  · rw [if_neg (by decide), h1.2.1]
    have hm := h1.2.2.2.2.1
    have h0 := h1.2.2.1
    have w1 := w.1
    refine ⟨⟨by omega, by omega⟩, y1 w _ (jGo3_t g1 (jGo3_u _ _)) (jCL_go h1 (jGo3_go (jGo3_u _ _)) (by rw [jU_at, if_pos rfl, if_pos rfl]) (by omega) (by omega))⟩
  · rw [if_pos rfl]
    exact y0 w C1 g1 h1
theorem sp_mPasses {T : Int → Int} {m p : Int} {D : jC} (h : jML T m p D) {q : Nat} (hq : q < 11) {post : Int → jC → Prop} (y1 : jWq T m (jBl T m p) q → ∀ D', jGoN D D' → jML T m (jBl T m p + jSlen q) D' → post 1 D') (y0 : ¬ jWq T m (jBl T m p) q → ∀ D', jGoN D D' → jML T m (jBl T m p) D' → D' 345 9 = jBl T m p → post 0 D') : wp_12_passes q D post := by
  obtain ⟨s1, s2, s3⟩ := jSw_rng q hq
  have hb := jBl_m h
  obtain ⟨a1, a2, a3, a4, a5, a6⟩ := id h
  unfold wp_12_passes
  refine sp_mLetters h (fun D1 d1 d2 d3 => ?_)
  have hu := jLt_up (T := T) (show 0 ≤ jBl T m p by omega) hb.2 a5
  refine sp_mWordAt (by rw [d1.1 349 (by decide)]; exact a6) (by omega) hb.2 a5 d2 d3 hq (fun w => ?_) (fun w => ?_)
  · rw [if_neg (by decide)]
    have e := (jWq_lt (by omega) hb.2 a5 hq).mp w
    exact y1 w D1 d1 (jML_goN h d1 (by rw [d2]; omega) (by omega) (by have := hu.2.1; omega))
  · rw [if_pos rfl, d3]
    exact y0 w _ (jGoN_t d1 (jGoN_u _ _ (Or.inl rfl))) (jML_goN h (jGoN_t d1 (jGoN_u _ _ (Or.inl rfl))) (by rw [jU_at, if_pos rfl, if_pos rfl]) (by omega) hb.2) (by rw [jU_at, if_pos rfl, if_neg (by decide), d3])
theorem sp_byteAt {T : Int → Int} {m p : Int} {C : jC} (h : jCL T m p C) {i : Int} (i0 : 0 ≤ i) {post : Int → Prop} : wp_5_byteAt i C post = post (if i < m then jUb (T i) else -1) := by
  obtain ⟨a1, a2, a3, a4, a5, a6⟩ := h
  unfold wp_5_byteAt
  rw [if_neg (by omega), a1]
  by_cases c : m ≤ i
  · rw [if_pos c, if_neg (by omega)]
  · rw [if_neg c, if_pos (by omega), (a6 i i0 (by omega)).1]
    exact propext ⟨fun z => z.2, fun z => ⟨by omega, z⟩⟩
theorem sp_cSign {T : Int → Int} {m p s : Int} {C : jC} (h : jCL T m p C) (s0 : 0 ≤ s) (s1 : s < 128) {post : Int → jC → Prop} (y1 : jBl T m p < m → T (jBl T m p) = s → ∀ C', jGo3 C C' → jCL T m (jBl T m p + 1) C' → post 1 C') (y0 : ¬ (jBl T m p < m ∧ T (jBl T m p) = s) → ∀ C', jGo3 C C' → jCL T m (jBl T m p) C' → post 0 C') : wp_5_takeSign s C post := by
  unfold wp_5_takeSign
  refine sp_cBl3 h (fun C1 g1 h1 => ?_)
  obtain ⟨a1, a2, a3, a4, a5, a6⟩ := id h1
  rw [a2, sp_byteAt h1 a3]
  by_cases c : jBl T m p < m ∧ T (jBl T m p) = s
  · obtain ⟨b1, b2, b3⟩ := a6 _ a3 c.1
    have : (if jBl T m p < m then jUb (T (jBl T m p)) else -1) = s := by rw [if_pos c.1]; exact (jUb_eq b2 b3 s0 s1).mpr c.2
    rw [if_pos this]
    exact ⟨⟨by omega, by omega⟩, y1 c.1 c.2 _ (jGo3_t g1 (jGo3_u _ _)) (jCL_go h1 (jGo3_go (jGo3_u _ _)) (by rw [jU_at, if_pos rfl, if_pos rfl]) (by omega) (by omega))⟩
  · have : ¬ (if jBl T m p < m then jUb (T (jBl T m p)) else -1) = s := by
      by_cases d : jBl T m p < m
      · obtain ⟨b1, b2, b3⟩ := a6 _ a3 d
        rw [if_pos d]
        exact fun z => c ⟨d, (jUb_eq b2 b3 s0 s1).mp z⟩
      · rw [if_neg d]; omega
    rw [if_neg this]
    exact y0 c C1 g1 h1
theorem sp_mSign {T : Int → Int} {m p s : Int} {D : jC} (h : jML T m p D) {post : Int → jC → Prop} (y1 : jBl T m p < m → T (jBl T m p) = s → ∀ D', jGoN D D' → jML T m (jBl T m p + 1) D' → post 1 D') (y0 : ¬ (jBl T m p < m ∧ T (jBl T m p) = s) → ∀ D', jGoN D D' → jML T m (jBl T m p) D' → D' 345 9 = jBl T m p → post 0 D') : wp_12_sign s D post := by
  have hb := jBl_m h
  have a3 := h.2.2.1
  unfold wp_12_sign
  refine sp_mBlanks h (fun D1 d1 d2 d3 => ?_)
  have h1 := jML_goN h d1 d2 (by omega) hb.2
  by_cases c : jBl T m p < m ∧ T (jBl T m p) = s
  · rw [sp_isAt1 h1 ⟨c.1, by omega, by omega⟩, if_neg (by decide), d2]
    have a5 := h.2.2.2.2.1
    exact ⟨⟨by omega, by omega⟩, y1 c.1 c.2 _ (jGoN_t d1 (jGoN_u _ _ (Or.inl rfl))) (jML_goN h (jGoN_t d1 (jGoN_u _ _ (Or.inl rfl))) (by rw [jU_at, if_pos rfl, if_pos rfl]) (by omega) (by omega))⟩
  · rw [sp_isAt0 h1 (fun z => c ⟨z.1, by omega⟩), if_pos rfl]
    exact y0 c D1 d1 h1 d3
theorem sp_cOver {T : Int → Int} {m p : Int} {C : jC} (h : jCL T m p C) {post : Int → jC → Prop} (y1 : jBl T m p = m → ∀ C', jGo3 C C' → jCL T m (jBl T m p) C' → post 1 C') (y0 : jBl T m p < m → ∀ C', jGo3 C C' → jCL T m (jBl T m p) C' → post 0 C') : wp_5_isOver C post := by
  have hb := jBl_b h
  unfold wp_5_isOver
  refine sp_cBl3 h (fun C1 g1 h1 => ?_)
  rw [h1.1, h1.2.1]
  by_cases c : jBl T m p < m
  · rw [if_pos c]; exact y0 c C1 g1 h1
  · rw [if_neg c]; exact y1 (by omega) C1 g1 h1
def jNum (T : Int → Int) (f d : Int) : Int := jFold (fun i a => 10 * a + T (f + i) - 48) 0 d.toNat
theorem jNum_s {T : Int → Int} {f d : Int} (h : 0 ≤ d) : jNum T f (d + 1) = 10 * jNum T f d + T (f + d) - 48 := jFold_s h
theorem jNum_0 (T : Int → Int) (f : Int) : jNum T f 0 = 0 := rfl
theorem jNum_rng {T : Int → Int} {m f : Int} {d : Int} (hd : ∀ i, f ≤ i → i < f + d → jIsD T i = 1) (d0 : 0 ≤ d) (d3 : d ≤ 3) : 0 ≤ jNum T f d ∧ jNum T f d ≤ 999 := by
  have dg : ∀ i, 0 ≤ i → i < d → 48 ≤ T (f + i) ∧ T (f + i) ≤ 57 := by
    intro i a b
    have := hd (f + i) (by omega) (by omega)
    unfold jIsD at this
    split at this
    · assumption
    · omega
  have e1 := jNum_s (T := T) (f := f) (d := 0) (by omega)
  have e2 := jNum_s (T := T) (f := f) (d := 1) (by omega)
  have e3 := jNum_s (T := T) (f := f) (d := 2) (by omega)
  rw [jNum_0] at e1
  simp only [Int.reduceAdd] at e1 e2 e3
  have hd : d = 0 ∨ d = 1 ∨ d = 2 ∨ d = 3 := by omega
  rcases hd with rfl | rfl | rfl | rfl
  · rw [jNum_0]; omega
  · have := dg 0 (by omega) (by omega); omega
  · have := dg 0 (by omega) (by omega); have := dg 1 (by omega) (by omega); omega
  · have := dg 0 (by omega) (by omega); have := dg 1 (by omega) (by omega); have := dg 2 (by omega) (by omega); omega
theorem sp_isDigit {T : Int → Int} {m p : Int} {C : jC} (h : jCL T m p C) {i : Int} (i0 : 0 ≤ i) {post : Int → Prop} : wp_5_isDigitAt i C post = post (if i < m ∧ jIsD T i = 1 then 1 else 0) := by
  obtain ⟨a1, a2, a3, a4, a5, a6⟩ := h
  unfold wp_5_isDigitAt
  rw [if_neg (by omega), a1]
  by_cases c : m ≤ i
  · rw [if_pos c, if_neg (by omega)]
  · obtain ⟨b1, b2, b3⟩ := a6 i i0 (by omega)
    have e : jIsD T i = 1 ↔ (48 ≤ jUb (T i) ∧ jUb (T i) ≤ 57) := by
      unfold jIsD jUb
      split <;> split <;> omega
    rw [if_neg c, b1]
    by_cases d : jUb (T i) < 48
    · rw [if_pos d, if_neg (by omega)]
      exact propext ⟨fun z => z.2, fun z => ⟨by omega, z⟩⟩
    · rw [if_neg d]
      by_cases f : 57 < jUb (T i)
      · rw [if_pos f, if_neg (by omega)]
        exact propext ⟨fun z => z.2, fun z => ⟨by omega, z⟩⟩
      · rw [if_neg f, if_pos (by omega)]
        exact propext ⟨fun z => z.2, fun z => ⟨by omega, z⟩⟩
theorem sp_isLet {T : Int → Int} {m p : Int} {C : jC} (h : jCL T m p C) {i : Int} (i0 : 0 ≤ i) {post : Int → Prop} : wp_5_isLetterAt i C post = post (if i < m ∧ jIsL T i = 1 then 1 else 0) := by
  obtain ⟨a1, a2, a3, a4, a5, a6⟩ := h
  unfold wp_5_isLetterAt
  rw [if_neg (by omega), a1]
  by_cases c : m ≤ i
  · rw [if_pos c, if_neg (by omega)]
  · obtain ⟨b1, b2, b3⟩ := a6 i i0 (by omega)
    have e : jIsL T i = 1 ↔ (97 ≤ jUb (T i) ∧ jUb (T i) ≤ 122) := by
      unfold jIsL jUb
      split <;> split <;> omega
    rw [if_neg c, b1]
    by_cases d : jUb (T i) < 97
    · rw [if_pos d, if_neg (by omega)]
      exact propext ⟨fun z => z.2, fun z => ⟨by omega, z⟩⟩
    · rw [if_neg d]
      by_cases f : 122 < jUb (T i)
      · rw [if_pos f, if_neg (by omega)]
        exact propext ⟨fun z => z.2, fun z => ⟨by omega, z⟩⟩
      · rw [if_neg f, if_pos (by omega)]
        exact propext ⟨fun z => z.2, fun z => ⟨by omega, z⟩⟩
/-- where the figures of a number begin -/
def jFi (T : Int → Int) (m b mb : Int) : Int := if mb ≠ 0 ∧ b < m ∧ T b = 45 then b + 1 else b
theorem jFi_b {T : Int → Int} {m b mb : Int} (h : b ≤ m) : b ≤ jFi T m b mb ∧ jFi T m b mb ≤ m ∧ jFi T m b mb ≤ b + 1 := by
  unfold jFi; split <;> omega
theorem sp_cNum2 {T : Int → Int} {m p below f b : Int} {C : jC} (h : jCL T m p C) (f0 : 0 ≤ f) (f1 : f ≤ m) (h6 : C 1 6 = b) {post : Int → jC → Prop} (y1 : 1 ≤ jDg T m f - f → jDg T m f - f ≤ 3 → ∀ C', jGo C C' → jCL T m (jDg T m f) C' → C' 1 5 = (if below = 0 then jNum T f (jDg T m f - f) else - jNum T f (jDg T m f - f)) → C' 1 6 = b → post 1 C') (y0 : ¬ (1 ≤ jDg T m f - f ∧ jDg T m f - f ≤ 3) → ∀ C', jBad C C' (if jDg T m f - f = 0 then f else b) → post 0 C') : jL2 (wp_5_takeNumber_59 below f C post) 0 0 := by
  obtain ⟨a1, a2, a3, a4, a5, a6⟩ := id h
  have hu := jDg_up (T := T) f0 f1 a5
  generalize jDg T m f = r at *
  obtain ⟨u1, u2, u3, u4⟩ := hu
  have fin : ∀ k a, 0 ≤ k → (k ≤ r - f) → (k = r - f ∨ 3 < k) → (k ≤ 3 → a = jNum T f k) → wp_5_takeNumber_101 below f k a C post := by
    intro k a k0 k1 k2 k3
    unfold wp_5_takeNumber_101
    by_cases c : k = 0
    · rw [if_pos c]
      unfold wp_5_failAt
      have y := y0 (by omega) (jU C 1 4 f)
      rw [if_pos (by omega)] at y
      exact ⟨by omega, y (jBad_u C f)⟩
    · rw [if_neg c]
      by_cases d : k ≤ 3
      · rw [if_pos d]
        refine ⟨⟨by omega, by omega⟩, ?_⟩
        have ek : k = r - f := by omega
        have nr := jNum_rng (T := T) (m := m) (f := f) (d := k) (fun i i0 i1 => u3 i i0 (by omega)) k0 d
        have ea := k3 d
        have g : ∀ x, jGo C (jU (jU C 1 3 (f + k)) 1 5 x) := fun x => jGo_t (jGo_u _ _ (Or.inl rfl)) (jGo_u _ _ (Or.inr (Or.inl rfl)))
        have g3 : ∀ x, jU (jU C 1 3 (f + k)) 1 5 x 1 3 = r := fun x => by rw [jU_at, if_pos rfl, if_neg (by decide), jU_at, if_pos rfl, if_pos rfl]; omega
        have g5 : ∀ x, jU (jU C 1 3 (f + k)) 1 5 x 1 5 = x := fun x => by rw [jU_at, if_pos rfl, if_pos rfl]
        have g6 : ∀ x, jU (jU C 1 3 (f + k)) 1 5 x 1 6 = b := fun x => by rw [jU_at, if_pos rfl, if_neg (by decide), jU_at, if_pos rfl, if_neg (by decide)]; exact h6
        by_cases e : below = 0
        · rw [if_pos e]
          exact y1 (by omega) (by omega) _ (g _) (jCL_go h (g _) (g3 _) (by omega) u2) (by rw [g5, if_pos e, ea, ek]) (g6 _)
        · rw [if_neg e]
          refine ⟨⟨by omega, by omega⟩, y1 (by omega) (by omega) _ (g _) (jCL_go h (g _) (g3 _) (by omega) u2) (by rw [g5, if_neg e, ea, ek]) (g6 _)⟩
      · rw [if_neg d, h6]
        unfold wp_5_failAt
        have y := y0 (by omega) (jU C 1 4 b)
        rw [if_neg (by omega)] at y
        exact ⟨by omega, y (jBad_u C b)⟩
  refine jL2_of (fun k a => 0 ≤ k ∧ k ≤ 4 ∧ k ≤ r - f ∧ (k ≤ 3 → a = jNum T f k)) (fun k _ => (4 - k).toNat) (fun K k a hi hk => ?_) ⟨by omega, by omega, by omega, fun _ => rfl⟩
  obtain ⟨i0, i1, i2, i3⟩ := hi
  unfold wp_5_takeNumber_59
  by_cases c : 3 < k
  · rw [if_pos c]
    exact fin k a i0 i2 (Or.inr c) i3
  · rw [if_neg c]
    refine ⟨⟨by omega, by omega⟩, ?_⟩
    rw [sp_isDigit h (by omega)]
    by_cases d : k < r - f
    · have dd := u3 (f + k) (by omega) (by omega)
      have tb : 48 ≤ T (f + k) ∧ T (f + k) ≤ 57 := by
        unfold jIsD at dd
        split at dd
        · assumption
        · omega
      have ub : (if f + k < m then jUb (T (f + k)) else -1) = T (f + k) := by
        rw [if_pos (by omega)]
        unfold jUb
        rw [if_neg (by omega)]
      have c1 : (if f + k < m ∧ jIsD T (f + k) = 1 then (1 : Int) else 0) = 1 := if_pos ⟨by omega, dd⟩
      rw [c1, if_neg (by decide), sp_byteAt h (by omega), ub]
      have nr := jNum_rng (T := T) (m := m) (f := f) (d := k) (fun i i0 i1 => u3 i i0 (by omega)) i0 (by omega)
      have ea := i3 (by omega)
      refine ⟨⟨by omega, by omega⟩, hk _ _ ⟨by omega, by omega, by omega, fun _ => ?_⟩ (by omega)⟩
      rw [jNum_s i0, ea]; omega
    · have c0 : (if f + k < m ∧ jIsD T (f + k) = 1 then (1 : Int) else 0) = 0 := by
        refine if_neg (fun z => ?_)
        rw [show f + k = r by omega] at z
        rcases u4 with u4 | u4
        · omega
        · exact u4 z.2
      rw [c0, if_pos rfl]
      exact fin k a i0 i2 (Or.inl (by omega)) i3
theorem sp_cNum {T : Int → Int} {m p mb : Int} {C : jC} (h : jCL T m p C) (hm : mb = 0 ∨ mb = 1) {post : Int → jC → Prop}
    (y1 : 1 ≤ jDg T m (jFi T m (jBl T m p) mb) - jFi T m (jBl T m p) mb → jDg T m (jFi T m (jBl T m p) mb) - jFi T m (jBl T m p) mb ≤ 3 → ∀ C', jGo C C' → jCL T m (jDg T m (jFi T m (jBl T m p) mb)) C' → C' 1 5 = (if jFi T m (jBl T m p) mb = jBl T m p then jNum T (jFi T m (jBl T m p) mb) (jDg T m (jFi T m (jBl T m p) mb) - jFi T m (jBl T m p) mb) else - jNum T (jFi T m (jBl T m p) mb) (jDg T m (jFi T m (jBl T m p) mb) - jFi T m (jBl T m p) mb)) → C' 1 6 = jBl T m p → post 1 C')
    (y0 : ¬ (1 ≤ jDg T m (jFi T m (jBl T m p) mb) - jFi T m (jBl T m p) mb ∧ jDg T m (jFi T m (jBl T m p) mb) - jFi T m (jBl T m p) mb ≤ 3) → ∀ C', jBad C C' (if jDg T m (jFi T m (jBl T m p) mb) - jFi T m (jBl T m p) mb = 0 then jFi T m (jBl T m p) mb else jBl T m p) → post 0 C') : wp_5_takeNumber mb C post := by
  have hb := jBl_b h
  have a0 := h.2.2.1
  have a5 := h.2.2.2.2.1
  unfold wp_5_takeNumber
  refine sp_cBl3 h (fun C1 g1 h1 => ?_)
  generalize jBl T m p = b at *
  have e3 := h1.2.1
  rw [e3]
  have gX : jGo C1 (jU C1 1 6 b) := jGo_u _ _ (Or.inr (Or.inr rfl))
  have hX : jCL T m b (jU C1 1 6 b) := jCL_go h1 gX (by rw [jU_at, if_pos rfl, if_neg (by decide)]; exact e3) (by omega) hb.2
  have x6 : jU C1 1 6 b 1 6 = b := by rw [jU_at, if_pos rfl, if_pos rfl]
  have gC : jGo C (jU C1 1 6 b) := jGo_t (jGo3_go g1) gX
  generalize jU C1 1 6 b = X at *
  have run : ∀ (s f : Int), f = jFi T m b mb → (s = 0 ↔ f = b) → 0 ≤ f → f ≤ m → jL2 (wp_5_takeNumber_59 s f X post) 0 0 := by
    intro s f ef es f0 f1
    subst ef
    refine sp_cNum2 hX f0 f1 x6 (fun d1 d2 C' c1 c2 c3 c4 => ?_) (fun d C' c1 => y0 d C' (jBad_go gC c1))
    refine y1 d1 d2 C' (jGo_t gC c1) c2 ?_ c4
    rw [c3]
    by_cases z : s = 0
    · rw [if_pos z, if_pos (es.mp z)]
    · rw [if_neg z, if_neg (fun q => z (es.mpr q))]
  have x3 := hX.2.1
  unfold wp_5_takeNumber_34
  rcases hm with rfl | rfl
  · rw [if_pos rfl, if_pos rfl, x3]
    exact run 0 b (by unfold jFi; rw [if_neg (by omega)]) (by omega) (by omega) hb.2
  · rw [if_neg (by decide), x3, sp_byteAt hX (by omega)]
    by_cases c : b < m ∧ T b = 45
    · have : (if b < m then jUb (T b) else -1) = 45 := by
        rw [if_pos c.1]
        unfold jUb; rw [if_neg (by omega)]; exact c.2
      rw [if_pos this, if_neg (by decide)]
      refine ⟨⟨by omega, by omega⟩, run 1 (b + 1) (by unfold jFi; rw [if_pos ⟨by decide, c⟩]) (by omega) (by omega) (by omega)⟩
    · have : ¬ (if b < m then jUb (T b) else -1) = 45 := by
        by_cases d : b < m
        · rw [if_pos d]
          obtain ⟨b1, b2, b3⟩ := hX.2.2.2.2.2 b (by omega) d
          exact fun z => c ⟨d, (jUb_eq b2 b3 (by omega) (by omega)).mp z⟩
        · rw [if_neg d]; omega
      rw [if_neg this, if_pos rfl]
      exact run 0 b (by unfold jFi; rw [if_neg (fun z => c z.2)]) (by omega) (by omega) hb.2
theorem sp_mFig {T : Int → Int} {m f times lo hi : Int} {D : jC} (h : jML T m f D) (ht : times = 1 ∨ times = -1) (hl : -999 ≤ lo) (hl2 : lo ≤ 999) (hh : -999 ≤ hi) (hh2 : hi ≤ 999) {post : Int → jC → Prop}
    (y1 : 1 ≤ jDg T m f - f → jDg T m f - f ≤ 3 → lo ≤ times * jNum T f (jDg T m f - f) → times * jNum T f (jDg T m f - f) ≤ hi → ∀ D', jGoM D D' → D' 345 9 = D 345 9 → jML T m (jDg T m f) D' → D' 345 10 = times * jNum T f (jDg T m f - f) → post 1 D')
    (y0 : ¬ (1 ≤ jDg T m f - f ∧ jDg T m f - f ≤ 3 ∧ lo ≤ times * jNum T f (jDg T m f - f) ∧ times * jNum T f (jDg T m f - f) ≤ hi) → ∀ D', jGoM D D' → D' 345 9 = D 345 9 → post 0 D') : wp_12_figures times lo hi D post := by
  obtain ⟨a1, a2, a3, a4, a5, a6⟩ := id h
  have hu := jDg_up (T := T) a3 a4 a5
  unfold wp_12_figures
  rw [a2]
  generalize jDg T m f = r at *
  obtain ⟨u1, u2, u3, u4⟩ := hu
  refine jL2_of (fun a E => jGoM D E ∧ E 345 9 = D 345 9 ∧ f ≤ E 345 7 ∧ E 345 7 ≤ r ∧ 0 ≤ a ∧ a ≤ 999 ∧ a = jNum T f (min 3 (E 345 7 - f))) (fun _ E => (r - E 345 7).toNat) (fun K a E hi1 hk => ?_) ⟨jGoM_r D, rfl, by omega, by omega, by omega, by omega, by rw [a2, show min 3 (f - f) = 0 by omega]; rfl⟩
  obtain ⟨i1, i2, i3, i4, i5, i6, i7⟩ := hi1
  have hE := jML_go h i1 rfl (by omega) (by omega)
  unfold wp_12_figures_9
  by_cases d : E 345 7 < r
  · have dd := u3 (E 345 7) (by omega) d
    have tb : 48 ≤ T (E 345 7) ∧ T (E 345 7) ≤ 57 := by
      unfold jIsD at dd
      split at dd
      · assumption
      · omega
    rw [sp_isAt1 hE ⟨by omega, tb⟩, if_neg (by decide)]
    refine ⟨⟨by omega, by omega⟩, ?_⟩
    have g : jGoM D (jU E 345 7 (E 345 7 + 1)) := jGoM_t i1 (jGoM_u _ _ (Or.inl rfl))
    have g9 : jU E 345 7 (E 345 7 + 1) 345 9 = D 345 9 := by rw [jU_at, if_pos rfl, if_neg (by decide)]; exact i2
    have g7 : jU E 345 7 (E 345 7 + 1) 345 7 = E 345 7 + 1 := by rw [jU_at, if_pos rfl, if_pos rfl]
    by_cases c : 3 ≤ E 345 7 - f
    · rw [if_pos c]
      refine ⟨⟨by omega, by omega⟩, hk _ _ ⟨g, g9, by omega, by omega, i5, i6, ?_⟩ (by omega)⟩
      rw [g7, show min 3 (E 345 7 + 1 - f) = min 3 (E 345 7 - f) by omega]; exact i7
    · rw [if_neg c, hE.2.2.2.2.2]
      have nr := jNum_rng (T := T) (m := m) (f := f) (d := E 345 7 - f) (fun i i0 i1 => u3 i i0 (by omega)) (by omega) (by omega)
      have nr2 := jNum_rng (T := T) (m := m) (f := f) (d := E 345 7 - f + 1) (fun i i0 i1 => u3 i i0 (by omega)) (by omega) (by omega)
      have ns := jNum_s (T := T) (f := f) (d := E 345 7 - f) (by omega)
      rw [show f + (E 345 7 - f) = E 345 7 by omega] at ns
      rw [show min 3 (E 345 7 - f) = E 345 7 - f by omega] at i7
      refine ⟨by omega, by omega, ⟨by omega, by omega⟩, hk _ _ ⟨g, g9, by omega, by omega, by omega, by omega, ?_⟩ (by omega)⟩
      rw [g7, show min 3 (E 345 7 + 1 - f) = E 345 7 - f + 1 by omega, ns, i7]
  · have er : E 345 7 = r := by omega
    have nd : ¬ (E 345 7 < m ∧ 48 ≤ T (E 345 7) ∧ T (E 345 7) ≤ 57) := by
      intro z
      rcases u4 with u4 | u4
      · omega
      · refine u4 ?_
        rw [← er]
        unfold jIsD
        rw [if_pos z.2]
    rw [sp_isAt0 hE nd, if_pos rfl]
    have q7 : ∀ x, jU E 345 10 x 345 7 = r := fun x => by rw [jU_at, if_pos rfl, if_neg (by decide)]; exact er
    have q10 : ∀ x, jU E 345 10 x 345 10 = x := fun x => by rw [jU_at, if_pos rfl, if_pos rfl]
    have q9 : ∀ x, jU E 345 10 x 345 9 = D 345 9 := fun x => by rw [jU_at, if_pos rfl, if_neg (by decide)]; exact i2
    have qg : ∀ x, jGoM D (jU E 345 10 x) := fun x => jGoM_t i1 (jGoM_u _ _ (Or.inr (Or.inr rfl)))
    rw [q7, q10]
    have tr : jRng (times * a) := by rcases ht with rfl | rfl <;> exact ⟨by omega, by omega⟩
    refine ⟨tr, ⟨by omega, by omega⟩, ?_⟩
    by_cases c : 1 ≤ r - f ∧ r - f ≤ 3
    · rw [sp_in1 c.1 c.2, if_neg (by decide)]
      have ea : a = jNum T f (r - f) := by rw [i7, er, show min 3 (r - f) = r - f by omega]
      by_cases e : lo ≤ times * a ∧ times * a ≤ hi
      · rw [sp_in1 e.1 e.2, if_neg (by decide)]
        rw [ea] at e ⊢
        exact y1 c.1 c.2 e.1 e.2 _ (qg _) (q9 _) (jML_go h (qg _) (q7 _) (by omega) u2) (q10 _)
      · rw [sp_in0 e, if_pos rfl]
        refine y0 (fun z => ?_) _ (qg _) (q9 _)
        rw [← ea] at z
        exact e z.2.2
    · rw [sp_in0 c, if_pos rfl]
      exact y0 (fun z => c ⟨z.1, z.2.1⟩) _ (qg _) (q9 _)

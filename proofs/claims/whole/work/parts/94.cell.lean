-- a cell's value
def jVn (T : Int → Int) (m b f : Int) : Int := if f = b then jNum T f (jDg T m f - f) else - jNum T f (jDg T m f - f)
theorem sp_mSigned {T : Int → Int} {m p lo : Int} {D : jC} (h : jML T m p D) (l0 : -999 ≤ lo) (l1 : lo ≤ 999) {post : Int → jC → Prop}
    (y1 : 1 ≤ jDg T m (jFi T m (jBl T m p) 1) - jFi T m (jBl T m p) 1 → jDg T m (jFi T m (jBl T m p) 1) - jFi T m (jBl T m p) 1 ≤ 3 → lo ≤ jVn T m (jBl T m p) (jFi T m (jBl T m p) 1) → ∀ D', jGoM D D' → jML T m (jDg T m (jFi T m (jBl T m p) 1)) D' → D' 345 10 = jVn T m (jBl T m p) (jFi T m (jBl T m p) 1) → post 1 D')
    (y0 : ¬ (1 ≤ jDg T m (jFi T m (jBl T m p) 1) - jFi T m (jBl T m p) 1 ∧ jDg T m (jFi T m (jBl T m p) 1) - jFi T m (jBl T m p) 1 ≤ 3 ∧ lo ≤ jVn T m (jBl T m p) (jFi T m (jBl T m p) 1)) → ∀ D', jGoM D D' → D' 345 9 = (if jDg T m (jFi T m (jBl T m p) 1) - jFi T m (jBl T m p) 1 = 0 then jFi T m (jBl T m p) 1 else jBl T m p) → post 0 D') : wp_12_signed lo D post := by
  have hb := jBl_m h
  obtain ⟨a1, a2, a3, a4, a5, a6⟩ := id h
  unfold wp_12_signed
  refine sp_mBlanks h (fun D1 d1 d2 d3 => ?_)
  have h1 := jML_goN h d1 d2 (by omega) hb.2
  generalize jBl T m p = b at *
  have hu : ∀ f, 0 ≤ f → f ≤ m → jUp (jIsD T) m f (jDg T m f) := fun f f0 f1 => jDg_up f0 f1 a5
  by_cases c : b < m ∧ T b = 45
  · rw [sp_isAt1 h1 ⟨c.1, by omega, by omega⟩, if_neg (by decide), d2]
    have ef : jFi T m b 1 = b + 1 := by unfold jFi; rw [if_pos ⟨by decide, c⟩]
    rw [ef] at y1 y0
    have hv : jVn T m b (b + 1) = - jNum T (b + 1) (jDg T m (b + 1) - (b + 1)) := by unfold jVn; rw [if_neg (by omega)]
    rw [hv] at y1 y0
    have hX := jML_goN h (jGoN_t d1 (jGoN_u D1 (b + 1) (Or.inl rfl))) (x := b + 1) (by rw [jU_at, if_pos rfl, if_pos rfl]) (by omega) (by omega)
    have gX : jGoN D (jU D1 345 7 (b + 1)) := jGoN_t d1 (jGoN_u D1 (b + 1) (Or.inl rfl))
    have x9 : jU D1 345 7 (b + 1) 345 9 = b := by rw [jU_at, if_pos rfl, if_neg (by decide)]; exact d3
    have x7 : jU D1 345 7 (b + 1) 345 7 = b + 1 := hX.2.1
    unfold wp_12_signed_27
    refine ⟨⟨by omega, by omega⟩, ?_⟩
    rw [if_neg (by decide), x7]
    generalize jU D1 345 7 (b + 1) = X at *
    obtain ⟨u1, u2, u3, u4⟩ := hu (b + 1) (by omega) (by omega)
    have run : ∀ (Y : jC) (z : Int), jGoM D Y → jML T m (b + 1) Y → Y 345 9 = z → (z = if jDg T m (b + 1) - (b + 1) = 0 then b + 1 else b) → wp_12_signed_54 lo 1 Y post := by
      intro Y z gY hY y9 ez
      unfold wp_12_signed_54
      rw [if_neg (by decide)]
      refine sp_mFig hY (Or.inr rfl) l0 l1 (by omega) (by omega) (fun e1 e2 e3 e4 D' g1 g2 g3 g4 => ⟨by omega, ?_⟩) (fun e D' g1 g2 => ⟨by omega, ?_⟩)
      · exact y1 e1 e2 (by omega) D' (jGoM_t gY g1) g3 (by omega)
      · refine y0 (fun w => e ⟨w.1, w.2.1, by omega, ?_⟩) D' (jGoM_t gY g1) (by rw [g2, y9]; exact ez)
        have nr := jNum_rng (T := T) (m := m) (f := b + 1) (d := jDg T m (b + 1) - (b + 1)) (fun i i0 i1 => u3 i i0 (by omega)) (by omega) w.2.1
        omega
    by_cases dg : b + 1 < m ∧ 48 ≤ T (b + 1) ∧ T (b + 1) ≤ 57
    · rw [sp_isAt1 hX dg, if_neg (by decide)]
      have nz : jDg T m (b + 1) - (b + 1) ≠ 0 := by
        intro z
        rw [show jDg T m (b + 1) = b + 1 by omega] at u4
        rcases u4 with u4 | u4
        · omega
        · exact u4 (by unfold jIsD; rw [if_pos dg.2])
      exact run X b (jGoN_M gX) hX x9 (by rw [if_neg nz])
    · rw [sp_isAt0 hX dg, if_pos rfl]
      have z0 : jDg T m (b + 1) - (b + 1) = 0 := by
        by_cases z : jDg T m (b + 1) = b + 1
        · omega
        · have := u3 (b + 1) (by omega) (by omega)
          unfold jIsD at this
          split at this
          · rename_i q; exact absurd ⟨by omega, q⟩ dg
          · omega
      refine run _ (b + 1) (jGoM_t (jGoN_M gX) (jGoM_u _ _ (Or.inr (Or.inl rfl)))) (jML_go h (jGoM_t (jGoN_M gX) (jGoM_u _ _ (Or.inr (Or.inl rfl)))) ?_ (by omega) (by omega)) (by rw [jU_at, if_pos rfl, if_pos rfl]) (by rw [if_pos z0])
      rw [jU_at, if_pos rfl, if_neg (by decide)]; exact x7
  · rw [sp_isAt0 h1 (fun z => c ⟨z.1, by omega⟩), if_pos rfl, d2]
    have ef : jFi T m b 1 = b := by unfold jFi; rw [if_neg (fun z => c z.2)]
    rw [ef] at y1 y0
    have hv : jVn T m b b = jNum T b (jDg T m b - b) := by unfold jVn; rw [if_pos rfl]
    rw [hv] at y1 y0
    unfold wp_12_signed_27
    refine ⟨⟨by omega, by omega⟩, ?_⟩
    rw [if_pos rfl, Int.add_zero]
    have gX : jGoN D (jU D1 345 7 b) := jGoN_t d1 (jGoN_u D1 b (Or.inl rfl))
    have hX := jML_goN h gX (x := b) (by rw [jU_at, if_pos rfl, if_pos rfl]) (by omega) hb.2
    have x9 : jU D1 345 7 b 345 9 = b := by rw [jU_at, if_pos rfl, if_neg (by decide)]; exact d3
    generalize jU D1 345 7 b = X at *
    obtain ⟨u1, u2, u3, u4⟩ := hu b (by omega) hb.2
    unfold wp_12_signed_54
    rw [if_pos rfl]
    refine sp_mFig hX (Or.inl rfl) l0 l1 (by omega) (by omega) (fun e1 e2 e3 e4 D' g1 g2 g3 g4 => ⟨by omega, ?_⟩) (fun e D' g1 g2 => ⟨by omega, ?_⟩)
    · exact y1 e1 e2 (by omega) D' (jGoM_t (jGoN_M gX) g1) g3 (by omega)
    · refine y0 (fun w => e ⟨w.1, w.2.1, by omega, ?_⟩) D' (jGoM_t (jGoN_M gX) g1) (by rw [g2, x9]; split <;> rfl)
      have nr := jNum_rng (T := T) (m := m) (f := b) (d := jDg T m b - b) (fun i i0 i1 => u3 i i0 (by omega)) (by omega) w.2.1
      omega
def jUn (i : Int) : Int := if i = 0 then 19683 else if i = 1 then 729 else if i = 2 then 27 else if i = 3 then 1 else 0
/-- the letters of a word of n, as one number -/
def jWv (T : Int → Int) (b n : Int) : Int := jFold (fun i a => a + (T (b + i) - 97 + 1) * jUn i) 0 n.toNat
theorem jWv_s {T : Int → Int} {b n : Int} (h : 0 ≤ n) : jWv T b (n + 1) = jWv T b n + (T (b + n) - 97 + 1) * jUn n := jFold_s h
theorem jWv_1 (T : Int → Int) (b : Int) : jWv T b 1 = (T b - 96) * 19683 := by
  have := jWv_s (T := T) (b := b) (n := 0) (by omega)
  rw [show jWv T b 0 = 0 from rfl, show jUn 0 = 19683 from rfl] at this
  simp only [Int.reduceAdd, Int.add_zero] at this
  rw [this]; omega
theorem jWv_2 (T : Int → Int) (b : Int) : jWv T b 2 = (T b - 96) * 19683 + (T (b + 1) - 96) * 729 := by
  have := jWv_s (T := T) (b := b) (n := 1) (by omega)
  rw [jWv_1, show jUn 1 = 729 from rfl] at this
  simp only [Int.reduceAdd] at this
  rw [this]; omega
theorem jWv_3 (T : Int → Int) (b : Int) : jWv T b 3 = (T b - 96) * 19683 + (T (b + 1) - 96) * 729 + (T (b + 2) - 96) * 27 := by
  have := jWv_s (T := T) (b := b) (n := 2) (by omega)
  rw [jWv_2, show jUn 2 = 27 from rfl] at this
  simp only [Int.reduceAdd] at this
  rw [this]; omega
theorem jWv_4 (T : Int → Int) (b : Int) : jWv T b 4 = (T b - 96) * 19683 + (T (b + 1) - 96) * 729 + (T (b + 2) - 96) * 27 + (T (b + 3) - 96) := by
  have := jWv_s (T := T) (b := b) (n := 3) (by omega)
  rw [jWv_3, show jUn 3 = 1 from rfl] at this
  simp only [Int.reduceAdd] at this
  rw [this]; omega
theorem jWv_ok {T : Int → Int} {b n : Int} (hl : ∀ i, 0 ≤ i → i < n → 97 ≤ T (b + i) ∧ T (b + i) ≤ 122) (n1 : 1 ≤ n) (n4 : n ≤ 4) : jWord (jWv T b n) := by
  have l0 := hl 0 (by omega) (by omega)
  rw [Int.add_zero] at l0
  have hn : n = 1 ∨ n = 2 ∨ n = 3 ∨ n = 4 := by omega
  rcases hn with rfl | rfl | rfl | rfl
  · exact ⟨T b - 96, 0, 0, 0, by rw [jWv_1]; omega, by omega, by omega, by omega, by omega, by omega, by omega, by omega, by omega, by omega, by omega⟩
  · have l1 := hl 1 (by omega) (by omega)
    exact ⟨T b - 96, T (b + 1) - 96, 0, 0, by rw [jWv_2]; omega, by omega, by omega, by omega, by omega, by omega, by omega, by omega, by omega, by omega, by omega⟩
  · have l1 := hl 1 (by omega) (by omega)
    have l2 := hl 2 (by omega) (by omega)
    exact ⟨T b - 96, T (b + 1) - 96, T (b + 2) - 96, 0, by rw [jWv_3]; omega, by omega, by omega, by omega, by omega, by omega, by omega, by omega, by omega, by omega, by omega⟩
  · have l1 := hl 1 (by omega) (by omega)
    have l2 := hl 2 (by omega) (by omega)
    have l3 := hl 3 (by omega) (by omega)
    exact ⟨T b - 96, T (b + 1) - 96, T (b + 2) - 96, T (b + 3) - 96, by rw [jWv_4], by omega, by omega, by omega, by omega, by omega, by omega, by omega, by omega, by omega, by omega⟩
theorem sp_isWords0 {c : Int} {C : jC} {post : Int → Prop} (c0 : 0 ≤ c) (c1 : c < 5) (h : C 346 (4 + c) = 0) : wp_12_isWords c C post = post 0 := by rw [sp_isWords c0 c1, if_neg (by omega)]
theorem sp_isWords1 {c : Int} {C : jC} {post : Int → Prop} (c0 : 0 ≤ c) (c1 : c < 5) (h : C 346 (4 + c) = 1) : wp_12_isWords c C post = post 1 := by rw [sp_isWords c0 c1, if_pos h]
def jRd (T : Int → Int) (b n k : Int) : Int := jFold (fun i a => 27 * a + (if i < n then T (b + i) - 97 + 1 else 0)) 0 k.toNat
theorem jRd_s {T : Int → Int} {b n k : Int} (h : 0 ≤ k) : jRd T b n (k + 1) = 27 * jRd T b n k + (if k < n then T (b + k) - 97 + 1 else 0) := jFold_s h
theorem jRd_e (T : Int → Int) (b n : Int) : jRd T b n 1 = (if 0 < n then T b - 96 else 0) ∧ jRd T b n 2 = 27 * jRd T b n 1 + (if 1 < n then T (b + 1) - 96 else 0) ∧ jRd T b n 3 = 27 * jRd T b n 2 + (if 2 < n then T (b + 2) - 96 else 0) ∧ jRd T b n 4 = 27 * jRd T b n 3 + (if 3 < n then T (b + 3) - 96 else 0) := by
  have e1 := jRd_s (T := T) (b := b) (n := n) (k := 0) (by omega)
  have e2 := jRd_s (T := T) (b := b) (n := n) (k := 1) (by omega)
  have e3 := jRd_s (T := T) (b := b) (n := n) (k := 2) (by omega)
  have e4 := jRd_s (T := T) (b := b) (n := n) (k := 3) (by omega)
  rw [show jRd T b n 0 = 0 from rfl] at e1
  simp only [Int.reduceAdd, Int.add_zero] at e1 e2 e3 e4
  have f : ∀ x : Int, x - 97 + 1 = x - 96 := fun x => by omega
  rw [f] at e1 e2 e3 e4
  exact ⟨by rw [e1]; omega, e2, e3, e4⟩
theorem jRd_rng {T : Int → Int} {b n : Int} (hl : ∀ i, 0 ≤ i → i < n → 97 ≤ T (b + i) ∧ T (b + i) ≤ 122) {k : Int} (k1 : 1 ≤ k) (k4 : k ≤ 4) : 0 ≤ jRd T b n k ∧ jRd T b n k ≤ 531440 := by
  obtain ⟨e1, e2, e3, e4⟩ := jRd_e T b n
  have f : ∀ i, 0 ≤ i → 0 ≤ (if i < n then T (b + i) - 96 else 0) ∧ (if i < n then T (b + i) - 96 else 0) ≤ 26 := by
    intro i i0
    by_cases c : i < n
    · have := hl i i0 c
      rw [if_pos c]; omega
    · rw [if_neg c]; omega
  have f0 := f 0 (by omega)
  rw [Int.add_zero] at f0
  have f1 := f 1 (by omega)
  have f2 := f 2 (by omega)
  have f3 := f 3 (by omega)
  generalize (if 0 < n then T b - 96 else 0) = q0 at *
  generalize (if 1 < n then T (b + 1) - 96 else 0) = q1 at *
  generalize (if 2 < n then T (b + 2) - 96 else 0) = q2 at *
  generalize (if 3 < n then T (b + 3) - 96 else 0) = q3 at *
  have hk : k = 1 ∨ k = 2 ∨ k = 3 ∨ k = 4 := by omega
  rcases hk with rfl | rfl | rfl | rfl <;> omega
theorem jRd_4 {T : Int → Int} {b n : Int} (n1 : 1 ≤ n) (n4 : n ≤ 4) : jRd T b n 4 = jWv T b n := by
  obtain ⟨e1, e2, e3, e4⟩ := jRd_e T b n
  have hn : n = 1 ∨ n = 2 ∨ n = 3 ∨ n = 4 := by omega
  rcases hn with rfl | rfl | rfl | rfl
  · rw [e4, e3, e2, e1, jWv_1, if_pos (by decide), if_neg (by decide), if_neg (by decide), if_neg (by decide)]; omega
  · rw [e4, e3, e2, e1, jWv_2, if_pos (by decide), if_pos (by decide), if_neg (by decide), if_neg (by decide)]; omega
  · rw [e4, e3, e2, e1, jWv_3, if_pos (by decide), if_pos (by decide), if_pos (by decide), if_neg (by decide)]; omega
  · rw [e4, e3, e2, e1, jWv_4, if_pos (by decide), if_pos (by decide), if_pos (by decide), if_pos (by decide)]; omega
theorem sp_cLet {T : Int → Int} {m b : Int} {C : jC} (h : jCL T m b C) {post : Int → jC → Prop} (y1 : 1 ≤ jLt T m b - b → jLt T m b - b ≤ 4 → ∀ C', jGo C C' → jCL T m (jLt T m b) C' → C' 1 5 = jWv T b (jLt T m b - b) → post 1 C') (y0 : ¬ (1 ≤ jLt T m b - b ∧ jLt T m b - b ≤ 4) → ∀ C', jBad C C' b → post 0 C') : wp_5_takeLetters C post := by
  obtain ⟨a1, a2, a3, a4, a5, a6⟩ := id h
  have hu := jLt_up (T := T) a3 a4 a5
  generalize jLt T m b = r at *
  obtain ⟨u1, u2, u3, u4⟩ := hu
  have fin : ∀ k a, 0 ≤ k → k ≤ r - b → (k = r - b ∨ 4 < k) → (k ≤ 4 → a = jWv T b k) → wp_5_takeLetters_57 k a C post := by
    intro k a k0 k1 k2 k3
    unfold wp_5_takeLetters_57 wp_5_failHere
    rw [a2]
    by_cases c : k = 0
    · rw [if_pos c]
      exact ⟨by omega, y0 (by omega) _ (jBad_u C b)⟩
    · rw [if_neg c]
      by_cases d : k ≤ 4
      · rw [if_pos d]
        have ek : k = r - b := by omega
        have g : jGo C (jU (jU C 1 3 (b + k)) 1 5 a) := jGo_t (jGo_u _ _ (Or.inl rfl)) (jGo_u _ _ (Or.inr (Or.inl rfl)))
        refine ⟨⟨by omega, by omega⟩, y1 (by omega) (by omega) _ g (jCL_go h g ?_ (by omega) u2) ?_⟩
        · rw [jU_at, if_pos rfl, if_neg (by decide), jU_at, if_pos rfl, if_pos rfl]; omega
        · rw [jU_at, if_pos rfl, if_pos rfl, k3 d, ek]
      · rw [if_neg d]
        exact ⟨by omega, y0 (by omega) _ (jBad_u C b)⟩
  unfold wp_5_takeLetters
  refine jL3_of (fun k a u => 0 ≤ k ∧ k ≤ 5 ∧ k ≤ r - b ∧ u = jUn k ∧ 0 ≤ a ∧ a ≤ 26 * 20440 ∧ a = jWv T b k) (fun k _ _ => (5 - k).toNat) (fun K k a u hi hk => ?_) ⟨by omega, by omega, by omega, rfl, by omega, by omega, rfl⟩
  obtain ⟨i0, i1, i2, i3, i5, i6, i4⟩ := hi
  unfold wp_5_takeLetters_8
  by_cases c : 4 < k
  · rw [if_pos c]
    exact fin k a i0 i2 (Or.inr c) (fun _ => i4)
  · rw [if_neg c, a2]
    refine ⟨⟨by omega, by omega⟩, ?_⟩
    rw [sp_isLet h (by omega)]
    by_cases d : k < r - b
    · have tb : ∀ i, b ≤ i → i < r → 97 ≤ T i ∧ T i ≤ 122 := by
        intro i a b
        have := u3 i a b
        unfold jIsL at this
        split at this
        · assumption
        · omega
      have tk := tb (b + k) (by omega) (by omega)
      have c1 : (if b + k < m ∧ jIsL T (b + k) = 1 then (1 : Int) else 0) = 1 := if_pos ⟨by omega, u3 (b + k) (by omega) (by omega)⟩
      have ub : (if b + k < m then jUb (T (b + k)) else -1) = T (b + k) := by
        rw [if_pos (by omega)]
        unfold jUb
        rw [if_neg (by omega)]
      rw [c1, if_neg (by decide), sp_byteAt h (by omega), ub, i3]
      have ws := jWv_s (T := T) (b := b) (n := k) i0
      have t0 := tb b (by omega) (by omega)
      have hk' : k = 0 ∨ k = 1 ∨ k = 2 ∨ k = 3 ∨ k = 4 := by omega
      have nx : 0 ≤ jWv T b (k + 1) ∧ jWv T b (k + 1) ≤ 26 * 20440 ∧ (jUn k).tdiv 27 = jUn (k + 1) := by
        rcases hk' with rfl | rfl | rfl | rfl | rfl
        · simp only [Int.reduceAdd]
          rw [jWv_1]
          exact ⟨by omega, by omega, by decide⟩
        · simp only [Int.reduceAdd]
          rw [jWv_2]
          exact ⟨by omega, by omega, by decide⟩
        · simp only [Int.reduceAdd]
          rw [jWv_3]
          have t1 := tb (b + 1) (by omega) (by omega)
          exact ⟨by omega, by omega, by decide⟩
        · simp only [Int.reduceAdd]
          rw [jWv_4]
          have t1 := tb (b + 1) (by omega) (by omega)
          have t2 := tb (b + 2) (by omega) (by omega)
          exact ⟨by omega, by omega, by decide⟩
        · rw [ws, jWv_4, show jUn 4 = 0 from rfl]
          have t1 := tb (b + 1) (by omega) (by omega)
          have t2 := tb (b + 2) (by omega) (by omega)
          have t3 := tb (b + 3) (by omega) (by omega)
          exact ⟨by omega, by omega, by decide⟩
      rw [i4, ← ws]
      exact ⟨⟨by omega, by omega⟩, hk _ _ _ ⟨by omega, by omega, by omega, nx.2.2, nx.1, nx.2.1, rfl⟩ (by omega)⟩
    · have c0 : (if b + k < m ∧ jIsL T (b + k) = 1 then (1 : Int) else 0) = 0 := by
        refine if_neg (fun z => ?_)
        rw [show b + k = r by omega] at z
        rcases u4 with u4 | u4
        · omega
        · exact u4 z.2
      rw [c0, if_pos rfl]
      exact fin k a i0 i2 (Or.inl (by omega)) (fun _ => i4)
theorem sp_cell {T : Int → Int} {m p kind : Int} (p0 : 0 ≤ p) (p1 : p ≤ m) (m4 : m ≤ 400) (hk : kind = 0 ∨ kind = 1) :
    ∃ r x y : Int, (r = 0 ∨ r = 1) ∧ (r = 1 → p ≤ x ∧ x ≤ m ∧ jVal kind y) ∧
    (∀ (C : jC) (post : Int → jC → Prop), jCL T m p C → (r = 1 → ∀ C', jGo C C' → jCL T m x C' → C' 1 5 = y → post 1 C') → (r = 0 → ∀ C', jBad C C' x → post 0 C') → wp_5_takeCell kind C post) ∧
    (∀ (D : jC) (col : Int) (post : Int → jC → Prop), jML T m p D → 0 ≤ col → col < 5 → D 346 (4 + col) = kind → (r = 1 → ∀ D', jGoM D D' → jML T m x D' → D' 345 10 = y → post 1 D') → (r = 0 → ∀ D', jGoM D D' → D' 345 9 = x → post 0 D') → wp_12_aValue col D post) := by
  have hbu := jBl_up (T := T) p0 p1 m4
  have b1 := hbu.1
  have b2 := hbu.2.1
  have bb := jBl_bl (T := T) p0 p1 m4
  by_cases dot : jBl T m p < m ∧ T (jBl T m p) = 46
  · refine ⟨1, jBl T m p + 1, -1000000, Or.inr rfl, fun _ => ⟨by omega, by omega, Or.inl rfl⟩, fun C post h z1 z0 => ?_, fun D col post h c0 c1 hc z1 z0 => ?_⟩
    · unfold wp_5_takeCell
      refine sp_cSign h (by omega) (by omega) (fun e1 e2 C' g1 g2 => ?_) (fun e => absurd dot e)
      rw [if_neg (by decide)]
      have gg : jGo C (jU C' 1 5 (-1000000)) := jGo_t (jGo3_go g1) (jGo_u _ _ (Or.inr (Or.inl rfl)))
      exact z1 rfl _ gg (jCL_go h gg (by rw [jU_at, if_pos rfl, if_neg (by decide)]; exact g2.2.1) (by omega) (by omega)) (by rw [jU_at, if_pos rfl, if_pos rfl])
    · unfold wp_12_aValue
      refine sp_mSign h (fun e1 e2 D' g1 g2 => ?_) (fun e => absurd dot e)
      rw [if_neg (by decide)]
      have gg : jGoM D (jU D' 345 10 (-1000000)) := jGoM_t (jGoN_M g1) (jGoM_u _ _ (Or.inr (Or.inr rfl)))
      exact z1 rfl _ gg (jML_go h gg (by rw [jU_at, if_pos rfl, if_neg (by decide)]; exact g2.2.1) (by omega) (by omega)) (by rw [jU_at, if_pos rfl, if_pos rfl])
  · rcases hk with rfl | rfl
    · -- a number
      have fb := jFi_b (T := T) (mb := 1) b2
      have fu := jDg_up (T := T) (show 0 ≤ jFi T m (jBl T m p) 1 by omega) fb.2.1 m4
      by_cases ok : 1 ≤ jDg T m (jFi T m (jBl T m p) 1) - jFi T m (jBl T m p) 1 ∧ jDg T m (jFi T m (jBl T m p) 1) - jFi T m (jBl T m p) 1 ≤ 3
      · have nr := jNum_rng (T := T) (m := m) (f := jFi T m (jBl T m p) 1) (d := jDg T m (jFi T m (jBl T m p) 1) - jFi T m (jBl T m p) 1) (fun i i0 i1 => fu.2.2.1 i i0 (by omega)) (by omega) ok.2
        have vr : -999 ≤ jVn T m (jBl T m p) (jFi T m (jBl T m p) 1) ∧ jVn T m (jBl T m p) (jFi T m (jBl T m p) 1) ≤ 999 := by
          unfold jVn; split <;> omega
        refine ⟨1, jDg T m (jFi T m (jBl T m p) 1), jVn T m (jBl T m p) (jFi T m (jBl T m p) 1), Or.inr rfl, fun _ => ⟨by omega, fu.2.1, Or.inr (Or.inl ⟨rfl, vr.1, vr.2⟩)⟩, fun C post h z1 z0 => ?_, fun D col post h c0 c1 hc z1 z0 => ?_⟩
        · unfold wp_5_takeCell
          refine sp_cSign h (by omega) (by omega) (fun e1 e2 => absurd ⟨e1, e2⟩ dot) (fun _ C' g1 g2 => ?_)
          rw [if_pos rfl, if_pos rfl]
          refine sp_cNum g2 (Or.inr rfl) ?_ ?_
          · rw [bb]
            intro e1 e2 C2 g3 g4 g5 g6
            exact ⟨by omega, z1 rfl C2 (jGo_t (jGo3_go g1) g3) g4 g5⟩
          · rw [bb]
            exact fun e => absurd ok e
        · unfold wp_12_aValue
          refine sp_mSign h (fun e1 e2 => absurd ⟨e1, e2⟩ dot) (fun _ D' g1 g2 g9 => ?_)
          rw [if_pos rfl, sp_isWords0 c0 c1 (by rw [g1.1 346 (by decide)]; exact hc), if_pos rfl]
          refine sp_mSigned g2 (by omega) (by omega) ?_ ?_
          · rw [bb]
            intro e1 e2 e3 D2 g3 g4 g5
            exact ⟨by omega, z1 rfl D2 (jGoM_t (jGoN_M g1) g3) g4 g5⟩
          · rw [bb]
            exact fun e => absurd ⟨ok.1, ok.2, vr.1⟩ e
      · refine ⟨0, (if jDg T m (jFi T m (jBl T m p) 1) - jFi T m (jBl T m p) 1 = 0 then jFi T m (jBl T m p) 1 else jBl T m p), 0, Or.inl rfl, fun z => absurd z (by decide), fun C post h z1 z0 => ?_, fun D col post h c0 c1 hc z1 z0 => ?_⟩
        · unfold wp_5_takeCell
          refine sp_cSign h (by omega) (by omega) (fun e1 e2 => absurd ⟨e1, e2⟩ dot) (fun _ C' g1 g2 => ?_)
          rw [if_pos rfl, if_pos rfl]
          refine sp_cNum g2 (Or.inr rfl) ?_ ?_
          · rw [bb]
            exact fun e1 e2 => absurd ⟨e1, e2⟩ ok
          · rw [bb]
            intro _ C2 g3
            exact ⟨by omega, z0 rfl C2 (jBad_go (jGo3_go g1) g3)⟩
        · unfold wp_12_aValue
          refine sp_mSign h (fun e1 e2 => absurd ⟨e1, e2⟩ dot) (fun _ D' g1 g2 g9 => ?_)
          rw [if_pos rfl, sp_isWords0 c0 c1 (by rw [g1.1 346 (by decide)]; exact hc), if_pos rfl]
          refine sp_mSigned g2 (by omega) (by omega) ?_ ?_
          · rw [bb]
            exact fun e1 e2 => absurd ⟨e1, e2⟩ ok
          · rw [bb]
            intro _ D2 g3 g4
            exact ⟨by omega, z0 rfl D2 (jGoM_t (jGoN_M g1) g3) g4⟩
    · -- a word
      have lu := jLt_up (T := T) (show 0 ≤ jBl T m p by omega) b2 m4
      have tb : ∀ i, jBl T m p ≤ i → i < jLt T m (jBl T m p) → 97 ≤ T i ∧ T i ≤ 122 := by
        intro i a b
        have := lu.2.2.1 i a b
        unfold jIsL at this
        split at this
        · assumption
        · omega
      have mod : ∀ (D : jC) (col : Int) (post : Int → jC → Prop), jML T m p D → 0 ≤ col → col < 5 → D 346 (4 + col) = 1 → (∀ D', jGoM D D' → jML T m (jLt T m (jBl T m p)) D' → D' 345 9 = jBl T m p → (1 ≤ jLt T m (jBl T m p) - jBl T m p → jLt T m (jBl T m p) - jBl T m p ≤ 4 → D' 345 10 = jWv T (jBl T m p) (jLt T m (jBl T m p) - jBl T m p)) → post (if 1 ≤ jLt T m (jBl T m p) - jBl T m p ∧ jLt T m (jBl T m p) - jBl T m p ≤ 4 then 1 else 0) D') → wp_12_aValue col D post := by
        intro D col post h c0 c1 hc y
        unfold wp_12_aValue
        refine sp_mSign h (fun e1 e2 => absurd ⟨e1, e2⟩ dot) (fun _ D' g1 g2 g9 => ?_)
        rw [if_pos rfl, sp_isWords1 c0 c1 (by rw [g1.1 346 (by decide)]; exact hc), if_neg (by decide)]
        refine sp_mLetters g2 ?_
        rw [bb]
        intro D2 g3 g7 g9'
        generalize jBl T m p = b at *
        generalize jLt T m b = r at *
        rw [g7, g9']
        refine ⟨⟨by have := lu.1; have := lu.2.1; omega, by have := lu.1; have := lu.2.1; omega⟩, ?_⟩
        have l1 := lu.1
        have l2 := lu.2.1
        have gD : jGoN D D2 := jGoN_t g1 g3
        refine jL2_of (fun k E => 0 ≤ k ∧ k ≤ 4 ∧ jGoM D E ∧ E 345 7 = r ∧ E 345 9 = b ∧ E 345 10 = jRd T b (r - b) k) (fun k _ => (4 - k).toNat) (fun K k E hi hk => ?_) ⟨by omega, by omega, jGoM_t (jGoN_M gD) (jGoM_u _ _ (Or.inr (Or.inr rfl))), by rw [jU_at, if_pos rfl, if_neg (by decide)]; exact g7, by rw [jU_at, if_pos rfl, if_neg (by decide)]; exact g9', by rw [jU_at, if_pos rfl, if_pos rfl]; rfl⟩
        obtain ⟨i0, i1, i2, i3, i4, i5⟩ := hi
        unfold wp_12_aValue_54
        by_cases c : 4 ≤ k
        · rw [if_pos c]
          have ek : k = 4 := by omega
          have ans := y E i2 (jML_go h i2 i3 (by omega) l2) i4 (fun n1 n4 => by rw [i5, ek, jRd_4 n1 n4])
          by_cases d : 1 ≤ r - b ∧ r - b ≤ 4
          · rw [sp_in1 d.1 d.2]
            rw [if_pos d] at ans
            exact ⟨Or.inr rfl, ans⟩
          · rw [sp_in0 d]
            rw [if_neg d] at ans
            exact ⟨Or.inl rfl, ans⟩
        · rw [if_neg c]
          have rg := jRd_rng (T := T) (b := b) (n := r - b) (fun i a c => tb (b + i) (by omega) (by omega)) (k := k + 1) (by omega) (by omega)
          have rs := jRd_s (T := T) (b := b) (n := r - b) i0
          have gs : ∀ x, jGoM D (jU E 345 10 x) ∧ jU E 345 10 x 345 7 = r ∧ jU E 345 10 x 345 9 = b ∧ jU E 345 10 x 345 10 = x := fun x => ⟨jGoM_t i2 (jGoM_u _ _ (Or.inr (Or.inr rfl))), by rw [jU_at, if_pos rfl, if_neg (by decide)]; exact i3, by rw [jU_at, if_pos rfl, if_neg (by decide)]; exact i4, by rw [jU_at, if_pos rfl, if_pos rfl]⟩
          rw [i5]
          by_cases d : r - b ≤ k
          · rw [if_pos d]
            rw [if_neg (by omega)] at rs
            rw [← rs]
            obtain ⟨s1, s2, s3, s4⟩ := gs (jRd T b (r - b) (k + 1))
            exact ⟨⟨by omega, by omega⟩, hk _ _ ⟨by omega, by omega, s1, s2, s3, s4⟩ (by omega)⟩
          · rw [if_neg d]
            rw [if_pos (by omega)] at rs
            have ET : E 349 = T := by rw [i2.1 349 (by decide)]; exact h.2.2.2.2.2
            rw [i4, ET, ← rs]
            obtain ⟨s1, s2, s3, s4⟩ := gs (jRd T b (r - b) (k + 1))
            exact ⟨by omega, by omega, ⟨by omega, by omega⟩, hk _ _ ⟨by omega, by omega, s1, s2, s3, s4⟩ (by omega)⟩
      by_cases ok : 1 ≤ jLt T m (jBl T m p) - jBl T m p ∧ jLt T m (jBl T m p) - jBl T m p ≤ 4
      · refine ⟨1, jLt T m (jBl T m p), jWv T (jBl T m p) (jLt T m (jBl T m p) - jBl T m p), Or.inr rfl, fun _ => ⟨by have := lu.1; omega, lu.2.1, Or.inr (Or.inr ⟨rfl, jWv_ok (fun i a b => tb _ (by omega) (by omega)) ok.1 ok.2⟩)⟩, fun C post h z1 z0 => ?_, fun D col post h c0 c1 hc z1 z0 => ?_⟩
        · unfold wp_5_takeCell
          refine sp_cSign h (by omega) (by omega) (fun e1 e2 => absurd ⟨e1, e2⟩ dot) (fun _ C' g1 g2 => ?_)
          rw [if_pos rfl, if_neg (by decide)]
          refine sp_cLet g2 (fun e1 e2 C2 g3 g4 g5 => ⟨by omega, z1 rfl C2 (jGo_t (jGo3_go g1) g3) g4 g5⟩) (fun e => absurd ok e)
        · refine mod D col post h c0 c1 hc (fun D' g1 g2 g3 g4 => ?_)
          rw [if_pos ok]
          exact z1 rfl D' g1 g2 (g4 ok.1 ok.2)
      · refine ⟨0, jBl T m p, 0, Or.inl rfl, fun z => absurd z (by decide), fun C post h z1 z0 => ?_, fun D col post h c0 c1 hc z1 z0 => ?_⟩
        · unfold wp_5_takeCell
          refine sp_cSign h (by omega) (by omega) (fun e1 e2 => absurd ⟨e1, e2⟩ dot) (fun _ C' g1 g2 => ?_)
          rw [if_pos rfl, if_neg (by decide)]
          refine sp_cLet g2 (fun e1 e2 => absurd ⟨e1, e2⟩ ok) (fun _ C2 g3 => ⟨by omega, z0 rfl C2 (jBad_go (jGo3_go g1) g3)⟩)
        · refine mod D col post h c0 c1 hc (fun D' g1 g2 g3 g4 => ?_)
          rw [if_neg ok]
          exact z0 rfl D' g1 g3

/-- a test more in filter f, which had k -/
def jTa (C C' : jC) (f k a b c d : Int) : Prop := (∀ x, x ≠ 1 → ¬ (f ≤ x ∧ x ≤ f + 4) → C' x = C x) ∧ C' f 0 = k + 1 ∧ (∀ j, C' (f + 1) j = if j = k then a else C (f + 1) j) ∧ (∀ j, C' (f + 2) j = if j = k then b else C (f + 2) j) ∧ (∀ j, C' (f + 3) j = if j = k then c else C (f + 3) j) ∧ (∀ j, C' (f + 4) j = if j = k then d else C (f + 4) j)
theorem sp_takeTest {f k a b c d : Int} {C : jC} {post : jC → Prop} (f1 : 10 ≤ f) (f2 : f + 4 < 35) (hk : C f 0 = k) (h0 : 0 ≤ k) (h1 : k < 6) (y : ∀ C1 : jC, (∀ x, ¬ (f ≤ x ∧ x ≤ f + 4) → C1 x = C x) → jTa C C1 f k a b c d → post C1) : wp_1_takeTest f a b c d C post := by
  unfold wp_1_takeTest
  simp only [jU_ne (show f ≠ f + 1 by omega), jU_ne (show f ≠ f + 2 by omega), jU_ne (show f ≠ f + 3 by omega), jU_ne (show f ≠ f + 4 by omega)]
  rw [hk, if_neg (by omega)]
  refine ⟨by omega, by omega, by omega, by omega, by omega, by omega, by omega, ⟨by omega, by omega⟩, ?_⟩
  have fr : ∀ x, ¬ (f ≤ x ∧ x ≤ f + 4) → jU (jU (jU (jU (jU C (f + 1) k a) (f + 2) k b) (f + 3) k c) (f + 4) k d) f 0 (k + 1) x = C x := fun x hx => by rw [jU_ne (by omega), jU_ne (by omega), jU_ne (by omega), jU_ne (by omega), jU_ne (by omega)]
  refine y _ fr ⟨fun x _ hx => fr x hx, by rw [jU_at, if_pos rfl, if_pos rfl], fun j => ?_, fun j => ?_, fun j => ?_, fun j => ?_⟩
  · rw [jU_ne (by omega), jU_ne (by omega), jU_ne (by omega), jU_ne (by omega), jU_at, if_pos rfl]
  · rw [jU_ne (by omega), jU_ne (by omega), jU_ne (by omega), jU_at, if_pos rfl, jU_ne (by omega)]
  · rw [jU_ne (by omega), jU_ne (by omega), jU_at, if_pos rfl, jU_ne (by omega), jU_ne (by omega)]
  · rw [jU_ne (by omega), jU_at, if_pos rfl, jU_ne (by omega), jU_ne (by omega), jU_ne (by omega)]
theorem jTa_go {A B C : jC} {f k a b c d : Int} (f1 : 10 ≤ f) (h : jGo A B) (h' : jTa B C f k a b c d) : jTa A C f k a b c d := by
  obtain ⟨h1, h2, h3, h4, h5, h6⟩ := h'
  exact ⟨fun x x1 x2 => by rw [h1 x x1 x2, h.1 x x1], h2, fun j => by rw [h3, h.1 _ (by omega)], fun j => by rw [h4, h.1 _ (by omega)], fun j => by rw [h5, h.1 _ (by omega)], fun j => by rw [h6, h.1 _ (by omega)]⟩
/-- where the signs of a pattern end -/
def jPr (T : Int → Int) (m b : Int) : Int := jRn (jPs T) m 400 b
theorem jPr_up {T : Int → Int} {m b : Int} (b0 : 0 ≤ b) (b1 : b ≤ m) (m4 : m ≤ 400) : jUp (jPs T) m b (jPr T m b) := jRn_up 400 b b1 (by omega)
def jStr01 (T : Int → Int) (m r : Int) : Int := if r < m ∧ T r = 42 then 1 else 0
/-- a word stands at b that no pattern may be -/
def jBw (T : Int → Int) (m b : Int) : Prop := jWq T m b 4 ∨ jWq T m b 5 ∨ jWq T m b 6 ∨ jWq T m b 8 ∨ jWq T m b 9 ∨ jWq T m b 10
theorem sp_cPat {T : Int → Int} {m p f k nots : Int} {C : jC} (h : jCL T m p C) (f1 : 10 ≤ f) (f2 : f + 4 < 35) (hk : C f 0 = k) (k0 : 0 ≤ k) (k6 : k < 6) {post : Int → jC → Prop}
    (y1 : ¬ jBw T m (jBl T m p) → jPr T m (jBl T m p) - jBl T m p ≤ 4 → (0 < jPr T m (jBl T m p) - jBl T m p ∨ jStr01 T m (jPr T m (jBl T m p)) = 1) → ∀ C', jXt C C' → jCL T m (jPr T m (jBl T m p) + jStr01 T m (jPr T m (jBl T m p))) C' → jTa C C' f k 2 (jLw T (jBl T m p) (jPr T m (jBl T m p) - jBl T m p)) (jStr01 T m (jPr T m (jBl T m p))) nots → post 1 C')
    (y0 : ¬ (¬ jBw T m (jBl T m p) ∧ jPr T m (jBl T m p) - jBl T m p ≤ 4 ∧ (0 < jPr T m (jBl T m p) - jBl T m p ∨ jStr01 T m (jPr T m (jBl T m p)) = 1)) → ∀ C', jXf C C' (jBl T m p) → post 0 C') : wp_9_readPattern f nots C post := by
  have m4 := h.2.2.2.2.1
  have p0 := h.2.2.1
  have hb := jBl_b h
  unfold wp_9_readPattern
  refine sp_cBl3 h (fun C1 g1 h1 => ?_)
  generalize jBl T m p = b at *
  have hu := jPr_up (T := T) (show 0 ≤ b by omega) hb.2 m4
  generalize hr : jPr T m b = r at *
  obtain ⟨u1, u2, u3, u4⟩ := hu
  have x1 := jXt_go (jGo3_go g1)
  have kk : C1 f 0 = k := by rw [g1.1 f (by omega)]; exact hk
  have bad : ¬ (¬ jBw T m b ∧ r - b ≤ 4 ∧ (0 < r - b ∨ jStr01 T m r = 1)) → wp_9_readPattern_58 C1 post := by
    intro z
    unfold wp_9_readPattern_58 wp_5_failHere
    rw [h1.2.1]
    exact ⟨Or.inl rfl, y0 z _ (jXf_bad x1 (jBad_u _ _))⟩
  have badF : ¬ (¬ jBw T m b ∧ r - b ≤ 4 ∧ (0 < r - b ∨ jStr01 T m r = 1)) → wp_5_failHere C1 (fun x13 C14 => (x13 = 0 ∨ x13 = 1) ∧ post x13 C14) := bad
  refine sp_cWord h1 (by decide) (fun w => ?_) (fun w4 => ?_)
  · rw [if_neg (by decide)]; exact bad (fun z => z.1 (Or.inl w))
  rw [if_pos rfl]
  refine sp_cWord h1 (by decide) (fun w => ?_) (fun w5 => ?_)
  · rw [if_neg (by decide)]; exact bad (fun z => z.1 (Or.inr (Or.inl w)))
  rw [if_pos rfl]
  refine sp_cWord h1 (by decide) (fun w => ?_) (fun w6 => ?_)
  · rw [if_neg (by decide)]; exact bad (fun z => z.1 (Or.inr (Or.inr (Or.inl w))))
  rw [if_pos rfl]
  refine sp_cWord h1 (by decide) (fun w => ?_) (fun w8 => ?_)
  · rw [if_neg (by decide)]; exact bad (fun z => z.1 (Or.inr (Or.inr (Or.inr (Or.inl w)))))
  rw [if_pos rfl]
  refine sp_cWord h1 (by decide) (fun w => ?_) (fun w9 => ?_)
  · rw [if_neg (by decide)]; exact bad (fun z => z.1 (Or.inr (Or.inr (Or.inr (Or.inr (Or.inl w))))))
  rw [if_pos rfl]
  refine sp_cWord h1 (by decide) (fun w => ?_) (fun w10 => ?_)
  · rw [if_neg (by decide)]; exact bad (fun z => z.1 (Or.inr (Or.inr (Or.inr (Or.inr (Or.inr w))))))
  rw [if_pos rfl, h1.2.1]
  have nb : ¬ jBw T m b := by
    rintro (z | z | z | z | z | z)
    · exact w4 z
    · exact w5 z
    · exact w6 z
    · exact w8 z
    · exact w9 z
    · exact w10 z
  have put : ∀ (s : Int), s = jStr01 T m r → r - b ≤ 4 → (0 < r - b ∨ s = 1) → wp_9_readPattern_176 s r f nots (jLw T b (r - b)) s C1 post := by
    intro s es n4 ns
    have sr : s = 0 ∨ s = 1 := by rw [es]; unfold jStr01; split <;> simp
    have rm : r + s ≤ m := by
      rw [es]
      unfold jStr01
      split <;> omega
    unfold wp_9_readPattern_176
    refine ⟨⟨by omega, by omega⟩, ?_⟩
    have gX : jGo C1 (jU C1 1 3 (r + s)) := jGo_u _ _ (Or.inl rfl)
    have hX : jCL T m (r + s) (jU C1 1 3 (r + s)) := jCL_go h1 gX (by rw [jU_at, if_pos rfl, if_pos rfl]) (by omega) rm
    have run : ∀ s', s' = s → wp_1_takeTest f 2 (jLw T b (r - b)) s' nots (jU C1 1 3 (r + s)) (fun C5 => post 1 C5) := by
      intro s' e'
      subst e'
      refine sp_takeTest f1 f2 (k := k) (by rw [jU_ne (by omega)]; exact kk) k0 k6 (fun C5 t1 t2 => ?_)
      have xx : jXt (jU C1 1 3 (r + s')) C5 := ⟨fun x hx => t1 x (by omega), by rw [t1 1 (by omega)], by rw [t1 1 (by omega)], t1 2 (by omega), by rw [t1 1 (by omega)]⟩
      refine y1 nb n4 (by rw [← es]; exact ns) C5 (jXt_t x1 (jXt_t (jXt_go gX) xx)) ?_ ?_
      · rw [← es]
        exact jCL_tx hX xx (by rw [t1 1 (by omega)]; exact hX.2.1) hX.2.2.1 hX.2.2.2.1
      · rw [← es]
        exact jTa_go f1 (jGo_t (jGo3_go g1) gX) t2
    by_cases c : s = 0
    · rw [if_pos c]; exact run 0 c.symm
    · rw [if_neg c]; exact run 1 (by omega)
  have fin : ∀ k' low s, (k' = r - b ∨ (k' = 5 ∧ 5 ≤ r - b)) → (k' ≤ 4 → low = jLw T b k' ∧ s = jStr01 T m r) → (s = 0 ∨ s = 1) → wp_9_readPattern_137 s f nots b k' low C1 post := by
    intro k' low s e1 e2 e3
    unfold wp_9_readPattern_137
    by_cases c : 4 < k'
    · rw [if_pos c]
      exact badF (fun z => by omega)
    rw [if_neg c]
    obtain ⟨el, es⟩ := e2 (by omega)
    have ek : k' = r - b := by omega
    by_cases d : k' = 0
    · rw [if_pos d]
      by_cases s0 : s = 0
      · rw [if_pos s0]
        exact badF (fun z => by omega)
      · rw [if_neg s0, if_neg s0]
        have := put s es (by omega) (Or.inr (by omega))
        rw [el, ek, show b + (r - b) = r by omega]
        have s1 : s = 1 := by omega
        rw [s1] at this ⊢
        exact this
    · rw [if_neg d]
      have := put s es (by omega) (Or.inl (by omega))
      rw [el, ek, show b + (r - b) = r by omega]
      by_cases s0 : s = 0
      · rw [if_pos s0]
        rw [s0] at this ⊢
        exact ⟨⟨by omega, by omega⟩, this⟩
      · rw [if_neg s0]
        have s1 : s = 1 := by omega
        rw [s1] at this ⊢
        exact ⟨⟨by omega, by omega⟩, this⟩
  have star : ∀ k' low, 0 ≤ k' → (k' = r - b ∨ (k' = 5 ∧ 5 ≤ r - b)) → (k' ≤ 4 → low = jLw T b k') → wp_5_byteAt (b + k') C1 (fun x72 => if x72 = 42 then wp_9_readPattern_137 1 f nots b k' low C1 post else wp_9_readPattern_137 0 f nots b k' low C1 post) := by
    intro k' low k'0 e1 e2
    rw [sp_byteAt h1 (by omega)]
    have st : k' = r - b → ((if b + k' < m then jUb (T (b + k')) else -1) = 42 ↔ jStr01 T m r = 1) := by
      intro e
      rw [show b + k' = r by omega]
      unfold jStr01
      by_cases c : r < m
      · obtain ⟨q1, q2, q3⟩ := h1.2.2.2.2.2 r (by omega) c
        rw [if_pos c, jUb_eq q2 q3 (by omega) (by omega)]
        by_cases d : T r = 42
        · rw [if_pos ⟨c, d⟩]; simp [d]
        · rw [if_neg (fun z => d z.2)]; simp [d]
      · rw [if_neg c, if_neg (fun z => c z.1)]; decide
    by_cases c : (if b + k' < m then jUb (T (b + k')) else -1) = 42
    · rw [if_pos c]
      exact fin k' low 1 e1 (fun z => ⟨e2 z, ((st (by omega)).mp c).symm⟩) (Or.inr rfl)
    · rw [if_neg c]
      refine fin k' low 0 e1 (fun z => ⟨e2 z, ?_⟩) (Or.inl rfl)
      have := fun q => c ((st (by omega)).mpr q)
      unfold jStr01 at this ⊢
      split at this
      · exact absurd rfl this
      · rename_i q; rw [if_neg q]
  refine jL2_of (fun k' low => 0 ≤ k' ∧ k' ≤ 5 ∧ k' ≤ r - b ∧ low = jLw T b k') (fun k' _ => (5 - k').toNat) (fun K k' low hi hk1 => ?_) ⟨by omega, by omega, by omega, rfl⟩
  obtain ⟨i0, i1, i2, i3⟩ := hi
  unfold wp_9_readPattern_75
  by_cases c : 4 < k'
  · rw [if_pos c]
    exact ⟨⟨by omega, by omega⟩, star k' low i0 (Or.inr ⟨by omega, by omega⟩) (fun _ => i3)⟩
  · rw [if_neg c]
    refine ⟨⟨by omega, by omega⟩, ?_⟩
    unfold wp_9_isPatternSign
    rw [sp_isLet h1 (by omega)]
    have isS : (b + k' < m ∧ jPs T (b + k') = 1) ↔ k' < r - b := by
      constructor
      · rintro ⟨q1, q2⟩
        by_cases z : k' < r - b
        · exact z
        · rw [show b + k' = r by omega] at q1 q2
          rcases u4 with u4 | u4
          · omega
          · exact absurd q2 u4
      · intro z
        exact ⟨by omega, u3 (b + k') (by omega) (by omega)⟩
    by_cases d : k' < r - b
    · have ps := u3 (b + k') (by omega) (by omega)
      have lt := (isS.mpr d).1
      obtain ⟨q1, q2, q3⟩ := h1.2.2.2.2.2 (b + k') (by omega) lt
      have go : wp_5_byteAt (b + k') C1 (fun x88 => wp_1_withSign low k' x88 C1 (fun x92 => K (k' + 1) x92)) := by
        rw [sp_byteAt h1 (by omega), if_pos lt]
        have tv : jUb (T (b + k')) = T (b + k') := by
          unfold jPs at ps
          unfold jUb
          split at ps
          · rw [if_neg (by omega)]
          · omega
        rw [tv]
        unfold wp_1_withSign
        rw [if_neg (by omega)]
        by_cases e4 : k' < 4
        · rw [if_pos e4]
          have or := jLw_or (T := T) (b := b) (k := k') (fun i a b' => u3 _ (by omega) (by omega)) i0 e4
          unfold jDgt at or
          by_cases e : T (b + k') = 63
          · rw [if_pos e]
            rw [if_pos e] at or
            rw [i3, or]
            exact hk1 _ _ ⟨by omega, by omega, by omega, rfl⟩ (by omega)
          · rw [if_neg e]
            rw [if_neg e] at or
            rw [i3, show T (b + k') - 97 + 1 = T (b + k') - 96 by omega, or]
            exact hk1 _ _ ⟨by omega, by omega, by omega, rfl⟩ (by omega)
        · rw [if_neg e4]
          refine hk1 _ _ ⟨by omega, by omega, by omega, ?_⟩ (by omega)
          rw [jLw_s i0, if_neg e4]; exact i3
      by_cases l : b + k' < m ∧ jIsL T (b + k') = 1
      · have l1 : (if b + k' < m ∧ jIsL T (b + k') = 1 then (1 : Int) else 0) = 1 := if_pos l
        rw [l1, if_neg (by decide)]
        dsimp only
        rw [if_neg (by decide)]
        exact go
      · have l0 : (if b + k' < m ∧ jIsL T (b + k') = 1 then (1 : Int) else 0) = 0 := if_neg l
        have t63 : T (b + k') = 63 := by
          unfold jPs at ps
          split at ps
          · rename_i z
            rcases z with z | z
            · refine absurd ⟨lt, ?_⟩ l
              unfold jIsL; rw [if_pos z]
            · exact z
          · omega
        rw [l0, if_pos rfl, sp_byteAt h1 (by omega)]
        have b63 : (if b + k' < m then jUb (T (b + k')) else -1) = 63 := by
          rw [if_pos lt]
          unfold jUb
          rw [if_neg (by omega)]; exact t63
        rw [if_pos b63]
        dsimp only
        rw [if_neg (by decide)]
        exact go
    · have l0 : (if b + k' < m ∧ jIsL T (b + k') = 1 then (1 : Int) else 0) = 0 := by
        refine if_neg (fun z => d (isS.mp ⟨z.1, ?_⟩))
        have := z.2
        unfold jIsL at this
        unfold jPs
        split at this
        · rename_i q; rw [if_pos (Or.inl q)]
        · omega
      rw [l0, if_pos rfl, sp_byteAt h1 (by omega)]
      have n63 : ¬ (if b + k' < m then jUb (T (b + k')) else -1) = 63 := by
        intro z
        by_cases lt : b + k' < m
        · rw [if_pos lt] at z
          obtain ⟨q1, q2, q3⟩ := h1.2.2.2.2.2 (b + k') (by omega) lt
          have := (jUb_eq q2 q3 (by omega) (by omega)).mp z
          refine d (isS.mp ⟨lt, ?_⟩)
          unfold jPs
          rw [if_pos (Or.inr this)]
        · rw [if_neg lt] at z; omega
      rw [if_neg n63]
      dsimp only
      rw [if_pos rfl]
      exact star k' low i0 (Or.inl (by omega)) (fun _ => i3)

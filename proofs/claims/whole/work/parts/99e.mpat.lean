theorem jCd_rng {T : Int → Int} {b n : Int} (h : ∀ i, 0 ≤ i → i < n → jPs T (b + i) = 1) (n0 : 0 ≤ n) : 0 ≤ jCd T b n ∧ jCd T b n ≤ 1000000 := by
  have key : ∀ k : Nat, (k : Int) ≤ n → 0 ≤ jCd T b k ∧ (k ≤ 4 → jCd T b k < 32 ^ k) ∧ jCd T b k ≤ 1000000 := by
    intro k
    induction k with
    | zero => intro _; exact ⟨Int.le_refl 0, fun _ => by show (0 : Int) < 1; omega, by show (0 : Int) ≤ _; omega⟩
    | succ k ih =>
      intro hk
      obtain ⟨i1, i2, i3⟩ := ih (by omega)
      have s := jCd_s (T := T) (b := b) (k := (k : Int)) (by omega)
      have d := jDgt_rng (h k (by omega) (by omega))
      rw [show ((k + 1 : Nat) : Int) = (k : Int) + 1 by omega, s]
      by_cases c : (k : Int) < 4
      · rw [if_pos c]
        have j2 := i2 (by omega)
        have hk4 : k = 0 ∨ k = 1 ∨ k = 2 ∨ k = 3 := by omega
        rcases hk4 with rfl | rfl | rfl | rfl
        · have j2' : jCd T b ((0 : Nat) : Int) < 1 := j2
          refine ⟨by omega, fun _ => ?_, by omega⟩
          show _ < (32 : Int); omega
        · have j2' : jCd T b ((1 : Nat) : Int) < 32 := j2
          refine ⟨by omega, fun _ => ?_, by omega⟩
          show _ < (1024 : Int); omega
        · have j2' : jCd T b ((2 : Nat) : Int) < 1024 := j2
          refine ⟨by omega, fun _ => ?_, by omega⟩
          show _ < (32768 : Int); omega
        · have j2' : jCd T b ((3 : Nat) : Int) < 32768 := j2
          have d' : jDgt T (b + ((3 : Nat) : Int)) ≤ 27 := d.2
          obtain ⟨c0, c1, c2, c3, c4⟩ := jCd_e T b
          have d0 := jDgt_rng (h 0 (by omega) (by omega))
          rw [Int.add_zero] at d0
          have d1 := jDgt_rng (h 1 (by omega) (by omega))
          have d2 := jDgt_rng (h 2 (by omega) (by omega))
          have c3' : jCd T b ((3 : Nat) : Int) = 1024 * jDgt T b + 32 * jDgt T (b + 1) + jDgt T (b + 2) := c3
          refine ⟨by omega, fun _ => ?_, by omega⟩
          show _ < (1048576 : Int); omega
      · rw [if_neg c]
        exact ⟨i1, fun q => by omega, i3⟩
  have := key n.toNat (by omega)
  rw [Int.toNat_of_nonneg n0] at this
  exact ⟨this.1, this.2.2⟩
theorem sp_mPat {T : Int → Int} {m p t : Int} {D : jC} (h : jML T m p D) (t0 : 0 ≤ t) (t1 : t + 4 < 8954) (n7 : ¬ jWq T m (jBl T m p) 7) {post : Int → jC → Prop}
    (y1 : ¬ jBw T m (jBl T m p) → jPr T m (jBl T m p) - jBl T m p ≤ 4 → (0 < jPr T m (jBl T m p) - jBl T m p ∨ jStr01 T m (jPr T m (jBl T m p)) = 1) → ∀ D', jGoW D D' → jML T m (jPr T m (jBl T m p) + jStr01 T m (jPr T m (jBl T m p))) D' → (∀ j, ¬ (t + 1 ≤ j ∧ j < t + 5) → D' 346 j = D 346 j) → D' 346 (t + 1) = 2 → D' 346 (t + 2) = jCd T (jBl T m p) (jPr T m (jBl T m p) - jBl T m p) → D' 346 (t + 3) = jPr T m (jBl T m p) - jBl T m p → D' 346 (t + 4) = jStr01 T m (jPr T m (jBl T m p)) → post 1 D')
    (y0 : ¬ (¬ jBw T m (jBl T m p) ∧ jPr T m (jBl T m p) - jBl T m p ≤ 4 ∧ (0 < jPr T m (jBl T m p) - jBl T m p ∨ jStr01 T m (jPr T m (jBl T m p)) = 1)) → ∀ D', jGoW D D' → D' 345 9 = jBl T m p → (∀ j, ¬ (t + 1 ≤ j ∧ j < t + 5) → D' 346 j = D 346 j) → post 0 D') : wp_12_readPattern t D post := by
  have m4 := h.2.2.2.2.1
  have p0 := h.2.2.1
  have hb := jBl_m h
  unfold wp_12_readPattern
  refine sp_mLetters h (fun D1 d1 d7 d9 => ?_)
  generalize jBl T m p = b at *
  have gT : D1 349 = T := by rw [d1.1 349 (by decide)]; exact h.2.2.2.2.2
  have hu := jPr_up (T := T) (show 0 ≤ b by omega) hb.2 m4
  generalize hr : jPr T m b = r at *
  obtain ⟨u1, u2, u3, u4⟩ := hu
  have D1w : D1 346 = D 346 := d1.1 346 (by decide)
  have wA : ∀ z : Nat, z < 11 → ∀ q : Int → Prop, (jWq T m b z → q 1) → (¬ jWq T m b z → q 0) → wp_12_isWord z D1 q := fun z hz q => sp_mWordAt gT (by omega) hb.2 m4 d7 d9 hz
  have bad : jBw T m b → post 0 D1 := fun z => y0 (fun q => q.1 z) D1 (jGoW_N d1) d9 (fun j _ => by rw [D1w])
  unfold wp_12_isAWord wp_12_isAWord_63
  refine wA 4 (by decide) _ (fun w => ?_) (fun w4 => ?_)
  · rw [if_neg (by decide)]; dsimp only; rw [if_neg (by decide)]; exact bad (Or.inl w)
  rw [if_pos rfl]
  refine wA 5 (by decide) _ (fun w => ?_) (fun w5 => ?_)
  · rw [if_neg (by decide)]; dsimp only; rw [if_neg (by decide)]; exact bad (Or.inr (Or.inl w))
  rw [if_pos rfl]
  refine wA 6 (by decide) _ (fun w => ?_) (fun w6 => ?_)
  · rw [if_neg (by decide)]; dsimp only; rw [if_neg (by decide)]; exact bad (Or.inr (Or.inr (Or.inl w)))
  rw [if_pos rfl]
  refine wA 7 (by decide) _ (fun w => absurd w n7) (fun _ => ?_)
  rw [if_pos rfl]
  refine wA 8 (by decide) _ (fun w => ?_) (fun w8 => ?_)
  · rw [if_neg (by decide)]; dsimp only; rw [if_neg (by decide)]; exact bad (Or.inr (Or.inr (Or.inr (Or.inl w))))
  rw [if_pos rfl]
  refine wA 9 (by decide) _ (fun w => ?_) (fun w9 => ?_)
  · rw [if_neg (by decide)]; dsimp only; rw [if_neg (by decide)]; exact bad (Or.inr (Or.inr (Or.inr (Or.inr (Or.inl w)))))
  rw [if_pos rfl]
  refine wA 10 (by decide) _ (fun w => ?_) (fun w10 => ?_)
  · rw [if_neg (by decide)]; dsimp only; rw [if_neg (by decide)]; exact bad (Or.inr (Or.inr (Or.inr (Or.inr (Or.inr w)))))
  rw [if_pos rfl]
  dsimp only
  rw [if_pos rfl, d9]
  have nb : ¬ jBw T m b := by
    rintro (z | z | z | z | z | z)
    · exact w4 z
    · exact w5 z
    · exact w6 z
    · exact w8 z
    · exact w9 z
    · exact w10 z
  have ps1 : ∀ i, 0 ≤ i → i < r - b → jPs T (b + i) = 1 := fun i a c => u3 _ (by omega) (by omega)
  refine jL3_of (fun n code E => 0 ≤ n ∧ n ≤ r - b ∧ code = jCd T b n ∧ jGoN D E ∧ E 345 7 = b + n ∧ E 345 9 = b) (fun n _ _ => (r - b - n).toNat) (fun K n code E hi hk => ?_) ⟨by omega, by omega, rfl, jGoN_t d1 (jGoN_u _ _ (Or.inl rfl)), by rw [jU_at, if_pos rfl, if_pos rfl]; omega, by rw [jU_at, if_pos rfl, if_neg (by decide)]; exact d9⟩
  obtain ⟨i0, i1, i2, i3, i7, i9⟩ := hi
  have hE : jML T m (b + n) E := jML_goN h i3 i7 (by omega) (by omega)
  have ET : E 349 = T := hE.2.2.2.2.2
  have cr := jCd_rng (T := T) (b := b) (n := n) (fun i a c => ps1 i a (by omega)) i0
  have cs := jCd_s (T := T) (b := b) (k := n) i0
  unfold wp_12_readPattern_25
  by_cases d : n < r - b
  · have ps := ps1 n i0 d
    have dg := jDgt_rng ps
    have go : wp_12_readPattern_47 t n code E post K := by
      unfold wp_12_readPattern_47
      have gn : jGoN D (jU E 345 7 (b + n + 1)) := jGoN_t i3 (jGoN_u _ _ (Or.inl rfl))
      have g7 : jU E 345 7 (b + n + 1) 345 7 = b + (n + 1) := by rw [jU_at, if_pos rfl, if_pos rfl]; omega
      have g9 : jU E 345 7 (b + n + 1) 345 9 = b := by rw [jU_at, if_pos rfl, if_neg (by decide)]; exact i9
      rw [i7, ET]
      by_cases c4 : 4 ≤ n
      · rw [if_pos c4]
        rw [if_neg (by omega)] at cs
        exact ⟨⟨by omega, by omega⟩, ⟨by omega, by omega⟩, hk _ _ _ ⟨by omega, by omega, by rw [cs]; exact i2, gn, g7, g9⟩ (by omega)⟩
      · rw [if_neg c4]
        rw [if_pos (by omega)] at cs
        by_cases e : T (b + n) = 63
        · rw [sp_isAt1 hE ⟨by omega, by omega, by omega⟩, if_neg (by decide)]
          have dv : jDgt T (b + n) = 27 := by unfold jDgt; rw [if_pos e]
          rw [dv] at cs
          have c27 : jCd T b (n + 1) ≤ 1000000 := (jCd_rng (T := T) (b := b) (n := n + 1) (fun i a c => ps1 i a (by omega)) (by omega)).2
          refine ⟨⟨by omega, by omega⟩, ⟨by omega, by omega⟩, hk _ _ _ ⟨by omega, by omega, by rw [cs, i2], gn, g7, g9⟩ (by omega)⟩
        · rw [sp_isAt0 hE (fun z => e (by omega)), if_pos rfl]
          have dv : jDgt T (b + n) = T (b + n) - 96 := by unfold jDgt; rw [if_neg e]
          rw [dv] at cs dg
          have c27 : jCd T b (n + 1) ≤ 1000000 := (jCd_rng (T := T) (b := b) (n := n + 1) (fun i a c => ps1 i a (by omega)) (by omega)).2
          refine ⟨by omega, by omega, ⟨by omega, by omega⟩, hk _ _ _ ⟨by omega, by omega, by rw [cs, i2]; omega, gn, g7, g9⟩ (by omega)⟩
    by_cases l : b + n < m ∧ 97 ≤ T (b + n) ∧ T (b + n) ≤ 122
    · rw [sp_isAt1 hE l, if_neg (by decide)]; exact go
    · rw [sp_isAt0 hE l, if_pos rfl]
      have t63 : T (b + n) = 63 := by
        unfold jPs at ps
        split at ps
        · rename_i z
          rcases z with z | z
          · exact absurd ⟨by omega, z⟩ l
          · exact z
        · omega
      rw [sp_isAt1 hE ⟨by omega, by omega, by omega⟩, if_neg (by decide)]; exact go
  · have en : n = r - b := by omega
    subst en
    rw [show b + (r - b) = r by omega] at hE i7
    have np : ¬ (r < m ∧ jPs T r = 1) := by
      rintro ⟨q1, q2⟩
      rcases u4 with u4 | u4
      · omega
      · exact u4 q2
    have n1 : ¬ (r < m ∧ 97 ≤ T r ∧ T r ≤ 122) := fun z => np ⟨z.1, by unfold jPs; rw [if_pos (Or.inl z.2)]⟩
    have n2 : ¬ (r < m ∧ 63 ≤ T r ∧ T r ≤ 63) := fun z => np ⟨z.1, by unfold jPs; rw [if_pos (Or.inr (by omega))]⟩
    rw [sp_isAt0 hE n1, if_pos rfl, sp_isAt0 hE n2, if_pos rfl]
    have run : ∀ s, s = jStr01 T m r → (s = 0 ∨ s = 1) → wp_12_readPattern_129 s (E 345 7) t (r - b) code s E post := by
      intro s es sr
      have rm : r + s ≤ m := by
        rw [es]
        unfold jStr01
        split <;> omega
      unfold wp_12_readPattern_129
      rw [i7]
      refine ⟨⟨by omega, by omega⟩, by omega, by omega, by omega, by omega, by omega, by omega, ?_⟩
      have EW : E 346 = D 346 := i3.1 346 (by decide)
      have tail : ∀ s', s' = s → wp_12_readPattern_177 s' (t + 4) 346 (r - b) s (jU (jU (jU (jU E 345 7 (r + s)) 346 (t + 1) 2) 346 (t + 2) code) 346 (t + 3) (r - b)) post := by
        intro s' e'
        subst e'
        unfold wp_12_readPattern_177
        refine ⟨by omega, by omega, ?_⟩
        generalize hX : jU (jU (jU (jU (jU E 345 7 (r + s')) 346 (t + 1) 2) 346 (t + 2) code) 346 (t + 3) (r - b)) 346 (t + 4) s' = X
        have xb : ∀ b', b' ≠ 345 → b' ≠ 346 → X b' = E b' := fun b' h1 h2 => by rw [← hX, jU_ne h2, jU_ne h2, jU_ne h2, jU_ne h2, jU_ne h1]
        have x345 : ∀ j, X 345 j = if j = 7 then r + s' else E 345 j := fun j => by rw [← hX, jU_ne (by decide), jU_ne (by decide), jU_ne (by decide), jU_ne (by decide), jU_at, if_pos rfl]
        have x346 : ∀ j, X 346 j = if j = t + 4 then s' else if j = t + 3 then r - b else if j = t + 2 then code else if j = t + 1 then 2 else D 346 j := by
          intro j
          rw [← hX, jU_at, if_pos rfl]
          by_cases e1 : j = t + 4
          · rw [if_pos e1, if_pos e1]
          rw [if_neg e1, if_neg e1, jU_at, if_pos rfl]
          by_cases e2 : j = t + 3
          · rw [if_pos e2, if_pos e2]
          rw [if_neg e2, if_neg e2, jU_at, if_pos rfl]
          by_cases e3 : j = t + 2
          · rw [if_pos e3, if_pos e3]
          rw [if_neg e3, if_neg e3, jU_at, if_pos rfl]
          by_cases e4 : j = t + 1
          · rw [if_pos e4, if_pos e4]
          rw [if_neg e4, if_neg e4, jU_ne (by decide), EW]
        have gX : jGoW D X := ⟨fun b' h1 h2 => by rw [xb b' h1 h2, i3.1 b' h1], fun j h1 h2 _ => by rw [x345, if_neg h1, i3.2 j h1 h2]⟩
        have x9 : X 345 9 = b := by rw [x345, if_neg (by decide)]; exact i9
        have xo : ∀ j, ¬ (t + 1 ≤ j ∧ j < t + 5) → X 346 j = D 346 j := fun j hj => by rw [x346, if_neg (by omega), if_neg (by omega), if_neg (by omega), if_neg (by omega)]
        have ok : r - b ≤ 4 → (0 < r - b ∨ jStr01 T m r = 1) → post 1 X := by
          intro q1 q2
          refine y1 nb q1 q2 X gX ?_ xo ?_ ?_ ?_ ?_
          · rw [← es]
            exact jML_W h gX (by rw [x345, if_pos rfl]) (by omega) rm
          · rw [x346, if_neg (by omega), if_neg (by omega), if_neg (by omega), if_pos rfl]
          · rw [x346, if_neg (by omega), if_neg (by omega), if_pos rfl]; exact i2
          · rw [x346, if_neg (by omega), if_pos rfl]
          · rw [x346, if_pos rfl]; exact es
        have no : ¬ (r - b ≤ 4 ∧ (0 < r - b ∨ jStr01 T m r = 1)) → post 0 X := fun q => y0 (fun z => q z.2) X gX x9 xo
        by_cases q1 : 4 < r - b
        · rw [if_pos q1]; exact no (fun z => by omega)
        rw [if_neg q1]
        by_cases q2 : 0 < r - b
        · rw [if_pos q2]; exact ok (by omega) (Or.inl q2)
        rw [if_neg q2]
        by_cases q3 : s' = 0
        · rw [if_pos q3]; exact no (fun z => by omega)
        · rw [if_neg q3]; exact ok (by omega) (Or.inr (by omega))
      by_cases c : s = 0
      · rw [if_pos c]; exact ⟨⟨by omega, by omega⟩, tail 0 c.symm⟩
      · rw [if_neg c]; exact ⟨⟨by omega, by omega⟩, tail 1 (by omega)⟩
    by_cases st : r < m ∧ 42 ≤ T r ∧ T r ≤ 42
    · rw [sp_isAt1 hE st, if_neg (by decide)]
      exact run 1 (by unfold jStr01; rw [if_pos ⟨st.1, by omega⟩]) (Or.inr rfl)
    · rw [sp_isAt0 hE st, if_pos rfl]
      exact run 0 (by unfold jStr01; rw [if_neg (fun z => st ⟨z.1, by omega, by omega⟩)]) (Or.inl rfl)

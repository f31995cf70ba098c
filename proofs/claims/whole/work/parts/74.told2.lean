theorem op_told {C : jC} {K v x : Int} (h : rAll C K) : wp_11_told v x C (fun E C1 => E = jIOB ∧ oM (wp_12_told v x) K 1 C1) (fun r C1 => oR (wp_12_told v x) K r C1) := by
  have hs := r_now h
  unfold wp_11_told
  refine sp_viewNumbered (fun hn => ⟨rfl, ?_⟩) (fun v0 v1 => ?_)
  · unfold oM wp_12_told
    rw [sp_noView1 hn, sp_throws1, if_neg (by decide), m00]
    exact ⟨m0_0 _ _, rAll_m0 h⟩
  · obtain ⟨k1, k2, k3, -⟩ := r_cols hs
    obtain ⟨o1, o2, o3, o4, o5⟩ := r_ord hs
    obtain ⟨l1, l2, l3, l4, -⟩ := r_list hs v0 v1
    have H : ∀ i, ∃ j, 0 ≤ i → i < C 346 (298 + 2114 * v) → 0 ≤ j ∧ j < C 346 273 ∧ C 42 j = C (51 + 72 * v + 29 + 1) i := by
      intro i
      by_cases c : 0 ≤ i ∧ i < C 346 (298 + 2114 * v)
      · obtain ⟨j, j0, j1, j2⟩ := (l4 i c.1 c.2).2.2.2
        simp only [Int.reduceAdd] at j1 j2
        exact ⟨j, fun _ _ => ⟨j0, by omega, j2⟩⟩
      · exact ⟨0, fun a b => absurd ⟨a, b⟩ c⟩
    obtain ⟨P, hP⟩ := Classical.skolem.mp H
    obtain ⟨t0, e0⟩ : ∃ t0 : Prop, t0 = jTl C (C (51 + 72 * v + 29 + 1)) P (C 346 (298 + 2114 * v)) (fun _ => 0) 0 := ⟨_, rfl⟩
    obtain ⟨t1, e1⟩ : ∃ t1 : Int → Prop, ∀ a, t1 a = jTl C (C (51 + 72 * v + 29 + 1)) P (C 346 (298 + 2114 * v)) (fun _ => a) 1 := ⟨_, fun _ => rfl⟩
    obtain ⟨t2, e2⟩ : ∃ t2 : Int → Int → Prop, ∀ a b, t2 a b = (a / 2 ≠ b / 2 ∧ jTl C (C (51 + 72 * v + 29 + 1)) P (C 346 (298 + 2114 * v)) (fun k => if k = 0 then a else b) 2) := ⟨_, fun _ _ => rfl⟩
    have hd : ∀ a b, t2 a b → a / 2 ≠ b / 2 := fun a b z => by rw [e2] at z; exact z.1
    have fin : ∀ (D : jC) (z a b : Int), (∀ q, q ≠ 339 → q ≠ 342 → D q = C q) → jOut (2 * C 36 0) t0 t1 t2 z a b → D 339 4 = z → (1 ≤ z → D 339 5 = a) → (2 ≤ z → D 339 6 = b) → (if x = -1 then oR (wp_12_told v x) K (D 339 4) D else if x < 0 then oR (wp_12_told v x) K (-1) D else if D 339 4 ≤ x then oR (wp_12_told v x) K (-1) D else wp_4_sortNeeded x D (fun x13 => oR (wp_12_told v x) K x13 D)) := by
      intro D z a b d1 ho d4 d5 d6
      have hD : rAll D K := rAll_q h (fun b hb => d1 b (by omega) (by omega))
      have mod : ∀ post : Int → jC → Prop, (∀ (E : jC) (z' a' b' : Int), (∀ q, q ≠ 355 → E q = jU D 345 0 0 q) → jOut (2 * C 36 0) t0 t1 t2 z' a' b' → (1 ≤ z' → E 355 0 = a') → (2 ≤ z' → E 355 1 = b') → post z' E) → wp_12_sortsTelling (298 + 2114 * v) (jU D 345 0 0) post := by
        intro post y
        have dw : jU D 345 0 0 346 = C 346 := by rw [m0_w, d1 346 (by decide) (by decide)]
        unfold wp_12_sortsTelling
        refine sp_mTold (f := fun _ => 0) hs v0 v1 (by omega) (by omega) hP (fun k a b => by omega) dw (fun k a b => by omega) (fun q => ?_) (fun q => ?_)
        · rw [if_neg (by decide)]
          exact y _ 0 0 0 (fun _ _ => rfl) (Or.inl ⟨rfl, by rw [e0]; exact q⟩) (by omega) (by omega)
        · rw [if_pos rfl]
          rw [← e0] at q
          unfold wp_12_columns
          dsimp only
          rw [dw, ← k1]
          refine ⟨⟨by omega, by omega⟩, ?_⟩
          refine sp_mOne (t1 := t1) (by omega) (by omega) (fun E a p h1 h2 h3 h4 h5 h6 => ?_) dw (fun E a g1 g2 g3 g4 g5 g6 => ?_) (fun E g1 g2 => ?_)
          · rw [e1] at h5 h6
            exact sp_mTold (f := fun _ => a) hs v0 v1 (by omega) (by omega) hP (fun k a b => by omega) h1 (fun k b c => by rw [show k = 0 by omega]; exact h2) h5 h6
          · exact y E 1 a 0 g1 (Or.inr (Or.inl ⟨rfl, q, g3, g4, g5, g6⟩)) (fun _ => g2) (by omega)
          · refine sp_mTwo (t2 := t2) (W := C 346) (by omega) (by omega) hd (fun E a c p h1 h2 h3 h4 h5 h6 h7 h8 h9 h10 => ?_) (by rw [g1 346 (by decide)]; exact dw) (fun F a c f1 f2 f3 f4 f5 f6 f7 f8 f9 => ?_) (fun F f1 f2 => ?_)
            · rw [e2] at h9 h10
              refine sp_mTold (f := fun k => if k = 0 then a else c) hs v0 v1 (by omega) (by omega) hP (fun k b d => by split <;> omega) h1 (fun k b d => ?_) (fun z => h9 ⟨h8, z⟩) (fun z => h10 (fun w => z w.2))
              by_cases e : k = 0
              · rw [e]; exact h2
              · skip
                rw [if_neg e, show k = 1 by omega]; exact h3
            · exact y F 2 a c (fun q hq => by rw [f1 q hq, g1 q hq]) (Or.inr (Or.inr (Or.inl ⟨rfl, q, g2, f4, f5, f6, f7, f8, f9⟩))) (fun _ => f2) (fun _ => f3)
            · exact y F (-1) 0 0 (fun q hq => by rw [f1 q hq, g1 q hq]) (Or.inr (Or.inr (Or.inr ⟨rfl, q, g2, f2⟩))) (by omega) (by omega)
      have all : ∀ r, (∀ (E : jC), (1 ≤ z → E 355 0 = a) → (2 ≤ z → E 355 1 = b) → E 345 0 = 0 → rAll E K → (if x = -1 then z = r ∧ E 345 0 = 0 ∧ rAll E K else jRng (z - 1) ∧ wp_12_in x 0 (z - 1) E (fun x21 => if x21 = 0 then E 345 0 = 0 ∧ -1 = r ∧ rAll E K else 0 ≤ x ∧ x < 2 ∧ E 345 0 = 0 ∧ E 355 x = r ∧ rAll E K))) → oR (wp_12_told v x) K r D := by
        intro r y
        unfold oR wp_12_told
        rw [sp_noView0 v0 v1, sp_throws0, if_pos rfl, sp_listOf v0 v1]
        refine mod _ (fun E z' a' b' g1 g2 g3 g4 => ?_)
        obtain ⟨u1, u2, u3⟩ := jOut_uniq ho g2
        subst u1
        have g0 : E 345 0 = 0 := by rw [g1 345 (by decide)]; exact m0_0 _ _
        have gA : rAll E K := rAll_x hD (fun b b1 b2 => by rw [g1 b (by omega), jU_ne (by omega)]) (fun j hj => by rw [g1 345 (by decide), jU_at, if_pos rfl, if_neg hj])
        have := y E (fun q => by rw [g3 q, u2 q]) (fun q => by rw [g4 q, u3 q]) g0 gA
        by_cases c : x = -1
        · rw [if_pos c] at this ⊢
          exact ⟨g0, this.1, gA⟩
        · rw [if_neg c] at this ⊢
          exact this
      have zr : z = -1 ∨ z = 0 ∨ z = 1 ∨ z = 2 := by
        rcases ho with ⟨q, -⟩ | ⟨q, -⟩ | ⟨q, -⟩ | ⟨q, -⟩ <;> omega
      have zj : jRng (z - 1) := ⟨by omega, by omega⟩
      by_cases c1 : x = -1
      · rw [if_pos c1]
        refine all _ (fun E g3 g4 g0 gA => ?_)
        rw [if_pos c1]
        exact ⟨d4.symm, g0, gA⟩
      rw [if_neg c1]
      by_cases c2 : x < 0
      · rw [if_pos c2]
        refine all _ (fun E g3 g4 g0 gA => ?_)
        rw [if_neg c1, sp_in0 (by omega), if_pos rfl]
        exact ⟨zj, g0, rfl, gA⟩
      rw [if_neg c2, d4]
      by_cases c3 : z ≤ x
      · rw [if_pos c3]
        refine all _ (fun E g3 g4 g0 gA => ?_)
        rw [if_neg c1, sp_in0 (by omega), if_pos rfl]
        exact ⟨zj, g0, rfl, gA⟩
      rw [if_neg c3]
      unfold wp_4_sortNeeded
      by_cases c4 : x = 0
      · rw [if_pos c4]
        refine all _ (fun E g3 g4 g0 gA => ?_)
        rw [if_neg c1, sp_in1 (by omega) (by omega), if_neg (by decide)]
        exact ⟨zj, by omega, by omega, g0, by rw [c4, g3 (by omega), d5 (by omega)], gA⟩
      · rw [if_neg c4]
        refine all _ (fun E g3 g4 g0 gA => ?_)
        rw [if_neg c1, sp_in1 (by omega) (by omega), if_neg (by decide)]
        exact ⟨zj, by omega, by omega, g0, by rw [show x = 1 by omega, g4 (by omega), d6 (by omega)], gA⟩
    unfold wp_4_tellSorts
    refine jL2_of (fun k D => 0 ≤ k ∧ k ≤ C 346 (298 + 2114 * v) ∧ (∀ b, b ≠ 342 → D b = C b) ∧ (∀ i, 0 ≤ i → i < k → D 342 i = P i)) (fun k _ => (C 346 (298 + 2114 * v) - k).toNat) (fun K1 k D hi hk => ?_) ⟨by omega, by omega, fun _ _ => rfl, fun i a b => by omega⟩
    obtain ⟨i0, i1, d1, d2⟩ := hi
    have hD : rS 35 D (C 346) := rS_340 hs (fun b hb => d1 b (by omega))
    unfold wp_4_tellSorts_2
    rw [sp_length, d1 (51 + 72 * v + 29) (by omega), l1]
    by_cases a : C 346 (298 + 2114 * v) ≤ k
    · rw [if_pos a]
      have ek : k = C 346 (298 + 2114 * v) := by omega
      rw [ek] at d2
      have eT : ∀ f m, jTl D (D (51 + 72 * v + 29 + 1)) P (C 346 (298 + 2114 * v)) f m = jTl C (C (51 + 72 * v + 29 + 1)) P (C 346 (298 + 2114 * v)) f m := by
        intro f m
        unfold jTl jOk jCs
        rw [d1 (51 + 72 * v + 29 + 1) (by omega), d1 39 (by decide)]
      have hP' : ∀ i, 0 ≤ i → i < C 346 (298 + 2114 * v) → 0 ≤ P i ∧ P i < 24 := fun i a b => ⟨(hP i a b).1, by have := (hP i a b).2.1; omega⟩
      have d36 : D 36 = C 36 := d1 36 (by decide)
      unfold wp_4_tellSorts_40
      refine sp_cTold (f := fun _ => 0) (m := 0) hD v0 v1 hP' (Or.inl ⟨rfl, rfl, rfl⟩) (fun k a b => by omega) d2 (fun q => ?_) (fun q => ?_)
      · rw [if_neg (by decide)]
        rw [eT, ← e0] at q
        refine fin _ 0 0 0 (fun b b1 b2 => by rw [jU_ne b1, d1 b b2]) (Or.inl ⟨rfl, q⟩) (by rw [jU_at, if_pos rfl, if_pos rfl]) (by omega) (by omega)
      · rw [if_pos rfl]
        rw [eT, ← e0] at q
        refine sp_tellOne (t1 := t1) (N := 2 * C 36 0) (by rw [d36]) (by omega) (by omega) (fun a p h3 h4 h5 h6 => ?_) (fun a h3 h4 h5 h6 => ?_) (fun g2 => ?_)
        · rw [e1, ← eT] at h5 h6
          exact sp_cTold (f := fun _ => a) (m := 1) hD v0 v1 hP' (Or.inr (Or.inl ⟨rfl, rfl, rfl⟩)) (fun k a b => by omega) d2 h5 h6
        · rw [if_neg (by decide)]
          refine fin _ 1 a 0 (fun b b1 b2 => by rw [jU_ne b1, jU_ne b1, d1 b b2]) (Or.inr (Or.inl ⟨rfl, q, h3, h4, h5, h6⟩)) (by rw [jU_at, if_pos rfl, if_pos rfl]) (fun _ => by rw [jU_at, if_pos rfl, if_neg (by decide), jU_at, if_pos rfl, if_pos rfl]) (by omega)
        · rw [if_pos rfl]
          refine sp_tellTwo (t2 := t2) (N := 2 * C 36 0) (by rw [d36]) (by omega) (by omega) hd (fun a c p h3 h4 h5 h6 h7 h8 h9 => ?_) (fun a c f4 f5 f6 f7 f8 f9 => ?_) (fun f2 => ?_)
          · rw [e2, ← eT] at h8 h9
            exact sp_cTold (f := fun k => if k = 0 then a else c) (m := 2) hD v0 v1 hP' (Or.inr (Or.inr ⟨rfl, rfl, rfl⟩)) (fun k b d => by split <;> omega) d2 (fun z => h8 ⟨h7, z⟩) (fun z => h9 (fun w => z w.2))
          · rw [if_neg (by decide)]
            refine fin _ 2 a c (fun b b1 b2 => by rw [jU_ne b1, jU_ne b1, jU_ne b1, d1 b b2]) (Or.inr (Or.inr (Or.inl ⟨rfl, q, g2, f4, f5, f6, f7, f8, f9⟩))) (by rw [jU_at, if_pos rfl, if_pos rfl]) (fun _ => by rw [jU_at, if_pos rfl, if_neg (by decide), jU_at, if_pos rfl, if_neg (by decide), jU_at, if_pos rfl, if_pos rfl]) (fun _ => by rw [jU_at, if_pos rfl, if_neg (by decide), jU_at, if_pos rfl, if_pos rfl])
          · rw [if_pos rfl]
            refine fin _ (-1) 0 0 (fun b b1 b2 => by rw [jU_ne b1, d1 b b2]) (Or.inr (Or.inr (Or.inr ⟨rfl, q, g2, f2⟩))) (by rw [jU_at, if_pos rfl, if_pos rfl]) (by omega) (by omega)
    · rw [if_neg a, if_neg (by omega)]
      rw [sp_vat hD v0 v1 i0 (by omega), d1 (51 + 72 * v + 29 + 1) (by omega)]
      refine sp_placeOf (by simp only [Int.reduceAdd]; rw [d1 41 (by decide)]; omega) (fun r hr => ⟨i0, ?_⟩)
      simp only [Int.reduceAdd] at hr
      rw [d1 41 (by decide), d1 42 (by decide), o1] at hr
      obtain ⟨p0, p1, p2⟩ := hP k i0 (by omega)
      have er : r = P k := by
        refine jFst_uniq hr (Or.inl ⟨p0, p1, p2, fun j j0 j1 e => ?_⟩)
        exact o5 j (P k) j0 j1 p1 (by rw [p2]; exact e)
      refine hk _ _ ⟨by omega, by omega, fun b hb => by rw [jU_ne hb, d1 b hb], fun i a b => ?_⟩ (by omega)
      rw [jU_at, if_pos rfl]
      by_cases e : i = k
      · rw [if_pos e, e, er]
      · rw [if_neg e]; exact d2 i a (by omega)

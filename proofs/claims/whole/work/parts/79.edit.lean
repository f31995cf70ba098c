-- edits through a view
theorem sp_noPlace0 {C D : jC} {w : Int → Int} (h : rS 35 C w) (hD : D 346 = w) {v i : Int} {post : Int → Prop} (v0 : 0 ≤ v) (v1 : v < 4) (i0 : 0 ≤ i) (i1 : i < w (298 + 2114 * v)) : wp_12_noPlace v i D post = post 0 := by
  obtain ⟨l1, l2, l3, -⟩ := r_list h v0 v1
  rw [sp_noPlace v0 v1 (by rw [hD]; omega) (by rw [hD]; omega), if_pos (by rw [hD]; omega)]
theorem sp_noPlace1 {C D : jC} {w : Int → Int} (h : rS 35 C w) (hD : D 346 = w) {v i : Int} {post : Int → Prop} (v0 : 0 ≤ v) (v1 : v < 4) (hn : ¬ (0 ≤ i ∧ i < w (298 + 2114 * v))) : wp_12_noPlace v i D post = post 1 := by
  obtain ⟨l1, l2, l3, -⟩ := r_list h v0 v1
  rw [sp_noPlace v0 v1 (by rw [hD]; omega) (by rw [hD]; omega), if_neg (by rw [hD]; omega)]
theorem sp_noCell1 {C D : jC} {w : Int → Int} (h : rS 35 C w) (hD : D 346 = w) {v i c : Int} {post : Int → jC → Prop} (hn : ¬ ((0 ≤ v ∧ v < 4) ∧ (0 ≤ i ∧ i < w (298 + 2114 * v)) ∧ 0 ≤ c ∧ c < C 36 0)) (y : post 1 (jU D 345 0 1)) : wp_12_noCell v i c D post := by
  unfold wp_12_noCell
  by_cases a : 0 ≤ v ∧ v < 4
  · rw [sp_noView0 a.1 a.2, if_pos rfl]
    by_cases b : 0 ≤ i ∧ i < w (298 + 2114 * v)
    · rw [sp_noPlace0 h hD a.1 a.2 b.1 b.2, if_pos rfl, sp_noCol1 h hD (by omega), if_neg (by decide), sp_throws1]
      exact ⟨by omega, y⟩
    · rw [sp_noPlace1 h hD a.1 a.2 b, if_neg (by decide), sp_throws1]
      exact ⟨by omega, y⟩
  · rw [sp_noView1 a, if_neg (by decide), sp_throws1]
    exact ⟨by omega, y⟩
theorem sp_noCell0 {C D : jC} {w : Int → Int} (h : rS 35 C w) (hD : D 346 = w) {v i c : Int} {post : Int → jC → Prop} (v0 : 0 ≤ v) (v1 : v < 4) (i0 : 0 ≤ i) (i1 : i < w (298 + 2114 * v)) (c0 : 0 ≤ c) (c1 : c < C 36 0) (y : post 0 D) : wp_12_noCell v i c D post := by
  unfold wp_12_noCell
  rw [sp_noView0 v0 v1, if_pos rfl, sp_noPlace0 h hD v0 v1 i0 i1, if_pos rfl, sp_noCol0 h hD c0 c1, if_pos rfl, sp_throws0]
  exact ⟨by omega, y⟩
theorem rDr_0 {C : jC} {w d : Int → Int} : rDr (jU C 46 0 0) w (jSet d 0 0) := by
  unfold rDr
  rw [jSet_eq]
  exact ⟨by rw [jU_at, if_pos rfl, if_pos rfl], by omega, fun i a b => by omega, fun i j a b c => by omega⟩
theorem rS_46 {C D : jC} {w : Int → Int} (h : rS 35 C w) (hD : ∀ b, b ≠ 46 → D b = C b) : rS 35 D w := rS_keep (fun b hb => hD b (by unfold rOwn at hb; omega)) h
/-- the end of an edit: the class's answer, and then the model's -/
theorem ed_fin {C : jC} {K : Int} (h : rAll C K) {v : Int} (v0 : 0 ≤ v) (v1 : v < 4) {C2 : jC} {w d : Int → Int} (c2 : ∀ b, ¬ (36 ≤ b ∧ b < 339) → C2 b = C b) (h2 : rS 35 C2 w) (r2 : rDr C2 w d) (d6 : d 0 ≤ 60) (w2 : w 2 ≤ K) {post : Int → jC → Prop}
    (hp : ∀ (r : Int) (C3 : jC), (∀ b, ¬ (36 ≤ b ∧ b < 339) → C3 b = C b) → (∀ b, b < 46 → C3 b = C2 b) → (∀ q : Int → jC → Prop, (∀ D : jC, D 345 0 = 0 → rAll D K → q r D) → wp_12_isEdit v (jV (jV (jU C3 345 0 0) 346 w) 352 d) q) → post r C3) : wp_8_finishEdit 35 v C2 post := by
  obtain ⟨-, -, -, hE⟩ := r_view h2 v0 v1
  obtain ⟨-, n0, n1, -⟩ := hE
  have all : ∀ (C3 : jC) (w' : Int → Int), (∀ b, ¬ (36 ≤ b ∧ b < 339) → C3 b = C b) → rS 35 C3 w' → w' 2 ≤ K → ∀ D : jC, (∀ b, b ≠ 345 → b ≠ 346 → b ≠ 352 → D b = C3 b) → (∀ j, j ≠ 0 → D 345 j = C3 345 j) → D 346 = w' → rAll D K := by
    intro C3 w' g1 g2 g3 D g4 g5 g6
    refine rAll_w h (fun b b1 b2 => ?_) (fun j hj => ?_) ?_ ?_
    · rw [g4 b (by omega) (by omega) (by omega), g1 b (by omega)]
    · rw [g5 j hj, g1 345 (by omega)]
    · rw [g6]
      exact rS_keep (fun b hb => by unfold rOwn at hb; exact g4 b (by omega) (by omega) (by omega)) g2
    · rw [g6]; exact g3
  have i346 : ∀ (E : jC) (f g : Int → Int), jV (jV E 346 f) 352 g 346 = f := fun E f g => by rw [jV_ne (by decide), jV_eq]
  have i352 : ∀ (E : jC) (f g : Int → Int), jV (jV E 346 f) 352 g 352 = g := fun E f g => jV_eq _ _ _
  refine sp_finish h2 r2 d6 v0 v1 (fun e => ?_) (fun e C3 f1 f2 => ?_)
  · refine hp 0 C2 c2 (fun _ _ => rfl) (fun q hq => ?_)
    refine sp_isEdit v0 v1 (i346 _ _ _) n0 n1 (fun _ => ?_) (fun z => absurd (by rw [i352]; exact e) z)
    refine hq _ (by rw [jV_ne (by decide), jV_ne (by decide)]; exact m0_0 _ _) (all C2 w c2 h2 w2 _ (fun b b1 b2 b3 => by rw [jV_ne b3, jV_ne b2, jU_ne b1]) (fun j hj => by rw [jV_ne (by decide), jV_ne (by decide), jU_at, if_pos rfl, if_neg hj]) (i346 _ _ _))
  · have c3 : ∀ b, ¬ (36 ≤ b ∧ b < 339) → C3 b = C b := fun b hb => by rw [f1 b (by omega) (by omega), c2 b hb]
    refine hp (d 0) C3 c3 (fun b hb => f1 b (by omega) (by omega)) (fun q hq => ?_)
    refine sp_isEdit v0 v1 (i346 _ _ _) n0 n1 (fun z => absurd (by rw [i352] at z; exact z) e) (fun _ => ?_)
    rw [i352]
    refine hq _ (by rw [jV_ne (by decide), jV_ne (by decide), jV_ne (by decide)]; exact m0_0 _ _) (all C3 _ c3 f2 ?_ _ (fun b b1 b2 b3 => by rw [jV_ne b2, jV_ne b3, jV_ne b2, jU_ne b1]) (fun j hj => by rw [jV_ne (by decide), jV_ne (by decide), jV_ne (by decide), jU_at, if_pos rfl, if_neg hj]) (jV_eq _ _ _))
    rw [jEdW_lo (by unfold jEdN; split <;> omega) (by unfold jEdN; split <;> omega) (by omega)]
    exact w2
theorem jAlW_lo {v s c x j : Int} {w : Int → Int} (h3 : j ≠ 3) (h : j < 8754) (h1 : j ≠ 9 + 11 * s + 6 + c) (h2 : j ≠ 9 + 11 * s + 1 + c) : jAlW v s c x w j = w j := by
  unfold jAlW
  split
  · rfl
  · rw [jLogW_lo h3 h]
    unfold jCelW
    rw [if_neg h1, if_neg h2]
theorem jAlD_0 {s c x : Int} {w d : Int → Int} : d 0 ≤ jAlD s c x w d 0 ∧ jAlD s c x w d 0 ≤ d 0 + 1 := by
  unfold jAlD
  split
  · omega
  · have : jDrD (w (9 + 11 * s)) c (w (9 + 11 * s + 1 + c)) x d 0 = d 0 + 1 := by unfold jDrD; rw [if_pos rfl]
    omega
theorem sp_cHides {C : jC} {w : Int → Int} (h : rS 35 C w) {v c : Int} (v0 : 0 ≤ v) (v1 : v < 4) (c0 : 0 ≤ c) (c1 : c < 5) {ex : String → jC → Prop} {post : Prop} (y1 : (∀ C' : jC, C' 346 = w → jDet (wp_12_isHidden v c C') 1) → ex jISE C) (y0 : (∀ C' : jC, C' 346 = w → jDet (wp_12_isHidden v c C') 0) → post) : wp_11_needShown (51 + 72 * v) c C ex post := by
  obtain ⟨x, hx, x1, x2⟩ := sp_hides h v0 v1 c0 c1
  unfold wp_11_needShown
  refine x1 _ ?_
  rcases hx with rfl | rfl
  · rw [if_pos rfl]; exact y0 x2
  · rw [if_neg (by decide)]; exact y1 x2
/-- set and clear: one cell -/
theorem ed_one {C : jC} {K : Int} (h : rAll C K) {v i c x : Int} (v0 : 0 ≤ v) (v1 : v < 4) (i0 : 0 ≤ i) (i1 : i < C 346 (298 + 2114 * v)) (c0 : 0 ≤ c) (c1 : c < C 36 0) (hv : jVal (C 346 (4 + c)) x) {post : Int → jC → Prop}
    (y : ∀ (C3 : jC) (r : Int), (∀ b, ¬ (36 ≤ b ∧ b < 339) → C3 b = C b) → r = C 38 (C (51 + 72 * v + 29 + 1) i) → (∀ q : Int → jC → Prop, (∀ D : jC, D 345 0 = 0 → rAll D K → ∀ r, q r D) → wp_12_alters v (C 346 (298 + 2114 * v + 1 + i)) c x (jU (jU C3 345 0 0) 352 0 0) (fun C18 => wp_12_isEdit v C18 q)) → post r C3) : wp_11_changeOne v (C (51 + 72 * v + 29 + 1) i) c x C post := by
  have hs := r_now h
  obtain ⟨k1, k2, k3, -⟩ := r_cols hs
  obtain ⟨l1, l2, l3, l4, -⟩ := r_list hs v0 v1
  obtain ⟨s0, s1, s2, sl⟩ := l4 i i0 i1
  rw [s2] at y
  generalize C (51 + 72 * v + 29 + 1) i = s at *
  unfold wp_11_changeOne wp_8_beginEdit
  simp only [Int.reduceAdd]
  have b1 : rS 35 (jU C 46 0 0) (C 346) := rS_46 hs (fun b hb => jU_ne hb)
  have b38 : jU C 46 0 0 38 = C 38 := jU_ne (by decide)
  have sl' : rLive (jU C 46 0 0) 35 s := by
    obtain ⟨j, j0, j1, j2⟩ := sl
    exact ⟨j, j0, by rw [jU_ne (by decide)]; exact j1, by rw [jU_ne (by decide)]; exact j2⟩
  have d00 : jSet (C 352) 0 0 0 = 0 := jSet_eq _ _ _
  refine sp_change b1 (rDr_0 (d := C 352)) v0 v1 s0 s1 sl' c0 (by omega) hv (fun _ => ⟨by rw [d00]; omega, fun i a b => by rw [d00] at b; omega⟩) (fun C1 f1 f2 f3 => ?_)
  refine ed_fin (C := C) h v0 v1 (fun b hb => by rw [f1 b (by omega) (by omega) (by omega) (by omega) (by omega), jU_ne (by omega)]) f2 f3 ?_ ?_ (fun r C3 c3 c4 hm => ?_)
  · have := (jAlD_0 (s := s) (c := c) (x := x) (w := C 346) (d := jSet (C 352) 0 0)).2
    rw [d00] at this
    omega
  · rw [jAlW_lo (by decide) (by decide) (by omega) (by omega)]; exact h.2.2.2.2.2.2.1
  · rw [sp_keyAt, if_pos ⟨s0, s1⟩]
    simp only [Int.reduceAdd]
    have e38 : C3 38 = C 38 := by rw [c4 38 (by decide), f1 38 (by decide) (by decide) (by decide) (by decide) (by decide), b38]
    rw [e38]
    refine y C3 _ c3 rfl (fun q hq => ?_)
    have w0 : jU (jU C3 345 0 0) 352 0 0 346 = C 346 := by rw [jU_ne (by decide), m0_w, c3 346 (by decide)]
    have d0 : jU (jU C3 345 0 0) 352 0 0 352 = jSet (C 352) 0 0 := by
      rw [jU_S, jV_eq, jU_ne (by decide), c3 352 (by decide)]
    refine sp_alters hs s0 s1 sl c0 (by omega) w0 (fun _ => by rw [d0, d00]; omega) ?_
    rw [d0]
    have e : jV (jV (jU (jU C3 345 0 0) 352 0 0) 346 (jAlW v s c x (C 346))) 352 (jAlD s c x (C 346) (jSet (C 352) 0 0)) = jV (jV (jU C3 345 0 0) 346 (jAlW v s c x (C 346))) 352 (jAlD s c x (C 346) (jSet (C 352) 0 0)) := by
      funext b
      by_cases e1 : b = 352
      · subst e1; rw [jV_eq, jV_eq]
      · rw [jV_ne e1, jV_ne e1]
        by_cases e2 : b = 346
        · subst e2; rw [jV_eq, jV_eq]
        · rw [jV_ne e2, jV_ne e2, jU_ne e1]
    rw [e]
    exact hm _ (fun D D0 DA => hq D D0 DA r)
theorem op_set {C : jC} {K v i c x : Int} (h : rAll C K) : wp_11_set v i c x C (fun E C1 => (E = jIOB ∧ oM (wp_12_set v i c x) K 1 C1) ∨ (E = jISE ∧ oM (wp_12_set v i c x) K 2 C1) ∨ (E = jIAE ∧ oM (wp_12_set v i c x) K 3 C1)) (fun r C1 => oR (wp_12_set v i c x) K r C1) := by
  have hs := r_now h
  obtain ⟨k1, k2, k3, -⟩ := r_cols hs
  have no : ¬ ((0 ≤ v ∧ v < 4) ∧ (0 ≤ i ∧ i < C 346 (298 + 2114 * v)) ∧ 0 ≤ c ∧ c < C 36 0) → oM (wp_12_set v i c x) K 1 C := by
    intro hn
    unfold oM wp_12_set
    refine sp_noCell1 hs (m0_w _ _) hn ?_
    rw [if_neg (by decide), m00]
    exact ⟨m0_0 _ _, rAll_m0 h⟩
  unfold wp_11_set
  refine sp_viewNumbered (fun hn => Or.inl ⟨rfl, no (fun z => hn z.1)⟩) (fun v0 v1 => ?_)
  obtain ⟨l1, l2, l3, l4, -⟩ := r_list hs v0 v1
  refine sp_seatAtPlace (by omega) (fun i a b => (l4 i a (by omega)).1) (fun hn => Or.inl ⟨rfl, no (fun z => hn ⟨z.2.1.1, by rw [l1]; exact z.2.1.2⟩)⟩) (fun i0 i1 => ?_)
  refine sp_needColumn (by omega) (fun hn => Or.inl ⟨rfl, no (fun z => hn z.2.2)⟩) (fun c0 c1 => ?_)
  rw [l1] at i1
  refine sp_cHides hs v0 v1 c0 (by omega) (fun z => Or.inr (Or.inl ⟨rfl, ?_⟩)) (fun z => ?_)
  · unfold oM wp_12_set
    refine sp_noCell0 hs (m0_w _ _) v0 v1 i0 i1 c0 c1 ?_
    rw [if_pos rfl]
    refine z _ (m0_w _ _) _ ?_
    rw [sp_throws1, if_neg (by decide), m00]
    exact ⟨m0_0 _ _, rAll_m0 h⟩
  · obtain ⟨a, a1, a2, a3, a4⟩ := sp_hold hs (v := x) c0 c1
    refine a3 _ ?_
    rcases a1 with rfl | rfl
    · rw [if_pos rfl]
      refine Or.inr (Or.inr ⟨rfl, ?_⟩)
      unfold oM wp_12_set
      refine sp_noCell0 hs (m0_w _ _) v0 v1 i0 i1 c0 c1 ?_
      rw [if_pos rfl]
      refine z _ (m0_w _ _) _ ?_
      rw [sp_throws0, if_pos rfl]
      refine a4 _ (m0_w _ _) _ ?_
      rw [if_pos rfl]
      unfold wp_12_set_45
      rw [sp_throws1, if_neg (by decide), m00]
      exact ⟨m0_0 _ _, rAll_m0 h⟩
    · rw [if_neg (by decide)]
      have hv : jVal (C 346 (4 + c)) x := by
        by_cases e : x = -1000000
        · exact Or.inl e
        · exact a2 rfl e
      refine ed_one h v0 v1 i0 i1 c0 c1 hv (fun C3 r c3 er hm => ?_)
      have w0 : jU C3 345 0 0 346 = C 346 := by rw [m0_w, c3 346 (by decide)]
      have h3 : rS 35 C (C 346) := hs
      unfold oR wp_12_set
      refine sp_noCell0 hs w0 v0 v1 i0 i1 c0 c1 ?_
      rw [if_pos rfl]
      refine z _ w0 _ ?_
      rw [sp_throws0, if_pos rfl]
      refine a4 _ w0 _ ?_
      rw [if_neg (by decide)]
      unfold wp_12_set_45
      rw [sp_throws0, if_pos rfl, sp_listOf v0 v1]
      refine sp_mkeyAt (by omega) (by omega) ?_
      rw [w0]
      refine hm _ (fun D D0 DA _ => ⟨D0, ?_, DA⟩)
      rw [er, (l4 i i0 i1).2.2.1]
theorem op_clear {C : jC} {K v i c : Int} (h : rAll C K) : wp_11_clear v i c C (fun E C1 => (E = jIOB ∧ oM (wp_12_clear v i c) K 1 C1) ∨ (E = jISE ∧ oM (wp_12_clear v i c) K 2 C1)) (fun r C1 => oR (wp_12_clear v i c) K r C1) := by
  have hs := r_now h
  obtain ⟨k1, k2, k3, -⟩ := r_cols hs
  have no : ¬ ((0 ≤ v ∧ v < 4) ∧ (0 ≤ i ∧ i < C 346 (298 + 2114 * v)) ∧ 0 ≤ c ∧ c < C 36 0) → oM (wp_12_clear v i c) K 1 C := by
    intro hn
    unfold oM wp_12_clear
    refine sp_noCell1 hs (m0_w _ _) hn ?_
    rw [if_neg (by decide), m00]
    exact ⟨m0_0 _ _, rAll_m0 h⟩
  unfold wp_11_clear
  refine sp_viewNumbered (fun hn => Or.inl ⟨rfl, no (fun z => hn z.1)⟩) (fun v0 v1 => ?_)
  obtain ⟨l1, l2, l3, l4, -⟩ := r_list hs v0 v1
  refine sp_seatAtPlace (by omega) (fun i a b => (l4 i a (by omega)).1) (fun hn => Or.inl ⟨rfl, no (fun z => hn ⟨z.2.1.1, by rw [l1]; exact z.2.1.2⟩)⟩) (fun i0 i1 => ?_)
  refine sp_needColumn (by omega) (fun hn => Or.inl ⟨rfl, no (fun z => hn z.2.2)⟩) (fun c0 c1 => ?_)
  rw [l1] at i1
  refine sp_cHides hs v0 v1 c0 (by omega) (fun z => Or.inr ⟨rfl, ?_⟩) (fun z => ?_)
  · unfold oM wp_12_clear
    refine sp_noCell0 hs (m0_w _ _) v0 v1 i0 i1 c0 c1 ?_
    rw [if_pos rfl]
    refine z _ (m0_w _ _) _ ?_
    rw [sp_throws1, if_neg (by decide), m00]
    exact ⟨m0_0 _ _, rAll_m0 h⟩
  · refine ed_one h v0 v1 i0 i1 c0 c1 (Or.inl rfl) (fun C3 r c3 er hm => ?_)
    have w0 : jU C3 345 0 0 346 = C 346 := by rw [m0_w, c3 346 (by decide)]
    unfold oR wp_12_clear
    refine sp_noCell0 hs w0 v0 v1 i0 i1 c0 c1 ?_
    rw [if_pos rfl]
    refine z _ w0 _ ?_
    rw [sp_throws0, if_pos rfl, sp_listOf v0 v1]
    refine sp_mkeyAt (by omega) (by omega) ?_
    rw [w0]
    refine hm _ (fun D D0 DA _ => ⟨D0, ?_, DA⟩)
    rw [er, (l4 i i0 i1).2.2.1]

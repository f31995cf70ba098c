abbrev jIOB : String := "java/lang/IndexOutOfBoundsException"
abbrev jISE : String := "java/lang/IllegalStateException"
abbrev jIAE : String := "java/lang/IllegalArgumentException"
abbrev jNSE : String := "java/util/NoSuchElementException"
abbrev jUOE : String := "java/lang/UnsupportedOperationException"
theorem sp_viewNumbered {v : Int} {C : jC} {ex : String → jC → Prop} {post : Int → Prop} (h1 : ¬ (0 ≤ v ∧ v < 4) → ex jIOB C) (h2 : 0 ≤ v → v < 4 → post (51 + 72 * v)) : wp_11_viewNumbered v C ex post := by
  unfold wp_11_viewNumbered
  simp only [Int.reduceAdd]
  by_cases a : v < 0
  · rw [if_pos a]; exact h1 (by omega)
  · rw [if_neg a]
    by_cases b : v < 4
    · rw [if_pos b]; exact h2 (by omega) b
    · rw [if_neg b]; exact h1 (by omega)
theorem sp_needColumn {c : Int} {C : jC} {ex : String → jC → Prop} {post : Prop} (h5 : C 36 0 ≤ 5) (h1 : ¬ (0 ≤ c ∧ c < C 36 0) → ex jIOB C) (h2 : 0 ≤ c → c < C 36 0 → post) : wp_11_needColumn c C ex post := by
  unfold wp_11_needColumn
  rw [sp_isColumn h5]
  by_cases a : 0 ≤ c ∧ c < C 36 0
  · rw [if_pos a, if_neg (by decide)]; exact h2 a.1 a.2
  · rw [if_neg a, if_pos rfl]; exact h1 a
theorem sp_seatAtPlace {q i : Int} {C : jC} {ex : String → jC → Prop} {post : Int → Prop} (hn : C (q + 29) 1 ≤ 24) (hs : ∀ i, 0 ≤ i → i < C (q + 29) 1 → 0 ≤ C (q + 29 + 1) i) (h1 : ¬ (0 ≤ i ∧ i < C (q + 29) 1) → ex jIOB C) (h2 : 0 ≤ i → i < C (q + 29) 1 → post (C (q + 29 + 1) i)) : wp_11_seatAtPlace q i C ex post := by
  unfold wp_11_seatAtPlace
  rw [sp_at]
  by_cases a : 0 ≤ i ∧ i < C (q + 29) 1
  · have e : jAt C (q + 29) i = C (q + 29 + 1) i := by unfold jAt; rw [if_pos (by omega)]
    have := hs i a.1 a.2
    rw [e, if_neg (by omega)]
    exact h2 a.1 a.2
  · have e : jAt C (q + 29) i = -1 := by unfold jAt; rw [if_neg (by omega)]
    rw [e, if_pos rfl]
    exact h1 a
/-- the parts of the relation for the State now, in the numbers of the predicates -/
theorem r_now {C : jC} {K : Int} (h : rAll C K) : rS 35 C (C 346) := h.2.2.2.2.2.1
theorem r_cols {C : jC} {w : Int → Int} (h : rS 35 C w) : C 36 0 = w 0 ∧ 0 ≤ w 0 ∧ w 0 ≤ 5 ∧ 0 ≤ w 2 := by
  have hA := h.1
  simp only [rA, Int.reduceAdd] at hA
  exact ⟨hA.1, hA.2.1, hA.2.2.1, hA.2.2.2.2.2.2.2.1⟩
theorem r_ord {C : jC} {w : Int → Int} (h : rS 35 C w) : C 41 1 = w 273 ∧ 0 ≤ w 273 ∧ w 273 ≤ 24 ∧ (∀ i, 0 ≤ i → i < w 273 → 0 ≤ C 42 i ∧ C 42 i < 24 ∧ w (274 + i) = C 38 (C 42 i)) ∧ (∀ i j, 0 ≤ i → i < j → j < w 273 → C 42 i ≠ C 42 j) := by
  have hA := h.2.2.1
  simp only [rLst, Int.reduceAdd] at hA
  exact hA
theorem r_view {C : jC} {w : Int → Int} (h : rS 35 C w) {v : Int} (h0 : 0 ≤ v) (h1 : v < 4) : rV 35 C w (51 + 72 * v) (298 + 2114 * v) := by
  have := h.2.2.2.2.1 v h0 h1
  simp only [Int.reduceAdd] at this
  exact this
theorem r_list {C : jC} {w : Int → Int} (h : rS 35 C w) {v : Int} (h0 : 0 ≤ v) (h1 : v < 4) : C (51 + 72 * v + 29) 1 = w (298 + 2114 * v) ∧ 0 ≤ w (298 + 2114 * v) ∧ w (298 + 2114 * v) ≤ 24 ∧ (∀ i, 0 ≤ i → i < w (298 + 2114 * v) → 0 ≤ C (51 + 72 * v + 29 + 1) i ∧ C (51 + 72 * v + 29 + 1) i < 24 ∧ w (298 + 2114 * v + 1 + i) = C 38 (C (51 + 72 * v + 29 + 1) i) ∧ rLive C 35 (C (51 + 72 * v + 29 + 1) i)) ∧ (∀ i j, 0 ≤ i → i < j → j < w (298 + 2114 * v) → C (51 + 72 * v + 29 + 1) i ≠ C (51 + 72 * v + 29 + 1) j) := by
  obtain ⟨q1, q2, -, -⟩ := r_view h h0 h1
  obtain ⟨a1, a2, a3, a4, a5⟩ := q1
  simp only [Int.reduceAdd] at a4
  exact ⟨a1, a2, a3, fun i i0 i1 => ⟨(a4 i i0 i1).1, (a4 i i0 i1).2.1, (a4 i i0 i1).2.2, q2 i i0 i1⟩, a5⟩
/-- a live row: its key, its cells -/
theorem r_live {C : jC} {w : Int → Int} (h : rS 35 C w) {s : Int} (h0 : 0 ≤ s) (h1 : s < 24) (hl : rLive C 35 s) : w (9 + 11 * s) = C 38 s ∧ 0 ≤ C 38 s ∧ C 38 s < w 2 ∧ ∀ c, 0 ≤ c → c < w 0 → C 39 (s * 5 + c) = w (9 + 11 * s + 1 + c) ∧ C 40 (s * 5 + c) = w (9 + 11 * s + 6 + c) ∧ jVal (w (4 + c)) (w (9 + 11 * s + 1 + c)) := by
  have := h.2.2.2.1.1 s h0 h1 hl
  simp only [rCell, Int.reduceAdd] at this
  exact ⟨this.1, this.2.1, this.2.2.1, fun c c0 c1 => ⟨(this.2.2.2 c c0 c1).1, (this.2.2.2 c c0 c1).2.1, (this.2.2.2 c c0 c1).2.2.1⟩⟩
theorem r_kind {C : jC} {w : Int → Int} (h : rS 35 C w) {c : Int} (h0 : 0 ≤ c) (h1 : c < 5) : C 37 c = w (4 + c) ∧ (w (4 + c) = 0 ∨ w (4 + c) = 1) := by
  have := h.2.1 c h0 h1
  simp only [Int.reduceAdd] at this
  exact this
theorem m0_w (C : jC) (x : Int) : jU C 345 0 x 346 = C 346 := jU_ne (by decide)
theorem m00 (C : jC) (x y : Int) : jU (jU C 345 0 x) 345 0 y = jU C 345 0 y := by
  rw [jU_S, jU_S, jV_V, jV_eq, jU_S]
  congr 1
  funext j
  simp only [jSet]
  grind
theorem op_kind {C : jC} {K c : Int} (h : rAll C K) : wp_11_kind c C (fun E C1 => E = jIOB ∧ oM (wp_12_kind c) K 1 C1) (fun r => oR (wp_12_kind c) K r C) := by
  have hs := r_now h
  obtain ⟨c1, c2, c3, -⟩ := r_cols hs
  unfold wp_11_kind
  refine sp_needColumn (by omega) (fun hn => ⟨rfl, ?_⟩) (fun h0 h1 => ?_)
  · unfold oM wp_12_kind
    rw [sp_noColumn (by rw [m0_w]; exact c2) (by rw [m0_w]; exact c3), m0_w, if_neg (by omega), sp_throws1, if_neg (by decide), m00]
    exact ⟨m0_0 _ _, rAll_m0 h⟩
  · rw [sp_kindOf (by omega), if_pos ⟨h0, h1⟩]
    unfold oR wp_12_kind
    dsimp only
    rw [sp_noColumn (by rw [m0_w]; exact c2) (by rw [m0_w]; exact c3), m0_w, if_pos (by omega), sp_throws0, if_pos rfl, m0_w]
    exact ⟨by omega, by omega, m0_0 _ _, (r_kind hs h0 (by omega)).1.symm, rAll_m0 h⟩
theorem op_order {C : jC} {K i : Int} (h : rAll C K) : wp_11_order i C (fun r => oR (wp_12_order i) K r C) := by
  have hs := r_now h
  obtain ⟨o1, o2, o3, o4, -⟩ := r_ord hs
  unfold wp_11_order
  rw [sp_at, sp_keyAt]
  unfold oR wp_12_order
  dsimp only
  rw [sp_rows, m0_w, sp_in]
  refine ⟨⟨by omega, by omega⟩, ?_⟩
  by_cases hi : 0 ≤ i ∧ i ≤ C 346 273 - 1
  · have hq := o4 i hi.1 (by omega)
    have e : jAt C 41 i = C 42 i := by unfold jAt; rw [if_pos (by omega)]; rfl
    rw [if_pos hi, if_neg (by decide), e, if_pos ⟨hq.1, hq.2.1⟩]
    unfold wp_12_keyAt
    rw [m0_w]
    exact ⟨by omega, by omega, m0_0 _ _, by simpa using hq.2.2, rAll_m0 h⟩
  · have e : jAt C 41 i = -1 := by unfold jAt; rw [if_neg (by omega)]
    rw [if_neg hi, if_pos rfl, e, if_neg (by decide)]
    exact ⟨m0_0 _ _, rfl, rAll_m0 h⟩
theorem op_row {C : jC} {K v i : Int} (h : rAll C K) : wp_11_row v i C (fun E C1 => E = jIOB ∧ oM (wp_12_row v i) K 1 C1) (fun r => oR (wp_12_row v i) K r C) := by
  have hs := r_now h
  unfold wp_11_row
  refine sp_viewNumbered (fun hn => ⟨rfl, ?_⟩) (fun h0 h1 => ?_)
  · unfold oM wp_12_row
    rw [sp_noView, if_neg hn, sp_throws1, if_neg (by decide), m00]
    exact ⟨m0_0 _ _, rAll_m0 h⟩
  · obtain ⟨l1, l2, l3, l4, -⟩ := r_list hs h0 h1
    rw [sp_at, sp_keyAt]
    unfold oR wp_12_row
    dsimp only
    rw [sp_noView, if_pos ⟨h0, h1⟩, sp_throws0, if_pos rfl, sp_noPlace h0 h1 (by rw [m0_w]; exact l2) (by rw [m0_w]; exact l3), m0_w]
    by_cases hi : 0 ≤ i ∧ i < C 346 (298 + 2114 * v)
    · have hq := l4 i hi.1 hi.2
      have e : jAt C (51 + 72 * v + 29) i = C (51 + 72 * v + 29 + 1) i := by unfold jAt; rw [if_pos (by omega)]
      rw [if_pos hi, if_pos rfl, sp_listOf h0 h1, e, if_pos ⟨hq.1, hq.2.1⟩]
      unfold wp_12_keyAt
      rw [m0_w]
      exact ⟨by omega, by omega, m0_0 _ _, by simpa using hq.2.2.1, rAll_m0 h⟩
    · have e : jAt C (51 + 72 * v + 29) i = -1 := by unfold jAt; rw [if_neg (by omega)]
      rw [if_neg hi, if_neg (by decide), e, if_neg (by decide)]
      exact ⟨m0_0 _ _, rfl, rAll_m0 h⟩

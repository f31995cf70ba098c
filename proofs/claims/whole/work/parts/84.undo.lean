-- a cell written back, and told
theorem sp_back1 {C : jC} {w : Int → Int} (h : rS 35 C w) {v s c x : Int} (v0 : 0 ≤ v) (v1 : v < 4) (s0 : 0 ≤ s) (s1 : s < 24) (hl : rLive C 35 s) (c0 : 0 ≤ c) (c1 : c < w 0) (hv : jVal (w (4 + c)) x) (e : w (9 + 11 * s + 1 + c) ≠ x) {post : jC → Prop}
    (y : ∀ X : jC, (∀ b, b ≠ 39 → b ≠ 40 → X b = C b) → wp_3_takeChange 44 v (C 38 s) c (w (9 + 11 * s + 1 + c)) x X (fun C1 => (∀ b, b ≠ 39 → b ≠ 40 → b ≠ 44 → b ≠ 45 → C1 b = C b) ∧ rS 35 C1 (jAlW v s c x w)) → post X) : wp_7_write 36 s c x v C post := by
  obtain ⟨k1, k2, k3, -⟩ := r_cols h
  obtain ⟨u1, u2, u3, u4⟩ := r_live h s0 s1 hl
  obtain ⟨f1, f2, f3⟩ := u4 c c0 c1
  have hA := h.1
  obtain ⟨a1, a2, a3, a4, a5, a6, a7, a8, a9, a10, a11⟩ := hA
  simp only [Int.reduceAdd] at a9
  have hG := h.2.2.2.2.2.1
  have g0 := hG.1
  have g1 := hG.2.1
  simp only [Int.reduceAdd] at g0 g1
  refine sp_write h s0 s1 c0 c1 ?_
  generalize hX : jU (jU C 39 (s * 5 + c) x) 40 (s * 5 + c) v = X
  have x1 : ∀ b, b ≠ 39 → b ≠ 40 → X b = C b := fun b b1 b2 => by rw [← hX, jU_ne b2, jU_ne b1]
  have x39 : ∀ j, X 39 j = if j = s * 5 + c then x else C 39 j := fun j => by rw [← hX, jU_ne (by decide), jU_at, if_pos rfl]
  have x40 : ∀ j, X 40 j = if j = s * 5 + c then v else C 40 j := fun j => by rw [← hX, jU_at, if_pos rfl, jU_ne (by decide)]
  refine y X x1 ?_
  have y44 : X 44 = C 44 := x1 44 (by decide) (by decide)
  have y45 : X 45 = C 45 := x1 45 (by decide) (by decide)
  refine sp_clog (by rw [y44]; omega) (by rw [y44]; omega) (by rw [y44]; omega) (by rw [y44]; omega) (fun Z z1 z2 z3 z4 => ?_)
  rw [y44] at z2 z3 z4
  rw [y45] at z4
  rw [← u1] at z4
  have fr : ∀ b, b ≠ 39 → b ≠ 40 → b ≠ 44 → b ≠ 45 → Z b = C b := fun b b1 b2 b3 b4 => by rw [z1 b b3 b4, x1 b b1 b2]
  refine ⟨fr, ?_⟩
  unfold jAlW
  rw [if_neg e]
  have lw : ∀ j, j ≠ 3 → j < 8754 → jLogW v (w (9 + 11 * s)) c (w (9 + 11 * s + 1 + c)) x (jCelW v s c x w) j = jCelW v s c x w j := fun j a b => jLogW_lo a b
  have z0 : jCelW v s c x w 3 = w 3 := by unfold jCelW; rw [if_neg (by omega), if_neg (by omega)]
  have l3 : jLogW v (w (9 + 11 * s)) c (w (9 + 11 * s + 1 + c)) x (jCelW v s c x w) 3 = min 40 (w 3 + 1) := by
    unfold jLogW
    rw [if_pos rfl, z0]
  have ll : ∀ j, 8754 ≤ j → j < 8954 → jLogW v (w (9 + 11 * s)) c (w (9 + 11 * s + 1 + c)) x (jCelW v s c x w) j = if j = 8754 then v else if j = 8755 then w (9 + 11 * s) else if j = 8756 then c else if j = 8757 then w (9 + 11 * s + 1 + c) else if j = 8758 then x else jCelW v s c x w (j - 5) := by
    intro j a b
    unfold jLogW
    rw [if_neg (by omega), if_pos ⟨a, b⟩]
  have hG' : rG 35 Z (jLogW v (w (9 + 11 * s)) c (w (9 + 11 * s + 1 + c)) x (jCelW v s c x w)) := by
    refine rG_log hG a9 a10 a11 z2 z4 l3 (fun j a b => ?_)
    rw [ll j a b]
    by_cases q : j < 8759
    · have hj : j = 8754 ∨ j = 8755 ∨ j = 8756 ∨ j = 8757 ∨ j = 8758 := by omega
      rcases hj with rfl | rfl | rfl | rfl | rfl <;> rfl
    · have : jCelW v s c x w (j - 5) = w (j - 5) := by unfold jCelW; rw [if_neg (by omega), if_neg (by omega)]
      rw [this]
  exact rS_cell (v := v) (s := s) (c := c) (x := x) (key := 0) (was := 0) (is := 0) h (by omega) v1 s0 s1 c0 c1 hv (fun b b1 b2 b3 b4 _ _ => fr b b1 b2 b3 b4) (fun j => by rw [z1 39 (by decide) (by decide), x39]) (fun j => by rw [z1 40 (by decide) (by decide), x40]) lw (by rw [z3, l3, a9]; omega) (by rw [l3]; omega) (by rw [l3]; omega) hG'
theorem jAlW_set {v s c x p y : Int} {w : Int → Int} (p3 : p ≠ 3) (p8 : p < 8754) (p0 : p ≠ 9 + 11 * s) (p1 : p ≠ 9 + 11 * s + 6 + c) (p2 : p ≠ 9 + 11 * s + 1 + c) (hs : 9 + 11 * s + 6 + c < 8754) (hs2 : 9 + 11 * s + 1 + c < 8754) (s0 : 0 ≤ s) (c0 : 0 ≤ c) : jAlW v s c x (jSet w p y) = jSet (jAlW v s c x w) p y := by
  unfold jAlW
  rw [jSet_ne p2.symm, jSet_ne p0.symm]
  by_cases e : w (9 + 11 * s + 1 + c) = x
  · rw [if_pos e, if_pos e]
  · rw [if_neg e, if_neg e]
    have cs : ∀ i, i ≠ p → jCelW v s c x (jSet w p y) i = jCelW v s c x w i := by
      intro i hi
      unfold jCelW
      rw [jSet_ne hi]
    funext j
    by_cases ej : j = p
    · subst ej
      rw [jLogW_lo p3 p8, jSet_eq]
      unfold jCelW
      rw [if_neg p1, if_neg p2, jSet_eq]
    · rw [jSet_ne ej]
      unfold jLogW
      rw [cs 3 p3.symm]
      by_cases c1 : j = 3
      · rw [if_pos c1, if_pos c1]
      rw [if_neg c1, if_neg c1]
      by_cases c2 : 8754 ≤ j ∧ j < 8954
      · rw [if_pos c2, if_pos c2]
        by_cases c3 : j < 8759
        · have hj : j = 8754 ∨ j = 8755 ∨ j = 8756 ∨ j = 8757 ∨ j = 8758 := by omega
          rcases hj with rfl | rfl | rfl | rfl | rfl <;> rfl
        · rw [cs (j - 5) (by omega)]
      · rw [if_neg c2, if_neg c2, cs j ej]
theorem jSeqW_set {C : jC} {v : Int} {s c x w : Int → Int} {m p y : Int} (h5 : w 0 ≤ 5) (ok : jSeqOk C w s c x m) (p0 : 298 ≤ p) (p1 : p < 8754) (k : Nat) (hk : (k : Int) ≤ m) : jSeqW v s c x (jSet w p y) k = jSet (jSeqW v s c x w k) p y := by
  induction k with
  | zero => rfl
  | succ k ih =>
    show jAlW v (s k) (c k) (x k) (jSeqW v s c x (jSet w p y) k) = jSet (jAlW v (s k) (c k) (x k) (jSeqW v s c x w k)) p y
    obtain ⟨q1, q2, q3, q4, q5, -⟩ := ok.2.1 k (by omega) (by omega)
    rw [ih (by omega)]
    exact jAlW_set (by omega) p1 (by omega) (by omega) (by omega) (by omega) (by omega) q1 q4
/-- the class behind k writings back -/
def jBkI (C : jC) (v : Int) (w s c x : Int → Int) (k : Int) (E : jC) : Prop :=
  (∀ b, b ≠ 39 → b ≠ 40 → b ≠ 44 → b ≠ 45 → E b = C b) ∧ rS 35 E (jSeqW v s c x w k.toNat)
/-- one edit less -/
theorem rS_less {E : jC} {w : Int → Int} (h : rS 35 E w) {v : Int} (v0 : 0 ≤ v) (v1 : v < 4) (n0 : 1 ≤ w (298 + 2114 * v + 185)) : rS 35 (jU E (51 + 72 * v) 3 (w (298 + 2114 * v + 185) - 1)) (jSet w (298 + 2114 * v + 185) (w (298 + 2114 * v + 185) - 1)) := by
  obtain ⟨-, -, k3, -⟩ := r_cols h
  obtain ⟨-, -, -, hE⟩ := r_view h v0 v1
  obtain ⟨e1, e2, e3, e4, e5, e6⟩ := hE
  have eU : ∀ b, b ≠ 51 + 72 * v → jU E (51 + 72 * v) 3 (w (298 + 2114 * v + 185) - 1) b = E b := fun b hb => jU_ne hb
  refine rS_eds h v0 v1 (fun b _ b2 _ => eU b b2) (fun j hj => jSet_ne (by omega)) ?_
  unfold rEds
  rw [jSet_eq, eU (51 + 72 * v + 31) (by omega)]
  refine ⟨by rw [jU_at, if_pos rfl, if_pos rfl], by omega, by omega, e4, e5, fun k a b => ?_⟩
  obtain ⟨j, j0, j1, ej⟩ := e4 k a (by omega)
  exact rEdit_keep (e6 k a (by omega)) (fun x x0 x1 => eU x (by omega)) (jSet_ne (by omega)) (fun c c0 c1 => jSet_ne (by omega)) k3 (fun j j0 j1 => jSet_ne (by omega))
theorem jSeqD_cnt {C : jC} {v : Int} {s c x w d : Int → Int} {m : Int} (h5 : w 0 ≤ 5) (ok : jSeqOk C w s c x m) (hx : ∀ k, 0 ≤ k → k < m → w (9 + 11 * s k + 1 + c k) ≠ x k) (d0 : d 0 = 0) (k : Nat) (hk : (k : Int) ≤ m) : jSeqD v s c x w d k 0 = k := by
  induction k with
  | zero => exact d0
  | succ k ih =>
    show jAlD (s k) (c k) (x k) (jSeqW v s c x w k) (jSeqD v s c x w d k) 0 = _
    unfold jAlD
    have cl := jSeq_cell (v := v) h5 ok (show (0 : Int) ≤ k by omega) (by omega) (show (0 : Int) ≤ k by omega) (Int.le_refl _)
    rw [show ((k : Int)).toNat = k by omega] at cl
    rw [if_neg (by rw [cl]; exact hx k (by omega) (by omega))]
    unfold jDrD
    rw [if_pos rfl, ih (by omega)]
    omega
theorem op_undo {C : jC} {K v : Int} (h : rAll C K) : wp_11_undo v C (fun E C1 => (E = jIOB ∧ oM (wp_12_undo v) K 1 C1) ∨ (E = jISE ∧ oM (wp_12_undo v) K 2 C1)) (fun r C1 => oR (wp_12_undo v) K r C1) := by
  have hs := r_now h
  obtain ⟨k1, k2, k3, -⟩ := r_cols hs
  unfold wp_11_undo
  refine sp_viewNumbered (fun hn => Or.inl ⟨rfl, ?_⟩) (fun v0 v1 => ?_)
  · unfold oM wp_12_undo
    rw [sp_noView1 hn, sp_throws1, if_neg (by decide), m00]
    exact ⟨m0_0 _ _, rAll_m0 h⟩
  obtain ⟨-, -, -, hE⟩ := r_view hs v0 v1
  obtain ⟨e1, e2, e3, e4, e5, e6⟩ := hE
  have w0 : jU C 345 0 0 346 = C 346 := m0_w _ _
  unfold wp_10_latestEdit
  by_cases a : C (51 + 72 * v) 3 ≤ 0
  · rw [if_pos a]
    dsimp only
    rw [if_pos (by decide)]
    refine Or.inr ⟨rfl, ?_⟩
    unfold oM wp_12_undo
    rw [sp_noView0 v0 v1, sp_throws0, if_pos rfl, sp_viewAt v0 v1 (by omega) (by omega), w0]
    refine ⟨by omega, by omega, ?_⟩
    rw [if_pos (by omega)]
    unfold wp_12_undo_57
    rw [sp_throws1, if_neg (by decide), m00]
    exact ⟨m0_0 _ _, rAll_m0 h⟩
  rw [if_neg a, if_neg (by omega)]
  obtain ⟨j, j0, j1, ej⟩ := e4 (C (51 + 72 * v) 3 - 1) (by omega) (by omega)
  dsimp only
  rw [if_neg (by omega)]
  have ed := e6 (C (51 + 72 * v) 3 - 1) (by omega) (by omega)
  rw [e1] at ej ed a
  generalize hn : C 346 (298 + 2114 * v + 185) = n at *
  generalize ht : 298 + 2114 * v + 186 + 241 * (n - 1) = t at *
  have tb : 298 ≤ t ∧ t + 241 ≤ 8754 := by omega
  rw [e1]
  generalize he : C (51 + 72 * v + 31) (n - 1) = e at *
  obtain ⟨σ, r, hσ, hr, b1, b2⟩ := sp_bar hs ed (by omega) (by omega)
  refine b1 _ ?_
  by_cases c : r = -1
  case neg =>
    obtain ⟨r0, r1⟩ : 0 ≤ r ∧ r < C 346 t := by
      rcases hr with ⟨q1, q2, -⟩ | ⟨q1, -⟩
      · exact ⟨q1, q2⟩
      · exact absurd q1 c
    have := ed.2.2.2.1 r r0 r1
    rw [if_neg c, if_neg (by omega)]
    refine Or.inr ⟨rfl, ?_⟩
    unfold oM wp_12_undo
    rw [sp_noView0 v0 v1, sp_throws0, if_pos rfl, sp_viewAt v0 v1 (by omega) (by omega), w0, hn]
    refine ⟨by omega, by omega, ?_⟩
    rw [if_neg (by omega)]
    refine ⟨⟨by omega, by omega⟩, sp_editAt v0 v1 (by omega) (by omega) ?_⟩
    rw [ht]
    refine b2 _ w0 _ ?_
    rw [if_neg c, if_neg (by omega)]
    unfold wp_12_undo_57
    rw [sp_throws1, if_neg (by decide), m00]
    exact ⟨m0_0 _ _, rAll_m0 h⟩
  case pos =>
    rw [if_pos c, if_pos rfl]
    have std : ∀ i, 0 ≤ i → i < C 346 t → jStd (C 346) σ t i := by
      intro i i0 i1
      rcases hr with ⟨q1, q2, -⟩ | ⟨-, q1⟩
      · omega
      · exact Classical.not_not.mp (q1 i i0 i1)
    obtain ⟨d1, d2, d3, d4, d5⟩ := ed
    generalize hm : C 346 t = m at *
    obtain ⟨cc, ec⟩ : ∃ cc : Int → Int, ∀ i, cc i = C 346 (t + 1 + 4 * i + 1) := ⟨_, fun _ => rfl⟩
    obtain ⟨xx, ex⟩ : ∃ xx : Int → Int, ∀ i, xx i = C 346 (t + 1 + 4 * i + 2) := ⟨_, fun _ => rfl⟩
    have sg : ∀ i, 0 ≤ i → i < m → 0 ≤ σ i ∧ σ i < 24 ∧ rLive C 35 (σ i) ∧ C 38 (σ i) = C 346 (t + 1 + 4 * i) := by
      intro i i0 i1
      rcases hσ i with q | q
      · exact absurd q (std i i0 i1).1
      · exact q
    have ok : jSeqOk C (C 346) σ cc xx m := by
      refine ⟨by omega, fun k a b => ?_, fun t k a b d => ?_⟩
      · obtain ⟨p1, p2, p3, p4⟩ := sg k a b
        obtain ⟨f1, f2, f3, f4, f5, f6, f7, f8, f9, f10⟩ := d4 k a b
        rw [ec, ex]
        exact ⟨p1, p2, p3, f6, f7, f8⟩
      · intro z
        refine d5 t k a b d ⟨?_, ?_⟩
        · rw [← (sg t a (by omega)).2.2.2, ← (sg k (by omega) d).2.2.2, z.1]
        · rw [← ec, ← ec]; exact z.2
    have nx : ∀ k, 0 ≤ k → k < m → C 346 (9 + 11 * σ k + 1 + cc k) ≠ xx k := by
      intro k a b
      rw [ec, ex, (std k a b).2]
      exact (d4 k a b).2.2.2.2.2.2.2.2.2.symm
    unfold wp_8_takeBack
    refine jL2_of (fun k E => 0 ≤ k ∧ k ≤ m ∧ jBkI C v (C 346) σ cc xx k E ∧ ∀ u, 0 ≤ u → u ≤ k → ∃ E', jBkI C v (C 346) σ cc xx u E') (fun k _ => (m - k).toNat) (fun K1 k E hi hk => ?_) ⟨by omega, by omega, ⟨fun _ _ _ _ _ => rfl, hs⟩, fun u a b => ⟨C, by rw [show u = 0 by omega]; exact ⟨fun _ _ _ _ _ => rfl, hs⟩⟩⟩
    obtain ⟨g0, g1, gI, gH⟩ := hi
    have eE : ∀ b, 51 ≤ b → E b = C b := fun b hb => gI.1 b (by omega) (by omega) (by omega) (by omega)
    unfold wp_8_takeBack_2
    rw [eE e (by omega), d1]
    by_cases a1 : m ≤ k
    · rw [if_pos a1]
      have ek : k = m := by omega
      subst ek
      unfold wp_8_takeBack_87
      rw [if_neg (by omega), if_neg (by omega)]
      simp only [Int.reduceAdd]
      unfold wp_10_forgetLatest
      rw [eE (51 + 72 * v) (by omega), e1]
      refine ⟨⟨by omega, by omega⟩, ?_⟩
      rw [show max 0 (n - 1) = n - 1 by omega]
      dsimp only
      rw [show jU E (51 + 72 * v) 3 (n - 1) e = E e from jU_ne (by omega), eE e (by omega), d1]
      have low : ∀ u, 0 ≤ u → u ≤ k → ∀ q, q ≠ 3 → (q < 9 ∨ 273 ≤ q) → q < 8754 → jSeqW v σ cc xx (C 346) u.toNat q = C 346 q := fun u u0 u1 q q3 q0 q1 => jSeqW_low k3 ok q3 q1 _ (by omega) (fun z a b => by have := ok.2.1 z a (by omega); omega)
      have cM : ∀ b, ¬ (36 ≤ b ∧ b < 339) → jU E (51 + 72 * v) 3 (n - 1) b = C b := fun b hb => by rw [jU_ne (by omega), gI.1 b (by omega) (by omega) (by omega) (by omega)]
      have fin : ∀ u, 0 ≤ u → u ≤ k → ∀ E' : jC, jBkI C v (C 346) σ cc xx u E' → rS 35 (jU E' (51 + 72 * v) 3 (n - 1)) (jSeqW v σ cc xx (jSet (C 346) (298 + 2114 * v + 185) (n - 1)) u.toNat) := by
        intro u u0 u1 E' hE'
        have nn : jSeqW v σ cc xx (C 346) u.toNat (298 + 2114 * v + 185) = n := by rw [low u u0 u1 _ (by omega) (by omega) (by omega)]; exact hn
        have := rS_less hE'.2 v0 v1 (by rw [nn]; omega)
        rw [nn, ← jSeqW_set k3 ok (by omega) (by omega) _ (by omega)] at this
        exact this
      unfold oR wp_12_undo
      have w1 : jU (jU E (51 + 72 * v) 3 (n - 1)) 345 0 0 346 = C 346 := by rw [m0_w, cM 346 (by omega)]
      rw [sp_noView0 v0 v1, sp_throws0, if_pos rfl, sp_viewAt v0 v1 (by omega) (by omega), w1, hn]
      refine ⟨by omega, by omega, ?_⟩
      rw [if_neg (by omega)]
      refine ⟨⟨by omega, by omega⟩, sp_editAt v0 v1 (by omega) (by omega) ?_⟩
      rw [ht]
      refine b2 _ w1 _ ?_
      rw [if_pos c, if_pos rfl]
      unfold wp_12_undo_57
      rw [sp_throws0, if_pos rfl]
      refine ⟨⟨by omega, by omega⟩, sp_editAt v0 v1 (by omega) (by omega) ?_⟩
      rw [ht, sp_viewAt v0 v1 (by omega) (by omega)]
      refine ⟨by omega, by omega, ?_⟩
      generalize hB : jU (jU E (51 + 72 * v) 3 (n - 1)) 345 0 0 = B at *
      have B352 : B 352 = C 352 := by rw [← hB, jU_ne (by decide), cM 352 (by omega)]
      have start : jU (jU B 346 (298 + 2114 * v + 185) (n - 1)) 352 0 0 = jSeqM v (jSet (C 346) (298 + 2114 * v + 185) (n - 1)) (jSet (C 352) 0 0) σ cc xx B 0 := by
        unfold jSeqM
        show _ = jV (jV B 346 (jSet (C 346) (298 + 2114 * v + 185) (n - 1))) 352 (jSet (C 352) 0 0)
        rw [jU_S, jU_S, w1, jV_ne (by decide), B352]
      rw [start]
      have ok' : jSeqOk C (jSet (C 346) (298 + 2114 * v + 185) (n - 1)) σ cc xx k := by
        refine ⟨ok.1, fun z a b => ?_, ok.2.2⟩
        obtain ⟨p1, p2, p3, p4, p5, p6⟩ := ok.2.1 z a b
        rw [jSet_ne (by omega), jSet_ne (by omega)]
        exact ⟨p1, p2, p3, p4, p5, p6⟩
      have wM : ∀ u, jSeqM v (jSet (C 346) (298 + 2114 * v + 185) (n - 1)) (jSet (C 352) 0 0) σ cc xx B u 346 = jSeqW v σ cc xx (jSet (C 346) (298 + 2114 * v + 185) (n - 1)) u.toNat := fun u => by unfold jSeqM; rw [jV_ne (by decide), jV_eq]
      have wD : ∀ u, jSeqM v (jSet (C 346) (298 + 2114 * v + 185) (n - 1)) (jSet (C 352) 0 0) σ cc xx B u 352 = jSeqD v σ cc xx (jSet (C 346) (298 + 2114 * v + 185) (n - 1)) (jSet (C 352) 0 0) u.toNat := fun u => by unfold jSeqM; rw [jV_eq]
      have s05 : jSet (C 346) (298 + 2114 * v + 185) (n - 1) 0 ≤ 5 := by rw [jSet_ne (by omega)]; exact k3
      have cnt : ∀ u, 0 ≤ u → u ≤ k → jSeqD v σ cc xx (jSet (C 346) (298 + 2114 * v + 185) (n - 1)) (jSet (C 352) 0 0) u.toNat 0 = u := by
        intro u u0 u1
        have := jSeqD_cnt (v := v) (d := jSet (C 352) 0 0) s05 ok' (fun z a b => by
          obtain ⟨p1, p2, p3, p4, p5, p6⟩ := ok.2.1 z a b
          rw [jSet_ne (by omega)]; exact nx z a b) (jSet_eq _ _ _) u.toNat (by omega)
        rw [this]; omega
      have low' : ∀ u, 0 ≤ u → u ≤ k → ∀ q, 298 ≤ q → q ≠ 298 + 2114 * v + 185 → q < 8754 → jSeqW v σ cc xx (jSet (C 346) (298 + 2114 * v + 185) (n - 1)) u.toNat q = C 346 q := by
        intro u u0 u1 q q0 q1 q2
        rw [jSeqW_set k3 ok (by omega) (by omega) _ (by omega), jSet_ne q1]
        exact low u u0 u1 q (by omega) (by omega) q2
      refine jL2_of (fun u D => 0 ≤ u ∧ u ≤ k ∧ D = jSeqM v (jSet (C 346) (298 + 2114 * v + 185) (n - 1)) (jSet (C 352) 0 0) σ cc xx B u) (fun u _ => (k - u).toNat) (fun K2 u D hi2 hk2 => ?_) ⟨by omega, by omega, rfl⟩
      obtain ⟨u0, u1, rfl⟩ := hi2
      unfold wp_12_undo_99
      rw [wM, wD, low' u u0 u1 t (by omega) (by omega) (by omega), hm]
      refine ⟨by omega, by omega, ?_⟩
      by_cases b : k ≤ u
      · rw [if_pos b, cnt u u0 u1]
        have eu : u = k := by omega
        subst eu
        refine ⟨?_, rfl, ?_⟩
        · unfold jSeqM
          rw [jV_ne (by decide), jV_ne (by decide), ← hB]; exact m0_0 _ _
        · refine rAll_w h (fun b b1 b2 => ?_) (fun j hj => ?_) ?_ ?_
          · unfold jSeqM
            rw [jV_ne (by omega), jV_ne (by omega), ← hB, jU_ne (by omega), cM b (by omega)]
          · unfold jSeqM
            rw [jV_ne (by decide), jV_ne (by decide), ← hB, jU_at, if_pos rfl, if_neg hj, cM 345 (by omega)]
          · rw [wM]
            refine rS_keep (fun b hb => ?_) (fin u u0 (Int.le_refl _) E gI)
            unfold rOwn at hb
            unfold jSeqM
            rw [jV_ne (by omega), jV_ne (by omega), ← hB, jU_ne (by omega)]
          · rw [wM, jSeqW_set k3 ok (by omega) (by omega) _ (by omega), jSet_ne (by omega), low u u0 (Int.le_refl _) 2 (by decide) (by omega) (by decide)]
            exact h.2.2.2.2.2.2.1
      · rw [if_neg b, low' u u0 u1 (t + 1 + 4 * u) (by omega) (by omega) (by omega), low' u u0 u1 (t + 1 + 4 * u + 1) (by omega) (by omega) (by omega), low' u u0 u1 (t + 1 + 4 * u + 2) (by omega) (by omega) (by omega)]
        refine ⟨by omega, by omega, by omega, by omega, ?_⟩
        obtain ⟨E', hE'⟩ := gH u u0 (by omega)
        obtain ⟨p1, p2, p3, p4, p5, p6⟩ := ok.2.1 u u0 (by omega)
        have f2 := fin u u0 u1 E' hE'
        have e38 : jU E' (51 + 72 * v) 3 (n - 1) 38 = C 38 := by rw [jU_ne (by omega), hE'.1 38 (by decide) (by decide) (by decide) (by decide)]
        have lv : rLive (jU E' (51 + 72 * v) 3 (n - 1)) 35 (σ u) := by
          obtain ⟨z, z0, z1, z2⟩ := p3
          refine ⟨z, z0, ?_, ?_⟩
          · rw [jU_ne (by omega), hE'.1 (35 + 6) (by decide) (by decide) (by decide) (by decide)]; exact z1
          · rw [jU_ne (by omega), hE'.1 (35 + 7) (by decide) (by decide) (by decide) (by decide)]; exact z2
        have st := sp_alters (v := v) (c := cc u) (x := xx u) f2 p1 p2 lv p4 (show cc u < 5 by omega) (wM u) (fun _ => by rw [wD, cnt u u0 u1]; omega) (post := fun C33 => K2 (u + 1) C33)
        rw [e38, (sg u u0 (by omega)).2.2.2, ec, ex] at st
        refine st ?_
        rw [wD]
        refine hk2 _ _ ⟨by omega, by omega, ?_⟩ (by omega)
        rw [← ec, ← ex, ← jSeqW_s u0, ← jSeqD_s u0]
        unfold jSeqM
        funext b
        by_cases b1 : b = 352
        · subst b1; rw [jV_eq, jV_eq]
        · rw [jV_ne b1, jV_ne b1]
          by_cases b2 : b = 346
          · subst b2; rw [jV_eq, jV_eq]
          · rw [jV_ne b2, jV_ne b2, jV_ne b1, jV_ne b2]
    · rw [if_neg a1, if_neg (by omega)]
      refine ⟨g0, ?_⟩
      obtain ⟨f1, f2, f3, f4, f5, f6, f7, f8, f9, f10⟩ := d4 k g0 (by omega)
      obtain ⟨p1, p2, p3, p4, p5, p6⟩ := ok.2.1 k g0 (by omega)
      have ks := (sg k g0 (by omega)).2.2.2
      have e38 : E 38 = C 38 := gI.1 38 (by decide) (by decide) (by decide) (by decide)
      have lv : rLive E 35 (σ k) := by
        obtain ⟨z, z0, z1, z2⟩ := p3
        exact ⟨z, z0, by rw [gI.1 (35 + 6) (by decide) (by decide) (by decide) (by decide)]; exact z1, by rw [gI.1 (35 + 7) (by decide) (by decide) (by decide) (by decide)]; exact z2⟩
      obtain ⟨τ, t1, t2, -⟩ := sp_seatKey gI.2 (C 346 (t + 1 + 4 * k))
      have eτ : τ = σ k := by
        rcases t1 with ⟨-, q⟩ | ⟨q1, q2, q3, q4⟩
        · exact absurd (by rw [e38]; exact ks) (q (σ k) p1 p2 lv)
        · exact r_key gI.2 q1 q2 q3 p1 p2 lv (by rw [q4, e38, ks])
      subst eτ
      rw [eE (e + 1) (by omega), eE (e + 2) (by omega), eE (e + 3) (by omega), f1, f2, f3]
      refine t2 _ ?_
      have e0 : jSeqW v σ cc xx (C 346) k.toNat 0 = C 346 0 := jSeqW_low k3 ok (by decide) (by decide) _ (by omega) (fun t a b => by have := ok.2.1 t a (by omega); omega)
      have e4 : ∀ q, 0 ≤ q → q < 5 → jSeqW v σ cc xx (C 346) k.toNat (4 + q) = C 346 (4 + q) := fun q q0 q1 => jSeqW_low k3 ok (by omega) (by omega) _ (by omega) (fun t a b => by have := ok.2.1 t a (by omega); omega)
      have cl := jSeq_cell (v := v) k3 ok g0 (show k < m by omega) g0 (Int.le_refl _)
      simp only [Int.reduceAdd]
      rw [← ec, ← ex]
      refine sp_back1 gI.2 v0 v1 p1 p2 lv p4 (by rw [e0]; exact p5) (by rw [e4 _ p4 (by omega)]; exact p6) (by rw [cl]; exact nx k g0 (by omega)) (fun X x1 hX => ?_)
      rw [x1 (e + 4) (by omega) (by omega), x1 (e + 3) (by omega) (by omega), eE (e + 4) (by omega), eE (e + 3) (by omega), f4, f3, ← ex]
      rw [cl, e38, ks, ec, (std k g0 (by omega)).2, ← ec] at hX
      have mono : ∀ (P Q : jC → Prop), (∀ Z, P Z → Q Z) → wp_3_takeChange 44 v (C 346 (t + 1 + 4 * k)) (cc k) (C 346 (t + 1 + 4 * k + 3)) (xx k) X P → wp_3_takeChange 44 v (C 346 (t + 1 + 4 * k)) (cc k) (C 346 (t + 1 + 4 * k + 3)) (xx k) X Q := by
        intro P Q hPQ hP
        unfold wp_3_takeChange at hP ⊢
        refine ⟨hP.1, ?_⟩
        have hP := hP.2
        split
        · rename_i z; rw [if_pos z] at hP; exact hPQ _ hP
        · rename_i z
          rw [if_neg z] at hP
          refine ⟨hP.1, ?_⟩
          have hP := hP.2
          split
          · rename_i z; rw [if_pos z] at hP
            obtain ⟨h1, h2, h3, h4, h5, h6, h7, h8⟩ := hP
            exact ⟨h1, h2, h3, h4, h5, h6, h7, hPQ _ h8⟩
          · rename_i z; rw [if_neg z] at hP; exact hPQ _ hP
      refine mono _ _ (fun Z hZ => ?_) hX
      have I2 : jBkI C v (C 346) σ cc xx (k + 1) Z := ⟨fun b b1 b2 b3 b4 => by rw [hZ.1 b b1 b2 b3 b4, gI.1 b b1 b2 b3 b4], by rw [jSeqW_s g0]; exact hZ.2⟩
      refine hk _ _ ⟨by omega, by omega, I2, fun u a b => ?_⟩ (by omega)
      by_cases q : u = k + 1
      · rw [q]; exact ⟨Z, I2⟩
      · exact gH u a (by omega)

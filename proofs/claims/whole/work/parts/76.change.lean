-- one cell changed
def jCelW (v s c x : Int) (w : Int → Int) : Int → Int := fun j => if j = 9 + 11 * s + 6 + c then v else if j = 9 + 11 * s + 1 + c then x else w j
def jDrD (key c was is : Int) (d : Int → Int) : Int → Int := fun j => if j = 0 then d 0 + 1 else if j = 1 + 4 * d 0 then key else if j = 1 + 4 * d 0 + 1 then c else if j = 1 + 4 * d 0 + 2 then was else if j = 1 + 4 * d 0 + 3 then is else d j
def jAlW (v s c x : Int) (w : Int → Int) : Int → Int := if w (9 + 11 * s + 1 + c) = x then w else jLogW v (w (9 + 11 * s)) c (w (9 + 11 * s + 1 + c)) x (jCelW v s c x w)
def jAlD (s c x : Int) (w d : Int → Int) : Int → Int := if w (9 + 11 * s + 1 + c) = x then d else jDrD (w (9 + 11 * s)) c (w (9 + 11 * s + 1 + c)) x d
theorem sp_alters {C : jC} {w : Int → Int} (h : rS 35 C w) {v s c x : Int} (s0 : 0 ≤ s) (s1 : s < 24) (hl : rLive C 35 s) (c0 : 0 ≤ c) (c1 : c < 5) {D : jC} (hD : D 346 = w) (hd : w (9 + 11 * s + 1 + c) ≠ x → 0 ≤ D 352 0 ∧ D 352 0 < 60) {post : jC → Prop}
    (y : post (jV (jV D 346 (jAlW v s c x w)) 352 (jAlD s c x w (D 352)))) : wp_12_alters v (C 38 s) c x D post := by
  have hk := (r_live h s0 s1 hl).1
  have kk := (r_live h s0 s1 hl).2.1
  have h3 := h.1.2.2.2.2.2.2.2.2.2
  have hc := sp_cellOf h s0 s1 hl c0 c1 hD
  simp only [Int.reduceAdd] at hc
  unfold wp_12_alters
  refine hc _ ?_
  unfold jAlW jAlD at y
  by_cases e : w (9 + 11 * s + 1 + c) = x
  · rw [if_pos e]
    rw [if_pos e, if_pos e] at y
    have : jV (jV D 346 w) 352 (D 352) = D := by
      rw [← hD, jV_id, jV_id]
    rw [this] at y; exact y
  · rw [if_neg e]
    rw [if_neg e, if_neg e] at y
    obtain ⟨n0, n1⟩ := hd e
    have rs : ∀ (E : jC), (∀ j, 0 ≤ j → j < 24 → E 346 (9 + 11 * j) = w (9 + 11 * j)) → ∀ q : Int → Prop, q (9 + 11 * s) → wp_12_rowOf (C 38 s) E q := by
      intro E hE q z
      refine sp_rowOf (fun r hr => ?_)
      have er : r = s := by
        have := jFst_congr (q := fun j => 0 ≤ C (35 + 3) s ∧ w (9 + 11 * j) = C (35 + 3) s) (fun j j0 j1 => by rw [hE j j0 j1]; exact Iff.rfl) hr
        exact r_find h s0 s1 hl this
      rw [er, if_neg (by omega)]; exact z
    refine rs D (fun j _ _ => by rw [hD]) _ ⟨by omega, by omega, ?_⟩
    refine rs _ (fun j j0 j1 => by rw [jU_at, if_pos rfl, if_neg (by omega), hD]) _ ⟨by omega, by omega, ?_⟩
    generalize hX : jU (jU D 346 (9 + 11 * s + 1 + c) x) 346 (9 + 11 * s + 6 + c) v = X
    have x1 : X = jV D 346 (jCelW v s c x w) := by
      rw [← hX, jU_S, jU_S, jV_V, jV_eq, hD]
      rfl
    have x352 : X 352 = D 352 := by rw [x1, jV_ne (by decide)]
    rw [x352]
    generalize hn : D 352 0 = n at *
    generalize hY : jU (jU (jU (jU X 352 (1 + 4 * n) (C 38 s)) 352 (1 + 4 * n + 1) c) 352 (1 + 4 * n + 2) (w (9 + 11 * s + 1 + c))) 352 (1 + 4 * n + 3) x = Y
    have y0 : Y 352 0 = n := by
      rw [← hY, jU_at, if_pos rfl, if_neg (by omega), jU_at, if_pos rfl, if_neg (by omega), jU_at, if_pos rfl, if_neg (by omega), jU_at, if_pos rfl, if_neg (by omega), x352, hn]
    have y346 : Y 346 = jCelW v s c x w := by
      rw [← hY, jU_ne (by decide), jU_ne (by decide), jU_ne (by decide), jU_ne (by decide), x1, jV_eq]
    rw [y0]
    refine ⟨by omega, by omega, by omega, by omega, by omega, ⟨by omega, by omega⟩, ?_⟩
    have z346 : jU Y 352 0 (n + 1) 346 = jCelW v s c x w := by rw [jU_ne (by decide), y346]
    have z3 : jCelW v s c x w 3 = w 3 := by
      unfold jCelW
      rw [if_neg (by omega), if_neg (by omega)]
    refine sp_mlog (by rw [z346, z3]; omega) (by rw [z346, z3]; omega) ?_
    rw [z346]
    have fin : jV (jU Y 352 0 (n + 1)) 346 (jLogW v (C 38 s) c (w (9 + 11 * s + 1 + c)) x (jCelW v s c x w)) = jV (jV D 346 (jLogW v (w (9 + 11 * s)) c (w (9 + 11 * s + 1 + c)) x (jCelW v s c x w))) 352 (jDrD (w (9 + 11 * s)) c (w (9 + 11 * s + 1 + c)) x (D 352)) := by
      rw [hk, ← hY, x1]
      funext b
      by_cases b1 : b = 352
      · subst b1
        rw [jV_ne (by decide), jV_eq]
        funext j
        unfold jDrD
        simp only [jU_at]
        rw [jV_ne (by decide), hn]
        grind
      · by_cases b2 : b = 346
        · subst b2
          rw [jV_eq, jV_ne (by decide), jV_eq]
        · rw [jV_ne b2, jU_ne b1, jU_ne b1, jU_ne b1, jU_ne b1, jU_ne b1, jV_ne b2, jV_ne b1, jV_ne b2]
    rw [fin]; exact y
theorem sp_cdraft {key c was is : Int} {C : jC} {post : jC → Prop} (h0 : 0 ≤ C 46 0) (h1 : C 46 0 < 60)
    (y : ∀ C1 : jC, (∀ b, ¬ (46 ≤ b ∧ b ≤ 50) → C1 b = C b) → C1 46 0 = C 46 0 + 1 → (∀ j, C1 47 j = if j = C 46 0 then key else C 47 j) → (∀ j, C1 48 j = if j = C 46 0 then c else C 48 j) → (∀ j, C1 49 j = if j = C 46 0 then was else C 49 j) → (∀ j, C1 50 j = if j = C 46 0 then is else C 50 j) → post C1) : wp_0_takeChange 46 key c was is C post := by
  unfold wp_0_takeChange
  simp only [Int.reduceAdd, jU_ne (show (46 : Int) ≠ 47 by decide), jU_ne (show (46 : Int) ≠ 48 by decide), jU_ne (show (46 : Int) ≠ 49 by decide), jU_ne (show (46 : Int) ≠ 50 by decide)]
  rw [if_neg (by omega)]
  refine ⟨by omega, by omega, by omega, by omega, by omega, by omega, by omega, ⟨by omega, by omega⟩, ?_⟩
  refine y _ (fun b hb => by rw [jU_ne (by omega), jU_ne (by omega), jU_ne (by omega), jU_ne (by omega), jU_ne (by omega)]) (by rw [jU_at, if_pos rfl, if_pos rfl]) (fun j => ?_) (fun j => ?_) (fun j => ?_) (fun j => ?_)
  · rw [jU_ne (by decide), jU_ne (by decide), jU_ne (by decide), jU_ne (by decide), jU_at, if_pos rfl]
  · rw [jU_ne (by decide), jU_ne (by decide), jU_ne (by decide), jU_at, if_pos rfl, jU_ne (by decide)]
  · rw [jU_ne (by decide), jU_ne (by decide), jU_at, if_pos rfl, jU_ne (by decide), jU_ne (by decide)]
  · rw [jU_ne (by decide), jU_at, if_pos rfl, jU_ne (by decide), jU_ne (by decide), jU_ne (by decide)]
/-- the draft of an edit -/
def rDr (C : jC) (w d : Int → Int) : Prop :=
  C 46 0 = d 0 ∧ 0 ≤ d 0 ∧ (∀ i, 0 ≤ i → i < d 0 → C 47 i = d (1 + 4 * i) ∧ C 48 i = d (1 + 4 * i + 1) ∧ C 49 i = d (1 + 4 * i + 2) ∧ C 50 i = d (1 + 4 * i + 3) ∧
    0 ≤ d (1 + 4 * i) ∧ 0 ≤ d (1 + 4 * i + 1) ∧ d (1 + 4 * i + 1) < w 0 ∧ jVal (w (4 + d (1 + 4 * i + 1))) (d (1 + 4 * i + 2)) ∧ jVal (w (4 + d (1 + 4 * i + 1))) (d (1 + 4 * i + 3)) ∧ d (1 + 4 * i + 2) ≠ d (1 + 4 * i + 3)) ∧
  (∀ i j, 0 ≤ i → i < j → j < d 0 → ¬ (d (1 + 4 * i) = d (1 + 4 * j) ∧ d (1 + 4 * i + 1) = d (1 + 4 * j + 1)))
/-- a cell's value and writer, and the log: all else stays -/
theorem rS_cell {C C1 : jC} {w w1 : Int → Int} (h : rS 35 C w) {v s c x key was is : Int} (v0 : -1 ≤ v) (v1 : v < 4) (s0 : 0 ≤ s) (s1 : s < 24) (c0 : 0 ≤ c) (c1 : c < w 0) (hv : jVal (w (4 + c)) x)
    (hd : ∀ b, b ≠ 39 → b ≠ 40 → b ≠ 44 → b ≠ 45 → ¬ (46 ≤ b ∧ b ≤ 50) → b < 339 → C1 b = C b) (h39 : ∀ j, C1 39 j = if j = s * 5 + c then x else C 39 j) (h40 : ∀ j, C1 40 j = if j = s * 5 + c then v else C 40 j)
    (hw : ∀ j, j ≠ 3 → j < 8754 → w1 j = jCelW v s c x w j) (h44 : C1 44 2 = w1 3) (w3a : 0 ≤ w1 3) (w3b : w1 3 ≤ 40) (hG : rG 35 C1 w1) : rS 35 C1 w1 := by
  obtain ⟨hA, hB, hO, hW, hV, -, hZ⟩ := h
  have ww : ∀ j, j ≠ 3 → j < 8754 → j ≠ 9 + 11 * s + 6 + c → j ≠ 9 + 11 * s + 1 + c → w1 j = w j := by
    intro j a b d e
    rw [hw j a b]
    unfold jCelW
    rw [if_neg d, if_neg e]
  have w05 : w 0 ≤ 5 := hA.2.2.1
  have hlive : ∀ t, rLive C1 35 t ↔ rLive C 35 t := by
    intro t; unfold rLive; rw [hd (35 + 6) (by omega) (by omega) (by omega) (by omega) (by omega) (by omega), hd (35 + 7) (by omega) (by omega) (by omega) (by omega) (by omega) (by omega)]
  have k38 : C1 (35 + 3) = C (35 + 3) := hd _ (by omega) (by omega) (by omega) (by omega) (by omega) (by omega)
  refine ⟨?_, ?_, ?_, ?_, ?_, hG, ?_⟩
  · obtain ⟨a1, a2, a3, a4, a5, a6, a7, a8, a9, a10, a11⟩ := hA
    unfold rA
    rw [hd (35 + 1) (by omega) (by omega) (by omega) (by omega) (by omega) (by omega), ww 0 (by omega) (by omega) (by omega) (by omega), ww 1 (by omega) (by omega) (by omega) (by omega), ww 2 (by omega) (by omega) (by omega) (by omega)]
    exact ⟨a1, a2, a3, a4, a5, a6, a7, a8, h44, w3a, w3b⟩
  · intro q q0 q1
    rw [hd (35 + 2) (by omega) (by omega) (by omega) (by omega) (by omega) (by omega), ww (4 + q) (by omega) (by omega) (by omega) (by omega)]; exact hB q q0 q1
  · exact rLst_keep hO (by rw [hd (35 + 6) (by omega) (by omega) (by omega) (by omega) (by omega) (by omega)]) (fun i _ _ => by rw [hd (35 + 6 + 1) (by omega) (by omega) (by omega) (by omega) (by omega) (by omega)]) (fun i _ _ => by rw [k38]) (fun j a b => ww j (by omega) (by omega) (by omega) (by omega))
  · obtain ⟨q1, q2, q3⟩ := hW
    refine ⟨fun t t0 t1 hl => ?_, fun t t0 t1 hl => ?_, fun t u t0 t1 u0 u1 ht hu => ?_⟩
    · rw [hlive] at hl
      obtain ⟨u1, u2, u3, u4⟩ := q1 t t0 t1 hl
      rw [k38, ww (9 + 11 * t) (by omega) (by omega) (by omega) (by omega), ww 2 (by omega) (by omega) (by omega) (by omega), ww 0 (by omega) (by omega) (by omega) (by omega)]
      refine ⟨u1, u2, u3, fun q q0 q1 => ?_⟩
      obtain ⟨f1, f2, f3, f4, f5⟩ := u4 q q0 q1
      unfold rCell
      simp only [Int.reduceAdd] at f1 f2 ⊢
      rw [h39, h40, ww (4 + q) (by omega) (by omega) (by omega) (by omega), hw (9 + 11 * t + 1 + q) (by omega) (by omega), hw (9 + 11 * t + 6 + q) (by omega) (by omega)]
      by_cases e : t = s ∧ q = c
      · obtain ⟨rfl, rfl⟩ := e
        unfold jCelW
        rw [if_pos rfl, if_pos rfl, if_neg (by omega), if_pos rfl, if_pos rfl]
        exact ⟨rfl, rfl, hv, v0, v1⟩
      · unfold jCelW
        rw [if_neg (by omega), if_neg (by omega), if_neg (by omega), if_neg (by omega), if_neg (by omega), if_neg (by omega)]
        exact ⟨f1, f2, f3, f4, f5⟩
    · rw [hlive] at hl
      rw [ww (9 + 11 * t) (by omega) (by omega) (by omega) (by omega)]; exact q2 t t0 t1 hl
    · rw [hlive] at ht hu
      rw [k38]; exact q3 t u t0 t1 u0 u1 ht hu
  · intro u u0 u1
    obtain ⟨p1, p2, p3, p4⟩ := hV u u0 u1
    rw [show 35 + 8 + 8 + 72 * u = 51 + 72 * u by omega] at p1 p2 p3 p4 ⊢
    have kd : ∀ b, 51 ≤ b → b < 339 → C1 b = C b := fun b b0 b1 => hd b (by omega) (by omega) (by omega) (by omega) (by omega) b1
    refine ⟨rLst_keep p1 (by rw [kd (51 + 72 * u + 29) (by omega) (by omega)]) (fun i _ _ => by rw [kd (51 + 72 * u + 29 + 1) (by omega) (by omega)]) (fun i _ _ => by rw [k38]) (fun j a b => ww j (by omega) (by omega) (by omega) (by omega)), fun i i0 i1 => ?_, ?_, ?_⟩
    · rw [ww (298 + 2114 * u) (by omega) (by omega) (by omega) (by omega)] at i1
      rw [hlive, kd (51 + 72 * u + 29 + 1) (by omega) (by omega)]; exact p2 i i0 i1
    · exact rLens_keep p3 hA.2.1 (fun x x0 x1 => kd x (by omega) (by omega)) (ww 0 (by omega) (by omega) (by omega) (by omega)) (fun q q0 q1 => ww _ (by omega) (by omega) (by omega) (by omega)) (fun j j0 j1 => ww j (by omega) (by omega) (by omega) (by omega))
    · exact rEds_keep p4 (by rw [kd (51 + 72 * u) (by omega) (by omega)]) (fun x x0 x1 => kd x (by omega) (by omega)) (ww 0 (by omega) (by omega) (by omega) (by omega)) (fun q q0 q1 => ww _ (by omega) (by omega) (by omega) (by omega)) w05 (fun j j0 j1 => ww j (by omega) (by omega) (by omega) (by omega))
  · unfold rZ at hZ ⊢
    rw [ww 0 (by omega) (by omega) (by omega) (by omega), ww 273 (by omega) (by omega) (by omega) (by omega)]; exact hZ
theorem jLogW_lo {v key c was is j : Int} {w : Int → Int} (h3 : j ≠ 3) (h : j < 8754) : jLogW v key c was is w j = w j := by
  unfold jLogW
  rw [if_neg h3, if_neg (by omega)]
theorem sp_val {C : jC} {w : Int → Int} (h : rS 35 C w) {s c : Int} {post : Int → Prop} (s0 : 0 ≤ s) (s1 : s < 24) (c0 : 0 ≤ c) (c1 : c < w 0) : wp_7_valueAt 36 s c C post = post (C 39 (s * 5 + c)) := by
  obtain ⟨k1, k2, k3, -⟩ := r_cols h
  rw [sp_valueAt (by omega), if_pos ⟨⟨s0, s1⟩, c0, by omega⟩]
  rfl
theorem sp_seat1 {a s : Int} {C : jC} {post : Int → Prop} (s0 : 0 ≤ s) (s1 : s < 24) : wp_7_isSeat a s C post = post 1 := by rw [sp_isSeat, if_pos ⟨s0, s1⟩]
theorem sp_seat0 {a s : Int} {C : jC} {post : Int → Prop} (h : ¬ (0 ≤ s ∧ s < 24)) : wp_7_isSeat a s C post = post 0 := by rw [sp_isSeat, if_neg h]
theorem sp_col1 {a c : Int} {C : jC} {post : Int → Prop} (h5 : C a 0 ≤ 5) (c0 : 0 ≤ c) (c1 : c < C a 0) : wp_7_isColumn a c C post = post 1 := by rw [sp_isColumn h5, if_pos ⟨c0, c1⟩]
theorem sp_write {C : jC} {w : Int → Int} (h : rS 35 C w) {s c x v : Int} {post : jC → Prop} (s0 : 0 ≤ s) (s1 : s < 24) (c0 : 0 ≤ c) (c1 : c < w 0) (y : post (jU (jU C 39 (s * 5 + c) x) 40 (s * 5 + c) v)) : wp_7_write 36 s c x v C post := by
  obtain ⟨k1, k2, k3, -⟩ := r_cols h
  unfold wp_7_write
  rw [sp_seat1 s0 s1, if_neg (by decide), sp_col1 (by omega) c0 (by omega), if_neg (by decide)]
  exact ⟨by omega, by omega, y⟩
theorem sp_change {C : jC} {w d : Int → Int} (h : rS 35 C w) (hr : rDr C w d) {v s c x : Int} (v0 : 0 ≤ v) (v1 : v < 4) (s0 : 0 ≤ s) (s1 : s < 24) (hl : rLive C 35 s) (c0 : 0 ≤ c) (c1 : c < w 0) (hv : jVal (w (4 + c)) x)
    (hd : w (9 + 11 * s + 1 + c) ≠ x → d 0 < 60 ∧ ∀ i, 0 ≤ i → i < d 0 → ¬ (d (1 + 4 * i) = C 38 s ∧ d (1 + 4 * i + 1) = c)) {post : jC → Prop}
    (y : ∀ C1 : jC, (∀ b, b ≠ 39 → b ≠ 40 → b ≠ 44 → b ≠ 45 → ¬ (46 ≤ b ∧ b ≤ 50) → C1 b = C b) → rS 35 C1 (jAlW v s c x w) → rDr C1 (jAlW v s c x w) (jAlD s c x w d) → post C1) : wp_8_changeCell 35 v s c x C post := by
  obtain ⟨k1, k2, k3, -⟩ := r_cols h
  obtain ⟨u1, u2, u3, u4⟩ := r_live h s0 s1 hl
  obtain ⟨f1, f2, f3⟩ := u4 c c0 c1
  have hA := h.1
  obtain ⟨a1, a2, a3, a4, a5, a6, a7, a8, a9, a10, a11⟩ := hA
  simp only [Int.reduceAdd] at a9
  have hG := h.2.2.2.2.2.1
  have g0 := hG.1
  have g1 := hG.2.1
  simp only [Int.reduceAdd] at g0 g1
  unfold wp_8_changeCell
  simp only [Int.reduceAdd]
  rw [sp_val h s0 s1 c0 c1]
  unfold jAlW jAlD at y
  by_cases e : w (9 + 11 * s + 1 + c) = x
  · rw [if_pos (by rw [f1]; exact e)]
    rw [if_pos e, if_pos e] at y
    exact y C (fun _ _ _ _ _ _ => rfl) h hr
  · rw [if_neg (by rw [f1]; exact e), sp_keyAt, if_pos ⟨s0, s1⟩]
    simp only [Int.reduceAdd]
    rw [if_neg e, if_neg e] at y
    obtain ⟨n1, n2⟩ := hd e
    obtain ⟨r1, r2, r3, r4⟩ := hr
    refine sp_write h s0 s1 c0 c1 ?_
    generalize hX : jU (jU C 39 (s * 5 + c) x) 40 (s * 5 + c) v = X
    have x1 : ∀ b, b ≠ 39 → b ≠ 40 → X b = C b := fun b b1 b2 => by rw [← hX, jU_ne b2, jU_ne b1]
    have x39 : ∀ j, X 39 j = if j = s * 5 + c then x else C 39 j := fun j => by rw [← hX, jU_ne (by decide), jU_at, if_pos rfl]
    have x40 : ∀ j, X 40 j = if j = s * 5 + c then v else C 40 j := fun j => by rw [← hX, jU_at, if_pos rfl, jU_ne (by decide)]
    have x46 : X 46 = C 46 := x1 46 (by decide) (by decide)
    refine sp_cdraft (by rw [x46]; omega) (by rw [x46]; omega) (fun Y y1 y2 y3 y4 y5 y6 => ?_)
    rw [x46] at y2 y3 y4 y5 y6
    have y44 : Y 44 = C 44 := by rw [y1 44 (by omega), x1 44 (by decide) (by decide)]
    have y45 : Y 45 = C 45 := by rw [y1 45 (by omega), x1 45 (by decide) (by decide)]
    refine sp_clog (by rw [y44]; omega) (by rw [y44]; omega) (by rw [y44]; omega) (by rw [y44]; omega) (fun Z z1 z2 z3 z4 => ?_)
    rw [y44] at z2 z3 z4
    rw [y45] at z4
    rw [f1, ← u1] at z4
    have lw : ∀ j, j ≠ 3 → j < 8754 → jLogW v (w (9 + 11 * s)) c (w (9 + 11 * s + 1 + c)) x (jCelW v s c x w) j = jCelW v s c x w j := fun j a b => jLogW_lo a b
    have z0 : jCelW v s c x w 3 = w 3 := by unfold jCelW; rw [if_neg (by omega), if_neg (by omega)]
    have l3 : jLogW v (w (9 + 11 * s)) c (w (9 + 11 * s + 1 + c)) x (jCelW v s c x w) 3 = min 40 (w 3 + 1) := by
      unfold jLogW
      rw [if_pos rfl, z0]
    have fr : ∀ b, b ≠ 39 → b ≠ 40 → b ≠ 44 → b ≠ 45 → ¬ (46 ≤ b ∧ b ≤ 50) → Z b = C b := fun b b1 b2 b3 b4 b5 => by rw [z1 b b3 b4, y1 b b5, x1 b b1 b2]
    have ll : ∀ j, 8754 ≤ j → j < 8954 → jLogW v (w (9 + 11 * s)) c (w (9 + 11 * s + 1 + c)) x (jCelW v s c x w) j = if j = 8754 then v else if j = 8755 then w (9 + 11 * s) else if j = 8756 then c else if j = 8757 then w (9 + 11 * s + 1 + c) else if j = 8758 then x else jCelW v s c x w (j - 5) := by
      intro j a b
      unfold jLogW
      rw [if_neg (by omega), if_pos ⟨a, b⟩]
    have hG' : rG 35 Z (jLogW v (w (9 + 11 * s)) c (w (9 + 11 * s + 1 + c)) x (jCelW v s c x w)) := by
      refine rG_log hG a9 a10 a11 z2 z4 l3 (fun j a b => ?_)
      rw [ll j a b]
      by_cases q : j < 8759
      · have hj : j = 8754 ∨ j = 8755 ∨ j = 8756 ∨ j = 8757 ∨ j = 8758 := by omega
        rcases hj with rfl | rfl | rfl | rfl | rfl <;> rfl
      · have : jCelW v s c x w (j - 5) = w (j - 5) := by unfold jCelW; rw [if_neg (by omega), if_neg (by omega)]
        rw [this]
    refine y Z fr (rS_cell (v := v) (s := s) (c := c) (x := x) (key := 0) (was := 0) (is := 0) h (by omega) v1 s0 s1 c0 c1 hv (fun b b1 b2 b3 b4 b5 _ => fr b b1 b2 b3 b4 b5) (fun j => by rw [z1 39 (by decide) (by decide), y1 39 (by omega), x39]) (fun j => by rw [z1 40 (by decide) (by decide), y1 40 (by omega), x40]) lw (by rw [z3, l3, a9]; omega) (by rw [l3]; omega) (by rw [l3]; omega) hG') ?_
    have e46 : Z 46 = Y 46 := z1 46 (by decide) (by decide)
    have e47 : Z 47 = Y 47 := z1 47 (by decide) (by decide)
    have e48 : Z 48 = Y 48 := z1 48 (by decide) (by decide)
    have e49 : Z 49 = Y 49 := z1 49 (by decide) (by decide)
    have e50 : Z 50 = Y 50 := z1 50 (by decide) (by decide)
    have lw0 : jLogW v (w (9 + 11 * s)) c (w (9 + 11 * s + 1 + c)) x (jCelW v s c x w) 0 = w 0 := by rw [lw 0 (by decide) (by decide)]; unfold jCelW; rw [if_neg (by omega), if_neg (by omega)]
    have lw4 : ∀ q, 0 ≤ q → q < 5 → jLogW v (w (9 + 11 * s)) c (w (9 + 11 * s + 1 + c)) x (jCelW v s c x w) (4 + q) = w (4 + q) := fun q q0 q1 => by rw [lw (4 + q) (by omega) (by omega)]; unfold jCelW; rw [if_neg (by omega), if_neg (by omega)]
    generalize hn : d 0 = n at *
    have D0 : jDrD (w (9 + 11 * s)) c (w (9 + 11 * s + 1 + c)) x d 0 = n + 1 := by unfold jDrD; rw [if_pos rfl, hn]
    have Do : ∀ j, 1 ≤ j → j < 1 + 4 * n → jDrD (w (9 + 11 * s)) c (w (9 + 11 * s + 1 + c)) x d j = d j := by
      intro j a b
      unfold jDrD
      rw [hn, if_neg (by omega), if_neg (by omega), if_neg (by omega), if_neg (by omega), if_neg (by omega)]
    have Dk : jDrD (w (9 + 11 * s)) c (w (9 + 11 * s + 1 + c)) x d (1 + 4 * n) = w (9 + 11 * s) ∧ jDrD (w (9 + 11 * s)) c (w (9 + 11 * s + 1 + c)) x d (1 + 4 * n + 1) = c ∧ jDrD (w (9 + 11 * s)) c (w (9 + 11 * s + 1 + c)) x d (1 + 4 * n + 2) = w (9 + 11 * s + 1 + c) ∧ jDrD (w (9 + 11 * s)) c (w (9 + 11 * s + 1 + c)) x d (1 + 4 * n + 3) = x := by
      unfold jDrD
      rw [hn]
      refine ⟨?_, ?_, ?_, ?_⟩
      · rw [if_neg (by omega), if_pos rfl]
      · rw [if_neg (by omega), if_neg (by omega), if_pos rfl]
      · rw [if_neg (by omega), if_neg (by omega), if_neg (by omega), if_pos rfl]
      · rw [if_neg (by omega), if_neg (by omega), if_neg (by omega), if_neg (by omega), if_pos rfl]
    unfold rDr
    rw [D0, e46, e47, e48, e49, e50, lw0]
    refine ⟨by omega, by omega, fun i i0 i1 => ?_, fun i j i0 i1 j1 => ?_⟩
    · rw [y3, y4, y5, y6]
      by_cases q : i = n
      · subst q
        rw [Dk.1, Dk.2.1, Dk.2.2.1, Dk.2.2.2, lw4 c c0 (by omega), r1]
        rw [if_pos rfl, if_pos rfl, if_pos rfl, if_pos rfl]
        exact ⟨u1.symm, rfl, f1, rfl, by omega, c0, c1, f3, hv, e⟩
      · obtain ⟨t1, t2, t3, t4, t5, t6, t7, t8⟩ := r3 i i0 (by omega)
        rw [Do _ (by omega) (by omega), Do _ (by omega) (by omega), Do _ (by omega) (by omega), Do _ (by omega) (by omega), lw4 _ t6 (by omega), r1]
        rw [if_neg q, if_neg q, if_neg q, if_neg q, x1 47 (by decide) (by decide), x1 48 (by decide) (by decide), x1 49 (by decide) (by decide), x1 50 (by decide) (by decide)]
        exact ⟨t1, t2, t3, t4, t5, t6, t7, t8⟩
    · rw [Do (1 + 4 * i) (by omega) (by omega), Do (1 + 4 * i + 1) (by omega) (by omega)]
      by_cases q : j = n
      · subst q
        rw [Dk.1, Dk.2.1, u1]
        exact n2 i i0 i1
      · rw [Do _ (by omega) (by omega), Do _ (by omega) (by omega)]
        exact r4 i j i0 i1 (by omega)

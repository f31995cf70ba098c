-- a sheet's text taken
def jKnW (n : Int) (κ w : Int → Int) : Int → Int := fun j => if j = 0 then n else if 4 ≤ j ∧ j < 9 then κ (j - 4) else w j
theorem rS_cols {C B : jC} {w : Int → Int} (h : rS 35 C w) (h0 : w 0 = 0) {n : Int} {κ : Int → Int} (n1 : 0 ≤ n) (n5 : n ≤ 5) (hκ : ∀ c, 0 ≤ c → c < 5 → κ c = 0 ∨ κ c = 1) (b1 : ∀ b, b ≠ 36 → b ≠ 37 → b < 339 → B b = C b) (b36 : ∀ j, j ≠ 0 → B 36 j = C 36 j) (b0 : B 36 0 = n) (b37 : ∀ c, 0 ≤ c → c < 5 → B 37 c = κ c) : rS 35 B (jKnW n κ w) := by
  obtain ⟨hA, hB, hO, hW, hV, hG, hZ⟩ := h
  obtain ⟨a1, a2, a3, a4, a5, a6, a7, a8, a9, a10, a11⟩ := id hA
  have rows := hZ h0
  have K0 : jKnW n κ w 0 = n := by unfold jKnW; rw [if_pos rfl]
  have K4 : ∀ c, 0 ≤ c → c < 5 → jKnW n κ w (4 + c) = κ c := fun c c0 c1 => by
    unfold jKnW
    rw [if_neg (by omega), if_pos (by omega)]
    congr 1; omega
  have K : ∀ j, j ≠ 0 → ¬ (4 ≤ j ∧ j < 9) → jKnW n κ w j = w j := fun j j0 j1 => by unfold jKnW; rw [if_neg j0, if_neg j1]
  have nolive : ∀ s, ¬ rLive B 35 s := by
    rintro s ⟨j, j0, j1, -⟩
    rw [b1 (35 + 6) (by omega) (by omega) (by omega), hO.1] at j1
    omega
  refine ⟨?_, ?_, ?_, ?_, ?_, ?_, ?_⟩
  · unfold rA
    simp only [Int.reduceAdd] at a4 a7 a9 ⊢
    rw [b0, K0, b36 6 (by decide), b36 7 (by decide), b1 44 (by decide) (by decide) (by decide), K 1 (by decide) (by omega), K 2 (by decide) (by omega), K 3 (by decide) (by omega)]
    exact ⟨rfl, n1, n5, a4, a5, a6, a7, a8, a9, a10, a11⟩
  · intro c c0 c1
    simp only [Int.reduceAdd]
    rw [b37 c c0 c1, K4 c c0 c1]
    exact ⟨rfl, hκ c c0 c1⟩
  · exact rLst_keep hO (by rw [b1 (35 + 6) (by omega) (by omega) (by omega)]) (fun i _ _ => by rw [b1 (35 + 6 + 1) (by omega) (by omega) (by omega)]) (fun i _ _ => by rw [b1 (35 + 3) (by omega) (by omega) (by omega)]) (fun j a b => K j (by omega) (by omega))
  · refine ⟨fun s _ _ hl => absurd hl (nolive s), fun s s0 s1 hl => ?_, fun s t _ _ _ _ hs _ => absurd hs (nolive s)⟩
    rw [K (9 + 11 * s) (by omega) (by omega)]
    refine hW.2.1 s s0 s1 (fun z => ?_)
    obtain ⟨j, j0, j1, -⟩ := z
    rw [hO.1] at j1
    omega
  · intro u u0 u1
    obtain ⟨p1, p2, p3, p4⟩ := hV u u0 u1
    rw [show 35 + 8 + 8 + 72 * u = 51 + 72 * u by omega] at p1 p2 p3 p4 ⊢
    have kb : ∀ b, 51 ≤ b → b < 339 → B b = C b := fun b h1 h2 => b1 b (by omega) (by omega) h2
    have kw : ∀ j, 298 ≤ j → jKnW n κ w j = w j := fun j hj => K j (by omega) (by omega)
    obtain ⟨q1, q2, q3, q4, q5, q6, q7, q8, q9⟩ := p3
    refine ⟨rLst_keep p1 (by rw [kb (51 + 72 * u + 29) (by omega) (by omega)]) (fun i _ _ => by rw [kb (51 + 72 * u + 29 + 1) (by omega) (by omega)]) (fun i _ _ => by rw [b1 (35 + 3) (by omega) (by omega) (by omega)]) (fun j a b => kw j (by omega)), fun i i0 i1 => ?_, ?_, ?_⟩
    · rw [kw _ (by omega)] at i1
      have := p2 i i0 i1
      obtain ⟨j, j0, j1, -⟩ := this
      rw [hO.1] at j1
      omega
    · unfold rLens
      rw [kb (51 + 72 * u + 1) (by omega) (by omega), kb (51 + 72 * u + 1 + 2) (by omega) (by omega), kw (298 + 2114 * u + 25) (by omega), kw (298 + 2114 * u + 29) (by omega), K0]
      refine ⟨q1, q2, q3, fun k k0 k1 => ?_, q5, q6, q7, fun c c0 c1 => ?_, fun c c0 c1 => ?_⟩
      · have := q4 k k0 k1
        omega
      · have z := q9 c (by omega) c1
        have f := (q8 c c0 c1).1
        unfold rFil
        rw [kb (51 + 72 * u + 1 + 3 + 5 * c) (by omega) (by omega), kw (298 + 2114 * u + 30 + 31 * c) (by omega)]
        exact ⟨f, by omega, by omega, fun k k0 k1 => by omega⟩
      · rw [kw (298 + 2114 * u + 30 + 31 * c) (by omega)]
        exact q9 c (by omega) c1
    · obtain ⟨e1, e2, e3, e4, e5, e6⟩ := p4
      have none : ¬ 0 < w (298 + 2114 * u + 185) := by
        intro z
        have := e6 0 (by omega) z
        have f1 := this.2.1
        have f2 := (this.2.2.2.1 0 (by omega) (by omega)).2.2.2.2.2.2.1
        have f3 := (this.2.2.2.1 0 (by omega) (by omega)).2.2.2.2.2.1
        omega
      unfold rEds
      rw [kb (51 + 72 * u) (by omega) (by omega), kb (51 + 72 * u + 31) (by omega) (by omega), kw (298 + 2114 * u + 185) (by omega)]
      exact ⟨e1, e2, e3, e4, e5, fun k k0 k1 => by omega⟩
  · exact rG_keep hG (b1 _ (by omega) (by omega) (by omega)) (b1 _ (by omega) (by omega) (by omega)) (K 3 (by decide) (by omega)) a11 (fun j a b => K j (by omega) (by omega))
  · intro _
    rw [K 273 (by decide) (by omega)]; exact rows
theorem rS_text {C : jC} {w : Int → Int} (h : rS 35 C w) {t : Int} (t0 : 0 ≤ t) (t1 : t ≤ 12) : rS 35 (jU C 36 6 t) (jSet w 1 t) := by
  obtain ⟨hA, hB, hO, hW, hV, hG, hZ⟩ := h
  obtain ⟨a1, a2, a3, a4, a5, a6, a7, a8, a9, a10, a11⟩ := id hA
  have b1 : ∀ b, b ≠ 36 → jU C 36 6 t b = C b := fun b hb => jU_ne hb
  have b36 : ∀ j, j ≠ 6 → jU C 36 6 t 36 j = C 36 j := fun j hj => by rw [jU_at, if_pos rfl, if_neg hj]
  have S : ∀ j, j ≠ 1 → jSet w 1 t j = w j := fun j hj => jSet_ne hj
  have live : ∀ s, rLive (jU C 36 6 t) 35 s ↔ rLive C 35 s := by
    intro s; unfold rLive; rw [b1 (35 + 6) (by omega), b1 (35 + 7) (by omega)]
  refine ⟨?_, ?_, ?_, ?_, ?_, ?_, ?_⟩
  · unfold rA
    simp only [Int.reduceAdd] at *
    rw [b36 0 (by decide), b36 7 (by decide), b1 44 (by decide), S 0 (by decide), S 2 (by decide), S 3 (by decide), jSet_eq, jU_at, if_pos rfl, if_pos rfl]
    exact ⟨a1, a2, a3, rfl, t0, t1, a7, a8, a9, a10, a11⟩
  · intro c c0 c1
    rw [b1 (35 + 2) (by omega), S (4 + c) (by omega)]; exact hB c c0 c1
  · exact rLst_keep hO (by rw [b1 (35 + 6) (by omega)]) (fun i _ _ => by rw [b1 (35 + 6 + 1) (by omega)]) (fun i _ _ => by rw [b1 (35 + 3) (by omega)]) (fun j a b => S j (by omega))
  · obtain ⟨q1, q2, q3⟩ := hW
    refine ⟨fun s s0 s1 hl => ?_, fun s s0 s1 hl => ?_, fun s u s0 s1 u0 u1 hs hu => ?_⟩
    · rw [live] at hl
      obtain ⟨u1, u2, u3, u4⟩ := q1 s s0 s1 hl
      rw [b1 (35 + 3) (by omega), S (9 + 11 * s) (by omega), S 2 (by omega), S 0 (by omega)]
      refine ⟨u1, u2, u3, fun c c0 c1 => ?_⟩
      have := u4 c c0 c1
      unfold rCell at this ⊢
      rw [b1 (35 + 4) (by omega), b1 (35 + 5) (by omega), S (4 + c) (by omega), S (9 + 11 * s + 1 + c) (by omega), S (9 + 11 * s + 6 + c) (by omega)]
      exact this
    · rw [live] at hl
      rw [S (9 + 11 * s) (by omega)]; exact q2 s s0 s1 hl
    · rw [live] at hs hu
      rw [b1 (35 + 3) (by omega)]; exact q3 s u s0 s1 u0 u1 hs hu
  · intro u u0 u1
    obtain ⟨p1, p2, p3, p4⟩ := hV u u0 u1
    rw [show 35 + 8 + 8 + 72 * u = 51 + 72 * u by omega] at p1 p2 p3 p4 ⊢
    refine ⟨rLst_keep p1 (by rw [b1 _ (by omega)]) (fun i _ _ => by rw [b1 _ (by omega)]) (fun i _ _ => by rw [b1 _ (by omega)]) (fun j a b => S j (by omega)), fun i i0 i1 => ?_, ?_, ?_⟩
    · rw [S _ (by omega)] at i1
      rw [live, b1 _ (by omega)]; exact p2 i i0 i1
    · exact rLens_keep p3 a2 (fun x x0 x1 => b1 x (by omega)) (S 0 (by omega)) (fun q q0 q1 => S _ (by omega)) (fun j j0 j1 => S j (by omega))
    · exact rEds_keep p4 (by rw [b1 _ (by omega)]) (fun x x0 x1 => b1 x (by omega)) (S 0 (by omega)) (fun q q0 q1 => S _ (by omega)) a3 (fun j j0 j1 => S j (by omega))
  · exact rG_keep hG (b1 _ (by omega)) (b1 _ (by omega)) (S 3 (by omega)) a11 (fun j a b => S j (by omega))
  · unfold rZ at hZ ⊢
    rw [S 0 (by decide), S 273 (by decide)]; exact hZ
def jRwW (s n : Int) (y w : Int → Int) : Int → Int := fun j => if 9 + 11 * s + 1 ≤ j ∧ j < 9 + 11 * s + 1 + n then y (j - (9 + 11 * s + 1)) else w j
/-- the world with a row of n values y at seat s, in the order, not yet in a view -/
def jRw1 (s n : Int) (y w : Int → Int) : Int → Int := jApp 273 (w 273) (w 2) (jRwW s n y (jNewW s w))
theorem jRwW_lo {s n j : Int} {y w : Int → Int} (h : ¬ (9 + 11 * s + 1 ≤ j ∧ j < 9 + 11 * s + 1 + n)) : jRwW s n y w j = w j := by unfold jRwW; rw [if_neg h]
theorem jNewW_lo {s j : Int} {w : Int → Int} (h2 : j ≠ 2) (h : ¬ (9 + 11 * s ≤ j ∧ j < 9 + 11 * s + 11)) : jNewW s w j = w j := by
  unfold jNewW
  rw [if_neg h2, if_neg (by omega), if_neg (by omega), if_neg (by omega)]
/-- one row of the text: the facts of its taking -/
def jRa (w w1 : Int → Int) (n : Int) (y : Int → Int) : Prop := ∃ (B : jC) (s : Int) (φ : Int → Int), rS 35 B w ∧ 0 ≤ s ∧ s < 24 ∧ ¬ rLive B 35 s ∧ (∀ j, 0 ≤ j → j < s → rLive B 35 j) ∧ jJok φ (-1) (w 2) (jRw1 s n y w) 4 ∧ (∀ u, 0 ≤ u → u < 4 → 0 ≤ w (298 + 2114 * u) ∧ w (298 + 2114 * u) < 24) ∧ w1 = jJn φ (-1) (w 2) (jRw1 s n y w) 4
theorem sp_rowApp {C : jC} {w : Int → Int} (h : rS 35 C w) {r n : Int} {y : Int → Int} (n24 : w 273 < 24) (hk : w 2 < 1000000) (hn : w 0 = n) (n1 : 1 ≤ n) (r0 : 0 ≤ r) (r14 : r < 14) (hr : r < C 3 2) (h5 : C 5 r = n) (h6 : ∀ c, 0 ≤ c → c < n → C 6 (r * 5 + c) = y c ∧ jVal (w (4 + c)) (y c)) {post : jC → Prop} {K : Int → jC → Prop}
    (z : ∀ (G : jC) (w1 : Int → Int), jRa w w1 n y → rS 35 G w1 → (∀ b, ¬ (36 ≤ b ∧ b < 339) → G b = C b) → w1 0 = w 0 → (∀ c, 0 ≤ c → c < 5 → w1 (4 + c) = w (4 + c)) → w1 2 = w 2 + 1 → w1 1 = w 1 → w1 273 = w 273 + 1 → K (r + 1) G) : wp_7_seatNewRow 36 C (fun x6 C7 => jL2 (wp_8_takeSheetText_49 35 r x6 post K) 0 C7) := by
  obtain ⟨o1, o2, o3, o4, o5⟩ := r_ord h
  obtain ⟨k1, k2, k3, k4⟩ := r_cols h
  refine sp_newC h n24 hk (fun s D s0 s1 sn sf d1 d2 d3 d4 d5 d6 d7 d8 => ?_)
  have c3 : D 3 = C 3 := d1 3 (by decide) (by decide) (by decide) (by decide)
  have c5 : D 5 = C 5 := d1 5 (by decide) (by decide) (by decide) (by decide)
  have c6 : D 6 = C 6 := d1 6 (by decide) (by decide) (by decide) (by decide)
  refine jL2_of (fun c E => 0 ≤ c ∧ c ≤ n ∧ (∀ b, b ≠ 39 → b ≠ 40 → E b = D b) ∧ (∀ t q, t ≠ s → 0 ≤ q → q < 5 → E 39 (t * 5 + q) = C 39 (t * 5 + q)) ∧ (∀ t q, t ≠ s → 0 ≤ q → q < 5 → E 40 (t * 5 + q) = C 40 (t * 5 + q)) ∧ (∀ q, 0 ≤ q → q < n → E 40 (s * 5 + q) = -1) ∧ (∀ q, 0 ≤ q → q < c → E 39 (s * 5 + q) = y q)) (fun c _ => (n - c).toNat) (fun K1 c E hi hk1 => ?_) ⟨by omega, by omega, fun _ _ _ => rfl, d6, d7, fun q a b => (d8 q a (by omega)).2, fun q a b => by omega⟩
  obtain ⟨c0, c1, e1, e2, e3, e4, e5⟩ := hi
  unfold wp_8_takeSheetText_49 wp_9_widthOf
  rw [if_neg (by omega), if_neg (by omega), e1 5 (by decide) (by decide), c5, h5]
  dsimp only
  by_cases a : n ≤ c
  · rw [if_pos a]
    simp only [Int.reduceAdd]
    have e41 : E 41 = C 41 := by rw [e1 41 (by decide) (by decide), d1 41 (by decide) (by decide) (by decide) (by decide)]
    have e42 : E 42 = C 42 := by rw [e1 42 (by decide) (by decide), d1 42 (by decide) (by decide) (by decide) (by decide)]
    refine sp_putLast (by rw [e41]; exact ⟨by omega, by omega⟩) (by rw [e41]; omega) (by rw [e41]; omega) ?_
    simp only [Int.reduceAdd]
    generalize hF : jV (jV E 42 (jInsF (E 42) 0 (E 41 1) (E 41 1) s)) 41 (jSet (E 41) 1 (E 41 1 + 1)) = F
    have f1 : ∀ b, b ≠ 41 → b ≠ 42 → F b = E b := fun b h1 h2 => by rw [← hF, jV_ne h1, jV_ne h2]
    have f41 : F 41 1 = w 273 + 1 := by rw [← hF, jV_eq, jSet_eq, e41, o1]
    have f42 : ∀ i, 0 ≤ i → i ≤ w 273 → F 42 i = if i < w 273 then C 42 i else if i = w 273 then s else C 42 (i - 1) := fun i i0 i1 => by rw [← hF, jV_ne (by decide), jV_eq, e41, e42, o1, jIns_c i1]
    have x273 : jRwW s n y (jNewW s w) 273 = w 273 := by rw [jRwW_lo (by omega), jNewW_lo (by decide) (by omega)]
    have out : ∀ j, ¬ (273 ≤ j ∧ j < 298) → jRw1 s n y w j = jRwW s n y (jNewW s w) j := fun j hj => by
      unfold jRw1
      exact jApp_out (by omega) (by omega) (by omega)
    have rN := rS_new (w1 := jRw1 s n y w) (p := w 273) (D := F) h s0 s1 sn o2 (Int.le_refl _) n24 (by omega) (fun b b1 b2 b3 b4 b5 b6 _ => by rw [f1 b b5 b6, e1 b b3 b4, d1 b b1 b2 b3 b4]) (fun j hj => by rw [f1 36 (by decide) (by decide), e1 36 (by decide) (by decide), d2 j hj]) (by rw [f1 36 (by decide) (by decide), e1 36 (by decide) (by decide), d3]) (fun t ht => by rw [f1 38 (by decide) (by decide), e1 38 (by decide) (by decide), d4 t ht]) (by rw [f1 38 (by decide) (by decide), e1 38 (by decide) (by decide), d5]) (fun t q h1 h2 h3 => by rw [f1 39 (by decide) (by decide), e2 t q h1 h2 h3]) (fun t q h1 h2 h3 => by rw [f1 40 (by decide) (by decide), e3 t q h1 h2 h3]) (fun q q0 q1 => by
        have v1 : jRw1 s n y w (9 + 11 * s + 1 + q) = y q := by
          rw [out _ (by omega)]
          unfold jRwW
          rw [if_pos (by omega)]
          congr 1; omega
        have v2 : jRw1 s n y w (9 + 11 * s + 6 + q) = -1 := by
          rw [out _ (by omega), jRwW_lo (by omega)]
          unfold jNewW
          rw [if_neg (by omega), if_neg (by omega), if_neg (by omega), if_pos (by omega)]
        rw [v1, v2, f1 39 (by decide) (by decide), f1 40 (by decide) (by decide), e5 q q0 (by omega), e4 q q0 (by omega)]
        exact ⟨(h6 q q0 (by omega)).2, rfl, rfl, by omega, by omega⟩) f41 f42 (fun j j1 j2 j3 => by rw [out j j3, jRwW_lo (by omega), jNewW_lo j1 j2]) (by
        rw [out 2 (by omega), jRwW_lo (by omega)]
        unfold jNewW
        rw [if_pos rfl]) (by
        rw [out _ (by omega), jRwW_lo (by omega)]
        unfold jNewW
        rw [if_neg (by omega), if_pos rfl]) (by unfold jRw1; rw [jApp_b, x273]) (fun i i0 i1 => by
        unfold jRw1
        have := jApp_i (b := 273) (p := w 273) (key := w 2) (w := jRwW s n y (jNewW s w)) i0 (by rw [x273]; exact i1)
        rw [show (274 : Int) = 273 + 1 by omega, this]
        have nw : ∀ j, 273 ≤ j → jRwW s n y (jNewW s w) j = w j := fun j hj => by rw [jRwW_lo (by omega), jNewW_lo (by omega) (by omega)]
        rw [nw _ (by omega)]
        by_cases q1 : i < w 273
        · rw [if_pos q1, if_pos q1]
        rw [if_neg q1, if_neg q1]
        by_cases q2 : i = w 273
        · rw [if_pos q2, if_pos q2]
        rw [if_neg q2, if_neg q2, nw _ (by omega)])
    obtain ⟨rF, lF, lF2⟩ := rN
    have W2 : ∀ u, 0 ≤ u → u < 4 → jRw1 s n y w (298 + 2114 * u) = w (298 + 2114 * u) := fun u u0 u1 => by rw [out _ (by omega), jRwW_lo (by omega), jNewW_lo (by omega) (by omega)]
    have nin : ∀ u, 0 ≤ u → u < 4 → ∀ j, 0 ≤ j → j < w (298 + 2114 * u) → C (51 + 72 * u + 29 + 1) j ≠ s := fun u u0 u1 j a b e => sn (e ▸ ((r_list h u0 u1).2.2.2.1 j a b).2.2.2)
    have f38 : F 38 s = w 2 := by rw [f1 38 (by decide) (by decide), e1 38 (by decide) (by decide), d5]
    refine sp_joinC rF s0 s1 lF (fun u u0 u1 _ j a b => ?_) (fun φ G g1 g2 g3 g4 _ => ?_)
    · rw [W2 u u0 u1] at b
      rw [f1 _ (by omega) (by omega), e1 _ (by omega) (by omega), d1 _ (by omega) (by omega) (by omega) (by omega)]
      exact nin u u0 u1 j a b
    · rw [f38] at g1 g3
      have sz : ∀ u, 0 ≤ u → u < 4 → 0 ≤ w (298 + 2114 * u) ∧ w (298 + 2114 * u) < 24 := fun u u0 u1 => ⟨(r_list h u0 u1).2.1, by have := g4 u u0 u1 (by omega); rw [W2 u u0 u1] at this; exact this⟩
      have jl : ∀ j, j < 298 → jJn φ (-1) (w 2) (jRw1 s n y w) 4 j = jRw1 s n y w j := fun j hj => jJn_low (fun u u0 u1 => by rw [W2 u u0 u1]; exact sz u u0 u1) 4 (by decide) j (fun u u0 u1 => by omega)
      refine ⟨⟨by omega, by omega⟩, z G _ ⟨C, s, φ, h, s0, s1, sn, sf, g1, sz, rfl⟩ g3 (fun b hb => by rw [g2 b (by omega), f1 b (by omega) (by omega), e1 b (by omega) (by omega), d1 b (by omega) (by omega) (by omega) (by omega)]) ?_ (fun c c0 c1 => ?_) ?_ ?_ ?_⟩
      · rw [jl 0 (by decide), out 0 (by omega), jRwW_lo (by omega), jNewW_lo (by decide) (by omega)]
      · rw [jl _ (by omega), out _ (by omega), jRwW_lo (by omega), jNewW_lo (by omega) (by omega)]
      · rw [jl 2 (by decide), out 2 (by omega), jRwW_lo (by omega)]
        unfold jNewW; rw [if_pos rfl]
      · rw [jl 1 (by decide), out 1 (by omega), jRwW_lo (by omega), jNewW_lo (by decide) (by omega)]
      · rw [jl 273 (by decide)]; unfold jRw1; rw [jApp_b, x273]
  · rw [if_neg a]
    have e3' : E 3 = C 3 := by rw [e1 3 (by decide) (by decide), c3]
    have told : ∀ q : Int → Prop, q (y c) → wp_9_toldAt r c E q := by
      intro q hq
      unfold wp_9_toldAt
      rw [if_neg (by omega), e3', if_neg (by omega), if_neg (by omega), if_neg (by omega)]
      unfold wp_9_widthOf
      rw [if_neg (by omega), if_neg (by omega), e1 5 (by decide) (by decide), c5, h5]
      dsimp only
      rw [if_neg a]
      unfold wp_9_toldAt_36
      rw [if_neg (by decide), e1 6 (by decide) (by decide), c6, (h6 c c0 (by omega)).1]
      exact ⟨by omega, by omega, hq⟩
    refine told _ ?_
    unfold wp_7_write
    simp only [Int.reduceAdd]
    have e36 : E 36 0 = n := by rw [e1 36 (by decide) (by decide), d2 0 (by decide), k1, hn]
    rw [sp_seat1 s0 s1, if_neg (by decide), sp_col1 (by rw [e36]; omega) c0 (by rw [e36]; omega), if_neg (by decide)]
    refine ⟨by omega, by omega, ?_⟩
    refine hk1 _ _ ⟨by omega, by omega, fun b h1 h2 => by rw [jU_ne h2, jU_ne h1, e1 b h1 h2], fun t q h1 h2 h3 => ?_, fun t q h1 h2 h3 => ?_, fun q q0 q1 => ?_, fun q q0 q1 => ?_⟩ (by omega)
    · rw [jU_ne (by decide), jU_at, if_pos rfl, if_neg (by omega)]; exact e2 t q h1 h2 h3
    · rw [jU_at, if_pos rfl, if_neg (by omega), jU_ne (by decide)]; exact e3 t q h1 h2 h3
    · rw [jU_at, if_pos rfl]
      by_cases e : s * 5 + q = s * 5 + c
      · rw [if_pos e]
      · rw [if_neg e, jU_ne (by decide)]; exact e4 q q0 q1
    · rw [jU_ne (by decide), jU_at, if_pos rfl]
      by_cases e : q = c
      · subst e; rw [if_pos rfl]
      · rw [if_neg (by omega)]; exact e5 q q0 (by omega)
theorem sp_takeSheet {C : jC} {w : Int → Int} (h : rS 35 C w) {n R : Int} (hn : C 3 0 = n) (n5 : 0 ≤ n ∧ n ≤ 5) (hR : C 3 2 = R) (R0 : 0 ≤ R) (R14 : R ≤ 14) (hK : ∀ c, 0 ≤ c → c < 5 → C 4 c = 0 ∨ C 4 c = 1) (hs : (w 0 = n ∧ ∀ c, 0 ≤ c → c < 5 → w (4 + c) = C 4 c) ∨ w 0 = 0) (hz : n = 0 → R = 0) (hrow : w 273 + R ≤ 24) (hk : w 2 < 900000) (ht : w 1 < 12) (hd : ∀ r, 0 ≤ r → r < R → C 5 r = n ∧ ∀ c, 0 ≤ c → c < n → jVal (C 4 c) (C 6 (r * 5 + c))) {post : jC → Prop}
    (z : ∀ (W : Int → Int → Int) (G : jC), W 0 = jKnW n (C 4) w → (∀ r, 0 ≤ r → r < R → jRa (W r) (W (r + 1)) n (fun c => C 6 (r * 5 + c))) → (∀ r, 0 ≤ r → r ≤ R → W r 0 = n ∧ W r 2 = w 2 + r ∧ W r 1 = w 1 ∧ W r 273 = w 273 + r ∧ ∀ c, 0 ≤ c → c < 5 → W r (4 + c) = C 4 c) → rS 35 G (jSet (W R) 1 (w 1 + 1)) → (∀ b, ¬ (36 ≤ b ∧ b < 339) → G b = C b) → G 36 6 = w 1 + 1 → post G) : wp_8_takeSheetText 35 C post := by
  have hA := h.1
  have t6 := hA.2.2.2.1
  have t60 := hA.2.2.2.2.1
  simp only [Int.reduceAdd] at t6
  unfold wp_8_takeSheetText
  simp only [Int.reduceAdd]
  rw [hn]
  generalize hB : jCpy (jU C 36 0 n) 4 0 37 0 5 = B
  have b1 : ∀ b, b ≠ 36 → b ≠ 37 → B b = C b := fun b h1 h2 => by rw [← hB, jCpy_ne h2, jU_ne h1]
  have b36 : ∀ j, j ≠ 0 → B 36 j = C 36 j := fun j hj => by rw [← hB, jCpy_ne (by decide), jU_at, if_pos rfl, if_neg hj]
  have b0 : B 36 0 = n := by rw [← hB, jCpy_ne (by decide), jU_at, if_pos rfl, if_pos rfl]
  have b37 : ∀ c, 0 ≤ c → c < 5 → B 37 c = C 4 c := fun c c0 c1 => by rw [← hB, jCpy_f c0 c1, jU_ne (by decide)]
  have rB : rS 35 B (jKnW n (C 4) w) := by
    rcases hs with ⟨q1, q2⟩ | q1
    · have ew : jKnW n (C 4) w = w := by
        funext j
        unfold jKnW
        by_cases e1 : j = 0
        · rw [if_pos e1, e1, q1]
        rw [if_neg e1]
        by_cases e2 : 4 ≤ j ∧ j < 9
        · rw [if_pos e2, ← q2 (j - 4) (by omega) (by omega)]
          congr 1; omega
        rw [if_neg e2]
      rw [ew]
      refine rS_keep (fun b _ => ?_) h
      by_cases e1 : b = 36
      · subst e1
        funext j
        by_cases e : j = 0
        · rw [e, b0, ← q1]; exact (r_cols h).1.symm
        · exact b36 j e
      by_cases e2 : b = 37
      · subst e2
        funext j
        by_cases e : 0 ≤ j ∧ j < 5
        · rw [b37 j e.1 e.2, ← q2 j e.1 e.2]; exact (r_kind h e.1 e.2).1.symm
        · rw [← hB, jCpy_eq]
          dsimp only
          rw [if_neg (by omega), jU_ne (by decide)]
      exact b1 b e1 e2
    · exact rS_cols h q1 n5.1 n5.2 hK (fun b h1 h2 _ => b1 b h1 h2) b36 b0 b37
  have K0 : jKnW n (C 4) w 0 = n := by unfold jKnW; rw [if_pos rfl]
  have K4 : ∀ c, 0 ≤ c → c < 5 → jKnW n (C 4) w (4 + c) = C 4 c := fun c c0 c1 => by
    unfold jKnW
    rw [if_neg (by omega), if_pos (by omega)]
    congr 1; omega
  have Kx : ∀ j, j ≠ 0 → ¬ (4 ≤ j ∧ j < 9) → jKnW n (C 4) w j = w j := fun j j0 j1 => by unfold jKnW; rw [if_neg j0, if_neg j1]
  refine jL2_of (fun r E => 0 ≤ r ∧ r ≤ R ∧ (∀ b, ¬ (36 ≤ b ∧ b < 339) → E b = C b) ∧ ∃ W : Int → Int → Int, W 0 = jKnW n (C 4) w ∧ (∀ j, 0 ≤ j → j < r → jRa (W j) (W (j + 1)) n (fun c => C 6 (j * 5 + c))) ∧ (∀ j, 0 ≤ j → j ≤ r → W j 0 = n ∧ W j 2 = w 2 + j ∧ W j 1 = w 1 ∧ W j 273 = w 273 + j ∧ ∀ c, 0 ≤ c → c < 5 → W j (4 + c) = C 4 c) ∧ rS 35 E (W r)) (fun r _ => (R - r).toNat) (fun K r E hi hk1 => ?_) ⟨by omega, by omega, fun b hb => b1 b (by omega) (by omega), fun _ => jKnW n (C 4) w, rfl, fun j a b => by omega, fun j a b => ⟨K0, by show jKnW n (C 4) w 2 = w 2 + j; rw [Kx 2 (by decide) (by omega)]; omega, Kx 1 (by decide) (by omega), by show jKnW n (C 4) w 273 = w 273 + j; rw [Kx 273 (by decide) (by omega)]; omega, K4⟩, rB⟩
  obtain ⟨i0, i1, i2, W, i3, i4, i5, i6⟩ := hi
  unfold wp_8_takeSheetText_30
  simp only [Int.reduceAdd]
  rw [i2 3 (by omega), hR]
  obtain ⟨v1, v2, v3, v4, v5⟩ := i5 r i0 (Int.le_refl _)
  by_cases a : R ≤ r
  · rw [if_pos a]
    have er : r = R := by omega
    subst er
    have e6 : E 36 6 = w 1 := by
      have := i6.1.2.2.2.1
      simp only [Int.reduceAdd] at this
      rw [this, v3]
    rw [e6]
    refine ⟨⟨by omega, by omega⟩, z W _ i3 i4 i5 (rS_text i6 (by omega) (by omega)) (fun b hb => by rw [jU_ne (by omega), i2 b hb]) (by rw [jU_at, if_pos rfl, if_pos rfl])⟩
  · rw [if_neg a]
    obtain ⟨x1, x2⟩ := hd r i0 (by omega)
    refine sp_rowApp (n := n) (y := fun c => C 6 (r * 5 + c)) i6 (by omega) (by omega) v1 (by omega) i0 (by omega) (by rw [i2 3 (by omega)]; omega) (by rw [i2 5 (by omega)]; exact x1) (fun c c0 c1 => ⟨by rw [i2 6 (by omega)], by rw [v5 c c0 (by omega)]; exact x2 c c0 c1⟩) (fun G w1 g1 g2 g3 g4 g5 g6 g7 g8 => ?_)
    obtain ⟨W', eW⟩ : ∃ W' : Int → Int → Int, ∀ j, W' j = if j = r + 1 then w1 else W j := ⟨fun j => if j = r + 1 then w1 else W j, fun _ => rfl⟩
    refine hk1 _ _ ⟨by omega, by omega, fun b hb => by rw [g3 b hb, i2 b hb], W', by rw [eW, if_neg (by omega)]; exact i3, fun j j0 j1 => ?_, fun j j0 j1 => ?_, by rw [eW, if_pos rfl]; exact g2⟩ (by omega)
    · rw [eW, eW]
      by_cases e : j = r
      · subst e
        rw [if_neg (by omega), if_pos rfl]; exact g1
      · rw [if_neg (by omega), if_neg (by omega)]; exact i4 j j0 (by omega)
    · rw [eW]
      by_cases e : j = r + 1
      · rw [if_pos e]
        refine ⟨by rw [g4, v1], by rw [g6]; omega, by rw [g7, v3], by rw [g8]; omega, fun c c0 c1 => by rw [g5 c c0 c1]; exact v5 c c0 c1⟩
      · rw [if_neg e]; exact i5 j j0 (by omega)

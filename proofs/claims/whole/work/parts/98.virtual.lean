-- rows that the model takes, though the class may not
theorem jJ_ex {C : jC} {w : Int → Int} (h : rS 35 C w) {s : Int} (s0 : 0 ≤ s) (s1 : s < 24) (sl : rLive C 35 s) (hn : ∀ u, 0 ≤ u → u < 4 → ∀ i, 0 ≤ i → i < w (298 + 2114 * u) → C (51 + 72 * u + 29 + 1) i ≠ s) : ∃ (φ : Int → Int) (D : jC), jJok φ (-1) (C 38 s) w 4 ∧ rS 35 D (jJn φ (-1) (C 38 s) w 4) ∧ (∀ u, 0 ≤ u → u < 4 → w (298 + 2114 * u) < 24) := by
  have room : ∀ u, 0 ≤ u → u < 4 → w (298 + 2114 * u) < 24 := fun u u0 u1 => rLst_room (r_view h u0 u1).1 s0 s1 (hn u u0 u1)
  have key : ∀ k : Nat, (k : Int) ≤ 4 → ∃ (φ : Int → Int) (D : jC), jJok φ (-1) (C 38 s) w k ∧ (∀ b, (∀ u, 0 ≤ u → u < (k : Int) → b ≠ 51 + 72 * u + 29 ∧ b ≠ 51 + 72 * u + 29 + 1) → D b = C b) ∧ rS 35 D (jJn φ (-1) (C 38 s) w k) ∧ (∀ u, (k : Int) ≤ u → u < 4 → jJn φ (-1) (C 38 s) w k (298 + 2114 * u) = w (298 + 2114 * u)) := by
    intro k
    induction k with
    | zero => intro _; exact ⟨fun _ => 0, C, fun u a b => by omega, fun b _ => rfl, h, fun u _ _ => rfl⟩
    | succ k ih =>
      intro hk
      obtain ⟨φ, D, i2, i3, i4, i5⟩ := ih (by omega)
      have slD : rLive D 35 s := by
        obtain ⟨z, z0, z1, z2⟩ := sl
        exact ⟨z, z0, by rw [i3 (35 + 6) (fun u _ _ => by omega)]; exact z1, by rw [i3 (35 + 7) (fun u _ _ => by omega)]; exact z2⟩
      have e38 : D 38 = C 38 := i3 38 (fun u _ _ => by omega)
      obtain ⟨r, r0, r1, r2⟩ := sp_fit i4 (show (0 : Int) ≤ k by omega) (show (k : Int) < 4 by omega) s0 s1 slD
      rw [e38] at r2
      have cg : ∀ q : Nat, q ≤ k → jJn (fun u => if u = (k : Int) then r else φ u) (-1) (C 38 s) w q = jJn φ (-1) (C 38 s) w q := fun q q1 => jJn_congr _ (fun u u0 u1 => by rw [if_neg (by omega)])
      have ok' : jJok (fun u => if u = (k : Int) then r else φ u) (-1) (C 38 s) w ((k + 1 : Nat) : Int) := by
        intro u u0 u1 u2
        rw [cg u.toNat (by omega)]
        dsimp only
        by_cases e : u = k
        · rw [if_pos e]
          rw [e]
          exact ⟨r0, fun E hE => r2 E (by rw [hE, show ((k : Int)).toNat = k by omega])⟩
        · rw [if_neg e]
          exact i2 u u0 (by omega) u2
      have st : jJn (fun u => if u = (k : Int) then r else φ u) (-1) (C 38 s) w (k + 1) = if (k : Int) = -1 ∨ r = 0 then jJn φ (-1) (C 38 s) w k else jApp (298 + 2114 * k) (jJn φ (-1) (C 38 s) w k (298 + 2114 * k)) (C 38 s) (jJn φ (-1) (C 38 s) w k) := by
        show (if (k : Int) = -1 ∨ (if (k : Int) = (k : Int) then r else φ k) = 0 then _ else _) = _
        rw [if_pos rfl, cg k (Nat.le_refl _)]
      by_cases c : r = 0
      · rw [if_pos (Or.inr c)] at st
        refine ⟨_, D, ok', fun b hb => i3 b (fun u u0 u1 => hb u u0 (by omega)), by rw [st]; exact i4, fun u u0 u1 => by rw [st]; exact i5 u (by omega) u1⟩
      · rw [if_neg (by omega)] at st
        have rm := room k (by omega) (by omega)
        have l1 := (r_list i4 (show (0 : Int) ≤ k by omega) (show (k : Int) < 4 by omega)).1
        have l2 := (r_list i4 (show (0 : Int) ≤ k by omega) (show (k : Int) < 4 by omega)).2.1
        have wk := i5 k (Int.le_refl _) (by omega)
        rw [wk] at l1 l2
        have d29 : D (51 + 72 * k + 29 + 1) = C (51 + 72 * k + 29 + 1) := i3 _ (fun u u0 u1 => by omega)
        have rs := rS_put (p := w (298 + 2114 * k)) i4 (show (0 : Int) ≤ k by omega) (show (k : Int) < 4 by omega) (by omega) (by omega) s0 s1 slD (fun i a b' => by rw [d29]; exact hn k (by omega) (by omega) i a (by omega)) rfl
        rw [e38] at rs
        rw [wk] at st
        refine ⟨_, _, ok', fun b hb => ?_, by rw [st]; exact rs, fun u u0 u1 => ?_⟩
        · have hb' := hb k (by omega) (by omega)
          rw [jV_ne hb'.1, jV_ne hb'.2]
          exact i3 b (fun u u0 u1 => hb u u0 (by omega))
        · rw [st, jApp_out (by omega) (by omega) (by omega)]; exact i5 u (by omega) u1
  obtain ⟨φ, D, k1, -, k3, -⟩ := key 4 (by decide)
  exact ⟨φ, D, k1, k3, room⟩
theorem jFree {C : jC} {w : Int → Int} (h : rS 35 C w) (n24 : w 273 < 24) : ∃ s, 0 ≤ s ∧ s < 24 ∧ ¬ rLive C 35 s ∧ ∀ j, 0 ≤ j → j < s → rLive C 35 j := by
  obtain ⟨o1, o2, o3, o4, o5⟩ := r_ord h
  obtain ⟨s, hs⟩ := jFst_ex (fun j => ¬ rLive C 35 j) 24 (by omega)
  rcases hs with ⟨a0, a1, a2, a3⟩ | ⟨-, a1⟩
  · exact ⟨s, a0, a1, a2, fun j j0 j1 => Classical.not_not.mp (a3 j j0 j1)⟩
  · exfalso
    have H : ∀ j, ∃ i, 0 ≤ j → j < 24 → 0 ≤ i ∧ i < w 273 ∧ C 42 i = j := by
      intro j
      by_cases q : 0 ≤ j ∧ j < 24
      · obtain ⟨i, b1, b2, b3⟩ := Classical.not_not.mp (a1 j q.1 q.2)
        simp only [Int.reduceAdd] at b2 b3
        exact ⟨i, fun _ _ => ⟨b1, by omega, b3⟩⟩
      · exact ⟨0, fun a b => absurd ⟨a, b⟩ q⟩
    obtain ⟨g, hg⟩ := Classical.skolem.mp H
    obtain ⟨i, j, b1, b2, b3, b4⟩ := jPig 24 (by omega) (by omega) g (fun j j0 j1 => ⟨(hg j j0 (by omega)).1, by have := (hg j j0 (by omega)).2.1; omega⟩)
    have e1 := (hg i b1 (by omega)).2.2
    have e2 := (hg j (by omega) (by omega)).2.2
    rw [b4, e2] at e1
    omega
theorem jRa_ex {C : jC} {w : Int → Int} (h : rS 35 C w) {n : Int} {y : Int → Int} (n24 : w 273 < 24) (hn : w 0 = n) (n1 : 1 ≤ n) (h6 : ∀ c, 0 ≤ c → c < n → jVal (w (4 + c)) (y c)) : ∃ (G : jC) (w1 : Int → Int), jRa w w1 n y ∧ rS 35 G w1 ∧ w1 0 = w 0 ∧ (∀ c, 0 ≤ c → c < 5 → w1 (4 + c) = w (4 + c)) ∧ w1 2 = w 2 + 1 ∧ w1 1 = w 1 ∧ w1 273 = w 273 + 1 := by
  obtain ⟨o1, o2, o3, o4, o5⟩ := r_ord h
  obtain ⟨k1, k2, k3, k4⟩ := r_cols h
  obtain ⟨s, s0, s1, sn, sf⟩ := jFree h n24
  have x273 : jRwW s n y (jNewW s w) 273 = w 273 := by rw [jRwW_lo (by omega), jNewW_lo (by decide) (by omega)]
  have out : ∀ j, ¬ (273 ≤ j ∧ j < 298) → jRw1 s n y w j = jRwW s n y (jNewW s w) j := fun j hj => by
    unfold jRw1
    exact jApp_out (by omega) (by omega) (by omega)
  obtain ⟨F, hF⟩ : ∃ F : jC, F = fun b => if b = 36 then jSet (C 36) 7 (w 2 + 1) else if b = 38 then jSet (C 38) s (w 2) else if b = 39 then (fun j => if s * 5 ≤ j ∧ j < s * 5 + 5 then y (j - s * 5) else C 39 j) else if b = 40 then (fun j => if s * 5 ≤ j ∧ j < s * 5 + 5 then -1 else C 40 j) else if b = 41 then jSet (C 41) 1 (w 273 + 1) else if b = 42 then jInsF (C 42) 0 (w 273) (w 273) s else C b := ⟨_, rfl⟩
  have F36 : F 36 = jSet (C 36) 7 (w 2 + 1) := by rw [hF]; rfl
  have F38 : F 38 = jSet (C 38) s (w 2) := by rw [hF]; rfl
  have F39 : F 39 = fun j => if s * 5 ≤ j ∧ j < s * 5 + 5 then y (j - s * 5) else C 39 j := by rw [hF]; rfl
  have F40 : F 40 = fun j => if s * 5 ≤ j ∧ j < s * 5 + 5 then -1 else C 40 j := by rw [hF]; rfl
  have F41 : F 41 = jSet (C 41) 1 (w 273 + 1) := by rw [hF]; rfl
  have F42 : F 42 = jInsF (C 42) 0 (w 273) (w 273) s := by rw [hF]; rfl
  have Fb : ∀ b, b ≠ 36 → b ≠ 38 → b ≠ 39 → b ≠ 40 → b ≠ 41 → b ≠ 42 → F b = C b := fun b h1 h2 h3 h4 h5 h6 => by
    rw [hF]
    dsimp only
    rw [if_neg h1, if_neg h2, if_neg h3, if_neg h4, if_neg h5, if_neg h6]
  have rN := rS_new (w1 := jRw1 s n y w) (p := w 273) (D := F) h s0 s1 sn o2 (Int.le_refl _) n24 (by omega) (fun b b1 b2 b3 b4 b5 b6 _ => Fb b b1 b2 b3 b4 b5 b6) (fun j hj => by rw [F36, jSet_ne hj]) (by rw [F36, jSet_eq]) (fun t ht => by rw [F38, jSet_ne ht]) (by rw [F38, jSet_eq]) (fun t q h1 h2 h3 => by rw [F39]; dsimp only; rw [if_neg (by omega)]) (fun t q h1 h2 h3 => by rw [F40]; dsimp only; rw [if_neg (by omega)]) (fun q q0 q1 => by
      have v1 : jRw1 s n y w (9 + 11 * s + 1 + q) = y q := by
        rw [out _ (by omega)]
        unfold jRwW
        rw [if_pos (by omega)]
        congr 1; omega
      have v2 : jRw1 s n y w (9 + 11 * s + 6 + q) = -1 := by
        rw [out _ (by omega), jRwW_lo (by omega)]
        unfold jNewW
        rw [if_neg (by omega), if_neg (by omega), if_neg (by omega), if_pos (by omega)]
      rw [v1, v2, F39, F40]
      dsimp only
      rw [if_pos (by omega), if_pos (by omega), show s * 5 + q - s * 5 = q by omega]
      exact ⟨h6 q q0 (by omega), rfl, rfl, by omega, by omega⟩) (by rw [F41, jSet_eq]) (fun i i0 i1 => by rw [F42, jIns_c i1]) (fun j j1 j2 j3 => by rw [out j j3, jRwW_lo (by omega), jNewW_lo j1 j2]) (by
      rw [out 2 (by omega), jRwW_lo (by omega)]
      unfold jNewW
      rw [if_pos rfl]) (by
      rw [out _ (by omega), jRwW_lo (by omega)]
      unfold jNewW
      rw [if_neg (by omega), if_pos rfl]) (by unfold jRw1; rw [jApp_b, x273]) (fun i i0 i1 => by
      unfold jRw1
      have := jApp_i (b := 273) (p := w 273) (key := w 2) (w := jRwW s n y (jNewW s w)) i0 (by rw [x273]; exact i1)
      rw [show (274 : Int) = 273 + 1 by omega, this]
      have nw : ∀ j, 273 ≤ j → jRwW s n y (jNewW s w) j = w j := fun j hj => by rw [jRwW_lo (by omega), jNewW_lo (by omega) (by omega)]
      rw [nw _ (by omega)]
      by_cases q1 : i < w 273
      · rw [if_pos q1, if_pos q1]
      rw [if_neg q1, if_neg q1]
      by_cases q2 : i = w 273
      · rw [if_pos q2, if_pos q2]
      rw [if_neg q2, if_neg q2, nw _ (by omega)])
  obtain ⟨rF, lF, lF2⟩ := rN
  have W2 : ∀ u, 0 ≤ u → u < 4 → jRw1 s n y w (298 + 2114 * u) = w (298 + 2114 * u) := fun u u0 u1 => by rw [out _ (by omega), jRwW_lo (by omega), jNewW_lo (by omega) (by omega)]
  have nin : ∀ u, 0 ≤ u → u < 4 → ∀ j, 0 ≤ j → j < w (298 + 2114 * u) → C (51 + 72 * u + 29 + 1) j ≠ s := fun u u0 u1 j a b e => sn (e ▸ ((r_list h u0 u1).2.2.2.1 j a b).2.2.2)
  obtain ⟨φ, G, g1, g3, g4⟩ := jJ_ex rF s0 s1 lF (fun u u0 u1 j a b => by
    rw [W2 u u0 u1] at b
    rw [Fb _ (by omega) (by omega) (by omega) (by omega) (by omega) (by omega)]
    exact nin u u0 u1 j a b)
  rw [show F 38 s = w 2 by rw [F38, jSet_eq]] at g1 g3
  have sz : ∀ u, 0 ≤ u → u < 4 → 0 ≤ w (298 + 2114 * u) ∧ w (298 + 2114 * u) < 24 := fun u u0 u1 => ⟨(r_list h u0 u1).2.1, by have := g4 u u0 u1; rw [W2 u u0 u1] at this; exact this⟩
  have jl : ∀ j, j < 298 → jJn φ (-1) (w 2) (jRw1 s n y w) 4 j = jRw1 s n y w j := fun j hj => jJn_low (fun u u0 u1 => by rw [W2 u u0 u1]; exact sz u u0 u1) 4 (by decide) j (fun u u0 u1 => by omega)
  refine ⟨G, _, ⟨C, s, φ, h, s0, s1, sn, sf, g1, sz, rfl⟩, g3, ?_, fun c c0 c1 => ?_, ?_, ?_, ?_⟩
  · rw [jl 0 (by decide), out 0 (by omega), jRwW_lo (by omega), jNewW_lo (by decide) (by omega)]
  · rw [jl _ (by omega), out _ (by omega), jRwW_lo (by omega), jNewW_lo (by omega) (by omega)]
  · rw [jl 2 (by decide), out 2 (by omega), jRwW_lo (by omega)]
    unfold jNewW; rw [if_pos rfl]
  · rw [jl 1 (by decide), out 1 (by omega), jRwW_lo (by omega), jNewW_lo (by decide) (by omega)]
  · rw [jl 273 (by decide)]; unfold jRw1; rw [jApp_b, x273]
/-- the worlds of the model, row by row, for what a text e has told -/
def jAp (e : jC) (w : Int → Int) (W : Int → Int → Int) : Prop := W 0 = jKnW (e 3 0) (e 4) w ∧ (∀ r, 0 ≤ r → r < e 3 2 → jRa (W r) (W (r + 1)) (e 3 0) (fun c => e 6 (r * 5 + c))) ∧ (∀ r, 0 ≤ r → r ≤ e 3 2 → W r 0 = e 3 0 ∧ W r 2 = w 2 + r ∧ W r 1 = w 1 ∧ W r 273 = w 273 + r ∧ ∀ c, 0 ≤ c → c < 5 → W r (4 + c) = e 4 c)
theorem jAp_ex {T : Int → Int} {m r0 k : Int} {C e : jC} {w : Int → Int} (h : rS 35 C w) (hd : jSd T m r0 k e) (hr : r0 = w 273) (hs : (w 0 = e 3 0 ∧ ∀ c, 0 ≤ c → c < 5 → w (4 + c) = e 4 c) ∨ w 0 = 0) : ∃ W, jAp e w W ∧ ∃ B, rS 35 B (W (e 3 2)) := by
  obtain ⟨a1, a2, a3, a4, a5, a6, a7, a8, a9⟩ := hd
  have K0 : jKnW (e 3 0) (e 4) w 0 = e 3 0 := by unfold jKnW; rw [if_pos rfl]
  have K4 : ∀ c, 0 ≤ c → c < 5 → jKnW (e 3 0) (e 4) w (4 + c) = e 4 c := fun c c0 c1 => by
    unfold jKnW
    rw [if_neg (by omega), if_pos (by omega)]
    congr 1; omega
  have Kx : ∀ j, j ≠ 0 → ¬ (4 ≤ j ∧ j < 9) → jKnW (e 3 0) (e 4) w j = w j := fun j j0 j1 => by unfold jKnW; rw [if_neg j0, if_neg j1]
  have base : ∃ B, rS 35 B (jKnW (e 3 0) (e 4) w) := by
    rcases hs with ⟨q1, q2⟩ | q1
    · have ew : jKnW (e 3 0) (e 4) w = w := by
        funext j
        unfold jKnW
        by_cases e1 : j = 0
        · rw [if_pos e1, e1, q1]
        rw [if_neg e1]
        by_cases e2 : 4 ≤ j ∧ j < 9
        · rw [if_pos e2, ← q2 (j - 4) (by omega) (by omega)]
          congr 1; omega
        rw [if_neg e2]
      exact ⟨C, by rw [ew]; exact h⟩
    · refine ⟨jV (jV C 36 (jSet (C 36) 0 (e 3 0))) 37 (e 4), rS_cols h q1 a1 a2 a3 (fun b h1 h2 _ => by rw [jV_ne h2, jV_ne h1]) (fun j hj => by rw [jV_ne (by decide), jV_eq, jSet_ne hj]) (by rw [jV_ne (by decide), jV_eq, jSet_eq]) (fun c _ _ => by rw [jV_eq])⟩
  have key : ∀ R : Nat, (R : Int) ≤ e 3 2 → ∃ W : Int → Int → Int, W 0 = jKnW (e 3 0) (e 4) w ∧ (∀ r, 0 ≤ r → r < (R : Int) → jRa (W r) (W (r + 1)) (e 3 0) (fun c => e 6 (r * 5 + c))) ∧ (∀ r, 0 ≤ r → r ≤ (R : Int) → W r 0 = e 3 0 ∧ W r 2 = w 2 + r ∧ W r 1 = w 1 ∧ W r 273 = w 273 + r ∧ ∀ c, 0 ≤ c → c < 5 → W r (4 + c) = e 4 c) ∧ ∃ B, rS 35 B (W R) := by
    intro R
    induction R with
    | zero => intro _; exact ⟨fun _ => jKnW (e 3 0) (e 4) w, rfl, fun r a b => by omega, fun r a b => ⟨K0, by show jKnW (e 3 0) (e 4) w 2 = w 2 + r; rw [Kx 2 (by decide) (by omega)]; omega, Kx 1 (by decide) (by omega), by show jKnW (e 3 0) (e 4) w 273 = w 273 + r; rw [Kx 273 (by decide) (by omega)]; omega, K4⟩, base⟩
    | succ R ih =>
      intro hR
      obtain ⟨W, w1, w2, w3, B, w4⟩ := ih (by omega)
      obtain ⟨v1, v2, v3, v4, v5⟩ := w3 R (by omega) (Int.le_refl _)
      obtain ⟨x1, x2⟩ := a9 R (by omega) (by omega)
      have nz : 1 ≤ e 3 0 := by
        by_cases z : e 3 0 = 0
        · have := a7 z; omega
        · omega
      obtain ⟨G, wn, g1, g2, g4, g5, g6, g7, g8⟩ := jRa_ex (n := e 3 0) (y := fun c => e 6 ((R : Int) * 5 + c)) w4 (by omega) v1 nz (fun c c0 c1 => by rw [v5 c c0 (by omega)]; exact x2 c c0 c1)
      obtain ⟨W', eW⟩ : ∃ W' : Int → Int → Int, ∀ j, W' j = if j = (R : Int) + 1 then wn else W j := ⟨fun j => if j = (R : Int) + 1 then wn else W j, fun _ => rfl⟩
      refine ⟨W', by rw [eW, if_neg (by omega)]; exact w1, fun r r0 r1 => ?_, fun r r0 r1 => ?_, G, by rw [eW, if_pos (by omega)]; exact g2⟩
      · rw [eW, eW]
        by_cases er : r = R
        · subst er
          rw [if_neg (by omega), if_pos rfl]; exact g1
        · rw [if_neg (by omega), if_neg (by omega)]; exact w2 r r0 (by omega)
      · rw [eW]
        by_cases er : r = (R : Int) + 1
        · rw [if_pos er]
          exact ⟨by rw [g4, v1], by rw [g6]; omega, by rw [g7, v3], by rw [g8]; omega, fun c c0 c1 => by rw [g5 c c0 c1]; exact v5 c c0 c1⟩
        · rw [if_neg er]; exact w3 r r0 (by omega)
  obtain ⟨W, w1, w2, w3, w4⟩ := key (e 3 2).toNat (by omega)
  rw [Int.toNat_of_nonneg a4] at w2 w3 w4
  exact ⟨W, ⟨w1, w2, w3⟩, w4⟩

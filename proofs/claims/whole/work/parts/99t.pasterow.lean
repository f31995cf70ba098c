-- rows that a paste makes, and the grids one by one
theorem rDr_keep {C D : jC} {w w1 d : Int → Int} (h : rDr C w d) (hd : ∀ b, 46 ≤ b → b ≤ 50 → D b = C b) (h0 : w1 0 = w 0) (h4 : ∀ c, 0 ≤ c → c < 5 → w1 (4 + c) = w (4 + c)) (h5 : w 0 ≤ 5) : rDr D w1 d := by
  obtain ⟨a1, a2, a3, a4⟩ := h
  refine ⟨by rw [hd 46 (by omega) (by omega)]; exact a1, a2, fun i i0 i1 => ?_, a4⟩
  obtain ⟨b1, b2, b3, b4, b5, b6, b7, b8, b9, b10⟩ := a3 i i0 i1
  rw [hd 47 (by omega) (by omega), hd 48 (by omega) (by omega), hd 49 (by omega) (by omega), hd 50 (by omega) (by omega), h0, h4 _ b6 (by omega)]
  exact ⟨b1, b2, b3, b4, b5, b6, b7, b8, b9, b10⟩
theorem sp_pNew {E : jC} {W d : Int → Int} (h : rS 35 E W) (hr : rDr E W d) {v : Int} (v0 : 0 ≤ v) (v1 : v < 4) (n24 : W 273 < 24) (hk : W 2 < 1000000) (cc : W 0 ≠ 0) {post : Int → jC → Prop}
    (y : ∀ (s : Int) (F : jC) (W' : Int → Int), 0 ≤ s → s < 24 → rLive F 35 s → F 38 s = W 2 → rS 35 F W' → rDr F W' d → (∀ b, b ≠ 36 → b ≠ 38 → b ≠ 39 → b ≠ 40 → b ≠ 41 → b ≠ 42 → b ≠ 51 + 72 * v + 29 → b ≠ 51 + 72 * v + 29 + 1 → F b = E b) → W' (298 + 2114 * v) = W (298 + 2114 * v) + 1 → W' 273 = W 273 + 1 → W' 2 = W 2 + 1 → W' (298 + 2114 * v + 1 + W (298 + 2114 * v)) = W 2 → F (51 + 72 * v + 29 + 1) (W (298 + 2114 * v)) = s → (∀ j, 0 ≤ j → j < W (298 + 2114 * v) → W' (298 + 2114 * v + 1 + j) = W (298 + 2114 * v + 1 + j)) → (∀ j, j ≠ 2 → j < 9 → W' j = W j) → (∀ j, 298 ≤ j → (j < 298 + 2114 * v ∨ 298 + 2114 * v + 25 ≤ j) → W' j = W j) → (∀ (B : jC) (Q : jC → Prop), B 346 = W → Q (jV B 346 W') → wp_12_comes B (fun x C55 => wp_12_putsLast 273 x C55 (fun C59 => wp_12_listOf v C59 (fun l => wp_12_putsLast l x C59 Q)))) → post s F) : wp_7_seatNewRow 36 E (fun x C48 => wp_6_putLast 41 x C48 (fun C52 => wp_6_putLast (51 + 72 * v + 29) x C52 (fun C56 => post x C56))) := by
  obtain ⟨k1, k2, k3, k4⟩ := r_cols h
  obtain ⟨o1, o2, o3, o4, o5⟩ := r_ord h
  obtain ⟨l1, l2, l3, l4, l5⟩ := r_list h v0 v1
  refine sp_newC h n24 hk (fun s D s0 s1 sn sf d1 d2 d3 d4 d5 d6 d7 d8 => ?_)
  have e41 : D 41 = E 41 := d1 41 (by decide) (by decide) (by decide) (by decide)
  have e42 : D 42 = E 42 := d1 42 (by decide) (by decide) (by decide) (by decide)
  unfold wp_6_putLast
  refine sp_putAt (by rw [e41]; exact ⟨by omega, by omega⟩) (by rw [e41]; omega) (Int.le_refl _) (by rw [e41]; omega) ?_
  simp only [Int.reduceAdd]
  generalize hG : jV (jV D 42 (jInsF (D 42) 0 (D 41 1) (D 41 1) s)) 41 (jSet (D 41) 1 (D 41 1 + 1)) = G
  have p1 : D 41 1 = W 273 := by rw [e41]; exact o1
  have hG' : G = jV (jV D 42 (jInsF (D 42) 0 (W 273) (D 41 1) s)) 41 (jSet (D 41) 1 (D 41 1 + 1)) := by rw [← hG, p1]
  obtain ⟨rE, lE, lE2⟩ := sp_newPut h s0 s1 sn o2 (Int.le_refl _) (by omega) cc d1 d2 d3 d4 d5 d6 d7 d8 hG'
  have fE : ∀ b, b ≠ 36 → b ≠ 38 → b ≠ 39 → b ≠ 40 → b ≠ 41 → b ≠ 42 → G b = E b := fun b b1 b2 b3 b4 b5 b6 => by rw [hG', jV_ne b5, jV_ne b6, d1 b b1 b2 b3 b4]
  have n273 : jNewW s W 273 = W 273 := by unfold jNewW; rw [if_neg (by omega), if_neg (by omega), if_neg (by omega), if_neg (by omega)]
  have lw : ∀ j, 298 ≤ j → jApp 273 (W 273) (W 2) (jNewW s W) j = W j := fun j hj => by
    rw [jApp_out o2 (by omega) (by omega)]
    unfold jNewW
    rw [if_neg (by omega), if_neg (by omega), if_neg (by omega), if_neg (by omega)]
  have ls : ∀ j, j < 9 → j ≠ 2 → jApp 273 (W 273) (W 2) (jNewW s W) j = W j := fun j hj h2 => by
    rw [jApp_out o2 (by omega) (by omega)]
    unfold jNewW
    rw [if_neg (by omega), if_neg (by omega), if_neg (by omega), if_neg (by omega)]
  have e38 : G 38 s = W 2 := by rw [hG', jV_ne (by decide), jV_ne (by decide), d5]
  have e29 : G (51 + 72 * v + 29) = E (51 + 72 * v + 29) := fE _ (by omega) (by omega) (by omega) (by omega) (by omega) (by omega)
  have e30 : G (51 + 72 * v + 29 + 1) = E (51 + 72 * v + 29 + 1) := fE _ (by omega) (by omega) (by omega) (by omega) (by omega) (by omega)
  have nin : ∀ j, 0 ≤ j → j < W (298 + 2114 * v) → E (51 + 72 * v + 29 + 1) j ≠ s := fun j a b e => sn (e ▸ (l4 j a b).2.2.2)
  have rm : W (298 + 2114 * v) < 24 := rLst_room (r_view h v0 v1).1 s0 s1 nin
  refine sp_putAt (by rw [e29]; exact ⟨by omega, by omega⟩) (by rw [e29]; omega) (Int.le_refl _) (by rw [e29]; omega) ?_
  generalize hF : jV (jV G (51 + 72 * v + 29 + 1) (jInsF (G (51 + 72 * v + 29 + 1)) 0 (G (51 + 72 * v + 29) 1) (G (51 + 72 * v + 29) 1) s)) (51 + 72 * v + 29) (jSet (G (51 + 72 * v + 29)) 1 (G (51 + 72 * v + 29) 1 + 1)) = F
  have g29 : G (51 + 72 * v + 29) 1 = W (298 + 2114 * v) := by rw [e29]; exact l1
  have hF' : F = jV (jV G (51 + 72 * v + 29 + 1) (jInsF (G (51 + 72 * v + 29 + 1)) 0 (W (298 + 2114 * v)) (G (51 + 72 * v + 29) 1) s)) (51 + 72 * v + 29) (jSet (G (51 + 72 * v + 29)) 1 (G (51 + 72 * v + 29) 1 + 1)) := by rw [← hF, g29]
  have rF := rS_put rE v0 v1 l2 (by rw [lw _ (by omega)]; omega) s0 s1 lE (fun j a b => by rw [lw _ (by omega)] at b; rw [e30]; exact nin j a b) hF'
  rw [e38] at rF
  have fF : ∀ b, b ≠ 51 + 72 * v + 29 → b ≠ 51 + 72 * v + 29 + 1 → F b = G b := fun b b1 b2 => by rw [hF', jV_ne b1, jV_ne b2]
  have lF : rLive F 35 s := by
    obtain ⟨z, z0, z1, z2⟩ := lE
    exact ⟨z, z0, by rw [fF _ (by omega) (by omega)]; exact z1, by rw [fF _ (by omega) (by omega)]; exact z2⟩
  generalize hW : jApp (298 + 2114 * v) (W (298 + 2114 * v)) (W 2) (jApp 273 (W 273) (W 2) (jNewW s W)) = W' at rF
  have wb : jApp 273 (W 273) (W 2) (jNewW s W) (298 + 2114 * v) = W (298 + 2114 * v) := lw _ (by omega)
  have wo : ∀ j, (j < 298 + 2114 * v ∨ 298 + 2114 * v + 25 ≤ j) → W' j = jApp 273 (W 273) (W 2) (jNewW s W) j := fun j hj => by rw [← hW, jApp_out l2 (by omega) (by omega)]
  have wi : ∀ i, 0 ≤ i → i ≤ W (298 + 2114 * v) → W' (298 + 2114 * v + 1 + i) = if i < W (298 + 2114 * v) then W (298 + 2114 * v + 1 + i) else W 2 := fun i i0 i1 => by
    rw [← hW, jApp_i i0 (by rw [wb]; exact i1)]
    by_cases e : i < W (298 + 2114 * v)
    · rw [if_pos e, if_pos e, lw _ (by omega)]
    · rw [if_neg e, if_neg e, if_pos (by omega)]
  refine y s F W' s0 s1 lF (by rw [fF 38 (by omega) (by omega)]; exact e38) rF ?_ (fun b b1 b2 b3 b4 b5 b6 b7 b8 => by rw [fF b b7 b8, fE b b1 b2 b3 b4 b5 b6]) (by rw [← hW, jApp_b, wb]) ?_ ?_ ?_ ?_ (fun j j0 j1 => ?_) (fun j h2 h9 => by rw [wo j (by omega), ls j h9 h2]) (fun j h1 h2 => by rw [wo j h2, lw j h1]) (fun B Q hB z => ?_)
  · exact rDr_keep hr (fun b b0 b1 => by rw [fF b (by omega) (by omega), fE b (by omega) (by omega) (by omega) (by omega) (by omega) (by omega)]) (by rw [wo 0 (by omega), ls 0 (by omega) (by omega)]) (fun c c0 c1 => by rw [wo _ (by omega), ls _ (by omega) (by omega)]) k3
  · rw [wo 273 (by omega), jApp_b, n273]
  · rw [wo 2 (by omega), jApp_out o2 (by omega) (by omega)]
    unfold jNewW; rw [if_pos rfl]
  · rw [wi _ l2 (Int.le_refl _), if_neg (by omega)]
  · rw [hF', jV_ne (by omega), jV_eq, g29, jIns_c (Int.le_refl _), if_neg (by omega), if_pos rfl]
  · rw [wi j j0 (by omega), if_pos j1]
  · refine sp_newM h hB hk s0 s1 sn sf ?_
    refine sp_putsLast (by rw [jV_eq, n273]; exact ⟨by omega, by omega⟩) (by decide) (by rw [jV_eq, n273]; omega) (by rw [jV_eq, n273]; omega) ?_
    rw [jV_eq, jV_V, sp_listOf v0 v1, n273]
    have eA : jSet (jInsF (jNewW s W) (273 + 1) (W 273) (W 273) (W 2)) 273 (W 273 + 1) = jApp 273 (W 273) (W 2) (jNewW s W) := by unfold jApp; rw [n273]
    rw [eA]
    refine sp_putsLast (by rw [jV_eq, wb]; exact ⟨by omega, by omega⟩) (by omega) (by rw [jV_eq, wb]; omega) (by rw [jV_eq, wb]; omega) ?_
    rw [jV_eq, jV_V, wb]
    have eB : jSet (jInsF (jApp 273 (W 273) (W 2) (jNewW s W)) (298 + 2114 * v + 1) (W (298 + 2114 * v)) (W (298 + 2114 * v)) (W 2)) (298 + 2114 * v) (W (298 + 2114 * v) + 1) = W' := by rw [← hW]; unfold jApp; rw [show jSet (jInsF (jNewW s W) (273 + 1) (W 273) (jNewW s W 273) (W 2)) 273 (jNewW s W 273 + 1) (298 + 2114 * v) = W (298 + 2114 * v) from wb]
    rw [eB]
    exact z
/-- while grids are pasted: x is how far the list reaches at least, k how many are done -/
def jPJ (C : jC) (w : Int → Int) (v pl x k : Int) (E : jC) (W d : Int → Int) : Prop :=
  rS 35 E W ∧ rDr E W d ∧ (∀ b, (b < 36 ∨ b = 37 ∨ b = 43 ∨ 51 ≤ b) → b ≠ 51 + 72 * v + 29 → b ≠ 51 + 72 * v + 29 + 1 → E b = C b) ∧ W (298 + 2114 * v) = max (w (298 + 2114 * v)) x ∧ W 273 = w 273 + max 0 (x - w (298 + 2114 * v)) ∧ W 2 = w 2 + max 0 (x - w (298 + 2114 * v)) ∧
  W 0 = w 0 ∧ (∀ c, 0 ≤ c → c < 5 → W (4 + c) = w (4 + c)) ∧ (∀ j, 298 ≤ j → j < 8754 → (j < 298 + 2114 * v ∨ 298 + 2114 * v + 25 ≤ j) → W j = w j) ∧ (∀ j, 0 ≤ j → j < w (298 + 2114 * v) → W (298 + 2114 * v + 1 + j) = w (298 + 2114 * v + 1 + j)) ∧ (∀ j, w (298 + 2114 * v) ≤ j → j < W (298 + 2114 * v) → W (298 + 2114 * v + 1 + j) = w 2 + (j - w (298 + 2114 * v))) ∧
  d 0 ≤ 5 * k ∧ (∀ i, 0 ≤ i → i < d 0 → ∃ t, 0 ≤ t ∧ t < k ∧ d (1 + 4 * i) = W (298 + 2114 * v + 1 + (pl + t)))
/-- a grid over the row that stands there -/
theorem sp_pStep {C : jC} {w : Int → Int} {v pl k c0 N R v5 v6 : Int} (v0 : 0 ≤ v) (v1 : v < 4) (pl0 : 0 ≤ pl) (pl1 : pl < w (298 + 2114 * v)) (w24 : w (298 + 2114 * v) ≤ 24) (hN : w 0 = N) (N5 : N ≤ 5) (c00 : 0 ≤ c0) (hR : C 3 2 = R) (R12 : R ≤ 12) {sn : Int → Int} (hs : ∀ c, jSn (jHd (w (298 + 2114 * v + 29))) N c (sn c)) (sc : sn c0 = c0) (hg : ∀ g, 0 ≤ g → g < R → 1 ≤ C 5 g ∧ C 5 g ≤ 5 ∧ ∀ i, 0 ≤ i → i < C 5 g → jGu sn c0 i.toNat < N ∧ jVal (w (4 + jGu sn c0 i.toNat)) (C 6 (g * 5 + i)))
    (k0 : 0 ≤ k) (kR : k < R) {E : jC} {W d : Int → Int} (h : jPJ C w v pl (pl + k + 1) k E W d) {post : jC → Prop}
    (y : ∀ (E' : jC) (W' d' : Int → Int), jPJ C w v pl (pl + k + 1) (k + 1) E' W' d' → (∀ (B : jC) (K : Int → jC → Prop) (post' : Int → jC → Prop), B 346 = W → B 352 = d → rGr C B → K (k + 1) (jV (jV B 346 W') 352 d') → wp_12_paste_182 v pl c0 v5 v6 k B post' K) → post E') : wp_8_pasteGrid 35 k v (jAt E (51 + 72 * v + 29) (pl + k)) c0 E post := by
  obtain ⟨h1, h2, h3, h4, h5, h6, h7, h8, h9, h10, h11, h12, h13⟩ := h
  obtain ⟨l1, l2, l3, l4, l5⟩ := r_list h1 v0 v1
  have lt : pl + k < W (298 + 2114 * v) := by omega
  have ea : jAt E (51 + 72 * v + 29) (pl + k) = E (51 + 72 * v + 29 + 1) (pl + k) := by unfold jAt; rw [if_pos (by omega)]
  rw [ea]
  obtain ⟨s0, s1, sk, sl⟩ := l4 (pl + k) (by omega) lt
  generalize hS : E (51 + 72 * v + 29 + 1) (pl + k) = s at *
  have e3 : E 3 = C 3 := h3 3 (by omega) (by omega) (by omega)
  have e5 : E 5 = C 5 := h3 5 (by omega) (by omega) (by omega)
  have e6 : E 6 = C 6 := h3 6 (by omega) (by omega) (by omega)
  have z29 : W (298 + 2114 * v + 29) = w (298 + 2114 * v + 29) := h9 _ (by omega) (by omega) (by omega)
  obtain ⟨g1, g2, g3⟩ := hg k k0 kR
  have kk : ∀ i j, 0 ≤ i → i < j → j < W (298 + 2114 * v) → W (298 + 2114 * v + 1 + i) ≠ W (298 + 2114 * v + 1 + j) := by
    intro i j i0 ij j1 z
    obtain ⟨a1, a2, a3, a4⟩ := l4 i i0 (by omega)
    obtain ⟨b1, b2, b3, b4⟩ := l4 j (by omega) j1
    exact l5 i j i0 ij j1 (r_key h1 a1 a2 a4 b1 b2 b4 (by rw [← a3, ← b3]; exact z))
  refine sp_pGrid h1 h2 v0 v1 s0 s1 sl (n := C 5 k) (N := N) (sn := sn) (by rw [h7]; exact hN) N5 c00 k0 (by rw [e3, hR]; exact kR) (by rw [e3, hR]; exact R12) (by rw [e5]) g1 g2 (by rw [z29]; exact hs) sc (fun i i0 i1 => ?_) (fun i i0 i1 z => ?_) (by omega) (fun E' W' d' f1 f2 f3 f4 f5 f6 f7 => ?_)
  · obtain ⟨q1, q2⟩ := g3 i i0 i1
    have := jGu_up (c := c0) hs i.toNat
    exact ⟨q1, by rw [h8 _ (by omega) (by omega), e6]; exact q2⟩
  · obtain ⟨t, t0, t1, t2⟩ := h13 i i0 i1
    exact kk (pl + t) (pl + k) (by omega) (by omega) lt (by rw [← t2, z, sk])
  · have lo : ∀ j, j ≠ 3 → j < 9 → W' j = W j := fun j a b => f4 j a (by omega) (by omega)
    have hi : ∀ j, 264 ≤ j + 9 → 273 ≤ j → j < 8754 → W' j = W j := fun j _ a b => f4 j (by omega) b (by omega)
    have b0 : W' (298 + 2114 * v) = W (298 + 2114 * v) := hi _ (by omega) (by omega) (by omega)
    refine y E' W' d' ⟨f2, f3, fun b b1 b2 b3 => by rw [f1 b (by omega) (by omega) (by omega) (by omega) (by omega), h3 b b1 b2 b3], by rw [b0]; exact h4, by rw [hi 273 (by omega) (by omega) (by omega)]; exact h5, by rw [lo 2 (by omega) (by omega)]; exact h6, by rw [lo 0 (by omega) (by omega)]; exact h7, fun c c0 c1 => by rw [lo _ (by omega) (by omega)]; exact h8 c c0 c1, fun j j0 j1 j2 => by rw [hi j (by omega) (by omega) (by omega)]; exact h9 j j0 j1 j2, fun j j0 j1 => by rw [hi _ (by omega) (by omega) (by omega)]; exact h10 j j0 j1, fun j j0 j1 => ?_, by omega, fun i i0 i1 => ?_⟩ (fun B K post' b1 b2 b3 z => ?_)
    · rw [b0] at j1
      rw [hi _ (by omega) (by omega) (by omega)]; exact h11 j j0 j1
    · rcases f6 i i0 i1 with ⟨q1, q2⟩ | q
      · obtain ⟨t, t0, t1, t2⟩ := h13 i i0 q1
        exact ⟨t, t0, by omega, by rw [q2, t2, hi _ (by omega) (by omega) (by omega)]⟩
      · exact ⟨k, k0, by omega, by rw [q, hi _ (by omega) (by omega) (by omega), sk]⟩
    · unfold wp_12_paste_182
      rw [sp_listOf v0 v1]
      refine ⟨⟨by omega, by omega⟩, sp_mkeyAt (by omega) (by omega) ?_⟩
      rw [b1, sk]
      obtain ⟨r1, r2, r3, r4⟩ := b3
      obtain ⟨p1, p2, p3, p4⟩ := r4 k k0 (by omega)
      exact f7 B _ b1 b2 p1 (fun i i0 i1 => by rw [p4 i i0 i1, e6]) ⟨⟨by omega, by omega⟩, z⟩

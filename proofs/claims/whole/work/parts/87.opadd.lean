theorem sp_joinM {φ : Int → Int} {th key : Int} {w : Int → Int} {D : jC} (hD : D 346 = w) (hk : jRng key) (ok : jJok φ th key w 4) (hw : ∀ u, 0 ≤ u → u < 4 → 0 ≤ w (298 + 2114 * u) ∧ w (298 + 2114 * u) ≤ 24) (hw2 : ∀ u, 0 ≤ u → u < 4 → u ≠ th → w (298 + 2114 * u) < 24) {post : Int → jC → Prop} (y : post key (jV D 346 (jJn φ th key w 4))) : jL2 (wp_12_add_131 th key post) 0 D := by
  refine jL2_of (fun k E => 0 ≤ k ∧ k ≤ 4 ∧ E = jV D 346 (jJn φ th key w k.toNat) ∧ ∀ u, k ≤ u → u < 4 → jJn φ th key w k.toNat (298 + 2114 * u) = w (298 + 2114 * u)) (fun k _ => (4 - k).toNat) (fun K k E hi hk1 => ?_) ⟨by omega, by omega, ?_, fun _ _ _ => rfl⟩
  · obtain ⟨i0, i1, rfl, i5⟩ := hi
    unfold wp_12_add_131
    by_cases a : 4 ≤ k
    · rw [if_pos a]
      rw [show k = 4 by omega]; exact y
    · rw [if_neg a]
      have st := jJn_s (φ := φ) (th := th) (key := key) (w := w) i0
      by_cases b : k = th
      · rw [if_pos b]
        rw [if_pos (Or.inl b)] at st
        exact hk1 _ _ ⟨by omega, by omega, by rw [st], fun u u0 u1 => by rw [st]; exact i5 u (by omega) u1⟩ (by omega)
      · rw [if_neg b]
        obtain ⟨f1, f2⟩ := ok k i0 (by omega) b
        refine f2 _ (jV_eq _ _ _) _ ?_
        by_cases c : φ k = 0
        · rw [if_pos c]
          rw [if_pos (Or.inr c)] at st
          exact hk1 _ _ ⟨by omega, by omega, by rw [st], fun u u0 u1 => by rw [st]; exact i5 u (by omega) u1⟩ (by omega)
        · rw [if_neg c, sp_listOf i0 (by omega)]
          rw [if_neg (by omega)] at st
          have wk := i5 k (Int.le_refl _) (by omega)
          have hl := hw k i0 (by omega)
          have hl2 := hw2 k i0 (by omega) b
          refine sp_putsLast (by rw [jV_eq, wk]; exact ⟨by omega, by omega⟩) (by omega) (by rw [jV_eq, wk]; omega) (by rw [jV_eq, wk]; omega) ?_
          rw [jV_eq, jV_V]
          refine hk1 _ _ ⟨by omega, by omega, ?_, fun u u0 u1 => ?_⟩ (by omega)
          · rw [st]; rfl
          · rw [st, jApp_out (by rw [wk]; omega) (by omega) (by rw [wk]; omega)]; exact i5 u (by omega) u1
  · show D = jV D 346 w
    rw [← hD, jV_id]
/-- a new row, put into the order: class and model -/
theorem sp_newPut {C D : jC} {w : Int → Int} (h : rS 35 C w) {s p : Int} (s0 : 0 ≤ s) (s1 : s < 24) (hn : ¬ rLive C 35 s) (p0 : 0 ≤ p) (p1 : p ≤ w 273) (n24 : w 273 < 24) (cc : w 0 ≠ 0)
    (d1 : ∀ b, b ≠ 36 → b ≠ 38 → b ≠ 39 → b ≠ 40 → D b = C b) (d2 : ∀ j, j ≠ 7 → D 36 j = C 36 j) (d3 : D 36 7 = w 2 + 1) (d4 : ∀ t, t ≠ s → D 38 t = C 38 t) (d5 : D 38 s = w 2) (d6 : ∀ t c, t ≠ s → 0 ≤ c → c < 5 → D 39 (t * 5 + c) = C 39 (t * 5 + c)) (d7 : ∀ t c, t ≠ s → 0 ≤ c → c < 5 → D 40 (t * 5 + c) = C 40 (t * 5 + c)) (d8 : ∀ c, 0 ≤ c → c < w 0 → D 39 (s * 5 + c) = -1000000 ∧ D 40 (s * 5 + c) = -1)
    {E : jC} (hE : E = jV (jV D 42 (jInsF (D 42) 0 p (D 41 1) s)) 41 (jSet (D 41) 1 (D 41 1 + 1))) : rS 35 E (jApp 273 p (w 2) (jNewW s w)) ∧ rLive E 35 s ∧ ∀ t, rLive C 35 t → rLive E 35 t := by
  obtain ⟨o1, o2, o3, o4, o5⟩ := r_ord h
  obtain ⟨k1, k2, k3, k4⟩ := r_cols h
  have e41 : D 41 = C 41 := d1 41 (by decide) (by decide) (by decide) (by decide)
  have e42 : D 42 = C 42 := d1 42 (by decide) (by decide) (by decide) (by decide)
  have fr : ∀ b, b ≠ 41 → b ≠ 42 → E b = D b := fun b b1 b2 => by rw [hE, jV_ne b1, jV_ne b2]
  have n273 : jNewW s w 273 = w 273 := by unfold jNewW; rw [if_neg (by omega), if_neg (by omega), if_neg (by omega), if_neg (by omega)]
  have ap : ∀ j, ¬ (273 ≤ j ∧ j < 298) → jApp 273 p (w 2) (jNewW s w) j = jNewW s w j := fun j hj => jApp_out p0 (by omega) (by omega)
  refine rS_new h s0 s1 hn p0 p1 n24 cc (fun b b1 b2 b3 b4 b5 b6 _ => by rw [fr b b5 b6, d1 b b1 b2 b3 b4]) (fun j hj => by rw [fr 36 (by decide) (by decide), d2 j hj]) (by rw [fr 36 (by decide) (by decide), d3]) (fun t ht => by rw [fr 38 (by decide) (by decide), d4 t ht]) (by rw [fr 38 (by decide) (by decide), d5]) (fun t c a b e => by rw [fr 39 (by decide) (by decide), d6 t c a b e]) (fun t c a b e => by rw [fr 40 (by decide) (by decide), d7 t c a b e]) (fun c c0 c1 => ?_) ?_ (fun i i0 i1 => ?_) (fun j j1 j2 j3 => ?_) ?_ ?_ ?_ (fun i i0 i1 => ?_)
  · rw [fr 39 (by decide) (by decide), fr 40 (by decide) (by decide), (d8 c c0 c1).1, (d8 c c0 c1).2, ap _ (by omega), ap _ (by omega)]
    have v1 : jNewW s w (9 + 11 * s + 1 + c) = -1000000 := by unfold jNewW; rw [if_neg (by omega), if_neg (by omega), if_pos (by omega)]
    have v2 : jNewW s w (9 + 11 * s + 6 + c) = -1 := by unfold jNewW; rw [if_neg (by omega), if_neg (by omega), if_neg (by omega), if_pos (by omega)]
    rw [v1, v2]
    exact ⟨Or.inl rfl, rfl, rfl, by omega, by omega⟩
  · rw [hE, jV_eq, jSet_eq, e41, o1]
  · rw [hE, jV_ne (by decide), jV_eq, e41, e42, o1, jIns_c i1]
  · rw [ap j j3]
    unfold jNewW
    rw [if_neg j1, if_neg (by omega), if_neg (by omega), if_neg (by omega)]
  · rw [ap 2 (by omega)]
    unfold jNewW
    rw [if_pos rfl]
  · rw [ap _ (by omega)]
    unfold jNewW
    rw [if_neg (by omega), if_pos rfl]
  · rw [jApp_b, n273]
  · have := jApp_i (b := 273) (p := p) (key := w 2) (w := jNewW s w) i0 (by rw [n273]; exact i1)
    rw [show (274 : Int) = 273 + 1 by omega, this]
    have nw : ∀ j, 273 ≤ j → jNewW s w j = w j := fun j hj => by unfold jNewW; rw [if_neg (by omega), if_neg (by omega), if_neg (by omega), if_neg (by omega)]
    rw [nw _ (by omega)]
    by_cases e1 : i < p
    · rw [if_pos e1, if_pos e1]
    rw [if_neg e1, if_neg e1]
    by_cases e2 : i = p
    · rw [if_pos e2, if_pos e2]
    rw [if_neg e2, if_neg e2, nw _ (by omega)]
theorem op_add {C : jC} {K v i : Int} (h : rAll C K) (hK : K < 1000000) : wp_11_add v i C (fun E C1 => (E = jIOB ∧ oM (wp_12_add v i) (K + 1) 1 C1) ∨ (E = jUOE ∧ oM (wp_12_add v i) (K + 1) 2 C1)) (fun r C1 => oR (wp_12_add v i) (K + 1) r C1) := by
  have hs := r_now h
  have h' : rAll C (K + 1) := rAll_mono h (by omega)
  obtain ⟨k1, k2, k3, k4⟩ := r_cols hs
  obtain ⟨o1, o2, o3, o4, o5⟩ := r_ord hs
  have hK2 := h.2.2.2.2.2.2.1
  have w0 : jU C 345 0 0 346 = C 346 := m0_w _ _
  unfold wp_11_add
  refine sp_viewNumbered (fun hn => Or.inl ⟨rfl, ?_⟩) (fun v0 v1 => ?_)
  · unfold oM wp_12_add
    rw [sp_noView1 hn, if_neg (by decide)]
    unfold wp_12_add_32
    rw [sp_throws1, if_neg (by decide), m00]
    exact ⟨m0_0 _ _, rAll_m0 h'⟩
  obtain ⟨l1, l2, l3, l4, l5⟩ := r_list hs v0 v1
  -- behind the tests of place: seat t (or none) and place p in the order
  have main : ∀ (t p : Int), -1 ≤ i → i < C 346 (298 + 2114 * v) → 0 ≤ p → p ≤ C 346 273 → (∀ D : jC, D 41 = C 41 → D 42 = C 42 → jDet (wp_6_placeOf 41 t D) (p - 1)) →
      (∀ (D : jC) (post : Int → jC → Prop), D 346 = C 346 → (if C 346 0 = 0 then wp_12_add_61 1 v i (jU D 345 0 0) post else if C 346 273 = 24 then wp_12_add_61 1 v i (jU D 345 0 0) post else wp_12_add_99 p v i (298 + 2114 * v) (jU D 345 0 0) post) → wp_12_add v i D post) →
      wp_11_add_21 t v i (51 + 72 * v) C (fun E C1 => (E = jIOB ∧ oM (wp_12_add v i) (K + 1) 1 C1) ∨ (E = jUOE ∧ oM (wp_12_add v i) (K + 1) 2 C1)) (fun r C1 => oR (wp_12_add v i) (K + 1) r C1) := by
    intro t p im i1 p0 p1 hp hm
    unfold wp_11_add_21
    rw [sp_rowsNow]
    simp only [Int.reduceAdd]
    have full : ∀ post : Int → jC → Prop, post 0 (jU C 345 0 2) → wp_12_add_61 1 v i (jU C 345 0 0) post := by
      intro post z
      unfold wp_12_add_61
      rw [sp_throws1, if_neg (by decide), m00]
      exact z
    by_cases a : 24 ≤ C 41 1
    · rw [if_pos a]
      refine Or.inr ⟨trivial, ?_⟩
      unfold oM
      refine hm C _ rfl ?_
      by_cases b : C 346 0 = 0
      · rw [if_pos b]; exact full _ ⟨m0_0 _ _, rAll_m0 h'⟩
      · rw [if_neg b, if_pos (by omega)]; exact full _ ⟨m0_0 _ _, rAll_m0 h'⟩
    rw [if_neg a]
    by_cases b : C 36 0 = 0
    · rw [if_pos b]
      refine Or.inr ⟨trivial, ?_⟩
      unfold oM
      refine hm C _ rfl ?_
      rw [if_pos (by omega)]; exact full _ ⟨m0_0 _ _, rAll_m0 h'⟩
    rw [if_neg b]
    refine sp_newC hs (by omega) (by omega) (fun s D s0 s1 sn sf d1 d2 d3 d4 d5 d6 d7 d8 => ?_)
    have e41 : D 41 = C 41 := d1 41 (by decide) (by decide) (by decide) (by decide)
    have e42 : D 42 = C 42 := d1 42 (by decide) (by decide) (by decide) (by decide)
    refine hp D e41 e42 _ ?_
    rw [show p - 1 + 1 = p by omega]
    refine ⟨⟨by omega, by omega⟩, sp_putAt (by rw [e41]; exact ⟨by omega, by omega⟩) p0 (by rw [e41]; omega) (by rw [e41]; omega) ?_⟩
    simp only [Int.reduceAdd]
    generalize hE : jV (jV D 42 (jInsF (D 42) 0 p (D 41 1) s)) 41 (jSet (D 41) 1 (D 41 1 + 1)) = E
    obtain ⟨rE, lE, lE2⟩ := sp_newPut hs s0 s1 sn p0 p1 (by omega) (by omega) d1 d2 d3 d4 d5 d6 d7 d8 hE.symm
    have fE : ∀ b, b ≠ 36 → b ≠ 38 → b ≠ 39 → b ≠ 40 → b ≠ 41 → b ≠ 42 → E b = C b := fun b b1 b2 b3 b4 b5 b6 => by rw [← hE, jV_ne b5, jV_ne b6, d1 b b1 b2 b3 b4]
    have n273 : jNewW s (C 346) 273 = C 346 273 := by unfold jNewW; rw [if_neg (by omega), if_neg (by omega), if_neg (by omega), if_neg (by omega)]
    have lw : ∀ j, 298 ≤ j → jApp 273 p (C 346 2) (jNewW s (C 346)) j = C 346 j := fun j hj => by
      rw [jApp_out p0 (by omega) (by omega)]
      unfold jNewW
      rw [if_neg (by omega), if_neg (by omega), if_neg (by omega), if_neg (by omega)]
    have e38 : E 38 s = C 346 2 := by rw [← hE, jV_ne (by decide), jV_ne (by decide), d5]
    have e29 : E (51 + 72 * v + 29) = C (51 + 72 * v + 29) := fE _ (by omega) (by omega) (by omega) (by omega) (by omega) (by omega)
    have e30 : ∀ u, 0 ≤ u → u < 4 → E (51 + 72 * u + 29 + 1) = C (51 + 72 * u + 29 + 1) := fun u _ _ => fE _ (by omega) (by omega) (by omega) (by omega) (by omega) (by omega)
    have nin : ∀ u, 0 ≤ u → u < 4 → ∀ j, 0 ≤ j → j < C 346 (298 + 2114 * u) → C (51 + 72 * u + 29 + 1) j ≠ s := fun u u0 u1 j a b e => sn (e ▸ ((r_list hs u0 u1).2.2.2.1 j a b).2.2.2)
    have rm : C 346 (298 + 2114 * v) < 24 := rLst_room (r_view hs v0 v1).1 s0 s1 (nin v v0 v1)
    refine ⟨⟨by omega, by omega⟩, sp_putAt (by rw [e29]; exact ⟨by omega, by omega⟩) (by omega) (by rw [e29]; omega) (by rw [e29]; omega) ?_⟩
    generalize hF : jV (jV E (51 + 72 * v + 29 + 1) (jInsF (E (51 + 72 * v + 29 + 1)) 0 (i + 1) (E (51 + 72 * v + 29) 1) s)) (51 + 72 * v + 29) (jSet (E (51 + 72 * v + 29)) 1 (E (51 + 72 * v + 29) 1 + 1)) = F
    have rF := rS_put rE v0 v1 (show 0 ≤ i + 1 by omega) (by rw [lw _ (by omega)]; omega) s0 s1 lE (fun j a b => by rw [lw _ (by omega)] at b; rw [e30 v v0 v1]; exact nin v v0 v1 j a b) hF.symm
    rw [e38] at rF
    have fF : ∀ b, b ≠ 51 + 72 * v + 29 → b ≠ 51 + 72 * v + 29 + 1 → F b = E b := fun b b1 b2 => by rw [← hF, jV_ne b1, jV_ne b2]
    have lF : rLive F 35 s := by
      obtain ⟨z, z0, z1, z2⟩ := lE
      exact ⟨z, z0, by rw [fF _ (by omega) (by omega)]; exact z1, by rw [fF _ (by omega) (by omega)]; exact z2⟩
    have f38 : F 38 s = C 346 2 := by rw [fF 38 (by omega) (by omega)]; exact e38
    generalize hW : jApp (298 + 2114 * v) (i + 1) (C 346 2) (jApp 273 p (C 346 2) (jNewW s (C 346))) = W at rF
    have W2 : ∀ u, 0 ≤ u → u < 4 → u ≠ v → W (298 + 2114 * u) = C 346 (298 + 2114 * u) := fun u u0 u1 u2 => by rw [← hW, jApp_out (by omega) (by rw [lw _ (by omega)]; omega) (by rw [lw _ (by omega)]; omega), lw _ (by omega)]
    refine sp_joinC rF s0 s1 lF (fun u u0 u1 u2 j a b => ?_) (fun φ G g1 g2 g3 g4 g5 => ?_)
    · rw [W2 u u0 u1 u2] at b
      rw [fF _ (by omega) (by omega), e30 u u0 u1]
      exact nin u u0 u1 j a b
    rw [f38] at g1 g3
    rw [sp_keyAt, if_pos ⟨s0, s1⟩]
    simp only [Int.reduceAdd]
    rw [g2 38 (by omega), f38]
    have gC : ∀ b, ¬ (36 ≤ b ∧ b < 339) → G b = C b := fun b hb => by rw [g2 b (by omega), fF b (by omega) (by omega), fE b (by omega) (by omega) (by omega) (by omega) (by omega) (by omega)]
    have w1 : jU G 345 0 0 346 = C 346 := by rw [m0_w, gC 346 (by omega)]
    unfold oR
    refine hm G _ (gC 346 (by omega)) ?_
    rw [if_neg (by omega), if_neg (by omega)]
    unfold wp_12_add_99
    refine sp_newM hs w1 (by omega) s0 s1 sn sf ?_
    refine sp_puts (by rw [jV_eq, n273]; exact ⟨by omega, by omega⟩) (by decide) p0 (by rw [jV_eq, n273]; exact p1) (by rw [jV_eq, n273]; omega) ?_
    rw [jV_eq, jV_V]
    refine ⟨⟨by omega, by omega⟩, ?_⟩
    have eA : jSet (jInsF (jNewW s (C 346)) (273 + 1) p (jNewW s (C 346) 273) (C 346 2)) 273 (jNewW s (C 346) 273 + 1) = jApp 273 p (C 346 2) (jNewW s (C 346)) := rfl
    rw [eA]
    refine sp_puts (by rw [jV_eq, lw _ (by omega)]; exact ⟨by omega, by omega⟩) (by omega) (by omega) (by rw [jV_eq, lw _ (by omega)]; omega) (by rw [jV_eq, lw _ (by omega)]; omega) ?_
    rw [jV_eq, jV_V]
    have eB : jSet (jInsF (jApp 273 p (C 346 2) (jNewW s (C 346))) (298 + 2114 * v + 1) (i + 1) (jApp 273 p (C 346 2) (jNewW s (C 346)) (298 + 2114 * v)) (C 346 2)) (298 + 2114 * v) (jApp 273 p (C 346 2) (jNewW s (C 346)) (298 + 2114 * v) + 1) = W := hW
    rw [eB]
    have Wl : ∀ u, 0 ≤ u → u < 4 → 0 ≤ W (298 + 2114 * u) ∧ W (298 + 2114 * u) ≤ 24 := fun u u0 u1 => ⟨(r_list rF u0 u1).2.1, (r_list rF u0 u1).2.2.1⟩
    refine sp_joinM (jV_eq _ _ _) ⟨by omega, by omega⟩ g1 Wl g4 ?_
    rw [jV_V]
    have W2k : W 2 = C 346 2 + 1 := by
      rw [← hW, jApp_out (by omega) (by rw [lw _ (by omega)]; omega) (by omega), jApp_out p0 (by omega) (by omega)]
      unfold jNewW; rw [if_pos rfl]
    refine ⟨by rw [jV_ne (by decide)]; exact m0_0 _ _, rfl, rAll_w h' (fun b b1 b2 => ?_) (fun j hj => ?_) ?_ ?_⟩
    · rw [jV_ne (by omega), jU_ne (by omega), gC b (by omega)]
    · rw [jV_ne (by decide), jU_at, if_pos rfl, if_neg hj, gC 345 (by omega)]
    · rw [jV_eq]
      exact rS_keep (fun b hb => by unfold rOwn at hb; rw [jV_ne (by omega), jU_ne (by omega)]) g3
    · rw [jV_eq]
      have W4 : ∀ k : Nat, (k : Int) ≤ 4 → jJn φ v (C 346 2) W k 2 = W 2 := by
        intro k
        induction k with
        | zero => intro _; rfl
        | succ k ih =>
          intro hk
          show (if (k : Int) = v ∨ φ k = 0 then jJn φ v (C 346 2) W k else jApp (298 + 2114 * k) (jJn φ v (C 346 2) W k (298 + 2114 * k)) (C 346 2) (jJn φ v (C 346 2) W k)) 2 = W 2
          by_cases e : (k : Int) = v ∨ φ k = 0
          · rw [if_pos e]; exact ih (by omega)
          · rw [if_neg e]
            unfold jApp jInsF jSet
            dsimp only
            rw [if_neg (by omega)]
            by_cases c : 2 < 298 + 2114 * (k : Int) + 1 + jJn φ v (C 346 2) W k (298 + 2114 * k)
            · rw [if_pos c]; exact ih (by omega)
            · have hl : ∀ q : Nat, (q : Int) ≤ 4 → ∀ u, (q : Int) ≤ u → u < 4 → jJn φ v (C 346 2) W q (298 + 2114 * u) = W (298 + 2114 * u) := by
                intro q hq u u0 u1
                refine jJn_low2 Wl g4 q hq u u0 u1
              rw [hl k (by omega) k (Int.le_refl _) (by omega)] at c
              have := Wl k (by omega) (by omega)
              omega
      rw [W4 4 (by decide), W2k]
      omega
  by_cases e : i = -1
  · rw [if_pos e]
    refine main (-1) 0 (by omega) (by omega) (by omega) (by omega) (fun D d1 d2 post z => ?_) (fun D post dw z => ?_)
    · refine sp_placeOf (by rw [d1]; omega) (fun r hr => ?_)
      simp only [Int.reduceAdd] at hr
      rw [d1, d2, o1] at hr
      have : r = -1 := jFst_uniq hr (Or.inr ⟨rfl, fun j a b q => by have := (o4 j a b).1; have q : C 42 j = -1 := q; omega⟩)
      rw [this]; exact z
    · have dw' : jU D 345 0 0 346 = C 346 := by rw [m0_w]; exact dw
      unfold wp_12_add
      rw [sp_noView0 v0 v1, if_pos rfl, if_pos e]
      unfold wp_12_add_32
      rw [sp_throws0, if_pos rfl]
      unfold wp_12_columns
      dsimp only
      rw [sp_rows, dw']
      by_cases c1 : C 346 0 = 0
      · rw [if_pos c1] at z ⊢; exact z
      rw [if_neg c1] at z ⊢
      by_cases c2 : C 346 273 = 24
      · rw [if_pos c2] at z ⊢; exact z
      rw [if_neg c2] at z ⊢
      unfold wp_12_add_61
      rw [sp_throws0, if_pos rfl, sp_listOf v0 v1, if_pos e]
      exact z
  · rw [if_neg e]
    have bad : ¬ (0 ≤ i ∧ i < C 346 (298 + 2114 * v)) → oM (wp_12_add v i) (K + 1) 1 C := by
      intro hn
      unfold oM wp_12_add
      rw [sp_noView0 v0 v1, if_pos rfl, if_neg e, sp_noPlace1 hs w0 v0 v1 hn, if_neg (by decide)]
      unfold wp_12_add_32
      rw [sp_throws1, if_neg (by decide), m00]
      exact ⟨m0_0 _ _, rAll_m0 h'⟩
    refine sp_seatAtPlace (by omega) (fun i a b => (l4 i a (by omega)).1) (fun hn => Or.inl ⟨rfl, bad (fun z => hn ⟨z.1, by rw [l1]; exact z.2⟩)⟩) (fun i0 i1 => ?_)
    rw [l1] at i1
    obtain ⟨q1, q2, q3, q4⟩ := l4 i i0 i1
    obtain ⟨z, z0, z1, z2⟩ := id q4
    simp only [Int.reduceAdd] at z1 z2
    rw [o1] at z1
    refine main _ (z + 1) (by omega) i1 (by omega) (by omega) (fun D d1 d2 post y => ?_) (fun D post dw y => ?_)
    · refine sp_placeOf (by rw [d1]; omega) (fun r hr => ?_)
      simp only [Int.reduceAdd] at hr
      rw [d1, d2, o1] at hr
      have : r = z := jFst_uniq hr (Or.inl ⟨z0, z1, z2, fun j a b q => o5 j z a b z1 (by rw [z2]; exact q)⟩)
      rw [this, show z + 1 - 1 = z by omega] at *; exact y
    · have dw' : jU D 345 0 0 346 = C 346 := by rw [m0_w]; exact dw
      unfold wp_12_add
      rw [sp_noView0 v0 v1, if_pos rfl, if_neg e, sp_noPlace0 hs dw' v0 v1 i0 i1, if_pos rfl]
      unfold wp_12_add_32
      rw [sp_throws0, if_pos rfl]
      unfold wp_12_columns
      dsimp only
      rw [sp_rows, dw']
      by_cases c1 : C 346 0 = 0
      · rw [if_pos c1] at y ⊢; exact y
      rw [if_neg c1] at y ⊢
      by_cases c2 : C 346 273 = 24
      · rw [if_pos c2] at y ⊢; exact y
      rw [if_neg c2] at y ⊢
      unfold wp_12_add_61
      rw [sp_throws0, if_pos rfl, sp_listOf v0 v1, if_neg e]
      refine sp_mkeyAt (by omega) (by omega) ?_
      rw [dw', q3, ← z2]
      refine sp_oplace hs z0 z1 dw' _ ⟨⟨by omega, by omega⟩, y⟩

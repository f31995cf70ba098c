theorem jLis_none {π : Int → Int} {j : Int} (h : π j = -1) (k : Nat) : jLis π k j = 0 := by
  induction k with
  | zero => rfl
  | succ k ih =>
    show jSet (jLis π k) k (if π k = -1 then 0 else 1 + jFold (jLisF π (jLis π k) (π k)) 0 k) j = 0
    unfold jSet
    by_cases e : j = k
    · rw [if_pos e, ← e, if_pos h]
    · rw [if_neg e]; exact ih
theorem sp_longest {n : Int} {C : jC} (n0 : 0 ≤ n) (n1 : n < 24) : jDet (wp_4_longestBelow n C) (jFold (fun c a => if C 342 n ≤ C 342 c then a else max a (C 343 c)) 0 n.toNat) := by
  intro post z
  unfold wp_4_longestBelow
  refine jL2_of (fun a c => 0 ≤ c ∧ c ≤ n ∧ a = jFold (fun c a => if C 342 n ≤ C 342 c then a else max a (C 343 c)) 0 c.toNat) (fun _ c => (n - c).toNat) (fun K a c hi hk => ?_) ⟨by omega, by omega, rfl⟩
  obtain ⟨i0, i1, rfl⟩ := hi
  unfold wp_4_longestBelow_4
  by_cases a : n ≤ c
  · rw [if_pos a]
    have e : c = n := by omega
    rw [e]; exact z
  · rw [if_neg a, if_neg (by omega)]
    refine ⟨i0, ?_⟩
    have st := jFold_s (f := fun c a => if C 342 n ≤ C 342 c then a else max a (C 343 c)) (z := 0) i0
    by_cases b : C 342 n ≤ C 342 c
    · rw [if_pos b]
      refine hk _ _ ⟨by omega, by omega, ?_⟩ (by omega)
      rw [st, if_pos b]
    · rw [if_neg b]
      refine hk _ _ ⟨by omega, by omega, ?_⟩ (by omega)
      rw [st, if_neg b]
theorem op_moves {C : jC} {K v : Int} (h : rAll C K) : wp_11_moves v C (fun E C1 => E = jIOB ∧ oM (wp_12_moves v) K 1 C1) (fun r C1 => oR (wp_12_moves v) K r C1) := by
  have hs := r_now h
  unfold wp_11_moves
  refine sp_viewNumbered (fun hn => ⟨rfl, ?_⟩) (fun v0 v1 => ?_)
  · unfold oM wp_12_moves
    rw [sp_noView1 hn, sp_throws1, if_neg (by decide), m00]
    exact ⟨m0_0 _ _, rAll_m0 h⟩
  · unfold wp_4_fewestMoves
    refine sp_freshInto hs v0 v1 (fun ft C1 hft c1 c2 c3 => ?_)
    obtain ⟨o1, o2, o3, o4, o5⟩ := r_ord hs
    obtain ⟨m0, m1, m2, m3⟩ := jFS_ok hs o2 (Int.le_refl _) hft
    obtain ⟨l1, l2, l3, l4, -⟩ := r_list hs v0 v1
    obtain ⟨π, r0, -, p1, p2⟩ := sp_ranks hs hft
    have P1 := fun D => p1 D
    generalize hn : C 346 (298 + 2114 * v) = n at *
    obtain ⟨p, hp⟩ : ∃ p : Int → Int, ∀ i, p i = π (C (51 + 72 * v + 29 + 1) i) := ⟨_, fun _ => rfl⟩
    obtain ⟨pr, hpr⟩ : ∃ pr : Int → Int, ∀ i, pr i = if p i = -1 then 0 else 1 := ⟨_, fun _ => rfl⟩
    have hρ : ∀ i, pr i = 0 ∨ pr i = 1 := by intro i; rw [hpr]; split <;> simp
    have hD0 : ∀ i, 0 ≤ i → i < n → 0 ≤ C (51 + 72 * v + 29 + 1) i ∧ C (51 + 72 * v + 29 + 1) i < 24 ∧ rLive C 35 (C (51 + 72 * v + 29 + 1) i) ∧ C 346 (298 + 2114 * v + 1 + i) = C 38 (C (51 + 72 * v + 29 + 1) i) := fun i a b => ⟨(l4 i a b).1, (l4 i a b).2.1, (l4 i a b).2.2.2, (l4 i a b).2.2.1⟩
    refine jL4_of (fun c best k D => 0 ≤ k ∧ k ≤ n ∧ c = jFold (jCnt pr) 0 k.toNat ∧ best = jBest p k ∧ (∀ b, b ≠ 342 → b ≠ 343 → D b = C1 b) ∧ (∀ j, 0 ≤ j → j < k → pr j = 1 → D 342 (jFold (jCnt pr) 0 j.toNat) = p j ∧ D 343 (jFold (jCnt pr) 0 j.toNat) = jLis p k.toNat j)) (fun _ _ k _ => (n - k).toNat) (fun K1 c best k D hi hk => ?_) ⟨by omega, by omega, rfl, rfl, fun _ _ _ => rfl, fun j a b => by omega⟩
    obtain ⟨i0, i1, rfl, rfl, d1, d2⟩ := hi
    have nr := jCnt_rng hρ i0
    have br := jBest_rng p i0
    unfold wp_4_fewestMoves_20
    rw [sp_length, d1 (51 + 72 * v + 29) (by omega) (by omega), c1 (51 + 72 * v + 29) (by omega) (by omega), l1]
    by_cases a : n ≤ k
    · rw [if_pos a]
      have ek : k = n := by omega
      subst ek
      refine ⟨⟨by omega, by omega⟩, ?_⟩
      have dC : ∀ b, ¬ (339 ≤ b ∧ b < 345) → D b = C b := fun b hb => by rw [d1 b (by omega) (by omega), c1 b (by omega) (by omega)]
      have hD : rAll D K := rAll_q h dC
      unfold oR wp_12_moves
      dsimp only
      rw [sp_noView0 v0 v1, sp_throws0, if_pos rfl, sp_listOf v0 v1]
      refine sp_laysFresh hs v0 v1 hft (by rw [m0_w, dC 346 (by omega)]) (fun C2 e1 e2 => ?_)
      have ew : C2 346 = C 346 := by rw [e1 346 (by decide), m0_w, dC 346 (by omega)]
      refine jL4_of (fun c best i E => 0 ≤ i ∧ i ≤ k ∧ c = jFold (jCnt pr) 0 i.toNat ∧ best = jBest p i ∧ (∀ b, b ≠ 354 → E b = C2 b) ∧ (∀ j, 0 ≤ j → j < i → E 354 j = jLis p i.toNat j)) (fun _ _ i _ => (k - i).toNat) (fun K2 c best i E hi2 hk2 => ?_) ⟨by omega, by omega, rfl, rfl, fun _ _ => rfl, fun j a b => by omega⟩
      obtain ⟨j0, j1, rfl, rfl, g1, g2⟩ := hi2
      have nr2 := jCnt_rng hρ j0
      have br2 := jBest_rng p j0
      have gw : E 346 = C 346 := by rw [g1 346 (by decide), ew]
      have rk : ∀ (E' : jC), (∀ b, b ≠ 354 → E' b = C2 b) → ∀ j, 0 ≤ j → j < k → jDet (wp_12_rankOf (jFrM ft (C 346 273)) (C 38 (C (51 + 72 * v + 29 + 1) j)) E') (p j) := by
        intro E' hE j a b
        rw [hp]
        refine p2 E' (fun i a b => by rw [hE 351 (by decide)]; exact e2 i a b) _ (hD0 j a b).1 (hD0 j a b).2.1 (hD0 j a b).2.2.1
      unfold wp_12_moves_39
      refine sp_size (by omega) (by omega) ?_
      rw [gw, hn]
      have sB := jBest_s (π := p) j0
      have sL := jLis_s (π := p) j0
      have sC : jFold (jCnt pr) 0 (i + 1).toNat = jFold (jCnt pr) 0 i.toNat + pr i := jFold_s j0
      by_cases b : k ≤ i
      · rw [if_pos b]
        have ei : i = k := by omega
        subst ei
        refine ⟨⟨by omega, by omega⟩, by rw [g1 345 (by decide), e1 345 (by decide)]; exact m0_0 _ _, rfl, rAll_x hD (fun b b1 b2 => ?_) (fun j hj => ?_)⟩
        · rw [g1 b (by omega), e1 b (by omega), jU_ne (by omega)]
        · rw [g1 345 (by decide), e1 345 (by decide), jU_at, if_pos rfl, if_neg hj]
      · rw [if_neg b]
        refine sp_mkeyAt (by omega) (by omega) ?_
        rw [gw, (hD0 i j0 (by omega)).2.2.2]
        refine rk E g1 i j0 (by omega) _ ⟨by omega, by omega, ?_⟩
        by_cases e : p i = -1
        · rw [if_pos e]
          rw [if_pos e] at sL
          rw [sL, jSet_eq] at sB
          have pe := hpr i
          rw [if_pos e] at pe
          refine hk2 _ _ _ _ ⟨by omega, by omega, ?_, ?_, fun b hb => by rw [jU_ne hb, g1 b hb], fun j a b => ?_⟩ (by omega)
          · rw [sC, pe]; omega
          · rw [sB]; omega
          · rw [jU_at, if_pos rfl, sL]
            unfold jSet
            by_cases c : j = i
            · rw [if_pos c, if_pos c]
            · rw [if_neg c, if_neg c]; exact g2 j a (by omega)
        · rw [if_neg e]
          rw [if_neg e] at sL
          rw [sL, jSet_eq] at sB
          have pe := hpr i
          rw [if_neg e] at pe
          refine ⟨⟨by omega, by omega⟩, ?_⟩
          refine jL2_of (fun j E' => 0 ≤ j ∧ j ≤ i ∧ (∀ b, b ≠ 354 → E' b = C2 b) ∧ (∀ t, 0 ≤ t → t < i → E' 354 t = jLis p i.toNat t) ∧ E' 354 i = jFold (jLisF p (jLis p i.toNat) (p i)) 0 j.toNat) (fun j _ => (i - j).toNat) (fun K3 j E' hi3 hk3 => ?_) ⟨by omega, by omega, fun b hb => by rw [jU_ne hb, g1 b hb], fun t a b => by rw [jU_at, if_pos rfl, if_neg (by omega)]; exact g2 t a b, by rw [jU_at, if_pos rfl, if_pos rfl]; rfl⟩
          obtain ⟨t0, t1, q1, q2, q3⟩ := hi3
          have fr := jLisF_rng (π := p) (T := jLis p i.toNat) (x := p i) (b := 24) j.toNat (by omega) (fun u a b => ⟨(jLis_rng p i.toNat u).1, by have := (jLis_rng p i.toNat u).2; omega⟩)
          have sF := jFold_s (f := jLisF p (jLis p i.toNat) (p i)) (z := 0) t0
          unfold wp_12_moves_86
          by_cases c : i ≤ j
          · rw [if_pos c]
            have ej : j = i := by omega
            subst ej
            refine ⟨by omega, by omega, by rw [q3]; exact ⟨by omega, by omega⟩, ?_⟩
            have eU : jU E' 354 j (E' 354 j + 1) 354 j = 1 + jFold (jLisF p (jLis p j.toNat) (p j)) 0 j.toNat := by
              rw [jU_at, if_pos rfl, if_pos rfl, q3]; omega
            refine hk2 _ _ _ _ ⟨by omega, by omega, ?_, ?_, fun b hb => by rw [jU_ne hb, q1 b hb], fun u a b => ?_⟩ (by omega)
            · rw [sC, pe]
            · rw [eU, sB]
            · rw [sL]
              unfold jSet
              by_cases c1 : u = j
              · rw [if_pos c1, c1, eU]
              · rw [if_neg c1, jU_at, if_pos rfl, if_neg c1]; exact q2 u a (by omega)
          · rw [if_neg c]
            refine ⟨t0, by omega, by omega, ?_⟩
            rw [q2 j t0 (by omega), q3]
            generalize hA : jFold (jLisF p (jLis p i.toNat) (p i)) 0 j.toNat = A at *
            by_cases d : jLis p i.toNat j ≤ A
            · rw [if_pos d]
              refine hk3 _ _ ⟨by omega, by omega, q1, q2, ?_⟩ (by omega)
              rw [q3, sF]
              unfold jLisF
              split <;> omega
            · rw [if_neg d]
              have pj : p j ≠ -1 := fun z => by have := jLis_none z i.toNat; omega
              refine sp_mkeyAt (by omega) (by omega) ?_
              rw [q1 346 (by decide), ew, (hD0 j t0 (by omega)).2.2.2]
              refine rk E' q1 j t0 (by omega) _ ?_
              by_cases f : p i ≤ p j
              · rw [if_pos f]
                refine hk3 _ _ ⟨by omega, by omega, q1, q2, ?_⟩ (by omega)
                rw [q3, sF]
                unfold jLisF
                rw [if_neg (by omega)]
              · rw [if_neg f]
                refine hk3 _ _ ⟨by omega, by omega, fun b hb => by rw [jU_ne hb, q1 b hb], fun t a b => by rw [jU_at, if_pos rfl, if_neg (by omega)]; exact q2 t a b, ?_⟩ (by omega)
                rw [jU_at, if_pos rfl, if_pos rfl, sF]
                unfold jLisF
                rw [if_pos ⟨pj, by omega⟩]
                omega
    · rw [if_neg a, sp_at]
      have ea : jAt D (51 + 72 * v + 29) k = C (51 + 72 * v + 29 + 1) k := by
        unfold jAt
        rw [d1 (51 + 72 * v + 29) (by omega) (by omega), c1 (51 + 72 * v + 29) (by omega) (by omega), l1, if_pos (by omega), d1 (51 + 72 * v + 29 + 1) (by omega) (by omega), c1 (51 + 72 * v + 29 + 1) (by omega) (by omega)]
      rw [ea]
      refine P1 D (by rw [d1 340 (by decide) (by decide)]; exact c2) (fun i a b => by rw [d1 341 (by decide) (by decide)]; exact c3 i a b) _ _ ?_
      rw [← hp]
      have sB := jBest_s (π := p) i0
      have sL := jLis_s (π := p) i0
      have sC : jFold (jCnt pr) 0 (k + 1).toNat = jFold (jCnt pr) 0 k.toNat + pr k := jFold_s i0
      have pe := hpr k
      by_cases e : p k = -1
      · rw [if_pos e]
        rw [if_pos e] at sL pe
        rw [sL, jSet_eq] at sB
        refine hk _ _ _ _ ⟨by omega, by omega, ?_, by rw [sB]; omega, d1, fun j a b c => ?_⟩ (by omega)
        · rw [sC, pe]; omega
        · have hjk : j ≠ k := fun z => by rw [z] at c; omega
          rw [sL, jSet_ne hjk]; exact d2 j a (by omega) c
      · rw [if_neg e]
        rw [if_neg e] at sL pe
        rw [sL, jSet_eq] at sB
        rw [if_neg (by omega)]
        refine ⟨by omega, ?_⟩
        refine sp_longest (by omega) (by omega) _ ?_
        have eF : jFold (fun c a => if jU D 342 (jFold (jCnt pr) 0 k.toNat) (p k) 342 (jFold (jCnt pr) 0 k.toNat) ≤ jU D 342 (jFold (jCnt pr) 0 k.toNat) (p k) 342 c then a else max a (jU D 342 (jFold (jCnt pr) 0 k.toNat) (p k) 343 c)) 0 (jFold (jCnt pr) 0 k.toNat).toNat = jFold (jLisF p (jLis p k.toNat) (p k)) 0 k.toNat := by
          refine jFold_comp (pr := pr) k.toNat (fun i _ _ => hρ i) (fun i x a b c => ?_) (fun i x a b c => ?_) (fun i a => (jCnt_rng hρ a).1)
          · have lt := jCnt_lt hρ a c (show i < k by omega)
            obtain ⟨u1, u2⟩ := d2 i a (by omega) c
            have w1 : jU D 342 (jFold (jCnt pr) 0 k.toNat) (p k) 342 (jFold (jCnt pr) 0 k.toNat) = p k := by rw [jU_at, if_pos rfl, if_pos rfl]
            have w2 : jU D 342 (jFold (jCnt pr) 0 k.toNat) (p k) 342 (jFold (jCnt pr) 0 i.toNat) = p i := by rw [jU_at, if_pos rfl, if_neg (by omega), u1]
            have w3 : jU D 342 (jFold (jCnt pr) 0 k.toNat) (p k) 343 (jFold (jCnt pr) 0 i.toNat) = jLis p k.toNat i := by rw [jU_ne (by decide), u2]
            rw [w1, w2, w3]
            unfold jLisF
            have pi : p i ≠ -1 := fun z => by have := hpr i; rw [if_pos z] at this; omega
            by_cases f : p k ≤ p i
            · rw [if_pos f, if_neg (by omega)]
            · rw [if_neg f, if_pos ⟨pi, by omega⟩]
          · unfold jLisF
            have pi : p i = -1 := by
              by_cases z : p i = -1
              · exact z
              · have := hpr i; rw [if_neg z] at this; omega
            rw [if_neg (fun z => z.1 pi)]
        rw [eF]
        have fr := jLisF_rng (π := p) (T := jLis p k.toNat) (x := p k) (b := 24) k.toNat (by omega) (fun u a b => ⟨(jLis_rng p k.toNat u).1, by have := (jLis_rng p k.toNat u).2; omega⟩)
        refine ⟨⟨by omega, by omega⟩, ?_⟩
        have eV : jU (jU D 342 (jFold (jCnt pr) 0 k.toNat) (p k)) 343 (jFold (jCnt pr) 0 k.toNat) (1 + jFold (jLisF p (jLis p k.toNat) (p k)) 0 k.toNat) 343 (jFold (jCnt pr) 0 k.toNat) = 1 + jFold (jLisF p (jLis p k.toNat) (p k)) 0 k.toNat := by
          rw [jU_at, if_pos rfl, if_pos rfl]
        refine hk _ _ _ _ ⟨by omega, by omega, ?_, by rw [eV, sB], fun b b1 b2 => by rw [jU_ne b2, jU_ne b1, d1 b b1 b2], fun j a b c => ?_⟩ (by omega)
        · rw [sC, pe]
        · by_cases hjk : j = k
          · subst hjk
            rw [eV, jU_ne (by decide), jU_at, if_pos rfl, if_pos rfl, sL, jSet_eq]
            exact ⟨rfl, rfl⟩
          · have lt := jCnt_lt hρ a c (show j < k by omega)
            obtain ⟨u1, u2⟩ := d2 j a (by omega) c
            rw [jU_ne (by decide), jU_at, if_pos rfl, if_neg (by omega), u1, jU_at, if_pos rfl, if_neg (by omega), jU_ne (by decide), u2, sL, jSet_ne hjk]
            exact ⟨rfl, rfl⟩

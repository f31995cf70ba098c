-- a row dropped
def jTk (b r : Int) (w : Int → Int) : Int → Int := if r = -1 then w else jSet (jDelF w (b + 1) r (w b)) b (w b - 1)
theorem jTk_out {b r j : Int} {w : Int → Int} (r0 : -1 ≤ r) (r1 : r < w b) (h : j < b ∨ b + w b ≤ j) (hj : j ≠ b) : jTk b r w j = w j := by
  unfold jTk
  split
  · rfl
  · rw [jSet_ne hj, jDel_out (by omega) (by omega)]
theorem jTk_congr {b r : Int} {w w1 : Int → Int} (h : ∀ j, b ≤ j → j < b + 25 → w1 j = w j) (hb : w b ≤ 24) {j : Int} (j0 : b ≤ j) (j1 : j < b + 25) : jTk b r w1 j = jTk b r w j := by
  unfold jTk
  have e := h b (by omega) (by omega)
  split
  · exact h j j0 j1
  · unfold jSet jDelF
    rw [e]
    by_cases c : j = b
    · rw [if_pos c, if_pos c]
    rw [if_neg c, if_neg c]
    by_cases d : b + 1 + r ≤ j ∧ j < b + 1 + w b - 1
    · rw [if_pos d, if_pos d, h (j + 1) (by omega) (by omega)]
    · rw [if_neg d, if_neg d, h j j0 j1]
def jTkN (ρ : Int → Int) (w : Int → Int) : Nat → Int → Int
  | 0 => w
  | n + 1 => jTk (298 + 2114 * n) (ρ n) (jTkN ρ w n)
theorem jTkN_s {ρ w : Int → Int} {k : Int} (h : 0 ≤ k) : jTkN ρ w (k + 1).toNat = jTk (298 + 2114 * k) (ρ k) (jTkN ρ w k.toNat) := by
  rw [show (k + 1).toNat = k.toNat + 1 by omega]
  show jTk (298 + 2114 * ((k.toNat : Nat) : Int)) (ρ ((k.toNat : Nat) : Int)) _ = _
  rw [Int.toNat_of_nonneg h]
theorem jTkN_out {ρ w : Int → Int} (hw : ∀ u, 0 ≤ u → u < 4 → 0 ≤ w (298 + 2114 * u) ∧ w (298 + 2114 * u) ≤ 24 ∧ -1 ≤ ρ u ∧ ρ u < w (298 + 2114 * u)) (k : Nat) (hk : (k : Int) ≤ 4) : ∀ j, (∀ u, 0 ≤ u → u < (k : Int) → j < 298 + 2114 * u ∨ 298 + 2114 * u + 25 ≤ j) → jTkN ρ w k j = w j := by
  induction k with
  | zero => intro j _; rfl
  | succ k ih =>
    intro j hj
    have i1 := ih (by omega) j (fun u a b => hj u a (by omega))
    have i2 := ih (by omega) (298 + 2114 * k) (fun u a b => by omega)
    have hk' := hj k (by omega) (by omega)
    obtain ⟨h1, h2, h3, h4⟩ := hw k (by omega) (by omega)
    show jTk (298 + 2114 * k) (ρ k) (jTkN ρ w k) j = w j
    rw [jTk_out h3 (by rw [i2]; exact h4) (by rw [i2]; omega) (by omega)]; exact i1
theorem jTkN_in {ρ w : Int → Int} (hw : ∀ u, 0 ≤ u → u < 4 → 0 ≤ w (298 + 2114 * u) ∧ w (298 + 2114 * u) ≤ 24 ∧ -1 ≤ ρ u ∧ ρ u < w (298 + 2114 * u)) (k : Nat) (hk : (k : Int) ≤ 4) {u : Int} (u0 : 0 ≤ u) (u1 : u < (k : Int)) : ∀ j, 298 + 2114 * u ≤ j → j < 298 + 2114 * u + 25 → jTkN ρ w k j = jTk (298 + 2114 * u) (ρ u) w j := by
  induction k with
  | zero => omega
  | succ k ih =>
    intro j j0 j1
    have i2 := jTkN_out hw k (by omega) (298 + 2114 * k) (fun u a b => by omega)
    obtain ⟨h1, h2, h3, h4⟩ := hw k (by omega) (by omega)
    show jTk (298 + 2114 * k) (ρ k) (jTkN ρ w k) j = _
    by_cases e : u = k
    · subst e
      exact jTk_congr (fun j a b => jTkN_out hw k (by omega) j (fun u a b => by omega)) h2 j0 j1
    · rw [jTk_out h3 (by rw [i2]; exact h4) (by rw [i2]; omega) (by omega)]
      exact ih (by omega) (by omega) j j0 j1
def jTc (a r : Int) (C : jC) : jC := if r = -1 then C else jV (jV C (a + 1) (jDelF (C (a + 1)) 0 r (C a 1))) a (jSet (C a) 1 (C a 1 - 1))
theorem jTc_ne {a r b : Int} {C : jC} (h1 : b ≠ a) (h2 : b ≠ a + 1) : jTc a r C b = C b := by
  unfold jTc
  split
  · rfl
  · rw [jV_ne h1, jV_ne h2]
theorem sp_takeC {a x r : Int} {C : jC} {post : jC → Prop} (h0 : 0 ≤ C a 1) (h2 : C a 1 ≤ 24) (hr : jFst (fun j => C (a + 1) j = x) (C a 1) r) (y : post (jTc a r C)) : wp_6_takeOut a x C post := by
  unfold jTc at y
  refine sp_takeOut ⟨by omega, by omega⟩ h2 (fun hn => ?_) (fun q q0 q1 q2 q3 => ?_)
  · rw [if_pos (jFst_uniq hr (Or.inr ⟨rfl, hn⟩))] at y; exact y
  · have e : r = q := jFst_uniq hr (Or.inl ⟨q0, q1, q2, q3⟩)
    rw [if_neg (by omega), e] at y; exact y
theorem sp_takeM {b x r : Int} {D : jC} {w : Int → Int} {post : jC → Prop} (hD : D 346 = w) (b0 : 0 ≤ b) (h0 : 0 ≤ w b) (h1 : w b ≤ 24) (h2 : b + 25 ≤ 8954) (hr : jFst (fun j => w (b + 1 + j) = x) (w b) r) (y : post (jV D 346 (jTk b r w))) : wp_12_takes b x D post := by
  unfold jTk at y
  refine sp_takes (by rw [hD]; exact ⟨by omega, by omega⟩) b0 (by rw [hD]; omega) (by omega) (fun hn => ?_) (fun q q0 q1 q2 q3 => ?_)
  · rw [hD] at hn
    rw [if_pos (jFst_uniq hr (Or.inr ⟨rfl, hn⟩)), ← hD, jV_id] at y; exact y
  · rw [hD] at q1 q2 q3 ⊢
    have e : r = q := jFst_uniq hr (Or.inl ⟨q0, q1, q2, q3⟩)
    rw [if_neg (by omega), e] at y; exact y
/-- a list without the row x -/
theorem rLst_tk {C D : jC} {a : Int} {w w1 : Int → Int} {q b r x : Int} (h : rLst C a w q b) (hr : jFst (fun j => C (q + 1) j = x) (C q 1) r) (c1 : D q = jTc q r C q) (c2 : D (q + 1) = jTc q r C (q + 1)) (hw : ∀ j, b ≤ j → j < b + 25 → w1 j = jTk b r w j) (hk : ∀ i, 0 ≤ i → i < w b → D (a + 3) (C (q + 1) i) = C (a + 3) (C (q + 1) i)) : rLst D a w1 q b ∧ ∀ i, 0 ≤ i → i < w1 b → D (q + 1) i ≠ x ∧ ∃ j, 0 ≤ j ∧ j < w b ∧ D (q + 1) i = C (q + 1) j := by
  obtain ⟨a1, a2, a3, a4, a5⟩ := id h
  by_cases e : r = -1
  · have wj : ∀ j, b ≤ j → j < b + 25 → w1 j = w j := fun j j0 j1 => by rw [hw j j0 j1]; unfold jTk; rw [if_pos e]
    unfold jTc at c1 c2
    rw [if_pos e] at c1 c2
    refine ⟨rLst_keep h (by rw [c1]) (fun i _ _ => by rw [c2]) hk wj, fun i i0 i1 => ?_⟩
    rw [wj b (by omega) (by omega)] at i1
    rw [c2]
    refine ⟨?_, i, i0, i1, rfl⟩
    rcases hr with ⟨b0, -⟩ | ⟨-, b1⟩
    · omega
    · exact b1 i i0 (by omega)
  · obtain ⟨r0, r1, r2⟩ : 0 ≤ r ∧ r < w b ∧ C (q + 1) r = x := by
      rcases hr with ⟨b0, b1, b2, -⟩ | ⟨b1, -⟩
      · exact ⟨b0, by omega, b2⟩
      · exact absurd b1 e
    have wb : w1 b = w b - 1 := by rw [hw b (by omega) (by omega)]; unfold jTk; rw [if_neg e, jSet_eq]
    have d2 : ∀ i, 0 ≤ i → i < w b - 1 → D (q + 1) i = if i < r then C (q + 1) i else C (q + 1) (i + 1) := by
      intro i i0 i1
      rw [c2]
      unfold jTc
      rw [if_neg e, jV_ne (by omega), jV_eq, jDel_c (by omega)]
    refine ⟨rLst_del h r0 r1 ?_ d2 wb (fun i i0 i1 => ?_) (fun i i0 i1 _ => hk i i0 i1), fun i i0 i1 => ?_⟩
    · rw [c1]
      unfold jTc
      rw [if_neg e, jV_eq, jSet_eq, a1]
    · rw [hw _ (by omega) (by omega)]
      unfold jTk
      rw [if_neg e, jSet_ne (by omega), jDel_w i1]
    · rw [wb] at i1
      rw [d2 i i0 i1]
      by_cases c : i < r
      · rw [if_pos c]
        exact ⟨by rw [← r2]; exact a5 i r i0 c r1, i, i0, by omega, rfl⟩
      · rw [if_neg c]
        exact ⟨by rw [← r2]; exact (a5 r (i + 1) r0 (by omega) (by omega)).symm, i + 1, by omega, by omega, rfl⟩
theorem op_drop {C : jC} {K v i : Int} (h : rAll C K) : wp_11_drop v i C (fun E C1 => E = jIOB ∧ oM (wp_12_drop v i) K 1 C1) (fun r C1 => oR (wp_12_drop v i) K r C1) := by
  have hs := r_now h
  obtain ⟨k1, k2, k3, k4⟩ := r_cols hs
  obtain ⟨o1, o2, o3, o4, o5⟩ := r_ord hs
  have w0 : jU C 345 0 0 346 = C 346 := m0_w _ _
  have bad : ¬ ((0 ≤ v ∧ v < 4) ∧ (0 ≤ i ∧ i < C 346 (298 + 2114 * v))) → oM (wp_12_drop v i) K 1 C := by
    intro hn
    unfold oM wp_12_drop
    by_cases a : 0 ≤ v ∧ v < 4
    · rw [sp_noView0 a.1 a.2, if_pos rfl, sp_noPlace1 hs w0 a.1 a.2 (fun z => hn ⟨a, z⟩), if_neg (by decide)]
      unfold wp_12_drop_27
      rw [sp_throws1, if_neg (by decide), m00]
      exact ⟨m0_0 _ _, rAll_m0 h⟩
    · rw [sp_noView1 a, if_neg (by decide)]
      unfold wp_12_drop_27
      rw [sp_throws1, if_neg (by decide), m00]
      exact ⟨m0_0 _ _, rAll_m0 h⟩
  unfold wp_11_drop
  refine sp_viewNumbered (fun hn => ⟨rfl, bad (fun z => hn z.1)⟩) (fun v0 v1 => ?_)
  obtain ⟨l1, l2, l3, l4, l5⟩ := r_list hs v0 v1
  refine sp_seatAtPlace (by omega) (fun i a b => (l4 i a (by omega)).1) (fun hn => ⟨rfl, bad (fun z => hn ⟨z.2.1, by rw [l1]; exact z.2.2⟩)⟩) (fun i0 i1 => ?_)
  rw [l1] at i1
  obtain ⟨s0, s1, s2, sl⟩ := l4 i i0 i1
  generalize hss : C (51 + 72 * v + 29 + 1) i = s at *
  rw [sp_keyAt, if_pos ⟨s0, s1⟩]
  simp only [Int.reduceAdd]
  obtain ⟨z, z0, z1, z2⟩ := id sl
  simp only [Int.reduceAdd] at z1 z2
  rw [o1] at z1
  have hz : jFst (fun j => C 42 j = s) (C 41 1) z := Or.inl ⟨z0, by omega, z2, fun j a b e => o5 j z a b z1 (by rw [z2]; exact e)⟩
  have hzm : jFst (fun j => C 346 (273 + 1 + j) = C 38 s) (C 346 273) z := by
    obtain ⟨r', hr'⟩ := jFst_ex (fun j => C 346 (274 + j) = C 38 s) (C 346 273) o2
    have := r_oplace hs s0 s1 sl hz hr'
    rw [← this] at hr'
    exact hr'
  have H : ∀ u, ∃ r, 0 ≤ u → u < 4 → jFst (fun j => C (51 + 72 * u + 29 + 1) j = s) (C (51 + 72 * u + 29) 1) r ∧ jFst (fun j => C 346 (298 + 2114 * u + 1 + j) = C 38 s) (C 346 (298 + 2114 * u)) r := by
    intro u
    by_cases c : 0 ≤ u ∧ u < 4
    · obtain ⟨m1, m2, -⟩ := r_list hs c.1 c.2
      obtain ⟨r, hr⟩ := jFst_ex (fun j => C (51 + 72 * u + 29 + 1) j = s) (C (51 + 72 * u + 29) 1) (by omega)
      obtain ⟨r', hr'⟩ := jFst_ex (fun j => C 346 (298 + 2114 * u + 1 + j) = C 38 s) (C 346 (298 + 2114 * u)) (by omega)
      have := r_place hs c.1 c.2 s0 s1 sl hr hr'
      subst this
      exact ⟨r, fun _ _ => ⟨hr, hr'⟩⟩
    · exact ⟨0, fun a b => absurd ⟨a, b⟩ c⟩
  obtain ⟨ρ, hρ⟩ := Classical.skolem.mp H
  have hwr : ∀ u, 0 ≤ u → u < 4 → 0 ≤ C 346 (298 + 2114 * u) ∧ C 346 (298 + 2114 * u) ≤ 24 ∧ -1 ≤ ρ u ∧ ρ u < C 346 (298 + 2114 * u) := by
    intro u u0 u1
    obtain ⟨m1, m2, m3, -⟩ := r_list hs u0 u1
    have := (hρ u u0 u1).2
    refine ⟨m2, m3, ?_, ?_⟩ <;> (rcases this with ⟨b0, b1, -⟩ | ⟨b1, -⟩ <;> omega)
  unfold wp_8_removeRow
  simp only [Int.reduceAdd]
  refine sp_takeC (by omega) (by omega) hz ?_
  refine jL2_of (fun k D => 0 ≤ k ∧ k ≤ 4 ∧ (∀ b, b ≠ 41 → b ≠ 42 → (∀ u, 0 ≤ u → u < k → b ≠ 51 + 72 * u + 29 ∧ b ≠ 51 + 72 * u + 29 + 1) → D b = C b) ∧ D 41 = jTc 41 z C 41 ∧ D 42 = jTc 41 z C 42 ∧ (∀ u, 0 ≤ u → u < k → D (51 + 72 * u + 29) = jTc (51 + 72 * u + 29) (ρ u) C (51 + 72 * u + 29) ∧ D (51 + 72 * u + 29 + 1) = jTc (51 + 72 * u + 29) (ρ u) C (51 + 72 * u + 29 + 1))) (fun k _ => (4 - k).toNat) (fun K1 k D hi hk => ?_) ⟨by omega, by omega, fun b b1 b2 _ => jTc_ne b1 b2, rfl, rfl, fun u a b => by omega⟩
  obtain ⟨g0, g1, d1, d2, d3, d4⟩ := hi
  unfold wp_8_removeRow_13
  by_cases a : 4 ≤ k
  · rw [if_pos a]
    have ek : k = 4 := by omega
    subst ek
    have dC : ∀ b, ¬ (36 ≤ b ∧ b < 339) → D b = C b := fun b hb => d1 b (by omega) (by omega) (fun u u0 u1 => by omega)
    have w1 : jU D 345 0 0 346 = C 346 := by rw [m0_w, dC 346 (by omega)]
    unfold oR wp_12_drop
    dsimp only
    rw [sp_noView0 v0 v1, if_pos rfl, sp_noPlace0 hs w1 v0 v1 i0 i1, if_pos rfl]
    unfold wp_12_drop_27
    rw [sp_throws0, if_pos rfl, sp_listOf v0 v1]
    refine sp_mkeyAt (by omega) (by omega) ?_
    rw [w1, s2]
    refine sp_takeM w1 (by decide) o2 o3 (by decide) hzm ?_
    have zr : -1 ≤ z ∧ z < C 346 273 := by omega
    have t0 : ∀ j, ¬ (273 ≤ j ∧ j < 298) → jTk 273 z (C 346) j = C 346 j := fun j hj => jTk_out zr.1 zr.2 (by omega) (by omega)
    have hwr' : ∀ u, 0 ≤ u → u < 4 → 0 ≤ jTk 273 z (C 346) (298 + 2114 * u) ∧ jTk 273 z (C 346) (298 + 2114 * u) ≤ 24 ∧ -1 ≤ ρ u ∧ ρ u < jTk 273 z (C 346) (298 + 2114 * u) := fun u u0 u1 => by rw [t0 _ (by omega)]; exact hwr u u0 u1
    refine jL2_of (fun k E => 0 ≤ k ∧ k ≤ 4 ∧ E = jV (jU D 345 0 0) 346 (jTkN ρ (jTk 273 z (C 346)) k.toNat)) (fun k _ => (4 - k).toNat) (fun K2 k E hi2 hk2 => ?_) ⟨by omega, by omega, rfl⟩
    obtain ⟨u0, u1, rfl⟩ := hi2
    have tn : ∀ j, (∀ u, 0 ≤ u → u < k → j < 298 + 2114 * u ∨ 298 + 2114 * u + 25 ≤ j) → jTkN ρ (jTk 273 z (C 346)) k.toNat j = jTk 273 z (C 346) j := fun j hj => jTkN_out hwr' _ (by omega) j (fun u a b => hj u a (by omega))
    unfold wp_12_drop_57
    by_cases b : 4 ≤ k
    · rw [if_pos b]
      have ek : k = 4 := by omega
      subst ek
      have rw' : ∀ q : Int → Prop, q (9 + 11 * s) → wp_12_rowOf (C 38 s) (jV (jU D 345 0 0) 346 (jTkN ρ (jTk 273 z (C 346)) (4 : Int).toNat)) q := by
        intro q hq
        refine sp_rowOf (fun r hr => ?_)
        rw [jV_eq] at hr
        have : r = s := by
          refine r_find hs s0 s1 sl (jFst_congr (fun j j0 j1 => ?_) hr)
          rw [tn _ (fun u a b => by omega), t0 _ (by omega)]
          exact Iff.rfl
        rw [this, if_neg (by omega)]; exact hq
      refine rw' _ ⟨by omega, by omega, ?_⟩
      generalize hW : jTkN ρ (jTk 273 z (C 346)) (4 : Int).toNat = W at *
      have W1 : ∀ j, ¬ (273 ≤ j ∧ j < 298) → (∀ u, 0 ≤ u → u < 4 → j < 298 + 2114 * u ∨ 298 + 2114 * u + 25 ≤ j) → W j = C 346 j := fun j a b => by rw [tn j b, t0 j a]
      have Wo : ∀ j, 273 ≤ j → j < 298 → W j = jTk 273 z (C 346) j := fun j a b => tn j (fun u u0 u1 => by omega)
      have Wv : ∀ u, 0 ≤ u → u < 4 → ∀ j, 298 + 2114 * u ≤ j → j < 298 + 2114 * u + 25 → W j = jTk (298 + 2114 * u) (ρ u) (C 346) j := by
        intro u u0 u1 j j0 j1
        rw [← hW, jTkN_in hwr' _ (by omega) u0 (by omega) j j0 j1]
        exact jTk_congr (fun j a b => t0 j (by omega)) (hwr u u0 u1).2.1 j0 j1
      have fin : jU (jV (jU D 345 0 0) 346 W) 346 (9 + 11 * s) (-1) = jV (jU D 345 0 0) 346 (jSet W (9 + 11 * s) (-1)) := by
        rw [jU_S, jV_V, jV_eq]
      rw [fin]
      refine ⟨by rw [jV_ne (by decide)]; exact m0_0 _ _, rfl, rAll_w h (fun b b1 b2 => ?_) (fun j hj => ?_) ?_ ?_⟩
      · rw [jV_ne (by omega), jU_ne (by omega), dC b (by omega)]
      · rw [jV_ne (by decide), jU_at, if_pos rfl, if_neg hj, dC 345 (by omega)]
      · rw [jV_eq]
        refine rS_keep (C := D) (fun b hb => by unfold rOwn at hb; rw [jV_ne (by omega), jU_ne (by omega)]) ?_
        obtain ⟨hA, hB, hO, hW', hV, hG, hZ⟩ := id hs
        have S1 : ∀ j, j ≠ 9 + 11 * s → jSet W (9 + 11 * s) (-1) j = W j := fun j hj => jSet_ne hj
        have lo : ∀ j, j < 273 → j ≠ 9 + 11 * s → jSet W (9 + 11 * s) (-1) j = C 346 j := fun j a b => by rw [S1 j b, W1 j (by omega) (fun u u0 u1 => by omega)]
        have d38 : D 38 = C 38 := d1 38 (by decide) (by decide) (fun u u0 u1 => by omega)
        have dk : ∀ b, b < 41 → D b = C b := fun b hb => d1 b (by omega) (by omega) (fun u u0 u1 => by omega)
        have ord := rLst_tk (x := s) (D := D) (w1 := jSet W (9 + 11 * s) (-1)) hO hz d2 d3 (fun j j0 j1 => by rw [S1 j (by omega), Wo j j0 (by omega)]) (fun i _ _ => by rw [dk (35 + 3) (by omega)])
        have live : ∀ t, rLive D 35 t ↔ (t ≠ s ∧ rLive C 35 t) := by
          intro t
          constructor
          · rintro ⟨j, j0, j1, j2⟩
            rw [ord.1.1] at j1
            obtain ⟨e1, q, q0, q1, q2⟩ := ord.2 j j0 j1
            have j2 : D (35 + 6 + 1) j = t := j2
            rw [← j2]
            exact ⟨e1, q, q0, by rw [hO.1]; exact q1, q2.symm⟩
          · rintro ⟨e, j, j0, j1, j2⟩
            rw [hO.1] at j1
            have nz : j ≠ z := fun q => e (by rw [← j2, q]; exact z2)
            have zz : z ≠ -1 := by omega
            refine ⟨if j < z then j else j - 1, by split <;> omega, ?_, ?_⟩
            · rw [ord.1.1]
              have : jSet W (9 + 11 * s) (-1) 273 = C 346 273 - 1 := by rw [S1 273 (by omega), Wo 273 (by omega) (by omega)]; unfold jTk; rw [if_neg zz, jSet_eq]
              rw [this]
              split <;> omega
            · have dd : ∀ q, 0 ≤ q → q < C 346 273 - 1 → D (35 + 7) q = if q < z then C 42 q else C 42 (q + 1) := by
                intro q q0 q1
                show D 42 q = _
                rw [d3]
                unfold jTc
                rw [if_neg zz, jV_ne (by decide)]
                simp only [Int.reduceAdd]
                rw [jV_eq, o1, jDel_c q1]
              by_cases c : j < z
              · rw [if_pos c, dd j j0 (by omega), if_pos c]; exact j2
              · rw [if_neg c, dd (j - 1) (by omega) (by omega), if_neg (by omega), show j - 1 + 1 = j by omega]; exact j2
        refine ⟨?_, ?_, ord.1, ?_, ?_, ?_, ?_⟩
        · unfold rA at hA ⊢
          rw [dk (35 + 1) (by omega), d1 (35 + 9) (by omega) (by omega) (fun u u0 u1 => by omega), lo 0 (by omega) (by omega), lo 1 (by omega) (by omega), lo 2 (by omega) (by omega), lo 3 (by omega) (by omega)]; exact hA
        · intro c c0 c1
          rw [dk (35 + 2) (by omega), lo (4 + c) (by omega) (by omega)]; exact hB c c0 c1
        · obtain ⟨q1, q2, q3⟩ := hW'
          refine ⟨fun t t0 t1 hl => ?_, fun t t0 t1 hl => ?_, fun t u t0 t1 u0 u1 ht hu => ?_⟩
          · obtain ⟨e, hl'⟩ := (live t).mp hl
            obtain ⟨p1, p2, p3, p4⟩ := q1 t t0 t1 hl'
            rw [dk (35 + 3) (by omega), lo (9 + 11 * t) (by omega) (by omega), lo 2 (by omega) (by omega), lo 0 (by omega) (by omega)]
            refine ⟨p1, p2, p3, fun c c0 c1 => ?_⟩
            have := p4 c c0 c1
            unfold rCell at this ⊢
            rw [dk (35 + 4) (by omega), dk (35 + 5) (by omega), lo (4 + c) (by omega) (by omega), lo (9 + 11 * t + 1 + c) (by omega) (by omega), lo (9 + 11 * t + 6 + c) (by omega) (by omega)]
            exact this
          · by_cases e : t = s
            · rw [e, jSet_eq]
            · rw [lo (9 + 11 * t) (by omega) (by omega)]
              exact q2 t t0 t1 (fun q => hl ((live t).mpr ⟨e, q⟩))
          · rw [dk (35 + 3) (by omega)]
            exact q3 t u t0 t1 u0 u1 ((live t).mp ht).2 ((live u).mp hu).2
        · intro u u0 u1
          obtain ⟨p1, p2, p3, p4⟩ := hV u u0 u1
          rw [show 35 + 8 + 8 + 72 * u = 51 + 72 * u by omega] at p1 p2 p3 p4 ⊢
          have kv : ∀ b, 51 ≤ b → (∀ u, 0 ≤ u → u < 4 → b ≠ 51 + 72 * u + 29 ∧ b ≠ 51 + 72 * u + 29 + 1) → D b = C b := fun b b0 b1 => d1 b (by omega) (by omega) b1
          have kw : ∀ j, 298 ≤ j → (∀ u, 0 ≤ u → u < 4 → j < 298 + 2114 * u ∨ 298 + 2114 * u + 25 ≤ j) → jSet W (9 + 11 * s) (-1) j = C 346 j := fun j a b => by rw [S1 j (by omega), W1 j (by omega) b]
          have li := rLst_tk (x := s) (D := D) (w1 := jSet W (9 + 11 * s) (-1)) p1 (hρ u u0 u1).1 (d4 u u0 u1).1 (d4 u u0 u1).2 (fun j j0 j1 => by rw [S1 j (by omega), Wv u u0 u1 j j0 j1]) (fun i _ _ => by rw [dk (35 + 3) (by omega)])
          refine ⟨li.1, fun i i0 i1 => ?_, ?_, ?_⟩
          · obtain ⟨e1, q, q0, q1, q2⟩ := li.2 i i0 i1
            rw [live]
            exact ⟨e1, by rw [q2]; exact p2 q q0 q1⟩
          · exact rLens_keep p3 hA.2.1 (fun x x0 x1 => kv x (by omega) (fun u a b => by omega)) (lo 0 (by omega) (by omega)) (fun c c0 c1 => lo _ (by omega) (by omega)) (fun j j0 j1 => kw j (by omega) (fun u a b => by omega))
          · exact rEds_keep p4 (by rw [kv (51 + 72 * u) (by omega) (fun u a b => by omega)]) (fun x x0 x1 => kv x (by omega) (fun u a b => by omega)) (lo 0 (by omega) (by omega)) (fun c c0 c1 => lo _ (by omega) (by omega)) k3 (fun j j0 j1 => kw j (by omega) (fun u a b => by omega))
        · exact rG_keep hG (d1 (35 + 9) (by omega) (by omega) (fun u u0 u1 => by omega)) (d1 (35 + 10) (by omega) (by omega) (fun u u0 u1 => by omega)) (lo 3 (by omega) (by omega)) hA.2.2.2.2.2.2.2.2.2.2 (fun j a b => by rw [S1 j (by omega), W1 j (by omega) (fun u u0 u1 => by omega)])
        · intro y
          rw [lo 0 (by omega) (by omega)] at y
          have := hZ y
          omega
      · rw [jV_eq, jSet_ne (by omega), W1 2 (by omega) (fun u u0 u1 => by omega)]
        exact h.2.2.2.2.2.2.1
    · rw [if_neg b, sp_listOf u0 (by omega)]
      have tb : ∀ j, 298 + 2114 * k ≤ j → j < 298 + 2114 * k + 25 → jTkN ρ (jTk 273 z (C 346)) k.toNat j = C 346 j := fun j j0 j1 => by rw [tn j (fun u a b => by omega), t0 j (by omega)]
      obtain ⟨h1, h2, h3, h4⟩ := hwr k u0 (by omega)
      refine sp_takeM (jV_eq _ _ _) (by omega) (by rw [tb _ (by omega) (by omega)]; omega) (by rw [tb _ (by omega) (by omega)]; omega) (by omega) (r := ρ k) ?_ ?_
      · rw [tb _ (by omega) (by omega)]
        exact jFst_congr (fun j j0 j1 => by rw [tb _ (by omega) (by omega)]) (hρ k u0 (by omega)).2
      · rw [jV_V]
        exact hk2 _ _ ⟨by omega, by omega, by rw [jTkN_s u0]⟩ (by omega)
  · rw [if_neg a]
    refine ⟨g0, ?_⟩
    simp only [Int.reduceAdd]
    have e29 : D (51 + 72 * k + 29) = C (51 + 72 * k + 29) := d1 _ (by omega) (by omega) (fun u u0 u1 => by omega)
    have e30 : D (51 + 72 * k + 29 + 1) = C (51 + 72 * k + 29 + 1) := d1 _ (by omega) (by omega) (fun u u0 u1 => by omega)
    obtain ⟨m1, m2, m3, -⟩ := r_list hs g0 (show k < 4 by omega)
    refine sp_takeC (r := ρ k) (by rw [e29]; omega) (by rw [e29]; omega) (by rw [e29, e30]; exact (hρ k g0 (by omega)).1) ?_
    have tc : ∀ b, b ≠ 51 + 72 * k + 29 → b ≠ 51 + 72 * k + 29 + 1 → jTc (51 + 72 * k + 29) (ρ k) D b = D b := fun b b1 b2 => jTc_ne b1 b2
    refine hk _ _ ⟨by omega, by omega, fun b b1 b2 b3 => ?_, by rw [tc 41 (by omega) (by omega)]; exact d2, by rw [tc 42 (by omega) (by omega)]; exact d3, fun u u0 u1 => ?_⟩ (by omega)
    · have := b3 k g0 (by omega)
      rw [tc b this.1 this.2]
      exact d1 b b1 b2 (fun u u0 u1 => b3 u u0 (by omega))
    · by_cases e : u = k
      · subst e
        unfold jTc
        by_cases c : ρ u = -1
        · rw [if_pos c, if_pos c]; exact ⟨e29, e30⟩
        · rw [if_neg c, if_neg c]
          refine ⟨?_, ?_⟩
          · rw [jV_eq, jV_eq, e29]
          · rw [jV_ne (by omega), jV_eq, jV_ne (by omega), jV_eq, e29, e30]
      · rw [tc _ (by omega) (by omega), tc _ (by omega) (by omega)]
        exact d4 u u0 (by omega)

-- the fresh order of a view
def jPos (g : Int → Int) : Nat → Int
  | 0 => 0
  | p + 1 => if g p < 0 then jPos g p else p + 1
theorem jPos_s {g : Int → Int} {p : Int} (h : 0 < p) : jPos g p.toNat = if g (p - 1) < 0 then jPos g (p - 1).toNat else p := by
  have e : p.toNat = (p - 1).toNat + 1 := by omega
  rw [e]
  show (if g ((p - 1).toNat : Int) < 0 then jPos g (p - 1).toNat else ((p - 1).toNat : Int) + 1) = _
  rw [Int.toNat_of_nonneg (by omega)]
  split <;> omega
theorem jPos_rng (g : Int → Int) (n : Nat) : 0 ≤ jPos g n ∧ jPos g n ≤ n := by
  induction n with
  | zero => exact ⟨Int.le_refl 0, Int.le_refl 0⟩
  | succ n ih =>
    show 0 ≤ (if g n < 0 then jPos g n else (n : Int) + 1) ∧ (if g n < 0 then jPos g n else (n : Int) + 1) ≤ _
    split <;> omega
def jFrM (ft : Int → Int) (k : Int) : Int := jFold (jCnt ft) 0 k.toNat
def jFrS (ft : Int → Int) (lx : Int → Int → Int) (o : Int → Int) : Nat → Int → Int
  | 0 => fun _ => 0
  | k + 1 => if ft k = 1 then jInsF (jFrS ft lx o k) 0 (jPos (fun p => lx (o k) (jFrS ft lx o k p)) (jFrM ft k).toNat) (jFrM ft k) (o k) else jFrS ft lx o k
theorem jFrS_s {ft : Int → Int} {lx : Int → Int → Int} {o : Int → Int} {k : Int} (h : 0 ≤ k) : jFrS ft lx o (k + 1).toNat = if ft k = 1 then jInsF (jFrS ft lx o k.toNat) 0 (jPos (fun p => lx (o k) (jFrS ft lx o k.toNat p)) (jFrM ft k).toNat) (jFrM ft k) (o k) else jFrS ft lx o k.toNat := by
  rw [show (k + 1).toNat = k.toNat + 1 by omega]
  show (if ft (k.toNat : Int) = 1 then jInsF (jFrS ft lx o k.toNat) 0 (jPos (fun p => lx (o (k.toNat : Int)) (jFrS ft lx o k.toNat p)) (jFrM ft (k.toNat : Int)).toNat) (jFrM ft (k.toNat : Int)) (o (k.toNat : Int)) else jFrS ft lx o k.toNat) = _
  rw [Int.toNat_of_nonneg h]
theorem jFrM_s {ft : Int → Int} {k : Int} (h : 0 ≤ k) : jFrM ft (k + 1) = jFrM ft k + ft k := jFold_s h
theorem jFrM_congr {f g : Int → Int} {k : Int} (h : ∀ i, 0 ≤ i → i < k → f i = g i) : jFrM f k = jFrM g k := by
  unfold jFrM
  exact jFold_congr (fun i x i0 i1 => by unfold jCnt; rw [h i i0 (by omega)])
theorem jFrS_congr {f g : Int → Int} {lx : Int → Int → Int} {o : Int → Int} (k : Nat) (h : ∀ i : Int, 0 ≤ i → i < (k : Int) → f i = g i) : jFrS f lx o k = jFrS g lx o k := by
  induction k with
  | zero => rfl
  | succ k ih =>
    have ih' := ih (fun i i0 i1 => h i i0 (by omega))
    show (if f k = 1 then jInsF (jFrS f lx o k) 0 (jPos (fun p => lx (o k) (jFrS f lx o k p)) (jFrM f k).toNat) (jFrM f k) (o k) else jFrS f lx o k) = (if g k = 1 then jInsF (jFrS g lx o k) 0 (jPos (fun p => lx (o k) (jFrS g lx o k p)) (jFrM g k).toNat) (jFrM g k) (o k) else jFrS g lx o k)
    rw [ih', h k (by omega) (by omega), jFrM_congr (f := f) (g := g) (fun i i0 i1 => h i i0 (by omega))]
theorem jFr_ok {ft : Int → Int} {lx : Int → Int → Int} {o : Int → Int} (k : Nat) (hf : ∀ i : Int, 0 ≤ i → i < (k : Int) → ft i = 0 ∨ ft i = 1) (ho : ∀ i j : Int, 0 ≤ i → i < j → j < (k : Int) → o i ≠ o j) :
    0 ≤ jFrM ft k ∧ jFrM ft k ≤ k ∧ (∀ i, 0 ≤ i → i < jFrM ft k → ∃ j, 0 ≤ j ∧ j < (k : Int) ∧ jFrS ft lx o k i = o j) ∧ (∀ i j, 0 ≤ i → i < j → j < jFrM ft k → jFrS ft lx o k i ≠ jFrS ft lx o k j) := by
  induction k with
  | zero => exact ⟨Int.le_refl 0, Int.le_refl 0, fun i a b => absurd b (by show ¬ i < 0; omega), fun i j a b c => absurd c (by show ¬ j < 0; omega)⟩
  | succ k ih =>
    obtain ⟨m0, m1, m2, m3⟩ := ih (fun i i0 i1 => hf i i0 (by omega)) (fun i j a b c => ho i j a b (by omega))
    have e1 : jFrM ft ((k + 1 : Nat) : Int) = jFrM ft k + ft k := by
      rw [show ((k + 1 : Nat) : Int) = (k : Int) + 1 by omega]; exact jFrM_s (by omega)
    have e2 := jFrS_s (ft := ft) (lx := lx) (o := o) (k := (k : Int)) (by omega)
    rw [show ((k : Int) + 1).toNat = k + 1 by omega, show (k : Int).toNat = k by omega] at e2
    rw [e1, e2]
    have hk := hf k (by omega) (by omega)
    have hp := jPos_rng (fun p => lx (o k) (jFrS ft lx o k p)) (jFrM ft k).toNat
    generalize jPos (fun p => lx (o k) (jFrS ft lx o k p)) (jFrM ft k).toNat = p at hp
    generalize jFrM ft k = m at *
    generalize jFrS ft lx o k = S at *
    rcases hk with hk | hk
    · rw [if_neg (by omega), hk]
      refine ⟨by omega, by omega, fun i i0 i1 => ?_, fun i j a b c => m3 i j a b (by omega)⟩
      obtain ⟨j, j0, j1, j2⟩ := m2 i i0 (by omega)
      exact ⟨j, j0, by omega, j2⟩
    · rw [if_pos hk, hk]
      have new : ∀ i, 0 ≤ i → i < m → S i ≠ o k := by
        intro i i0 i1 e
        obtain ⟨j, j0, j1, j2⟩ := m2 i i0 i1
        exact ho j k j0 j1 (by omega) (by rw [← j2, e])
      refine ⟨by omega, by omega, fun i i0 i1 => ?_, fun i j a b c => ?_⟩
      · unfold jInsF
        by_cases c1 : i < 0 + p
        · rw [if_pos c1]
          obtain ⟨j, j0, j1, j2⟩ := m2 i i0 (by omega)
          exact ⟨j, j0, by omega, j2⟩
        rw [if_neg c1]
        by_cases c2 : i = 0 + p
        · rw [if_pos c2]; exact ⟨k, by omega, by omega, rfl⟩
        rw [if_neg c2, if_pos (by omega)]
        obtain ⟨j, j0, j1, j2⟩ := m2 (i - 1) (by omega) (by omega)
        exact ⟨j, j0, by omega, j2⟩
      · unfold jInsF
        by_cases c1 : i < 0 + p
        · rw [if_pos c1]
          by_cases d1 : j < 0 + p
          · rw [if_pos d1]; exact m3 i j a b (by omega)
          rw [if_neg d1]
          by_cases d2 : j = 0 + p
          · rw [if_pos d2]; exact new i a (by omega)
          rw [if_neg d2, if_pos (by omega)]
          exact m3 i (j - 1) a (by omega) (by omega)
        rw [if_neg c1, if_neg (by omega : ¬ j < 0 + p), if_neg (by omega : ¬ j = 0 + p), if_pos (by omega : j ≤ 0 + m)]
        by_cases c2 : i = 0 + p
        · rw [if_pos c2]
          exact fun e => new (j - 1) (by omega) (by omega) e.symm
        rw [if_neg c2, if_pos (by omega)]
        exact m3 (i - 1) (j - 1) (by omega) (by omega) (by omega)
/-- which rows fit, as the model says -/
def jFits (C : jC) (w : Int → Int) (v : Int) (ft : Int → Int) (k : Int) : Prop := ∀ i, 0 ≤ i → i < k → (ft i = 0 ∨ ft i = 1) ∧ ∀ C' : jC, C' 346 = w → jDet (wp_12_isFit v (C 38 (C 42 i)) C') (ft i)
def jFS (C : jC) (w : Int → Int) (v : Int) (ft : Int → Int) (k : Int) : Int → Int := jFrS ft (jLex C (C (51 + 72 * v + 3)) (w (298 + 2114 * v + 25))) (C 42) k.toNat
theorem jFS_ok {C : jC} {w : Int → Int} (h : rS 35 C w) {v k : Int} {ft : Int → Int} (k0 : 0 ≤ k) (k1 : k ≤ w 273) (hf : jFits C w v ft k) :
    0 ≤ jFrM ft k ∧ jFrM ft k ≤ k ∧ (∀ i, 0 ≤ i → i < jFrM ft k → ∃ j, 0 ≤ j ∧ j < k ∧ jFS C w v ft k i = C 42 j) ∧ (∀ i j, 0 ≤ i → i < j → j < jFrM ft k → jFS C w v ft k i ≠ jFS C w v ft k j) := by
  obtain ⟨o1, o2, o3, o4, o5⟩ := r_ord h
  have e : ((k.toNat : Nat) : Int) = k := Int.toNat_of_nonneg k0
  have := jFr_ok (ft := ft) (lx := jLex C (C (51 + 72 * v + 3)) (w (298 + 2114 * v + 25))) (o := C 42) k.toNat (fun i i0 i1 => (hf i i0 (by omega)).1) (fun i j a b c => o5 i j a b (by omega))
  rw [e] at this
  exact this
theorem jFS_s {C : jC} {w : Int → Int} {v k : Int} {ft : Int → Int} (k0 : 0 ≤ k) : jFS C w v ft (k + 1) = if ft k = 1 then jInsF (jFS C w v ft k) 0 (jPos (fun p => jLex C (C (51 + 72 * v + 3)) (w (298 + 2114 * v + 25)) (C 42 k) (jFS C w v ft k p)) (jFrM ft k).toNat) (jFrM ft k) (C 42 k) else jFS C w v ft k := jFrS_s k0
theorem rS_340 {C D : jC} {w : Int → Int} (h : rS 35 C w) (hD : ∀ b, b < 339 → D b = C b) : rS 35 D w := rS_keep (fun b hb => hD b (by unfold rOwn at hb; omega)) h
theorem sp_freshInto {C : jC} {w : Int → Int} (h : rS 35 C w) {v : Int} (v0 : 0 ≤ v) (v1 : v < 4) {post : jC → Prop}
    (y : ∀ (ft : Int → Int) (C1 : jC), jFits C w v ft (w 273) → (∀ b, b ≠ 340 → b ≠ 341 → C1 b = C b) → C1 340 1 = jFrM ft (w 273) → (∀ i, 0 ≤ i → i < jFrM ft (w 273) → C1 341 i = jFS C w v ft (w 273) i) → post C1) : wp_8_freshInto 35 (51 + 72 * v + 1) 340 C post := by
  obtain ⟨o1, o2, o3, o4, o5⟩ := r_ord h
  unfold wp_8_freshInto wp_6_takeAllOut
  refine jL2_of (fun k D => 0 ≤ k ∧ k ≤ w 273 ∧ ∃ ft, jFits C w v ft k ∧ (∀ b, b ≠ 340 → b ≠ 341 → D b = C b) ∧ D 340 1 = jFrM ft k ∧ (∀ i, 0 ≤ i → i < jFrM ft k → D 341 i = jFS C w v ft k i)) (fun k _ => (w 273 - k).toNat) (fun K k D hi hk => ?_) ⟨by omega, by omega, fun _ => 0, fun i a b => by omega, fun b b1 b2 => jU_ne b1, ?_, fun i a b => absurd b (by show ¬ i < 0; omega)⟩
  · obtain ⟨i0, i1, ft, hft, d1, d2, d3⟩ := hi
    obtain ⟨m0, m1, m2, m3⟩ := jFS_ok h i0 i1 hft
    have hD : rS 35 D w := rS_340 h (fun b hb => d1 b (by omega) (by omega))
    unfold wp_8_freshInto_6
    simp only [Int.reduceAdd]
    rw [sp_length, d1 41 (by decide) (by decide)]
    by_cases a : C 41 1 ≤ k
    · rw [if_pos a]
      have e : k = w 273 := by omega
      rw [e] at hft d2 d3
      exact y ft D hft d1 d2 d3
    · rw [if_neg a, sp_at]
      have ea : jAt D 41 k = C 42 k := by
        unfold jAt
        simp only [Int.reduceAdd]
        rw [d1 41 (by decide) (by decide), d1 42 (by decide) (by decide), if_pos (by omega)]
      rw [ea]
      obtain ⟨s0, s1, sl⟩ := r_olive h i0 (show k < w 273 by omega)
      have slD : rLive D 35 (C 42 k) := ⟨k, i0, by simp only [Int.reduceAdd]; rw [d1 41 (by decide) (by decide)]; omega, by simp only [Int.reduceAdd]; rw [d1 42 (by decide) (by decide)]⟩
      obtain ⟨r, r0, r1, r2⟩ := sp_why hD v0 v1 s0 s1 slD
      rw [d1 38 (by decide) (by decide)] at r2
      refine r1 _ ?_
      have hft' : jFits C w v (fun j => if j = k then (if r = -1 then 1 else 0) else ft j) (k + 1) := by
        intro i a b
        by_cases e : i = k
        · subst e
          dsimp only
          rw [if_pos rfl]
          refine ⟨by split <;> omega, fun C' hC post z => ?_⟩
          unfold wp_12_isFit
          refine r2 C' hC _ ?_
          by_cases e : r = -1
          · rw [if_pos e] at z ⊢; exact z
          · rw [if_neg e] at z ⊢; exact z
        · dsimp only
          rw [if_neg e]; exact hft i a (by omega)
      have cM : jFrM (fun j => if j = k then (if r = -1 then 1 else 0) else ft j) k = jFrM ft k := jFrM_congr (fun i a b => by rw [if_neg (by omega)])
      have cS : jFS C w v (fun j => if j = k then (if r = -1 then 1 else 0) else ft j) k = jFS C w v ft k := jFrS_congr _ (fun i a b => by rw [if_neg (by omega)])
      have sM := jFrM_s (ft := fun j => if j = k then (if r = -1 then 1 else 0) else ft j) i0
      have sS := jFS_s (C := C) (w := w) (v := v) (ft := fun j => if j = k then (if r = -1 then 1 else 0) else ft j) i0
      rw [cM, if_pos rfl] at sM
      rw [cM, cS, if_pos rfl] at sS
      by_cases e : r = -1
      · rw [if_pos e, sp_length, d2]
        simp only [if_pos e] at sM sS hft'
        rw [if_pos trivial] at sS
        have stp : ∀ (p : Int) (K1 : jC → Prop), 0 ≤ p → p ≤ jFrM ft k → jPos (fun p => jLex C (C (51 + 72 * v + 3)) (w (298 + 2114 * v + 25)) (C 42 k) (jFS C w v ft k p)) (jFrM ft k).toNat = p → (∀ D' : jC, (0 ≤ k + 1 ∧ k + 1 ≤ w 273 ∧ ∃ ft, jFits C w v ft (k + 1) ∧ (∀ b, b ≠ 340 → b ≠ 341 → D' b = C b) ∧ D' 340 1 = jFrM ft (k + 1) ∧ (∀ i, 0 ≤ i → i < jFrM ft (k + 1) → D' 341 i = jFS C w v ft (k + 1) i)) → K1 D') → wp_6_putAt 340 p (C 42 k) D K1 := by
          intro p K1 p0 p1 hp hK
          refine sp_putAt ⟨by omega, by omega⟩ p0 (by omega) (by omega) ?_
          simp only [Int.reduceAdd]
          refine hK _ ⟨by omega, by omega, _, hft', fun b b1 b2 => ?_, ?_, fun i a b => ?_⟩
          · rw [jV_ne b1, jV_ne b2, d1 b b1 b2]
          · rw [jV_eq, jSet_eq, sM, d2]
          · rw [jV_ne (by decide), jV_eq, sS, hp, d2]
            rw [sM] at b
            unfold jInsF
            by_cases c1 : i < 0 + p
            · rw [if_pos c1, if_pos c1]; exact d3 i a (by omega)
            rw [if_neg c1, if_neg c1]
            by_cases c2 : i = 0 + p
            · rw [if_pos c2, if_pos c2]
            rw [if_neg c2, if_neg c2, if_pos (by omega), if_pos (by omega)]
            exact d3 (i - 1) (by omega) (by omega)
        refine jL1_of (fun p => 0 ≤ p ∧ p ≤ jFrM ft k ∧ jPos (fun p => jLex C (C (51 + 72 * v + 3)) (w (298 + 2114 * v + 25)) (C 42 k) (jFS C w v ft k p)) (jFrM ft k).toNat = jPos (fun p => jLex C (C (51 + 72 * v + 3)) (w (298 + 2114 * v + 25)) (C 42 k) (jFS C w v ft k p)) p.toNat) (fun p => p.toNat) (fun K1 p hi1 hk1 => ?_) ⟨by omega, by omega, rfl⟩
        obtain ⟨j0, j1, j2⟩ := hi1
        unfold wp_8_freshInto_53
        by_cases b : p ≤ 0
        · rw [if_pos b]
          have ep : p = 0 := by omega
          subst ep
          refine stp 0 _ (by omega) (by omega) j2 (fun D' hD' => ⟨⟨by omega, by omega⟩, hk _ _ hD' (by omega)⟩)
        · rw [if_neg b, sp_at]
          have eb : jAt D 340 (p - 1) = jFS C w v ft k (p - 1) := by
            unfold jAt
            simp only [Int.reduceAdd]
            rw [if_pos (by omega)]
            exact d3 (p - 1) (by omega) (by omega)
          rw [eb]
          obtain ⟨t, t0, t1, t2⟩ := m2 (p - 1) (by omega) (by omega)
          obtain ⟨u0, u1, ul⟩ := r_olive h t0 (show t < w 273 by omega)
          refine sp_ahead hD v0 v1 s0 s1 (by rw [t2]; exact u0) (by rw [t2]; exact u1) _ ?_
          have el : jLex D (D (51 + 72 * v + 3)) (w (298 + 2114 * v + 25)) (C 42 k) (jFS C w v ft k (p - 1)) = jLex C (C (51 + 72 * v + 3)) (w (298 + 2114 * v + 25)) (C 42 k) (jFS C w v ft k (p - 1)) := by
            unfold jLex jCs
            rw [d1 (51 + 72 * v + 3) (by omega) (by omega), d1 39 (by decide) (by decide)]
          rw [el]
          rw [jPos_s (show 0 < p by omega)] at j2
          by_cases c : jLex C (C (51 + 72 * v + 3)) (w (298 + 2114 * v + 25)) (C 42 k) (jFS C w v ft k (p - 1)) < 0
          · rw [if_pos c] at j2
            rw [if_pos c, if_neg (by decide)]
            exact hk1 _ ⟨by omega, by omega, j2⟩ (by omega)
          · rw [if_neg c] at j2
            rw [if_neg c, if_pos rfl]
            exact stp p _ (by omega) (by omega) j2 (fun D' hD' => ⟨⟨by omega, by omega⟩, hk _ _ hD' (by omega)⟩)
      · rw [if_neg e]
        simp only [if_neg e] at sM sS hft'
        rw [if_neg (by decide)] at sS
        refine hk _ _ ⟨by omega, by omega, _, hft', d1, by rw [d2, sM]; omega, fun i a b => ?_⟩ (by omega)
        rw [sM] at b
        rw [sS]
        exact d3 i a (by omega)
  · rw [jU_at, if_pos rfl, if_pos rfl]; rfl
theorem sp_laysFresh {C : jC} {w : Int → Int} (h : rS 35 C w) {v : Int} (v0 : 0 ≤ v) (v1 : v < 4) {ft : Int → Int} (hf : jFits C w v ft (w 273)) {C' : jC} (hC : C' 346 = w) {post : Int → jC → Prop}
    (y : ∀ C1 : jC, (∀ b, b ≠ 351 → C1 b = C' b) → (∀ i, 0 ≤ i → i < jFrM ft (w 273) → C1 351 i = C 38 (jFS C w v ft (w 273) i)) → post (jFrM ft (w 273)) C1) : wp_12_laysFresh v C' post := by
  obtain ⟨o1, o2, o3, o4, o5⟩ := r_ord h
  unfold wp_12_laysFresh
  refine jL3_of (fun m k D => 0 ≤ k ∧ k ≤ w 273 ∧ m = jFrM ft k ∧ (∀ b, b ≠ 351 → D b = C' b) ∧ (∀ i, 0 ≤ i → i < jFrM ft k → D 351 i = C 38 (jFS C w v ft k i))) (fun _ k _ => (w 273 - k).toNat) (fun K m k D hi hk => ?_) ⟨by omega, by omega, rfl, fun _ _ => rfl, fun i a b => absurd b (by show ¬ i < 0; omega)⟩
  obtain ⟨i0, i1, rfl, d1, d2⟩ := hi
  obtain ⟨m0, m1, m2, m3⟩ := jFS_ok h i0 i1 (fun i a b => hf i a (by omega))
  have hD : D 346 = w := by rw [d1 346 (by decide)]; exact hC
  unfold wp_12_laysFresh_4
  rw [sp_rows, hD]
  by_cases a : w 273 ≤ k
  · rw [if_pos a]
    have e : k = w 273 := by omega
    rw [e] at d2 ⊢
    exact y D d1 d2
  · rw [if_neg a]
    refine sp_mkeyAt (by omega) (by omega) ?_
    rw [hD, show 273 + 1 + k = 274 + k by omega, (o4 k i0 (by omega)).2.2]
    obtain ⟨s0, s1, sl⟩ := r_olive h i0 (show k < w 273 by omega)
    obtain ⟨f1, f2⟩ := hf k i0 (by omega)
    refine f2 D hD _ ?_
    have sM := jFrM_s (ft := ft) i0
    have sS := jFS_s (C := C) (w := w) (v := v) (ft := ft) i0
    by_cases e : ft k = 0
    · rw [if_pos e]
      rw [if_neg (by omega)] at sS
      refine hk _ _ _ ⟨by omega, by omega, by omega, d1, fun i a b => ?_⟩ (by omega)
      rw [sS]
      exact d2 i a (by omega)
    · rw [if_neg e]
      have e1 : ft k = 1 := by omega
      rw [if_pos e1] at sS
      have stp : ∀ (p : Int) (E : jC), 0 ≤ p → p ≤ jFrM ft k → jPos (fun p => jLex C (C (51 + 72 * v + 3)) (w (298 + 2114 * v + 25)) (C 42 k) (jFS C w v ft k p)) (jFrM ft k).toNat = p → (∀ b, b ≠ 351 → E b = D b) → (∀ j, 0 ≤ j → j ≤ jFrM ft k → j ≠ p → E 351 j = if p < j then D 351 (j - 1) else D 351 j) → K (jFrM ft k + 1) (k + 1) (jU E 351 p (C 38 (C 42 k))) := by
        intro p E p0 p1 hp g1 g2
        refine hk _ _ _ ⟨by omega, by omega, by omega, fun b hb => ?_, fun i a b => ?_⟩ (by omega)
        · rw [jU_ne hb, g1 b hb, d1 b hb]
        · rw [jU_at, if_pos rfl, sS, hp]
          unfold jInsF
          by_cases c1 : i = p
          · rw [if_pos c1, if_neg (by omega), if_pos (by omega)]
          rw [if_neg c1, g2 i a (by omega) c1]
          by_cases c2 : p < i
          · rw [if_pos c2, if_neg (by omega), if_neg (by omega), if_pos (by omega)]
            exact d2 (i - 1) (by omega) (by omega)
          · rw [if_neg c2, if_pos (by omega)]
            exact d2 i a (by omega)
      refine jL2_of (fun p E => 0 ≤ p ∧ p ≤ jFrM ft k ∧ jPos (fun p => jLex C (C (51 + 72 * v + 3)) (w (298 + 2114 * v + 25)) (C 42 k) (jFS C w v ft k p)) (jFrM ft k).toNat = jPos (fun p => jLex C (C (51 + 72 * v + 3)) (w (298 + 2114 * v + 25)) (C 42 k) (jFS C w v ft k p)) p.toNat ∧ (∀ b, b ≠ 351 → E b = D b) ∧ (∀ j, 0 ≤ j → j ≤ jFrM ft k → j ≠ p → E 351 j = if p < j then D 351 (j - 1) else D 351 j)) (fun p _ => p.toNat) (fun K1 p E hi1 hk1 => ?_) ⟨by omega, by omega, rfl, fun _ _ => rfl, fun j a b c => by rw [if_neg (by omega)]⟩
      obtain ⟨j0, j1, j2, g1, g2⟩ := hi1
      have hE : E 346 = w := by rw [g1 346 (by decide), hD]
      unfold wp_12_laysFresh_38
      by_cases b : p ≤ 0
      · rw [if_pos b]
        have ep : p = 0 := by omega
        subst ep
        exact ⟨by omega, ⟨by omega, by omega⟩, ⟨by omega, by omega⟩, stp 0 E (by omega) (by omega) j2 g1 g2⟩
      · rw [if_neg b, sp_viewAt v0 v1 (by omega) (by omega), sp_viewAt v0 v1 (by omega) (by omega), hE]
        refine ⟨by omega, by omega, by omega, ?_⟩
        rw [g2 (p - 1) (by omega) (by omega) (by omega), if_neg (by omega), d2 (p - 1) (by omega) (by omega)]
        obtain ⟨t, t0, t1, t2⟩ := m2 (p - 1) (by omega) (by omega)
        obtain ⟨u0, u1, ul⟩ := r_olive h t0 (show t < w 273 by omega)
        have hb := sp_bySorts h v0 v1 u0 u1 ul s0 s1 sl hE (sp_oplace h t0 (show t < w 273 by omega) hE) (sp_oplace h i0 (show k < w 273 by omega) hE)
        rw [← t2] at hb
        refine hb _ ?_
        rw [jLex_anti C _ _ (jFS C w v ft k (p - 1)) (C 42 k)]
        rw [jPos_s (show 0 < p by omega)] at j2
        generalize jLex C (C (51 + 72 * v + 3)) (w (298 + 2114 * v + 25)) (C 42 k) (jFS C w v ft k (p - 1)) = L at j2 ⊢
        by_cases c : L < 0
        · rw [if_pos c] at j2
          rw [if_neg (by omega : ¬ -L = 0), if_neg (by omega : ¬ -L ≤ 0)]
          refine ⟨by omega, hk1 _ _ ⟨by omega, by omega, by rw [show p + -1 = p - 1 by omega]; exact j2, fun b hb => by rw [jU_ne hb, g1 b hb], fun j a b c => ?_⟩ (by omega)⟩
          rw [jU_at, if_pos rfl]
          by_cases c1 : j = p
          · subst c1
            rw [if_pos rfl, if_pos (by omega)]
            exact (d2 (j - 1) (by omega) (by omega)).symm
          · rw [if_neg c1, g2 j a b c1]
            by_cases c2 : p < j
            · rw [if_pos c2, if_pos (by omega)]
            · rw [if_neg c2, if_neg (by omega)]
        · rw [if_neg c] at j2
          have fin : (if (if -L = 0 then (if t ≤ k then (-1 : Int) else 1) else -L) ≤ 0 then True else False) := by
            by_cases d : -L = 0
            · rw [if_pos d, if_pos (show t ≤ k by omega), if_pos (by decide)]; trivial
            · rw [if_neg d, if_pos (by omega)]; trivial
          by_cases d : (if -L = 0 then (if t ≤ k then (-1 : Int) else 1) else -L) ≤ 0
          · rw [if_pos d]
            exact ⟨by omega, ⟨by omega, by omega⟩, ⟨by omega, by omega⟩, stp p E (by omega) (by omega) j2 g1 g2⟩
          · rw [if_neg d] at fin; exact fin.elim

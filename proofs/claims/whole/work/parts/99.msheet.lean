-- the text of a sheet, read by the model
def jGoW (D D' : jC) : Prop := (∀ b, b ≠ 345 → b ≠ 346 → D' b = D b) ∧ (∀ j, j ≠ 7 → j ≠ 9 → j ≠ 10 → D' 345 j = D 345 j)
theorem jGoW_r (C : jC) : jGoW C C := ⟨fun _ _ _ => rfl, fun _ _ _ _ => rfl⟩
theorem jGoW_t {A B C : jC} (h : jGoW A B) (h' : jGoW B C) : jGoW A C := ⟨fun b h1 h2 => by rw [h'.1 b h1 h2, h.1 b h1 h2], fun j a b c => by rw [h'.2 j a b c, h.2 j a b c]⟩
theorem jGoW_M {A B : jC} (h : jGoM A B) : jGoW A B := ⟨fun b h1 _ => h.1 b h1, h.2⟩
theorem jGoW_N {A B : jC} (h : jGoN A B) : jGoW A B := jGoW_M (jGoN_M h)
theorem jGoW_V (C : jC) (f : Int → Int) : jGoW C (jV C 346 f) := ⟨fun b _ h2 => jV_ne h2, fun j _ _ _ => by rw [jV_ne (by decide)]⟩
theorem jGoW_U (C : jC) (k v : Int) : jGoW C (jU C 346 k v) := ⟨fun b _ h2 => jU_ne h2, fun j _ _ _ => by rw [jU_ne (by decide)]⟩
theorem jML_W {T : Int → Int} {m p x : Int} {D D' : jC} (h : jML T m p D) (g : jGoW D D') (hx : D' 345 7 = x) (x0 : 0 ≤ x) (x1 : x ≤ m) : jML T m x D' := by
  obtain ⟨a1, a2, a3, a4, a5, a6⟩ := h
  exact ⟨by rw [g.2 8 (by decide) (by decide) (by decide)]; exact a1, hx, x0, x1, a5, by rw [g.1 349 (by decide) (by decide)]; exact a6⟩
def jKw (n : Int) (κ w : Int → Int) : Int → Int := fun t => if 4 ≤ t ∧ t < 4 + n then κ (t - 4) else w t
theorem sp_mCols {T : Int → Int} {m p n : Int} {g κ w : Int → Int} {D : jC} (h : jML T m p D) (hw : D 346 = w) (w0 : w 0 ≤ 0) (n0 : 0 ≤ n) (n5 : n ≤ 5) (g0 : g 0 = p) (gb : ∀ j, 0 ≤ j → j ≤ n → 0 ≤ g j ∧ g j ≤ m) (kd : ∀ j, 0 ≤ j → j < n → jKd T m g κ j) (ne : n = 5 ∨ jNoK T m (g n)) {post : Int → jC → Prop}
    (y0 : (n = 0 ∨ (jBl T m (g n) < m ∧ jIsL T (jBl T m (g n)) = 1)) → ∀ D', jGoW D D' → D' 345 9 = jBl T m (g n) → post 0 D')
    (y1 : 1 ≤ n → ¬ (jBl T m (g n) < m ∧ jIsL T (jBl T m (g n)) = 1) → ∀ D', jGoW D D' → jML T m (jBl T m (g n)) D' → D' 346 = jSet (jKw n κ w) 0 n → post 1 D') : wp_12_readColumns D post := by
  obtain ⟨a1, a2, a3, a4, a5, a6⟩ := id h
  have s2 : jSlen 2 = 6 := rfl
  have s3 : jSlen 3 = 4 := rfl
  unfold wp_12_readColumns wp_12_columns
  dsimp only
  rw [hw, if_pos w0]
  refine jL2_of (fun j E => 0 ≤ j ∧ j ≤ n ∧ jGoW D E ∧ (∃ q, jML T m q E ∧ jBl T m q = jBl T m (g j)) ∧ E 346 = jKw j κ w ∧ (j = n → (n = 0 ∨ (jBl T m (g n) < m ∧ jIsL T (jBl T m (g n)) = 1)))) (fun j _ => (n - j).toNat) (fun K j E hi hk => ?_) ⟨by omega, by omega, jGoW_r D, ⟨p, h, by rw [g0]⟩, by rw [hw]; funext t; unfold jKw; rw [if_neg (by omega)], fun e => Or.inl e.symm⟩
  obtain ⟨i0, i1, i2, ⟨q, i3, i4⟩, i5, i6⟩ := hi
  have gbj := gb j i0 i1
  have bu := jBl_up (T := T) gbj.1 gbj.2 a5
  have b0 : 0 ≤ jBl T m (g j) := by have := bu.1; omega
  have b1 := bu.2.1
  unfold wp_12_readColumns_11
  refine sp_mLetters i3 ?_
  rw [i4]
  intro D1 d1 d7 d9
  have gT : D1 349 = T := by rw [d1.1 349 (by decide)]; exact i3.2.2.2.2.2
  have gD : jGoW D D1 := jGoW_t i2 (jGoW_N d1)
  have w3 : ∀ q : Int → Prop, (jWq T m (jBl T m (g j)) 3 → q 1) → (¬ jWq T m (jBl T m (g j)) 3 → q 0) → wp_12_isWord 3 D1 q := fun q => sp_mWordAt gT b0 b1 a5 d7 d9 (by decide)
  have w2 : ∀ q : Int → Prop, (jWq T m (jBl T m (g j)) 2 → q 1) → (¬ jWq T m (jBl T m (g j)) 2 → q 0) → wp_12_isWord 2 D1 q := fun q => sp_mWordAt gT b0 b1 a5 d7 d9 (by decide)
  have d346 : D1 346 = jKw j κ w := by rw [d1.1 346 (by decide)]; exact i5
  -- behind a kind
  have nx : ∀ (v x : Int), j < n → (v = 0 ∨ v = 1) → κ j = v → g (j + 1) = x → jLt T m (jBl T m (g j)) = x → wp_12_isLetter (jU D1 346 (4 + j) v) (fun x10 C11 => if x10 = 0 then jRng (j + 1) ∧ post 1 (jU C11 346 0 (j + 1)) else jRng (j + 1) ∧ K (j + 1) C11) := by
    intro v x jn hv ek eg el
    have gX : jGoW D (jU D1 346 (4 + j) v) := jGoW_t gD (jGoW_U _ _ _)
    have gbn := gb (j + 1) (by omega) (by omega)
    have hX : jML T m x (jU D1 346 (4 + j) v) := jML_W h gX (by rw [jU_ne (by decide), d7, el]) (by omega) (by omega)
    have X346 : jU D1 346 (4 + j) v 346 = jKw (j + 1) κ w := by
      rw [jU_S, jV_eq, d346]
      funext t
      unfold jSet jKw
      by_cases e1 : t = 4 + j
      · rw [if_pos e1, if_pos (by omega), ← ek]
        congr 1; omega
      · rw [if_neg e1]
        by_cases e2 : 4 ≤ t ∧ t < 4 + j
        · rw [if_pos e2, if_pos (by omega)]
        · rw [if_neg e2, if_neg (by omega)]
    generalize jU D1 346 (4 + j) v = X at *
    unfold wp_12_isLetter
    refine sp_mBlanks hX ?_
    rw [← eg]
    intro D2 e1 e7 e9
    have gD2 : jGoW D D2 := jGoW_t gX (jGoW_N e1)
    have bu' := jBl_up (T := T) gbn.1 gbn.2 a5
    have h2 := jML_W h gD2 e7 (by have := bu'.1; omega) bu'.2.1
    have D2w : D2 346 = jKw (j + 1) κ w := by rw [e1.1 346 (by decide)]; exact X346
    have bb := jBl_bl (T := T) gbn.1 gbn.2 a5
    by_cases lt : jBl T m (g (j + 1)) < m ∧ 97 ≤ T (jBl T m (g (j + 1))) ∧ T (jBl T m (g (j + 1))) ≤ 122
    · rw [sp_isAt1 h2 lt]
      refine ⟨Or.inr rfl, ?_⟩
      dsimp only
      rw [if_neg (by decide)]
      refine ⟨⟨by omega, by omega⟩, hk _ _ ⟨by omega, by omega, gD2, ⟨_, h2, bb⟩, D2w, fun e => Or.inr ?_⟩ (by omega)⟩
      rw [← e]
      refine ⟨lt.1, ?_⟩
      unfold jIsL
      rw [if_pos lt.2]
    · rw [sp_isAt0 h2 lt]
      refine ⟨Or.inl rfl, ?_⟩
      dsimp only
      rw [if_pos rfl]
      have jn' : j + 1 = n := by
        by_cases z : j + 1 = n
        · exact z
        · exfalso
          have := kd (j + 1) (by omega) (by omega)
          have st : ∀ q : Nat, q < 11 → jWq T m (jBl T m (g (j + 1))) q → False := by
            intro q hq hw
            obtain ⟨l1, l2, l3⟩ := jSw_rng q hq
            have c0 := hw.2.1 0 (by omega) (by omega)
            have s0 := l3 0 (by omega) (by omega)
            rw [Int.add_zero] at c0
            have := hw.1
            exact lt ⟨by omega, by omega, by omega⟩
          rcases this with z | z
          · exact st 2 (by decide) z.1
          · exact st 3 (by decide) z.2.1
      have nl : ¬ (jBl T m (g n) < m ∧ jIsL T (jBl T m (g n)) = 1) := by
        rw [← jn']
        rintro ⟨q1, q2⟩
        unfold jIsL at q2
        split at q2
        · rename_i q; exact lt ⟨q1, q⟩
        · omega
      refine ⟨⟨by omega, by omega⟩, y1 (by omega) nl _ (jGoW_t gD2 (jGoW_U _ _ _)) ?_ ?_⟩
      · rw [← jn']
        exact jML_W h (jGoW_t gD2 (jGoW_U _ _ _)) (by rw [jU_ne (by decide)]; exact e7) (by have := bu'.1; omega) bu'.2.1
      · rw [jU_S, jV_eq, D2w, jn']
  refine w3 _ (fun q3 => ?_) (fun q3 => ?_)
  · -- a word
    have l3 := (jWq_lt b0 b1 a5 (by decide)).mp q3
    rw [s3] at l3
    by_cases c5 : j = 5
    · rw [if_pos c5]
      have : j = n := by omega
      subst this
      exact y0 (i6 rfl) D1 gD d9
    rw [if_neg c5, if_neg (by decide)]
    by_cases jn : j < n
    · unfold wp_12_readColumns_42
      rw [if_neg (by decide)]
      refine ⟨by omega, by omega, ?_⟩
      rcases kd j i0 jn with z | z
      · have l2 := (jWq_lt b0 b1 a5 (by decide)).mp z.1
        rw [s2] at l2
        omega
      · exact nx 1 _ jn (Or.inr rfl) z.2.2.1 rfl (by omega)
    · have : j = n := by omega
      subst this
      rcases ne with z | z
      · exact absurd z c5
      · exact absurd q3 z.2
  · by_cases c5 : j = 5
    · rw [if_pos c5]
      have : j = n := by omega
      subst this
      exact y0 (i6 rfl) D1 gD d9
    rw [if_neg c5, if_pos rfl]
    refine w2 _ (fun q2 => ?_) (fun q2 => ?_)
    · rw [if_neg (by decide)]
      have l2 := (jWq_lt b0 b1 a5 (by decide)).mp q2
      rw [s2] at l2
      by_cases jn : j < n
      · unfold wp_12_readColumns_42
        rw [if_pos rfl]
        refine ⟨by omega, by omega, ?_⟩
        rcases kd j i0 jn with z | z
        · exact nx 0 _ jn (Or.inl rfl) z.2.1 rfl (by omega)
        · exact absurd q2 z.1
      · have : j = n := by omega
        subst this
        rcases ne with z | z
        · exact absurd z c5
        · exact absurd q2 z.1
    · rw [if_pos rfl]
      by_cases jn : j < n
      · rcases kd j i0 jn with z | z
        · exact absurd z.1 q2
        · exact absurd z.2.1 q3
      · have : j = n := by omega
        subst this
        exact y0 (i6 rfl) D1 gD d9
/-- the cells of a row -/
theorem sp_mCells {T : Int → Int} {m p n s : Int} {cr cx cy : Int → Int → Int} (F : jCellF T m cr cx cy) {κ w : Int → Int} {B D : jC} (hB : rS 35 B w) (s0 : 0 ≤ s) (s1 : s < 24) (sn : ¬ rLive B 35 s) (h : jML T m p D) (hw : D 346 = jNewW s w) (hn : w 0 = n) (n5 : n ≤ 5) (hκ : ∀ c, 0 ≤ c → c < n → w (4 + c) = κ c ∧ (κ c = 0 ∨ κ c = 1)) {post : Int → jC → Prop}
    (y1 : (∀ c, 0 ≤ c → c < n → cr (κ c) (jQ cx κ p c.toNat) = 1) → ∀ D', jGoW D D' → jML T m (jQ cx κ p n.toNat) D' → D' 346 = jRwW s n (fun c => cy (κ c) (jQ cx κ p c.toNat)) (jNewW s w) → wp_12_putsLast 273 (w 2) D' (fun C21 => jL2 (wp_12_readRow_77 (w 2) post) 0 C21))
    (y0 : ∀ c, 0 ≤ c → c < n → (∀ i, 0 ≤ i → i < c → cr (κ i) (jQ cx κ p i.toNat) = 1) → cr (κ c) (jQ cx κ p c.toNat) = 0 → ∀ D', jGoW D D' → D' 345 9 = cx (κ c) (jQ cx κ p c.toNat) → post 0 D') : jL2 (wp_12_readRow_25 (w 2) post) 0 D := by
  obtain ⟨k1, k2, k3, k4⟩ := r_cols hB
  refine jL2_of (fun c E => 0 ≤ c ∧ c ≤ n ∧ (∀ i, 0 ≤ i → i < c → cr (κ i) (jQ cx κ p i.toNat) = 1) ∧ jGoW D E ∧ jML T m (jQ cx κ p c.toNat) E ∧ E 346 = jRwW s c (fun c => cy (κ c) (jQ cx κ p c.toNat)) (jNewW s w)) (fun c _ => (n - c).toNat) (fun K c E hi hk => ?_) ⟨by omega, by omega, fun i a b => by omega, jGoW_r D, h, by rw [hw]; funext t; unfold jRwW; rw [if_neg (by omega)]⟩
  obtain ⟨i0, i1, i2, i3, i4, i5⟩ := hi
  have lo : ∀ c', c' ≤ 5 → ∀ t, (t < 9 + 11 * s + 1 ∨ 9 + 11 * s + 6 ≤ t) → jRwW s c' (fun c => cy (κ c) (jQ cx κ p c.toNat)) (jNewW s w) t = jNewW s w t := fun c' h5 t ht => jRwW_lo (by omega)
  unfold wp_12_readRow_25 wp_12_columns
  dsimp only
  rw [i5, lo c (by omega) 0 (by omega), jNewW_lo (by decide) (by omega), hn]
  by_cases a : n ≤ c
  · rw [if_pos a]
    have ec : c = n := by omega
    subst ec
    exact y1 i2 E i3 i4 i5
  · rw [if_neg a]
    have hκc := hκ c i0 (by omega)
    obtain ⟨f1, f2, -, f4⟩ := F (κ c) (jQ cx κ p c.toNat) i4.2.2.1 i4.2.2.2.1 hκc.2
    refine f4 E c _ i4 i0 (by omega) ?_ (fun o D' g1 g2 g3 => ?_) (fun o D' g1 g2 => ?_)
    · rw [i5, lo c (by omega) _ (by omega), jNewW_lo (by omega) (by omega)]; exact hκc.1
    · rw [if_neg (by decide)]
      have D346 : D' 346 = E 346 := g1.1 346 (by decide)
      have rw' : ∀ q : Int → Prop, q (9 + 11 * s) → wp_12_rowOf (w 2) D' q := by
        intro q hq
        refine sp_rowOf (fun r hr => ?_)
        have er : r = s := by
          refine jFst_uniq hr (Or.inl ⟨s0, s1, ⟨k4, ?_⟩, fun j j0 j1 z => ?_⟩)
          · rw [D346, i5, lo c (by omega) _ (by omega)]
            unfold jNewW
            rw [if_neg (by omega), if_pos rfl]
          · have z := z.2
            rw [D346, i5, lo c (by omega) _ (by omega), jNewW_lo (by omega) (by omega)] at z
            by_cases lv : rLive B 35 j
            · have := r_live hB j0 (by omega) lv
              omega
            · have := hB.2.2.2.1.2.1 j j0 (by omega) lv
              omega
        rw [er, if_neg (by omega)]; exact hq
      refine rw' _ ⟨by omega, by omega, ?_⟩
      have gg : jGoW E (jU D' 346 (9 + 11 * s + 1 + c) (D' 345 10)) := jGoW_t (jGoW_M g1) (jGoW_U _ _ _)
      refine hk _ _ ⟨by omega, by omega, fun i a b => ?_, jGoW_t i3 gg, ?_, ?_⟩ (by omega)
      · by_cases e : i = c
        · rw [e]; exact o
        · exact i2 i a (by omega)
      · have := f2 o
        have := i4.2.2.1
        rw [jQ_s i0]
        exact jML_W i4 gg (by rw [jU_ne (by decide)]; exact g2.2.1) (by omega) (by omega)
      · rw [jU_S, jV_eq, D346, i5, g3]
        funext t
        unfold jSet jRwW
        by_cases e1 : t = 9 + 11 * s + 1 + c
        · rw [if_pos e1, if_pos (by omega), show t - (9 + 11 * s + 1) = c by omega]
        · rw [if_neg e1]
          by_cases e2 : 9 + 11 * s + 1 ≤ t ∧ t < 9 + 11 * s + 1 + c
          · rw [if_pos e2, if_pos (by omega)]
          · rw [if_neg e2, if_neg (by omega)]
    · rw [if_pos rfl]
      exact y0 c i0 (by omega) i2 o D' (jGoW_t i3 (jGoW_M g1)) g2
theorem sp_joinR {φ : Int → Int} {key : Int} {w : Int → Int} {D : jC} (hD : D 346 = w) (ok : jJok φ (-1) key w 4) (hw : ∀ u, 0 ≤ u → u < 4 → 0 ≤ w (298 + 2114 * u) ∧ w (298 + 2114 * u) < 24) {post : Int → jC → Prop} (y : post 1 (jV D 346 (jJn φ (-1) key w 4))) : jL2 (wp_12_readRow_77 key post) 0 D := by
  refine jL2_of (fun k E => 0 ≤ k ∧ k ≤ 4 ∧ E = jV D 346 (jJn φ (-1) key w k.toNat) ∧ ∀ u, k ≤ u → u < 4 → jJn φ (-1) key w k.toNat (298 + 2114 * u) = w (298 + 2114 * u)) (fun k _ => (4 - k).toNat) (fun K k E hi hk1 => ?_) ⟨by omega, by omega, ?_, fun _ _ _ => rfl⟩
  · obtain ⟨i0, i1, rfl, i5⟩ := hi
    unfold wp_12_readRow_77
    by_cases a : 4 ≤ k
    · rw [if_pos a]
      rw [show k = 4 by omega]; exact y
    · rw [if_neg a]
      have st := jJn_s (φ := φ) (th := -1) (key := key) (w := w) i0
      obtain ⟨f1, f2⟩ := ok k i0 (by omega) (by omega)
      refine f2 _ (jV_eq _ _ _) _ ?_
      by_cases c : φ k = 0
      · rw [if_pos c]
        rw [if_pos (Or.inr c)] at st
        exact hk1 _ _ ⟨by omega, by omega, by rw [st], fun u u0 u1 => by rw [st]; exact i5 u (by omega) u1⟩ (by omega)
      · rw [if_neg c, sp_listOf i0 (by omega)]
        rw [if_neg (by omega)] at st
        have wk := i5 k (Int.le_refl _) (by omega)
        have hl := hw k i0 (by omega)
        refine sp_putsLast (by rw [jV_eq, wk]; exact ⟨by omega, by omega⟩) (by omega) (by rw [jV_eq, wk]; omega) (by rw [jV_eq, wk]; omega) ?_
        rw [jV_eq, jV_V]
        refine hk1 _ _ ⟨by omega, by omega, ?_, fun u u0 u1 => ?_⟩ (by omega)
        · rw [st]; rfl
        · rw [st, jApp_out (by rw [wk]; omega) (by omega) (by rw [wk]; omega)]; exact i5 u (by omega) u1
  · show D = jV D 346 w
    rw [← hD, jV_id]
/-- a row that is right -/
theorem sp_mRow1 {T : Int → Int} {m p n : Int} {cr cx cy : Int → Int → Int} (F : jCellF T m cr cx cy) {κ w w1 : Int → Int} {D : jC} (h : jML T m p D) (hw : D 346 = w) (hn : w 0 = n) (n1 : 1 ≤ n) (n5 : n ≤ 5) (r24 : w 273 < 24) (hk2 : w 2 < 1000000) (hκ : ∀ c, 0 ≤ c → c < n → w (4 + c) = κ c ∧ (κ c = 0 ∨ κ c = 1)) (ok : ∀ c, 0 ≤ c → c < n → cr (κ c) (jQ cx κ p c.toNat) = 1) {y : Int → Int} (hy : ∀ c, 0 ≤ c → c < n → y c = cy (κ c) (jQ cx κ p c.toNat)) (ra : jRa w w1 n y) {post : Int → jC → Prop}
    (z : ∀ D', jGoW D D' → jML T m (jQ cx κ p n.toNat) D' → D' 346 = w1 → post 1 D') : wp_12_readRow D post := by
  obtain ⟨B, s, φ, hB, s0, s1, sn, sf, jo, sz, ew⟩ := ra
  obtain ⟨o1, o2, o3, o4, o5⟩ := r_ord hB
  obtain ⟨k1, k2, k3, k4⟩ := r_cols hB
  unfold wp_12_readRow wp_12_columns
  dsimp only
  rw [sp_rows, hw, if_neg (by omega), if_neg (by omega)]
  refine sp_newM hB hw hk2 s0 s1 sn sf ?_
  have gV := jGoW_V D (jNewW s w)
  refine sp_mCells F hB s0 s1 sn (jML_W h gV (by rw [jV_ne (by decide)]; exact h.2.1) h.2.2.1 h.2.2.2.1) (jV_eq _ _ _) hn n5 hκ (fun _ D' g1 g2 g3 => ?_) (fun c c0 c1 _ c3 => absurd (ok c c0 c1) (by omega))
  have eY : jRwW s n (fun c => cy (κ c) (jQ cx κ p c.toNat)) (jNewW s w) = jRwW s n y (jNewW s w) := by
    funext t
    unfold jRwW
    by_cases e : 9 + 11 * s + 1 ≤ t ∧ t < 9 + 11 * s + 1 + n
    · rw [if_pos e, if_pos e, hy _ (by omega) (by omega)]
    · rw [if_neg e, if_neg e]
  rw [eY] at g3
  have x273 : jRwW s n y (jNewW s w) 273 = w 273 := by rw [jRwW_lo (by omega), jNewW_lo (by decide) (by omega)]
  refine sp_putsLast (by rw [g3, x273]; exact ⟨by omega, by omega⟩) (by decide) (by rw [g3, x273]; omega) (by rw [g3, x273]; omega) ?_
  rw [g3]
  have eJ : jSet (jInsF (jRwW s n y (jNewW s w)) (273 + 1) (jRwW s n y (jNewW s w) 273) (jRwW s n y (jNewW s w) 273) (w 2)) 273 (jRwW s n y (jNewW s w) 273 + 1) = jRw1 s n y w := by
    unfold jRw1 jApp
    rw [x273]
  rw [eJ]
  have out : ∀ j, ¬ (273 ≤ j ∧ j < 298) → jRw1 s n y w j = jRwW s n y (jNewW s w) j := fun j hj => by
    unfold jRw1
    exact jApp_out (by omega) (by omega) (by omega)
  refine sp_joinR (jV_eq _ _ _) jo (fun u u0 u1 => ?_) ?_
  · rw [out _ (by omega), jRwW_lo (by omega), jNewW_lo (by omega) (by omega)]; exact sz u u0 u1
  · rw [jV_V, ← ew]
    exact z _ (jGoW_t gV (jGoW_t g1 (jGoW_V _ _))) (jML_W g2 (jGoW_V _ _) (by rw [jV_ne (by decide)]; exact g2.2.1) g2.2.2.1 g2.2.2.2.1) (jV_eq _ _ _)
/-- a row that is wrong -/
theorem sp_mRow0 {T : Int → Int} {m p n c : Int} {cr cx cy : Int → Int → Int} (F : jCellF T m cr cx cy) {κ w : Int → Int} {B D : jC} (hB : rS 35 B w) (h : jML T m p D) (hw : D 346 = w) (hn : w 0 = n) (n1 : 1 ≤ n) (n5 : n ≤ 5) (r24 : w 273 < 24) (hk2 : w 2 < 1000000) (hκ : ∀ c, 0 ≤ c → c < n → w (4 + c) = κ c ∧ (κ c = 0 ∨ κ c = 1)) (c0 : 0 ≤ c) (c1 : c < n) (ok : ∀ i, 0 ≤ i → i < c → cr (κ i) (jQ cx κ p i.toNat) = 1) (bad : cr (κ c) (jQ cx κ p c.toNat) = 0) {post : Int → jC → Prop}
    (z : ∀ D', jGoW D D' → D' 345 9 = cx (κ c) (jQ cx κ p c.toNat) → post 0 D') : wp_12_readRow D post := by
  obtain ⟨s, s0, s1, sn, sf⟩ := jFree hB r24
  unfold wp_12_readRow wp_12_columns
  dsimp only
  rw [sp_rows, hw, if_neg (by omega), if_neg (by omega)]
  refine sp_newM hB hw hk2 s0 s1 sn sf ?_
  have gV := jGoW_V D (jNewW s w)
  refine sp_mCells F hB s0 s1 sn (jML_W h gV (by rw [jV_ne (by decide)]; exact h.2.1) h.2.2.1 h.2.2.2.1) (jV_eq _ _ _) hn n5 hκ (fun o => absurd (o c c0 c1) (by omega)) (fun i i0 i1 i2 i3 D' g1 g2 => ?_)
  have : i = c := by
    rcases Int.lt_trichotomy i c with q | q | q
    · exact absurd (ok i i0 q) (by omega)
    · exact q
    · exact absurd (i2 c c0 q) (by omega)
  subst this
  exact z D' (jGoW_t gV g1) g2

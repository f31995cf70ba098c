-- the text of grids: its cells, by columns that are seen
theorem cj_12_isAt {v1 : Int} {v2 : Int} {C : jC} {post : Int → Prop} {postx : Int → Prop} (h : wp_12_isAt v1 v2 C post) (g : wp_12_isAt v1 v2 C postx) : ∃ (r0 : Int), post r0 ∧ postx r0 := by
  unfold wp_12_isAt at h g
  rcases jIf2 h g with ⟨h, g⟩ | ⟨h, g⟩
  · exact ⟨_, h, g⟩
  · replace h := h.2
    replace g := g.2
    replace h := h.2
    replace g := g.2
    rcases jIf2 h g with ⟨h, g⟩ | ⟨h, g⟩
    · exact ⟨_, h, g⟩
    · rcases jIf2 h g with ⟨h, g⟩ | ⟨h, g⟩
      · exact ⟨_, h, g⟩
      · exact ⟨_, h, g⟩
theorem cj_12_blanks_0 {post : jC → Prop} {k0 : jC → Prop} {C : jC} {postx : jC → Prop} {k0x : jC → Prop} (h : wp_12_blanks_0 post k0 C) (g : wp_12_blanks_0 postx k0x C) : (∃ (r0 : jC), post r0 ∧ postx r0) ∨ (∃ (r0 : jC), k0 r0 ∧ k0x r0) := by
  unfold wp_12_blanks_0 at h g
  obtain ⟨_, h, g⟩ := cj_12_isAt h g
  rcases jIf2 h g with ⟨h, g⟩ | ⟨h, g⟩
  · exact Or.inl ⟨_, h, g⟩
  · replace h := h.2
    replace g := g.2
    exact Or.inr ⟨_, h, g⟩
theorem cj_12_blanks {C : jC} {post : jC → Prop} {postx : jC → Prop} (h : wp_12_blanks C post) (g : wp_12_blanks C postx) : ∃ (r0 : jC), post r0 ∧ postx r0 := by
  unfold wp_12_blanks at h g
  exact jL1_cj h g (fun K K2 a h g => cj_12_blanks_0 h g)
theorem blanks_eq {T : Int → Int} {m p : Int} {D0 D : jC} {Q : jC → Prop} (h : jML T m p D0) (hq : wp_12_blanks D0 Q) (hD : jML T m (jBl T m p) D) (g : jGoN D0 D) : wp_12_blanks D Q := by
  have a := sp_mBlanks h (post := fun D' => jGoN D0 D' ∧ D' 345 7 = jBl T m p ∧ D' 345 9 = jBl T m p) (fun D' x y z => ⟨x, y, z⟩)
  obtain ⟨r, q, r1, r2, r3⟩ := cj_12_blanks hq a
  refine sp_mBlanks hD (fun D' g1 g2 g3 => ?_)
  rw [jBl_bl h.2.2.1 h.2.2.2.1 h.2.2.2.2.1] at g2 g3
  have e : D' = r := by
    funext b j
    by_cases e : b = 345
    · subst e
      by_cases j7 : j = 7
      · subst j7; rw [g2, r2]
      by_cases j9 : j = 9
      · subst j9; rw [g3, r3]
      rw [g1.2 j j7 j9, g.2 j j7 j9, r1.2 j j7 j9]
    · rw [g1.1 b e, g.1 b e, r1.1 b e]
  rw [e]; exact q
theorem sp_mCellB {T : Int → Int} {m p kind col : Int} {cr cx cy : Int → Int → Int} (F : jCellF T m cr cx cy) (p0 : 0 ≤ p) (p1 : p ≤ m) (hk : kind = 0 ∨ kind = 1) {D : jC} (hD : jML T m (jBl T m p) D) (c0 : 0 ≤ col) (c1 : col < 5) (hc : D 346 (4 + col) = kind) {post : Int → jC → Prop}
    (z1 : cr kind p = 1 → ∀ D', jGoM D D' → jML T m (cx kind p) D' → D' 345 10 = cy kind p → post 1 D') (z0 : cr kind p = 0 → ∀ D', jGoM D D' → D' 345 9 = cx kind p → post 0 D') : wp_12_aValue col D post := by
  obtain ⟨a1, a2, a3, a4, a5, a6⟩ := id hD
  have l0 : jML T m p (jU D 345 7 p) := ⟨by rw [jU_at, if_pos rfl, if_neg (by decide)]; exact a1, by rw [jU_at, if_pos rfl, if_pos rfl], p0, p1, a5, by rw [jU_ne (by decide)]; exact a6⟩
  have g0 : jGoN (jU D 345 7 p) D := ⟨fun b hb => by rw [jU_ne hb], fun j h7 _ => by rw [jU_at, if_pos rfl, if_neg h7]⟩
  have gm : ∀ D', jGoM (jU D 345 7 p) D' → jGoM D D' := fun D' g => ⟨fun b hb => by rw [g.1 b hb, jU_ne hb], fun j h7 h9 h10 => by rw [g.2 j h7 h9 h10, jU_at, if_pos rfl, if_neg h7]⟩
  have := (F kind p p0 p1 hk).2.2.2 (jU D 345 7 p) col post l0 c0 c1 (by rw [jU_ne (by decide)]; exact hc) (fun a D' g1 g2 g3 => z1 a D' (gm D' g1) g2 g3) (fun a D' g1 g2 => z0 a D' (gm D' g1) g2)
  unfold wp_12_aValue wp_12_sign at this ⊢
  exact blanks_eq l0 this hD g0
/-- the next column that is seen -/
def jSn (hd : Int → Int) (N c d : Int) : Prop := c ≤ d ∧ (∀ e, c ≤ e → e < d → e < N ∧ hd e = 1) ∧ (N ≤ d ∨ hd d ≠ 1)
theorem jSn_uniq {hd : Int → Int} {N c d d' : Int} (h : jSn hd N c d) (h' : jSn hd N c d') : d = d' := by
  obtain ⟨a1, a2, a3⟩ := h
  obtain ⟨b1, b2, b3⟩ := h'
  rcases Int.lt_trichotomy d d' with z | z | z
  · have := b2 d a1 z
    rcases a3 with q | q
    · omega
    · exact absurd this.2 q
  · exact z
  · have := a2 d' b1 z
    rcases b3 with q | q
    · omega
    · exact absurd this.2 q
theorem jSn_ex (hd : Int → Int) (N : Int) : ∀ c, ∃ d, jSn hd N c d := by
  have key : ∀ (n : Nat) (c : Int), (N - c).toNat ≤ n → ∃ d, jSn hd N c d := by
    intro n
    induction n with
    | zero => exact fun c hc => ⟨c, Int.le_refl _, fun e a b => by omega, Or.inl (by omega)⟩
    | succ n ih =>
      intro c hc
      by_cases a : N ≤ c
      · exact ⟨c, Int.le_refl _, fun e a b => by omega, Or.inl a⟩
      by_cases b : hd c = 1
      · obtain ⟨d, d1, d2, d3⟩ := ih (c + 1) (by omega)
        refine ⟨d, by omega, fun e e1 e2 => ?_, d3⟩
        by_cases z : e = c
        · subst z; exact ⟨by omega, b⟩
        · exact d2 e (by omega) e2
      · exact ⟨c, Int.le_refl _, fun e a b => by omega, Or.inr b⟩
  exact fun c => key _ c (Nat.le_refl _)
theorem jSn_hid {hd sn : Int → Int} {N c : Int} (hs : ∀ c, jSn hd N c (sn c)) (h1 : c < N) (h2 : hd c = 1) : sn (c + 1) = sn c := by
  obtain ⟨a1, a2, a3⟩ := hs (c + 1)
  refine jSn_uniq ⟨by omega, fun e e1 e2 => ?_, a3⟩ (hs c)
  by_cases z : e = c
  · subst z; exact ⟨h1, h2⟩
  · exact a2 e (by omega) e2
theorem jSn_vis {hd sn : Int → Int} {N c : Int} (hs : ∀ c, jSn hd N c (sn c)) (h2 : N ≤ c ∨ hd c ≠ 1) : sn c = c := (jSn_uniq ⟨Int.le_refl _, fun e a b => by omega, h2⟩ (hs c)).symm
theorem sp_seen {w : Int → Int} {v N c : Int} {hd sn : Int → Int} (hN : w 0 = N) (N5 : N ≤ 5) (hh : ∀ c, 0 ≤ c → c < 5 → (hd c = 0 ∨ hd c = 1) ∧ ∀ D : jC, D 346 = w → jDet (wp_12_isHidden v c D) (hd c)) (hs : ∀ c, jSn hd N c (sn c)) (c0 : 0 ≤ c) {D : jC} (hD : D 346 = w) : jDet (wp_12_seenFrom v c D) (sn c) := by
  intro post y
  obtain ⟨s1, s2, s3⟩ := hs c
  unfold wp_12_seenFrom
  refine jL1_of (fun d => c ≤ d ∧ d ≤ sn c) (fun d => (sn c - d).toNat) (fun K d hi hk => ?_) ⟨Int.le_refl _, s1⟩
  obtain ⟨i0, i1⟩ := hi
  unfold wp_12_seenFrom_2 wp_12_columns
  dsimp only
  rw [hD, hN]
  by_cases a : N ≤ d
  · rw [if_pos a]
    have : d = sn c := by
      by_cases z : d = sn c
      · exact z
      · have := (s2 d i0 (by omega)).1; omega
    rw [this]; exact y
  · rw [if_neg a]
    obtain ⟨h1, h2⟩ := hh d (by omega) (by omega)
    refine h2 D hD _ ?_
    by_cases b : hd d = 0
    · rw [if_pos b]
      have : d = sn c := by
        by_cases z : d = sn c
        · exact z
        · have := (s2 d i0 (by omega)).2; omega
      rw [this]; exact y
    · rw [if_neg b]
      have : d ≠ sn c := by
        intro z
        rw [← z] at s3
        rcases s3 with q | q
        · omega
        · omega
      exact hk (d + 1) ⟨by omega, by omega⟩ (by omega)
/-- the columns of a grid, and where its cells begin -/
def jGu (sn : Int → Int) (c : Int) : Nat → Int
  | 0 => c
  | n + 1 => sn (jGu sn c n + 1)
def jGq (T : Int → Int) (m : Int) (cx : Int → Int → Int) (κ sn : Int → Int) (c p : Int) : Nat → Int
  | 0 => p
  | n + 1 => jBl T m (cx (κ (jGu sn c n)) (jGq T m cx κ sn c p n)) + 1
theorem jGu_s {sn : Int → Int} {c k : Int} (h : 0 ≤ k) : jGu sn c (k + 1).toNat = sn (jGu sn c k.toNat + 1) := by
  rw [show (k + 1).toNat = k.toNat + 1 by omega]; rfl
theorem jGq_s {T : Int → Int} {m : Int} {cx : Int → Int → Int} {κ sn : Int → Int} {c p k : Int} (h : 0 ≤ k) : jGq T m cx κ sn c p (k + 1).toNat = jBl T m (cx (κ (jGu sn c k.toNat)) (jGq T m cx κ sn c p k.toNat)) + 1 := by
  rw [show (k + 1).toNat = k.toNat + 1 by omega]; rfl
theorem jGu_up {hd sn : Int → Int} {N c : Int} (hs : ∀ c, jSn hd N c (sn c)) (n : Nat) : c + n ≤ jGu sn c n := by
  induction n with
  | zero => show c + 0 ≤ c; omega
  | succ n ih =>
    have := (hs (jGu sn c n + 1)).1
    show c + (n + 1 : Nat) ≤ sn (jGu sn c n + 1)
    omega
theorem jGu_lt {hd sn : Int → Int} {N c : Int} (hs : ∀ c, jSn hd N c (sn c)) {i j : Int} (i0 : 0 ≤ i) (h : i < j) : jGu sn c i.toNat < jGu sn c j.toNat := by
  have key : ∀ n : Nat, jGu sn c i.toNat < jGu sn c (i + 1 + n).toNat := by
    intro n
    induction n with
    | zero =>
      have := (hs (jGu sn c i.toNat + 1)).1
      rw [show i + 1 + ((0 : Nat) : Int) = i + 1 by omega, jGu_s i0]
      omega
    | succ n ih =>
      have := (hs (jGu sn c (i + 1 + n).toNat + 1)).1
      rw [show i + 1 + ((n + 1 : Nat) : Int) = i + 1 + n + 1 by omega, jGu_s (by omega)]
      omega
  have := key (j - i - 1).toNat
  rw [show i + 1 + (((j - i - 1).toNat : Nat) : Int) = j by omega] at this
  exact this
/-- the first k cells of a grid: read, and a comma behind each -/
def jGd (T : Int → Int) (m : Int) (cr cx : Int → Int → Int) (κ sn : Int → Int) (c p N k : Int) : Prop := ∀ i, 0 ≤ i → i < k → jGu sn c i.toNat < N ∧ cr (κ (jGu sn c i.toNat)) (jGq T m cx κ sn c p i.toNat) = 1 ∧ jBl T m (cx (κ (jGu sn c i.toNat)) (jGq T m cx κ sn c p i.toNat)) < m ∧ T (jBl T m (cx (κ (jGu sn c i.toNat)) (jGq T m cx κ sn c p i.toNat))) = 44
theorem jGd_b {T : Int → Int} {m c p N k : Int} {cr cx cy : Int → Int → Int} (F : jCellF T m cr cx cy) (m4 : m ≤ 400) {κ hd sn : Int → Int} (hκ : ∀ c, 0 ≤ c → c < 5 → κ c = 0 ∨ κ c = 1) (N5 : N ≤ 5) (c0 : 0 ≤ c) (hs : ∀ c, jSn hd N c (sn c)) (p0 : 0 ≤ p) (p1 : p ≤ m) (h : jGd T m cr cx κ sn c p N k) : ∀ n : Nat, (n : Int) ≤ k → p ≤ jGq T m cx κ sn c p n ∧ jGq T m cx κ sn c p n ≤ m := by
  intro n
  induction n with
  | zero => exact fun _ => ⟨Int.le_refl _, p1⟩
  | succ n ih =>
    intro hn
    have i := ih (by omega)
    obtain ⟨a1, a2, a3, a4⟩ := h n (by omega) (by omega)
    rw [show ((n : Nat) : Int).toNat = n by omega] at a1 a2 a3 a4
    have u := jGu_up (c := c) hs n
    have f := (F (κ (jGu sn c n)) (jGq T m cx κ sn c p n) (by omega) i.2 (hκ _ (by omega) (by omega))).2.1 a2
    have b := (jBl_up (T := T) (show 0 ≤ cx (κ (jGu sn c n)) (jGq T m cx κ sn c p n) by omega) f.2.1 m4).1
    show p ≤ jBl T m (cx (κ (jGu sn c n)) (jGq T m cx κ sn c p n)) + 1 ∧ jBl T m (cx (κ (jGu sn c n)) (jGq T m cx κ sn c p n)) + 1 ≤ m
    omega
theorem cg_hides {Q c : Int} {C E : jC} (h : E Q = C Q) : wp_2_hides Q c E = wp_2_hides Q c C := by
  funext post
  unfold wp_2_hides
  rw [h]
theorem sp_cGrid {T : Int → Int} {m p N r c0 Q : Int} {cr cx cy : Int → Int → Int} (F : jCellF T m cr cx cy) {C : jC} (h : jCL T m p C) {hd sn : Int → Int} (hN : C 3 0 = N) (N5 : N ≤ 5) (hr : C 3 2 = r) (r0 : 0 ≤ r) (r12 : r < 12) (hκ : ∀ c, 0 ≤ c → c < 5 → C 4 c = 0 ∨ C 4 c = 1) (c00 : 0 ≤ c0) (Qo : 35 ≤ Q)
    (hh : ∀ c, 0 ≤ c → c < 5 → (hd c = 0 ∨ hd c = 1) ∧ jDet (wp_2_hides Q c C) (hd c)) (hs : ∀ c, jSn hd N c (sn c)) (s0 : sn c0 = c0) {post : Int → jC → Prop}
    (y1 : ∀ (k : Int) (C' : jC), 0 ≤ k → jGd T m cr cx (C 4) sn c0 p N k → jGu sn c0 k.toNat < N → cr (C 4 (jGu sn c0 k.toNat)) (jGq T m cx (C 4) sn c0 p k.toNat) = 1 → ¬ (jBl T m (cx (C 4 (jGu sn c0 k.toNat)) (jGq T m cx (C 4) sn c0 p k.toNat)) < m ∧ T (jBl T m (cx (C 4 (jGu sn c0 k.toNat)) (jGq T m cx (C 4) sn c0 p k.toNat))) = 44) → jXt C C' → jCL T m (jBl T m (cx (C 4 (jGu sn c0 k.toNat)) (jGq T m cx (C 4) sn c0 p k.toNat))) C' → C' 3 0 = N → C' 4 = C 4 → C' 3 2 = r + 1 → C' 5 r = k + 1 → (∀ j, j ≠ r → C' 5 j = C 5 j) → (∀ i, 0 ≤ i → i ≤ k → C' 6 (r * 5 + i) = cy (C 4 (jGu sn c0 i.toNat)) (jGq T m cx (C 4) sn c0 p i.toNat)) → (∀ j, j < r * 5 → C' 6 j = C 6 j) → post 1 C')
    (y0 : ∀ (k x : Int) (C' : jC), 0 ≤ k → jGd T m cr cx (C 4) sn c0 p N k → ((N ≤ jGu sn c0 k.toNat ∧ x = jBl T m (jGq T m cx (C 4) sn c0 p k.toNat)) ∨ (jGu sn c0 k.toNat < N ∧ cr (C 4 (jGu sn c0 k.toNat)) (jGq T m cx (C 4) sn c0 p k.toNat) = 0 ∧ x = cx (C 4 (jGu sn c0 k.toNat)) (jGq T m cx (C 4) sn c0 p k.toNat))) → jXf C C' x → post 0 C') : wp_9_readGrid Q c0 C post := by
  obtain ⟨a1, a2, a3, a4, a5, a6⟩ := id h
  unfold wp_9_readGrid wp_9_beginRow
  rw [hr, if_neg (by omega)]
  refine ⟨r0, ?_⟩
  refine jL2_of (fun c E => 0 ≤ c ∧ ∃ k, 0 ≤ k ∧ k ≤ c ∧ sn c = jGu sn c0 k.toNat ∧ jGd T m cr cx (C 4) sn c0 p N k ∧ jXt C E ∧ jCL T m (jGq T m cx (C 4) sn c0 p k.toNat) E ∧ E 3 = C 3 ∧ E 4 = C 4 ∧ E 5 r = k ∧ (∀ j, j ≠ r → E 5 j = C 5 j) ∧ (∀ i, 0 ≤ i → i < k → E 6 (r * 5 + i) = cy (C 4 (jGu sn c0 i.toNat)) (jGq T m cx (C 4) sn c0 p i.toNat)) ∧ (∀ j, j < r * 5 → E 6 j = C 6 j)) (fun c _ => (N - c).toNat) (fun K c E hi hk => ?_) ⟨c00, 0, Int.le_refl 0, c00, s0, fun i a b => by omega, jXt_u C _ _ (by decide) (by decide), jCL_tx h (jXt_u C _ _ (by decide) (by decide)) (by rw [jU_ne (by decide)]; exact a2) a3 a4, jU_ne (by decide), jU_ne (by decide), by rw [jU_at, if_pos rfl, if_pos rfl], fun j hj => by rw [jU_at, if_pos rfl, if_neg hj], fun c a b => by omega, fun j hj => by rw [jU_ne (by decide)]⟩
  obtain ⟨i0, k, k0, kc, sk, i2, i3, i4, i5, i6, i7, i8, i9, i10⟩ := hi
  unfold wp_9_readGrid_7
  rw [i5, hN]
  have e0 : C 3 0 = N := hN
  by_cases a : N ≤ c
  · rw [if_pos a]
    have s1 := (hs c).1
    refine sp_cBl3 i4 (fun C1 g1 h1 => ?_)
    unfold wp_5_failHere
    rw [h1.2.1]
    refine ⟨Or.inl rfl, y0 k _ _ k0 i2 (Or.inl ⟨by omega, rfl⟩) (jXf_bad (jXt_t i3 (jXt_go (jGo3_go g1))) (jBad_u _ _))⟩
  · rw [if_neg a]
    obtain ⟨h1, h2⟩ := hh c i0 (by omega)
    have eQ : E Q = C Q := i3.1 Q (by omega)
    rw [cg_hides eQ]
    refine h2 _ ?_
    by_cases b : hd c = 0
    · rw [if_pos b]
      have ec : jGu sn c0 k.toNat = c := by rw [← sk]; exact jSn_vis hs (Or.inr (by omega))
      unfold wp_9_kindAsked
      rw [i5, e0, i6, if_neg (by omega), if_neg (by omega), if_neg (by omega)]
      have kk := hκ c i0 (by omega)
      have pp := jGd_b F a5 hκ N5 c00 hs a3 a4 i2 k.toNat (by omega)
      obtain ⟨f1, f2, f3, -⟩ := F (C 4 c) (jGq T m cx (C 4) sn c0 p k.toNat) (by omega) pp.2 kk
      refine f3 E _ i4 (fun o C' g1 g2 g3 => ?_) (fun o C' g1 => ?_)
      · rw [if_neg (by decide), g3]
        have e3 : C' 3 = C 3 := by rw [g1.1 3 (by decide)]; exact i5
        have e5 : C' 5 = E 5 := g1.1 5 (by decide)
        have e6 : C' 6 = E 6 := g1.1 6 (by decide)
        unfold wp_9_takeValue
        have q3 : ∀ x, jU C' 6 (r * 5 + k) x 3 2 = r := fun x => by rw [jU_ne (by decide), e3]; exact hr
        have q5 : ∀ x, jU C' 6 (r * 5 + k) x 5 r = k := fun x => by rw [jU_ne (by decide), e5]; exact i7
        rw [e3, hr, if_neg (by omega)]
        have e5r : C' 5 r = k := by rw [e5]; exact i7
        rw [e5r, if_neg (by omega), q3, q5]
        refine ⟨r0, by omega, r0, by omega, ⟨by omega, by omega⟩, ?_⟩
        generalize hX : jU (jU C' 6 (r * 5 + k) (cy (C 4 c) (jGq T m cx (C 4) sn c0 p k.toNat))) 5 r (k + 1) = X
        have xX : jXt C' X := by rw [← hX]; exact jXt_t (jXt_u _ _ _ (by decide) (by decide)) (jXt_u _ _ _ (by decide) (by decide))
        have x1 : X 1 = C' 1 := by rw [← hX, jU_ne (by decide), jU_ne (by decide)]
        have x3 : X 3 = C 3 := by rw [← hX, jU_ne (by decide), jU_ne (by decide)]; exact e3
        have x4 : X 4 = C 4 := by rw [← hX, jU_ne (by decide), jU_ne (by decide), g1.1 4 (by decide)]; exact i6
        have x5 : X 5 r = k + 1 := by rw [← hX, jU_at, if_pos rfl, if_pos rfl]
        have x5' : ∀ j, j ≠ r → X 5 j = C 5 j := fun j hj => by rw [← hX, jU_at, if_pos rfl, if_neg hj, jU_ne (by decide), e5, i8 j hj]
        have x6 : ∀ i, 0 ≤ i → i < k + 1 → X 6 (r * 5 + i) = cy (C 4 (jGu sn c0 i.toNat)) (jGq T m cx (C 4) sn c0 p i.toNat) := by
          intro i j0 j1
          rw [← hX, jU_ne (by decide), jU_at, if_pos rfl]
          by_cases e : i = k
          · subst e; rw [if_pos rfl, ec]
          · rw [if_neg (by omega), e6]; exact i9 i j0 (by omega)
        have x6' : ∀ j, j < r * 5 → X 6 j = C 6 j := fun j hj => by rw [← hX, jU_ne (by decide), jU_at, if_pos rfl, if_neg (by omega), e6, i10 j hj]
        have clX : jCL T m (cx (C 4 c) (jGq T m cx (C 4) sn c0 p k.toNat)) X := jCL_tx g2 xX (by rw [x1]; exact g2.2.1) g2.2.2.1 g2.2.2.2.1
        have xt := jXt_t i3 (jXt_t (jXt_go g1) xX)
        refine sp_cSign clX (by decide) (by decide) (fun q1 q2 C3 g3 c3 => ?_) (fun q C3 g3 c3 => ?_)
        · rw [if_neg (by decide)]
          refine hk _ _ ⟨by omega, k + 1, by omega, by omega, by rw [jGu_s k0, ec], fun i j0 j1 => ?_, jXt_t xt (jXt_go (jGo3_go g3)), by rw [jGq_s k0, ec]; exact c3, by rw [g3.1 3 (by decide)]; exact x3, by rw [g3.1 4 (by decide)]; exact x4, by rw [g3.1 5 (by decide)]; exact x5, fun j hj => by rw [g3.1 5 (by decide)]; exact x5' j hj, fun i j0 j1 => by rw [g3.1 6 (by decide)]; exact x6 i j0 j1, fun j hj => by rw [g3.1 6 (by decide)]; exact x6' j hj⟩ (by omega)
          by_cases e : i = k
          · subst e; rw [ec]; exact ⟨by omega, o, q1, q2⟩
          · exact i2 i j0 (by omega)
        · rw [if_pos rfl, g3.1 3 (by decide), x3, hr]
          have g := jXt_u C3 (a := 3) 2 (r + 1) (by decide) (by decide)
          refine ⟨⟨by omega, by omega⟩, y1 k _ k0 i2 (by omega) (by rw [ec]; exact o) (by rw [ec]; exact q) (jXt_t (jXt_t xt (jXt_go (jGo3_go g3))) g) ?_ ?_ ?_ (by rw [jU_at, if_pos rfl, if_pos rfl]) ?_ (fun j hj => ?_) (fun i j0 j1 => ?_) (fun j hj => ?_)⟩
          · rw [ec]
            exact jCL_tx c3 g (by rw [jU_ne (by decide)]; exact c3.2.1) c3.2.2.1 c3.2.2.2.1
          · rw [jU_at, if_pos rfl, if_neg (by decide), g3.1 3 (by decide), x3]; exact hN
          · rw [jU_ne (by decide), g3.1 4 (by decide)]; exact x4
          · rw [jU_ne (by decide), g3.1 5 (by decide)]; exact x5
          · rw [jU_ne (by decide), g3.1 5 (by decide)]; exact x5' j hj
          · rw [jU_ne (by decide), g3.1 6 (by decide)]; exact x6 i j0 (by omega)
          · rw [jU_ne (by decide), g3.1 6 (by decide)]; exact x6' j hj
      · rw [if_pos rfl]
        exact y0 k _ _ k0 i2 (Or.inr ⟨by omega, by rw [ec]; exact o, by rw [ec]⟩) (jXf_bad i3 g1)
    · rw [if_neg b]
      refine hk _ _ ⟨by omega, k, k0, by omega, ?_, i2, i3, i4, i5, i6, i7, i8, i9, i10⟩ (by omega)
      rw [jSn_hid hs (by omega) (by omega)]; exact sk
/-- only the model's reader and its grids have gone on -/
def jGoG (D D' : jC) : Prop := (∀ b, b ≠ 345 → b ≠ 353 → D' b = D b) ∧ (∀ j, j ≠ 7 → j ≠ 9 → j ≠ 10 → j ≠ 16 → D' 345 j = D 345 j)
theorem jGoG_r (C : jC) : jGoG C C := ⟨fun _ _ _ => rfl, fun _ _ _ _ _ => rfl⟩
theorem jGoG_t {A B C : jC} (h : jGoG A B) (h' : jGoG B C) : jGoG A C := ⟨fun b h1 h2 => by rw [h'.1 b h1 h2, h.1 b h1 h2], fun j a b c d => by rw [h'.2 j a b c d, h.2 j a b c d]⟩
theorem jGoG_M {A B : jC} (h : jGoM A B) : jGoG A B := ⟨fun b h1 _ => h.1 b h1, fun j a b c _ => h.2 j a b c⟩
theorem jGoG_N {A B : jC} (h : jGoN A B) : jGoG A B := jGoG_M (jGoN_M h)
theorem jGoG_3 (C : jC) (k v : Int) : jGoG C (jU C 353 k v) := ⟨fun b _ h2 => jU_ne h2, fun j _ _ _ _ => by rw [jU_ne (by decide)]⟩
theorem jGoG_16 (C : jC) (v : Int) : jGoG C (jU C 345 16 v) := ⟨fun b h1 _ => jU_ne h1, fun j _ _ _ h => by rw [jU_at, if_pos rfl, if_neg h]⟩
theorem jML_G {T : Int → Int} {m p x : Int} {D D' : jC} (h : jML T m p D) (g : jGoG D D') (hx : D' 345 7 = x) (x0 : 0 ≤ x) (x1 : x ≤ m) : jML T m x D' := by
  obtain ⟨a1, a2, a3, a4, a5, a6⟩ := h
  exact ⟨by rw [g.2 8 (by decide) (by decide) (by decide) (by decide)]; exact a1, hx, x0, x1, a5, by rw [g.1 349 (by decide) (by decide)]; exact a6⟩
/-- one cell of a grid, read by the model -/
theorem sp_mG1 {T : Int → Int} {m p x N r k v c : Int} {cr cx cy : Int → Int → Int} (F : jCellF T m cr cx cy) {κ hd sn w : Int → Int} (hκ : ∀ c, 0 ≤ c → c < 5 → κ c = 0 ∨ κ c = 1) (wκ : ∀ c, 0 ≤ c → c < 5 → w (4 + c) = κ c) (hN : w 0 = N) (N5 : N ≤ 5) (hh : ∀ c, 0 ≤ c → c < 5 → (hd c = 0 ∨ hd c = 1) ∧ ∀ D : jC, D 346 = w → jDet (wp_12_isHidden v c D) (hd c)) (hs : ∀ c, jSn hd N c (sn c)) (r0 : 0 ≤ r) (r12 : r < 12) (k0 : 0 ≤ k) (k5 : k < 5) (c0 : 0 ≤ c) (p0 : 0 ≤ p) (p1 : p ≤ m)
    {D : jC} (hw : D 346 = w) (h16 : D 345 16 = r) (hD : jML T m x D) (hx : jBl T m x = jBl T m p) {post : Int → jC → Prop} {K : Int → Int → jC → Prop}
    (yK : c < N → cr (κ c) p = 1 → jBl T m (cx (κ c) p) < m → T (jBl T m (cx (κ c) p)) = 44 → ∀ D', jGoG D D' → D' 345 16 = r → jML T m (jBl T m (cx (κ c) p) + 1) D' → D' 353 = jSet (D 353) (6 * r + 1 + k) (cy (κ c) p) → K (k + 1) (sn (c + 1)) D')
    (y1 : c < N → cr (κ c) p = 1 → ¬ (jBl T m (cx (κ c) p) < m ∧ T (jBl T m (cx (κ c) p)) = 44) → ∀ D', jGoG D D' → D' 345 16 = r + 1 → jML T m (jBl T m (cx (κ c) p)) D' → D' 353 = jSet (jSet (D 353) (6 * r + 1 + k) (cy (κ c) p)) (6 * r) (k + 1) → post 1 D')
    (y0 : ((N ≤ c ∧ ∀ D', jGoG D D' → D' 345 9 = jBl T m p → post 0 D') ∨ (c < N ∧ (cr (κ c) p = 0 → ∀ D', jGoG D D' → D' 345 9 = cx (κ c) p → post 0 D')))) : wp_12_readGrid_14 v (6 * r) post K k c D := by
  have m4 := hD.2.2.2.2.1
  have xb := jBl_m hD
  unfold wp_12_readGrid_14
  refine sp_mBlanks hD (fun D1 d1 d7 d9 => ?_)
  have l1 : jML T m (jBl T m p) D1 := by rw [← hx]; exact jML_goN hD d1 d7 (by have := hD.2.2.1; omega) xb.2
  have w1 : D1 346 = w := by rw [d1.1 346 (by decide)]; exact hw
  unfold wp_12_columns
  dsimp only
  rw [w1, hN]
  by_cases a : N ≤ c
  · rw [if_pos a]
    rcases y0 with ⟨-, q⟩ | ⟨q, -⟩
    · exact q D1 (jGoG_N d1) (by rw [d9, hx])
    · omega
  · rw [if_neg a]
    refine sp_mCellB F p0 p1 (hκ c c0 (by omega)) l1 c0 (by omega) (by rw [w1]; exact wκ c c0 (by omega)) (fun o D2 g2 l2 v2 => ?_) (fun o D2 g2 l2 => ?_)
    · rw [if_neg (by decide), v2]
      refine ⟨by omega, by omega, ?_⟩
      generalize hX : jU D2 353 (6 * r + 1 + k) (cy (κ c) p) = X
      have gX : jGoG D2 X := by rw [← hX]; exact jGoG_3 _ _ _
      have x345 : X 345 = D2 345 := by rw [← hX, jU_ne (by decide)]
      have lX : jML T m (cx (κ c) p) X := jML_G l2 gX (by rw [x345]; exact l2.2.1) l2.2.2.1 l2.2.2.2.1
      have wX : X 346 = w := by rw [gX.1 346 (by decide) (by decide), g2.1 346 (by decide)]; exact w1
      have s16 : X 345 16 = r := by rw [x345, g2.2 16 (by decide) (by decide) (by decide), d1.2 16 (by decide) (by decide)]; exact h16
      have x353 : X 353 = jSet (D 353) (6 * r + 1 + k) (cy (κ c) p) := by rw [← hX, jU_S, jV_eq, g2.1 353 (by decide), d1.1 353 (by decide)]
      have gDX : jGoG D X := jGoG_t (jGoG_N d1) (jGoG_t (jGoG_M g2) gX)
      refine sp_seen hN N5 hh hs (by omega) wX _ ?_
      refine sp_mSign lX (fun q1 q2 D3 g3 l3 => ?_) (fun q D3 g3 l3 b3 => ?_)
      · rw [if_neg (by decide)]
        exact ⟨⟨by omega, by omega⟩, yK (by omega) o q1 q2 D3 (jGoG_t gDX (jGoG_N g3)) (by rw [g3.2 16 (by decide) (by decide)]; exact s16) l3 (by rw [g3.1 353 (by decide)]; exact x353)⟩
      · rw [if_pos rfl]
        have e16 : jU D3 353 (6 * r) (k + 1) 345 16 = r := by rw [jU_ne (by decide), g3.2 16 (by decide) (by decide)]; exact s16
        rw [e16]
        refine ⟨by omega, by omega, ⟨by omega, by omega⟩, ⟨by omega, by omega⟩, ?_⟩
        have gF : jGoG D3 (jU (jU D3 353 (6 * r) (k + 1)) 345 16 (r + 1)) := jGoG_t (jGoG_3 _ _ _) (jGoG_16 _ _)
        refine y1 (by omega) o q _ (jGoG_t gDX (jGoG_t (jGoG_N g3) gF)) (by rw [jU_at, if_pos rfl, if_pos rfl]) (jML_G l3 gF ?_ l3.2.2.1 l3.2.2.2.1) ?_
        · rw [jU_at, if_pos rfl, if_neg (by decide), jU_ne (by decide)]; exact l3.2.1
        · rw [jU_ne (by decide), jU_S, jV_eq, g3.1 353 (by decide), x353]
    · rw [if_pos rfl]
      rcases y0 with ⟨q, -⟩ | ⟨q, z⟩
      · omega
      · exact z o D2 (jGoG_t (jGoG_N d1) (jGoG_M g2)) l2

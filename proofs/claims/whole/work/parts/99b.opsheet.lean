theorem rAll_tx {C D : jC} {K K' : Int} (h : rAll C K) (hk : K ≤ K') (d : ∀ b, ¬ (1 ≤ b ∧ b < 347) → ¬ (348 ≤ b ∧ b < 357) → D b = C b) (d11 : D 1 1 = 0) (d6 : D 345 6 = 0) (d4 : D 1 4 = D 345 11) (di : D 345 4 = C 345 4) (hs : rS 35 D (D 346)) (h2 : D 346 2 ≤ K') : rAll D K' := by
  obtain ⟨a1, a2, a3, a4, a5, a6, a7, a8⟩ := h
  unfold rAll
  rw [d11, d6, d4, d 347 (by omega) (by omega), d 0 (by omega) (by omega), di]
  refine ⟨rfl, by omega, by omega, fun i i0 i1 => by omega, rfl, hs, h2, ?_⟩
  rcases a8 with w | ⟨w1, w2, w3, w4⟩
  · exact Or.inl w
  · exact Or.inr ⟨w1, w2, rS_keep (fun b hb => d b (by unfold rOwn at hb; omega) (by unfold rOwn at hb; omega)) w3, by omega⟩
theorem sp_keeps {D : jC} {post : jC → Prop} (y : ∀ D', (∀ b, b ≠ 348 → D' b = D b) → (∀ j, 0 ≤ j → j < 8954 → D' 348 j = D 346 j) → post D') : wp_12_keepsAll D post := by
  unfold wp_12_keepsAll
  refine jL2_of (fun k E => 0 ≤ k ∧ k ≤ 8954 ∧ (∀ b, b ≠ 348 → E b = D b) ∧ ∀ j, 0 ≤ j → j < k → E 348 j = D 346 j) (fun k _ => (8954 - k).toNat) (fun K k E hi hk => ?_) ⟨by omega, by omega, fun _ _ => rfl, fun j a b => by omega⟩
  obtain ⟨i0, i1, g1, g2⟩ := hi
  unfold wp_12_keepsAll_2
  by_cases a : 8954 ≤ k
  · rw [if_pos a]
    exact y E g1 (fun j j0 j1 => g2 j j0 (by omega))
  · rw [if_neg a]
    refine ⟨i0, hk _ _ ⟨by omega, by omega, fun b hb => by rw [jU_ne hb, g1 b hb], fun j j0 j1 => ?_⟩ (by omega)⟩
    rw [jU_at, if_pos rfl]
    by_cases e : j = k
    · rw [if_pos e, g1 346 (by decide), e]
    · rw [if_neg e]; exact g2 j j0 (by omega)
theorem sp_brings {D : jC} {post : jC → Prop} (y : ∀ D', (∀ b, b ≠ 346 → D' b = D b) → (∀ j, 0 ≤ j → j < 8954 → D' 346 j = D 348 j) → post D') : wp_12_bringsBack D post := by
  unfold wp_12_bringsBack
  refine jL2_of (fun k E => 0 ≤ k ∧ k ≤ 8954 ∧ (∀ b, b ≠ 346 → E b = D b) ∧ ∀ j, 0 ≤ j → j < k → E 346 j = D 348 j) (fun k _ => (8954 - k).toNat) (fun K k E hi hk => ?_) ⟨by omega, by omega, fun _ _ => rfl, fun j a b => by omega⟩
  obtain ⟨i0, i1, g1, g2⟩ := hi
  unfold wp_12_bringsBack_2
  by_cases a : 8954 ≤ k
  · rw [if_pos a]
    exact y E g1 (fun j j0 j1 => g2 j j0 (by omega))
  · rw [if_neg a]
    refine ⟨i0, hk _ _ ⟨by omega, by omega, fun b hb => by rw [jU_ne hb, g1 b hb], fun j j0 j1 => ?_⟩ (by omega)⟩
    rw [jU_at, if_pos rfl]
    by_cases e : j = k
    · rw [if_pos e, g1 348 (by decide), e]
    · rw [if_neg e]; exact g2 j j0 (by omega)
theorem sp_isRight0 {D : jC} {post : Int → jC → Prop} (y : ∀ D', (∀ b, b ≠ 345 → b ≠ 346 → D' b = D b) → (∀ j, j ≠ 11 → D' 345 j = D 345 j) → D' 345 11 = D 345 9 → (∀ j, 0 ≤ j → j < 8954 → D' 346 j = D 348 j) → post 0 D') : wp_12_isRight 0 D post := by
  unfold wp_12_isRight
  rw [if_pos rfl, if_pos rfl]
  refine sp_brings (fun D' g1 g2 => ⟨Or.inl rfl, y D' (fun b h1 h2 => by rw [g1 b h2, jU_ne h1]) (fun j hj => by rw [g1 345 (by decide), jU_at, if_pos rfl, if_neg hj]) (by rw [g1 345 (by decide), jU_at, if_pos rfl, if_pos rfl]) (fun j j0 j1 => by rw [g2 j j0 j1, jU_ne (by decide)])⟩)
theorem sp_isRight1 {D : jC} {post : Int → jC → Prop} (y : post 1 (jU D 345 11 (-1))) : wp_12_isRight 1 D post := by
  unfold wp_12_isRight
  rw [if_neg (by decide), if_neg (by decide)]
  exact ⟨Or.inr rfl, y⟩
/-- the tape used up, by the model -/
def jUse (D : jC) : jC := jU (jU (jU (jU D 345 0 0) 345 8 ((jU D 345 0 0) 345 6)) 345 6 0) 345 7 0
theorem jUse_b {D : jC} {b : Int} (h : b ≠ 345) : jUse D b = D b := by unfold jUse; rw [jU_ne h, jU_ne h, jU_ne h, jU_ne h]
theorem jUse_s (D : jC) : jUse D 345 0 = 0 ∧ jUse D 345 8 = D 345 6 ∧ jUse D 345 6 = 0 ∧ jUse D 345 7 = 0 ∧ jUse D 345 4 = D 345 4 := by
  unfold jUse
  simp only [jU_at]
  exact ⟨by simp, by simp, by simp, by simp, by simp⟩
/-- the class's tape used up, and a text opened -/
def jOpn (C : jC) : jC := jU (jU (jU (jU C 1 2 (C 1 1)) 1 1 0) 1 3 0) 1 4 (-1)
theorem jOpn_b {C : jC} {b : Int} (h : b ≠ 1) : jOpn C b = C b := by unfold jOpn; rw [jU_ne h, jU_ne h, jU_ne h, jU_ne h]
theorem jOpn_s (C : jC) : jOpn C 1 1 = 0 ∧ jOpn C 1 2 = C 1 1 ∧ jOpn C 1 3 = 0 ∧ jOpn C 1 4 = -1 := by
  unfold jOpn
  simp only [jU_at]
  exact ⟨by simp, by simp, by simp, by simp⟩
def jKnC (C : jC) : jC := jU (jCpy (jU C 3 0 (C 36 0)) 37 0 4 0 5) 3 2 0
theorem jKnC_b {C : jC} {b : Int} (h3 : b ≠ 3) (h4 : b ≠ 4) : jKnC C b = C b := by unfold jKnC; rw [jU_ne h3, jCpy_ne h4, jU_ne h3]
theorem jKnC_s (C : jC) : jKnC C 3 0 = C 36 0 ∧ jKnC C 3 2 = 0 ∧ ∀ c, 0 ≤ c → c < 5 → jKnC C 4 c = C 37 c := by
  unfold jKnC
  refine ⟨by rw [jU_at, if_pos rfl, if_neg (by decide), jCpy_ne (by decide), jU_at, if_pos rfl, if_pos rfl], by rw [jU_at, if_pos rfl, if_pos rfl], fun c c0 c1 => ?_⟩
  rw [jU_ne (by decide), jCpy_f c0 c1, jU_ne (by decide)]
/-- a text begins: what the class's reader and the model's have before them -/
theorem r_open {C : jC} {K : Int} (h : rAll C K) : jCL (C 349) (C 345 6) 0 (jOpn C) := by
  obtain ⟨a1, a2, a3, a4, a5, a6, a7, a8⟩ := h
  obtain ⟨s1, s2, s3, s4⟩ := jOpn_s C
  refine ⟨by rw [s2, a1], s3, by omega, a2, a3, fun i i0 i1 => ?_⟩
  rw [jOpn_b (by decide)]
  have := a4 i i0 i1
  exact ⟨this.2.2, this.1, this.2.1⟩
/-- also of a line that is right, and wrong behind -/
theorem jAp_ln {T : Int → Int} {m r0 k q : Int} {cr cx cy : Int → Int → Int} {C e e' : jC} {w : Int → Int} (h : rS 35 C w) (F : jCellF T m cr cx cy) (hd : jSd T m r0 k e) (ln : jLnA T m e e' q ∨ jLnR T m cr cx cy r0 e e' q) (hr : r0 = w 273) (hs : (w 0 = e' 3 0 ∧ ∀ c, 0 ≤ c → c < 5 → w (4 + c) = e' 4 c) ∨ w 0 = 0) : ∃ W, jAp e' w W := by
  -- the reader's own cells do not matter
  have h8 := hd.2.2.2.2.2.2.2.1
  have hq := jLn_q F hd ln
  obtain ⟨e2, he2⟩ : ∃ e2 : jC, e2 = fun b => if b = 1 then e 1 else if b = 2 then e 2 else e' b := ⟨_, rfl⟩
  have b1 : e2 1 = e 1 := by rw [he2]; rfl
  have b2 : e2 2 = e 2 := by rw [he2]; rfl
  have bx : ∀ b, b ≠ 1 → b ≠ 2 → e2 b = e' b := fun b h1 h2 => by rw [he2]; dsimp only; rw [if_neg h1, if_neg h2]
  have cl : jCL T m (e2 1 3) e2 := by
    rw [b1]
    obtain ⟨a1, a2, a3, a4, a5, a6⟩ := h8
    exact ⟨by rw [b1]; exact a1, by rw [b1], a3, a4, a5, fun i i0 i1 => by rw [b2]; exact a6 i i0 i1⟩
  have ln2 : jLnA T m e e2 q ∨ jLnR T m cr cx cy r0 e e2 q := by
    unfold jLnA jLnR at *
    rw [bx 3 (by decide) (by decide), bx 4 (by decide) (by decide), bx 5 (by decide) (by decide), bx 6 (by decide) (by decide)]
    exact ln
  have sd : jSd T m r0 (k + 1) e2 := by
    rcases ln2 with z | z
    · exact jLnA_sd hd z cl
    · exact jLnR_sd F hd z cl
  obtain ⟨W, ap, -⟩ := jAp_ex h sd hr (by rw [bx 3 (by decide) (by decide), bx 4 (by decide) (by decide)]; exact hs)
  refine ⟨W, ?_⟩
  unfold jAp at ap ⊢
  rw [bx 3 (by decide) (by decide), bx 4 (by decide) (by decide), bx 6 (by decide) (by decide)] at ap
  exact ap
theorem op_sheet {C : jC} {K : Int} (h : rAll C K) (hK : K < 800000) : wp_11_sheet C (fun E C1 => (E = jIAE ∧ oM wp_12_sheet (K + 14) 1 C1) ∨ (E = jUOE ∧ oM wp_12_sheet (K + 14) 2 C1)) (fun r C1 => oR wp_12_sheet (K + 14) r C1) := by
  have hs := r_now h
  obtain ⟨k1, k2, k3, k4⟩ := r_cols hs
  obtain ⟨o1, o2, o3, o4, o5⟩ := r_ord hs
  have hk2 := h.2.2.2.2.2.2.1
  have t6 := hs.1.2.2.2.1
  have t60 := hs.1.2.2.2.2.1
  have t61 := hs.1.2.2.2.2.2.1
  simp only [Int.reduceAdd] at t6
  generalize hT : C 349 = T at *
  generalize hm : C 345 6 = m at *
  have ho := r_open h
  rw [hT, hm] at ho
  have m4 : m ≤ 400 := ho.2.2.2.2.1
  have m0 : 0 ≤ m := ho.2.2.2.1
  obtain ⟨cr, cx, cy, F⟩ := sp_cellF T m4
  generalize hw : C 346 = w at *
  -- what the class knows, as the text begins
  have sC := jKnC_s (jOpn C)
  have kb : ∀ b, ¬ (1 ≤ b ∧ b < 35) → jKnC (jOpn C) b = C b := fun b hb => by rw [jKnC_b (by omega) (by omega), jOpn_b (by omega)]
  have x0 : jXt (jOpn C) (jKnC (jOpn C)) := ⟨fun b hb => jKnC_b (by omega) (by omega), by rw [jKnC_b (by decide) (by decide)], by rw [jKnC_b (by decide) (by decide)], jKnC_b (by decide) (by decide), by rw [jKnC_b (by decide) (by decide)]⟩
  have cl0 : jCL T m 0 (jKnC (jOpn C)) := jCL_tx ho x0 (by rw [jKnC_b (by decide) (by decide)]; exact (jOpn_s C).2.2.1) (by omega) m0
  have sd0 : ∀ C4, jGo3 (jKnC (jOpn C)) C4 → jCL T m (jBl T m 0) C4 → jSd T m (w 273) 0 C4 ∧ C4 3 0 = w 0 ∧ C4 3 2 = 0 ∧ (∀ c, 0 ≤ c → c < 5 → C4 4 c = w (4 + c)) := by
    intro C4 g c4
    have e3 : C4 3 = jKnC (jOpn C) 3 := g.1 3 (by decide)
    have e4 : C4 4 = jKnC (jOpn C) 4 := g.1 4 (by decide)
    have n0 : C4 3 0 = w 0 := by rw [e3, sC.1, jOpn_b (by decide), k1]
    have r0 : C4 3 2 = 0 := by rw [e3, sC.2.1]
    have kk : ∀ c, 0 ≤ c → c < 5 → C4 4 c = w (4 + c) := fun c c0 c1 => by rw [e4, sC.2.2 c c0 c1, jOpn_b (by decide)]; exact (r_kind hs c0 c1).1
    refine ⟨⟨by omega, by omega, fun c c0 c1 => by rw [kk c c0 c1]; exact (r_kind hs c0 c1).2, by omega, by omega, by omega, by omega, by rw [c4.2.1]; exact c4, fun r r0 r1 => by omega⟩, n0, r0, kk⟩
  -- the model's beginning
  have ms : ∀ (D : jC) (post : Int → jC → Prop), (∀ b, ¬ (1 ≤ b ∧ b < 339) → D b = C b) → (∀ D2, (∀ b, b ≠ 345 → b ≠ 348 → D2 b = D b) → D2 345 0 = 0 → D2 345 6 = 0 → D2 345 4 = C 345 4 → jML T m 0 D2 → D2 346 = w → (∀ j, 0 ≤ j → j < 8954 → D2 348 j = w j) → wp_12_readSheet D2 (fun x34 C35 => wp_12_isRight x34 C35 (fun x38 C39 => if x38 = 0 then wp_12_sheet_25 1 C39 post else wp_12_sheet_25 0 C39 post))) → wp_12_sheet D post := by
    intro D post dC y
    unfold wp_12_sheet wp_12_uses
    obtain ⟨u0, u8, u6, u7, u4⟩ := jUse_s D
    refine sp_keeps (fun D2 g1 g2 => ?_)
    have e345 : D2 345 = jUse D 345 := g1 345 (by decide)
    refine y D2 (fun b h1 h2 => by rw [g1 b h2]; exact jUse_b h1) (by rw [e345]; exact u0) (by rw [e345]; exact u6) (by rw [e345, u4, dC 345 (by omega)]) ⟨by rw [e345, u8, dC 345 (by omega), hm], by rw [e345]; exact u7, by omega, m0, m4, ?_⟩ ?_ (fun j j0 j1 => ?_)
    · rw [g1 349 (by decide)]
      show jUse D 349 = T
      rw [jUse_b (by decide), dC 349 (by omega), hT]
    · rw [g1 346 (by decide)]
      show jUse D 346 = w
      rw [jUse_b (by decide), dC 346 (by omega), hw]
    · rw [g2 j j0 j1]
      show jUse D 346 j = w j
      rw [jUse_b (by decide), dC 346 (by omega), hw]
  -- a wrong text
  have bad : ∀ (C1 : jC) (x : Int), jXf (jKnC (jOpn C)) C1 x → (∀ (D2 : jC) (post : Int → jC → Prop), jML T m 0 D2 → D2 346 = w → (∀ D', jGoW D2 D' → D' 345 9 = x → post 0 D') → wp_12_readSheet D2 post) → oM wp_12_sheet (K + 14) 1 C1 := by
    intro C1 x g1 y
    have c1C : ∀ b, ¬ (1 ≤ b ∧ b < 35) → C1 b = C b := fun b hb => by rw [g1.1 b hb, kb b hb]
    unfold oM
    refine ms C1 _ (fun b hb => c1C b (by omega)) (fun D2 e1 e0 e6 ei eL ew e8 => ?_)
    refine y D2 _ eL ew (fun D' d1 d9 => ?_)
    refine sp_isRight0 (fun D3 f1 f2 f3 f4 => ?_)
    rw [if_pos rfl]
    unfold wp_12_sheet_25
    rw [sp_throws1, if_neg (by decide)]
    have fb : ∀ b, b ≠ 345 → b ≠ 346 → b ≠ 348 → jU D3 345 0 1 b = C1 b := fun b h1 h2 h3 => by rw [jU_ne h1, f1 b h1 h2, d1.1 b h1 h2, e1 b h1 h3]
    have f345 : ∀ j, j ≠ 0 → j ≠ 7 → j ≠ 9 → j ≠ 10 → j ≠ 11 → jU D3 345 0 1 345 j = D2 345 j := fun j h0 h1 h2 h3 h4 => by rw [jU_at, if_pos rfl, if_neg h0, f2 j h4, d1.2 j h1 h2 h3]
    have w3 : ∀ j, 0 ≤ j → j < 8954 → jU D3 345 0 1 346 j = w j := fun j j0 j1 => by rw [jU_ne (by decide), f4 j j0 j1, d1.1 348 (by decide) (by decide), e8 j j0 j1]
    refine ⟨m0_0 _ _, rAll_tx h (by omega) (fun b b1 b2 => ?_) ?_ ?_ ?_ ?_ ?_ ?_⟩
    · by_cases e : b = 357 ∨ b ≠ 357
      · rw [fb b (by omega) (by omega) (by omega), c1C b (by omega)]
      · omega
    · rw [fb 1 (by decide) (by decide) (by decide), g1.2.1, jKnC_b (by decide) (by decide)]; exact (jOpn_s C).1
    · rw [f345 6 (by decide) (by decide) (by decide) (by decide) (by decide)]; exact e6
    · rw [fb 1 (by decide) (by decide) (by decide), g1.2.2, jU_at, if_pos rfl, if_neg (by decide), f3, d9]
    · rw [f345 4 (by decide) (by decide) (by decide) (by decide) (by decide)]; exact ei
    · refine rS_w (w := w) (rS_keep (C := C) (fun b hb => ?_) hs) w3
      unfold rOwn at hb
      rw [fb b (by omega) (by omega) (by omega), c1C b (by omega)]
    · rw [w3 2 (by omega) (by omega)]; omega
  -- a right text: what the class has read, and how the model goes through it
  have good : ∀ (C5 : jC) (k : Int), 0 ≤ k → k ≤ 14 → jXt (jKnC (jOpn C)) C5 → jSd T m (w 273) k C5 → ((w 0 = C5 3 0 ∧ ∀ c, 0 ≤ c → c < 5 → w (4 + c) = C5 4 c) ∨ (w 0 = 0 ∧ C5 3 0 ≠ 0)) → (∀ (D2 : jC) (W : Int → Int → Int) (post : Int → jC → Prop), jML T m 0 D2 → D2 346 = w → jAp C5 w W → (∀ D', jGoW D2 D' → D' 346 = jWl C5 w W → post 1 D') → wp_12_readSheet D2 post) →
      (if C5 36 6 < 12 then wp_8_takeSheetText 35 C5 (fun C12 => oR wp_12_sheet (K + 14) (C12 36 6) C12) else ((jUOE = jIAE ∧ oM wp_12_sheet (K + 14) 1 C5) ∨ (jUOE = jUOE ∧ oM wp_12_sheet (K + 14) 2 C5))) := by
    intro C5 k kk0 k14 x5 sd5 hsw y
    obtain ⟨a1, a2, a3, a4, a5, a6, a7, a8, a9⟩ := id sd5
    have c5C : ∀ b, ¬ (1 ≤ b ∧ b < 35) → C5 b = C b := fun b hb => by rw [x5.1 b hb, kb b hb]
    have r5 : rS 35 C5 w := rS_keep (fun b hb => by unfold rOwn at hb; exact c5C b (by omega)) hs
    have c11 : C5 1 1 = 0 := by rw [x5.2.1, jKnC_b (by decide) (by decide)]; exact (jOpn_s C).1
    have c14 : C5 1 4 = -1 := by rw [x5.2.2.2.2, jKnC_b (by decide) (by decide)]; exact (jOpn_s C).2.2.2
    have hsw' : (w 0 = C5 3 0 ∧ ∀ c, 0 ≤ c → c < 5 → w (4 + c) = C5 4 c) ∨ w 0 = 0 := by
      rcases hsw with z | z
      · exact Or.inl z
      · exact Or.inr z.1
    have wl : ∀ W, jAp C5 w W → jWl C5 w W = W (C5 3 2) := by
      intro W ap
      unfold jWl
      by_cases z : C5 3 0 = 0
      · rw [if_pos z, a7 z, ap.1]
        rcases hsw with ⟨q1, q2⟩ | q
        · funext t
          unfold jKnW
          by_cases e1 : t = 0
          · rw [if_pos e1, e1, q1]
          rw [if_neg e1]
          by_cases e2 : 4 ≤ t ∧ t < 9
          · rw [if_pos e2, ← q2 (t - 4) (by omega) (by omega)]
            congr 1; omega
          rw [if_neg e2]
        · exact absurd z q.2
      · rw [if_neg z]
    by_cases c : C5 36 6 < 12
    · rw [if_pos c]
      have c6 : C5 36 6 = w 1 := by rw [c5C 36 (by omega)]; exact t6
      refine sp_takeSheet r5 (n := C5 3 0) (R := C5 3 2) rfl ⟨a1, a2⟩ rfl a4 (by omega) a3 (by rcases hsw' with z | z; exact Or.inl z; exact Or.inr z) a7 (by omega) (by omega) (by omega) a9 (fun W G g1 g2 g3 g4 g5 g6 => ?_)
      have ap : jAp C5 w W := ⟨g1, g2, g3⟩
      have gC : ∀ b, ¬ (1 ≤ b ∧ b < 339) → G b = C b := fun b hb => by rw [g5 b (by omega), c5C b (by omega)]
      unfold oR
      rw [g6]
      refine ms G _ gC (fun D2 e1 e0 e6 ei eL ew e8 => ?_)
      refine y D2 W _ eL ew ap (fun D' d1 d2 => ?_)
      rw [wl W ap] at d2
      refine sp_isRight1 ?_
      rw [if_neg (by decide)]
      unfold wp_12_sheet_25
      have W1 : (W (C5 3 2)) 1 = w 1 := (g3 (C5 3 2) a4 (Int.le_refl _)).2.2.1
      have W2 : (W (C5 3 2)) 2 = w 2 + C5 3 2 := (g3 (C5 3 2) a4 (Int.le_refl _)).2.1
      have q346 : jU D' 345 11 (-1) 346 = W (C5 3 2) := by rw [jU_ne (by decide), d2]
      rw [sp_throws0, if_pos rfl, q346, W1, if_neg (by omega)]
      unfold wp_12_sheet_51
      rw [sp_throws0, if_pos rfl, q346, W1]
      have fin : jU (jU D' 345 11 (-1)) 346 1 (w 1 + 1) 346 = jSet (W (C5 3 2)) 1 (w 1 + 1) := by rw [jU_S, jV_eq, q346]
      have fb : ∀ b, b ≠ 345 → b ≠ 346 → b ≠ 348 → jU (jU D' 345 11 (-1)) 346 1 (w 1 + 1) b = G b := fun b h1 h2 h3 => by rw [jU_ne h2, jU_ne h1, d1.1 b h1 h2, e1 b h1 h3]
      have f345 : ∀ j, j ≠ 7 → j ≠ 9 → j ≠ 10 → j ≠ 11 → jU (jU D' 345 11 (-1)) 346 1 (w 1 + 1) 345 j = D2 345 j := fun j h1 h2 h3 h4 => by rw [jU_ne (by decide), jU_at, if_pos rfl, if_neg h4, d1.2 j h1 h2 h3]
      refine ⟨⟨by omega, by omega⟩, by rw [f345 0 (by decide) (by decide) (by decide) (by decide)]; exact e0, by rw [fin, jSet_eq], rAll_tx h (by omega) (fun b b1 b2 => by rw [fb b (by omega) (by omega) (by omega), gC b (by omega)]) ?_ ?_ ?_ ?_ ?_ ?_⟩
      · rw [fb 1 (by decide) (by decide) (by decide), g5 1 (by omega)]; exact c11
      · rw [f345 6 (by decide) (by decide) (by decide) (by decide)]; exact e6
      · rw [fb 1 (by decide) (by decide) (by decide), g5 1 (by omega), jU_ne (by decide), jU_at, if_pos rfl, if_pos rfl]
        exact c14
      · rw [f345 4 (by decide) (by decide) (by decide) (by decide)]; exact ei
      · rw [fin]
        refine rS_keep (C := G) (fun b hb => ?_) g4
        unfold rOwn at hb
        exact fb b (by omega) (by omega) (by omega)
      · rw [fin, jSet_ne (by decide), W2]; omega
    · rw [if_neg c]
      refine Or.inr ⟨rfl, ?_⟩
      have c6 : C5 36 6 = w 1 := by rw [c5C 36 (by omega)]; exact t6
      obtain ⟨W, ap, -⟩ := jAp_ex r5 sd5 rfl hsw'
      unfold oM
      refine ms C5 _ (fun b hb => c5C b (by omega)) (fun D2 e1 e0 e6 ei eL ew e8 => ?_)
      refine y D2 W _ eL ew ap (fun D' d1 d2 => ?_)
      rw [wl W ap] at d2
      refine sp_isRight1 ?_
      rw [if_neg (by decide)]
      unfold wp_12_sheet_25
      have W1 : (W (C5 3 2)) 1 = w 1 := (ap.2.2 (C5 3 2) a4 (Int.le_refl _)).2.2.1
      have q346 : jU D' 345 11 (-1) 346 = W (C5 3 2) := by rw [jU_ne (by decide), d2]
      rw [sp_throws0, if_pos rfl, q346, W1, if_pos (by omega)]
      unfold wp_12_sheet_51
      rw [sp_throws1, if_neg (by decide)]
      refine sp_brings (fun D3 f1 f2 => ?_)
      have fb : ∀ b, b ≠ 345 → b ≠ 346 → b ≠ 348 → D3 b = C5 b := fun b h1 h2 h3 => by rw [f1 b h2, jU_ne h1, jU_ne h1, d1.1 b h1 h2, e1 b h1 h3]
      have f345 : ∀ j, j ≠ 0 → j ≠ 7 → j ≠ 9 → j ≠ 10 → j ≠ 11 → D3 345 j = D2 345 j := fun j h0 h1 h2 h3 h4 => by rw [f1 345 (by decide), jU_at, if_pos rfl, if_neg h0, jU_at, if_pos rfl, if_neg h4, d1.2 j h1 h2 h3]
      have w3 : ∀ j, 0 ≤ j → j < 8954 → D3 346 j = w j := fun j j0 j1 => by rw [f2 j j0 j1, jU_ne (by decide), jU_ne (by decide), d1.1 348 (by decide) (by decide), e8 j j0 j1]
      refine ⟨by rw [f1 345 (by decide)]; exact m0_0 _ _, rAll_tx h (by omega) (fun b b1 b2 => by rw [fb b (by omega) (by omega) (by omega), c5C b (by omega)]) ?_ ?_ ?_ ?_ ?_ ?_⟩
      · rw [fb 1 (by decide) (by decide) (by decide)]; exact c11
      · rw [f345 6 (by decide) (by decide) (by decide) (by decide) (by decide)]; exact e6
      · rw [fb 1 (by decide) (by decide) (by decide), f1 345 (by decide), jU_at, if_pos rfl, if_neg (by decide), jU_at, if_pos rfl, if_pos rfl]
        exact c14
      · rw [f345 4 (by decide) (by decide) (by decide) (by decide) (by decide)]; exact ei
      · refine rS_w (w := w) (rS_keep (C := C) (fun b hb => ?_) hs) w3
        unfold rOwn at hb
        rw [fb b (by omega) (by omega) (by omega), c5C b (by omega)]
      · rw [w3 2 (by omega) (by omega)]; omega
  -- the class
  unfold wp_11_sheet wp_5_openText wp_5_useUp wp_5_openUsedText wp_9_readSheet wp_9_knowColumns
  rw [show (36 : Int) + 1 = 37 from rfl]
  refine sp_cOver cl0 (fun e1 C4 g4 c4 => ?_) (fun e1 C4 g4 c4 => ?_)
  · obtain ⟨sd, n0, r0, kk⟩ := sd0 C4 g4 c4
    rw [if_neg (by decide)]
    show (if (1 : Int) = 0 then _ else (if C4 36 6 < 12 then _ else _))
    rw [if_neg (by decide)]
    refine good C4 0 (by omega) (by omega) (jXt_go (jGo3_go g4)) sd (Or.inl ⟨n0.symm, fun c c0 c1 => (kk c c0 c1).symm⟩) (fun D2 W post eL ew ap y => ?_)
    unfold wp_12_readSheet
    refine sp_mBlanks eL (fun D3 d1 d7 d9 => ?_)
    have e8 : D3 345 8 = m := by rw [d1.2 8 (by decide) (by decide)]; exact eL.1
    rw [d7, e8, if_pos e1]
    refine y D3 (jGoW_N d1) ?_
    rw [d1.1 346 (by decide), ew]
    unfold jWl
    by_cases z : C4 3 0 = 0
    · rw [if_pos z]
    · rw [if_neg z, r0, ap.1]
      funext t
      unfold jKnW
      by_cases e1 : t = 0
      · rw [if_pos e1, e1, n0]
      rw [if_neg e1]
      by_cases e2 : 4 ≤ t ∧ t < 9
      · rw [if_pos e2, kk (t - 4) (by omega) (by omega)]
        congr 1; omega
      rw [if_neg e2]
  · obtain ⟨sd, n0, r0, kk⟩ := sd0 C4 g4 c4
    rw [if_pos rfl]
    have xt4 : jXt (jKnC (jOpn C)) C4 := jXt_go (jGo3_go g4)
    have r41 : C4 41 1 = w 273 := by rw [xt4.1 41 (by omega), kb 41 (by omega), o1]
    have mbeg : ∀ (D2 : jC) (post : Int → jC → Prop), jML T m 0 D2 → (∀ D3, jGoN D2 D3 → jML T m (C4 1 3) D3 → jL2 (wp_12_readSheet_19 post) 0 D3) → wp_12_readSheet D2 post := by
      intro D2 post eL y
      unfold wp_12_readSheet
      have hb := jBl_m eL
      refine sp_mBlanks eL (fun D3 d1 d7 d9 => ?_)
      have e8 : D3 345 8 = m := by rw [d1.2 8 (by decide) (by decide)]; exact eL.1
      rw [d7, e8, if_neg (by omega)]
      exact y D3 d1 (by rw [c4.2.1]; exact jML_goN eL d1 d7 hb.1 hb.2)
    have w0f : ∀ e : Int → jC, e 0 = C4 → ((e 0) 3 0 = 0 → w 0 = 0 ∧ ∀ c, 0 ≤ c → c < 5 → (e 0) 4 c = w (4 + c)) := fun e ee z => by rw [ee] at z ⊢; exact ⟨by omega, kk⟩
    have st : ∀ (e : Int → jC) (W : Int → Int → Int) (E : jC), e 0 = C4 → jAp E w W → jSub C4 E → w = jWl (e 0) w W := by
      intro e W E ee ap sub
      rw [ee]
      unfold jWl
      by_cases z : C4 3 0 = 0
      · rw [if_pos z]
      · rw [if_neg z, r0, ap.1]
        rcases sub.1 with q | ⟨q1, q2⟩
        · exact absurd q z
        · funext t
          unfold jKnW
          by_cases e1 : t = 0
          · rw [if_pos e1, e1, q1, n0]
          rw [if_neg e1]
          by_cases e2 : 4 ≤ t ∧ t < 9
          · rw [if_pos e2, q2 (t - 4) (by omega) (by omega), kk (t - 4) (by omega) (by omega)]
            congr 1; omega
          rw [if_neg e2]
    have hswf : ∀ E, jSub C4 E → 1 ≤ E 3 0 → ((w 0 = E 3 0 ∧ ∀ c, 0 ≤ c → c < 5 → w (4 + c) = E 4 c) ∨ (w 0 = 0 ∧ E 3 0 ≠ 0)) := by
      intro E sub n1
      rcases sub.1 with q | ⟨q1, q2⟩
      · exact Or.inr ⟨by omega, by omega⟩
      · exact Or.inl ⟨by omega, fun c c0 c1 => by rw [q2 c c0 c1, kk c c0 c1]⟩
    refine sp_cSheet F sd r41 o2 (fun e L C5 L0 L14 e0 tr sdL ln x5 sd5 => ?_) (fun e L C5 x L0 L14 e0 tr sdL why x5 => ?_)
    · rw [if_neg (by decide)]
      have sub0 := jTr_sub tr L.toNat 0 (by omega) (by omega)
      rw [show 0 + (L.toNat : Int) = L by omega, e0] at sub0
      have lsub := jLn_sub ln
      have subE := jSub_t sub0 lsub.1
      refine good C5 (L + 1) (by omega) (by omega) (jXt_t xt4 x5) sd5 (hswf C5 subE lsub.2) (fun D2 W post eL ew ap y => ?_)
      refine mbeg D2 post eL (fun D3 d1 d3 => ?_)
      refine sp_mTrace F L0 (by omega) tr lsub.1 ap (w0f e e0) rfl (by omega) k4 (by rw [e0]; exact d3) (by rw [d1.1 346 (by decide), ew]; exact st e W C5 e0 ap subE) (fun K D' g1 g2 g3 => ?_)
      refine sp_mLine1 F sdL (by omega) ln (jSub_r _) ap (fun z => ?_) rfl (by omega) k4 L0 L14 g2 g3 (fun z => by omega) (fun _ D4 q1 q2 => y D4 (jGoW_t (jGoW_N d1) (jGoW_t g1 q1)) q2) (fun z => by omega)
      have := jTr_first tr L0 (Int.le_refl _) z
      subst this
      exact w0f e e0 z
    · rw [if_pos rfl]
      refine Or.inl ⟨rfl, bad C5 x (jXf_tx xt4 x5) (fun D2 post eL ew y => ?_)⟩
      have sub0 := jTr_sub tr L.toNat 0 (by omega) (by omega)
      rw [show 0 + (L.toNat : Int) = L by omega, e0] at sub0
      refine mbeg D2 post eL (fun D3 d1 d3 => ?_)
      have hsL : (w 0 = (e L) 3 0 ∧ ∀ c, 0 ≤ c → c < 5 → w (4 + c) = (e L) 4 c) ∨ w 0 = 0 := by
        rcases sub0.1 with q | ⟨q1, q2⟩
        · exact Or.inr (by omega)
        · exact Or.inl ⟨by omega, fun c c0 c1 => by rw [q2 c c0 c1, kk c c0 c1]⟩
      have zL : (e L) 3 0 = 0 → w 0 = 0 ∧ ∀ c, 0 ≤ c → c < 5 → (e L) 4 c = w (4 + c) := by
        intro z
        have := jTr_first tr L0 (Int.le_refl _) z
        subst this
        exact w0f e e0 z
      rcases why with ⟨q1, q2⟩ | ⟨q1, q2⟩ | ⟨q1, q2, q3, e', q4⟩
      · obtain ⟨W, ap, -⟩ := jAp_ex hs sdL rfl hsL
        refine sp_mTrace F L0 L14 tr (jSub_r _) ap (w0f e e0) rfl (by omega) k4 (by rw [e0]; exact d3) (by rw [d1.1 346 (by decide), ew]; exact st e W (e L) e0 ap sub0) (fun K D' g1 g2 g3 => ?_)
        unfold wp_12_readSheet_19
        refine sp_mLetters g2 (fun D4 f1 f7 f9 => ?_)
        rw [if_pos q1]
        exact y D4 (jGoW_t (jGoW_N d1) (jGoW_t g1 (jGoW_N f1))) (by rw [f9, q2])
      · obtain ⟨W, ap, B, hB⟩ := jAp_ex hs sdL rfl hsL
        refine sp_mTrace F L0 L14 tr (jSub_r _) ap (w0f e e0) rfl (by omega) k4 (by rw [e0]; exact d3) (by rw [d1.1 346 (by decide), ew]; exact st e W (e L) e0 ap sub0) (fun K D' g1 g2 g3 => ?_)
        exact sp_mLineF F sdL (by omega) q2 ap hB (fun z => (zL z).1) rfl (by omega) k4 L0 q1 g2 g3 (fun D4 f1 f2 => y D4 (jGoW_t (jGoW_N d1) (jGoW_t g1 f1)) f2)
      · have lsub := jLn_sub q4
        have subE := jSub_t sub0 lsub.1
        obtain ⟨W, ap⟩ : ∃ W, jAp e' w W := by
          have base := jAp_ln hs F sdL q4 rfl (by rcases hswf e' subE lsub.2 with z | z; exact Or.inl z; exact Or.inr z.1)
          exact base
        refine sp_mTrace F L0 L14 tr lsub.1 ap (w0f e e0) rfl (by omega) k4 (by rw [e0]; exact d3) (by rw [d1.1 346 (by decide), ew]; exact st e W e' e0 ap subE) (fun K D' g1 g2 g3 => ?_)
        refine sp_mLine1 F sdL (by omega) q4 (jSub_r _) ap zL rfl (by omega) k4 L0 q1 g2 g3 (fun _ z => absurd z q3) (fun z => by omega) (fun _ _ D4 f1 f2 => y D4 (jGoW_t (jGoW_N d1) (jGoW_t g1 f1)) f2)

-- grids one after the other
def rGr (e D : jC) : Prop := D 345 16 = e 3 2 ∧ 0 ≤ e 3 2 ∧ e 3 2 ≤ 12 ∧ ∀ g, 0 ≤ g → g < e 3 2 → D 353 (6 * g) = e 5 g ∧ 1 ≤ e 5 g ∧ e 5 g ≤ 5 ∧ ∀ i, 0 ≤ i → i < e 5 g → D 353 (6 * g + 1 + i) = e 6 (g * 5 + i)
theorem rGr_eq {e e2 D D2 : jC} (h : ∀ b, b ≠ 1 → e2 b = e b) (h16 : D2 345 16 = D 345 16) (h353 : D2 353 = D 353) (hr : rGr e D) : rGr e2 D2 := by
  unfold rGr at *
  rw [h 3 (by decide), h 5 (by decide), h 6 (by decide), h16, h353]
  exact hr
/-- what the class has of grids -/
def jGk (N c0 : Int) (κ sn : Int → Int) (e : jC) : Prop := e 3 0 = N ∧ (∀ c, 0 ≤ c → c < 5 → e 4 c = κ c) ∧ 0 ≤ e 3 2 ∧ e 3 2 ≤ 12 ∧ ∀ g, 0 ≤ g → g < e 3 2 → 1 ≤ e 5 g ∧ e 5 g ≤ 5 ∧ ∀ i, 0 ≤ i → i < e 5 g → jGu sn c0 i.toNat < N ∧ jVal (κ (jGu sn c0 i.toNat)) (e 6 (g * 5 + i))
theorem jGk_eq {N c0 : Int} {κ sn : Int → Int} {e e2 : jC} (h : ∀ b, b ≠ 1 → e2 b = e b) (hr : jGk N c0 κ sn e) : jGk N c0 κ sn e2 := by
  unfold jGk at *
  rw [h 3 (by decide), h 4 (by decide), h 5 (by decide), h 6 (by decide)]
  exact hr
/-- what the model makes of a grid's text -/
def jGP (T : Int → Int) (m p : Int) (w : Int → Int) (v c0 : Int) (e e' : jC) (r x : Int) : Prop := ∀ (D : jC) (post : Int → jC → Prop), jML T m (jBl T m p) D → D 346 = w → rGr e D → (r = 1 → ∀ D', jGoG D D' → jML T m x D' → rGr e' D' → post 1 D') → (r = 0 → ∀ D', jGoG D D' → D' 345 9 = x → post 0 D') → wp_12_readGrid v c0 D post
theorem sp_cGrid2 {T : Int → Int} {m p N c0 Q v : Int} {cr cx cy : Int → Int → Int} (F : jCellF T m cr cx cy) {C : jC} (h : jCL T m p C) {κ hd sn w : Int → Int} (hg : jGk N c0 κ sn C) (r12 : C 3 2 < 12) (N5 : N ≤ 5) (hκ : ∀ c, 0 ≤ c → c < 5 → κ c = 0 ∨ κ c = 1) (wκ : ∀ c, 0 ≤ c → c < 5 → w (4 + c) = κ c) (hN : w 0 = N) (c00 : 0 ≤ c0) (Qo : 35 ≤ Q)
    (hh : ∀ c, 0 ≤ c → c < 5 → (hd c = 0 ∨ hd c = 1) ∧ jDet (wp_2_hides Q c C) (hd c)) (hm : ∀ c, 0 ≤ c → c < 5 → ∀ D : jC, D 346 = w → jDet (wp_12_isHidden v c D) (hd c)) (hs : ∀ c, jSn hd N c (sn c)) (s0 : sn c0 = c0) {post : Int → jC → Prop}
    (y1 : ∀ (C' : jC) (x : Int), jXt C C' → jCL T m x C' → jBl T m x = x → jGk N c0 κ sn C' → C' 3 2 = C 3 2 + 1 → jGP T m p w v c0 C C' 1 x → post 1 C')
    (y0 : ∀ (C' : jC) (x : Int), jXf C C' x → jGP T m p w v c0 C C 0 x → post 0 C') : wp_9_readGrid Q c0 C post := by
  obtain ⟨g1, g2, g3, g4, g5⟩ := id hg
  obtain ⟨a1, a2, a3, a4, a5, a6⟩ := id h
  generalize hr : C 3 2 = r at *
  have hκ' : ∀ c, 0 ≤ c → c < 5 → C 4 c = 0 ∨ C 4 c = 1 := fun c a b => by rw [g2 c a b]; exact hκ c a b
  have wκ' : ∀ c, 0 ≤ c → c < 5 → w (4 + c) = C 4 c := fun c a b => by rw [g2 c a b]; exact wκ c a b
  have hhm : ∀ c, 0 ≤ c → c < 5 → (hd c = 0 ∨ hd c = 1) ∧ ∀ D : jC, D 346 = w → jDet (wp_12_isHidden v c D) (hd c) := fun c a b => ⟨(hh c a b).1, hm c a b⟩
  -- the model through the first k cells
  have walk : ∀ (k : Int), 0 ≤ k → jGd T m cr cx (C 4) sn c0 p N k → ∀ (D : jC) (post : Int → jC → Prop), jML T m (jBl T m p) D → D 346 = w → rGr C D → (∀ (K : Int → Int → jC → Prop) (D' : jC) (x : Int), jGoG D D' → D' 345 16 = r → jML T m x D' → jBl T m x = jBl T m (jGq T m cx (C 4) sn c0 p k.toNat) → (∀ j, j < 6 * r → D' 353 j = D 353 j) → (∀ i, 0 ≤ i → i < k → D' 353 (6 * r + 1 + i) = cy (C 4 (jGu sn c0 i.toNat)) (jGq T m cx (C 4) sn c0 p i.toNat)) → wp_12_readGrid_14 v (6 * r) post K k (jGu sn c0 k.toNat) D') → wp_12_readGrid v c0 D post := by
    intro k k0 gd D post hD hw hR y
    have h16 : D 345 16 = r := by rw [hR.1, hr]
    have qb := jGd_b F a5 hκ' N5 c00 hs a3 a4 gd
    have k5 : k ≤ 5 := by
      by_cases z : k ≤ 5
      · exact z
      · have a := gd 5 (by omega) (by omega)
        have u := jGu_up (c := c0) hs 5
        rw [show (5 : Int).toNat = 5 from rfl] at a
        omega
    unfold wp_12_readGrid
    rw [h16]
    refine ⟨⟨by omega, by omega⟩, ?_⟩
    refine jL3_of (fun i c E => 0 ≤ i ∧ i ≤ k ∧ c = jGu sn c0 i.toNat ∧ jGoG D E ∧ E 345 16 = r ∧ (∃ x, jML T m x E ∧ jBl T m x = jBl T m (jGq T m cx (C 4) sn c0 p i.toNat)) ∧ (∀ j, j < 6 * r → E 353 j = D 353 j) ∧ ∀ j, 0 ≤ j → j < i → E 353 (6 * r + 1 + j) = cy (C 4 (jGu sn c0 j.toNat)) (jGq T m cx (C 4) sn c0 p j.toNat)) (fun i _ _ => (k - i).toNat) (fun K i c E hi hk => ?_) ⟨Int.le_refl 0, k0, rfl, jGoG_r D, h16, ⟨_, hD, jBl_bl a3 a4 a5⟩, fun _ _ => rfl, fun j a b => by omega⟩
    obtain ⟨i0, i1, rfl, e1, e2, ⟨x, e3, e4⟩, e5, e6⟩ := hi
    by_cases a : i = k
    · subst a
      exact y K E x e1 e2 e3 e4 e5 e6
    · obtain ⟨b1, b2, b3, b4⟩ := gd i i0 (by omega)
      have u := jGu_up (c := c0) hs i.toNat
      have q := qb i.toNat (by omega)
      have wE : E 346 = w := by rw [e1.1 346 (by decide) (by decide)]; exact hw
      refine sp_mG1 F hκ' wκ' hN N5 hhm hs g3 r12 i0 (by omega) (by omega) (by omega) q.2 wE e2 e3 e4 (fun _ _ _ _ D' f1 f2 f3 f4 => ?_) (fun _ _ z => absurd ⟨b3, b4⟩ z) (Or.inr ⟨b1, fun z => by omega⟩)
      rw [← jGu_s (sn := sn) (c := c0) i0]
      refine hk _ _ _ ⟨by omega, by omega, rfl, jGoG_t e1 f1, f2, ⟨_, f3, by rw [jGq_s i0]⟩, fun j hj => by rw [f4, jSet_ne (by omega), e5 j hj], fun j j0 j1 => ?_⟩ (by omega)
      rw [f4]
      by_cases z : j = i
      · subst z; rw [jSet_eq]
      · rw [jSet_ne (by omega)]; exact e6 j j0 (by omega)
  refine sp_cGrid F h g1 N5 hr g3 r12 hκ' c00 Qo hh hs s0 (fun k C' k0 gd b1 b2 b3 x1 l1 n1 f4 f32 f5 f5' f6 f6' => ?_) (fun k x C' k0 gd why x1 => ?_)
  · have u := jGu_up (c := c0) hs k.toNat
    have q := jGd_b F a5 hκ' N5 c00 hs a3 a4 gd k.toNat (by omega)
    have val : ∀ i, 0 ≤ i → i ≤ k → jGu sn c0 i.toNat < N ∧ jVal (κ (jGu sn c0 i.toNat)) (cy (C 4 (jGu sn c0 i.toNat)) (jGq T m cx (C 4) sn c0 p i.toNat)) := by
      intro i i0 i1
      have u := jGu_up (c := c0) hs i.toNat
      have q := jGd_b F a5 hκ' N5 c00 hs a3 a4 gd i.toNat (by omega)
      have o : jGu sn c0 i.toNat < N ∧ cr (C 4 (jGu sn c0 i.toNat)) (jGq T m cx (C 4) sn c0 p i.toNat) = 1 := by
        by_cases e : i = k
        · subst e; exact ⟨b1, b2⟩
        · have := gd i i0 (by omega); exact ⟨this.1, this.2.1⟩
      refine ⟨o.1, ?_⟩
      rw [← g2 _ (by omega) (by omega)]
      exact ((F _ _ (by omega) q.2 (hκ' _ (by omega) (by omega))).2.1 o.2).2.2
    have fx := ((F _ _ (by omega) q.2 (hκ' _ (by omega) (by omega))).2.1 b2)
    refine y1 C' _ x1 l1 (jBl_bl (by omega) fx.2.1 a5) ⟨n1, fun c a b => by rw [f4]; exact g2 c a b, by omega, by omega, fun g e0 e1 => ?_⟩ f32 (fun D post' hD hw hR z1 _ => ?_)
    · rw [f32] at e1
      by_cases e : g = r
      · subst e
        rw [f5]
        refine ⟨by omega, by omega, fun i i0 i1 => ?_⟩
        rw [f6 i i0 (by omega)]
        exact val i i0 (by omega)
      · rw [f5' g e]
        obtain ⟨p1, p2, p3⟩ := g5 g e0 (by omega)
        refine ⟨p1, p2, fun i i0 i1 => ?_⟩
        rw [f6' _ (by omega)]
        exact p3 i i0 i1
    · refine walk k k0 gd D post' hD hw hR (fun K D1 x e1 e2 e3 e4 e5 e6 => ?_)
      have wE : D1 346 = w := by rw [e1.1 346 (by decide) (by decide)]; exact hw
      refine sp_mG1 F hκ' wκ' hN N5 hhm hs g3 r12 k0 (by omega) (by omega) (by omega) q.2 wE e2 e3 e4 (fun _ _ z1 z2 => absurd ⟨z1, z2⟩ b3) (fun _ _ _ D' d1 d2 d3 d4 => ?_) (Or.inr ⟨b1, fun z => by omega⟩)
      refine z1 rfl D' (jGoG_t e1 d1) d3 ⟨by rw [d2, f32], by omega, by omega, fun g e0 e1 => ?_⟩
      rw [f32] at e1
      by_cases e : g = r
      · subst e
        rw [f5, d4]
        refine ⟨by rw [jSet_eq], by omega, by omega, fun i i0 i1 => ?_⟩
        rw [jSet_ne (by omega), f6 i i0 (by omega)]
        by_cases e : i = k
        · subst e; rw [jSet_eq]
        · rw [jSet_ne (by omega)]; exact e6 i i0 (by omega)
      · obtain ⟨p1, p2, p3, p4⟩ := hR.2.2.2 g e0 (by omega)
        rw [f5' g e, d4]
        refine ⟨by rw [jSet_ne (by omega), jSet_ne (by omega), e5 _ (by omega)]; exact p1, p2, p3, fun i i0 i1 => ?_⟩
        rw [jSet_ne (by omega), jSet_ne (by omega), e5 _ (by omega), f6' _ (by omega)]
        exact p4 i i0 i1
  · have u := jGu_up (c := c0) hs k.toNat
    have q := jGd_b F a5 hκ' N5 c00 hs a3 a4 gd k.toNat (by omega)
    refine y0 C' x x1 (fun D post' hD hw hR _ z0 => ?_)
    refine walk k k0 gd D post' hD hw hR (fun K D1 x' e1 e2 e3 e4 e5 e6 => ?_)
    have wE : D1 346 = w := by rw [e1.1 346 (by decide) (by decide)]; exact hw
    have kk : k ≤ 5 := by
      by_cases z : k ≤ 5
      · exact z
      · have a := gd 5 (by omega) (by omega)
        have u := jGu_up (c := c0) hs 5
        rw [show (5 : Int).toNat = 5 from rfl] at a
        omega
    by_cases k5 : k < 5
    · rcases why with ⟨b1, b2⟩ | ⟨b1, b2, b3⟩
      · exact sp_mG1 F hκ' wκ' hN N5 hhm hs g3 r12 k0 k5 (by omega) (by omega) q.2 wE e2 e3 e4 (fun z => by omega) (fun z => by omega) (Or.inl ⟨b1, fun D' d1 d2 => z0 rfl D' (jGoG_t e1 d1) (by rw [d2, b2])⟩)
      · exact sp_mG1 F hκ' wκ' hN N5 hhm hs g3 r12 k0 k5 (by omega) (by omega) q.2 wE e2 e3 e4 (fun _ z => by omega) (fun _ z => by omega) (Or.inr ⟨b1, fun _ D' d1 d2 => z0 rfl D' (jGoG_t e1 d1) (by rw [d2, b3])⟩)
    · -- five cells read: no column is left
      have k5 : k = 5 := by omega
      unfold wp_12_readGrid_14
      have xb := jBl_m e3
      refine sp_mBlanks e3 (fun D2 d1 d7 d9 => ?_)
      unfold wp_12_columns
      dsimp only
      rw [d1.1 346 (by decide), wE, hN, if_pos (by omega)]
      rcases why with ⟨b1, b2⟩ | ⟨b1, b2, b3⟩
      · exact z0 rfl D2 (jGoG_t e1 (jGoG_N d1)) (by rw [d9, e4, b2])
      · omega
/-- the trace of grids -/
def jGT (T : Int → Int) (m : Int) (w : Int → Int) (v c0 : Int) (e : Int → jC) (P : Int → Int) (L : Int) : Prop := ∀ j, 0 ≤ j → j < L → (e j) 3 2 = j ∧ 0 ≤ P j ∧ P j ≤ m ∧ ∃ (e' : jC) (x : Int), jGP T m (P j) w v c0 (e j) e' 1 x ∧ jBl T m x < m ∧ T (jBl T m x) = 59 ∧ P (j + 1) = jBl T m x + 1 ∧ ∀ b, b ≠ 1 → (e (j + 1)) b = e' b
theorem sp_cGrids {T : Int → Int} {m p N c0 Q v : Int} {cr cx cy : Int → Int → Int} (F : jCellF T m cr cx cy) {C : jC} (h : jCL T m p C) {κ hd sn w : Int → Int} (hg : jGk N c0 κ sn C) (r0 : C 3 2 = 0) (N5 : N ≤ 5) (hκ : ∀ c, 0 ≤ c → c < 5 → κ c = 0 ∨ κ c = 1) (wκ : ∀ c, 0 ≤ c → c < 5 → w (4 + c) = κ c) (hN : w 0 = N) (c00 : 0 ≤ c0) (Qo : 35 ≤ Q)
    (hh : ∀ c, 0 ≤ c → c < 5 → (hd c = 0 ∨ hd c = 1) ∧ jDet (wp_2_hides Q c C) (hd c)) (hm : ∀ c, 0 ≤ c → c < 5 → ∀ D : jC, D 346 = w → jDet (wp_12_isHidden v c D) (hd c)) (hs : ∀ c, jSn hd N c (sn c)) (s0 : sn c0 = c0) {post : Int → jC → Prop}
    (y1 : ∀ (e : Int → jC) (P : Int → Int) (L : Int) (C' e' : jC) (x : Int), 0 ≤ L → L < 12 → e 0 = C → P 0 = p → jGT T m w v c0 e P L → (e L) 3 2 = L → 0 ≤ P L → P L ≤ m → jGP T m (P L) w v c0 (e L) e' 1 x → jBl T m x = m → jXt C C' → jGk N c0 κ sn C' → C' 3 2 = L + 1 → (∀ b, b ≠ 1 → C' b = e' b) → post 1 C')
    (y0 : ∀ (e : Int → jC) (P : Int → Int) (L : Int) (C' : jC) (x : Int), 0 ≤ L → e 0 = C → P 0 = p → jGT T m w v c0 e P L → (e L) 3 2 = L → 0 ≤ P L → P L ≤ m → ((L = 12 ∧ x = jBl T m (P L)) ∨ (L < 12 ∧ (jGP T m (P L) w v c0 (e L) (e L) 0 x ∨ ∃ (e' : jC) (x' : Int), jGP T m (P L) w v c0 (e L) e' 1 x' ∧ jBl T m x' < m ∧ T (jBl T m x') ≠ 59 ∧ x = jBl T m x'))) → jXf C C' x → post 0 C') : jL2 (wp_9_readGrids_8 Q c0 post) 0 C := by
  have m4 := h.2.2.2.2.1
  refine jL2_of (fun k E => 0 ≤ k ∧ k ≤ 12 ∧ ∃ (e : Int → jC) (P : Int → Int), e 0 = C ∧ P 0 = p ∧ jGT T m w v c0 e P k ∧ e k = E ∧ E 3 2 = k ∧ jCL T m (P k) E ∧ jXt C E ∧ jGk N c0 κ sn E) (fun k _ => (12 - k).toNat) (fun K k E hi hk1 => ?_) ⟨Int.le_refl 0, by omega, fun _ => C, fun _ => p, rfl, rfl, fun j a b => by omega, rfl, r0, h, jXt_r C, hg⟩
  obtain ⟨k0, k12, e, P, e0, P0, tr, ee, ek, cl, xt, gk⟩ := hi
  unfold wp_9_readGrids_8
  by_cases a : 12 ≤ k
  · rw [if_pos a]
    refine sp_cBl3 cl (fun C1 g1 h1 => ?_)
    unfold wp_5_failHere
    rw [h1.2.1]
    exact ⟨Or.inl rfl, y0 e P k _ _ k0 e0 P0 tr (by rw [ee]; exact ek) cl.2.2.1 cl.2.2.2.1 (Or.inl ⟨by omega, rfl⟩) (jXf_bad (jXt_t xt (jXt_go (jGo3_go g1))) (jBad_u _ _))⟩
  · rw [if_neg a]
    have hhE : ∀ c, 0 ≤ c → c < 5 → (hd c = 0 ∨ hd c = 1) ∧ jDet (wp_2_hides Q c E) (hd c) := fun c c0 c1 => by rw [cg_hides (xt.1 Q (by omega))]; exact hh c c0 c1
    refine sp_cGrid2 F cl gk (by omega) N5 hκ wκ hN c00 Qo hhE hm hs s0 (fun C1 x x1 cl1 xb gk1 n1 pp => ?_) (fun C1 x x1 pp => ?_)
    · rw [if_neg (by decide)]
      refine sp_cOver cl1 (fun e1 C2 g2 c2 => ?_) (fun e1 C2 g2 c2 => ?_)
      · rw [if_neg (by decide)]
        exact y1 e P k C2 C1 x k0 (by omega) e0 P0 tr (by rw [ee]; exact ek) cl.2.2.1 cl.2.2.2.1 (by rw [ee]; exact pp) e1 (jXt_t xt (jXt_t x1 (jXt_go (jGo3_go g2)))) (jGk_eq g2.1 gk1) (by rw [g2.1 3 (by decide), n1, ek]) g2.1
      · rw [if_pos rfl]
        refine sp_cSign c2 (by decide) (by decide) ?_ ?_
        · rw [xb, xb]
          intro q1 q2 C3 g3 c3
          rw [if_neg (by decide)]
          have g23 : ∀ b, b ≠ 1 → C3 b = C1 b := fun b hb => by rw [g3.1 b hb, g2.1 b hb]
          obtain ⟨f, ef⟩ : ∃ f : Int → jC, ∀ j, f j = if j = k + 1 then C3 else e j := ⟨_, fun _ => rfl⟩
          obtain ⟨Q', eQ⟩ : ∃ Q' : Int → Int, ∀ j, Q' j = if j = k + 1 then x + 1 else P j := ⟨_, fun _ => rfl⟩
          refine hk1 _ _ ⟨by omega, by omega, f, Q', by rw [ef, if_neg (by omega), e0], by rw [eQ, if_neg (by omega), P0], fun j j0 j1 => ?_, by rw [ef, if_pos rfl], by rw [g23 3 (by decide), n1, ek], by rw [eQ, if_pos rfl]; exact c3, jXt_t xt (jXt_t x1 (jXt_t (jXt_go (jGo3_go g2)) (jXt_go (jGo3_go g3)))), jGk_eq g23 gk1⟩ (by omega)
          by_cases ej : j = k
          · subst ej
            rw [ef j, eQ j, if_neg (by omega), if_neg (by omega), eQ, if_pos rfl, ef, if_pos rfl]
            exact ⟨by rw [ee]; exact ek, cl.2.2.1, cl.2.2.2.1, C1, x, by rw [ee]; exact pp, by rw [xb]; exact q1, by rw [xb]; exact q2, by rw [xb], g23⟩
          · have := tr j j0 (by omega)
            rw [ef j, eQ j, eQ (j + 1), ef (j + 1), if_neg (by omega), if_neg (by omega), if_neg (by omega), if_neg (by omega)]
            exact this
        · rw [xb, xb]
          intro q C3 g3 c3
          rw [if_pos rfl]
          unfold wp_5_failHere
          rw [c3.2.1]
          refine ⟨Or.inl rfl, y0 e P k _ x k0 e0 P0 tr (by rw [ee]; exact ek) cl.2.2.1 cl.2.2.2.1 (Or.inr ⟨by omega, Or.inr ⟨C1, x, by rw [ee]; exact pp, e1, fun z => q ⟨by rw [xb] at e1; exact e1, by rw [xb] at z; exact z⟩, xb.symm⟩⟩) (jXf_bad (jXt_t xt (jXt_t x1 (jXt_t (jXt_go (jGo3_go g2)) (jXt_go (jGo3_go g3))))) (jBad_u _ _))⟩
    · rw [if_pos rfl]
      exact y0 e P k C1 x k0 e0 P0 tr (by rw [ee]; exact ek) cl.2.2.1 cl.2.2.2.1 (Or.inr ⟨by omega, Or.inl (by rw [ee]; exact pp)⟩) (jXf_tx xt x1)
/-- the model through one grid and the sign behind it -/
theorem sp_mGr1 {T : Int → Int} {m p v c0 x : Int} {w : Int → Int} {e e' : jC} (pp : jGP T m p w v c0 e e' 1 x) (p0 : 0 ≤ p) (p1 : p ≤ m) (e12 : e 3 2 ≠ 12) {D : jC} (hD : jML T m p D) (hw : D 346 = w) (hR : rGr e D) {post : Int → jC → Prop} {K : jC → Prop}
    (y1 : jBl T m x < m → T (jBl T m x) = 59 → ∀ D', jGoG D D' → jML T m (jBl T m x + 1) D' → rGr e' D' → K D')
    (yE : jBl T m x = m → ∀ D', jGoG D D' → rGr e' D' → post 1 D')
    (y0 : jBl T m x < m → T (jBl T m x) ≠ 59 → ∀ D', jGoG D D' → D' 345 9 = jBl T m x → post 0 D') : wp_12_readGrids_5 v c0 post K D := by
  unfold wp_12_readGrids_5
  have xb := jBl_m hD
  refine sp_mBlanks hD (fun D1 d1 d7 d9 => ?_)
  have l1 : jML T m (jBl T m p) D1 := jML_goN hD d1 d7 (by omega) xb.2
  have r1 : rGr e D1 := rGr_eq (fun _ _ => rfl) (d1.2 16 (by decide) (by decide)) (d1.1 353 (by decide)) hR
  rw [r1.1, if_neg e12]
  refine pp D1 _ l1 (by rw [d1.1 346 (by decide)]; exact hw) r1 (fun _ D2 g2 l2 r2 => ?_) (fun z => absurd z (by decide))
  rw [if_neg (by decide)]
  have xb2 := jBl_m l2
  have gD : jGoG D D2 := jGoG_t (jGoG_N d1) g2
  refine sp_mSign l2 (fun q1 q2 D3 g3 l3 => ?_) (fun q D3 g3 l3 b3 => ?_)
  · rw [if_neg (by decide)]
    exact y1 q1 q2 D3 (jGoG_t gD (jGoG_N g3)) l3 (rGr_eq (fun _ _ => rfl) (g3.2 16 (by decide) (by decide)) (g3.1 353 (by decide)) r2)
  · rw [if_pos rfl, l3.1, l3.2.1]
    by_cases a : jBl T m x = m
    · rw [if_pos a]
      exact yE a D3 (jGoG_t gD (jGoG_N g3)) (rGr_eq (fun _ _ => rfl) (g3.2 16 (by decide) (by decide)) (g3.1 353 (by decide)) r2)
    · rw [if_neg a]
      exact y0 (by omega) (fun z => q ⟨by omega, z⟩) D3 (jGoG_t gD (jGoG_N g3)) b3
theorem sp_mGrids {T : Int → Int} {m v c0 L : Int} {w : Int → Int} {e : Int → jC} {P : Int → Int} (L0 : 0 ≤ L) (L12 : L ≤ 12) (tr : jGT T m w v c0 e P L) (eL : (e L) 3 2 = L) {D : jC} (hD : jML T m (P 0) D) (hw : D 346 = w) (hR : rGr (e 0) D) {post : Int → jC → Prop}
    (y : ∀ (K : jC → Prop) (D' : jC), jGoG D D' → jML T m (P L) D' → D' 346 = w → rGr (e L) D' → wp_12_readGrids_5 v c0 post K D') : jL1 (wp_12_readGrids_5 v c0 post) D := by
  have ej : ∀ j, 0 ≤ j → j ≤ L → (e j) 3 2 = j := fun j j0 j1 => by
    by_cases z : j = L
    · subst z; exact eL
    · exact (tr j j0 (by omega)).1
  refine jL1_of (fun E => ∃ j, 0 ≤ j ∧ j ≤ L ∧ jGoG D E ∧ jML T m (P j) E ∧ E 346 = w ∧ rGr (e j) E) (fun E => (L - E 345 16).toNat) (fun K E hi hk => ?_) ⟨0, by omega, L0, jGoG_r D, hD, hw, hR⟩
  obtain ⟨j, i0, i1, i2, i3, i4, i5⟩ := hi
  by_cases a : j = L
  · subst a
    exact y K E i2 i3 i4 i5
  · obtain ⟨t1, t2, t3, e', x, pp, q1, q2, q3, q4⟩ := tr j i0 (by omega)
    refine sp_mGr1 pp t2 t3 (by omega) i3 i4 i5 (fun _ _ D' g1 l1 r1 => ?_) (fun z => by omega) (fun _ z => absurd q2 z)
    have r2 : rGr (e (j + 1)) D' := rGr_eq q4 rfl rfl r1
    refine hk D' ⟨j + 1, by omega, by omega, jGoG_t i2 g1, by rw [q3]; exact l1, by rw [g1.1 346 (by decide) (by decide)]; exact i4, r2⟩ ?_
    have z1 := i5.1
    have z2 := r2.1
    have z3 := ej (j + 1) (by omega) (by omega)
    omega

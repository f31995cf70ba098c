-- paste
theorem op_paste {C : jC} {K v i c : Int} (h : rAll C K) (hK : K < 800000) : wp_11_paste v i c C (fun E C1 => (E = jIOB ∧ oM (wp_12_paste v i c) (K + 12) 1 C1) ∨ (E = jISE ∧ oM (wp_12_paste v i c) (K + 12) 2 C1) ∨ (E = jIAE ∧ oM (wp_12_paste v i c) (K + 12) 3 C1) ∨ (E = jUOE ∧ oM (wp_12_paste v i c) (K + 12) 4 C1)) (fun r C1 => oR (wp_12_paste v i c) (K + 12) r C1) := by
  have hs := r_now h
  obtain ⟨k1, k2, k3, k4⟩ := r_cols hs
  obtain ⟨o1, o2, o3, o4, o5⟩ := r_ord hs
  have hk2 := h.2.2.2.2.2.2.1
  have h14 := h.2.2.2.2.1
  generalize hT : C 349 = T at *
  generalize hm : C 345 6 = m at *
  have ho := r_open h
  rw [hT, hm] at ho
  have m4 : m ≤ 400 := ho.2.2.2.2.1
  have m0 : 0 ≤ m := ho.2.2.2.1
  generalize hw : C 346 = w at *
  unfold wp_11_paste wp_5_useUp
  generalize hG : jU (jU C 1 2 (C 1 1)) 1 1 0 = G
  have g1 : ∀ b, b ≠ 1 → G b = C b := fun b hb => by rw [← hG, jU_ne hb, jU_ne hb]
  have g11 : G 1 1 = 0 := by rw [← hG, jU_at, if_pos rfl, if_pos rfl]
  have g14 : G 1 4 = C 1 4 := by rw [← hG, jU_at, if_pos rfl, if_neg (by decide), jU_at, if_pos rfl, if_neg (by decide)]
  have hsG : rS 35 G w := rS_keep (fun b hb => by unfold rOwn at hb; exact g1 b (by omega)) hs
  have uw : jUse G 346 = w := by rw [jUse_b (by decide), g1 346 (by decide), hw]
  -- a fault before the text is looked at
  have thr : ∀ n : Int, rAll (jU (jUse G) 345 0 n) (K + 12) := by
    intro n
    obtain ⟨u0, u8, u6, u7, u4⟩ := jUse_s G
    have u11 : jUse G 345 11 = G 345 11 := by unfold jUse; simp [jU_at]
    have hb : ∀ b, b ≠ 345 → b ≠ 1 → jU (jUse G) 345 0 n b = C b := fun b h1 h2 => by rw [jU_ne h1, jUse_b h1, g1 b h2]
    refine rAll_tx h (by omega) (fun b b1 b2 => ?_) ?_ ?_ ?_ ?_ ?_ ?_
    · exact hb b (by omega) (by omega)
    · rw [jU_ne (by decide), jUse_b (by decide)]; exact g11
    · rw [jU_at, if_pos rfl, if_neg (by decide)]; exact u6
    · rw [jU_ne (by decide), jUse_b (by decide), g14, jU_at, if_pos rfl, if_neg (by decide), u11, g1 345 (by decide)]; exact h14
    · rw [jU_at, if_pos rfl, if_neg (by decide), u4, g1 345 (by decide)]
    · rw [hb 346 (by decide) (by decide), hw]
      refine rS_keep (C := C) (fun b hb' => ?_) hs
      unfold rOwn at hb'
      exact hb b (by omega) (by omega)
    · rw [hb 346 (by decide) (by decide), hw]; omega
  have no : ¬ ((0 ≤ v ∧ v < 4) ∧ (0 ≤ i ∧ i < w (298 + 2114 * v)) ∧ 0 ≤ c ∧ c < G 36 0) → oM (wp_12_paste v i c) (K + 12) 1 G := by
    intro hn
    unfold oM wp_12_paste wp_12_uses
    show wp_12_noCell v i c (jUse G) _
    refine sp_noCell1 hsG uw hn ?_
    rw [if_neg (by decide)]
    exact ⟨m0_0 _ _, thr 1⟩
  refine sp_viewNumbered (fun hn => Or.inl ⟨rfl, no (fun z => hn z.1)⟩) (fun v0 v1 => ?_)
  obtain ⟨l1, l2, l3, l4, l5⟩ := r_list hsG v0 v1
  refine sp_seatAtPlace (by omega) (fun i a b => (l4 i a (by omega)).1) (fun hn => Or.inl ⟨rfl, no (fun z => hn ⟨z.2.1.1, by rw [l1]; exact z.2.1.2⟩)⟩) (fun i0 i1 => ?_)
  rw [l1] at i1
  have c36 : G 36 0 = w 0 := by rw [g1 36 (by decide)]; exact k1
  refine sp_needColumn (by omega) (fun hn => Or.inl ⟨rfl, no (fun z => hn z.2.2)⟩) (fun c0 c1 => ?_)
  have c1w : c < w 0 := by omega
  obtain ⟨z, hz⟩ : ∃ z, z = w (298 + 2114 * v + 29) := ⟨_, rfl⟩
  have z29 : G (51 + 72 * v + 1) 3 = z := by rw [hz]; exact (r_lens hsG v0 v1).2.2.2.2.1
  have hid : ∀ D : jC, D 346 = w → jDet (wp_12_isHidden v c D) (jHd z c) := fun D hD => hd_m v0 v1 (by rw [hD, hz])
  -- the model, up to its text
  have ms0 : ∀ (D : jC) (post : Int → jC → Prop), D 346 = w → wp_12_throwsIf (jHd z c) 2 (jUse D) (fun x96 C97 => (if x96 = 0 then (wp_12_readGrids v c C97 (fun x101 C102 => (if x101 = 0 then (wp_12_listOf v (jU C102 345 11 (C102 345 9)) (fun x107 => wp_12_size x107 (jU C102 345 11 (C102 345 9)) (fun x111 => (if x101 = 0 then (wp_12_paste_76 1 v i c x111 (jU C102 345 11 (C102 345 9)) post) else (wp_12_paste_76 0 v i c x111 (jU C102 345 11 (C102 345 9)) post))))) else (wp_12_listOf v (jU C102 345 11 (-1)) (fun x117 => wp_12_size x117 (jU C102 345 11 (-1)) (fun x121 => (if x101 = 0 then (wp_12_paste_76 1 v i c x121 (jU C102 345 11 (-1)) post) else (wp_12_paste_76 0 v i c x121 (jU C102 345 11 (-1)) post)))))))) else (post 0 C97))) → wp_12_paste v i c D post := by
    intro D post hD y
    unfold wp_12_paste wp_12_uses
    show wp_12_noCell v i c (jUse D) _
    have dw : jUse D 346 = w := by rw [jUse_b (by decide)]; exact hD
    refine sp_noCell0 hsG dw v0 v1 i0 i1 c0 c1 ?_
    rw [if_pos rfl]
    exact hid _ dw _ y
  unfold wp_11_needShown
  refine hd_c z29 c0 (by omega) _ ?_
  by_cases hv : jHd z c = 0
  · rw [if_pos hv]
    have mso : ∀ (D : jC) (post : Int → jC → Prop), (∀ b, ¬ (1 ≤ b ∧ b < 339) → D b = C b) → (jUse D 345 0 = 0 → jUse D 345 6 = 0 → jUse D 345 4 = C 345 4 → jML T m 0 (jUse D) → jUse D 346 = w → wp_12_readGrids v c (jUse D) (fun x101 C102 => (if x101 = 0 then (wp_12_paste_76 1 v i c (C102 346 (298 + 2114 * v)) (jU C102 345 11 (C102 345 9)) post) else (wp_12_paste_76 0 v i c (C102 346 (298 + 2114 * v)) (jU C102 345 11 (-1)) post)))) → wp_12_paste v i c D post := by
      intro D post dC y
      obtain ⟨u0, u8, u6, u7, u4⟩ := jUse_s D
      refine ms0 D post (by rw [dC 346 (by omega)]; exact hw) ?_
      rw [hv, sp_throws0, if_pos rfl]
      have := y u0 u6 (by rw [u4, dC 345 (by omega)]) ⟨by rw [u8, dC 345 (by omega), hm], u7, by omega, m0, m4, by rw [jUse_b (by decide), dC 349 (by omega), hT]⟩ (by rw [jUse_b (by decide), dC 346 (by omega), hw])
      have e : (fun (x101 : Int) (C102 : jC) => (if x101 = 0 then (wp_12_listOf v (jU C102 345 11 (C102 345 9)) (fun x107 => wp_12_size x107 (jU C102 345 11 (C102 345 9)) (fun x111 => (if x101 = 0 then (wp_12_paste_76 1 v i c x111 (jU C102 345 11 (C102 345 9)) post) else (wp_12_paste_76 0 v i c x111 (jU C102 345 11 (C102 345 9)) post))))) else (wp_12_listOf v (jU C102 345 11 (-1)) (fun x117 => wp_12_size x117 (jU C102 345 11 (-1)) (fun x121 => (if x101 = 0 then (wp_12_paste_76 1 v i c x121 (jU C102 345 11 (-1)) post) else (wp_12_paste_76 0 v i c x121 (jU C102 345 11 (-1)) post))))))) = (fun x101 C102 => (if x101 = 0 then (wp_12_paste_76 1 v i c (C102 346 (298 + 2114 * v)) (jU C102 345 11 (C102 345 9)) post) else (wp_12_paste_76 0 v i c (C102 346 (298 + 2114 * v)) (jU C102 345 11 (-1)) post))) := by
        funext x101 C102
        rw [sp_listOf v0 v1, sp_listOf v0 v1]
        have sz : ∀ (q : Int) (Q : Int → Prop), wp_12_size (298 + 2114 * v) (jU C102 345 11 q) Q = Q (C102 346 (298 + 2114 * v)) := by
          intro q Q
          unfold wp_12_size
          rw [jU_ne (by decide)]
          exact propext ⟨fun z => z.2.2, fun z => ⟨by omega, by omega, z⟩⟩
        rw [sz, sz]
        by_cases a : x101 = 0
        · rw [if_pos a, if_pos a, if_pos a]
        · rw [if_neg a, if_neg a, if_neg a]
      rw [e]; exact this
    have eO : jU (jU G 1 3 0) 1 4 (-1) = jOpn C := by rw [← hG]; rfl
    unfold wp_5_openUsedText
    dsimp only
    rw [eO]
    have sC := jKnC_s (jOpn C)
    have kb : ∀ b, ¬ (1 ≤ b ∧ b < 35) → jKnC (jOpn C) b = C b := fun b hb => by rw [jKnC_b (by omega) (by omega), jOpn_b (by omega)]
    have x0 : jXt (jOpn C) (jKnC (jOpn C)) := ⟨fun b hb => jKnC_b (by omega) (by omega), by rw [jKnC_b (by decide) (by decide)], by rw [jKnC_b (by decide) (by decide)], jKnC_b (by decide) (by decide), by rw [jKnC_b (by decide) (by decide)]⟩
    have cl0 : jCL T m 0 (jKnC (jOpn C)) := jCL_tx ho x0 (by rw [jKnC_b (by decide) (by decide)]; exact (jOpn_s C).2.2.1) (by omega) m0
    obtain ⟨cr, cx, cy, F⟩ := sp_cellF T m4
    obtain ⟨sn, hsn⟩ := Classical.skolem.mp (jSn_ex (jHd z) (w 0))
    have sc : sn c = c := jSn_vis hsn (Or.inr (by omega))
    have n0 : jKnC (jOpn C) 3 0 = w 0 := by rw [sC.1, jOpn_b (by decide), k1]
    have kk : ∀ c, 0 ≤ c → c < 5 → jKnC (jOpn C) 4 c = w (4 + c) := fun c c0 c1 => by rw [sC.2.2 c c0 c1, jOpn_b (by decide)]; exact (r_kind hs c0 c1).1
    have gk0 : jGk (w 0) c (fun c => w (4 + c)) sn (jKnC (jOpn C)) := ⟨n0, kk, by rw [sC.2.1]; omega, by rw [sC.2.1]; omega, fun g g0 g1 => by rw [sC.2.1] at g1; omega⟩
    have bad : ∀ (C1 : jC) (x : Int), jXf (jKnC (jOpn C)) C1 x → (∀ (D2 : jC) (post : Int → jC → Prop), jML T m 0 D2 → D2 346 = w → (∀ D', jGoG D2 D' → D' 345 9 = x → post 0 D') → wp_12_readGrids v c D2 post) → oM (wp_12_paste v i c) (K + 12) 3 C1 := by
      intro C1 x q1 y
      have c1C : ∀ b, ¬ (1 ≤ b ∧ b < 35) → C1 b = C b := fun b hb => by rw [q1.1 b hb, kb b hb]
      unfold oM
      refine mso C1 _ (fun b hb => c1C b (by omega)) (fun e0 e6 ei eL ew => ?_)
      refine y _ _ eL ew (fun D' d1 d9 => ?_)
      rw [if_pos rfl]
      unfold wp_12_paste_76
      rw [sp_throws1, if_neg (by decide), d9]
      have fb : ∀ b, b ≠ 345 → b ≠ 353 → jU (jU D' 345 11 x) 345 0 3 b = C1 b := fun b h1 h2 => by rw [jU_ne h1, jU_ne h1, d1.1 b h1 h2, jUse_b h1]
      have f345 : ∀ j, j ≠ 0 → j ≠ 7 → j ≠ 9 → j ≠ 10 → j ≠ 11 → j ≠ 16 → jU (jU D' 345 11 x) 345 0 3 345 j = jUse C1 345 j := fun j h0 h1 h2 h3 h4 h5 => by rw [jU_at, if_pos rfl, if_neg h0, jU_at, if_pos rfl, if_neg h4, d1.2 j h1 h2 h3 h5]
      have w3 : jU (jU D' 345 11 x) 345 0 3 346 = w := by rw [fb 346 (by decide) (by decide), c1C 346 (by omega), hw]
      refine ⟨m0_0 _ _, rAll_tx h (by omega) (fun b b1 b2 => ?_) ?_ ?_ ?_ ?_ ?_ ?_⟩
      · rw [fb b (by omega) (by omega), c1C b (by omega)]
      · rw [fb 1 (by decide) (by decide), q1.2.1, jKnC_b (by decide) (by decide)]; exact (jOpn_s C).1
      · rw [f345 6 (by decide) (by decide) (by decide) (by decide) (by decide) (by decide)]; exact e6
      · rw [fb 1 (by decide) (by decide), q1.2.2, jU_at, if_pos rfl, if_neg (by decide), jU_at, if_pos rfl, if_pos rfl]
      · rw [f345 4 (by decide) (by decide) (by decide) (by decide) (by decide) (by decide)]; exact ei
      · rw [w3]
        refine rS_keep (C := C) (fun b hb => ?_) hs
        unfold rOwn at hb
        rw [fb b (by omega) (by omega), c1C b (by omega)]
      · rw [w3]; omega
    have good : ∀ (C5 : jC) (R : Int), jXt (jKnC (jOpn C)) C5 → jGk (w 0) c (fun c => w (4 + c)) sn C5 → C5 3 2 = R → 1 ≤ R → R ≤ 12 → (∀ (D2 : jC) (post : Int → jC → Prop), jML T m 0 D2 → D2 346 = w → (∀ D', jGoG D2 D' → rGr C5 D' → post 1 D') → wp_12_readGrids v c D2 post) →
        wp_6_length (51 + 72 * v + 29) C5 (fun x31 => (jRng ((i + (C5 3 2)) - x31) ∧ wp_7_rowsNow 36 C5 (fun x37 => (jRng (x37 + (max 0 ((i + (C5 3 2)) - x31))) ∧ (if (x37 + (max 0 ((i + (C5 3 2)) - x31))) ≤ 24 then (wp_8_pasteGrids 35 v i c C5 (fun x43 C44 => oR (wp_12_paste v i c) (K + 12) x43 C44)) else ((jUOE = jIOB ∧ oM (wp_12_paste v i c) (K + 12) 1 C5) ∨ (jUOE = jISE ∧ oM (wp_12_paste v i c) (K + 12) 2 C5) ∨ (jUOE = jIAE ∧ oM (wp_12_paste v i c) (K + 12) 3 C5) ∨ (jUOE = jUOE ∧ oM (wp_12_paste v i c) (K + 12) 4 C5))))))) := by
      intro C5 R x5 gk hR R1 R12 run
      have c5C : ∀ b, ¬ (1 ≤ b ∧ b < 35) → C5 b = C b := fun b hb => by rw [x5.1 b hb, kb b hb]
      have r5 : rS 35 C5 w := rS_keep (fun b hb => by unfold rOwn at hb; exact c5C b (by omega)) hs
      have c11 : C5 1 1 = 0 := by rw [x5.2.1, jKnC_b (by decide) (by decide)]; exact (jOpn_s C).1
      have c14 : C5 1 4 = -1 := by rw [x5.2.2.2.2, jKnC_b (by decide) (by decide)]; exact (jOpn_s C).2.2.2
      have q1 := (r_list r5 v0 v1).1
      have q41 := (r_ord r5).1
      rw [sp_length, sp_rowsNow, hR, q1]
      simp only [Int.reduceAdd]
      rw [q41]
      refine ⟨⟨by omega, by omega⟩, ⟨by omega, by omega⟩, ?_⟩
      -- the model behind its text
      have mb : ∀ (D : jC) (post : Int → jC → Prop), (∀ b, ¬ (1 ≤ b ∧ b < 339) → D b = C b) → (∀ D', jGoG (jUse D) D' → D' 345 0 = 0 → D' 345 6 = 0 → D' 345 4 = C 345 4 → D' 346 = w → rGr C5 D' → wp_12_paste_112 (if w 273 + max 0 (i + R - w (298 + 2114 * v)) ≤ 24 then 0 else 1) v i c (w (298 + 2114 * v)) (jU D' 345 11 (-1)) post) → wp_12_paste v i c D post := by
        intro D post dC y
        refine mso D post dC (fun e0 e6 ei eL ew => ?_)
        refine run _ _ eL ew (fun D' d1 d2 => ?_)
        have w' : D' 346 = w := by rw [d1.1 346 (by decide) (by decide)]; exact ew
        rw [if_neg (by decide), w']
        unfold wp_12_paste_76
        rw [sp_throws0, if_pos rfl, sp_rows]
        have e346 : jU D' 345 11 (-1) 346 = w := by rw [jU_ne (by decide)]; exact w'
        have e16 : jU D' 345 11 (-1) 345 16 = R := by rw [jU_at, if_pos rfl, if_neg (by decide), d2.1, hR]
        rw [e346, e16]
        refine ⟨⟨by omega, by omega⟩, ⟨by omega, by omega⟩, ?_⟩
        have := y D' d1 (by rw [d1.2 0 (by decide) (by decide) (by decide) (by decide)]; exact e0) (by rw [d1.2 6 (by decide) (by decide) (by decide) (by decide)]; exact e6) (by rw [d1.2 4 (by decide) (by decide) (by decide) (by decide)]; exact ei) w' d2
        by_cases a : w 273 + max 0 (i + R - w (298 + 2114 * v)) ≤ 24
        · rw [if_pos a] at this ⊢; exact this
        · rw [if_neg a] at this ⊢; exact this
      by_cases full : w 273 + max 0 (i + R - w (298 + 2114 * v)) ≤ 24
      · rw [if_pos full]
        unfold wp_8_pasteGrids wp_8_beginEdit
        rw [if_neg (by omega), if_pos v1]
        show jL2 (wp_8_pasteGrids_36 35 v i c (51 + 72 * v + 29) (C5 (51 + 72 * v + 29) 1) _) 0 (jU C5 46 0 0)
        rw [q1]
        refine sp_pAll (d := C 352) r5 v0 v1 i0 i1 rfl (by omega) k3 c0 hR (by omega) R12 full (by omega) (sn := sn) (by rw [← hz]; exact hsn) sc (fun g g0 g1 => ?_) (fun E Wf df W0 D0 pj tr => ?_)
        · obtain ⟨-, -, -, -, p⟩ := gk
          exact p g g0 (by omega)
        have hW2 := pj.2.2.2.2.2.1
        have hWb := pj.2.2.2.1
        have hd5 := pj.2.2.2.2.2.2.2.2.2.2.2.1
        refine sp_pJoin r5 v0 v1 R12 (by omega) pj (fun H Vf V0 p1 p2 p3 p4 p4' p5 => ?_)
        generalize hW : Wf R = W at *
        generalize hd : df R = d at *
        generalize hn : W (298 + 2114 * v) - w (298 + 2114 * v) = n at *
        obtain ⟨-, -, -, hE⟩ := r_view p1 v0 v1
        obtain ⟨-, n0', n1', -⟩ := hE
        -- the end, for both
        have fin : ∀ (r : Int) (C3 : jC) (W3 : Int → Int), (∀ b, ¬ (36 ≤ b ∧ b < 339) → C3 b = C5 b) → rS 35 C3 W3 → W3 2 = W 2 → (∀ (D : jC) (post : Int → jC → Prop), D 346 = Vf n → D 352 = d → post r (jV D 346 W3) → wp_12_isEdit v D post) → oR (wp_12_paste v i c) (K + 12) r C3 := by
          intro r C3 W3 f1 f2 f3 f4
          have f1C : ∀ b, ¬ (1 ≤ b ∧ b < 339) → C3 b = C b := fun b hb => by rw [f1 b (by omega), c5C b (by omega)]
          unfold oR
          refine mb C3 _ f1C (fun D' d1 e0 e6 ei ew dg => ?_)
          rw [if_pos full]
          unfold wp_12_paste_112
          rw [sp_throws0, if_pos rfl]
          generalize hB : jU D' 345 11 (-1) = B
          have b346 : B 346 = w := by rw [← hB, jU_ne (by decide)]; exact ew
          have b352 : B 352 = C 352 := by rw [← hB, jU_ne (by decide), d1.1 352 (by decide) (by decide), jUse_b (by decide), f1C 352 (by omega)]
          have bG : rGr C5 B := rGr_eq (fun _ _ => rfl) (by rw [← hB, jU_at, if_pos rfl, if_neg (by decide)]) (by rw [← hB, jU_ne (by decide)]) dg
          have u2 : jU B 352 0 0 346 2 = w 2 := by rw [jU_ne (by decide), b346]
          rw [u2]
          refine jL2_of (fun k B' => 0 ≤ k ∧ k ≤ R ∧ B' = jV (jV B 346 (Wf k)) 352 (df k)) (fun k _ => (R - k).toNat) (fun K' k B' hi hk => ?_) ⟨Int.le_refl 0, by omega, ?_⟩
          · obtain ⟨j0, j1, rfl⟩ := hi
            have x346 : ∀ (f g : Int → Int), jV (jV B 346 f) 352 g 346 = f := fun f g => by rw [jV_ne (by decide), jV_eq]
            have xo : ∀ (f g : Int → Int) (b : Int), b ≠ 346 → b ≠ 352 → jV (jV B 346 f) 352 g b = B b := fun f g b h1 h2 => by rw [jV_ne h2, jV_ne h1]
            by_cases a : k = R
            · subst a
              unfold wp_12_paste_139
              rw [xo _ _ 345 (by decide) (by decide), bG.1, hR, if_pos (Int.le_refl _), hW, hd]
              refine jL2_of (fun key B' => ∃ t, 0 ≤ t ∧ t ≤ n ∧ key = w 2 + t ∧ B' = jV (jV B 346 (Vf t)) 352 d) (fun key _ => (w 2 + n - key).toNat) (fun K2 key B' hi2 hk2' => ?_) ⟨0, Int.le_refl 0, by omega, by omega, by rw [V0]⟩
              obtain ⟨t, t0, t1, rfl, rfl⟩ := hi2
              unfold wp_12_paste_212
              rw [x346, p4' t t0 t1]
              by_cases a2 : W 2 ≤ w 2 + t
              · rw [if_pos a2]
                have et : t = n := by omega
                subst et
                refine f4 _ _ (x346 _ _) (jV_eq _ _ _) ?_
                have fb : ∀ b, b ≠ 345 → b ≠ 346 → b ≠ 352 → b ≠ 353 → jV (jV (jV B 346 (Vf t)) 352 d) 346 W3 b = C3 b := fun b h1 h2 h3 h4 => by rw [jV_ne h2, xo _ _ b h2 h3, ← hB, jU_ne h1, d1.1 b h1 h4, jUse_b h1]
                have f345 : ∀ j, j ≠ 11 → jV (jV (jV B 346 (Vf t)) 352 d) 346 W3 345 j = D' 345 j := fun j h1 => by rw [jV_ne (by decide), xo _ _ 345 (by decide) (by decide), ← hB, jU_at, if_pos rfl, if_neg h1]
                refine ⟨by rw [f345 0 (by decide)]; exact e0, rfl, rAll_tx h (by omega) (fun b b1 b2 => by rw [fb b (by omega) (by omega) (by omega) (by omega), f1C b (by omega)]) ?_ ?_ ?_ ?_ ?_ ?_⟩
                · rw [fb 1 (by decide) (by decide) (by decide) (by decide), f1 1 (by omega)]; exact c11
                · rw [f345 6 (by decide)]; exact e6
                · rw [fb 1 (by decide) (by decide) (by decide) (by decide), f1 1 (by omega), jV_ne (by decide), xo _ _ 345 (by decide) (by decide), ← hB, jU_at, if_pos rfl, if_pos rfl]; exact c14
                · rw [f345 4 (by decide)]; exact ei
                · rw [jV_eq]
                  refine rS_keep (C := C3) (fun b hb => ?_) f2
                  unfold rOwn at hb
                  exact fb b (by omega) (by omega) (by omega) (by omega)
                · rw [jV_eq, f3]; omega
              · rw [if_neg a2]
                refine p5 t t0 (by omega) _ _ _ (x346 _ _) ?_
                refine hk2' _ _ ⟨t + 1, by omega, by omega, by omega, ?_⟩ (by omega)
                funext b
                by_cases b1 : b = 346
                · subst b1; rw [jV_eq, jV_ne (by decide), jV_eq]
                · rw [jV_ne b1]
                  by_cases b2 : b = 352
                  · subst b2; rw [jV_eq, jV_eq]
                  · rw [xo _ _ b b1 b2, xo _ _ b b1 b2]
            · refine tr k j0 (by omega) _ _ _ (x346 _ _) (jV_eq _ _ _) (rGr_eq (fun _ _ => rfl) (by rw [xo _ _ 345 (by decide) (by decide)]) (by rw [xo _ _ 353 (by decide) (by decide)]) bG) ?_
              refine hk _ _ ⟨by omega, by omega, ?_⟩ (by omega)
              funext b
              by_cases b2 : b = 352
              · subst b2; rw [jV_eq, jV_eq]
              · rw [jV_ne b2, jV_ne b2]
                by_cases b1 : b = 346
                · subst b1; rw [jV_eq, jV_eq]
                · rw [jV_ne b1, jV_ne b1, xo _ _ b b1 b2]
          · rw [W0, D0, ← b346, jV_id, ← b352]; rfl
        refine sp_finish p1 p2 (by omega) v0 v1 (fun e => ?_) (fun e C3 f1 f2 => ?_)
        · refine fin 0 H (Vf n) (fun b hb => p3 b hb) p1 p4 (fun D post d1 d2 z => ?_)
          refine sp_isEdit v0 v1 d1 n0' n1' (fun _ => ?_) (fun q => absurd (by rw [d2]; exact e) q)
          rw [← d1, jV_id] at z; exact z
        · refine fin (d 0) C3 _ (fun b hb => by rw [f1 b (by omega) (by omega), p3 b hb]) f2 ?_ (fun D post d1 d2 z => ?_)
          · rw [jEdW_lo (by unfold jEdN; split <;> omega) (by unfold jEdN; split <;> omega) (by omega)]; exact p4
          · refine sp_isEdit v0 v1 d1 n0' n1' (fun q => absurd (by rw [d2] at q; exact q) e) (fun _ => ?_)
            rw [d2]; exact z
      · rw [if_neg full]
        refine Or.inr (Or.inr (Or.inr ⟨trivial, ?_⟩))
        unfold oM
        refine mb C5 _ (fun b hb => c5C b (by omega)) (fun D' d1 e0 e6 ei ew dg => ?_)
        rw [if_neg full]
        unfold wp_12_paste_112
        rw [sp_throws1, if_neg (by decide)]
        have fb : ∀ b, b ≠ 345 → b ≠ 353 → jU (jU D' 345 11 (-1)) 345 0 4 b = C5 b := fun b h1 h2 => by rw [jU_ne h1, jU_ne h1, d1.1 b h1 h2, jUse_b h1]
        have f345 : ∀ j, j ≠ 0 → j ≠ 11 → jU (jU D' 345 11 (-1)) 345 0 4 345 j = D' 345 j := fun j h0 h4 => by rw [jU_at, if_pos rfl, if_neg h0, jU_at, if_pos rfl, if_neg h4]
        have w3 : jU (jU D' 345 11 (-1)) 345 0 4 346 = w := by rw [fb 346 (by decide) (by decide), c5C 346 (by omega), hw]
        refine ⟨m0_0 _ _, rAll_tx h (by omega) (fun b b1 b2 => ?_) ?_ ?_ ?_ ?_ ?_ ?_⟩
        · rw [fb b (by omega) (by omega), c5C b (by omega)]
        · rw [fb 1 (by decide) (by decide)]; exact c11
        · rw [f345 6 (by decide) (by decide)]; exact e6
        · rw [fb 1 (by decide) (by decide), jU_at, if_pos rfl, if_neg (by decide), jU_at, if_pos rfl, if_pos rfl]; exact c14
        · rw [f345 4 (by decide) (by decide)]; exact ei
        · rw [w3]
          refine rS_keep (C := C) (fun b hb => ?_) hs
          unfold rOwn at hb
          rw [fb b (by omega) (by omega), c5C b (by omega)]
        · rw [w3]; omega
    -- the class reads
    have mr : ∀ (D2 : jC) (post : Int → jC → Prop), jML T m 0 D2 → D2 346 = w → (∀ D3, jGoG D2 D3 → jML T m 0 D3 → D3 346 = w → rGr (jKnC (jOpn C)) D3 → jL1 (wp_12_readGrids_5 v c post) D3) → wp_12_readGrids v c D2 post := by
      intro D2 post eL ew y
      unfold wp_12_readGrids
      have g := jGoG_16 D2 0
      refine y _ g (jML_G eL g (by rw [jU_at, if_pos rfl, if_neg (by decide)]; exact eL.2.1) (by omega) m0) (by rw [jU_ne (by decide)]; exact ew) ⟨by rw [jU_at, if_pos rfl, if_pos rfl, sC.2.1], by rw [sC.2.1]; omega, by rw [sC.2.1]; omega, fun g g0 g1 => by rw [sC.2.1] at g1; omega⟩
    unfold wp_9_readGrids wp_9_knowColumns
    rw [show (36 : Int) + 1 = 37 from rfl]
    refine sp_cGrids (C := jKnC (jOpn C)) (v := v) (w := w) (N := w 0) (hd := jHd z) F cl0 gk0 sC.2.1 k3 (fun c c0 c1 => (r_kind hs c0 c1).2) (fun _ _ _ => rfl) rfl c0 (by omega) (fun c c0 c1 => ⟨jHd_01 _ _, hd_c (by rw [kb _ (by omega), ← g1 _ (by omega)]; exact z29) c0 c1⟩) (fun c c0 c1 D hD => hd_m v0 v1 (by rw [hD, hz])) hsn sc (fun e P L C5 e' x L0 L12 e0 P0 tr eL P1 P2 pp xm x5 gk5 n5 ee => ?_) (fun e P L C5 x L0 e0 P0 tr eL P1 P2 why x5 => ?_)
    · rw [if_neg (by decide)]
      refine good C5 (L + 1) x5 gk5 n5 (by omega) (by omega) (fun D2 post eL2 ew y => ?_)
      refine mr D2 post eL2 ew (fun D3 d1 d2 d3 d4 => ?_)
      refine sp_mGrids L0 (by omega) tr eL (by rw [P0]; exact d2) d3 (by rw [e0]; exact d4) (fun K' D' q1 q2 q3 q4 => ?_)
      refine sp_mGr1 pp P1 P2 (by omega) q2 q3 q4 (fun z => by omega) (fun _ D4 f1 f2 => ?_) (fun z => by omega)
      exact y D4 (jGoG_t d1 (jGoG_t q1 f1)) (rGr_eq ee rfl rfl f2)
    · rw [if_pos rfl]
      refine Or.inr (Or.inr (Or.inl ⟨rfl, bad C5 x x5 (fun D2 post eL2 ew y => ?_)⟩))
      refine mr D2 post eL2 ew (fun D3 d1 d2 d3 d4 => ?_)
      have L12 : L ≤ 12 := by rcases why with z | z <;> omega
      refine sp_mGrids L0 L12 tr eL (by rw [P0]; exact d2) d3 (by rw [e0]; exact d4) (fun K' D' q1 q2 q3 q4 => ?_)
      rcases why with ⟨z1, z2⟩ | ⟨z1, pp | ⟨e', x', pp, z2, z3, z4⟩⟩
      · unfold wp_12_readGrids_5
        refine sp_mBlanks q2 (fun D4 f1 f7 f9 => ?_)
        rw [f1.2 16 (by decide) (by decide), q4.1, eL, if_pos z1]
        exact y D4 (jGoG_t d1 (jGoG_t q1 (jGoG_N f1))) (by rw [f9, z2])
      · unfold wp_12_readGrids_5
        have xb := jBl_m q2
        refine sp_mBlanks q2 (fun D4 f1 f7 f9 => ?_)
        have r4 : rGr (e L) D4 := rGr_eq (fun _ _ => rfl) (f1.2 16 (by decide) (by decide)) (f1.1 353 (by decide)) q4
        rw [r4.1, eL, if_neg (by omega)]
        refine pp D4 _ (jML_goN q2 f1 f7 (by omega) xb.2) (by rw [f1.1 346 (by decide)]; exact q3) r4 (fun z => absurd z (by decide)) (fun _ D5 p1 p2 => ?_)
        rw [if_pos rfl]
        exact y D5 (jGoG_t d1 (jGoG_t q1 (jGoG_t (jGoG_N f1) p1))) p2
      · refine sp_mGr1 pp P1 P2 (by omega) q2 q3 q4 (fun _ z => absurd z z3) (fun z => by omega) (fun _ _ D4 f1 f2 => ?_)
        exact y D4 (jGoG_t d1 (jGoG_t q1 f1)) (by rw [f2, z4])
  · rw [if_neg hv]
    refine Or.inr (Or.inl ⟨rfl, ?_⟩)
    have h1 : jHd z c = 1 := by have := jHd_01 z c; omega
    unfold oM
    refine ms0 G _ (by rw [g1 346 (by decide)]; exact hw) ?_
    rw [h1, sp_throws1, if_neg (by decide)]
    exact ⟨m0_0 _ _, thr 2⟩

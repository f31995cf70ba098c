theorem sp_cFil {T : Int → Int} {m p z : Int} {C : jC} (h : jCL T m p C) (hk : jLk C) {post : Int → jC → Prop}
    (y1 : ∀ (C' : jC) (x : Int), p < x → jXt C C' → jCL T m x C' → jLk C' → jPM (fun v D q => wp_12_readFilter v D q) T m p z C C' 1 x → post 1 C')
    (y0 : ∀ (C' : jC) (x : Int), jXf C C' x → jPM (fun v D q => wp_12_readFilter v D q) T m p z C C 0 x → post 0 C') : wp_9_readFilter C post := by
  obtain ⟨k1, k2, k3, k4, k5, k6, k7, k8, k9⟩ := id hk
  have m4 := h.2.2.2.2.1
  have p0 := h.2.2.1
  have hb := jBl_b h
  have s4 : jSlen 4 = 2 := rfl
  have du := jDg_up (T := T) (show 0 ≤ jBl T m p by omega) hb.2 m4
  unfold wp_9_readFilter
  refine sp_cCol h (N := C 3 0) rfl ?_ ?_
  · generalize hbb : jBl T m p = b at *
    generalize hd : jDg T m b = d at *
    generalize hv : jNum T b (d - b) = c at *
    intro d1 d3 vN C2 g2 h2 v5 b6
    have nr := jNum_rng (T := T) (m := m) (f := b) (d := d - b) (fun i i0 i1 => du.2.2.1 i i0 (by omega)) (by omega) d3
    rw [hv] at nr
    have c0 : 0 ≤ c := nr.1
    have c5 : c < 5 := by omega
    have xt := jXt_go g2
    rw [if_neg (by decide), v5]
    unfold wp_2_filterOf
    rw [if_neg (by omega), if_neg (by omega), show (7 : Int) + 1 + 2 + 5 * c = 10 + 5 * c by omega]
    dsimp only
    rw [if_neg (by omega)]
    generalize hf : 10 + 5 * c = f at *
    have ff : f = 10 + 5 * c := hf.symm
    have cf := k9 c c0 c5
    rw [hf] at cf
    have e2f : C2 f = C f := g2.1 f (by omega)
    rw [e2f]
    have kd := k8 c c0 c5
    -- the model as far as the sign behind the column
    have mc : ∀ (v : Int) (D : jC) (q : Int → jC → Prop), 0 ≤ v → v < 4 → jML T m p D → jLr C (D 346) v → (∀ D', jGoM D D' → jML T m d D' → D' 345 9 = b → (if 0 < C f 0 then q 0 D' else wp_12_sign 58 D' (fun x18 C19 => if x18 = 0 then q 0 C19 else jL2 (wp_12_readFilter_47 v c q) 0 C19))) → wp_12_readFilter v D q := by
      intro v D q v0 v1 hD hl y
      obtain ⟨l1, l2, l3⟩ := hl
      unfold wp_12_readFilter wp_12_columns
      dsimp only
      rw [l1]
      refine ⟨⟨by omega, by omega⟩, ?_⟩
      refine sp_mCol hD k6 k7 ?_ ?_
      · rw [hbb, hd, hv]
        intro _ _ _ D' g1 g3 g4 g5
        have yy := y D' g1 g3 g5
        have w29 : D' 346 (298 + 2114 * v + (30 + 31 * c)) = C f 0 := by
          have := (l3.2.2.2.2.2.2.2.1 c c0 c5).1
          rw [show (7 : Int) + 3 + 5 * c = f by omega] at this
          rw [g1.1 346 (by decide), this]
          congr 1; omega
        rw [if_neg (by decide), g4, sp_filterAt v0 v1 c0 c5, w29]
        exact ⟨by omega, by omega, yy⟩
      · rw [hbb, hd, hv]
        exact fun q => absurd ⟨d1, d3, vN⟩ q
    by_cases e0 : C f 0 ≤ 0
    · rw [if_pos e0]
      have z0' : C f 0 = 0 := by omega
      refine sp_cSign h2 (by decide) (by decide) (fun q1 q2 C3 g3 h3 => ?_) (fun nq C3 g3 h3 => ?_)
      · rw [if_neg (by decide)]
        have x3 := jXt_t xt (jXt_go (jGo3_go g3))
        have c3b : ∀ b', b' ≠ 1 → C3 b' = C b' := fun b' h1 => by rw [g3.1 b' h1, g2.1 b' h1]
        -- the model as far as the tests
        have mt : ∀ (v : Int) (D : jC) (q : Int → jC → Prop), 0 ≤ v → v < 4 → jML T m p D → jLr C (D 346) v → (∀ D', jGoM D D' → jML T m (jBl T m d + 1) D' → jL2 (wp_12_readFilter_47 v c q) 0 D') → wp_12_readFilter v D q := by
          intro v D q v0 v1 hD hl y
          refine mc v D q v0 v1 hD hl (fun D' e1 e2 e3 => ?_)
          rw [if_neg (by omega)]
          refine sp_mSign e2 (fun _ _ D2 e4 e5 => ?_) (fun z => absurd ⟨q1, q2⟩ z)
          rw [if_neg (by decide)]
          exact y D2 (jGoM_t e1 (jGoN_M e4)) e5
        have b2u := jBl_up (T := T) h2.2.2.1 h2.2.2.2.1 m4
        have loop : ∀ o : Int, (C 4 c = 0 → o = 1) → (C 4 c = 1 → o = 0) → jL2 (wp_9_readFilter_76 f o post) 0 C3 := by
          intro o o1 o0
          refine jL2_of (fun k E => 0 ≤ k ∧ k ≤ 6 ∧ jXt C E ∧ E f 0 = k ∧ (∀ b', b' ≠ 1 → ¬ (f ≤ b' ∧ b' ≤ f + 4) → E b' = C b') ∧ ∃ P X : Int → Int, P 0 = jBl T m d + 1 ∧ jTt T m (C 4 c) f E P X k ∧ p < P k ∧ jCL T m (P k) E) (fun k _ => (6 - k).toNat) (fun K k E hi hk1 => ?_) ⟨by omega, by omega, x3, by rw [c3b f (by omega)]; exact z0', fun b' h1 _ => c3b b' h1, fun _ => jBl T m d + 1, fun _ => 0, rfl, fun j a b => by omega, by show p < jBl T m d + 1; have := b2u.1; have := du.1; omega, h3⟩
          obtain ⟨i0, i1, i2, i3, i4, P, X, P0, tt, Pp, iL⟩ := hi
          have Pku := jBl_up (T := T) iL.2.2.1 iL.2.2.2.1 m4
          have Pkb := jBl_bl (T := T) iL.2.2.1 iL.2.2.2.1 m4
          unfold wp_9_readFilter_76
          by_cases a : 6 ≤ k
          · rw [if_pos a]
            refine sp_cBl3 iL (fun C4 g4 h4 => ?_)
            unfold wp_5_failHere
            rw [h4.2.1]
            refine ⟨Or.inl rfl, y0 _ _ (jXf_bad (jXt_t i2 (jXt_go (jGo3_go g4))) (jBad_u _ _)) ?_⟩
            intro v D q v0 v1 hD h9 hl y1 y0
            refine mt v D q v0 v1 hD hl (fun D' e1 e2 => ?_)
            have kd2 : D' 346 (4 + c) = C 4 c := by rw [e1.1 346 (by decide)]; exact hl.2.1 c c0 c5
            refine sp_mTests tt m4 i0 i1 v0 v1 c0 c5 (by rw [P0]; exact e2) kd2 (fun K2 D2 e3 e4 e5 => ?_)
            unfold wp_12_readFilter_47
            refine sp_mBlanks e4 (fun D3 e6 e7 e8 => ?_)
            rw [if_pos (by omega)]
            refine y0 rfl D3 (jGoW_t (jGoW_M e1) (jGoW_t e3 (jGoW_N e6))) e8 (fun j hj => ?_)
            rw [e6.1 346 (by decide), e5.2 j (by omega), e1.1 346 (by decide)]
          · rw [if_neg a]
            refine sp_test2 (p' := jBl T m (P k)) iL Pkb (by have := Pku.1; have := iL.2.2.1; omega) Pku.2.1 (by omega) (by omega) i3 i0 (by omega) kd o1 o0 (post := fun x C9 => if x = 0 then post 0 C9 else wp_9_readFilter_143 f o k C9 post K) (post1 := fun C9 => wp_9_readFilter_143 f o k C9 post K) (fun C9 z => by rw [if_neg (by decide)] at z; exact z) (fun C4 x ta tb tc td t1 t2 t3 t4 t5 => ?_) (fun C4 x t1 t2 => ?_)
            · rw [if_neg (by decide)]
              unfold wp_9_readFilter_143
              obtain ⟨u1, u2, u3, u4, u5, u6⟩ := t4
              have tt4 : jTt T m (C 4 c) f C4 P X k := by
                intro j j0 j1
                obtain ⟨r1, r2, r3, r4, r5, r6, r7⟩ := tt j j0 j1
                refine ⟨r1, r2, r3, r4, ?_, r6, r7⟩
                rw [u3 j, u4 j, u5 j, u6 j, if_neg (by omega), if_neg (by omega), if_neg (by omega), if_neg (by omega)]
                exact r5
              have t5' : jTM T m (jBl T m (P k)) (C 4 c) 1 x (fun v1 v2 v3 v4 v5 => rTest (C 4 c) (C4 (f + 1) k) (C4 (f + 2) k) (C4 (f + 3) k) (C4 (f + 4) k) v1 v2 v3 v4 v5) := by
                rw [u3 k, u4 k, u5 k, u6 k, if_pos rfl, if_pos rfl, if_pos rfl, if_pos rfl]
                exact t5
              have x4 := jXt_t i2 t2
              have c4b : ∀ b', b' ≠ 1 → ¬ (f ≤ b' ∧ b' ≤ f + 4) → C4 b' = C b' := fun b' h1 h2 => by rw [u1 b' h1 h2, i4 b' h1 h2]
              have xu := jBl_up (T := T) t3.2.2.1 t3.2.2.2.1 m4
              refine sp_cTakeWord t3 (by decide) (fun w4 C5 g5 h5 => ?_) (fun w4 C5 g5 h5 => ?_)
              · rw [if_neg (by decide)]
                rw [s4] at h5
                obtain ⟨P', eP⟩ : ∃ P' : Int → Int, ∀ j, P' j = if j = k + 1 then jBl T m x + 2 else P j := ⟨_, fun _ => rfl⟩
                obtain ⟨X', eX⟩ : ∃ X' : Int → Int, ∀ j, X' j = if j = k then x else X j := ⟨_, fun _ => rfl⟩
                have g5b : ∀ b', b' ≠ 1 → C5 b' = C4 b' := fun b' h1 => g5.1 b' h1
                refine ⟨⟨by omega, by omega⟩, hk1 _ _ ⟨by omega, by omega, jXt_t x4 (jXt_go (jGo3_go g5)), by rw [g5b f (by omega)]; exact u2, fun b' h1 h2 => by rw [g5b b' h1, c4b b' h1 h2], P', X', by rw [eP, if_neg (by omega)]; exact P0, fun j j0 j1 => ?_, by rw [eP, if_pos rfl]; have := xu.1; omega, by rw [eP, if_pos rfl]; exact h5⟩ (by omega)⟩
                rw [eP, eX, eP, g5b (f + 1) (by omega), g5b (f + 2) (by omega), g5b (f + 3) (by omega), g5b (f + 4) (by omega)]
                by_cases e : j = k
                · subst e
                  rw [if_neg (by omega), if_pos rfl, if_pos rfl]
                  exact ⟨iL.2.2.1, iL.2.2.2.1, t3.2.2.1, t3.2.2.2.1, t5', w4, rfl⟩
                · rw [if_neg (by omega), if_neg e, if_neg (by omega)]
                  exact tt4 j j0 (by omega)
              · rw [if_pos rfl]
                have g5b : ∀ b', b' ≠ 1 → C5 b' = C4 b' := fun b' h1 => g5.1 b' h1
                have c5b : ∀ b', b' ≠ 1 → ¬ (f ≤ b' ∧ b' ≤ f + 4) → C5 b' = C b' := fun b' h1 h2 => by rw [g5b b' h1, c4b b' h1 h2]
                have lk5 : jLk C5 := by
                  refine ⟨by rw [c5b 7 (by decide) (by omega)]; exact k1, by rw [c5b 7 (by decide) (by omega)]; exact k2, by rw [c5b 7 (by decide) (by omega), c5b 9 (by decide) (by omega), c5b 3 (by decide) (by omega)]; exact k3, by rw [c5b 7 (by decide) (by omega)]; exact k4, by rw [c5b 7 (by decide) (by omega)]; exact k5, by rw [c5b 3 (by decide) (by omega)]; exact k6, by rw [c5b 3 (by decide) (by omega)]; exact k7, by rw [c5b 4 (by decide) (by omega)]; exact k8, fun c' c'0 c'1 => ?_⟩
                  by_cases e : c' = c
                  · rw [e, hf, g5b f (by omega), u2]; omega
                  · rw [c5b _ (by omega) (by omega)]; exact k9 c' c'0 c'1
                refine y1 C5 (jBl T m x) (by have := xu.1; omega) (jXt_t x4 (jXt_go (jGo3_go g5))) h5 lk5 ?_
                intro v D q v0 v1 hD h9 hl y1 y0
                refine mt v D q v0 v1 hD hl (fun D' e1 e2 => ?_)
                have DW : D' 346 = D 346 := e1.1 346 (by decide)
                have kd2 : D' 346 (4 + c) = C 4 c := by rw [DW]; exact hl.2.1 c c0 c5
                refine sp_mTests tt4 m4 i0 i1 v0 v1 c0 c5 (by rw [P0]; exact e2) kd2 (fun K2 D2 e3 e4 e5 => ?_)
                unfold wp_12_readFilter_47
                refine sp_mBlanks e4 (fun D3 e6 e7 e8 => ?_)
                rw [if_neg (by omega)]
                have h33 : jML T m (jBl T m (P k)) D3 := jML_goN e4 e6 e7 (by have := Pku.1; have := iL.2.2.1; omega) Pku.2.1
                refine sp_testAt v0 v1 c0 c5 i0 (by omega) ?_
                have w3 : D3 346 = D2 346 := e6.1 346 (by decide)
                refine t5' c _ D3 _ c0 c5 (by omega) (by omega) h33 (by rw [w3, e5.2 _ (by omega)]; exact kd2) (fun _ D4 f1 f2 f3 f4 => ?_) (fun z => absurd z (by decide))
                rw [if_neg (by decide)]
                refine sp_mPass f2 (by decide) (fun z => absurd z w4) (fun _ D5 f5 f6 _ => ?_)
                rw [if_pos rfl, sp_filterAt v0 v1 c0 c5]
                refine ⟨by omega, by omega, ⟨by omega, by omega⟩, ?_⟩
                rw [w3] at f3
                have tw := jTwd_s i0 (by omega) e5 f3 f4
                rw [DW] at tw
                have w5 : D5 346 = D4 346 := f5.1 346 (by decide)
                have gY : jGoW D5 (jU D5 346 (298 + 2114 * v + (30 + 31 * c)) (k + 1)) := jGoW_U _ _ _
                have wY : ∀ j, jU D5 346 (298 + 2114 * v + (30 + 31 * c)) (k + 1) 346 j = if j = 298 + 2114 * v + 30 + 31 * c then k + 1 else D4 346 j := fun j => by rw [jU_at, if_pos rfl, w5, show 298 + 2114 * v + (30 + 31 * c) = 298 + 2114 * v + 30 + 31 * c by omega]
                have hml : jML T m (jBl T m x) (jU D5 346 (298 + 2114 * v + (30 + 31 * c)) (k + 1)) := jML_W f6 gY (by rw [jU_ne (by decide)]; exact f6.2.1) f6.2.2.1 f6.2.2.2.1
                generalize jU D5 346 (298 + 2114 * v + (30 + 31 * c)) (k + 1) = Y at *
                obtain ⟨l1, l2, l3⟩ := hl
                obtain ⟨m1, m2, m3, m5, m6, m7, m8, m9, m10⟩ := l3
                have wo : ∀ j, ¬ (298 + 2114 * v + 30 + 31 * c ≤ j ∧ j < 298 + 2114 * v + 30 + 31 * c + 31) → Y 346 j = D 346 j := fun j h1 => by rw [wY, if_neg (by omega), tw.2 j (by omega)]
                have wi : ∀ j, 298 + 2114 * v + 30 + 31 * c + 1 ≤ j → Y 346 j = D4 346 j := fun j h1 => by rw [wY, if_neg (by omega)]
                refine y1 rfl Y (jGoW_t (jGoW_M e1) (jGoW_t e3 (jGoW_t (jGoW_N e6) (jGoW_t f1 (jGoW_t (jGoW_N f5) gY))))) hml ⟨by rw [wo 0 (by omega), c5b 3 (by decide) (by omega)]; exact l1, fun c' c'0 c'1 => by rw [wo _ (by omega), c5b 4 (by decide) (by omega)]; exact l2 c' c'0 c'1, ?_⟩ (fun j hj => wo j (by omega))
                unfold rLens
                simp only [Int.reduceAdd] at m5 m9 ⊢
                rw [c5b 7 (by decide) (by omega), c5b 9 (by decide) (by omega), wo (298 + 2114 * v + 25) (by omega), wo (298 + 2114 * v + 29) (by omega), wo 0 (by omega)]
                refine ⟨m1, m2, m3, fun k a b => by rw [wo _ (by omega)]; exact m5 k a b, m6, m7, m8, fun c' c'0 c'1 => ?_, fun c' c'0 c'1 => by rw [wo _ (by omega)]; exact m10 c' c'0 c'1⟩
                by_cases e : c' = c
                · subst e
                  unfold rFil
                  rw [hf, wo (4 + c') (by omega), l2 c' c0 c5, g5b f (by omega), u2, g5b (f + 1) (by omega), g5b (f + 2) (by omega), g5b (f + 3) (by omega), g5b (f + 4) (by omega), wY (298 + 2114 * v + 30 + 31 * c'), if_pos rfl]
                  refine ⟨rfl, by omega, by omega, fun i a b => ?_⟩
                  rw [wi (298 + 2114 * v + 30 + 31 * c' + 1 + 5 * i) (by omega), wi (298 + 2114 * v + 30 + 31 * c' + 1 + 5 * i + 1) (by omega), wi (298 + 2114 * v + 30 + 31 * c' + 1 + 5 * i + 2) (by omega), wi (298 + 2114 * v + 30 + 31 * c' + 1 + 5 * i + 3) (by omega), wi (298 + 2114 * v + 30 + 31 * c' + 1 + 5 * i + 4) (by omega)]
                  exact tw.1 i a b
                · have f := m9 c' c'0 c'1
                  unfold rFil at f ⊢
                  rw [c5b (10 + 5 * c') (by omega) (by omega), c5b (10 + 5 * c' + 1) (by omega) (by omega), c5b (10 + 5 * c' + 2) (by omega) (by omega), c5b (10 + 5 * c' + 3) (by omega) (by omega), c5b (10 + 5 * c' + 4) (by omega) (by omega), wo (4 + c') (by omega), wo (298 + 2114 * v + 30 + 31 * c') (by omega)]
                  obtain ⟨r1, r2, r3, r4⟩ := f
                  refine ⟨r1, r2, r3, fun k a b => ?_⟩
                  rw [wo (298 + 2114 * v + 30 + 31 * c' + 1 + 5 * k) (by omega), wo (298 + 2114 * v + 30 + 31 * c' + 1 + 5 * k + 1) (by omega), wo (298 + 2114 * v + 30 + 31 * c' + 1 + 5 * k + 2) (by omega), wo (298 + 2114 * v + 30 + 31 * c' + 1 + 5 * k + 3) (by omega), wo (298 + 2114 * v + 30 + 31 * c' + 1 + 5 * k + 4) (by omega)]
                  exact r4 k a b
            · rw [if_pos rfl]
              refine y0 C4 x (jXf_tx i2 t1) ?_
              intro v D q v0 v1 hD h9 hl y1 y0
              refine mt v D q v0 v1 hD hl (fun D' e1 e2 => ?_)
              have DW : D' 346 = D 346 := e1.1 346 (by decide)
              have kd2 : D' 346 (4 + c) = C 4 c := by rw [DW]; exact hl.2.1 c c0 c5
              refine sp_mTests tt m4 i0 i1 v0 v1 c0 c5 (by rw [P0]; exact e2) kd2 (fun K2 D2 e3 e4 e5 => ?_)
              unfold wp_12_readFilter_47
              refine sp_mBlanks e4 (fun D3 e6 e7 e8 => ?_)
              rw [if_neg (by omega)]
              have h33 : jML T m (jBl T m (P k)) D3 := jML_goN e4 e6 e7 (by have := Pku.1; have := iL.2.2.1; omega) Pku.2.1
              refine sp_testAt v0 v1 c0 c5 i0 (by omega) ?_
              have w3 : D3 346 = D2 346 := e6.1 346 (by decide)
              refine t2 c _ D3 _ c0 c5 (by omega) (by omega) h33 (by rw [w3, e5.2 _ (by omega)]; exact kd2) (fun z => absurd z (by decide)) (fun _ D4 f1 f2 f3 => ?_)
              rw [if_pos rfl]
              refine y0 rfl D4 (jGoW_t (jGoW_M e1) (jGoW_t e3 (jGoW_t (jGoW_N e6) f1))) f2 (fun j hj => ?_)
              rw [f3 j (by omega), w3, e5.2 j (by omega), DW]
        unfold wp_9_kindAsked
        rw [c3b 3 (by decide), c3b 4 (by decide), if_neg (by omega), if_neg (by omega), if_neg (by omega)]
        show (if C 4 c = 0 then jL2 (wp_9_readFilter_76 f 1 post) 0 C3 else jL2 (wp_9_readFilter_76 f 0 post) 0 C3)
        rcases kd with e | e
        · rw [if_pos e]
          exact loop 1 (fun _ => rfl) (fun q => by omega)
        · rw [if_neg (by omega)]
          exact loop 0 (fun q => by omega) (fun _ => rfl)
      · rw [if_pos rfl]
        unfold wp_5_failHere
        rw [h3.2.1]
        refine ⟨Or.inl rfl, y0 _ _ (jXf_bad (jXt_t xt (jXt_go (jGo3_go g3))) (jBad_u _ _)) ?_⟩
        intro v D q v0 v1 hD h9 hl y1 y0
        refine mc v D q v0 v1 hD hl (fun D' e1 e2 e3 => ?_)
        rw [if_neg (by omega)]
        refine sp_mSign e2 (fun q1 q2 => absurd ⟨q1, q2⟩ nq) (fun _ D2 e4 e5 e6 => ?_)
        rw [if_pos rfl]
        exact y0 rfl D2 (jGoW_t (jGoW_M e1) (jGoW_N e4)) e6 (fun j _ => by rw [e4.1 346 (by decide), e1.1 346 (by decide)])
    · rw [if_neg e0]
      unfold wp_5_failAt
      rw [b6]
      refine ⟨Or.inl rfl, y0 _ b (jXf_bad xt (jBad_u _ _)) ?_⟩
      intro v D q v0 v1 hD h9 hl y1 y0
      refine mc v D q v0 v1 hD hl (fun D' e1 e2 e3 => ?_)
      rw [if_pos (by omega)]
      exact y0 rfl D' (jGoW_M e1) e3 (fun j _ => by rw [e1.1 346 (by decide)])
  · intro nd C2 g2
    rw [if_pos rfl]
    refine y0 C2 _ (jXf_bad (jXt_r C) g2) ?_
    intro v D q v0 v1 hD h9 hl z1 z0
    obtain ⟨l1, l2, l3⟩ := hl
    unfold wp_12_readFilter wp_12_columns
    dsimp only
    rw [l1]
    refine ⟨⟨by omega, by omega⟩, ?_⟩
    refine sp_mCol hD k6 k7 (fun q1 q2 q3 => absurd ⟨q1, q2, q3⟩ nd) (fun _ D' g3 g4 => ?_)
    rw [if_pos rfl]
    exact z0 rfl D' (jGoW_M g3) g4 (fun j _ => by rw [g3.1 346 (by decide)])

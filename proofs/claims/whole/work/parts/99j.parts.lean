theorem jLr_eq {e e2 : jC} {w : Int → Int} {v : Int} (h : ∀ b, b ≠ 1 → e2 b = e b) (hl : jLr e w v) : jLr e2 w v := by
  obtain ⟨l1, l2, l3⟩ := hl
  refine ⟨by rw [h 3 (by decide)]; exact l1, by rw [h 4 (by decide)]; exact l2, ?_⟩
  unfold rLens at l3 ⊢
  rw [h 7 (by decide), h (7 + 2) (by decide)]
  obtain ⟨q1, q2, q3, q4, q5, q6, q7, q8, q9⟩ := l3
  refine ⟨q1, q2, q3, q4, q5, q6, q7, fun c c0 c1 => ?_, q9⟩
  have f := q8 c c0 c1
  unfold rFil at f ⊢
  rw [h (7 + 3 + 5 * c) (by omega), h (7 + 3 + 5 * c + 1) (by omega), h (7 + 3 + 5 * c + 2) (by omega), h (7 + 3 + 5 * c + 3) (by omega), h (7 + 3 + 5 * c + 4) (by omega)]
  exact f
theorem jLk_eq {e e2 : jC} (h : ∀ b, b ≠ 1 → e2 b = e b) (hl : jLk e) : jLk e2 := by
  unfold jLk at hl ⊢
  rw [h 7 (by decide), h 9 (by decide), h 3 (by decide), h 4 (by decide)]
  obtain ⟨q1, q2, q3, q4, q5, q6, q7, q8, q9⟩ := hl
  exact ⟨q1, q2, q3, q4, q5, q6, q7, q8, fun c c0 c1 => by rw [h _ (by omega)]; exact q9 c c0 c1⟩
/-- what the model makes of a part -/
def jPP (T : Int → Int) (m p : Int) (e e' : jC) (r x : Int) : Prop := ∀ z, jPM (fun v D q => wp_12_readPart v D q) T m p z e e' r x
theorem sp_cPart {T : Int → Int} {m p : Int} {C : jC} (h : jCL T m p C) (hk : jLk C) {post : Int → jC → Prop}
    (y1 : ∀ (C' : jC) (x : Int), p < x → jXt C C' → jCL T m x C' → jLk C' → jPP T m p C C' 1 x → post 1 C')
    (y0 : ∀ (C' : jC) (x : Int), jXf C C' x → jPP T m p C C 0 x → post 0 C') : wp_9_readPart C post := by
  have m4 := h.2.2.2.2.1
  have p0 := h.2.2.1
  have p1 := h.2.2.2.1
  have hb := jBl_b h
  have bb := jBl_bl (T := T) p0 p1 m4
  have s8 : jSlen 8 = 2 := rfl
  have s9 : jSlen 9 = 4 := rfl
  have s10 : jSlen 10 = 4 := rfl
  unfold wp_9_readPart
  refine sp_cBl3 h (fun C1 g1 h1 => ?_)
  generalize hbb : jBl T m p = b at *
  rw [h1.2.1, sp_isDigit h1 (by omega)]
  have lk1 := jLk_eq g1.1 hk
  have x1 := jXt_go (jGo3_go g1)
  -- the model: no word
  have mno : ∀ (v : Int) (D : jC) (q : Int → jC → Prop), ¬ jWq T m b 8 → ¬ jWq T m b 9 → ¬ jWq T m b 10 → jML T m p D → (∀ D', jGoN D D' → jML T m b D' → D' 345 9 = b → wp_12_readFilter v D' (fun x16 C17 => ((x16 = 0 ∨ x16 = 1) ∧ q x16 C17))) → wp_12_readPart v D q := by
    intro v D q w8 w9 w10 hD y
    unfold wp_12_readPart
    refine sp_mPass hD (by decide) ?_ ?_
    · rw [hbb]; exact fun z => absurd z w8
    rw [hbb]
    intro _ D1 e1 e2 _
    rw [if_pos rfl]
    refine sp_mPass e2 (by decide) ?_ ?_
    · rw [bb]; exact fun z => absurd z w9
    rw [bb]
    intro _ D2 e3 e4 _
    rw [if_pos rfl]
    refine sp_mPass e4 (by decide) ?_ ?_
    · rw [bb]; exact fun z => absurd z w10
    rw [bb]
    intro _ D3 e5 e6 e7
    rw [if_pos rfl]
    exact y D3 (jGoN_t e1 (jGoN_t e3 e5)) e6 e7
  by_cases dg : b < m ∧ jIsD T b = 1
  · have l1 : (if b < m ∧ jIsD T b = 1 then (1 : Int) else 0) = 1 := if_pos dg
    rw [l1, if_neg (by decide)]
    have nl : ∀ q : Nat, q < 11 → ¬ jWq T m b q := by
      intro q hq w
      have := jWq_let hq w
      have d := dg.2
      unfold jIsD at d
      split at d <;> omega
    refine sp_cFil (z := b) h1 lk1 (fun C2 x px t1 t2 t3 t4 => ⟨Or.inr rfl, y1 C2 x (by omega) (jXt_t x1 t1) t2 t3 ?_⟩) (fun C2 x t1 t4 => ⟨Or.inl rfl, y0 C2 x (jXf_tx x1 t1) ?_⟩)
    · intro z v D q v0 v1 hD h9 hl z1 z0
      refine mno v D q (nl 8 (by decide)) (nl 9 (by decide)) (nl 10 (by decide)) hD (fun D' e1 e2 e3 => ?_)
      have ew : D' 346 = D 346 := e1.1 346 (by decide)
      refine t4 v D' _ v0 v1 e2 e3 (jLr_eq g1.1 (by rw [ew]; exact hl)) (fun _ D2 f1 f2 f3 f4 => ⟨Or.inr rfl, z1 rfl D2 (jGoW_t (jGoW_N e1) f1) f2 f3 (by rw [ew] at f4; exact f4)⟩) (fun z => absurd z (by decide))
    · intro z v D q v0 v1 hD h9 hl z1 z0
      refine mno v D q (nl 8 (by decide)) (nl 9 (by decide)) (nl 10 (by decide)) hD (fun D' e1 e2 e3 => ?_)
      have ew : D' 346 = D 346 := e1.1 346 (by decide)
      refine t4 v D' _ v0 v1 e2 e3 (jLr_eq g1.1 (by rw [ew]; exact hl)) (fun z => absurd z (by decide)) (fun _ D2 f1 f2 f3 => ⟨Or.inl rfl, z0 rfl D2 (jGoW_t (jGoW_N e1) f1) f2 (by rw [ew] at f3; exact f3)⟩)
  · have l0 : (if b < m ∧ jIsD T b = 1 then (1 : Int) else 0) = 0 := if_neg dg
    rw [l0, if_pos rfl]
    refine sp_cTakeWord h1 (by decide) ?_ ?_
    · rw [bb]
      intro w8 C2 g2 h2
      rw [s8] at h2
      rw [if_neg (by decide)]
      have lk2 := jLk_eq g2.1 lk1
      have g12 : ∀ b', b' ≠ 1 → C2 b' = C b' := fun b' h' => by rw [g2.1 b' h', g1.1 b' h']
      have x2 := jXt_t x1 (jXt_go (jGo3_go g2))
      have mup : ∀ (v : Int) (D : jC) (q : Int → jC → Prop), jML T m p D → (∀ D', jGoN D D' → jML T m (b + 2) D' → D' 345 9 = b → wp_12_readSort v 0 D' (fun x31 C32 => ((x31 = 0 ∨ x31 = 1) ∧ q x31 C32))) → wp_12_readPart v D q := by
        intro v D q hD y
        unfold wp_12_readPart
        refine sp_mPass hD (by decide) ?_ ?_
        · rw [hbb]
          intro _ D1 e1 e2 e3
          rw [s8] at e2
          rw [if_neg (by decide)]
          exact y D1 e1 e2 e3
        · rw [hbb]; exact fun z => absurd w8 z
      refine sp_cSort (z := b) h2 lk2 (Or.inl rfl) (fun C3 x px t1 t2 t3 _ t4 => ⟨Or.inr rfl, y1 C3 x (by omega) (jXt_t x2 t1) t2 t3 ?_⟩) (fun C3 x t1 t4 => ⟨Or.inl rfl, y0 C3 x (jXf_tx x2 t1) ?_⟩)
      · intro z v D q v0 v1 hD h9 hl z1 z0
        refine mup v D q hD (fun D' e1 e2 e3 => ?_)
        have ew : D' 346 = D 346 := e1.1 346 (by decide)
        refine t4 v D' _ v0 v1 e2 e3 (jLr_eq g12 (by rw [ew]; exact hl)) (fun _ D2 f1 f2 f3 f4 => ⟨Or.inr rfl, z1 rfl D2 (jGoW_t (jGoW_N e1) f1) f2 f3 (by rw [ew] at f4; exact f4)⟩) (fun z => absurd z (by decide))
      · intro z v D q v0 v1 hD h9 hl z1 z0
        refine mup v D q hD (fun D' e1 e2 e3 => ?_)
        have ew : D' 346 = D 346 := e1.1 346 (by decide)
        refine t4 v D' _ v0 v1 e2 e3 (jLr_eq g12 (by rw [ew]; exact hl)) (fun z => absurd z (by decide)) (fun _ D2 f1 f2 f3 => ⟨Or.inl rfl, z0 rfl D2 (jGoW_t (jGoW_N e1) f1) f2 (by rw [ew] at f3; exact f3)⟩)
    · rw [bb]
      intro w8 C2 g2 h2
      rw [if_pos rfl]
      refine sp_cTakeWord h2 (by decide) ?_ ?_
      · rw [bb]
        intro w9 C3 g3 h3
        rw [s9] at h3
        rw [if_neg (by decide)]
        have lk3 := jLk_eq g3.1 (jLk_eq g2.1 lk1)
        have g13 : ∀ b', b' ≠ 1 → C3 b' = C b' := fun b' h' => by rw [g3.1 b' h', g2.1 b' h', g1.1 b' h']
        have x3 := jXt_t x1 (jXt_t (jXt_go (jGo3_go g2)) (jXt_go (jGo3_go g3)))
        have mup : ∀ (v : Int) (D : jC) (q : Int → jC → Prop), jML T m p D → (∀ D', jGoN D D' → jML T m (b + 4) D' → D' 345 9 = b → wp_12_readSort v 1 D' (fun x26 C27 => ((x26 = 0 ∨ x26 = 1) ∧ q x26 C27))) → wp_12_readPart v D q := by
          intro v D q hD y
          unfold wp_12_readPart
          refine sp_mPass hD (by decide) ?_ ?_
          · rw [hbb]; exact fun z => absurd z w8
          rw [hbb]
          intro _ D1 e1 e2 _
          rw [if_pos rfl]
          refine sp_mPass e2 (by decide) ?_ ?_
          · rw [bb]
            intro _ D2 e3 e4 e5
            rw [s9] at e4
            rw [if_neg (by decide)]
            exact y D2 (jGoN_t e1 e3) e4 e5
          · rw [bb]; exact fun z => absurd w9 z
        refine sp_cSort (z := b) h3 lk3 (Or.inr rfl) (fun C4 x px t1 t2 t3 _ t4 => ⟨Or.inr rfl, y1 C4 x (by omega) (jXt_t x3 t1) t2 t3 ?_⟩) (fun C4 x t1 t4 => ⟨Or.inl rfl, y0 C4 x (jXf_tx x3 t1) ?_⟩)
        · intro z v D q v0 v1 hD h9 hl z1 z0
          refine mup v D q hD (fun D' e1 e2 e3 => ?_)
          have ew : D' 346 = D 346 := e1.1 346 (by decide)
          refine t4 v D' _ v0 v1 e2 e3 (jLr_eq g13 (by rw [ew]; exact hl)) (fun _ D2 f1 f2 f3 f4 => ⟨Or.inr rfl, z1 rfl D2 (jGoW_t (jGoW_N e1) f1) f2 f3 (by rw [ew] at f4; exact f4)⟩) (fun z => absurd z (by decide))
        · intro z v D q v0 v1 hD h9 hl z1 z0
          refine mup v D q hD (fun D' e1 e2 e3 => ?_)
          have ew : D' 346 = D 346 := e1.1 346 (by decide)
          refine t4 v D' _ v0 v1 e2 e3 (jLr_eq g13 (by rw [ew]; exact hl)) (fun z => absurd z (by decide)) (fun _ D2 f1 f2 f3 => ⟨Or.inl rfl, z0 rfl D2 (jGoW_t (jGoW_N e1) f1) f2 (by rw [ew] at f3; exact f3)⟩)
      · rw [bb]
        intro w9 C3 g3 h3
        rw [if_pos rfl]
        refine sp_cTakeWord h3 (by decide) ?_ ?_
        · rw [bb]
          intro w10 C4 g4 h4
          rw [s10] at h4
          rw [if_neg (by decide)]
          have lk4 := jLk_eq g4.1 (jLk_eq g3.1 (jLk_eq g2.1 lk1))
          have g14 : ∀ b', b' ≠ 1 → C4 b' = C b' := fun b' h' => by rw [g4.1 b' h', g3.1 b' h', g2.1 b' h', g1.1 b' h']
          have x4 := jXt_t x1 (jXt_t (jXt_go (jGo3_go g2)) (jXt_t (jXt_go (jGo3_go g3)) (jXt_go (jGo3_go g4))))
          have mup : ∀ (v : Int) (D : jC) (q : Int → jC → Prop), jML T m p D → (∀ D', jGoN D D' → jML T m (b + 4) D' → D' 345 9 = b → wp_12_readHide v D' (fun x21 C22 => ((x21 = 0 ∨ x21 = 1) ∧ q x21 C22))) → wp_12_readPart v D q := by
            intro v D q hD y
            unfold wp_12_readPart
            refine sp_mPass hD (by decide) ?_ ?_
            · rw [hbb]; exact fun z => absurd z w8
            rw [hbb]
            intro _ D1 e1 e2 _
            rw [if_pos rfl]
            refine sp_mPass e2 (by decide) ?_ ?_
            · rw [bb]; exact fun z => absurd z w9
            rw [bb]
            intro _ D2 e3 e4 _
            rw [if_pos rfl]
            refine sp_mPass e4 (by decide) ?_ ?_
            · rw [bb]
              intro _ D3 e5 e6 e7
              rw [s10] at e6
              rw [if_neg (by decide)]
              exact y D3 (jGoN_t e1 (jGoN_t e3 e5)) e6 e7
            · rw [bb]; exact fun z => absurd w10 z
          refine sp_cHide (z := b) h4 lk4 (fun C5 x px t1 t2 t3 t4 => ⟨Or.inr rfl, y1 C5 x (by omega) (jXt_t x4 t1) t2 t3 ?_⟩) (fun C5 x t1 t4 => ⟨Or.inl rfl, y0 C5 x (jXf_tx x4 t1) ?_⟩)
          · intro z v D q v0 v1 hD h9 hl z1 z0
            refine mup v D q hD (fun D' e1 e2 e3 => ?_)
            have ew : D' 346 = D 346 := e1.1 346 (by decide)
            refine t4 v D' _ v0 v1 e2 e3 (jLr_eq g14 (by rw [ew]; exact hl)) (fun _ D2 f1 f2 f3 f4 => ⟨Or.inr rfl, z1 rfl D2 (jGoW_t (jGoW_N e1) f1) f2 f3 (by rw [ew] at f4; exact f4)⟩) (fun z => absurd z (by decide))
          · intro z v D q v0 v1 hD h9 hl z1 z0
            refine mup v D q hD (fun D' e1 e2 e3 => ?_)
            have ew : D' 346 = D 346 := e1.1 346 (by decide)
            refine t4 v D' _ v0 v1 e2 e3 (jLr_eq g14 (by rw [ew]; exact hl)) (fun z => absurd z (by decide)) (fun _ D2 f1 f2 f3 => ⟨Or.inl rfl, z0 rfl D2 (jGoW_t (jGoW_N e1) f1) f2 (by rw [ew] at f3; exact f3)⟩)
        · rw [bb]
          intro w10 C4 g4 h4
          rw [if_pos rfl]
          unfold wp_5_failHere
          rw [h4.2.1]
          refine ⟨Or.inl rfl, y0 _ b (jXf_bad (jXt_t x1 (jXt_t (jXt_go (jGo3_go g2)) (jXt_t (jXt_go (jGo3_go g3)) (jXt_go (jGo3_go g4))))) (jBad_u _ _)) ?_⟩
          intro z v D q v0 v1 hD h9 hl z1 z0
          obtain ⟨n1, n2, n3, n4, n5, n6, n7, -⟩ := hk
          refine mno v D q w8 w9 w10 hD (fun D' e1 e2 e3 => ?_)
          have ew : D' 346 = D 346 := e1.1 346 (by decide)
          unfold wp_12_readFilter wp_12_columns
          dsimp only
          rw [ew, hl.1]
          refine ⟨⟨by omega, by omega⟩, ?_⟩
          have d0 : jDg T m b = b := jUp_uniq (jDg_up (by omega) hb.2 m4) ⟨Int.le_refl _, hb.2, fun i a c => by omega, by
            by_cases q : b = m
            · exact Or.inl q
            · exact Or.inr (fun y => dg ⟨by omega, y⟩)⟩
          refine sp_mCol e2 n6 n7 ?_ ?_
          · rw [bb, d0]
            intro q1; omega
          · rw [bb]
            intro _ D2 f1 f2
            rw [if_pos rfl]
            exact ⟨Or.inl rfl, z0 rfl D2 (jGoW_t (jGoW_N e1) (jGoW_M f1)) f2 (fun j _ => by rw [f1.1 346 (by decide), ew])⟩

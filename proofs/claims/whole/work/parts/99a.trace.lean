def jSub (e e' : jC) : Prop := (e 3 0 = 0 ∨ (e' 3 0 = e 3 0 ∧ ∀ c, 0 ≤ c → c < 5 → e' 4 c = e 4 c)) ∧ e 3 2 ≤ e' 3 2 ∧ ∀ j, j < e 3 2 * 5 → e' 6 j = e 6 j
theorem jSub_r (e : jC) : jSub e e := ⟨Or.inr ⟨rfl, fun _ _ _ => rfl⟩, Int.le_refl _, fun _ _ => rfl⟩
theorem jSub_t {a b c : jC} (h : jSub a b) (h' : jSub b c) : jSub a c := by
  obtain ⟨h1, h2, h3⟩ := h
  obtain ⟨k1, k2, k3⟩ := h'
  refine ⟨?_, by omega, fun j hj => by rw [k3 j (by omega), h3 j hj]⟩
  rcases h1 with z | ⟨z1, z2⟩
  · exact Or.inl z
  · rcases k1 with y | ⟨y1, y2⟩
    · exact Or.inl (by omega)
    · exact Or.inr ⟨by omega, fun q q0 q1 => by rw [y2 q q0 q1, z2 q q0 q1]⟩
theorem jLn_sub {T : Int → Int} {m : Int} {cr cx cy : Int → Int → Int} {r0 q : Int} {e e' : jC} (h : jLnA T m e e' q ∨ jLnR T m cr cx cy r0 e e' q) : jSub e e' ∧ 1 ≤ e' 3 0 := by
  rcases h with ⟨l1, l2, g, l3, l4, l5, l6, l7, l8, l9, l10, l11, l12, l13⟩ | ⟨l1, l2, l3, l4, l5, l6, l7, l8, l9, l10, l11, l12, l13⟩
  · exact ⟨⟨Or.inl l2, by omega, fun j _ => by rw [l13]⟩, l3⟩
  · exact ⟨⟨Or.inr ⟨l7, fun c _ _ => by rw [l8]⟩, by omega, l13⟩, by omega⟩
theorem jTr_sub {T : Int → Int} {m : Int} {cr cx cy : Int → Int → Int} {r0 : Int} {e : Int → jC} {L : Int} (h : jTr T m cr cx cy r0 e L) (d : Nat) : ∀ j, 0 ≤ j → j + d ≤ L → jSub (e j) (e (j + d)) := by
  induction d with
  | zero => intro j _ _; rw [show j + ((0 : Nat) : Int) = j by omega]; exact jSub_r _
  | succ d ih =>
    intro j j0 j1
    have i := ih j j0 (by omega)
    obtain ⟨-, q, ln, -⟩ := h (j + d) (by omega) (by omega)
    rw [show j + ((d + 1 : Nat) : Int) = j + d + 1 by omega]
    exact jSub_t i (jLn_sub ln).1
theorem jTr_first {T : Int → Int} {m : Int} {cr cx cy : Int → Int → Int} {r0 : Int} {e : Int → jC} {L : Int} (h : jTr T m cr cx cy r0 e L) {j : Int} (j0 : 0 ≤ j) (j1 : j ≤ L) (z : (e j) 3 0 = 0) : j = 0 := by
  by_cases c : j = 0
  · exact c
  · obtain ⟨-, q, ln, -⟩ := h (j - 1) (by omega) (by omega)
    have := (jLn_sub ln).2
    rw [show j - 1 + 1 = j by omega] at this
    omega
theorem sp_m66 {T : Int → Int} {m p q v : Int} {D : jC} (h : jML T m p D) (hq : jBl T m p = q) (v0 : 0 ≤ v) (v1 : v < 1000) {post : Int → jC → Prop} {K : Int → jC → Prop} (y1 : q < m → T q = 59 → ∀ D', jGoN D D' → jML T m (q + 1) D' → K (v + 1) D') (y2 : q = m → ∀ D', jGoN D D' → post 1 D') (y3 : q < m → T q ≠ 59 → ∀ D', jGoN D D' → D' 345 9 = q → post 0 D') : wp_12_readSheet_66 v D post K := by
  have hb := jBl_m h
  unfold wp_12_readSheet_66
  refine sp_mSign h ?_ ?_
  · rw [hq]
    intro e1 e2 D' g1 g2
    rw [if_neg (by decide)]
    exact ⟨⟨by omega, by omega⟩, y1 e1 e2 D' g1 g2⟩
  · rw [hq]
    intro e1 D' g1 g2 g3
    rw [if_pos rfl, g2.1, g2.2.1]
    by_cases c : q = m
    · rw [if_pos c]; exact y2 c D' g1
    · rw [if_neg c]
      exact y3 (by omega) (fun z => e1 ⟨by omega, z⟩) D' g1 g3
def jWl (e : jC) (w : Int → Int) (W : Int → Int → Int) : Int → Int := if e 3 0 = 0 then w else W (e 3 2)
theorem sp_mLine1 {T : Int → Int} {m r0 k q j : Int} {cr cx cy : Int → Int → Int} (F : jCellF T m cr cx cy) {e e' E : jC} {w : Int → Int} {W : Int → Int → Int} (hd : jSd T m r0 k e) (k14 : k ≤ 14) (ln : jLnA T m e e' q ∨ jLnR T m cr cx cy r0 e e' q) (sub : jSub e' E) (ap : jAp E w W) (hw0 : e 3 0 = 0 → w 0 = 0 ∧ ∀ c, 0 ≤ c → c < 5 → e 4 c = w (4 + c)) (hr : r0 = w 273) (hw2 : w 2 < 900000) (w20 : 0 ≤ w 2) (j0 : 0 ≤ j) (j14 : j < 14) {D : jC} (h : jML T m (e 1 3) D) (hD : D 346 = jWl e w W) {post : Int → jC → Prop} {K : Int → jC → Prop}
    (y1 : q < m → T q = 59 → ∀ D', jGoW D D' → jML T m (q + 1) D' → D' 346 = jWl e' w W → K (j + 1) D') (y2 : q = m → ∀ D', jGoW D D' → D' 346 = jWl e' w W → post 1 D') (y3 : q < m → T q ≠ 59 → ∀ D', jGoW D D' → D' 345 9 = q → post 0 D') : wp_12_readSheet_19 post K j D := by
  obtain ⟨a1, a2, a3, a4, a5, a6, a7, a8, a9⟩ := id hd
  obtain ⟨p1, p2, p3⟩ := ap
  have m4 := h.2.2.2.2.1
  have hb := jBl_m h
  have h0 := h.2.2.1
  have s0 : jSlen 0 = 7 := rfl
  have s1 : jSlen 1 = 3 := rfl
  unfold wp_12_readSheet_19
  refine sp_mLetters h (fun D1 d1 d7 d9 => ?_)
  rw [if_neg (by omega)]
  have gT : D1 349 = T := by rw [d1.1 349 (by decide)]; exact h.2.2.2.2.2
  have D1w : D1 346 = jWl e w W := by rw [d1.1 346 (by decide)]; exact hD
  generalize hbb : jBl T m (e 1 3) = b at *
  have wA : ∀ z : Nat, z < 11 → ∀ q : Int → Prop, (jWq T m b z → q 1) → (¬ jWq T m b z → q 0) → wp_12_isWord z D1 q := fun z hz q => sp_mWordAt gT (by omega) hb.2 m4 d7 d9 hz
  rcases ln with ⟨l1, l2, g, l3, l4, l5, l6, l7, l8, l9, l10, l11, l12, l13⟩ | ⟨l1, l2, l3, l4, l5, l6, l7, l8, l9, l10, l11, l12, l13⟩
  · rw [hbb] at l1 l5
    have lt := (jWq_lt (by omega) hb.2 m4 (by decide)).mp l1
    rw [s0] at lt
    have wb := l1.1
    rw [s0] at wb
    refine wA 0 (by decide) _ (fun _ => ?_) (fun z => absurd l1 z)
    rw [if_neg (by decide)]
    have h1 : jML T m (b + 7) D1 := jML_goN h d1 (by rw [d7]; omega) (by omega) (by omega)
    obtain ⟨w00, wk⟩ := hw0 l2
    have D1w' : D1 346 = w := by rw [D1w]; unfold jWl; rw [if_pos l2]
    have subR : E 3 0 = e' 3 0 ∧ ∀ c, 0 ≤ c → c < 5 → E 4 c = e' 4 c := by
      rcases sub.1 with z | z
      · omega
      · exact z
    have gbn := l6 (e' 3 0) (by omega) (Int.le_refl _)
    have bb := jBl_bl (T := T) gbn.1 gbn.2 m4
    refine sp_mCols h1 D1w' (by omega) (by omega) l4 l5 l6 l7 l8 (fun z D' g1 g2 => ?_) (fun n1 nl D' g1 g2 g3 => ?_)
    · rw [if_pos rfl]
      rw [← l9] at z g2
      rcases z with z | z
      · omega
      · have : T q ≠ 59 := by
          intro t
          have := z.2
          unfold jIsL at this
          rw [if_neg (by omega)] at this
          omega
        exact y3 z.1 this D' (jGoW_t (jGoW_N d1) g1) g2
    · rw [if_neg (by decide)]
      rw [← l9] at g2 bb
      have gD : jGoW D D' := jGoW_t (jGoW_N d1) g1
      have ew : D' 346 = jWl e' w W := by
        rw [g3]
        unfold jWl
        rw [if_neg (by omega), l10, a7 l2, p1]
        funext t
        unfold jSet jKw jKnW
        by_cases e1 : t = 0
        · rw [if_pos e1, if_pos e1, subR.1]
        · rw [if_neg e1, if_neg e1]
          by_cases e2 : 4 ≤ t ∧ t < 4 + e' 3 0
          · rw [if_pos e2, if_pos (by omega), subR.2 (t - 4) (by omega) (by omega)]
          · rw [if_neg e2]
            by_cases e3 : 4 ≤ t ∧ t < 9
            · rw [if_pos e3, subR.2 (t - 4) (by omega) (by omega), l11 (t - 4) (by omega), wk (t - 4) (by omega) (by omega)]
              congr 1; omega
            · rw [if_neg e3]
      refine sp_m66 g2 bb j0 (by omega) (fun e1 e2 D2 g4 g5 => y1 e1 e2 D2 (jGoW_t gD (jGoW_N g4)) g5 (by rw [g4.1 346 (by decide)]; exact ew)) (fun e1 D2 g4 => y2 e1 D2 (jGoW_t gD (jGoW_N g4)) (by rw [g4.1 346 (by decide)]; exact ew)) (fun e1 e2 D2 g4 g5 => y3 e1 e2 D2 (jGoW_t gD (jGoW_N g4)) g5)
  · rw [hbb] at l1 l2 l5 l6 l12
    have lt := (jWq_lt (by omega) hb.2 m4 (by decide)).mp l2
    rw [s1] at lt
    have wb := l2.1
    rw [s1] at wb
    refine wA 0 (by decide) _ (fun z => absurd z l1) (fun _ => ?_)
    rw [if_pos rfl]
    refine wA 1 (by decide) _ (fun _ => ?_) (fun z => absurd l2 z)
    rw [if_neg (by decide)]
    have h1 : jML T m (b + 3) D1 := jML_goN h d1 (by rw [d7]; omega) (by omega) (by omega)
    have subR : E 3 0 = e' 3 0 ∧ ∀ c, 0 ≤ c → c < 5 → E 4 c = e' 4 c := by
      rcases sub.1 with z | z
      · omega
      · exact z
    have sr := sub.2.1
    have D1w' : D1 346 = W (e 3 2) := by rw [D1w]; unfold jWl; rw [if_neg (by omega)]
    obtain ⟨v1, v2, v3, v4, v5⟩ := p3 (e 3 2) a4 (by omega)
    have ra := p2 (e 3 2) a4 (by omega)
    refine sp_mRow1 F (κ := e 4) h1 D1w' (n := e 3 0) (by rw [v1]; omega) l3 a2 (by omega) (by omega) (fun c c0 c1 => ⟨by rw [v5 c c0 (by omega), subR.2 c c0 (by omega), l8], a3 c c0 (by omega)⟩) l5 (y := fun c => E 6 (e 3 2 * 5 + c)) (fun c c0 c1 => ?_) (by rw [show e 3 0 = E 3 0 by omega]; exact ra) (fun D' g1 g2 g3 => ?_)
    · rw [sub.2.2 _ (by omega)]; exact l12 c c0 c1
    · rw [if_neg (by decide)]
      have gD : jGoW D D' := jGoW_t (jGoW_N d1) g1
      have ew : D' 346 = jWl e' w W := by
        rw [g3]
        unfold jWl
        rw [if_neg (by omega), l9]
      refine sp_m66 g2 l6.symm j0 (by omega) (fun e1 e2 D2 g4 g5 => y1 e1 e2 D2 (jGoW_t gD (jGoW_N g4)) g5 (by rw [g4.1 346 (by decide)]; exact ew)) (fun e1 D2 g4 => y2 e1 D2 (jGoW_t gD (jGoW_N g4)) (by rw [g4.1 346 (by decide)]; exact ew)) (fun e1 e2 D2 g4 g5 => y3 e1 e2 D2 (jGoW_t gD (jGoW_N g4)) g5)
theorem sp_mLineF {T : Int → Int} {m r0 k x j : Int} {cr cx cy : Int → Int → Int} (F : jCellF T m cr cx cy) {e B : jC} {w : Int → Int} {W : Int → Int → Int} (hd : jSd T m r0 k e) (k14 : k ≤ 14) (lf : jLnF T m cr cx r0 e x) (ap : jAp e w W) (hB : rS 35 B (W (e 3 2))) (hw0 : e 3 0 = 0 → w 0 = 0) (hr : r0 = w 273) (hw2 : w 2 < 900000) (w20 : 0 ≤ w 2) (j0 : 0 ≤ j) (j14 : j < 14) {D : jC} (h : jML T m (e 1 3) D) (hD : D 346 = jWl e w W) {post : Int → jC → Prop} {K : Int → jC → Prop}
    (y : ∀ D', jGoW D D' → D' 345 9 = x → post 0 D') : wp_12_readSheet_19 post K j D := by
  obtain ⟨a1, a2, a3, a4, a5, a6, a7, a8, a9⟩ := id hd
  obtain ⟨p1, p2, p3⟩ := ap
  obtain ⟨v1, v2, v3, v4, v5⟩ := p3 (e 3 2) a4 (Int.le_refl _)
  have m4 := h.2.2.2.2.1
  have hb := jBl_m h
  have h0 := h.2.2.1
  have s0 : jSlen 0 = 7 := rfl
  have s1 : jSlen 1 = 3 := rfl
  unfold wp_12_readSheet_19
  refine sp_mLetters h (fun D1 d1 d7 d9 => ?_)
  rw [if_neg (by omega)]
  have gT : D1 349 = T := by rw [d1.1 349 (by decide)]; exact h.2.2.2.2.2
  have D1w : D1 346 = jWl e w W := by rw [d1.1 346 (by decide)]; exact hD
  unfold jLnF at lf
  generalize hbb : jBl T m (e 1 3) = b at *
  have wA : ∀ z : Nat, z < 11 → ∀ q : Int → Prop, (jWq T m b z → q 1) → (¬ jWq T m b z → q 0) → wp_12_isWord z D1 q := fun z hz q => sp_mWordAt gT (by omega) hb.2 m4 d7 d9 hz
  have W0 : D1 346 0 = e 3 0 := by
    rw [D1w]
    unfold jWl
    by_cases z : e 3 0 = 0
    · rw [if_pos z, hw0 z, z]
    · rw [if_neg z, v1]
  rcases lf with ⟨l1, l2, l3⟩ | ⟨l1, l2, l3, l4⟩ | ⟨l1, l2, l3, l4⟩ | ⟨l1, l2, l3, l4, c, c0, c1, l5, l6, l7⟩ | ⟨l1, l2, l3⟩
  · refine wA 0 (by decide) _ (fun _ => ?_) (fun z => absurd l1 z)
    rw [if_neg (by decide)]
    unfold wp_12_readColumns wp_12_columns
    dsimp only
    rw [W0, if_neg (by omega), if_pos rfl]
    exact y D1 (jGoW_N d1) (by rw [d9, l3])
  · have lt := (jWq_lt (by omega) hb.2 m4 (by decide)).mp l1
    rw [s0] at lt
    have wb := l1.1
    rw [s0] at wb
    refine wA 0 (by decide) _ (fun _ => ?_) (fun z => absurd l1 z)
    rw [if_neg (by decide)]
    have h1 : jML T m (b + 7) D1 := jML_goN h d1 (by rw [d7]; omega) (by omega) (by omega)
    refine sp_mCols (n := 0) (g := fun _ => b + 7) (κ := fun _ => 0) h1 rfl (by omega) (by omega) (by omega) rfl (fun j _ _ => ⟨by omega, by omega⟩) (fun j a b => by omega) (Or.inr l3) (fun _ D' g1 g2 => ?_) (fun n1 => by omega)
    rw [if_pos rfl]
    exact y D' (jGoW_t (jGoW_N d1) g1) (by rw [g2, l4])
  · refine wA 0 (by decide) _ (fun z => absurd z l1) (fun _ => ?_)
    rw [if_pos rfl]
    refine wA 1 (by decide) _ (fun _ => ?_) (fun z => absurd l2 z)
    rw [if_neg (by decide)]
    unfold wp_12_readRow wp_12_columns
    dsimp only
    rw [W0, sp_rows]
    by_cases z : e 3 0 = 0
    · rw [if_pos z, if_pos rfl]
      exact y D1 (jGoW_N d1) (by rw [d9, l4])
    · rw [if_neg z]
      have : D1 346 273 = 24 := by
        rw [D1w]
        unfold jWl
        rw [if_neg z, v4]
        omega
      rw [if_pos this, if_pos rfl]
      exact y D1 (jGoW_N d1) (by rw [d9, l4])
  · have lt := (jWq_lt (by omega) hb.2 m4 (by decide)).mp l2
    rw [s1] at lt
    have wb := l2.1
    rw [s1] at wb
    refine wA 0 (by decide) _ (fun z => absurd z l1) (fun _ => ?_)
    rw [if_pos rfl]
    refine wA 1 (by decide) _ (fun _ => ?_) (fun z => absurd l2 z)
    rw [if_neg (by decide)]
    have h1 : jML T m (b + 3) D1 := jML_goN h d1 (by rw [d7]; omega) (by omega) (by omega)
    have D1w' : D1 346 = W (e 3 2) := by rw [D1w]; unfold jWl; rw [if_neg (by omega)]
    refine sp_mRow0 F (κ := e 4) hB h1 D1w' (n := e 3 0) v1 l3 a2 (by omega) (by omega) (fun c c0 c1 => ⟨v5 c c0 (by omega), a3 c c0 (by omega)⟩) c0 c1 l5 l6 (fun D' g1 g2 => ?_)
    rw [if_pos rfl]
    exact y D' (jGoW_t (jGoW_N d1) g1) (by rw [g2, l7])
  · refine wA 0 (by decide) _ (fun z => absurd z l1) (fun _ => ?_)
    rw [if_pos rfl]
    refine wA 1 (by decide) _ (fun z => absurd z l2) (fun _ => ?_)
    rw [if_pos rfl]
    exact y D1 (jGoW_N d1) (by rw [d9, l3])
/-- the model's way along the lines, up to the last -/
theorem sp_mTrace {T : Int → Int} {m r0 L : Int} {cr cx cy : Int → Int → Int} (F : jCellF T m cr cx cy) {e : Int → jC} {E : jC} {w : Int → Int} {W : Int → Int → Int} (L0 : 0 ≤ L) (L14 : L ≤ 14) (tr : jTr T m cr cx cy r0 e L) (sub : jSub (e L) E) (ap : jAp E w W) (hw0 : (e 0) 3 0 = 0 → w 0 = 0 ∧ ∀ c, 0 ≤ c → c < 5 → (e 0) 4 c = w (4 + c)) (hr : r0 = w 273) (hw2 : w 2 < 900000) (w20 : 0 ≤ w 2) {D : jC} (h : jML T m ((e 0) 1 3) D) (hD : D 346 = jWl (e 0) w W) {post : Int → jC → Prop}
    (y : ∀ (K : Int → jC → Prop) (D' : jC), jGoW D D' → jML T m ((e L) 1 3) D' → D' 346 = jWl (e L) w W → wp_12_readSheet_19 post K L D') : jL2 (wp_12_readSheet_19 post) 0 D := by
  refine jL2_of (fun j E' => 0 ≤ j ∧ j ≤ L ∧ jGoW D E' ∧ jML T m ((e j) 1 3) E' ∧ E' 346 = jWl (e j) w W) (fun j _ => (L - j).toNat) (fun K j E' hi hk => ?_) ⟨by omega, by omega, jGoW_r D, h, hD⟩
  obtain ⟨i0, i1, i2, i3, i4⟩ := hi
  by_cases a : j = L
  · subst a
    exact y K E' i2 i3 i4
  · obtain ⟨sd, q, ln, q1, q2, q3⟩ := tr j i0 (by omega)
    have sj := jTr_sub tr (L - (j + 1)).toNat (j + 1) (by omega) (by omega)
    rw [show j + 1 + ((L - (j + 1)).toNat : Int) = L by omega] at sj
    refine sp_mLine1 F sd (by omega) ln (jSub_t sj sub) ap (fun z => ?_) hr hw2 w20 i0 (by omega) i3 i4 (fun _ _ D' g1 g2 g3 => ?_) (fun z => by omega) (fun _ z => absurd q2 z)
    · have := jTr_first tr i0 i1 z
      subst this
      exact hw0 z
    · exact hk _ _ ⟨by omega, by omega, jGoW_t i2 g1, by rw [q3]; exact g2, g3⟩ (by omega)

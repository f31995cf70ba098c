-- patterns and tests: the class's and the model's
/-- a question that has one answer -/
def jDet (W : (Int → Prop) → Prop) (r : Int) : Prop := ∀ post : Int → Prop, post r → W post
theorem mp_step {v2 n v4 g v6 c i l v6' : Int} {C : jC} {post : Int → Prop} {k : Int → Int → Int → Int → Int → Prop} (hi : 0 ≤ i) (hi4 : i < 4) (hc : 0 ≤ c) (hc4 : c < 4) (hl : v6.tmod 27 = l) (hd : v6.tdiv 27 = v6')
    (h : k (if i < n then v4.tdiv 32 else v4) (if i < n then (if g ≠ 0 ∧ 0 < l ∧ (v4.tmod 32 = 27 ∨ v4.tmod 32 = l) then (1 : Int) else 0) else g) v6' (c + if l ≤ 0 then 0 else 1) (i + -1)) : wp_12_isPattern_39 v2 n C post k v4 g v6 c i := by
  have key : ∀ s : Int, s = (if l ≤ 0 then 0 else 1) → wp_12_isPattern_70 s c v2 n v4 g v6' i l C post k := by
    intro s hs
    have R1 : jRng (c + s) := ⟨by split at hs <;> omega, by split at hs <;> omega⟩
    have R2 : jRng (i + -1) := ⟨by omega, by omega⟩
    rw [← hs] at h
    unfold wp_12_isPattern_70
    by_cases a : i < n
    · rw [if_pos a, if_pos a] at h
      rw [if_pos a]
      by_cases b : g = 0
      · rw [if_neg (by omega)] at h
        rw [if_pos b]; exact ⟨R1, R2, h⟩
      · rw [if_neg b]
        by_cases d : l ≤ 0
        · rw [if_neg (by omega)] at h
          rw [if_pos d]; exact ⟨R1, R2, h⟩
        · rw [if_neg d]
          by_cases e : v4.tmod 32 = 27
          · rw [if_pos ⟨b, by omega, Or.inl e⟩] at h
            rw [if_pos e]; exact ⟨R1, R2, h⟩
          · rw [if_neg e]
            by_cases f : v4.tmod 32 = l
            · rw [if_pos ⟨b, by omega, Or.inr f⟩] at h
              rw [if_pos f]; exact ⟨R1, R2, h⟩
            · rw [if_neg (fun z => by omega)] at h
              rw [if_neg f]; exact ⟨R1, R2, h⟩
    · rw [if_neg a, if_neg a] at h
      rw [if_neg a]; exact ⟨R1, R2, h⟩
  unfold wp_12_isPattern_39
  rw [if_neg (by omega), hl, hd]
  by_cases z : l ≤ 0
  · rw [if_pos z]; exact key 0 (by rw [if_pos z])
  · rw [if_neg z]; exact key 1 (by rw [if_neg z])
theorem mp_end {v2 n v4 g v6 c i : Int} {C : jC} {post : Int → Prop} {k : Int → Int → Int → Int → Int → Prop} (hi : i < 0) (h0 : 0 ≤ v2) (h1 : v2 + 4 < 8954) {B : Prop} (hb : B ↔ (g ≠ 0 ∧ (c = n ∨ C 346 (v2 + 4) = 1))) (p1 : B → post 1) (p0 : ¬ B → post 0) : wp_12_isPattern_39 v2 n C post k v4 g v6 c i := by
  unfold wp_12_isPattern_39
  rw [if_pos hi]
  by_cases a : g = 0
  · rw [if_pos a]; exact p0 (fun z => (hb.mp z).1 a)
  · rw [if_neg a]
    by_cases b : c = n
    · rw [if_pos b]; exact p1 (hb.mpr ⟨a, Or.inl b⟩)
    · rw [if_neg b]
      refine ⟨by omega, by omega, ?_⟩
      by_cases d : C 346 (v2 + 4) = 1
      · rw [if_pos d]; exact p1 (hb.mpr ⟨a, Or.inr d⟩)
      · rw [if_neg d]; exact p0 (fun z => (hb.mp z).2.elim b d)
theorem mp_loop {t n fr v l0 l1 l2 l3 : Int} {C : jC} {post : Int → Prop} {B : Prop} (h0 : 0 ≤ t) (h1 : t + 4 < 8954) 
    (hv : v = l0 * 19683 + l1 * 729 + l2 * 27 + l3) (hl0 : 0 ≤ l0 ∧ l0 ≤ 26) (hl1 : 0 ≤ l1 ∧ l1 ≤ 26) (hl2 : 0 ≤ l2 ∧ l2 ≤ 26) (hl3 : 0 ≤ l3 ∧ l3 ≤ 26)
    (p1 : B → post 1) (p0 : ¬ B → post 0) {w1 w2 w3 w4 g1 g2 g3 g4 c1 c2 c3 c4 : Int}
    (e1 : (if (3 : Int) < n then fr.tdiv 32 else fr) = w1) (e2 : (if (2 : Int) < n then w1.tdiv 32 else w1) = w2) (e3 : (if (1 : Int) < n then w2.tdiv 32 else w2) = w3) (e4 : (if (0 : Int) < n then w3.tdiv 32 else w3) = w4)
    (f1 : (if (3 : Int) < n then (if (1 : Int) ≠ 0 ∧ 0 < l3 ∧ (fr.tmod 32 = 27 ∨ fr.tmod 32 = l3) then (1 : Int) else 0) else 1) = g1)
    (f2 : (if (2 : Int) < n then (if g1 ≠ 0 ∧ 0 < l2 ∧ (w1.tmod 32 = 27 ∨ w1.tmod 32 = l2) then (1 : Int) else 0) else g1) = g2)
    (f3 : (if (1 : Int) < n then (if g2 ≠ 0 ∧ 0 < l1 ∧ (w2.tmod 32 = 27 ∨ w2.tmod 32 = l1) then (1 : Int) else 0) else g2) = g3)
    (f4 : (if (0 : Int) < n then (if g3 ≠ 0 ∧ 0 < l0 ∧ (w3.tmod 32 = 27 ∨ w3.tmod 32 = l0) then (1 : Int) else 0) else g3) = g4)
    (d1 : (0 + if l3 ≤ 0 then (0 : Int) else 1) = c1) (d2 : (c1 + if l2 ≤ 0 then (0 : Int) else 1) = c2) (d3 : (c2 + if l1 ≤ 0 then (0 : Int) else 1) = c3) (d4 : (c3 + if l0 ≤ 0 then (0 : Int) else 1) = c4)
    (hb : B ↔ (g4 ≠ 0 ∧ (c4 = n ∨ C 346 (t + 4) = 1))) : jL5 (wp_12_isPattern_39 t n C post) fr 1 v 0 3 := by
  have v0 : 0 ≤ v := by omega
  have a3 : v.tmod 27 = l3 := by rw [tmod_nn v0]; omega
  have b3 : v.tdiv 27 = l0 * 729 + l1 * 27 + l2 := by rw [tdiv_nn v0]; omega
  have a2 : (l0 * 729 + l1 * 27 + l2).tmod 27 = l2 := by rw [tmod_nn (by omega)]; omega
  have b2 : (l0 * 729 + l1 * 27 + l2).tdiv 27 = l0 * 27 + l1 := by rw [tdiv_nn (by omega)]; omega
  have a1 : (l0 * 27 + l1).tmod 27 = l1 := by rw [tmod_nn (by omega)]; omega
  have b1 : (l0 * 27 + l1).tdiv 27 = l0 := by rw [tdiv_nn (by omega)]; omega
  have a0 : l0.tmod 27 = l0 := by rw [tmod_nn (by omega)]; omega
  have b0 : l0.tdiv 27 = 0 := by rw [tdiv_nn (by omega)]; omega
  refine ⟨5, ?_⟩
  refine mp_step (k := jI5 (wp_12_isPattern_39 t n C post) 4) (by decide) (by decide) (by decide) (by decide) a3 b3 ?_
  rw [e1, f1, d1]
  refine mp_step (k := jI5 (wp_12_isPattern_39 t n C post) 3) (by decide) (by decide) (by omega) (by omega) a2 b2 ?_
  rw [show (3 : Int) + -1 = 2 by decide, e2, f2, d2]
  refine mp_step (k := jI5 (wp_12_isPattern_39 t n C post) 2) (by decide) (by decide) (by omega) (by omega) a1 b1 ?_
  rw [show (2 : Int) + -1 = 1 by decide, e3, f3, d3]
  refine mp_step (k := jI5 (wp_12_isPattern_39 t n C post) 1) (by decide) (by decide) (by omega) (by omega) a0 b0 ?_
  rw [show (1 : Int) + -1 = 0 by decide, e4, f4, d4]
  exact mp_end (k := jI5 (wp_12_isPattern_39 t n C post) 0) (by decide) h0 h1 hb p1 p0
theorem gNe {c : Prop} [Decidable c] : (if c then (1 : Int) else 0) ≠ 0 ↔ c := by split <;> simp_all
theorem pat_0 {p0 p1 p2 p3 l0 l1 l2 l3 st : Int} {B : Prop} (hB : B = pB 0 0 0 0 l0 l1 l2 l3 st) (hs : st = 0 ∨ st = 1) (v2 : 1 ≤ l0) (v4 : 0 ≤ l1) (v6 : 0 ≤ l2) (v8 : 0 ≤ l3) (v10 : l1 = 0 → l2 = 0) (v11 : l2 = 0 → l3 = 0)  :
    B ↔ ((1 : Int) ≠ 0 ∧ ((0 + (if l3 ≤ 0 then (0 : Int) else 1) + (if l2 ≤ 0 then (0 : Int) else 1) + (if l1 ≤ 0 then (0 : Int) else 1) + (if l0 ≤ 0 then (0 : Int) else 1)) = 0 ∨ st = 1)) := by
  subst hB
  simp only [pB, gNe]
  unfold pE
  rw [if_pos rfl]
  grind
theorem pat_1 {p0 p1 p2 p3 l0 l1 l2 l3 st : Int} {B : Prop} (hB : B = pB p0 0 0 0 l0 l1 l2 l3 st) (hs : st = 0 ∨ st = 1) (v2 : 1 ≤ l0) (v4 : 0 ≤ l1) (v6 : 0 ≤ l2) (v8 : 0 ≤ l3) (v10 : l1 = 0 → l2 = 0) (v11 : l2 = 0 → l3 = 0) (z0 : 1 ≤ p0) :
    B ↔ ((if (1 : Int) ≠ 0 ∧ 0 < l0 ∧ (p0 = 27 ∨ p0 = l0) then (1 : Int) else 0) ≠ 0 ∧ ((0 + (if l3 ≤ 0 then (0 : Int) else 1) + (if l2 ≤ 0 then (0 : Int) else 1) + (if l1 ≤ 0 then (0 : Int) else 1) + (if l0 ≤ 0 then (0 : Int) else 1)) = 1 ∨ st = 1)) := by
  subst hB
  simp only [pB, gNe]
  unfold pE
  rw [if_neg (show ¬ p0 = 0 by omega)]
  rw [if_pos rfl]
  grind
theorem pat_2 {p0 p1 p2 p3 l0 l1 l2 l3 st : Int} {B : Prop} (hB : B = pB p0 p1 0 0 l0 l1 l2 l3 st) (hs : st = 0 ∨ st = 1) (v2 : 1 ≤ l0) (v4 : 0 ≤ l1) (v6 : 0 ≤ l2) (v8 : 0 ≤ l3) (v10 : l1 = 0 → l2 = 0) (v11 : l2 = 0 → l3 = 0) (z0 : 1 ≤ p0) (z1 : 1 ≤ p1) :
    B ↔ ((if (if (1 : Int) ≠ 0 ∧ 0 < l1 ∧ (p1 = 27 ∨ p1 = l1) then (1 : Int) else 0) ≠ 0 ∧ 0 < l0 ∧ (p0 = 27 ∨ p0 = l0) then (1 : Int) else 0) ≠ 0 ∧ ((0 + (if l3 ≤ 0 then (0 : Int) else 1) + (if l2 ≤ 0 then (0 : Int) else 1) + (if l1 ≤ 0 then (0 : Int) else 1) + (if l0 ≤ 0 then (0 : Int) else 1)) = 2 ∨ st = 1)) := by
  subst hB
  simp only [pB, gNe]
  unfold pE
  rw [if_neg (show ¬ p0 = 0 by omega)]
  rw [if_neg (show ¬ p1 = 0 by omega)]
  rw [if_pos rfl]
  grind
theorem pat_3 {p0 p1 p2 p3 l0 l1 l2 l3 st : Int} {B : Prop} (hB : B = pB p0 p1 p2 0 l0 l1 l2 l3 st) (hs : st = 0 ∨ st = 1) (v2 : 1 ≤ l0) (v4 : 0 ≤ l1) (v6 : 0 ≤ l2) (v8 : 0 ≤ l3) (v10 : l1 = 0 → l2 = 0) (v11 : l2 = 0 → l3 = 0) (z0 : 1 ≤ p0) (z1 : 1 ≤ p1) (z2 : 1 ≤ p2) :
    B ↔ ((if (if (if (1 : Int) ≠ 0 ∧ 0 < l2 ∧ (p2 = 27 ∨ p2 = l2) then (1 : Int) else 0) ≠ 0 ∧ 0 < l1 ∧ (p1 = 27 ∨ p1 = l1) then (1 : Int) else 0) ≠ 0 ∧ 0 < l0 ∧ (p0 = 27 ∨ p0 = l0) then (1 : Int) else 0) ≠ 0 ∧ ((0 + (if l3 ≤ 0 then (0 : Int) else 1) + (if l2 ≤ 0 then (0 : Int) else 1) + (if l1 ≤ 0 then (0 : Int) else 1) + (if l0 ≤ 0 then (0 : Int) else 1)) = 3 ∨ st = 1)) := by
  subst hB
  simp only [pB, gNe]
  unfold pE
  rw [if_neg (show ¬ p0 = 0 by omega)]
  rw [if_neg (show ¬ p1 = 0 by omega)]
  rw [if_neg (show ¬ p2 = 0 by omega)]
  rw [if_pos rfl]
  grind
theorem pat_4 {p0 p1 p2 p3 l0 l1 l2 l3 st : Int} {B : Prop} (hB : B = pB p0 p1 p2 p3 l0 l1 l2 l3 st) (hs : st = 0 ∨ st = 1) (v2 : 1 ≤ l0) (v4 : 0 ≤ l1) (v6 : 0 ≤ l2) (v8 : 0 ≤ l3) (v10 : l1 = 0 → l2 = 0) (v11 : l2 = 0 → l3 = 0) (z0 : 1 ≤ p0) (z1 : 1 ≤ p1) (z2 : 1 ≤ p2) (z3 : 1 ≤ p3) :
    B ↔ ((if (if (if (if (1 : Int) ≠ 0 ∧ 0 < l3 ∧ (p3 = 27 ∨ p3 = l3) then (1 : Int) else 0) ≠ 0 ∧ 0 < l2 ∧ (p2 = 27 ∨ p2 = l2) then (1 : Int) else 0) ≠ 0 ∧ 0 < l1 ∧ (p1 = 27 ∨ p1 = l1) then (1 : Int) else 0) ≠ 0 ∧ 0 < l0 ∧ (p0 = 27 ∨ p0 = l0) then (1 : Int) else 0) ≠ 0 ∧ ((0 + (if l3 ≤ 0 then (0 : Int) else 1) + (if l2 ≤ 0 then (0 : Int) else 1) + (if l1 ≤ 0 then (0 : Int) else 1) + (if l0 ≤ 0 then (0 : Int) else 1)) = 4 ∨ st = 1)) := by
  subst hB
  simp only [pB, gNe]
  unfold pE
  rw [if_neg (show ¬ p0 = 0 by omega)]
  rw [if_neg (show ¬ p1 = 0 by omega)]
  rw [if_neg (show ¬ p2 = 0 by omega)]
  rw [if_neg (show ¬ p3 = 0 by omega)]
  by_cases a3 : l3 = 0
  · grind
  · have a2 : ¬ l2 = 0 := fun z => a3 (v11 z)
    have a1 : ¬ l1 = 0 := fun z => a2 (v10 z)
    rw [if_neg (show ¬ l3 ≤ 0 by omega), if_neg (show ¬ l2 ≤ 0 by omega), if_neg (show ¬ l1 ≤ 0 by omega), if_neg (show ¬ l0 ≤ 0 by omega)]
    constructor
    · rintro ⟨⟨b1, b2⟩, ⟨b3, b4⟩, ⟨b5, b6⟩, ⟨b7, b8⟩, -⟩
      exact ⟨⟨⟨⟨⟨by decide, by omega, b8⟩, by omega, b6⟩, by omega, b4⟩, by omega, b2⟩, Or.inl (by decide)⟩
    · rintro ⟨⟨⟨⟨⟨-, -, b8⟩, -, b6⟩, -, b4⟩, -, b2⟩, -⟩
      exact ⟨⟨by omega, b2⟩, ⟨a1, b4⟩, ⟨a2, b6⟩, ⟨a3, b8⟩, trivial⟩
theorem sp_isPattern {low t v : Int} {w : Int → Int} (h0 : 0 ≤ t) (h1 : t + 4 < 8954) (hp : rPat low (w (t + 2)) (w (t + 3))) (hs : w (t + 4) = 0 ∨ w (t + 4) = 1) (hv : jWord v) :
    ∃ r, (r = 0 ∨ r = 1) ∧ (∀ C, jDet (wp_1_matches low (w (t + 4)) v C) r) ∧ (∀ C : jC, C 346 = w → jDet (wp_12_isPattern v t C) r) := by
  obtain ⟨l0, l1, l2, l3, v1, v2, v3, v4, v5, v6, v7, v8, v9, v10, v11⟩ := hv
  obtain ⟨p0, p1, p2, p3, hq, hl, hc⟩ := hp
  have q0 := hq p0 (by simp)
  have q1 := hq p1 (by simp)
  have q2 := hq p2 (by simp)
  have q3 := hq p3 (by simp)
  have main : ∀ B : Prop, B = pB p0 p1 p2 p3 l0 l1 l2 l3 (w (t + 4)) → ∀ C : jC, C 346 = w → ∀ post : Int → Prop, (B → post 1) → (¬ B → post 0) → wp_12_isPattern v t C post := by
    intro B hB C hC post y1 y0
    unfold wp_12_isPattern
    rw [if_neg (by omega)]
    refine ⟨by omega, by omega, by omega, by omega, ?_⟩
    rw [hC]
    have S : ∀ x y : Int, 0 ≤ x → (x.tdiv y = x / y ∧ x.tmod y = x % y) := fun x y h => ⟨tdiv_nn h, tmod_nn h⟩
    generalize hst : w (t + 4) = st at hs hB
    generalize w (t + 3) = n at hc
    rcases hc with ⟨rfl, rfl, rfl, rfl, rfl, hfr⟩ | ⟨rfl, z0, rfl, rfl, rfl, hfr⟩ | ⟨rfl, z0, z1, rfl, rfl, hfr⟩ | ⟨rfl, z0, z1, z2, rfl, hfr⟩ | ⟨rfl, z0, z1, z2, z3, hfr⟩
    · rw [hfr]
      refine mp_loop (w1 := 0) (w2 := 0) (w3 := 0) (w4 := 0) (g1 := (1 : Int)) (g2 := (1 : Int)) (g3 := (1 : Int)) (g4 := (1 : Int)) h0 h1 v1 ⟨by omega, v3⟩ ⟨v4, v5⟩ ⟨v6, v7⟩ ⟨v8, v9⟩ y1 y0 (if_neg (by decide)) (if_neg (by decide)) (if_neg (by decide)) (if_neg (by decide)) (if_neg (by decide)) (if_neg (by decide)) (if_neg (by decide)) (if_neg (by decide)) rfl rfl rfl rfl ?_
      rw [hC, hst]
      exact pat_0 (p0 := 0) (p1 := 0) (p2 := 0) (p3 := 0) hB hs v2 v4 v6 v8 v10 v11 
    · rw [hfr]
      refine mp_loop (w1 := p0) (w2 := p0) (w3 := p0) (w4 := 0) (g1 := (1 : Int)) (g2 := (1 : Int)) (g3 := (1 : Int)) (g4 := (if (1 : Int) ≠ 0 ∧ 0 < l0 ∧ (p0 = 27 ∨ p0 = l0) then (1 : Int) else 0)) h0 h1 v1 ⟨by omega, v3⟩ ⟨v4, v5⟩ ⟨v6, v7⟩ ⟨v8, v9⟩ y1 y0 (if_neg (by decide)) (if_neg (by decide)) (if_neg (by decide)) (by rw [if_pos (by decide), (S p0 32 (by omega)).1]; omega) (if_neg (by decide)) (if_neg (by decide)) (if_neg (by decide)) (by rw [if_pos (by decide), show (Int.tmod p0 32) = p0 by rw [(S p0 32 (by omega)).2]; omega]) rfl rfl rfl rfl ?_
      rw [hC, hst]
      exact pat_1 (p1 := 0) (p2 := 0) (p3 := 0) hB hs v2 v4 v6 v8 v10 v11 z0
    · rw [hfr]
      refine mp_loop (w1 := (32 * p0 + p1)) (w2 := (32 * p0 + p1)) (w3 := p0) (w4 := 0) (g1 := (1 : Int)) (g2 := (1 : Int)) (g3 := (if (1 : Int) ≠ 0 ∧ 0 < l1 ∧ (p1 = 27 ∨ p1 = l1) then (1 : Int) else 0)) (g4 := (if (if (1 : Int) ≠ 0 ∧ 0 < l1 ∧ (p1 = 27 ∨ p1 = l1) then (1 : Int) else 0) ≠ 0 ∧ 0 < l0 ∧ (p0 = 27 ∨ p0 = l0) then (1 : Int) else 0)) h0 h1 v1 ⟨by omega, v3⟩ ⟨v4, v5⟩ ⟨v6, v7⟩ ⟨v8, v9⟩ y1 y0 (if_neg (by decide)) (if_neg (by decide)) (by rw [if_pos (by decide), (S (32 * p0 + p1) 32 (by omega)).1]; omega) (by rw [if_pos (by decide), (S p0 32 (by omega)).1]; omega) (if_neg (by decide)) (if_neg (by decide)) (by rw [if_pos (by decide), show (Int.tmod (32 * p0 + p1) 32) = p1 by rw [(S (32 * p0 + p1) 32 (by omega)).2]; omega]) (by rw [if_pos (by decide), show (Int.tmod p0 32) = p0 by rw [(S p0 32 (by omega)).2]; omega]) rfl rfl rfl rfl ?_
      rw [hC, hst]
      exact pat_2 (p2 := 0) (p3 := 0) hB hs v2 v4 v6 v8 v10 v11 z0 z1
    · rw [hfr]
      refine mp_loop (w1 := (1024 * p0 + 32 * p1 + p2)) (w2 := (32 * p0 + p1)) (w3 := p0) (w4 := 0) (g1 := (1 : Int)) (g2 := (if (1 : Int) ≠ 0 ∧ 0 < l2 ∧ (p2 = 27 ∨ p2 = l2) then (1 : Int) else 0)) (g3 := (if (if (1 : Int) ≠ 0 ∧ 0 < l2 ∧ (p2 = 27 ∨ p2 = l2) then (1 : Int) else 0) ≠ 0 ∧ 0 < l1 ∧ (p1 = 27 ∨ p1 = l1) then (1 : Int) else 0)) (g4 := (if (if (if (1 : Int) ≠ 0 ∧ 0 < l2 ∧ (p2 = 27 ∨ p2 = l2) then (1 : Int) else 0) ≠ 0 ∧ 0 < l1 ∧ (p1 = 27 ∨ p1 = l1) then (1 : Int) else 0) ≠ 0 ∧ 0 < l0 ∧ (p0 = 27 ∨ p0 = l0) then (1 : Int) else 0)) h0 h1 v1 ⟨by omega, v3⟩ ⟨v4, v5⟩ ⟨v6, v7⟩ ⟨v8, v9⟩ y1 y0 (if_neg (by decide)) (by rw [if_pos (by decide), (S (1024 * p0 + 32 * p1 + p2) 32 (by omega)).1]; omega) (by rw [if_pos (by decide), (S (32 * p0 + p1) 32 (by omega)).1]; omega) (by rw [if_pos (by decide), (S p0 32 (by omega)).1]; omega) (if_neg (by decide)) (by rw [if_pos (by decide), show (Int.tmod (1024 * p0 + 32 * p1 + p2) 32) = p2 by rw [(S (1024 * p0 + 32 * p1 + p2) 32 (by omega)).2]; omega]) (by rw [if_pos (by decide), show (Int.tmod (32 * p0 + p1) 32) = p1 by rw [(S (32 * p0 + p1) 32 (by omega)).2]; omega]) (by rw [if_pos (by decide), show (Int.tmod p0 32) = p0 by rw [(S p0 32 (by omega)).2]; omega]) rfl rfl rfl rfl ?_
      rw [hC, hst]
      exact pat_3 (p3 := 0) hB hs v2 v4 v6 v8 v10 v11 z0 z1 z2
    · rw [hfr]
      refine mp_loop (w1 := (1024 * p0 + 32 * p1 + p2)) (w2 := (32 * p0 + p1)) (w3 := p0) (w4 := 0) (g1 := (if (1 : Int) ≠ 0 ∧ 0 < l3 ∧ (p3 = 27 ∨ p3 = l3) then (1 : Int) else 0)) (g2 := (if (if (1 : Int) ≠ 0 ∧ 0 < l3 ∧ (p3 = 27 ∨ p3 = l3) then (1 : Int) else 0) ≠ 0 ∧ 0 < l2 ∧ (p2 = 27 ∨ p2 = l2) then (1 : Int) else 0)) (g3 := (if (if (if (1 : Int) ≠ 0 ∧ 0 < l3 ∧ (p3 = 27 ∨ p3 = l3) then (1 : Int) else 0) ≠ 0 ∧ 0 < l2 ∧ (p2 = 27 ∨ p2 = l2) then (1 : Int) else 0) ≠ 0 ∧ 0 < l1 ∧ (p1 = 27 ∨ p1 = l1) then (1 : Int) else 0)) (g4 := (if (if (if (if (1 : Int) ≠ 0 ∧ 0 < l3 ∧ (p3 = 27 ∨ p3 = l3) then (1 : Int) else 0) ≠ 0 ∧ 0 < l2 ∧ (p2 = 27 ∨ p2 = l2) then (1 : Int) else 0) ≠ 0 ∧ 0 < l1 ∧ (p1 = 27 ∨ p1 = l1) then (1 : Int) else 0) ≠ 0 ∧ 0 < l0 ∧ (p0 = 27 ∨ p0 = l0) then (1 : Int) else 0)) h0 h1 v1 ⟨by omega, v3⟩ ⟨v4, v5⟩ ⟨v6, v7⟩ ⟨v8, v9⟩ y1 y0 (by rw [if_pos (by decide), (S (32768 * p0 + 1024 * p1 + 32 * p2 + p3) 32 (by omega)).1]; omega) (by rw [if_pos (by decide), (S (1024 * p0 + 32 * p1 + p2) 32 (by omega)).1]; omega) (by rw [if_pos (by decide), (S (32 * p0 + p1) 32 (by omega)).1]; omega) (by rw [if_pos (by decide), (S p0 32 (by omega)).1]; omega) (by rw [if_pos (by decide), show (Int.tmod (32768 * p0 + 1024 * p1 + 32 * p2 + p3) 32) = p3 by rw [(S (32768 * p0 + 1024 * p1 + 32 * p2 + p3) 32 (by omega)).2]; omega]) (by rw [if_pos (by decide), show (Int.tmod (1024 * p0 + 32 * p1 + p2) 32) = p2 by rw [(S (1024 * p0 + 32 * p1 + p2) 32 (by omega)).2]; omega]) (by rw [if_pos (by decide), show (Int.tmod (32 * p0 + p1) 32) = p1 by rw [(S (32 * p0 + p1) 32 (by omega)).2]; omega]) (by rw [if_pos (by decide), show (Int.tmod p0 32) = p0 by rw [(S p0 32 (by omega)).2]; omega]) rfl rfl rfl rfl ?_
      rw [hC, hst]
      exact pat_4 hB hs v2 v4 v6 v8 v10 v11 z0 z1 z2 z3
  by_cases B : pB p0 p1 p2 p3 l0 l1 l2 l3 (w (t + 4))
  · exact ⟨1, Or.inr rfl, fun C post y => sp_matches q0 q1 q2 q3 hl v1 ⟨by omega, v3⟩ ⟨v4, v5⟩ ⟨v6, v7⟩ ⟨v8, v9⟩ hs (fun _ => y) (fun z => absurd B z), fun C hC post y => main _ rfl C hC post (fun _ => y) (fun z => absurd B z)⟩
  · exact ⟨0, Or.inl rfl, fun C post y => sp_matches q0 q1 q2 q3 hl v1 ⟨by omega, v3⟩ ⟨v4, v5⟩ ⟨v6, v7⟩ ⟨v8, v9⟩ hs (fun z => absurd z B) (fun _ => y), fun C hC post y => main _ rfl C hC post (fun z => absurd z B) (fun _ => y)⟩

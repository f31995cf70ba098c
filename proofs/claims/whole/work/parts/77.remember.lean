-- an edit remembered
theorem rEdit_move {C D : jC} {w w1 : Int → Int} {e t t1 : Int} (h : rEdit C w e t) (hd : ∀ x, e ≤ x → x < e + 5 → D x = C x) (h0 : w1 0 = w 0) (h4 : ∀ c, 0 ≤ c → c < 5 → w1 (4 + c) = w (4 + c)) (h5 : w 0 ≤ 5) (hw : ∀ i, 0 ≤ i → i < 241 → w1 (t1 + i) = w (t + i)) : rEdit D w1 e t1 := by
  obtain ⟨a1, a2, a3, a4, a5⟩ := h
  have z0 := hw 0 (by omega) (by omega)
  rw [Int.add_zero, Int.add_zero] at z0
  unfold rEdit
  rw [hd e (by omega) (by omega), hd (e + 1) (by omega) (by omega), hd (e + 2) (by omega) (by omega), hd (e + 3) (by omega) (by omega), hd (e + 4) (by omega) (by omega), z0, h0]
  have m : ∀ i k, 0 ≤ i → i < 60 → 0 ≤ k → k < 4 → w1 (t1 + 1 + 4 * i + k) = w (t + 1 + 4 * i + k) := by
    intro i k i0 i1 k0 k1
    have := hw (1 + 4 * i + k) (by omega) (by omega)
    rw [show t1 + (1 + 4 * i + k) = t1 + 1 + 4 * i + k by omega, show t + (1 + 4 * i + k) = t + 1 + 4 * i + k by omega] at this
    exact this
  have m0 : ∀ i, 0 ≤ i → i < 60 → w1 (t1 + 1 + 4 * i) = w (t + 1 + 4 * i) := by
    intro i i0 i1
    have := m i 0 i0 i1 (by omega) (by omega)
    rw [Int.add_zero, Int.add_zero] at this
    exact this
  refine ⟨a1, a2, a3, fun i i0 i1 => ?_, fun i j i0 i1 j1 => ?_⟩
  · have := a4 i i0 i1
    rw [m0 i i0 (by omega), m i 1 i0 (by omega) (by omega) (by omega), m i 2 i0 (by omega) (by omega) (by omega), m i 3 i0 (by omega) (by omega) (by omega), h4 (w (t + 1 + 4 * i + 1)) (by omega) (by omega)]
    exact this
  · rw [m0 i i0 (by omega), m i 1 i0 (by omega) (by omega) (by omega), m0 j (by omega) (by omega), m j 1 (by omega) (by omega) (by omega) (by omega)]
    exact a5 i j i0 i1 j1
theorem jCpy_f {C : jC} {s d n j : Int} (j0 : 0 ≤ j) (j1 : j < n) : jCpy C s 0 d 0 n d j = C s j := by
  rw [jCpy_eq]
  dsimp only
  rw [if_pos (by omega), show 0 + (j - 0) = j by omega]
theorem sp_ecopy {e f : Int} {C : jC} {post : jC → Prop} (hn0 : 0 ≤ C f 0) (hn1 : C f 0 ≤ 60) (hd : e + 4 < f ∨ f + 4 < e)
    (y : ∀ C1 : jC, (∀ b, ¬ (e ≤ b ∧ b ≤ e + 4) → C1 b = C b) → C1 e 0 = C f 0 → (∀ t, 1 ≤ t → t ≤ 4 → ∀ i, 0 ≤ i → i < C f 0 → C1 (e + t) i = C (f + t) i) → post C1) : wp_0_copyFrom e f C post := by
  unfold wp_0_copyFrom
  rw [show min (C f 0) 60 = C f 0 by omega]
  have q0 : jU C e 0 (C f 0) e 0 = C f 0 := by rw [jU_at, if_pos rfl, if_pos rfl]
  rw [q0]
  have q1 : jCpy (jU C e 0 (C f 0)) (f + 1) 0 (e + 1) 0 (C f 0) e 0 = C f 0 := by rw [jCpy_ne (by omega), q0]
  rw [q1]
  have q2 : jCpy (jCpy (jU C e 0 (C f 0)) (f + 1) 0 (e + 1) 0 (C f 0)) (f + 2) 0 (e + 2) 0 (C f 0) e 0 = C f 0 := by rw [jCpy_ne (by omega), q1]
  rw [q2]
  have q3 : jCpy (jCpy (jCpy (jU C e 0 (C f 0)) (f + 1) 0 (e + 1) 0 (C f 0)) (f + 2) 0 (e + 2) 0 (C f 0)) (f + 3) 0 (e + 3) 0 (C f 0) e 0 = C f 0 := by rw [jCpy_ne (by omega), q2]
  rw [q3]
  refine ⟨by omega, by omega, by omega, by omega, by omega, by omega, by omega, by omega, ?_⟩
  refine y _ (fun b hb => by rw [jCpy_ne (by omega), jCpy_ne (by omega), jCpy_ne (by omega), jCpy_ne (by omega), jU_ne (by omega)]) (by rw [jCpy_ne (by omega), q3]) (fun t t0 t1 i i0 i1 => ?_)
  have ht : t = 1 ∨ t = 2 ∨ t = 3 ∨ t = 4 := by omega
  rcases ht with rfl | rfl | rfl | rfl
  · rw [jCpy_ne (by omega), jCpy_ne (by omega), jCpy_ne (by omega), jCpy_f i0 i1, jU_ne (by omega)]
  · rw [jCpy_ne (by omega), jCpy_ne (by omega), jCpy_f i0 i1, jCpy_ne (by omega), jU_ne (by omega)]
  · rw [jCpy_ne (by omega), jCpy_f i0 i1, jCpy_ne (by omega), jCpy_ne (by omega), jU_ne (by omega)]
  · rw [jCpy_f i0 i1, jCpy_ne (by omega), jCpy_ne (by omega), jCpy_ne (by omega), jU_ne (by omega)]
/-- the edits of one view are others: all else stays -/
theorem rS_eds {C D : jC} {w w1 : Int → Int} (h : rS 35 C w) {v : Int} (v0 : 0 ≤ v) (v1 : v < 4) (hd : ∀ b, ¬ (51 + 72 * v + 31 ≤ b ∧ b < 51 + 72 * v + 72) → b ≠ 51 + 72 * v → b < 339 → D b = C b) (hw : ∀ j, (j < 298 + 2114 * v + 185 ∨ 298 + 2114 * v + 2114 ≤ j) → w1 j = w j)
    (n1 : rEds D w1 (51 + 72 * v) (298 + 2114 * v)) : rS 35 D w1 := by
  obtain ⟨hA, hB, hO, hW, hV, hG, hZ⟩ := h
  have k : ∀ b, b < 51 → D b = C b := fun b hb => hd b (by omega) (by omega) (by omega)
  have ww : ∀ j, j < 298 → w1 j = w j := fun j hj => hw j (by omega)
  have hlive : ∀ s, rLive D 35 s ↔ rLive C 35 s := by
    intro s; unfold rLive; rw [k (35 + 6) (by omega), k (35 + 7) (by omega)]
  have w05 : w 0 ≤ 5 := hA.2.2.1
  refine ⟨?_, ?_, ?_, ?_, ?_, ?_, ?_⟩
  · unfold rA at hA ⊢
    rw [k (35 + 1) (by omega), k (35 + 9) (by omega), ww 0 (by omega), ww 1 (by omega), ww 2 (by omega), ww 3 (by omega)]; exact hA
  · intro c c0 c1
    rw [k (35 + 2) (by omega), ww (4 + c) (by omega)]; exact hB c c0 c1
  · exact rLst_keep hO (by rw [k (35 + 6) (by omega)]) (fun i _ _ => by rw [k (35 + 6 + 1) (by omega)]) (fun i _ _ => by rw [k (35 + 3) (by omega)]) (fun j a b => ww j (by omega))
  · obtain ⟨q1, q2, q3⟩ := hW
    refine ⟨fun s s0 s1 hl => ?_, fun s s0 s1 hl => ?_, fun s t s0 s1 t0 t1 hs ht => ?_⟩
    · rw [hlive] at hl
      obtain ⟨u1, u2, u3, u4⟩ := q1 s s0 s1 hl
      rw [k (35 + 3) (by omega), ww (9 + 11 * s) (by omega), ww 2 (by omega), ww 0 (by omega)]
      refine ⟨u1, u2, u3, fun c c0 c1 => ?_⟩
      have := u4 c c0 c1
      unfold rCell at this ⊢
      rw [k (35 + 4) (by omega), k (35 + 5) (by omega), ww (4 + c) (by omega), ww (9 + 11 * s + 1 + c) (by omega), ww (9 + 11 * s + 6 + c) (by omega)]
      exact this
    · rw [hlive] at hl
      rw [ww (9 + 11 * s) (by omega)]; exact q2 s s0 s1 hl
    · rw [hlive] at hs ht
      rw [k (35 + 3) (by omega)]; exact q3 s t s0 s1 t0 t1 hs ht
  · intro u u0 u1
    obtain ⟨p1, p2, p3, p4⟩ := hV u u0 u1
    rw [show 35 + 8 + 8 + 72 * u = 51 + 72 * u by omega] at p1 p2 p3 p4 ⊢
    have l : rLens D w1 (51 + 72 * u + 1) (298 + 2114 * u) := rLens_keep p3 hA.2.1 (fun x x0 x1 => hd x (by omega) (by omega) (by omega)) (ww 0 (by omega)) (fun c c0 c1 => ww _ (by omega)) (fun j j0 j1 => hw j (by omega))
    have kq : D (51 + 72 * u + 29 + 1) = C (51 + 72 * u + 29 + 1) := hd _ (by omega) (by omega) (by omega)
    refine ⟨rLst_keep p1 (by rw [hd (51 + 72 * u + 29) (by omega) (by omega) (by omega)]) (fun i _ _ => by rw [kq]) (fun i _ _ => by rw [k (35 + 3) (by omega)]) (fun j a b => hw j (by omega)), fun i i0 i1 => ?_, l, ?_⟩
    · rw [hw (298 + 2114 * u) (by omega)] at i1
      rw [hlive, kq]; exact p2 i i0 i1
    · by_cases eu : u = v
      · rw [eu]; exact n1
      · exact rEds_keep p4 (by rw [hd (51 + 72 * u) (by omega) (by omega) (by omega)]) (fun x x0 x1 => hd x (by omega) (by omega) (by omega)) (ww 0 (by omega)) (fun c c0 c1 => ww _ (by omega)) w05 (fun j j0 j1 => hw j (by omega))
  · exact rG_keep hG (k _ (by omega)) (k _ (by omega)) (ww 3 (by omega)) hA.2.2.2.2.2.2.2.2.2.2 (fun j a b => hw j (by omega))
  · unfold rZ at hZ ⊢
    rw [ww 0 (by omega), ww 273 (by omega)]; exact hZ
/-- a draft, copied, is an edit -/
theorem rEdit_new {C D : jC} {w w1 d : Int → Int} {e t : Int} (h : rDr C w d) (h1 : 1 ≤ d 0) (h6 : d 0 ≤ 60) (e0 : D e 0 = C 46 0) (e1 : ∀ t, 1 ≤ t → t ≤ 4 → ∀ i, 0 ≤ i → i < C 46 0 → D (e + t) i = C (46 + t) i) (h0 : w1 0 = w 0) (h4 : ∀ c, 0 ≤ c → c < 5 → w1 (4 + c) = w (4 + c)) (h5 : w 0 ≤ 5) (hw : ∀ i, 0 ≤ i → i < 241 → w1 (t + i) = d i) : rEdit D w1 e t := by
  obtain ⟨r1, r2, r3, r4⟩ := h
  have z0 := hw 0 (by omega) (by omega)
  rw [Int.add_zero] at z0
  have m : ∀ i k, 0 ≤ i → i < 60 → 0 ≤ k → k < 4 → w1 (t + 1 + 4 * i + k) = d (1 + 4 * i + k) := by
    intro i k i0 i1 k0 k1
    have := hw (1 + 4 * i + k) (by omega) (by omega)
    rw [show t + (1 + 4 * i + k) = t + 1 + 4 * i + k by omega] at this
    exact this
  have m0 : ∀ i, 0 ≤ i → i < 60 → w1 (t + 1 + 4 * i) = d (1 + 4 * i) := by
    intro i i0 i1
    have := m i 0 i0 i1 (by omega) (by omega)
    rw [Int.add_zero, Int.add_zero] at this
    exact this
  unfold rEdit
  rw [z0, e0, h0]
  refine ⟨r1, h1, h6, fun i i0 i1 => ?_, fun i j i0 i1 j1 => ?_⟩
  · obtain ⟨t1, t2, t3, t4, t5, t6, t7, t8⟩ := r3 i i0 i1
    rw [e1 1 (by omega) (by omega) i i0 (by omega), e1 2 (by omega) (by omega) i i0 (by omega), e1 3 (by omega) (by omega) i i0 (by omega), e1 4 (by omega) (by omega) i i0 (by omega)]
    rw [m0 i i0 (by omega), m i 1 i0 (by omega) (by omega) (by omega), m i 2 i0 (by omega) (by omega) (by omega), m i 3 i0 (by omega) (by omega) (by omega), h4 _ t6 (by omega)]
    exact ⟨t1, t2, t3, t4, t5, t6, t7, t8⟩
  · rw [m0 i i0 (by omega), m i 1 i0 (by omega) (by omega) (by omega), m0 j (by omega) (by omega), m j 1 (by omega) (by omega) (by omega) (by omega)]
    exact r4 i j i0 i1 j1
/-- the model's world with the draft d remembered in the view at b -/
def jEdN (b : Int) (w : Int → Int) : Int := if w (b + 185) = 8 then 7 else w (b + 185)
def jEdW (b : Int) (w d : Int → Int) : Int → Int := fun j => if j = b + 185 then jEdN b w + 1 else if b + 186 + 241 * jEdN b w ≤ j ∧ j < b + 186 + 241 * jEdN b w + 241 then d (j - (b + 186 + 241 * jEdN b w)) else if w (b + 185) = 8 ∧ b + 186 ≤ j ∧ j < b + 186 + 1687 then w (j + 241) else w j
theorem sp_isEdit {v : Int} (v0 : 0 ≤ v) (v1 : v < 4) {D : jC} {w : Int → Int} (hD : D 346 = w) (n0 : 0 ≤ w (298 + 2114 * v + 185)) (n1 : w (298 + 2114 * v + 185) ≤ 8) {post : Int → jC → Prop} (y0 : D 352 0 = 0 → post 0 D) (y : D 352 0 ≠ 0 → post (D 352 0) (jV D 346 (jEdW (298 + 2114 * v) w (D 352)))) : wp_12_isEdit v D post := by
  unfold wp_12_isEdit
  by_cases e : D 352 0 = 0
  · rw [if_pos e]; exact y0 e
  · rw [if_neg e, sp_viewAt v0 v1 (by omega) (by omega), hD]
    refine ⟨by omega, by omega, ?_⟩
    have y := y e
    have last : ∀ (n : Int) (E : jC) (f : Int → Int), 0 ≤ n → n ≤ 7 → (∀ b, b ≠ 346 → E b = D b) → E 346 = f → (∀ j, jEdW (298 + 2114 * v) w (D 352) j = if j = 298 + 2114 * v + 185 then n + 1 else if 298 + 2114 * v + 186 + 241 * n ≤ j ∧ j < 298 + 2114 * v + 186 + 241 * n + 241 then D 352 (j - (298 + 2114 * v + 186 + 241 * n)) else f j) → jL2 (wp_12_isEdit_74 v n post) 0 E := by
      intro n E f n0 n1 hE hf hj
      refine jL2_of (fun k F => 0 ≤ k ∧ k ≤ 241 ∧ F = jV D 346 (fun j => if 298 + 2114 * v + 186 + 241 * n ≤ j ∧ j < 298 + 2114 * v + 186 + 241 * n + k then D 352 (j - (298 + 2114 * v + 186 + 241 * n)) else f j)) (fun k _ => (241 - k).toNat) (fun K k F hi hk => ?_) ⟨by omega, by omega, ?_⟩
      · obtain ⟨i0, i1, rfl⟩ := hi
        unfold wp_12_isEdit_74
        by_cases a : 241 ≤ k
        · rw [if_pos a, sp_viewAt v0 v1 (by omega) (by omega)]
          refine ⟨by omega, by omega, ⟨by omega, by omega⟩, ?_⟩
          rw [jU_ne (by decide), jV_ne (by decide)]
          have ek : k = 241 := by omega
          subst ek
          have : jU (jV D 346 (fun j => if 298 + 2114 * v + 186 + 241 * n ≤ j ∧ j < 298 + 2114 * v + 186 + 241 * n + 241 then D 352 (j - (298 + 2114 * v + 186 + 241 * n)) else f j)) 346 (298 + 2114 * v + 185) (n + 1) = jV D 346 (jEdW (298 + 2114 * v) w (D 352)) := by
            rw [jU_S, jV_V, jV_eq]
            congr 1
            funext j
            rw [hj]
            rfl
          rw [this]; exact y
        · rw [if_neg a]
          unfold wp_12_editAt
          refine ⟨⟨by omega, by omega⟩, ?_⟩
          rw [sp_viewAt v0 v1 (by omega) (by omega)]
          refine ⟨by omega, by omega, by omega, ?_⟩
          refine hk _ _ ⟨by omega, by omega, ?_⟩ (by omega)
          rw [jU_S, jV_V, jV_eq, jV_ne (by decide)]
          congr 1
          funext j
          unfold jSet
          dsimp only
          by_cases c1 : j = 298 + 2114 * v + (186 + 241 * n) + k
          · rw [if_pos c1, if_pos (by omega), show j - (298 + 2114 * v + 186 + 241 * n) = k by omega]
          · rw [if_neg c1]
            by_cases c2 : 298 + 2114 * v + 186 + 241 * n ≤ j ∧ j < 298 + 2114 * v + 186 + 241 * n + k
            · rw [if_pos c2, if_pos (by omega)]
            · rw [if_neg c2, if_neg (by omega)]
      · funext b
        by_cases b1 : b = 346
        · subst b1
          rw [jV_eq, hf]
          funext j
          rw [if_neg (by omega)]
        · rw [jV_ne b1, hE b b1]
    by_cases c : w (298 + 2114 * v + 185) = 8
    · rw [if_pos c, c]
      refine jL2_of (fun k F => 0 ≤ k ∧ k ≤ 1687 ∧ F = jV D 346 (fun j => if 298 + 2114 * v + 186 ≤ j ∧ j < 298 + 2114 * v + 186 + k then w (j + 241) else w j)) (fun k _ => (1687 - k).toNat) (fun K k F hi hk => ?_) ⟨by omega, by omega, ?_⟩
      · obtain ⟨i0, i1, rfl⟩ := hi
        unfold wp_12_isEdit_32
        by_cases a : 1687 ≤ k
        · rw [if_pos a]
          have ek : k = 1687 := by omega
          subst ek
          refine ⟨⟨by omega, by omega⟩, ?_⟩
          refine last 7 _ _ (by omega) (by omega) (fun b hb => jV_ne hb) (jV_eq _ _ _) (fun j => ?_)
          unfold jEdW jEdN
          rw [if_pos c]
          simp only [c, true_and]
        · rw [if_neg a]
          unfold wp_12_editAt
          refine ⟨⟨by omega, by omega⟩, ?_⟩
          rw [sp_viewAt v0 v1 (by omega) (by omega)]
          refine ⟨⟨by omega, by omega⟩, ?_⟩
          rw [sp_viewAt v0 v1 (by omega) (by omega)]
          refine ⟨by omega, by omega, by omega, by omega, ?_⟩
          refine hk _ _ ⟨by omega, by omega, ?_⟩ (by omega)
          rw [jU_S, jV_V, jV_eq]
          congr 1
          funext j
          unfold jSet
          dsimp only
          by_cases c1 : j = 298 + 2114 * v + (186 + 241 * 0) + k
          · rw [if_pos c1, if_neg (by omega), if_pos (by omega)]
            congr 1; omega
          · rw [if_neg c1]
            by_cases c2 : 298 + 2114 * v + 186 ≤ j ∧ j < 298 + 2114 * v + 186 + k
            · rw [if_pos c2, if_pos (by omega)]
            · rw [if_neg c2, if_neg (by omega)]
      · funext b
        by_cases b1 : b = 346
        · subst b1
          rw [jV_eq, hD]
          funext j
          rw [if_neg (by omega)]
        · rw [jV_ne b1]
    · rw [if_neg c]
      refine last _ D w (by omega) (by omega) (fun _ _ => rfl) hD (fun j => ?_)
      unfold jEdW jEdN
      rw [if_neg c]
      simp only [c, false_and, if_false]

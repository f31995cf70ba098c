-- what stays when other cells change
theorem rLens_keep {C D : jC} {w w1 : Int → Int} {q b : Int} (h : rLens C w q b) (w0 : 0 ≤ w 0) (hd : ∀ x, q ≤ x → x < q + 28 → D x = C x) (h0 : w1 0 = w 0) (h4 : ∀ c, 0 ≤ c → c < 5 → w1 (4 + c) = w (4 + c)) (hw : ∀ j, b + 25 ≤ j → j < b + 185 → w1 j = w j) : rLens D w1 q b := by
  obtain ⟨a1, a2, a3, a4, a5, a6, a7, a8, a9⟩ := h
  unfold rLens
  rw [hd q (by omega) (by omega), hd (q + 2) (by omega) (by omega), h0, hw (b + 25) (by omega) (by omega), hw (b + 29) (by omega) (by omega)]
  refine ⟨a1, a2, a3, fun k k0 k1 => ?_, a5, a6, a7, fun c c0 c1 => ?_, fun c c0 c1 => ?_⟩
  · rw [hw (b + 26 + k) (by omega) (by omega)]; exact a4 k k0 k1
  · obtain ⟨f1, f2, f3, f4⟩ := a8 c c0 c1
    unfold rFil
    rw [hd (q + 3 + 5 * c) (by omega) (by omega), hd (q + 3 + 5 * c + 1) (by omega) (by omega), hd (q + 3 + 5 * c + 2) (by omega) (by omega), hd (q + 3 + 5 * c + 3) (by omega) (by omega), hd (q + 3 + 5 * c + 4) (by omega) (by omega), hw (b + 30 + 31 * c) (by omega) (by omega), h4 c c0 c1]
    refine ⟨f1, f2, f3, fun k k0 k1 => ?_⟩
    rw [hw (b + 30 + 31 * c + 1 + 5 * k) (by omega) (by omega), hw (b + 30 + 31 * c + 1 + 5 * k + 1) (by omega) (by omega), hw (b + 30 + 31 * c + 1 + 5 * k + 2) (by omega) (by omega), hw (b + 30 + 31 * c + 1 + 5 * k + 3) (by omega) (by omega), hw (b + 30 + 31 * c + 1 + 5 * k + 4) (by omega) (by omega)]
    exact f4 k k0 k1
  · rw [hw (b + 30 + 31 * c) (by omega) (by omega)]; exact a9 c c0 c1
theorem rEdit_keep {C D : jC} {w w1 : Int → Int} {e t : Int} (h : rEdit C w e t) (hd : ∀ x, e ≤ x → x < e + 5 → D x = C x) (h0 : w1 0 = w 0) (h4 : ∀ c, 0 ≤ c → c < 5 → w1 (4 + c) = w (4 + c)) (h5 : w 0 ≤ 5) (hw : ∀ j, t ≤ j → j < t + 241 → w1 j = w j) : rEdit D w1 e t := by
  obtain ⟨a1, a2, a3, a4, a5⟩ := h
  unfold rEdit
  rw [hd e (by omega) (by omega), hd (e + 1) (by omega) (by omega), hd (e + 2) (by omega) (by omega), hd (e + 3) (by omega) (by omega), hd (e + 4) (by omega) (by omega), hw t (by omega) (by omega), h0]
  refine ⟨a1, a2, a3, fun i i0 i1 => ?_, fun i j i0 i1 j1 => ?_⟩
  · have := a4 i i0 i1
    rw [hw (t + 1 + 4 * i) (by omega) (by omega), hw (t + 1 + 4 * i + 1) (by omega) (by omega), hw (t + 1 + 4 * i + 2) (by omega) (by omega), hw (t + 1 + 4 * i + 3) (by omega) (by omega), h4 (w (t + 1 + 4 * i + 1)) (by omega) (by omega)]
    exact this
  · rw [hw (t + 1 + 4 * i) (by omega) (by omega), hw (t + 1 + 4 * i + 1) (by omega) (by omega), hw (t + 1 + 4 * j) (by omega) (by omega), hw (t + 1 + 4 * j + 1) (by omega) (by omega)]
    exact a5 i j i0 i1 j1
theorem rEds_keep {C D : jC} {w w1 : Int → Int} {q b : Int} (h : rEds C w q b) (h3 : D q 3 = C q 3) (hd : ∀ x, q + 31 ≤ x → x < q + 72 → D x = C x) (h0 : w1 0 = w 0) (h4 : ∀ c, 0 ≤ c → c < 5 → w1 (4 + c) = w (4 + c)) (h5 : w 0 ≤ 5) (hw : ∀ j, b + 185 ≤ j → j < b + 2114 → w1 j = w j) : rEds D w1 q b := by
  obtain ⟨a1, a2, a3, a4, a5, a6⟩ := h
  unfold rEds
  rw [h3, hd (q + 31) (by omega) (by omega), hw (b + 185) (by omega) (by omega)]
  refine ⟨a1, a2, a3, a4, a5, fun k k0 k1 => ?_⟩
  obtain ⟨j, j0, j1, ej⟩ := a4 k k0 (by omega)
  refine rEdit_keep (a6 k k0 k1) (fun x x0 x1 => hd x (by omega) (by omega)) h0 h4 h5 (fun j j0 j1 => hw j (by omega) (by omega))
theorem rG_keep {a : Int} {C D : jC} {w w1 : Int → Int} (h : rG a C w) (h9 : D (a + 9) = C (a + 9)) (h10 : D (a + 10) = C (a + 10)) (h3 : w1 3 = w 3) (w3 : w 3 ≤ 40) (hw : ∀ j, 8754 ≤ j → j < 8954 → w1 j = w j) : rG a D w1 := by
  obtain ⟨a1, a2, a3⟩ := h
  unfold rG
  rw [h9, h10, h3]
  refine ⟨a1, a2, fun g p g0 g1 p0 p1 => ?_⟩
  rw [hw (8754 + 5 * g + p) (by omega) (by omega)]
  exact a3 g p g0 g1 p0 p1
theorem rLst_keep {a : Int} {C D : jC} {w w1 : Int → Int} {q b : Int} (h : rLst C a w q b) (hq : D q 1 = C q 1) (hq1 : ∀ i, 0 ≤ i → i < w b → D (q + 1) i = C (q + 1) i) (hk : ∀ i, 0 ≤ i → i < w b → D (a + 3) (C (q + 1) i) = C (a + 3) (C (q + 1) i)) (hw : ∀ j, b ≤ j → j < b + 25 → w1 j = w j) : rLst D a w1 q b := by
  obtain ⟨a1, a2, a3, a4, a5⟩ := h
  unfold rLst
  rw [hq, hw b (by omega) (by omega)]
  refine ⟨a1, a2, a3, fun i i0 i1 => ?_, fun i j i0 i1 j1 => ?_⟩
  · rw [hq1 i i0 i1, hk i i0 i1, hw (b + 1 + i) (by omega) (by omega)]; exact a4 i i0 i1
  · rw [hq1 i i0 (by omega), hq1 j (by omega) j1]; exact a5 i j i0 i1 j1
/-- one view's list is another: all else stays -/
theorem rS_list {C D : jC} {w w1 : Int → Int} (h : rS 35 C w) {v : Int} (v0 : 0 ≤ v) (v1 : v < 4) (hd : ∀ b, b ≠ 51 + 72 * v + 29 → b ≠ 51 + 72 * v + 30 → b < 339 → D b = C b) (hw : ∀ j, (j < 298 + 2114 * v ∨ 298 + 2114 * v + 25 ≤ j) → w1 j = w j)
    (n1 : rLst D 35 w1 (51 + 72 * v + 29) (298 + 2114 * v)) (n2 : ∀ i, 0 ≤ i → i < w1 (298 + 2114 * v) → rLive C 35 (D (51 + 72 * v + 29 + 1) i)) : rS 35 D w1 := by
  obtain ⟨hA, hB, hO, hW, hV, hG, hZ⟩ := h
  have k : ∀ b, b < 51 → D b = C b := fun b hb => hd b (by omega) (by omega) (by omega)
  have ww : ∀ j, j < 298 → w1 j = w j := fun j hj => hw j (by omega)
  have hlive : ∀ s, rLive D 35 s ↔ rLive C 35 s := by
    intro s; unfold rLive; rw [k (35 + 6) (by omega), k (35 + 7) (by omega)]
  have w05 : w 0 ≤ 5 := hA.2.2.1
  refine ⟨?_, ?_, ?_, ?_, ?_, ?_, ?_⟩
  · unfold rA at hA ⊢
    rw [k (35 + 1) (by omega), k (35 + 9) (by omega), ww 0 (by omega), ww 1 (by omega), ww 2 (by omega), ww 3 (by omega)]; exact hA
  · intro c c0 c1
    rw [k (35 + 2) (by omega), ww (4 + c) (by omega)]; exact hB c c0 c1
  · exact rLst_keep hO (by rw [k (35 + 6) (by omega)]) (fun i _ _ => by rw [k (35 + 6 + 1) (by omega)]) (fun i _ _ => by rw [k (35 + 3) (by omega)]) (fun j a b => ww j (by omega))
  · obtain ⟨q1, q2, q3⟩ := hW
    refine ⟨fun s s0 s1 hl => ?_, fun s s0 s1 hl => ?_, fun s t s0 s1 t0 t1 hs ht => ?_⟩
    · rw [hlive] at hl
      obtain ⟨u1, u2, u3, u4⟩ := q1 s s0 s1 hl
      rw [k (35 + 3) (by omega), ww (9 + 11 * s) (by omega), ww 2 (by omega), ww 0 (by omega)]
      refine ⟨u1, u2, u3, fun c c0 c1 => ?_⟩
      have := u4 c c0 c1
      unfold rCell at this ⊢
      rw [k (35 + 4) (by omega), k (35 + 5) (by omega), ww (4 + c) (by omega), ww (9 + 11 * s + 1 + c) (by omega), ww (9 + 11 * s + 6 + c) (by omega)]
      exact this
    · rw [hlive] at hl
      rw [ww (9 + 11 * s) (by omega)]; exact q2 s s0 s1 hl
    · rw [hlive] at hs ht
      rw [k (35 + 3) (by omega)]; exact q3 s t s0 s1 t0 t1 hs ht
  · intro u u0 u1
    obtain ⟨p1, p2, p3, p4⟩ := hV u u0 u1
    rw [show 35 + 8 + 8 + 72 * u = 51 + 72 * u by omega] at p1 p2 p3 p4 ⊢
    have l : rLens D w1 (51 + 72 * u + 1) (298 + 2114 * u) := rLens_keep p3 hA.2.1 (fun x x0 x1 => hd x (by omega) (by omega) (by omega)) (ww 0 (by omega)) (fun c c0 c1 => ww _ (by omega)) (fun j j0 j1 => hw j (by omega))
    have e : rEds D w1 (51 + 72 * u) (298 + 2114 * u) := rEds_keep p4 (by rw [hd (51 + 72 * u) (by omega) (by omega) (by omega)]) (fun x x0 x1 => hd x (by omega) (by omega) (by omega)) (ww 0 (by omega)) (fun c c0 c1 => ww _ (by omega)) w05 (fun j j0 j1 => hw j (by omega))
    by_cases eu : u = v
    · subst eu
      exact ⟨n1, fun i i0 i1 => (hlive _).mpr (n2 i i0 i1), l, e⟩
    · have kq : D (51 + 72 * u + 29 + 1) = C (51 + 72 * u + 29 + 1) := hd _ (by omega) (by omega) (by omega)
      refine ⟨rLst_keep p1 (by rw [hd (51 + 72 * u + 29) (by omega) (by omega) (by omega)]) (fun i _ _ => by rw [kq]) (fun i _ _ => by rw [k (35 + 3) (by omega)]) (fun j a b => hw j (by omega)), fun i i0 i1 => ?_, l, e⟩
      rw [hw (298 + 2114 * u) (by omega)] at i1
      rw [hlive, kq]; exact p2 i i0 i1
  · exact rG_keep hG (k _ (by omega)) (k _ (by omega)) (ww 3 (by omega)) hA.2.2.2.2.2.2.2.2.2.2 (fun j a b => hw j (by omega))
  · unfold rZ at hZ ⊢
    rw [ww 0 (by omega), ww 273 (by omega)]; exact hZ
/-- the object's State changed, and the model's world with it -/
theorem rAll_w {C D : jC} {K : Int} (h : rAll C K) (hd : ∀ b, ¬ (35 ≤ b ∧ b < 347) → ¬ (350 ≤ b ∧ b < 357) → D b = C b) (h5 : ∀ j, j ≠ 0 → D 345 j = C 345 j) (hs : rS 35 D (D 346)) (hk : D 346 2 ≤ K) : rAll D K := by
  obtain ⟨a1, a2, a3, a4, a5, a6, a7, a8⟩ := h
  unfold rAll
  rw [hd 1 (by omega) (by omega), h5 6 (by decide), h5 11 (by decide), h5 4 (by decide), hd 347 (by omega) (by omega), hd 0 (by omega) (by omega)]
  refine ⟨a1, a2, a3, fun i i0 i1 => ?_, a5, hs, hk, ?_⟩
  · rw [hd 349 (by omega) (by omega), hd 2 (by omega) (by omega)]; exact a4 i i0 i1
  · rcases a8 with w | ⟨w1, w2, w3, w4⟩
    · exact Or.inl w
    · exact Or.inr ⟨w1, w2, rS_keep (fun b hb => hd b (by unfold rOwn at hb; omega) (by unfold rOwn at hb; omega)) w3, w4⟩

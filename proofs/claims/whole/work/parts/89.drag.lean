-- a row dragged
theorem rS_ord {C D : jC} {w w1 : Int → Int} (h : rS 35 C w) (hd : ∀ b, b ≠ 41 → b ≠ 42 → b < 339 → D b = C b) (hw : ∀ j, (j < 273 ∨ 298 ≤ j) → w1 j = w j) (n1 : rLst D 35 w1 41 273) (hl : ∀ t, rLive D 35 t ↔ rLive C 35 t) (hz : rZ w1) : rS 35 D w1 := by
  obtain ⟨hA, hB, hO, hW, hV, hG, hZ⟩ := h
  have k : ∀ b, b < 41 → D b = C b := fun b hb => hd b (by omega) (by omega) (by omega)
  have ww : ∀ j, j < 273 → w1 j = w j := fun j hj => hw j (by omega)
  refine ⟨?_, ?_, n1, ?_, ?_, ?_, hz⟩
  · unfold rA at hA ⊢
    rw [k (35 + 1) (by omega), hd (35 + 9) (by omega) (by omega) (by omega), ww 0 (by omega), ww 1 (by omega), ww 2 (by omega), ww 3 (by omega)]; exact hA
  · intro c c0 c1
    rw [k (35 + 2) (by omega), ww (4 + c) (by omega)]; exact hB c c0 c1
  · obtain ⟨q1, q2, q3⟩ := hW
    refine ⟨fun s s0 s1 hs => ?_, fun s s0 s1 hs => ?_, fun s t s0 s1 t0 t1 hs ht => ?_⟩
    · rw [hl] at hs
      obtain ⟨u1, u2, u3, u4⟩ := q1 s s0 s1 hs
      rw [k (35 + 3) (by omega), ww (9 + 11 * s) (by omega), ww 2 (by omega), ww 0 (by omega)]
      refine ⟨u1, u2, u3, fun c c0 c1 => ?_⟩
      have := u4 c c0 c1
      have w05 : w 0 ≤ 5 := hA.2.2.1
      unfold rCell at this ⊢
      rw [k (35 + 4) (by omega), k (35 + 5) (by omega), ww (4 + c) (by omega), ww (9 + 11 * s + 1 + c) (by omega), ww (9 + 11 * s + 6 + c) (by omega)]
      exact this
    · rw [hl] at hs
      rw [ww (9 + 11 * s) (by omega)]; exact q2 s s0 s1 hs
    · rw [hl] at hs ht
      rw [k (35 + 3) (by omega)]; exact q3 s t s0 s1 t0 t1 hs ht
  · intro u u0 u1
    obtain ⟨p1, p2, p3, p4⟩ := hV u u0 u1
    rw [show 35 + 8 + 8 + 72 * u = 51 + 72 * u by omega] at p1 p2 p3 p4 ⊢
    have kd : ∀ b, 51 ≤ b → b < 339 → D b = C b := fun b b0 b1 => hd b (by omega) (by omega) b1
    have kw : ∀ j, 298 ≤ j → w1 j = w j := fun j j0 => hw j (by omega)
    refine ⟨rLst_keep p1 (by rw [kd (51 + 72 * u + 29) (by omega) (by omega)]) (fun i _ _ => by rw [kd (51 + 72 * u + 29 + 1) (by omega) (by omega)]) (fun i i0 i1 => by rw [k (35 + 3) (by omega)]) (fun j a b => kw j (by omega)), fun i i0 i1 => ?_, ?_, ?_⟩
    · rw [kw (298 + 2114 * u) (by omega)] at i1
      rw [hl, kd (51 + 72 * u + 29 + 1) (by omega) (by omega)]; exact p2 i i0 i1
    · exact rLens_keep p3 hA.2.1 (fun x x0 x1 => kd x (by omega) (by omega)) (ww 0 (by omega)) (fun q q0 q1 => ww _ (by omega)) (fun j j0 j1 => kw j (by omega))
    · exact rEds_keep p4 (by rw [kd (51 + 72 * u) (by omega) (by omega)]) (fun x x0 x1 => kd x (by omega) (by omega)) (ww 0 (by omega)) (fun q q0 q1 => ww _ (by omega)) hA.2.2.1 (fun j j0 j1 => kw j (by omega))
  · exact rG_keep hG (hd (35 + 9) (by omega) (by omega) (by omega)) (hd (35 + 10) (by omega) (by omega) (by omega)) (ww 3 (by omega)) hA.2.2.2.2.2.2.2.2.2.2 (fun j a b => hw j (by omega))
/-- s goes to another place of the order -/
theorem sp_reorder {C : jC} {w : Int → Int} (h : rS 35 C w) {s t z r : Int} (s0 : 0 ≤ s) (s1 : s < 24) (sl : rLive C 35 s) (t0 : 0 ≤ t) (t1 : t < 24) (tl : rLive C 35 t) (ts : t ≠ s) (hz : jFst (fun j => C 42 j = s) (C 41 1) z) :
    ∃ r, 0 ≤ r ∧ r < w 273 - 1 ∧ jDet (wp_6_placeOf 41 t (jTc 41 z C)) r ∧ (∀ D : jC, D 346 = jTk 273 z w → jDet (wp_12_placeIn 273 (C 38 t) D) r) ∧
    ∀ p, 0 ≤ p → p ≤ w 273 - 1 → rS 35 (jV (jV (jTc 41 z C) 42 (jInsF (jTc 41 z C 42) 0 p (w 273 - 1) s)) 41 (jSet (jTc 41 z C 41) 1 (w 273 - 1 + 1))) (jApp 273 p (C 38 s) (jTk 273 z w)) := by
  obtain ⟨o1, o2, o3, o4, o5⟩ := r_ord h
  obtain ⟨z0, z1, z2⟩ : 0 ≤ z ∧ z < w 273 ∧ C 42 z = s := by
    obtain ⟨j, j0, j1, j2⟩ := sl
    simp only [Int.reduceAdd] at j1 j2
    rcases hz with ⟨b0, b1, b2, -⟩ | ⟨-, b1⟩
    · exact ⟨b0, by omega, b2⟩
    · exact absurd j2 (b1 j j0 j1)
  have hO := h.2.2.1
  have d38 : jTc 41 z C 38 = C 38 := jTc_ne (by decide) (by decide)
  have ord := rLst_tk (x := s) (D := jTc 41 z C) (w1 := jTk 273 z w) hO hz rfl rfl (fun j _ _ => rfl) (fun i _ _ => by simp only [Int.reduceAdd]; rw [d38])
  have n1 : jTk 273 z w 273 = w 273 - 1 := by unfold jTk; rw [if_neg (by omega), jSet_eq]
  have dd : ∀ q, 0 ≤ q → q < w 273 - 1 → jTc 41 z C 42 q = if q < z then C 42 q else C 42 (q + 1) := by
    intro q q0 q1
    unfold jTc
    rw [if_neg (by omega), jV_ne (by decide)]
    simp only [Int.reduceAdd]
    rw [jV_eq, o1, jDel_c q1]
  have c41 : jTc 41 z C 41 1 = w 273 - 1 := by
    have := ord.1.1
    simp only [Int.reduceAdd] at this
    rw [this, n1]
  have mem : ∀ q, q ≠ s → rLive C 35 q → ∃ j, 0 ≤ j ∧ j < w 273 - 1 ∧ jTc 41 z C 42 j = q := by
    rintro q e ⟨j, j0, j1, j2⟩
    simp only [Int.reduceAdd] at j1 j2
    rw [o1] at j1
    have nz : j ≠ z := fun y => e (by rw [← j2, y]; exact z2)
    by_cases c : j < z
    · exact ⟨j, j0, by omega, by rw [dd j j0 (by omega), if_pos c]; exact j2⟩
    · exact ⟨j - 1, by omega, by omega, by rw [dd (j - 1) (by omega) (by omega), if_neg (by omega), show j - 1 + 1 = j by omega]; exact j2⟩
  have ent : ∀ j, 0 ≤ j → j < w 273 - 1 → jTc 41 z C 42 j ≠ s ∧ 0 ≤ jTc 41 z C 42 j ∧ jTc 41 z C 42 j < 24 ∧ rLive C 35 (jTc 41 z C 42 j) ∧ jTk 273 z w (273 + 1 + j) = C 38 (jTc 41 z C 42 j) := by
    intro j j0 j1
    obtain ⟨e1, q, q0, q1, q2⟩ := ord.2 j j0 (by rw [n1]; exact j1)
    have e3 := (ord.1.2.2.2.1 j j0 (by rw [n1]; exact j1))
    simp only [Int.reduceAdd] at e1 q2 e3 ⊢
    rw [d38] at e3
    refine ⟨e1, e3.1, e3.2.1, ?_, e3.2.2⟩
    rw [q2]; exact (r_olive h q0 q1).2.2
  obtain ⟨r, hr⟩ := jFst_ex (fun j => jTc 41 z C 42 j = t) (w 273 - 1) (by omega)
  have rr : 0 ≤ r ∧ r < w 273 - 1 := by
    obtain ⟨j, j0, j1, j2⟩ := mem t ts tl
    rcases hr with ⟨b0, b1, -⟩ | ⟨-, b1⟩
    · exact ⟨b0, b1⟩
    · exact absurd j2 (b1 j j0 j1)
  refine ⟨r, rr.1, rr.2, fun post y => ?_, fun D hD post y => ?_, fun p p0 p1 => ?_⟩
  · refine sp_placeOf (by rw [c41]; omega) (fun q hq => ?_)
    simp only [Int.reduceAdd] at hq
    rw [c41] at hq
    rw [jFst_uniq hq hr]; exact y
  · refine sp_placeIn (by decide) (by rw [hD, n1]; omega) (by decide) (fun q hq => ?_)
    rw [hD, n1] at hq
    have : q = r := by
      refine jFst_uniq (jFst_congr (fun j j0 j1 => ?_) hq) hr
      obtain ⟨e1, e2, e3, e4, e5⟩ := ent j j0 j1
      rw [e5]
      exact ⟨fun e => r_key h e2 e3 e4 t0 t1 tl e, fun e => by rw [e]⟩
    rw [this]; exact y
  · generalize hD : jV (jV (jTc 41 z C) 42 (jInsF (jTc 41 z C 42) 0 p (w 273 - 1) s)) 41 (jSet (jTc 41 z C 41) 1 (w 273 - 1 + 1)) = D
    have f1 : ∀ b, b ≠ 41 → b ≠ 42 → D b = C b := fun b b1 b2 => by rw [← hD, jV_ne b1, jV_ne b2, jTc_ne b1 b2]
    have f41 : D 41 1 = w 273 - 1 + 1 := by rw [← hD, jV_eq, jSet_eq]
    have f42 : ∀ i, 0 ≤ i → i ≤ w 273 - 1 → D 42 i = if i < p then jTc 41 z C 42 i else if i = p then s else jTc 41 z C 42 (i - 1) := fun i i0 i1 => by rw [← hD, jV_ne (by decide), jV_eq, jIns_c i1]
    have a0 : ∀ j, j < 273 ∨ 298 ≤ j → jApp 273 p (C 38 s) (jTk 273 z w) j = w j := fun j hj => by
      rw [jApp_out p0 (by rw [n1]; exact p1) (by rw [n1]; omega), jTk_out (by omega) (by omega) (by omega) (by omega)]
    refine rS_ord h (fun b b1 b2 _ => f1 b b1 b2) a0 ?_ (fun q => ?_) (fun y => by
      rw [a0 0 (by omega)] at y
      have := h.2.2.2.2.2.2 y
      omega)
    · have o' := ord.1
      simp only [Int.reduceAdd] at o'
      refine rLst_ins (C := jTc 41 z C) (x := s) o' p0 (by rw [n1]; exact p1) (by rw [n1]; omega) s0 s1 (fun i i0 i1 => (ent i i0 (by rw [n1] at i1; exact i1)).1) (by rw [f41, n1]) (fun i i0 i1 => f42 i i0 (by rw [n1] at i1; exact i1)) jApp_b (fun i i0 i1 => ?_) (fun i i0 i1 => ?_)
      · rw [jApp_i i0 i1]
        simp only [Int.reduceAdd]
        rw [f1 38 (by decide) (by decide)]
      · simp only [Int.reduceAdd]
        rw [f1 38 (by decide) (by decide), d38]
    · unfold rLive
      simp only [Int.reduceAdd]
      rw [f41, o1]
      constructor
      · rintro ⟨j, j0, j1, j2⟩
        rw [f42 j j0 (by omega)] at j2
        by_cases e1 : j < p
        · rw [if_pos e1] at j2
          have := (ent j j0 (by omega)).2.2.2.1
          rw [j2] at this
          obtain ⟨y, y0, y1, y2⟩ := this
          simp only [Int.reduceAdd] at y1 y2
          exact ⟨y, y0, by omega, y2⟩
        rw [if_neg e1] at j2
        by_cases e2 : j = p
        · rw [if_pos e2] at j2
          exact ⟨z, z0, z1, by rw [z2]; exact j2⟩
        rw [if_neg e2] at j2
        have := (ent (j - 1) (by omega) (by omega)).2.2.2.1
        rw [j2] at this
        obtain ⟨y, y0, y1, y2⟩ := this
        simp only [Int.reduceAdd] at y1 y2
        exact ⟨y, y0, by omega, y2⟩
      · rintro ⟨j, j0, j1, j2⟩
        by_cases e : q = s
        · exact ⟨p, p0, by omega, by rw [f42 p p0 p1, if_neg (by omega), if_pos rfl, e]⟩
        · obtain ⟨y, y0, y1, y2⟩ := mem q e ⟨j, j0, by simp only [Int.reduceAdd]; omega, j2⟩
          by_cases c : y < p
          · exact ⟨y, y0, by omega, by rw [f42 y y0 (by omega), if_pos c]; exact y2⟩
          · exact ⟨y + 1, by omega, by omega, by rw [f42 (y + 1) (by omega) (by omega), if_neg (by omega), if_neg (by omega), show y + 1 - 1 = y by omega]; exact y2⟩
theorem op_drag {C : jC} {K v i j : Int} (h : rAll C K) : wp_11_drag v i j C (fun E C1 => (E = jIOB ∧ oM (wp_12_drag v i j) K 1 C1) ∨ (E = jIAE ∧ oM (wp_12_drag v i j) K 2 C1)) (fun r C1 => oR (wp_12_drag v i j) K r C1) := by
  have hs := r_now h
  obtain ⟨k1, k2, k3, k4⟩ := r_cols hs
  have w0 : jU C 345 0 0 346 = C 346 := m0_w _ _
  have b31 : ∀ post : Int → jC → Prop, post 0 (jU C 345 0 1) → wp_12_drag_31 v i j (jU C 345 0 0) post := by
    intro post y
    unfold wp_12_drag_31
    rw [sp_throws1, if_neg (by decide), m00]; exact y
  have bad : ¬ ((0 ≤ v ∧ v < 4) ∧ (0 ≤ i ∧ i < C 346 (298 + 2114 * v)) ∧ (0 ≤ j ∧ j < C 346 (298 + 2114 * v))) → oM (wp_12_drag v i j) K 1 C := by
    intro hn
    unfold oM wp_12_drag
    by_cases a : 0 ≤ v ∧ v < 4
    · rw [sp_noView0 a.1 a.2, if_pos rfl]
      by_cases b : 0 ≤ i ∧ i < C 346 (298 + 2114 * v)
      · rw [sp_noPlace0 hs w0 a.1 a.2 b.1 b.2, if_pos rfl, sp_noPlace1 hs w0 a.1 a.2 (fun z => hn ⟨a, b, z⟩), if_neg (by decide)]
        exact b31 _ ⟨m0_0 _ _, rAll_m0 h⟩
      · rw [sp_noPlace1 hs w0 a.1 a.2 b, if_neg (by decide)]
        exact b31 _ ⟨m0_0 _ _, rAll_m0 h⟩
    · rw [sp_noView1 a, if_neg (by decide)]
      exact b31 _ ⟨m0_0 _ _, rAll_m0 h⟩
  unfold wp_11_drag
  refine sp_viewNumbered (fun hn => Or.inl ⟨rfl, bad (fun z => hn z.1)⟩) (fun v0 v1 => ?_)
  obtain ⟨l1, l2, l3, l4, l5⟩ := r_list hs v0 v1
  refine sp_seatAtPlace (by omega) (fun i a b => (l4 i a (by omega)).1) (fun hn => Or.inl ⟨rfl, bad (fun z => hn ⟨z.2.1.1, by rw [l1]; exact z.2.1.2⟩)⟩) (fun i0 i1 => ?_)
  refine sp_seatAtPlace (by omega) (fun i a b => (l4 i a (by omega)).1) (fun hn => Or.inl ⟨rfl, bad (fun z => hn ⟨z.2.2.1, by rw [l1]; exact z.2.2.2⟩)⟩) (fun j0 j1 => ?_)
  rw [l1] at i1 j1
  have pre : ∀ (D : jC) (post : Int → jC → Prop), D 346 = C 346 → (if i = j then wp_12_drag_54 1 v i j (jU D 345 0 0) post else wp_12_drag_54 0 v i j (jU D 345 0 0) post) → wp_12_drag v i j D post := by
    intro D post hD y
    have w1 : jU D 345 0 0 346 = C 346 := by rw [m0_w]; exact hD
    unfold wp_12_drag
    rw [sp_noView0 v0 v1, if_pos rfl, sp_noPlace0 hs w1 v0 v1 i0 i1, if_pos rfl, sp_noPlace0 hs w1 v0 v1 j0 j1, if_pos rfl, sp_throws0, if_pos rfl]
    exact y
  by_cases ij : i = j
  · rw [if_pos ij]
    refine Or.inr ⟨rfl, ?_⟩
    unfold oM
    refine pre C _ rfl ?_
    rw [if_pos ij]
    unfold wp_12_drag_54
    rw [sp_throws1, if_neg (by decide), m00]
    exact ⟨m0_0 _ _, rAll_m0 h⟩
  rw [if_neg ij]
  obtain ⟨s0, s1, s2, sl⟩ := l4 i i0 i1
  have hi : jFst (fun q => C (51 + 72 * v + 29 + 1) q = C (51 + 72 * v + 29 + 1) i) (C (51 + 72 * v + 29) 1) i := Or.inl ⟨i0, by omega, rfl, fun q a b => l5 q i a b i1⟩
  have him : jFst (fun q => C 346 (298 + 2114 * v + 1 + q) = C 38 (C (51 + 72 * v + 29 + 1) i)) (C 346 (298 + 2114 * v)) i := by
    obtain ⟨r', hr'⟩ := jFst_ex (fun q => C 346 (298 + 2114 * v + 1 + q) = C 38 (C (51 + 72 * v + 29 + 1) i)) (C 346 (298 + 2114 * v)) l2
    have := r_place hs v0 v1 s0 s1 sl hi hr'
    rw [← this] at hr'; exact hr'
  generalize hss : C (51 + 72 * v + 29 + 1) i = s at *
  generalize hn : C 346 (298 + 2114 * v) = n at *
  refine sp_takeC (by omega) (by omega) hi ?_
  -- the list without s
  have q1 := (r_view hs v0 v1).1
  have q2 := (r_view hs v0 v1).2.1
  have t1 := rLst_tk (x := s) (D := jTc (51 + 72 * v + 29) i C) (w1 := jTk (298 + 2114 * v) i (C 346)) q1 hi rfl rfl (fun j _ _ => rfl) (fun q _ _ => by rw [jTc_ne (by omega) (by omega)])
  have tn : jTk (298 + 2114 * v) i (C 346) (298 + 2114 * v) = n - 1 := by unfold jTk; rw [if_neg (by omega), jSet_eq, hn]
  have r1 : rS 35 (jTc (51 + 72 * v + 29) i C) (jTk (298 + 2114 * v) i (C 346)) := by
    refine rS_list hs v0 v1 (fun b b1 b2 _ => jTc_ne b1 (by omega)) (fun q hq => jTk_out (by omega) (by omega) (by omega) (by omega)) t1.1 (fun q a b => ?_)
    obtain ⟨-, y, y0, y1, y2⟩ := t1.2 q a b
    rw [y2]; exact q2 y y0 y1
  generalize hD1 : jTc (51 + 72 * v + 29) i C = D1 at *
  generalize hw1 : jTk (298 + 2114 * v) i (C 346) = w1 at *
  have e1 : ∀ b, b ≠ 51 + 72 * v + 29 → b ≠ 51 + 72 * v + 29 + 1 → D1 b = C b := fun b b1 b2 => by rw [← hD1, jTc_ne b1 b2]
  have m1 : D1 (51 + 72 * v + 29) 1 = n - 1 := by rw [t1.1.1, tn]
  have sl1 : rLive D1 35 s := by
    obtain ⟨z, z0, z1, z2⟩ := sl
    exact ⟨z, z0, by rw [e1 _ (by omega) (by omega)]; exact z1, by rw [e1 _ (by omega) (by omega)]; exact z2⟩
  refine sp_putAt (by rw [m1]; exact ⟨by omega, by omega⟩) j0 (by omega) (by omega) ?_
  have r2 := rS_put r1 v0 v1 j0 (by omega) s0 s1 sl1 (fun q a b => (t1.2 q a b).1) rfl
  rw [e1 38 (by omega) (by omega)] at r2
  have L2 := r_list r2 v0 v1
  have nb : ∀ q, 0 ≤ q → q < n → q ≠ j → (jV (jV D1 (51 + 72 * v + 29 + 1) (jInsF (D1 (51 + 72 * v + 29 + 1)) 0 j (D1 (51 + 72 * v + 29) 1) s)) (51 + 72 * v + 29) (jSet (D1 (51 + 72 * v + 29)) 1 (D1 (51 + 72 * v + 29) 1 + 1))) (51 + 72 * v + 29 + 1) q ≠ s := by
    intro q a b c
    rw [jV_ne (by omega), jV_eq, jIns_c (by omega)]
    by_cases d1 : q < j
    · rw [if_pos d1]; exact (t1.2 q a (by omega)).1
    · rw [if_neg d1, if_neg c]; exact (t1.2 (q - 1) (by omega) (by omega)).1
  have at2 : (jV (jV D1 (51 + 72 * v + 29 + 1) (jInsF (D1 (51 + 72 * v + 29 + 1)) 0 j (D1 (51 + 72 * v + 29) 1) s)) (51 + 72 * v + 29) (jSet (D1 (51 + 72 * v + 29)) 1 (D1 (51 + 72 * v + 29) 1 + 1))) (51 + 72 * v + 29 + 1) j = s := by
    rw [jV_ne (by omega), jV_eq, jIns_c (by omega), if_neg (by omega), if_pos rfl]
  have e2 : ∀ b, b ≠ 51 + 72 * v + 29 → b ≠ 51 + 72 * v + 29 + 1 → (jV (jV D1 (51 + 72 * v + 29 + 1) (jInsF (D1 (51 + 72 * v + 29 + 1)) 0 j (D1 (51 + 72 * v + 29) 1) s)) (51 + 72 * v + 29) (jSet (D1 (51 + 72 * v + 29)) 1 (D1 (51 + 72 * v + 29) 1 + 1))) b = C b := fun b b1 b2 => by rw [jV_ne b1, jV_ne b2, e1 b b1 b2]
  generalize hD2 : (jV (jV D1 (51 + 72 * v + 29 + 1) (jInsF (D1 (51 + 72 * v + 29 + 1)) 0 j (D1 (51 + 72 * v + 29) 1) s)) (51 + 72 * v + 29) (jSet (D1 (51 + 72 * v + 29)) 1 (D1 (51 + 72 * v + 29) 1 + 1))) = D2 at *
  have a1 : jApp (298 + 2114 * v) j (C 38 s) w1 (298 + 2114 * v) = n := by rw [jApp_b, tn]; omega
  have hA1 : jV (jV (jU D2 345 0 0) 346 w1) 346 (jApp (298 + 2114 * v) j (C 38 s) w1) = jV (jU D2 345 0 0) 346 (jApp (298 + 2114 * v) j (C 38 s) w1) := jV_V _ _ _ _
  generalize hw2 : jApp (298 + 2114 * v) j (C 38 s) w1 = w2 at *
  rw [a1] at L2
  obtain ⟨L2a, -, -, L2d, -⟩ := L2
  have w2k : w2 2 = C 346 2 := by
    rw [← hw2, jApp_out j0 (by omega) (by omega), ← hw1, jTk_out (by omega) (by omega) (by omega) (by omega)]
  have sl2 : rLive D2 35 s := by
    obtain ⟨z, z0, z1, z2⟩ := sl
    exact ⟨z, z0, by rw [e2 _ (by omega) (by omega)]; exact z1, by rw [e2 _ (by omega) (by omega)]; exact z2⟩
  obtain ⟨o1, o2, o3, o4, o5⟩ := r_ord r2
  obtain ⟨z, z0, z1, z2⟩ := id sl2
  simp only [Int.reduceAdd] at z1 z2
  rw [o1] at z1
  have hz : jFst (fun q => D2 42 q = s) (D2 41 1) z := Or.inl ⟨z0, by omega, z2, fun q a b e => o5 q z a b z1 (by rw [z2]; exact e)⟩
  have hzm : jFst (fun q => w2 (273 + 1 + q) = C 38 s) (w2 273) z := by
    obtain ⟨r', hr'⟩ := jFst_ex (fun q => w2 (274 + q) = D2 38 s) (w2 273) o2
    have := r_oplace r2 s0 s1 sl2 hz hr'
    rw [← this, e2 38 (by omega) (by omega)] at hr'
    exact hr'
  have d2at : ∀ q (E : jC), 0 ≤ q → q < n → E (51 + 72 * v + 29) = D2 (51 + 72 * v + 29) → E (51 + 72 * v + 29 + 1) = D2 (51 + 72 * v + 29 + 1) → jAt E (51 + 72 * v + 29) q = D2 (51 + 72 * v + 29 + 1) q := by
    intro q E a b f1 f2
    unfold jAt
    rw [f1, f2, L2a, if_pos (by omega)]
  unfold wp_7_followList
  rw [sp_at, d2at j D2 j0 j1 rfl rfl, at2]
  simp only [Int.reduceAdd]
  refine sp_takeC (by omega) (by omega) hz ?_
  have g29 : jTc 41 z D2 (51 + 72 * v + 29) = D2 (51 + 72 * v + 29) := jTc_ne (by omega) (by omega)
  have g30 : jTc 41 z D2 (51 + 72 * v + 29 + 1) = D2 (51 + 72 * v + 29 + 1) := jTc_ne (by omega) (by omega)
  have c41 : jTc 41 z D2 41 1 = w2 273 - 1 := by unfold jTc; rw [if_neg (by omega), jV_eq, jSet_eq, o1]
  -- the end, at place p of the order
  have fin : ∀ (nbp p : Int) (post : Int → jC → Prop), 0 ≤ nbp → nbp < n → nbp ≠ j → 0 ≤ p → p ≤ w2 273 - 1 → rS 35 (jV (jV (jTc 41 z D2) 42 (jInsF (jTc 41 z D2 42) 0 p (w2 273 - 1) s)) 41 (jSet (jTc 41 z D2 41) 1 (w2 273 - 1 + 1))) (jApp 273 p (C 38 s) (jTk 273 z w2)) →
      (∀ (G : jC) (q : Int → jC → Prop), G 346 = jTk 273 z w2 → q (C 38 s) (jV G 346 (jApp 273 p (C 38 s) (jTk 273 z w2))) → (if j ≤ 0 then wp_12_keyAt (298 + 2114 * v) 1 G (fun x27 => wp_12_placeIn 273 x27 G (fun x31 => wp_12_puts 273 x31 (C 38 s) G (fun C36 => q (C 38 s) C36))) else wp_12_keyAt (298 + 2114 * v) (j - 1) G (fun x40 => wp_12_placeIn 273 x40 G (fun x44 => jRng (x44 + 1) ∧ wp_12_puts 273 (x44 + 1) (C 38 s) G (fun C50 => q (C 38 s) C50))))) →
      wp_6_putAt 41 p s (jTc 41 z D2) (fun C24 => wp_7_keyAt 36 s C24 (fun x27 => oR (wp_12_drag v i j) K x27 C24)) := by
    intro nbp p post n0 n1 n2 p0 p1 rE hm
    refine sp_putAt (by rw [c41]; exact ⟨by omega, by omega⟩) p0 (by rw [c41]; exact p1) (by rw [c41]; omega) ?_
    simp only [Int.reduceAdd]
    rw [c41]
    generalize hE : jV (jV (jTc 41 z D2) 42 (jInsF (jTc 41 z D2 42) 0 p (w2 273 - 1) s)) 41 (jSet (jTc 41 z D2 41) 1 (w2 273 - 1 + 1)) = E at rE
    have eE : ∀ b, b ≠ 41 → b ≠ 42 → E b = D2 b := fun b b1 b2 => by rw [← hE, jV_ne b1, jV_ne b2, jTc_ne b1 b2]
    have eC : ∀ b, ¬ (36 ≤ b ∧ b < 339) → E b = C b := fun b hb => by rw [eE b (by omega) (by omega), e2 b (by omega) (by omega)]
    rw [sp_keyAt, if_pos ⟨s0, s1⟩]
    simp only [Int.reduceAdd]
    rw [eE 38 (by decide) (by decide), e2 38 (by omega) (by omega)]
    unfold oR
    refine pre E _ (eC 346 (by omega)) ?_
    rw [if_neg ij]
    have wE : jU E 345 0 0 346 = C 346 := by rw [m0_w, eC 346 (by omega)]
    unfold wp_12_drag_54
    rw [sp_throws0, if_pos rfl, sp_listOf v0 v1]
    refine sp_mkeyAt (by omega) (by omega) ?_
    rw [wE, s2]
    refine sp_takeM wE (by omega) (by omega) (by omega) (by omega) (by rw [hn]; exact him) ?_
    rw [hw1]
    refine sp_puts (by rw [jV_eq, tn]; exact ⟨by omega, by omega⟩) (by omega) j0 (by rw [jV_eq, tn]; omega) (by rw [jV_eq, tn]; omega) ?_
    rw [jV_eq, jV_V]
    have eA : jSet (jInsF w1 (298 + 2114 * v + 1) j (w1 (298 + 2114 * v)) (C 38 s)) (298 + 2114 * v) (w1 (298 + 2114 * v) + 1) = w2 := hw2
    rw [eA]
    refine sp_takeM (jV_eq _ _ _) (by decide) o2 o3 (by decide) hzm ?_
    rw [jV_V]
    refine hm (jV (jU E 345 0 0) 346 (jTk 273 z w2)) (fun b C2 => C2 345 0 = 0 ∧ b = C 38 s ∧ rAll C2 K) (jV_eq _ _ _) ?_
    rw [jV_V]
    refine ⟨by rw [jV_ne (by decide)]; exact m0_0 _ _, rfl, rAll_w h (fun b b1 b2 => ?_) (fun q hq => ?_) ?_ ?_⟩
    · rw [jV_ne (by omega), jU_ne (by omega), eC b (by omega)]
    · rw [jV_ne (by decide), jU_at, if_pos rfl, if_neg hq, eC 345 (by omega)]
    · rw [jV_eq]
      exact rS_keep (fun b hb => by unfold rOwn at hb; rw [jV_ne (by omega), jU_ne (by omega)]) rE
    · rw [jV_eq, jApp_out p0 (by unfold jTk; rw [if_neg (by omega), jSet_eq]; exact p1) (by omega), jTk_out (by omega) (by omega) (by omega) (by omega), w2k]
      exact h.2.2.2.2.2.2.1
  have n3 : jTk 273 z w2 273 = w2 273 - 1 := by unfold jTk; rw [if_neg (by omega), jSet_eq]
  have key : ∀ q, 0 ≤ q → q < n → jTk 273 z w2 (298 + 2114 * v + 1 + q) = C 38 (D2 (51 + 72 * v + 29 + 1) q) := by
    intro q a b
    rw [jTk_out (by omega) (by omega) (by omega) (by omega), (L2d q a b).2.2.1, e2 38 (by omega) (by omega)]
  by_cases jz : j ≤ 0
  · rw [if_pos jz]
    have hj : j = 0 := by omega
    rw [show j + 1 = 1 by omega, sp_at, d2at 1 _ (by omega) (by omega) g29 g30]
    obtain ⟨x0, x1, -, xl⟩ := L2d 1 (by omega) (by omega)
    obtain ⟨r, ra, rb, rc, rd, re⟩ := sp_reorder (r := 0) r2 s0 s1 sl2 x0 x1 xl (nb 1 (by omega) (by omega) (by omega)) hz
    refine rc _ ?_
    rw [show max 0 r = r by omega]
    have re' := re r ra (by omega)
    rw [e2 38 (by omega) (by omega)] at rd re'
    refine fin 1 r (fun _ _ => True) (by omega) (by omega) (by omega) ra (by omega) re' (fun G q hG hq => ?_)
    rw [if_pos jz]
    refine sp_mkeyAt (by omega) (by omega) ?_
    rw [hG, key 1 (by omega) (by omega)]
    refine rd G hG _ ?_
    refine sp_puts (by rw [hG, n3]; exact ⟨by omega, by omega⟩) (by decide) ra (by rw [hG, n3]; omega) (by rw [hG, n3]; omega) ?_
    rw [hG]
    exact hq
  · rw [if_neg jz]
    rw [sp_at, d2at (j - 1) _ (by omega) (by omega) g29 g30]
    obtain ⟨x0, x1, -, xl⟩ := L2d (j - 1) (by omega) (by omega)
    obtain ⟨r, ra, rb, rc, rd, re⟩ := sp_reorder (r := 0) r2 s0 s1 sl2 x0 x1 xl (nb (j - 1) (by omega) (by omega) (by omega)) hz
    refine rc _ ⟨⟨by omega, by omega⟩, ?_⟩
    have re' := re (r + 1) (by omega) (by omega)
    rw [e2 38 (by omega) (by omega)] at rd re'
    refine fin (j - 1) (r + 1) (fun _ _ => True) (by omega) (by omega) (by omega) (by omega) (by omega) re' (fun G q hG hq => ?_)
    rw [if_neg jz]
    refine sp_mkeyAt (by omega) (by omega) ?_
    rw [hG, key (j - 1) (by omega) (by omega)]
    refine rd G hG _ ⟨⟨by omega, by omega⟩, ?_⟩
    refine sp_puts (by rw [hG, n3]; exact ⟨by omega, by omega⟩) (by decide) (by omega) (by rw [hG, n3]; omega) (by rw [hG, n3]; omega) ?_
    rw [hG]
    exact hq

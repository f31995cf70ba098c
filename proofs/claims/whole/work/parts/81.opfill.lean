theorem op_fill {C : jC} {K v i j c : Int} (h : rAll C K) : wp_11_fill v i j c C (fun E C1 => (E = jIOB ∧ oM (wp_12_fill v i j c) K 1 C1) ∨ (E = jIAE ∧ oM (wp_12_fill v i j c) K 2 C1) ∨ (E = jISE ∧ oM (wp_12_fill v i j c) K 3 C1)) (fun r C1 => oR (wp_12_fill v i j c) K r C1) := by
  have hs := r_now h
  obtain ⟨k1, k2, k3, -⟩ := r_cols hs
  have no : ¬ ((0 ≤ v ∧ v < 4) ∧ (0 ≤ i ∧ i < C 346 (298 + 2114 * v)) ∧ (0 ≤ j ∧ j < C 346 (298 + 2114 * v)) ∧ 0 ≤ c ∧ c < C 36 0) → oM (wp_12_fill v i j c) K 1 C := by
    intro hn
    unfold oM wp_12_fill
    by_cases a : (0 ≤ v ∧ v < 4) ∧ (0 ≤ i ∧ i < C 346 (298 + 2114 * v)) ∧ 0 ≤ c ∧ c < C 36 0
    · refine sp_noCell0 hs (m0_w _ _) a.1.1 a.1.2 a.2.1.1 a.2.1.2 a.2.2.1 a.2.2.2 ?_
      rw [if_pos rfl, sp_noPlace1 hs (m0_w _ _) a.1.1 a.1.2 (fun z => hn ⟨a.1, a.2.1, z, a.2.2⟩), sp_throws1, if_neg (by decide), m00]
      exact ⟨m0_0 _ _, rAll_m0 h⟩
    · refine sp_noCell1 hs (m0_w _ _) a ?_
      rw [if_neg (by decide), m00]
      exact ⟨m0_0 _ _, rAll_m0 h⟩
  unfold wp_11_fill
  refine sp_viewNumbered (fun hn => Or.inl ⟨rfl, no (fun z => hn z.1)⟩) (fun v0 v1 => ?_)
  obtain ⟨l1, l2, l3, l4, l5⟩ := r_list hs v0 v1
  refine sp_seatAtPlace (by omega) (fun i a b => (l4 i a (by omega)).1) (fun hn => Or.inl ⟨rfl, no (fun z => hn ⟨z.2.1.1, by rw [l1]; exact z.2.1.2⟩)⟩) (fun i0 i1 => ?_)
  refine sp_seatAtPlace (by omega) (fun i a b => (l4 i a (by omega)).1) (fun hn => Or.inl ⟨rfl, no (fun z => hn ⟨z.2.2.1.1, by rw [l1]; exact z.2.2.1.2⟩)⟩) (fun j0 j1 => ?_)
  refine sp_needColumn (by omega) (fun hn => Or.inl ⟨rfl, no (fun z => hn z.2.2.2)⟩) (fun c0 c1 => ?_)
  rw [l1] at i1 j1
  have pre : ∀ (C3 : jC) (post : Int → jC → Prop), (∀ b, ¬ (36 ≤ b ∧ b < 339) → C3 b = C b) → (if i ≤ j then wp_12_fill_41 0 v i j c (jU C3 345 0 0) post else wp_12_fill_41 1 v i j c (jU C3 345 0 0) post) → wp_12_fill v i j c C3 post := by
    intro C3 post c3 y
    have w0 : jU C3 345 0 0 346 = C 346 := by rw [m0_w, c3 346 (by decide)]
    unfold wp_12_fill
    refine sp_noCell0 hs w0 v0 v1 i0 i1 c0 c1 ?_
    rw [if_pos rfl, sp_noPlace0 hs w0 v0 v1 j0 j1, sp_throws0, if_pos rfl]
    exact y
  by_cases ij : i ≤ j
  · rw [if_pos ij]
    refine sp_cHides hs v0 v1 c0 (by omega) (fun z => Or.inr (Or.inr ⟨rfl, ?_⟩)) (fun z => ?_)
    · unfold oM
      refine pre C _ (fun _ _ => rfl) ?_
      rw [if_pos ij]
      unfold wp_12_fill_41
      rw [sp_throws0, if_pos rfl]
      refine z _ (m0_w _ _) _ ?_
      rw [sp_throws1, if_neg (by decide), m00]
      exact ⟨m0_0 _ _, rAll_m0 h⟩
    · obtain ⟨s0, s1, s2, sl⟩ := l4 i i0 i1
      rw [sp_val hs s0 s1 c0 (by omega)]
      obtain ⟨f1, f2, f3⟩ := (r_live hs s0 s1 sl).2.2.2 c c0 (by omega)
      unfold wp_8_beginEdit
      simp only [Int.reduceAdd]
      refine ⟨⟨by omega, by omega⟩, ?_⟩
      rw [f1]
      generalize hX : C 346 (9 + 11 * C (51 + 72 * v + 29 + 1) i + 1 + c) = X at f3
      obtain ⟨s, es⟩ : ∃ s : Int → Int, ∀ k, s k = C (51 + 72 * v + 29 + 1) (i + 1 + k) := ⟨_, fun _ => rfl⟩
      have ok : jSeqOk C (C 346) s (fun _ => c) (fun _ => X) (j - i) := by
        refine ⟨by omega, fun k a b => ?_, fun t k a b d => ?_⟩
        · obtain ⟨p1, p2, p3, p4⟩ := l4 (i + 1 + k) (by omega) (by omega)
          rw [es]
          exact ⟨p1, p2, p4, c0, by show c < C 346 0; omega, f3⟩
        · rw [es, es]
          exact fun e => l5 (i + 1 + t) (i + 1 + k) (by omega) (by omega) (by omega) e.1
      refine jL2_of (fun k E => i + 1 ≤ k ∧ k ≤ j + 1 ∧ jSeqI C v (C 346) (jSet (C 352) 0 0) s (fun _ => c) (fun _ => X) (k - i - 1) E ∧ ∀ t, 0 ≤ t → t ≤ k - i - 1 → ∃ E', jSeqI C v (C 346) (jSet (C 352) 0 0) s (fun _ => c) (fun _ => X) t E') (fun k _ => (j + 1 - k).toNat) (fun K1 k E hi hk => ?_) ⟨by omega, by omega, by rw [show i + 1 - i - 1 = 0 by omega]; exact jSeq_0 hs, fun t a b => ⟨jU C 46 0 0, by rw [show t = 0 by omega]; exact jSeq_0 hs⟩⟩
      obtain ⟨g0, g1, gI, gH⟩ := hi
      unfold wp_11_fill_79
      by_cases a : j < k
      · rw [if_pos a]
        have ek : k = j + 1 := by omega
        subst ek
        rw [show j + 1 - i - 1 = j - i by omega] at gI gH
        refine ed_seq h v0 v1 (by omega) ok gI (fun r C3 c3 hm => ?_)
        have w0 : jU C3 345 0 0 346 = C 346 := by rw [m0_w, c3 346 (by decide)]
        have d0 : jU C3 345 0 0 352 = C 352 := by rw [jU_ne (by decide), c3 352 (by decide)]
        unfold oR
        refine pre C3 _ c3 ?_
        rw [if_pos ij]
        unfold wp_12_fill_41
        rw [sp_throws0, if_pos rfl]
        refine z _ w0 _ ?_
        rw [sp_throws0, if_pos rfl, jSeqM_0 (C := C) (v := v) (s := s) (c := fun _ => c) (x := fun _ => X) w0 d0]
        have wM : ∀ t, jSeqM v (C 346) (jSet (C 352) 0 0) s (fun _ => c) (fun _ => X) (jU C3 345 0 0) t 346 = jSeqW v s (fun _ => c) (fun _ => X) (C 346) t.toNat := fun t => by unfold jSeqM; rw [jV_ne (by decide), jV_eq]
        have w00 : jSeqM v (C 346) (jSet (C 352) 0 0) s (fun _ => c) (fun _ => X) (jU C3 345 0 0) 0 346 = C 346 := wM 0
        rw [sp_listOf v0 v1]
        refine sp_mkeyAt (by omega) (by omega) ?_
        rw [w00, s2]
        have hc := sp_cellOf hs s0 s1 sl c0 (show c < 5 by omega) w00
        simp only [Int.reduceAdd] at hc
        refine hc _ ⟨⟨by omega, by omega⟩, ?_⟩
        rw [hX]
        refine jL2_of (fun k D => i + 1 ≤ k ∧ k ≤ j + 1 ∧ D = jSeqM v (C 346) (jSet (C 352) 0 0) s (fun _ => c) (fun _ => X) (jU C3 345 0 0) (k - i - 1)) (fun k _ => (j + 1 - k).toNat) (fun K2 k D hi2 hk2 => ?_) ⟨by omega, by omega, by rw [show i + 1 - i - 1 = 0 by omega]⟩
        obtain ⟨t0, t1, rfl⟩ := hi2
        unfold wp_12_fill_94
        by_cases b : j < k
        · rw [if_pos b, show k - i - 1 = j - i by omega]
          exact hm _ (fun D D0 DA => ⟨D0, rfl, DA⟩)
        · rw [if_neg b, sp_listOf v0 v1]
          refine sp_mkeyAt (by omega) (by omega) ?_
          have lw : jSeqW v s (fun _ => c) (fun _ => X) (C 346) (k - i - 1).toNat (298 + 2114 * v + 1 + k) = C 346 (298 + 2114 * v + 1 + k) := jSeqW_low k3 ok (by omega) (by omega) _ (by omega) (fun t a b => by have := ok.2.1 t a (by omega); omega)
          rw [wM, lw, (l4 k (by omega) (by omega)).2.2.1]
          obtain ⟨E', hE'⟩ := gH (k - i - 1) (by omega) (by omega)
          have st := sp_seqM (B := jU C3 345 0 0) hs ok (show 0 ≤ k - i - 1 by omega) (by omega) hE' (post := fun C45 => jRng (k + 1) ∧ K2 (k + 1) C45)
          rw [es, show i + 1 + (k - i - 1) = k by omega] at st
          refine st ⟨⟨by omega, by omega⟩, hk2 _ _ ⟨by omega, by omega, by rw [show k + 1 - i - 1 = k - i - 1 + 1 by omega]⟩ (by omega)⟩
      · rw [if_neg a]
        have e29 : E (51 + 72 * v + 29) = C (51 + 72 * v + 29) := gI.1 _ (by omega) (by omega) (by omega) (by omega) (by omega)
        have e30 : E (51 + 72 * v + 29 + 1) = C (51 + 72 * v + 29 + 1) := gI.1 _ (by omega) (by omega) (by omega) (by omega) (by omega)
        rw [sp_at]
        have ea : jAt E (51 + 72 * v + 29) k = s (k - i - 1) := by
          unfold jAt
          rw [e29, e30, l1, if_pos (by omega), es, show i + 1 + (k - i - 1) = k by omega]
        rw [ea]
        refine sp_seqC hs v0 v1 ok (show 0 ≤ k - i - 1 by omega) (by omega) gI (fun E' hE' => ⟨⟨by omega, by omega⟩, ?_⟩)
        rw [show k - i - 1 + 1 = k + 1 - i - 1 by omega] at hE'
        refine hk _ _ ⟨by omega, by omega, hE', fun t a b => ?_⟩ (by omega)
        by_cases q : t = k + 1 - i - 1
        · rw [q]; exact ⟨E', hE'⟩
        · exact gH t a (by omega)
  · rw [if_neg ij]
    refine Or.inr (Or.inl ⟨rfl, ?_⟩)
    unfold oM
    refine pre C _ (fun _ _ => rfl) ?_
    rw [if_neg ij]
    unfold wp_12_fill_41
    rw [sp_throws1, if_neg (by decide), m00]
    exact ⟨m0_0 _ _, rAll_m0 h⟩
theorem op_swap {C : jC} {K v i j c : Int} (h : rAll C K) : wp_11_swap v i j c C (fun E C1 => (E = jIOB ∧ oM (wp_12_swap v i j c) K 1 C1) ∨ (E = jIAE ∧ oM (wp_12_swap v i j c) K 2 C1) ∨ (E = jISE ∧ oM (wp_12_swap v i j c) K 3 C1)) (fun r C1 => oR (wp_12_swap v i j c) K r C1) := by
  have hs := r_now h
  obtain ⟨k1, k2, k3, -⟩ := r_cols hs
  have no : ¬ ((0 ≤ v ∧ v < 4) ∧ (0 ≤ i ∧ i < C 346 (298 + 2114 * v)) ∧ (0 ≤ j ∧ j < C 346 (298 + 2114 * v)) ∧ 0 ≤ c ∧ c < C 36 0) → oM (wp_12_swap v i j c) K 1 C := by
    intro hn
    unfold oM wp_12_swap
    by_cases a : (0 ≤ v ∧ v < 4) ∧ (0 ≤ i ∧ i < C 346 (298 + 2114 * v)) ∧ 0 ≤ c ∧ c < C 36 0
    · refine sp_noCell0 hs (m0_w _ _) a.1.1 a.1.2 a.2.1.1 a.2.1.2 a.2.2.1 a.2.2.2 ?_
      rw [if_pos rfl, sp_noPlace1 hs (m0_w _ _) a.1.1 a.1.2 (fun z => hn ⟨a.1, a.2.1, z, a.2.2⟩), sp_throws1, if_neg (by decide), m00]
      exact ⟨m0_0 _ _, rAll_m0 h⟩
    · refine sp_noCell1 hs (m0_w _ _) a ?_
      rw [if_neg (by decide), m00]
      exact ⟨m0_0 _ _, rAll_m0 h⟩
  unfold wp_11_swap
  refine sp_viewNumbered (fun hn => Or.inl ⟨rfl, no (fun z => hn z.1)⟩) (fun v0 v1 => ?_)
  obtain ⟨l1, l2, l3, l4, l5⟩ := r_list hs v0 v1
  refine sp_seatAtPlace (by omega) (fun i a b => (l4 i a (by omega)).1) (fun hn => Or.inl ⟨rfl, no (fun z => hn ⟨z.2.1.1, by rw [l1]; exact z.2.1.2⟩)⟩) (fun i0 i1 => ?_)
  refine sp_seatAtPlace (by omega) (fun i a b => (l4 i a (by omega)).1) (fun hn => Or.inl ⟨rfl, no (fun z => hn ⟨z.2.2.1.1, by rw [l1]; exact z.2.2.1.2⟩)⟩) (fun j0 j1 => ?_)
  refine sp_needColumn (by omega) (fun hn => Or.inl ⟨rfl, no (fun z => hn z.2.2.2)⟩) (fun c0 c1 => ?_)
  rw [l1] at i1 j1
  have pre : ∀ (C3 : jC) (post : Int → jC → Prop), (∀ b, ¬ (36 ≤ b ∧ b < 339) → C3 b = C b) → (if i = j then wp_12_swap_41 1 v i j c (jU C3 345 0 0) post else wp_12_swap_41 0 v i j c (jU C3 345 0 0) post) → wp_12_swap v i j c C3 post := by
    intro C3 post c3 y
    have w0 : jU C3 345 0 0 346 = C 346 := by rw [m0_w, c3 346 (by decide)]
    unfold wp_12_swap
    refine sp_noCell0 hs w0 v0 v1 i0 i1 c0 c1 ?_
    rw [if_pos rfl, sp_noPlace0 hs w0 v0 v1 j0 j1, sp_throws0, if_pos rfl]
    exact y
  by_cases ij : i = j
  · rw [if_pos ij]
    refine Or.inr (Or.inl ⟨rfl, ?_⟩)
    unfold oM
    refine pre C _ (fun _ _ => rfl) ?_
    rw [if_pos ij]
    unfold wp_12_swap_41
    rw [sp_throws1, if_neg (by decide), m00]
    exact ⟨m0_0 _ _, rAll_m0 h⟩
  · rw [if_neg ij]
    refine sp_cHides hs v0 v1 c0 (by omega) (fun z => Or.inr (Or.inr ⟨rfl, ?_⟩)) (fun z => ?_)
    · unfold oM
      refine pre C _ (fun _ _ => rfl) ?_
      rw [if_neg ij]
      unfold wp_12_swap_41
      rw [sp_throws0, if_pos rfl]
      refine z _ (m0_w _ _) _ ?_
      rw [sp_throws1, if_neg (by decide), m00]
      exact ⟨m0_0 _ _, rAll_m0 h⟩
    · have mi : ∀ D : jC, D 346 = C 346 → jDet (wp_12_valueAt v i c D) (jLv C v c i) := fun D hD => sp_mval hs v0 v1 i0 i1 c0 (by omega) hD
      have mj : ∀ D : jC, D 346 = C 346 → jDet (wp_12_valueAt v j c D) (jLv C v c j) := fun D hD => sp_mval hs v0 v1 j0 j1 c0 (by omega) hD
      rw [sp_vval hs v0 v1 i0 i1 c0 (by omega), sp_vval hs v0 v1 j0 j1 c0 (by omega)]
      have vi := r_lv hs v0 v1 i0 i1 c0 (show c < C 346 0 by omega)
      have vj := r_lv hs v0 v1 j0 j1 c0 (show c < C 346 0 by omega)
      unfold wp_8_beginEdit
      simp only [Int.reduceAdd]
      obtain ⟨s, es0, es1⟩ : ∃ s : Int → Int, s 0 = C (51 + 72 * v + 29 + 1) i ∧ s 1 = C (51 + 72 * v + 29 + 1) j := ⟨fun k => if k = 0 then C (51 + 72 * v + 29 + 1) i else C (51 + 72 * v + 29 + 1) j, rfl, rfl⟩
      obtain ⟨x, ex0, ex1⟩ : ∃ x : Int → Int, x 0 = jLv C v c j ∧ x 1 = jLv C v c i := ⟨fun k => if k = 0 then jLv C v c j else jLv C v c i, rfl, rfl⟩
      obtain ⟨p1, p2, p3, p4⟩ := l4 i i0 i1
      obtain ⟨q1, q2, q3, q4⟩ := l4 j j0 j1
      have ne : s 0 ≠ s 1 := by
        rw [es0, es1]
        rcases Int.lt_or_gt_of_ne ij with a | a
        · exact l5 i j i0 a j1
        · exact (l5 j i j0 a i1).symm
      have ok : jSeqOk C (C 346) s (fun _ => c) x 2 := by
        refine ⟨by omega, fun k a b => ?_, fun t k a b d => ?_⟩
        · by_cases e : k = 0
          · subst e
            rw [es0, ex0]
            exact ⟨p1, p2, p4, c0, by show c < C 346 0; omega, vj⟩
          · have e : k = 1 := by omega
            subst e
            rw [es1, ex1]
            exact ⟨q1, q2, q4, c0, by show c < C 346 0; omega, vi⟩
        · rw [show t = 0 by omega, show k = 1 by omega]
          exact fun e => ne e.1
      have I0 : jSeqI C v (C 346) (jSet (C 352) 0 0) s (fun _ => c) x 0 (jU C 46 0 0) := jSeq_0 hs
      rw [← es0, ← ex0]
      refine sp_seqC hs v0 v1 ok (show (0 : Int) ≤ 0 by omega) (by omega) I0 (fun E I1 => ?_)
      rw [← es1, ← ex1]
      rw [Int.zero_add] at I1
      refine sp_seqC hs v0 v1 ok (show (0 : Int) ≤ 1 by omega) (by omega) I1 (fun E2 I2 => ?_)
      rw [show (1 : Int) + 1 = 2 by omega] at I2
      refine ed_seq h v0 v1 (by omega) ok I2 (fun r C3 c3 hm => ?_)
      have w0 : jU C3 345 0 0 346 = C 346 := by rw [m0_w, c3 346 (by decide)]
      have d0 : jU C3 345 0 0 352 = C 352 := by rw [jU_ne (by decide), c3 352 (by decide)]
      unfold oR
      refine pre C3 _ c3 ?_
      rw [if_neg ij]
      unfold wp_12_swap_41
      rw [sp_throws0, if_pos rfl]
      refine z _ w0 _ ?_
      rw [sp_throws0, if_pos rfl, jSeqM_0 (C := C) (v := v) (s := s) (c := fun _ => c) (x := x) w0 d0]
      have wM : ∀ t, jSeqM v (C 346) (jSet (C 352) 0 0) s (fun _ => c) x (jU C3 345 0 0) t 346 = jSeqW v s (fun _ => c) x (C 346) t.toNat := fun t => by unfold jSeqM; rw [jV_ne (by decide), jV_eq]
      have w00 : jSeqM v (C 346) (jSet (C 352) 0 0) s (fun _ => c) x (jU C3 345 0 0) 0 346 = C 346 := wM 0
      refine mi _ w00 _ (mj _ w00 _ ?_)
      rw [sp_listOf v0 v1]
      refine sp_mkeyAt (by omega) (by omega) ?_
      rw [w00, p3, ← es0, ← ex0, ← ex1]
      refine sp_seqM hs ok (show (0 : Int) ≤ 0 by omega) (by omega) I0 ?_
      rw [Int.zero_add, sp_listOf v0 v1]
      refine sp_mkeyAt (by omega) (by omega) ?_
      have lw : jSeqW v s (fun _ => c) x (C 346) (1 : Int).toNat (298 + 2114 * v + 1 + j) = C 346 (298 + 2114 * v + 1 + j) := jSeqW_low k3 ok (by omega) (by omega) _ (by omega) (fun t a b => by have := ok.2.1 t a (by omega); omega)
      rw [wM, lw, q3, ← es1]
      refine sp_seqM hs ok (show (0 : Int) ≤ 1 by omega) (by omega) I1 ?_
      rw [show (1 : Int) + 1 = 2 by omega]
      exact hm _ (fun D D0 DA => ⟨D0, rfl, DA⟩)

theorem sp_holdB {C : jC} {w : Int → Int} (h : rS 35 C w) {c v : Int} (c0 : 0 ≤ c) (c1 : c < C 36 0) :
    ∃ x, (x = 0 ∨ x = 1) ∧ (x = 1 → jVal (w (4 + c)) v) ∧ jDet (wp_7_mayHoldOrBlank 36 c v C) x ∧ ∀ C' : jC, C' 346 = w → jDet (wp_12_isNone c v C') (1 - x) := by
  by_cases e : v = -1000000
  · refine ⟨1, Or.inr rfl, fun _ => Or.inl e, fun post z => ?_, fun C' hC post z => ?_⟩
    · unfold wp_7_mayHoldOrBlank; rw [if_pos e]; exact z
    · unfold wp_12_isNone; rw [if_pos e]; exact z
  · obtain ⟨x, x1, x2, x3, x4⟩ := sp_hold h (v := v) c0 c1
    refine ⟨x, x1, fun q => x2 q e, fun post z => ?_, fun C' hC post z => ?_⟩
    · unfold wp_7_mayHoldOrBlank
      rw [if_neg e]
      refine x3 _ ?_
      rcases x1 with rfl | rfl
      · rw [if_pos rfl]; exact z
      · rw [if_neg (by decide)]; exact z
    · unfold wp_12_isNone
      rw [if_neg e]
      refine x4 C' hC _ ?_
      rcases x1 with rfl | rfl
      · rw [if_pos rfl]; exact z
      · rw [if_neg (by decide)]; exact z
theorem jSeq_skipW {v : Int} {s c x w : Int → Int} {k : Int} (k0 : 0 ≤ k) (e : jSeqW v s c x w k.toNat (9 + 11 * s k + 1 + c k) = x k) : jSeqW v s c x w (k + 1).toNat = jSeqW v s c x w k.toNat := by
  rw [jSeqW_s k0]
  unfold jAlW
  rw [if_pos e]
theorem jSeq_skipD {v : Int} {s c x w d : Int → Int} {k : Int} (k0 : 0 ≤ k) (e : jSeqW v s c x w k.toNat (9 + 11 * s k + 1 + c k) = x k) : jSeqD v s c x w d (k + 1).toNat = jSeqD v s c x w d k.toNat := by
  rw [jSeqD_s k0]
  unfold jAlD
  rw [if_pos e]
theorem jSeq_skip {C E : jC} {v : Int} {w d s c x : Int → Int} {k : Int} (k0 : 0 ≤ k) (e : jSeqW v s c x w k.toNat (9 + 11 * s k + 1 + c k) = x k) (hI : jSeqI C v w d s c x k E) : jSeqI C v w d s c x (k + 1) E := by
  obtain ⟨i1, i2, i3, i4, i5⟩ := hI
  unfold jSeqI
  rw [jSeq_skipW k0 e, jSeq_skipD k0 e]
  refine ⟨i1, i2, i3, by omega, fun i a b => ?_⟩
  obtain ⟨t, t0, t1, t2⟩ := i5 i a b
  exact ⟨t, t0, by omega, t2⟩
theorem jSeqM_skip {B : jC} {v : Int} {w d s c x : Int → Int} {k : Int} (k0 : 0 ≤ k) (e : jSeqW v s c x w k.toNat (9 + 11 * s k + 1 + c k) = x k) : jSeqM v w d s c x B k = jSeqM v w d s c x B (k + 1) := by
  unfold jSeqM
  rw [jSeq_skipW k0 e, jSeq_skipD k0 e]
theorem op_replace {C : jC} {K v c x y : Int} (h : rAll C K) : wp_11_replace v c x y C (fun E C1 => (E = jIOB ∧ oM (wp_12_replace v c x y) K 1 C1) ∨ (E = jISE ∧ oM (wp_12_replace v c x y) K 2 C1) ∨ (E = jIAE ∧ oM (wp_12_replace v c x y) K 3 C1)) (fun r C1 => oR (wp_12_replace v c x y) K r C1) := by
  have hs := r_now h
  obtain ⟨k1, k2, k3, -⟩ := r_cols hs
  have no : ¬ ((0 ≤ v ∧ v < 4) ∧ 0 ≤ c ∧ c < C 36 0) → oM (wp_12_replace v c x y) K 1 C := by
    intro hn
    unfold oM wp_12_replace
    by_cases a : 0 ≤ v ∧ v < 4
    · rw [sp_noView0 a.1 a.2, if_pos rfl, sp_noCol1 hs (m0_w _ _) (fun z => hn ⟨a, z⟩), if_neg (by decide)]
      unfold wp_12_replace_26
      rw [sp_throws1, if_neg (by decide), m00]
      exact ⟨m0_0 _ _, rAll_m0 h⟩
    · rw [sp_noView1 a, if_neg (by decide)]
      unfold wp_12_replace_26
      rw [sp_throws1, if_neg (by decide), m00]
      exact ⟨m0_0 _ _, rAll_m0 h⟩
  unfold wp_11_replace
  refine sp_viewNumbered (fun hn => Or.inl ⟨rfl, no (fun z => hn z.1)⟩) (fun v0 v1 => ?_)
  obtain ⟨l1, l2, l3, l4, l5⟩ := r_list hs v0 v1
  refine sp_needColumn (by omega) (fun hn => Or.inl ⟨rfl, no (fun z => hn z.2)⟩) (fun c0 c1 => ?_)
  have pre : ∀ (C3 : jC) (post : Int → jC → Prop), (∀ b, ¬ (36 ≤ b ∧ b < 339) → C3 b = C b) → wp_12_replace_26 0 v c x y (jU C3 345 0 0) post → wp_12_replace v c x y C3 post := by
    intro C3 post c3 z
    have w0 : jU C3 345 0 0 346 = C 346 := by rw [m0_w, c3 346 (by decide)]
    unfold wp_12_replace
    rw [sp_noView0 v0 v1, if_pos rfl, sp_noCol0 hs w0 c0 c1, if_pos rfl]
    exact z
  refine sp_cHides hs v0 v1 c0 (by omega) (fun z => Or.inr (Or.inl ⟨rfl, ?_⟩)) (fun z => ?_)
  · unfold oM
    refine pre C _ (fun _ _ => rfl) ?_
    unfold wp_12_replace_26
    rw [sp_throws0, if_pos rfl]
    refine z _ (m0_w _ _) _ ?_
    rw [sp_throws1, if_neg (by decide), m00]
    exact ⟨m0_0 _ _, rAll_m0 h⟩
  obtain ⟨a, a1, a2, a3, a4⟩ := sp_holdB hs (v := x) c0 c1
  obtain ⟨b, b1, b2, b3, b4⟩ := sp_holdB hs (v := y) c0 c1
  have bad : (∀ post : Int → jC → Prop, wp_12_replace_67 v c x y (jU C 345 0 0) post → (if (1 : Int) - a = 0 then wp_12_isNone c y (jU C 345 0 0) (fun x60 => if x60 = 0 then wp_12_throwsIf 0 3 (jU C 345 0 0) (fun x65 C66 => if x65 = 0 then jL2 (wp_12_replace_91 v c x y post) 0 (jU C66 352 0 0) else post 0 C66) else wp_12_replace_67 v c x y (jU C 345 0 0) post) else wp_12_replace_67 v c x y (jU C 345 0 0) post)) → oM (wp_12_replace v c x y) K 3 C := by
    intro q
    unfold oM
    refine pre C _ (fun _ _ => rfl) ?_
    unfold wp_12_replace_26
    rw [sp_throws0, if_pos rfl]
    refine z _ (m0_w _ _) _ ?_
    rw [sp_throws0, if_pos rfl]
    refine a4 _ (m0_w _ _) _ ?_
    refine q _ ?_
    unfold wp_12_replace_67
    rw [sp_throws1, if_neg (by decide), m00]
    exact ⟨m0_0 _ _, rAll_m0 h⟩
  refine a3 _ ?_
  rcases a1 with rfl | rfl
  · rw [if_pos rfl]
    refine Or.inr (Or.inr ⟨rfl, bad (fun post q => ?_)⟩)
    rw [if_neg (by decide)]; exact q
  rw [if_neg (by decide)]
  refine b3 _ ?_
  rcases b1 with rfl | rfl
  · rw [if_pos rfl]
    refine Or.inr (Or.inr ⟨rfl, bad (fun post q => ?_)⟩)
    rw [if_pos (by decide)]
    refine b4 _ (m0_w _ _) _ ?_
    rw [if_neg (by decide)]; exact q
  rw [if_neg (by decide)]
  unfold wp_8_beginEdit
  simp only [Int.reduceAdd]
  obtain ⟨s, es⟩ : ∃ s : Int → Int, ∀ k, s k = C (51 + 72 * v + 29 + 1) k := ⟨_, fun _ => rfl⟩
  obtain ⟨xx, ex⟩ : ∃ xx : Int → Int, ∀ k, xx k = if C 346 (9 + 11 * s k + 1 + c) = x then y else C 346 (9 + 11 * s k + 1 + c) := ⟨_, fun _ => rfl⟩
  generalize hn : C 346 (298 + 2114 * v) = n at *
  have ok : jSeqOk C (C 346) s (fun _ => c) xx n := by
    refine ⟨by omega, fun k a b => ?_, fun t k a b d => ?_⟩
    · obtain ⟨p1, p2, p3, p4⟩ := l4 k a b
      rw [← es] at p1 p2 p4
      refine ⟨p1, p2, p4, c0, by show c < C 346 0; omega, ?_⟩
      show jVal (C 346 (4 + c)) (xx k)
      rw [ex]
      split
      · exact b2 rfl
      · exact ((r_live hs p1 p2 p4).2.2.2 c c0 (by omega)).2.2
    · rw [es, es]
      exact fun e => l5 t k a b d e.1
  have cel : ∀ k, 0 ≤ k → k < n → jSeqW v s (fun _ => c) xx (C 346) k.toNat (9 + 11 * s k + 1 + c) = C 346 (9 + 11 * s k + 1 + c) := fun k a b => jSeq_cell (c := fun _ => c) k3 ok a b a (Int.le_refl _)
  refine jL2_of (fun k E => 0 ≤ k ∧ k ≤ n ∧ jSeqI C v (C 346) (jSet (C 352) 0 0) s (fun _ => c) xx k E ∧ ∀ t, 0 ≤ t → t ≤ k → ∃ E', jSeqI C v (C 346) (jSet (C 352) 0 0) s (fun _ => c) xx t E') (fun k _ => (n - k).toNat) (fun K1 k E hi hk => ?_) ⟨by omega, by omega, jSeq_0 hs, fun t a b => ⟨jU C 46 0 0, by rw [show t = 0 by omega]; exact jSeq_0 hs⟩⟩
  obtain ⟨g0, g1, gI, gH⟩ := hi
  have e29 : E (51 + 72 * v + 29) = C (51 + 72 * v + 29) := gI.1 _ (by omega) (by omega) (by omega) (by omega) (by omega)
  have e30 : E (51 + 72 * v + 29 + 1) = C (51 + 72 * v + 29 + 1) := gI.1 _ (by omega) (by omega) (by omega) (by omega) (by omega)
  have W0 : ∀ t, 0 ≤ t → t ≤ n → jSeqW v s (fun _ => c) xx (C 346) t.toNat 0 = C 346 0 := fun t a b => jSeqW_low k3 ok (by omega) (by omega) _ (by omega) (fun u a b => by have := ok.2.1 u a (by omega); omega)
  have vl : ∀ (E : jC) (t : Int), 0 ≤ t → t < n → jSeqI C v (C 346) (jSet (C 352) 0 0) s (fun _ => c) xx t E → E 39 (s t * 5 + c) = C 346 (9 + 11 * s t + 1 + c) := by
    intro E t a b hE
    obtain ⟨p1, p2, p3, -⟩ := ok.2.1 t a b
    have := ((r_live hE.2.1 p1 p2 (jSeq_live hE p3)).2.2.2 c c0 (by rw [W0 t a (by omega)]; omega)).1
    rw [this, cel t a b]
  unfold wp_11_replace_68
  rw [sp_length, e29, l1]
  by_cases a : n ≤ k
  · rw [if_pos a]
    have ek : k = n := by omega
    subst ek
    refine ed_seq h v0 v1 (by omega) ok gI (fun r C3 c3 hm => ?_)
    have w0 : jU C3 345 0 0 346 = C 346 := by rw [m0_w, c3 346 (by decide)]
    have d0 : jU C3 345 0 0 352 = C 352 := by rw [jU_ne (by decide), c3 352 (by decide)]
    unfold oR
    refine pre C3 _ c3 ?_
    unfold wp_12_replace_26
    rw [sp_throws0, if_pos rfl]
    refine z _ w0 _ ?_
    rw [sp_throws0, if_pos rfl]
    refine a4 _ w0 _ ?_
    rw [if_pos (by decide)]
    refine b4 _ w0 _ ?_
    rw [if_pos (by decide), sp_throws0, if_pos rfl, jSeqM_0 (C := C) (v := v) (s := s) (c := fun _ => c) (x := xx) w0 d0]
    have wM : ∀ t, jSeqM v (C 346) (jSet (C 352) 0 0) s (fun _ => c) xx (jU C3 345 0 0) t 346 = jSeqW v s (fun _ => c) xx (C 346) t.toNat := fun t => by unfold jSeqM; rw [jV_ne (by decide), jV_eq]
    refine jL2_of (fun t D => 0 ≤ t ∧ t ≤ k ∧ D = jSeqM v (C 346) (jSet (C 352) 0 0) s (fun _ => c) xx (jU C3 345 0 0) t) (fun t _ => (k - t).toNat) (fun K2 t D hi2 hk2 => ?_) ⟨by omega, by omega, rfl⟩
    obtain ⟨t0, t1, rfl⟩ := hi2
    have lw : ∀ q, 298 + 2114 * v ≤ q → q < 298 + 2114 * v + 25 → jSeqW v s (fun _ => c) xx (C 346) t.toNat q = C 346 q := fun q q0 q1 => jSeqW_low k3 ok (by omega) (by omega) _ (by omega) (fun u a b => by have := ok.2.1 u a (by omega); omega)
    unfold wp_12_replace_91
    rw [sp_vsize v0 v1, wM, lw _ (by omega) (by omega), hn]
    by_cases b : k ≤ t
    · rw [if_pos b, show t = k by omega]
      exact hm _ (fun D D0 DA => ⟨D0, rfl, DA⟩)
    · rw [if_neg b]
      obtain ⟨E', hE'⟩ := gH t t0 (by omega)
      have mv := sp_mval hE'.2.1 v0 v1 t0 (by rw [lw _ (by omega) (by omega), hn]; omega) c0 (by rw [W0 t t0 t1]; omega) (wM t) 
      refine mv _ ?_
      have ev : jLv E' v c t = C 346 (9 + 11 * s t + 1 + c) := by
        unfold jLv
        rw [hE'.1 (51 + 72 * v + 29 + 1) (by omega) (by omega) (by omega) (by omega) (by omega), ← es, vl E' t t0 (by omega) hE']
      rw [ev]
      by_cases e : C 346 (9 + 11 * s t + 1 + c) = x
      · rw [if_pos e, sp_listOf v0 v1]
        refine sp_mkeyAt (by omega) (by omega) ?_
        rw [wM, lw _ (by omega) (by omega), (l4 t t0 (by omega)).2.2.1, ← es]
        have st := sp_seqM (B := jU C3 345 0 0) hs ok t0 (by omega) hE' (post := fun C36 => K2 (t + 1) C36)
        rw [ex, if_pos e] at st
        exact st (hk2 _ _ ⟨by omega, by omega, rfl⟩ (by omega))
      · rw [if_neg e]
        refine hk2 _ _ ⟨by omega, by omega, jSeqM_skip t0 ?_⟩ (by omega)
        rw [cel t t0 (by omega), ex, if_neg e]
  · rw [if_neg a, sp_at]
    have ea : jAt E (51 + 72 * v + 29) k = s k := by
      unfold jAt
      rw [e29, e30, l1, if_pos (by omega), es]
    rw [ea]
    obtain ⟨p1, p2, p3, -⟩ := ok.2.1 k g0 (by omega)
    rw [sp_val gI.2.1 p1 p2 c0 (by rw [W0 k g0 g1]; omega), vl E k g0 (by omega) gI]
    have nx : ∀ E' : jC, jSeqI C v (C 346) (jSet (C 352) 0 0) s (fun _ => c) xx (k + 1) E' → K1 (k + 1) E' := by
      intro E' hE'
      refine hk _ _ ⟨by omega, by omega, hE', fun t a b => ?_⟩ (by omega)
      by_cases q : t = k + 1
      · rw [q]; exact ⟨E', hE'⟩
      · exact gH t a (by omega)
    by_cases e : C 346 (9 + 11 * s k + 1 + c) = x
    · rw [if_pos e]
      have st := sp_seqC hs v0 v1 ok g0 (by omega) gI (post := fun C47 => K1 (k + 1) C47) nx
      rw [ex, if_pos e] at st
      exact st
    · rw [if_neg e]
      refine nx E (jSeq_skip g0 ?_ gI)
      rw [cel k g0 (by omega), ex, if_neg e]

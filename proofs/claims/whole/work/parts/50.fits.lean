-- which rows fit a view
theorem r_lens {C : jC} {w : Int → Int} (h : rS 35 C w) {v : Int} (h0 : 0 ≤ v) (h1 : v < 4) : rLens C w (51 + 72 * v + 1) (298 + 2114 * v) := (r_view h h0 h1).2.2.1
theorem sp_acc {C : jC} {w : Int → Int} (h : rS 35 C w) {v s c : Int} (v0 : 0 ≤ v) (v1 : v < 4) (s0 : 0 ≤ s) (s1 : s < 24) (hl : rLive C 35 s) (c0 : 0 ≤ c) (c1 : c < w 0) :
    ∃ r, (r = 0 ∨ r = 1) ∧ jDet (wp_1_accepts (51 + 72 * v + 1 + 1 + 2 + 5 * c) (C 39 (s * 5 + c)) C) r ∧ ∀ C' : jC, C' 346 = w → jDet (wp_12_isAsFilter v (C 38 s) c C') r := by
  obtain ⟨k1, k2, k3, -⟩ := r_cols h
  obtain ⟨-, -, -, lv⟩ := r_live h s0 s1 hl
  obtain ⟨lv1, lv2, lv3⟩ := lv c c0 c1
  obtain ⟨-, -, -, -, -, -, -, hf, -⟩ := r_lens h v0 v1
  obtain ⟨f1, f2, f3, f4⟩ := hf c c0 (by omega)
  rw [show 51 + 72 * v + 1 + 3 + 5 * c = 51 + 72 * v + 1 + 1 + 2 + 5 * c by omega] at f1 f4
  rw [show 298 + 2114 * v + 30 + 31 * c = 298 + 2114 * v + (30 + 31 * c) by omega] at f1 f2 f3 f4
  generalize hf : 51 + 72 * v + 1 + 1 + 2 + 5 * c = f at f1 f4 ⊢
  have H : ∀ k, ∃ r, 0 ≤ k → k < w (298 + 2114 * v + (30 + 31 * c)) → (r = 0 ∨ r = 1) ∧ jDet (wp_1_isAs f k (C 39 (s * 5 + c)) C) r ∧ ∀ C' : jC, C' 346 = w → jDet (wp_12_isAsTest (C 39 (s * 5 + c)) (298 + 2114 * v + (30 + 31 * c) + 1 + 5 * k) C') (if w (298 + 2114 * v + (30 + 31 * c) + 1 + 5 * k) = 1 then 1 - r else r) := by
    intro k
    by_cases hk : 0 ≤ k ∧ k < w (298 + 2114 * v + (30 + 31 * c))
    · obtain ⟨r, r1, r2, r3⟩ := sp_test (f := f) (v := C 39 (s * 5 + c)) hk.1 (show k < 6 by omega) (by omega) (by omega) (f4 k hk.1 hk.2) (by rw [lv1]; exact lv3)
      exact ⟨r, fun _ _ => ⟨r1, r2, r3⟩⟩
    · exact ⟨0, fun a b => absurd ⟨a, b⟩ hk⟩
  obtain ⟨ρ, hρ⟩ := Classical.skolem.mp H
  have T : ∀ k, 0 ≤ k → k < w (298 + 2114 * v + (30 + 31 * c)) → 0 ≤ C (f + 4) k ∧ w (298 + 2114 * v + (30 + 31 * c) + 1 + 5 * k) = C (f + 4) k % 2 := by
    intro k a b
    obtain ⟨t1, t2, t3, -⟩ := f4 k a b
    exact ⟨t1, t3⟩
  have main : ∀ y : Int, (fOk (C f 0) (fun k => if C (f + 4) k % 2 = 1 then 1 - ρ k else ρ k) → y = 1) → (¬ fOk (C f 0) (fun k => if C (f + 4) k % 2 = 1 then 1 - ρ k else ρ k) → y = 0) → jDet (wp_1_accepts f (C 39 (s * 5 + c)) C) y ∧ ∀ C' : jC, C' 346 = w → jDet (wp_12_isAsFilter v (C 38 s) c C') y := by
    intro y y1 y0
    refine ⟨fun post z => ?_, fun C' hC post z => ?_⟩
    · refine sp_accepts (g := fun k => if C (f + 4) k % 2 = 1 then 1 - ρ k else ρ k) (by omega) (by omega) (fun k a b => ?_) (fun q => y1 q ▸ z) (fun q => y0 q ▸ z)
      obtain ⟨t1, t2⟩ := T k a (by omega)
      obtain ⟨g1, g2, -⟩ := hρ k a (by omega)
      exact ⟨t1, ρ k, g1, g2, rfl⟩
    · have hx := sp_cellOf h s0 s1 hl c0 (show c < 5 by omega) hC
      simp only [Int.reduceAdd] at hx
      rw [← lv1] at hx
      refine sp_isAsFilter (g := fun k => if C (f + 4) k % 2 = 1 then 1 - ρ k else ρ k) v0 v1 c0 (by omega) hx (by rw [hC]; exact f2) (by rw [hC]; exact f3) (fun k a b => ?_) (fun q => ?_) (fun q => ?_)
      · rw [hC] at b
        obtain ⟨t1, t2⟩ := T k a b
        obtain ⟨g1, -, g3⟩ := hρ k a b
        rw [t2] at g3
        refine ⟨?_, g3 C' hC⟩
        split <;> omega
      · rw [hC, ← f1] at q; exact y1 q ▸ z
      · rw [hC, ← f1] at q; exact y0 q ▸ z
  by_cases B : fOk (C f 0) (fun k => if C (f + 4) k % 2 = 1 then 1 - ρ k else ρ k)
  · exact ⟨1, Or.inr rfl, main 1 (fun _ => rfl) (fun z => absurd B z)⟩
  · exact ⟨0, Or.inl rfl, main 0 (fun z => absurd z B) (fun _ => rfl)⟩
theorem jFst_ex (p : Int → Prop) (n : Int) (hn : 0 ≤ n) : ∃ r, jFst p n r := by
  have key : ∀ m : Nat, (∃ r, jFst p m r) := by
    intro m
    induction m with
    | zero => exact ⟨-1, Or.inr ⟨rfl, fun j a b => by omega⟩⟩
    | succ m ih =>
      obtain ⟨r, hr⟩ := ih
      rcases hr with ⟨a0, a1, a2, a3⟩ | ⟨a0, a1⟩
      · exact ⟨r, Or.inl ⟨a0, by omega, a2, a3⟩⟩
      · by_cases e : p m
        · exact ⟨m, Or.inl ⟨by omega, by omega, e, fun j j0 j1 => a1 j j0 (by omega)⟩⟩
        · refine ⟨-1, Or.inr ⟨rfl, fun j j0 j1 => ?_⟩⟩
          by_cases ej : j = m
          · rw [ej]; exact e
          · exact a1 j j0 (by omega)
  obtain ⟨r, hr⟩ := key n.toNat
  rw [Int.toNat_of_nonneg hn] at hr
  exact ⟨r, hr⟩
theorem sp_why {C : jC} {w : Int → Int} (h : rS 35 C w) {v s : Int} (v0 : 0 ≤ v) (v1 : v < 4) (s0 : 0 ≤ s) (s1 : s < 24) (hl : rLive C 35 s) :
    ∃ r, (r = -1 ∨ (0 ≤ r ∧ r < w 0)) ∧ jDet (wp_2_firstUnlike (51 + 72 * v + 1) 36 s C) r ∧ ∀ C' : jC, C' 346 = w → jDet (wp_12_whyNot v (C 38 s) C') r := by
  obtain ⟨k1, k2, k3, -⟩ := r_cols h
  obtain ⟨-, -, -, -, -, -, -, hf, hz⟩ := r_lens h v0 v1
  have H : ∀ c, ∃ r, 0 ≤ c → c < w 0 → (r = 0 ∨ r = 1) ∧ jDet (wp_1_accepts (51 + 72 * v + 1 + 1 + 2 + 5 * c) (C 39 (s * 5 + c)) C) r ∧ ∀ C' : jC, C' 346 = w → jDet (wp_12_isAsFilter v (C 38 s) c C') r := by
    intro c
    by_cases hc : 0 ≤ c ∧ c < w 0
    · obtain ⟨r, hr⟩ := sp_acc h v0 v1 s0 s1 hl hc.1 hc.2
      exact ⟨r, fun _ _ => hr⟩
    · exact ⟨0, fun a b => absurd ⟨a, b⟩ hc⟩
  obtain ⟨ρ, hρ⟩ := Classical.skolem.mp H
  have main : ∀ r, jFst (fun c => ρ c = 0) (w 0) r → jDet (wp_2_firstUnlike (51 + 72 * v + 1) 36 s C) r ∧ ∀ C' : jC, C' 346 = w → jDet (wp_12_whyNot v (C 38 s) C') r := by
    intro r hr
    refine ⟨fun post y => ?_, fun C' hC post y => ?_⟩
    · unfold wp_2_firstUnlike
      refine jL1_of (fun c => 0 ≤ c ∧ c ≤ 5 ∧ ∀ j, 0 ≤ j → j < c → j < w 0 → ρ j ≠ 0) (fun c => (5 - c).toNat) (fun K c hi hk => ?_) ⟨by omega, by omega, fun j _ _ => by omega⟩
      obtain ⟨i0, i1, i2⟩ := hi
      unfold wp_2_firstUnlike_2
      by_cases a : 5 ≤ c
      · rw [if_pos a]
        rcases hr with ⟨a0, a1, a2, a3⟩ | ⟨a0, a1⟩
        · exact absurd a2 (i2 r a0 (by omega) a1)
        · rw [← a0]; exact y
      · rw [if_neg a]
        refine ⟨i0, ?_⟩
        rw [sp_valueAt (by omega)]
        by_cases b : c < w 0
        · rw [if_pos ⟨⟨s0, s1⟩, i0, by omega⟩]
          simp only [Int.reduceAdd]
          obtain ⟨g1, g2, -⟩ := hρ c i0 b
          refine g2 _ ?_
          by_cases d : ρ c = 0
          · rw [if_pos d]
            rw [jFst_uniq (Or.inl ⟨i0, b, d, fun j j0 j1 => i2 j j0 j1 (by omega)⟩) hr]
            exact y
          · rw [if_neg d]
            refine hk _ ⟨by omega, by omega, fun j j0 j1 j2 => ?_⟩ (by omega)
            by_cases e : j = c
            · rw [e]; exact d
            · exact i2 j j0 (by omega) j2
        · rw [if_neg (by omega)]
          obtain ⟨f1, -⟩ := hf c i0 (by omega)
          have f0 := hz c (by omega) (by omega)
          rw [show 51 + 72 * v + 1 + 3 + 5 * c = 51 + 72 * v + 1 + 1 + 2 + 5 * c by omega] at f1
          refine sp_accepts (g := fun _ => 0) (by omega) (by omega) (fun k a b => by omega) (fun _ => ?_) (fun z => absurd (Or.inl (by omega)) z)
          rw [if_neg (by decide)]
          exact hk _ ⟨by omega, by omega, fun j j0 j1 j2 => i2 j j0 (by omega) j2⟩ (by omega)
    · unfold wp_12_whyNot
      refine jL1_of (fun c => 0 ≤ c ∧ c ≤ w 0 ∧ ∀ j, 0 ≤ j → j < c → ρ j ≠ 0) (fun c => (w 0 - c).toNat) (fun K c hi hk => ?_) ⟨by omega, by omega, fun j _ _ => by omega⟩
      obtain ⟨i0, i1, i2⟩ := hi
      unfold wp_12_whyNot_2 wp_12_columns
      dsimp only
      rw [hC]
      by_cases a : w 0 ≤ c
      · rw [if_pos a, if_pos a]
        rcases hr with ⟨a0, a1, a2, a3⟩ | ⟨a0, a1⟩
        · exact absurd a2 (i2 r a0 (by omega))
        · rw [← a0]; exact y
      · rw [if_neg a]
        obtain ⟨g1, -, g3⟩ := hρ c i0 (by omega)
        refine g3 C' hC _ ?_
        by_cases d : ρ c = 0
        · rw [if_pos d, if_neg a]
          rw [jFst_uniq (Or.inl ⟨i0, by omega, d, fun j j0 j1 => i2 j j0 j1⟩) hr]
          exact y
        · rw [if_neg d]
          refine hk _ ⟨by omega, by omega, fun j j0 j1 => ?_⟩ (by omega)
          by_cases e : j = c
          · rw [e]; exact d
          · exact i2 j j0 (by omega)
  obtain ⟨r, hr⟩ := jFst_ex (fun c => ρ c = 0) (w 0) k2
  refine ⟨r, ?_, main r hr⟩
  rcases hr with ⟨a0, a1, -⟩ | ⟨a0, -⟩
  · exact Or.inr ⟨a0, a1⟩
  · exact Or.inl a0
theorem sp_fit {C : jC} {w : Int → Int} (h : rS 35 C w) {v s : Int} (v0 : 0 ≤ v) (v1 : v < 4) (s0 : 0 ≤ s) (s1 : s < 24) (hl : rLive C 35 s) :
    ∃ r, (r = 0 ∨ r = 1) ∧ jDet (wp_2_suits (51 + 72 * v + 1) 36 s C) r ∧ ∀ C' : jC, C' 346 = w → jDet (wp_12_isFit v (C 38 s) C') r := by
  obtain ⟨r, r0, r1, r2⟩ := sp_why h v0 v1 s0 s1 hl
  refine ⟨if r = -1 then 1 else 0, by split <;> simp, fun post y => ?_, fun C' hC post y => ?_⟩
  · unfold wp_2_suits
    refine r1 _ ?_
    by_cases e : r = -1
    · rw [if_pos e] at y ⊢; exact y
    · rw [if_neg e] at y ⊢; exact y
  · unfold wp_12_isFit
    refine r2 C' hC _ ?_
    by_cases e : r = -1
    · rw [if_pos e] at y ⊢; exact y
    · rw [if_neg e] at y ⊢; exact y

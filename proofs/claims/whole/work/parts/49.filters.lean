-- tests, filters
theorem jWord_rng {v : Int} (h : jWord v) : 19683 ≤ v ∧ v < 531441 := by
  obtain ⟨p, q, r, s, e, h1, h2, h3, h4, h5, h6, h7, h8, -, -⟩ := h
  omega
theorem jVal_rng {k v : Int} (h : jVal k v) : -1000000 ≤ v ∧ v < 531441 := by
  rcases h with h | ⟨-, h1, h2⟩ | ⟨-, h⟩
  · omega
  · omega
  · have := jWord_rng h; omega
theorem sp_isAs27 {f k v : Int} {C : jC} {post : Int → Prop} (k0 : 0 ≤ k) (k1 : k < 6) (h : post (if C (f + 1) k = 0 ∧ v = -1000000 then 1 else 0)) : wp_1_isAs_27 f k v C post := by
  unfold wp_1_isAs_27
  refine ⟨k0, k1, ?_⟩
  by_cases a : C (f + 1) k = 0
  · rw [if_pos a]
    by_cases b : v = -1000000
    · rw [if_pos ⟨a, b⟩] at h; rw [if_pos b]; exact h
    · rw [if_neg (fun z => b z.2)] at h; rw [if_neg b]; exact h
  · rw [if_neg (fun z => a z.1)] at h; rw [if_neg a]; exact h
theorem sp_isAsT75 {s t : Int} {C : jC} {post : Int → Prop} (t0 : 0 ≤ t) (t1 : t + 4 < 8954) (hs : s = 0 ∨ s = 1) (h : post (if C 346 t = 1 then 1 - s else s)) : wp_12_isAsTest_75 s t C post := by
  unfold wp_12_isAsTest_75
  rw [Int.add_zero]
  refine ⟨t0, by omega, ?_⟩
  by_cases a : C 346 t = 1
  · rw [if_pos a] at h ⊢
    rcases hs with rfl | rfl
    · rw [if_neg (by decide)]; exact h
    · rw [if_pos (by decide)]; exact h
  · rw [if_neg a] at h ⊢
    rcases hs with rfl | rfl
    · rw [if_pos (by decide)]; exact h
    · rw [if_neg (by decide)]; exact h
theorem sp_test {f k v t kind : Int} {C : jC} {w : Int → Int} (k0 : 0 ≤ k) (k1 : k < 6) (t0 : 0 ≤ t) (t1 : t + 4 < 8954) (h : rTest kind (C (f + 1) k) (C (f + 2) k) (C (f + 3) k) (C (f + 4) k) (w t) (w (t + 1)) (w (t + 2)) (w (t + 3)) (w (t + 4))) (hv : jVal kind v) :
    ∃ r, (r = 0 ∨ r = 1) ∧ jDet (wp_1_isAs f k v C) r ∧ ∀ C' : jC, C' 346 = w → jDet (wp_12_isAsTest v t C') (if w t = 1 then 1 - r else r) := by
  obtain ⟨-, -, -, hf, hc⟩ := h
  by_cases nv : v = -1000000 ∨ C (f + 1) k = 0
  · obtain ⟨r, hr⟩ : ∃ r : Int, r = (if C (f + 1) k = 0 ∧ v = -1000000 then 1 else 0) := ⟨_, rfl⟩
    refine ⟨r, by split at hr <;> simp [hr], fun post y => ?_, fun C' hC post y => ?_⟩
    · unfold wp_1_isAs
      rw [if_neg (by omega), if_pos k1]
      by_cases a : C (f + 1) k = 0
      · rw [if_pos a]; exact sp_isAs27 k0 k1 (hr ▸ y)
      · rw [if_neg a, if_pos (by omega)]; exact sp_isAs27 k0 k1 (hr ▸ y)
    · unfold wp_12_isAsTest
      refine ⟨by omega, by omega, ?_⟩
      rw [hC, ← hf]
      by_cases a : C (f + 1) k = 0
      · rw [if_pos a]
        by_cases b : v = -1000000
        · rw [if_pos b]; rw [if_pos ⟨a, b⟩] at hr; subst hr; exact sp_isAsT75 t0 t1 (by simp) (by rw [hC]; exact y)
        · rw [if_neg b]; rw [if_neg (fun z => b z.2)] at hr; subst hr; exact sp_isAsT75 t0 t1 (by simp) (by rw [hC]; exact y)
      · rw [if_neg (fun z => a z.1)] at hr
        subst hr
        have b : v = -1000000 := by omega
        rw [if_neg a]
        by_cases c : C (f + 1) k = 1
        · rw [if_pos c, if_pos b]; exact sp_isAsT75 t0 t1 (by simp) (by rw [hC]; exact y)
        · rw [if_neg c]
          unfold wp_12_isPattern
          rw [if_pos b]; exact sp_isAsT75 t0 t1 (by simp) (by rw [hC]; exact y)
  · have n1 : v ≠ -1000000 := fun z => nv (Or.inl z)
    have n2 : C (f + 1) k ≠ 0 := fun z => nv (Or.inr z)
    rcases hc with hc | ⟨hc, -, hl, hh, -⟩ | ⟨hc, hk, hp, hh, hs, -⟩
    · exact absurd hc n2
    · obtain ⟨r, hr⟩ : ∃ r : Int, r = (if w (t + 2) ≤ v ∧ v ≤ w (t + 3) then 1 else 0) := ⟨_, rfl⟩
      refine ⟨r, by split at hr <;> simp [hr], fun post y => ?_, fun C' hC post y => ?_⟩
      · unfold wp_1_isAs
        rw [if_neg (by omega), if_pos k1, if_neg n2, if_neg n1, if_pos hc, hl, hh]
        by_cases a : v < w (t + 2)
        · rw [if_pos a]; rw [if_neg (by omega)] at hr; subst hr; exact y
        · rw [if_neg a]
          by_cases b : w (t + 3) < v
          · rw [if_pos b]; rw [if_neg (by omega)] at hr; subst hr; exact y
          · rw [if_neg b]; rw [if_pos ⟨by omega, by omega⟩] at hr; subst hr; exact y
      · unfold wp_12_isAsTest
        refine ⟨by omega, by omega, ?_⟩
        rw [hC, ← hf, if_neg n2, if_pos hc, if_neg n1]
        refine ⟨by omega, by omega, by omega, by omega, ?_⟩
        rw [sp_in]
        by_cases a : w (t + 2) ≤ v ∧ v ≤ w (t + 3)
        · rw [if_pos a, if_neg (by decide)]; rw [if_pos a] at hr; subst hr; exact sp_isAsT75 t0 t1 (by simp) (by rw [hC]; exact y)
        · rw [if_neg a, if_pos rfl]; rw [if_neg a] at hr; subst hr; exact sp_isAsT75 t0 t1 (by simp) (by rw [hC]; exact y)
    · have hw : jWord v := by
        rcases hv with z | ⟨z, -⟩ | ⟨-, z⟩
        · exact absurd z n1
        · omega
        · exact z
      obtain ⟨r, r1, r2, r3⟩ := sp_isPattern t0 t1 hp hs hw
      refine ⟨r, r1, fun post y => ?_, fun C' hC post y => ?_⟩
      · unfold wp_1_isAs
        rw [if_neg (by omega), if_pos k1, if_neg n2, if_neg n1, if_neg (by omega)]
        rcases hs with z | z
        · rw [if_neg (by omega)]
          rw [z] at r2
          exact r2 C _ ⟨r1, y⟩
        · rw [if_pos (by omega)]
          rw [z] at r2
          exact r2 C _ ⟨r1, y⟩
      · unfold wp_12_isAsTest
        refine ⟨by omega, by omega, ?_⟩
        rw [hC, ← hf, if_neg n2, if_neg (by omega)]
        refine r3 C' hC _ (sp_isAsT75 t0 t1 r1 (by rw [hC]; exact y))
/-- a filter that lets a value through -/
def fOk (n : Int) (g : Int → Int) : Prop := n = 0 ∨ ∃ k, 0 ≤ k ∧ k < n ∧ g k = 1
theorem sp_accepts {f v : Int} {C : jC} {g : Int → Int} (h0 : 0 ≤ C f 0) (h6 : C f 0 ≤ 6) (hg : ∀ k, 0 ≤ k → k < C f 0 → 0 ≤ C (f + 4) k ∧ ∃ r, (r = 0 ∨ r = 1) ∧ jDet (wp_1_isAs f k v C) r ∧ g k = (if C (f + 4) k % 2 = 1 then 1 - r else r)) {post : Int → Prop} (y1 : fOk (C f 0) g → post 1) (y0 : ¬ fOk (C f 0) g → post 0) : wp_1_accepts f v C post := by
  unfold wp_1_accepts
  refine jL1_of (fun k => 0 ≤ k ∧ k ≤ C f 0 ∧ ∀ j, 0 ≤ j → j < k → g j ≠ 1) (fun k => (C f 0 - k).toNat) (fun K k hi hk => ?_) ⟨by omega, h0, fun j _ _ => by omega⟩
  obtain ⟨i0, i1, i2⟩ := hi
  unfold wp_1_accepts_2
  have nxt : g k ≠ 1 → k < C f 0 → K (k + 1) := fun z zz => hk _ ⟨by omega, by omega, fun j j0 j1 => by
    by_cases e : j = k
    · rw [e]; exact z
    · exact i2 j j0 (by omega)⟩ (by omega)
  by_cases a : C f 0 ≤ k
  · rw [if_pos a]
    by_cases b : C f 0 = 0
    · rw [if_pos b]; exact y1 (Or.inl b)
    · rw [if_neg b]
      refine y0 (fun z => ?_)
      rcases z with z | ⟨j, j0, j1, j2⟩
      · exact b z
      · exact i2 j j0 (by omega) j2
  · rw [if_neg a, if_neg (by omega)]
    refine ⟨i0, ?_⟩
    obtain ⟨t0, r, r1, r2, r3⟩ := hg k i0 (by omega)
    rw [tmod_nn t0]
    by_cases b : C (f + 4) k % 2 = 1
    · rw [if_pos b] at r3 ⊢
      refine r2 _ ?_
      by_cases c : r = 1
      · rw [if_pos c]; exact nxt (by omega) (by omega)
      · rw [if_neg c]; exact y1 (Or.inr ⟨k, i0, by omega, by omega⟩)
    · rw [if_neg b] at r3 ⊢
      refine r2 _ ?_
      by_cases c : r = 0
      · rw [if_pos c]; exact nxt (by omega) (by omega)
      · rw [if_neg c]; exact y1 (Or.inr ⟨k, i0, by omega, by omega⟩)
theorem r_find {a : Int} {C : jC} {w : Int → Int} (h : rS a C w) {s r : Int} (s0 : 0 ≤ s) (s1 : s < 24) (hl : rLive C a s) (hr : jFst (fun j => 0 ≤ C (a + 3) s ∧ w (9 + 11 * j) = C (a + 3) s) 24 r) : r = s := by
  obtain ⟨hW1, hW2, hW3⟩ := h.2.2.2.1
  obtain ⟨e1, e2, e3, -⟩ := hW1 s s0 s1 hl
  rcases hr with ⟨r0, r1, ⟨r2, r3⟩, r4⟩ | ⟨r0, r1⟩
  · by_cases hlr : rLive C a r
    · obtain ⟨g1, -⟩ := hW1 r r0 r1 hlr
      exact hW3 r s r0 r1 s0 s1 hlr hl (by omega)
    · have := hW2 r r0 r1 hlr
      omega
  · exact absurd ⟨e2, e1⟩ (r1 s s0 s1)
theorem sp_cellOf {C : jC} {w : Int → Int} {a : Int} (h : rS a C w) {s c : Int} (s0 : 0 ≤ s) (s1 : s < 24) (hl : rLive C a s) (c0 : 0 ≤ c) (c1 : c < 5) {C' : jC} (hC : C' 346 = w) : jDet (wp_12_cellOf (C (a + 3) s) c C') (w (9 + 11 * s + 1 + c)) := by
  intro post y
  unfold wp_12_cellOf
  refine sp_rowOf (fun r hr => ?_)
  rw [hC] at hr ⊢
  have e := r_find h s0 s1 hl hr
  subst e
  rw [if_neg (by omega)]
  exact ⟨by omega, by omega, y⟩
theorem sp_filterAt {v c : Int} {C : jC} {post : Int → Prop} (v0 : 0 ≤ v) (v1 : v < 4) (c0 : 0 ≤ c) (c1 : c < 5) : wp_12_filterAt v c C post = post (298 + 2114 * v + (30 + 31 * c)) := by
  unfold wp_12_filterAt
  rw [sp_viewAt v0 v1 (by omega) (by omega)]
  exact propext ⟨fun z => z.2, fun z => ⟨⟨by omega, by omega⟩, z⟩⟩
theorem sp_isAsFilter {v c key x : Int} {C : jC} {g : Int → Int} (v0 : 0 ≤ v) (v1 : v < 4) (c0 : 0 ≤ c) (c1 : c < 5) (hx : jDet (wp_12_cellOf key c C) x) (n0 : 0 ≤ C 346 (298 + 2114 * v + (30 + 31 * c))) (n6 : C 346 (298 + 2114 * v + (30 + 31 * c)) ≤ 6)
    (hg : ∀ k, 0 ≤ k → k < C 346 (298 + 2114 * v + (30 + 31 * c)) → (g k = 0 ∨ g k = 1) ∧ jDet (wp_12_isAsTest x (298 + 2114 * v + (30 + 31 * c) + 1 + 5 * k) C) (g k)) {post : Int → Prop} (y1 : fOk (C 346 (298 + 2114 * v + (30 + 31 * c))) g → post 1) (y0 : ¬ fOk (C 346 (298 + 2114 * v + (30 + 31 * c))) g → post 0) : wp_12_isAsFilter v key c C post := by
  unfold wp_12_isAsFilter
  rw [sp_filterAt v0 v1 c0 c1]
  refine ⟨by omega, by omega, ?_⟩
  have hT : ∀ k, 0 ≤ k → k < 6 → ∀ p : Int → Prop, wp_12_testAt v c k C p = p (298 + 2114 * v + (30 + 31 * c) + 1 + 5 * k) := by
    intro k k0 k1 p
    unfold wp_12_testAt
    rw [sp_filterAt v0 v1 c0 c1]
    exact propext ⟨fun z => z.2, fun z => ⟨⟨by omega, by omega⟩, z⟩⟩
  generalize hn : C 346 (298 + 2114 * v + (30 + 31 * c)) = n at n0 n6 hg y1 y0 ⊢
  by_cases b : n = 0
  · rw [if_pos b]
    refine ⟨1, ?_⟩
    show wp_12_isAsFilter_27 v key c n C post _ 1 0
    unfold wp_12_isAsFilter_27
    rw [if_pos (by omega)]
    exact ⟨Or.inr rfl, y1 (Or.inl b)⟩
  · rw [if_neg b]
    refine jL2_of (fun b k => 0 ≤ k ∧ k ≤ n ∧ (b = 0 ∨ b = 1) ∧ (b = 1 → fOk n g) ∧ (b = 0 → ∀ j, 0 ≤ j → j < k → g j ≠ 1)) (fun _ k => (n - k).toNat) (fun K b k hi hk => ?_) ⟨by omega, n0, Or.inl rfl, fun z => by omega, fun _ j _ _ => by omega⟩
    obtain ⟨i0, i1, i2, i3, i4⟩ := hi
    unfold wp_12_isAsFilter_27
    have fin : b = 1 ∨ n ≤ k → post b := by
      intro z
      rcases i2 with e | e
      · rw [e]
        refine y0 (fun q => ?_)
        rcases q with q | ⟨j, j0, j1, j2⟩
        · omega
        · exact i4 e j j0 (by omega) j2
      · rw [e]; exact y1 (i3 e)
    by_cases a : n ≤ k
    · rw [if_pos a]; exact ⟨i2, fin (Or.inr a)⟩
    · rw [if_neg a]
      by_cases e : b = 0
      · rw [if_pos e]
        refine hx _ ?_
        rw [hT k i0 (by omega)]
        obtain ⟨g1, g2⟩ := hg k i0 (by omega)
        refine g2 _ (hk _ _ ⟨by omega, by omega, g1, fun z => Or.inr ⟨k, i0, by omega, z⟩, fun z j j0 j1 => ?_⟩ (by omega))
        by_cases ej : j = k
        · rw [ej]; omega
        · exact i4 e j j0 (by omega)
      · rw [if_neg e]; exact ⟨i2, fin (Or.inl (by omega))⟩

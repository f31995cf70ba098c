-- changes one after the other
def jSeqW (v : Int) (s c x w : Int → Int) : Nat → Int → Int
  | 0 => w
  | n + 1 => jAlW v (s n) (c n) (x n) (jSeqW v s c x w n)
def jSeqD (v : Int) (s c x w d : Int → Int) : Nat → Int → Int
  | 0 => d
  | n + 1 => jAlD (s n) (c n) (x n) (jSeqW v s c x w n) (jSeqD v s c x w d n)
theorem jSeqW_s {v : Int} {s c x w : Int → Int} {k : Int} (h : 0 ≤ k) : jSeqW v s c x w (k + 1).toNat = jAlW v (s k) (c k) (x k) (jSeqW v s c x w k.toNat) := by
  rw [show (k + 1).toNat = k.toNat + 1 by omega]
  show jAlW v (s (k.toNat : Int)) (c (k.toNat : Int)) (x (k.toNat : Int)) _ = _
  rw [Int.toNat_of_nonneg h]
theorem jSeqD_s {v : Int} {s c x w d : Int → Int} {k : Int} (h : 0 ≤ k) : jSeqD v s c x w d (k + 1).toNat = jAlD (s k) (c k) (x k) (jSeqW v s c x w k.toNat) (jSeqD v s c x w d k.toNat) := by
  rw [show (k + 1).toNat = k.toNat + 1 by omega]
  show jAlD (s (k.toNat : Int)) (c (k.toNat : Int)) (x (k.toNat : Int)) _ _ = _
  rw [Int.toNat_of_nonneg h]
/-- what a run of m changes asks: rows that live, columns, values, and no cell twice -/
def jSeqOk (C : jC) (w s c x : Int → Int) (m : Int) : Prop :=
  m ≤ 60 ∧ (∀ k, 0 ≤ k → k < m → 0 ≤ s k ∧ s k < 24 ∧ rLive C 35 (s k) ∧ 0 ≤ c k ∧ c k < w 0 ∧ jVal (w (4 + c k)) (x k)) ∧ (∀ t k, 0 ≤ t → t < k → k < m → ¬ (s t = s k ∧ c t = c k))
theorem jSeqW_low {C : jC} {v : Int} {s c x w : Int → Int} {m : Int} (h5 : w 0 ≤ 5) (ok : jSeqOk C w s c x m) {j : Int} (h3 : j ≠ 3) (hj : j < 8754) (k : Nat) (hk : (k : Int) ≤ m) (hn : ∀ t, 0 ≤ t → t < (k : Int) → j ≠ 9 + 11 * s t + 6 + c t ∧ j ≠ 9 + 11 * s t + 1 + c t) : jSeqW v s c x w k j = w j := by
  induction k with
  | zero => rfl
  | succ k ih =>
    have hk' := hn k (by omega) (by omega)
    show jAlW v (s k) (c k) (x k) (jSeqW v s c x w k) j = w j
    rw [jAlW_lo h3 hj hk'.1 hk'.2]
    exact ih (by omega) (fun t a b => hn t a (by omega))
/-- the class behind k of the changes -/
def jSeqI (C : jC) (v : Int) (w d s c x : Int → Int) (k : Int) (E : jC) : Prop :=
  (∀ b, b ≠ 39 → b ≠ 40 → b ≠ 44 → b ≠ 45 → ¬ (46 ≤ b ∧ b ≤ 50) → E b = C b) ∧ rS 35 E (jSeqW v s c x w k.toNat) ∧ rDr E (jSeqW v s c x w k.toNat) (jSeqD v s c x w d k.toNat) ∧ jSeqD v s c x w d k.toNat 0 ≤ k ∧
  (∀ i, 0 ≤ i → i < jSeqD v s c x w d k.toNat 0 → ∃ t, 0 ≤ t ∧ t < k ∧ jSeqD v s c x w d k.toNat (1 + 4 * i) = C 38 (s t) ∧ jSeqD v s c x w d k.toNat (1 + 4 * i + 1) = c t)
theorem jSeq_live {C E : jC} {v : Int} {w d s c x : Int → Int} {k t : Int} (h : jSeqI C v w d s c x k E) (hl : rLive C 35 t) : rLive E 35 t := by
  obtain ⟨j, j0, j1, j2⟩ := hl
  exact ⟨j, j0, by rw [h.1 _ (by decide) (by decide) (by decide) (by decide) (by decide)]; exact j1, by rw [h.1 _ (by decide) (by decide) (by decide) (by decide) (by decide)]; exact j2⟩
theorem jSeq_cell {C : jC} {v : Int} {s c x w : Int → Int} {m k : Int} (h5 : w 0 ≤ 5) (ok : jSeqOk C w s c x m) (k0 : 0 ≤ k) (k1 : k < m) {t : Int} (t0 : 0 ≤ t) (t1 : t ≤ k) : jSeqW v s c x w t.toNat (9 + 11 * s k + 1 + c k) = w (9 + 11 * s k + 1 + c k) := by
  obtain ⟨m6, o1, o2⟩ := id ok
  obtain ⟨p1, p2, p3, p4, p5, -⟩ := o1 k k0 k1
  refine jSeqW_low h5 ok (by omega) (by omega) _ (by omega) (fun u a b => ?_)
  obtain ⟨q1, q2, q3, q4, q5, -⟩ := o1 u a (by omega)
  have := o2 u k a (by omega) k1
  omega
theorem sp_seqC {C E : jC} {v : Int} {w d s c x : Int → Int} {m k : Int} (h : rS 35 C w) (v0 : 0 ≤ v) (v1 : v < 4) (ok : jSeqOk C w s c x m) (k0 : 0 ≤ k) (k1 : k < m) (hI : jSeqI C v w d s c x k E) {post : jC → Prop} (y : ∀ E' : jC, jSeqI C v w d s c x (k + 1) E' → post E') : wp_8_changeCell 35 v (s k) (c k) (x k) E post := by
  obtain ⟨-, k2', k3, -⟩ := r_cols h
  obtain ⟨m6, o1, o2⟩ := id ok
  obtain ⟨p1, p2, p3, p4, p5, p6⟩ := o1 k k0 k1
  have lv := jSeq_live hI p3
  obtain ⟨i1, i2, i3, i4, i5⟩ := hI
  have e0 : jSeqW v s c x w k.toNat 0 = w 0 := jSeqW_low k3 ok (by decide) (by decide) _ (by omega) (fun t a b => by have := o1 t a (by omega); omega)
  have e4 : ∀ q, 0 ≤ q → q < 5 → jSeqW v s c x w k.toNat (4 + q) = w (4 + q) := fun q q0 q1 => jSeqW_low k3 ok (by omega) (by omega) _ (by omega) (fun t a b => by have := o1 t a (by omega); omega)
  have e38 : E 38 = C 38 := i1 38 (by decide) (by decide) (by decide) (by decide) (by decide)
  refine sp_change i2 i3 v0 v1 p1 p2 lv p4 (by rw [e0]; exact p5) (by rw [e4 _ p4 (by omega)]; exact p6) (fun hc => ⟨by omega, fun i a b z => ?_⟩) (fun E' f1 f2 f3 => ?_)
  · obtain ⟨t, t0, t1, t2, t3⟩ := i5 i a b
    rw [t2, t3, e38] at z
    obtain ⟨q1, q2, q3, -⟩ := o1 t t0 (by omega)
    exact o2 t k t0 t1 k1 ⟨r_key h q1 q2 q3 p1 p2 p3 z.1, z.2⟩
  · have sW := jSeqW_s (v := v) (s := s) (c := c) (x := x) (w := w) k0
    have sD := jSeqD_s (v := v) (s := s) (c := c) (x := x) (w := w) (d := d) k0
    refine y E' ⟨fun b b1 b2 b3 b4 b5 => by rw [f1 b b1 b2 b3 b4 b5, i1 b b1 b2 b3 b4 b5], by rw [sW]; exact f2, by rw [sW, sD]; exact f3, ?_, fun i a b => ?_⟩
    · rw [sD]
      have := (jAlD_0 (s := s k) (c := c k) (x := x k) (w := jSeqW v s c x w k.toNat) (d := jSeqD v s c x w d k.toNat)).2
      omega
    · rw [sD] at b ⊢
      have lk := (r_live i2 p1 p2 lv).1
      rw [e38] at lk
      generalize jSeqD v s c x w d k.toNat = dd at *
      generalize jSeqW v s c x w k.toNat = ww at *
      have d0 := i3.2.1
      unfold jAlD at b ⊢
      by_cases e : ww (9 + 11 * s k + 1 + c k) = x k
      · rw [if_pos e] at b ⊢
        obtain ⟨t, t0, t1, t2, t3⟩ := i5 i a b
        exact ⟨t, t0, by omega, t2, t3⟩
      · rw [if_neg e] at b ⊢
        have D0 : jDrD (ww (9 + 11 * s k)) (c k) (ww (9 + 11 * s k + 1 + c k)) (x k) dd 0 = dd 0 + 1 := by unfold jDrD; rw [if_pos rfl]
        rw [D0] at b
        unfold jDrD
        by_cases q : i = dd 0
        · refine ⟨k, k0, by omega, ?_, ?_⟩
          · rw [if_neg (by omega), if_pos (by omega)]; exact lk
          · rw [if_neg (by omega), if_neg (by omega), if_pos (by omega)]
        · obtain ⟨t, t0, t1, t2, t3⟩ := i5 i a (by omega)
          refine ⟨t, t0, by omega, ?_, ?_⟩
          · rw [if_neg (by omega), if_neg (by omega), if_neg (by omega), if_neg (by omega), if_neg (by omega)]; exact t2
          · rw [if_neg (by omega), if_neg (by omega), if_neg (by omega), if_neg (by omega), if_neg (by omega)]; exact t3
/-- the model behind k of the changes: its state -/
def jSeqM (v : Int) (w d s c x : Int → Int) (B : jC) (k : Int) : jC := jV (jV B 346 (jSeqW v s c x w k.toNat)) 352 (jSeqD v s c x w d k.toNat)
theorem sp_seqM {C E B : jC} {v : Int} {w d s c x : Int → Int} {m k : Int} (h : rS 35 C w) (ok : jSeqOk C w s c x m) (k0 : 0 ≤ k) (k1 : k < m) (hI : jSeqI C v w d s c x k E) {post : jC → Prop} (y : post (jSeqM v w d s c x B (k + 1))) : wp_12_alters v (C 38 (s k)) (c k) (x k) (jSeqM v w d s c x B k) post := by
  obtain ⟨-, k2', k3, -⟩ := r_cols h
  obtain ⟨m6, o1, o2⟩ := id ok
  obtain ⟨p1, p2, p3, p4, p5, p6⟩ := o1 k k0 k1
  have lv := jSeq_live hI p3
  obtain ⟨i1, i2, i3, i4, i5⟩ := hI
  have e38 : E 38 = C 38 := i1 38 (by decide) (by decide) (by decide) (by decide) (by decide)
  have w0 : jSeqM v w d s c x B k 346 = jSeqW v s c x w k.toNat := by unfold jSeqM; rw [jV_ne (by decide), jV_eq]
  have d0 : jSeqM v w d s c x B k 352 = jSeqD v s c x w d k.toNat := by unfold jSeqM; rw [jV_eq]
  have z := sp_alters (v := v) (c := c k) (x := x k) i2 p1 p2 lv p4 (show c k < 5 by omega) w0 (fun _ => by rw [d0]; exact ⟨i3.2.1, by omega⟩) (post := post)
  rw [e38] at z
  refine z ?_
  rw [d0, ← jSeqW_s k0, ← jSeqD_s k0]
  have e : jV (jV (jSeqM v w d s c x B k) 346 (jSeqW v s c x w (k + 1).toNat)) 352 (jSeqD v s c x w d (k + 1).toNat) = jSeqM v w d s c x B (k + 1) := by
    unfold jSeqM
    funext b
    by_cases b1 : b = 352
    · subst b1; rw [jV_eq, jV_eq]
    · rw [jV_ne b1, jV_ne b1]
      by_cases b2 : b = 346
      · subst b2; rw [jV_eq, jV_eq]
      · rw [jV_ne b2, jV_ne b2, jV_ne b1, jV_ne b2]
  rw [e]; exact y
theorem jSeq_0 {C : jC} {w s c x d : Int → Int} (h : rS 35 C w) {v : Int} : jSeqI C v w (jSet d 0 0) s c x 0 (jU C 46 0 0) := by
  refine ⟨fun b _ _ _ _ b5 => jU_ne (by omega), rS_46 h (fun b hb => jU_ne hb), rDr_0, ?_, fun i a b => ?_⟩
  · show jSet d 0 0 0 ≤ 0
    rw [jSet_eq]; omega
  · have b : i < jSet d 0 0 0 := b
    rw [jSet_eq] at b
    omega
theorem jSeqM_0 {C B : jC} {v : Int} {w s c x d : Int → Int} (h1 : B 346 = w) (h2 : B 352 = d) : jU B 352 0 0 = jSeqM v w (jSet d 0 0) s c x B 0 := by
  unfold jSeqM
  show jU B 352 0 0 = jV (jV B 346 w) 352 (jSet d 0 0)
  rw [← h1, jV_id, ← h2]
  rfl
/-- the end of an edit of m changes -/
theorem ed_seq {C : jC} {K : Int} (h : rAll C K) {v m : Int} (v0 : 0 ≤ v) (v1 : v < 4) {s c x d : Int → Int} (m0 : 0 ≤ m) (ok : jSeqOk C (C 346) s c x m) {E : jC} (hI : jSeqI C v (C 346) d s c x m E) {post : Int → jC → Prop}
    (hp : ∀ (r : Int) (C3 : jC), (∀ b, ¬ (36 ≤ b ∧ b < 339) → C3 b = C b) → (∀ q : Int → jC → Prop, (∀ D : jC, D 345 0 = 0 → rAll D K → q r D) → wp_12_isEdit v (jSeqM v (C 346) d s c x (jU C3 345 0 0) m) q) → post r C3) : wp_8_finishEdit 35 v E post := by
  obtain ⟨-, k2', k3, -⟩ := r_cols (r_now h)
  obtain ⟨m6, o1, o2⟩ := id ok
  obtain ⟨i1, i2, i3, i4, i5⟩ := hI
  refine ed_fin (C := C) h v0 v1 (fun b hb => i1 b (by omega) (by omega) (by omega) (by omega) (by omega)) i2 i3 (by omega) ?_ (fun r C3 c3 _ hm => hp r C3 c3 hm)
  rw [jSeqW_low k3 ok (by decide) (by decide) _ (by omega) (fun t a b => by have := o1 t a (by omega); omega)]
  exact h.2.2.2.2.2.2.1

-- for view: what fits does not hang on how the model keeps a lens
theorem fits_other {C : jC} {w w' : Int → Int} (h : rS 35 C w) (h' : rS 35 C w') {v : Int} (v0 : 0 ≤ v) (v1 : v < 4) {ft : Int → Int} {n : Int} (hn : n ≤ w 273) (hf : jFits C w v ft n) : jFits C w' v ft n := by
  intro i i0 i1
  obtain ⟨s0, s1, sl⟩ := r_olive h i0 (show i < w 273 by omega)
  obtain ⟨r, -, c1, m1⟩ := sp_why h v0 v1 s0 s1 sl
  obtain ⟨r', -, c2, m2⟩ := sp_why h' v0 v1 s0 s1 sl
  obtain ⟨x, x1, x2⟩ := cj_2_firstUnlike (c1 (fun x => x = r) rfl) (c2 (fun x => x = r') rfl)
  have er : r' = r := by omega
  subst er
  obtain ⟨f1, f2⟩ := hf i i0 i1
  have det : ∀ (W : Int → Int) (C' : jC), C' 346 = W → jDet (wp_12_whyNot v (C 38 (C 42 i)) C') r' → jDet (wp_12_isFit v (C 38 (C 42 i)) C') (if r' = -1 then 1 else 0) := by
    intro W C' hC d post z
    unfold wp_12_isFit
    refine d _ ?_
    by_cases e : r' = -1
    · rw [if_pos e] at z ⊢; exact z
    · rw [if_neg e] at z ⊢; exact z
  have D := det w (fun b => if b = 346 then w else fun _ => 0) rfl (m1 _ rfl)
  obtain ⟨y, y1, y2⟩ := cj_12_isFit (D (fun x => x = if r' = -1 then 1 else 0) rfl) (f2 (fun b => if b = 346 then w else fun _ => 0) rfl (fun x => x = ft i) rfl)
  refine ⟨f1, fun C' hC => ?_⟩
  rw [← y2, y1]
  exact det w' C' hC (m2 C' hC)
theorem sp_lcopyF {C : jC} {q p : Int} (hd : q + 29 ≤ p ∨ p + 29 ≤ q) {post : jC → Prop} (y : ∀ D : jC, (∀ x, ¬ (q + 1 ≤ x ∧ x < q + 29) → D x = C x) → (∀ w b, rLens C w (p + 1) b → rLens D w (q + 1) b) → post D) : wp_2_copyFrom (q + 1) (p + 1) C post := by
  unfold wp_2_copyFrom
  refine jL2_of (fun k D => 0 ≤ k ∧ k ≤ 5 ∧ (∀ x, ¬ (q + 4 ≤ x ∧ x < q + 4 + 5 * k) → D x = C x) ∧ ∀ c, 0 ≤ c → c < k → D (q + 1 + 3 + 5 * c) 0 = C (p + 1 + 3 + 5 * c) 0 ∧ ∀ u, 1 ≤ u → u ≤ 4 → ∀ i, 0 ≤ i → i < 6 → D (q + 1 + 3 + 5 * c + u) i = C (p + 1 + 3 + 5 * c + u) i) (fun k _ => (5 - k).toNat) (fun K k D hi hk => ?_) ⟨by omega, by omega, fun _ _ => rfl, fun c a b => by omega⟩
  obtain ⟨i0, i1, d1, d2⟩ := hi
  unfold wp_2_copyFrom_2
  by_cases a : 5 ≤ k
  · rw [if_pos a]
    have ek : k = 5 := by omega
    subst ek
    generalize hX : jCpy D (p + 1 + 2) 0 (q + 1 + 2) 0 3 = X
    have x1 : ∀ x, x ≠ q + 1 + 2 → X x = D x := fun x hx => by rw [← hX, jCpy_ne hx]
    have x2 : ∀ i, 0 ≤ i → i < 3 → X (q + 1 + 2) i = D (p + 1 + 2) i := fun i i0 i1 => by rw [← hX, jCpy_f i0 i1]
    have e1 : X (p + 1) = C (p + 1) := by rw [x1 _ (by omega), d1 _ (by omega)]
    have e2 : ∀ z, jU X (q + 1) 2 z (p + 1) = C (p + 1) := fun z => by rw [jU_ne (by omega), e1]
    rw [e2, e1]
    generalize hY : jU (jU X (q + 1) 2 (C (p + 1) 2)) (q + 1) 3 (C (p + 1) 3) = Y
    have y1 : ∀ x, x ≠ q + 1 → x ≠ q + 1 + 2 → Y x = D x := fun x h1 h2 => by rw [← hY, jU_ne h1, jU_ne h1, x1 x h2]
    refine y Y (fun x hx => by rw [y1 x (by omega) (by omega), d1 x (by omega)]) (fun w b hl => ?_)
    obtain ⟨a1, a2, a3, a4, a5, a6, a7, a8, a9⟩ := hl
    unfold rLens
    have q2 : Y (q + 1) 2 = C (p + 1) 2 := by rw [← hY, jU_at, if_pos rfl, if_neg (by decide), jU_at, if_pos rfl, if_pos rfl]
    have q3 : Y (q + 1) 3 = C (p + 1) 3 := by rw [← hY, jU_at, if_pos rfl, if_pos rfl]
    rw [q2, q3]
    refine ⟨a1, a2, a3, fun j j0 j1 => ?_, a5, a6, a7, fun c c0 c1 => ?_, a9⟩
    · have : Y (q + 1 + 2) j = C (p + 1 + 2) j := by rw [← hY, jU_ne (by omega), jU_ne (by omega), x2 j j0 (by omega), d1 _ (by omega)]
      rw [this]; exact a4 j j0 j1
    · obtain ⟨t1, t2⟩ := d2 c c0 c1
      obtain ⟨g1, g2, g3, g4⟩ := a8 c c0 (by omega)
      unfold rFil
      rw [y1 _ (by omega) (by omega), y1 (q + 1 + 3 + 5 * c + 1) (by omega) (by omega), y1 (q + 1 + 3 + 5 * c + 2) (by omega) (by omega), y1 (q + 1 + 3 + 5 * c + 3) (by omega) (by omega), y1 (q + 1 + 3 + 5 * c + 4) (by omega) (by omega), t1]
      refine ⟨g1, g2, g3, fun j j0 j1 => ?_⟩
      rw [t2 1 (by omega) (by omega) j j0 (by omega), t2 2 (by omega) (by omega) j j0 (by omega), t2 3 (by omega) (by omega) j j0 (by omega), t2 4 (by omega) (by omega) j j0 (by omega)]
      exact g4 j j0 j1
  · rw [if_neg a]
    refine ⟨i0, ?_⟩
    rw [show q + 1 + 1 + 2 + 5 * k = q + 1 + 3 + 5 * k by omega, show p + 1 + 1 + 2 + 5 * k = p + 1 + 3 + 5 * k by omega]
    refine sp_fcopy (by omega) (fun E f1 f2 f3 => ?_)
    refine hk _ _ ⟨by omega, by omega, fun x hx => by rw [f1 x (by omega), d1 x (by omega)], fun c c0 c1 => ?_⟩ (by omega)
    by_cases e : c = k
    · subst e
      refine ⟨by rw [f2, d1 _ (by omega)], fun u u0 u1 i i0 i1 => ?_⟩
      rw [f3 u u0 u1 i i0 i1, d1 _ (by omega)]
    · obtain ⟨t1, t2⟩ := d2 c c0 (by omega)
      refine ⟨by rw [f1 _ (by omega), t1], fun u u0 u1 i i0 i1 => ?_⟩
      rw [f1 _ (by omega), t2 u u0 u1 i i0 i1]
theorem sp_forget7 {C : jC} {post : jC → Prop} (y : ∀ D : jC, jXt C D → D 1 = C 1 → D 3 = C 3 → D 4 = C 4 → D 7 2 = 0 → D 7 3 = 0 → (∀ c, 0 ≤ c → c < 5 → D (10 + 5 * c) 0 = 0) → post D) : wp_2_forget 7 C post := by
  unfold wp_2_forget
  refine jL2_of (fun k D => 0 ≤ k ∧ k ≤ 5 ∧ (∀ b, ¬ (10 ≤ b ∧ b < 35) → D b = C b) ∧ ∀ c, 0 ≤ c → c < k → D (10 + 5 * c) 0 = 0) (fun k _ => (5 - k).toNat) (fun K k D hi hk => ?_) ⟨by omega, by omega, fun _ _ => rfl, fun c a b => by omega⟩
  obtain ⟨i0, i1, d1, d2⟩ := hi
  unfold wp_2_forget_2
  by_cases a : 5 ≤ k
  · rw [if_pos a]
    have e : ∀ b, b ≠ 7 → jU (jU D 7 2 0) 7 3 0 b = D b := fun b hb => by rw [jU_ne hb, jU_ne hb]
    refine y _ ⟨fun b hb => by rw [e b (by omega), d1 b (by omega)], by rw [e 1 (by decide), d1 1 (by omega)], by rw [e 1 (by decide), d1 1 (by omega)], by rw [e 2 (by decide), d1 2 (by omega)], by rw [e 1 (by decide), d1 1 (by omega)]⟩ (by rw [e 1 (by decide), d1 1 (by omega)]) (by rw [e 3 (by decide), d1 3 (by omega)]) (by rw [e 4 (by decide), d1 4 (by omega)]) ?_ ?_ (fun c c0 c1 => ?_)
    · rw [jU_at, if_pos rfl, if_neg (by decide), jU_at, if_pos rfl, if_pos rfl]
    · rw [jU_at, if_pos rfl, if_pos rfl]
    · rw [e _ (by omega)]; exact d2 c c0 (by omega)
  · rw [if_neg a]
    refine ⟨i0, hk _ _ ⟨by omega, by omega, fun b hb => by rw [jU_ne (by omega), d1 b hb], fun c c0 c1 => ?_⟩ (by omega)⟩
    by_cases e : c = k
    · subst e
      rw [jU_at, if_pos (by omega), if_pos rfl]
    · rw [jU_ne (by omega)]; exact d2 c c0 (by omega)
/-- a view's lens wiped out -/
def jZW (w : Int → Int) (v : Int) : Int → Int := fun j => if 298 + 2114 * v + 25 ≤ j ∧ j < 298 + 2114 * v + 185 then 0 else w j
theorem sp_mWipe {D : jC} {v : Int} (v0 : 0 ≤ v) (v1 : v < 4) {post : Int → jC → Prop} (y : ∀ D', jGoW D D' → D' 345 = D 345 → D' 346 = jZW (D 346) v → wp_12_blanks D' (fun C3 => (if (C3 345 7) = (C3 345 8) then (post 1 C3) else (jL1 (wp_12_readView_44 v post) C3)))) : wp_12_readView v D post := by
  unfold wp_12_readView
  refine jL2_of (fun k E => 25 ≤ k ∧ k ≤ 185 ∧ (∀ b, b ≠ 346 → E b = D b) ∧ ∀ j, E 346 j = if 298 + 2114 * v + 25 ≤ j ∧ j < 298 + 2114 * v + k then 0 else D 346 j) (fun k _ => (185 - k).toNat) (fun K k E hi hk => ?_) ⟨by omega, by omega, fun _ _ => rfl, fun j => by rw [if_neg (by omega)]⟩
  obtain ⟨i0, i1, d1, d2⟩ := hi
  unfold wp_12_readView_3
  by_cases a : 185 ≤ k
  · rw [if_pos a]
    have ek : k = 185 := by omega
    subst ek
    exact y E ⟨fun b _ h2 => d1 b h2, fun j _ _ _ => by rw [d1 345 (by decide)]⟩ (d1 345 (by decide)) (funext d2)
  · rw [if_neg a, sp_viewAt v0 v1 (by omega) (by omega)]
    refine ⟨by omega, by omega, hk _ _ ⟨by omega, by omega, fun b hb => by rw [jU_ne hb, d1 b hb], fun j => ?_⟩ (by omega)⟩
    rw [jU_at, if_pos rfl, d2 j]
    by_cases e : j = 298 + 2114 * v + k
    · rw [if_pos e, if_pos (by omega)]
    · rw [if_neg e]
      by_cases e2 : 298 + 2114 * v + 25 ≤ j ∧ j < 298 + 2114 * v + k
      · rw [if_pos e2, if_pos (by omega)]
      · rw [if_neg e2, if_neg (by omega)]

-- the text of a sheet, read by the class
def jXt (C C' : jC) : Prop := (∀ b, ¬ (1 ≤ b ∧ b < 35) → C' b = C b) ∧ C' 1 1 = C 1 1 ∧ C' 1 2 = C 1 2 ∧ C' 2 = C 2 ∧ C' 1 4 = C 1 4
def jXf (C C' : jC) (x : Int) : Prop := (∀ b, ¬ (1 ≤ b ∧ b < 35) → C' b = C b) ∧ C' 1 1 = C 1 1 ∧ C' 1 4 = x
theorem jXt_r (C : jC) : jXt C C := ⟨fun _ _ => rfl, rfl, rfl, rfl, rfl⟩
theorem jXt_t {A B C : jC} (h : jXt A B) (h' : jXt B C) : jXt A C := ⟨fun b hb => by rw [h'.1 b hb, h.1 b hb], by rw [h'.2.1, h.2.1], by rw [h'.2.2.1, h.2.2.1], by rw [h'.2.2.2.1, h.2.2.2.1], by rw [h'.2.2.2.2, h.2.2.2.2]⟩
theorem jXt_go {C C' : jC} (h : jGo C C') : jXt C C' := ⟨fun b hb => h.1 b (by omega), h.2 1 (by decide) (by decide) (by decide), h.2 2 (by decide) (by decide) (by decide), h.1 2 (by decide), h.2 4 (by decide) (by decide) (by decide)⟩
theorem jXt_u (C : jC) {a : Int} (k v : Int) (h1 : 3 ≤ a) (h2 : a < 35) : jXt C (jU C a k v) := ⟨fun b hb => jU_ne (by omega), by rw [jU_ne (by omega)], by rw [jU_ne (by omega)], jU_ne (by omega), by rw [jU_ne (by omega)]⟩
theorem jXf_bad {A B C : jC} {x : Int} (h : jXt A B) (h' : jBad B C x) : jXf A C x := ⟨fun b hb => by rw [h'.1 b (by omega), h.1 b hb], by rw [h'.2.1, h.2.1], h'.2.2.2⟩
theorem jXf_tx {A B C : jC} {x : Int} (h : jXt A B) (h' : jXf B C x) : jXf A C x := ⟨fun b hb => by rw [h'.1 b hb, h.1 b hb], by rw [h'.2.1, h.2.1], h'.2.2⟩
theorem jCL_tx {T : Int → Int} {m p x : Int} {C C' : jC} (h : jCL T m p C) (g : jXt C C') (hx : C' 1 3 = x) (x0 : 0 ≤ x) (x1 : x ≤ m) : jCL T m x C' := by
  obtain ⟨a1, a2, a3, a4, a5, a6⟩ := h
  exact ⟨by rw [g.2.2.1]; exact a1, hx, x0, x1, a5, fun i i0 i1 => by rw [g.2.2.2.1]; exact a6 i i0 i1⟩
/-- what each cell of the text is: read or not, up to where, its value -/
def jCellF (T : Int → Int) (m : Int) (cr cx cy : Int → Int → Int) : Prop := ∀ kind p, 0 ≤ p → p ≤ m → (kind = 0 ∨ kind = 1) →
    (cr kind p = 0 ∨ cr kind p = 1) ∧ (cr kind p = 1 → p ≤ cx kind p ∧ cx kind p ≤ m ∧ jVal kind (cy kind p)) ∧
    (∀ (C : jC) (post : Int → jC → Prop), jCL T m p C → (cr kind p = 1 → ∀ C', jGo C C' → jCL T m (cx kind p) C' → C' 1 5 = cy kind p → post 1 C') → (cr kind p = 0 → ∀ C', jBad C C' (cx kind p) → post 0 C') → wp_5_takeCell kind C post) ∧
    (∀ (D : jC) (col : Int) (post : Int → jC → Prop), jML T m p D → 0 ≤ col → col < 5 → D 346 (4 + col) = kind → (cr kind p = 1 → ∀ D', jGoM D D' → jML T m (cx kind p) D' → D' 345 10 = cy kind p → post 1 D') → (cr kind p = 0 → ∀ D', jGoM D D' → D' 345 9 = cx kind p → post 0 D') → wp_12_aValue col D post)
theorem sp_cellF (T : Int → Int) {m : Int} (m4 : m ≤ 400) : ∃ cr cx cy, jCellF T m cr cx cy := by
  have H : ∀ kind p, ∃ q : Int × Int × Int, 0 ≤ p → p ≤ m → (kind = 0 ∨ kind = 1) → (q.1 = 0 ∨ q.1 = 1) ∧ (q.1 = 1 → p ≤ q.2.1 ∧ q.2.1 ≤ m ∧ jVal kind q.2.2) ∧
      (∀ (C : jC) (post : Int → jC → Prop), jCL T m p C → (q.1 = 1 → ∀ C', jGo C C' → jCL T m q.2.1 C' → C' 1 5 = q.2.2 → post 1 C') → (q.1 = 0 → ∀ C', jBad C C' q.2.1 → post 0 C') → wp_5_takeCell kind C post) ∧
      (∀ (D : jC) (col : Int) (post : Int → jC → Prop), jML T m p D → 0 ≤ col → col < 5 → D 346 (4 + col) = kind → (q.1 = 1 → ∀ D', jGoM D D' → jML T m q.2.1 D' → D' 345 10 = q.2.2 → post 1 D') → (q.1 = 0 → ∀ D', jGoM D D' → D' 345 9 = q.2.1 → post 0 D') → wp_12_aValue col D post) := by
    intro kind p
    by_cases c : 0 ≤ p ∧ p ≤ m ∧ (kind = 0 ∨ kind = 1)
    · obtain ⟨r, x, y, h⟩ := sp_cell (T := T) c.1 c.2.1 m4 c.2.2
      exact ⟨(r, x, y), fun _ _ _ => h⟩
    · exact ⟨(0, 0, 0), fun a b d => absurd ⟨a, b, d⟩ c⟩
  obtain ⟨f, hf⟩ := Classical.skolem.mp (fun kind => Classical.skolem.mp (H kind))
  exact ⟨fun k p => (f k p).1, fun k p => (f k p).2.1, fun k p => (f k p).2.2, fun k p p0 p1 hk => hf k p p0 p1 hk⟩
/-- where cell c of a row begins -/
def jQ (cx : Int → Int → Int) (κ : Int → Int) (p : Int) : Nat → Int
  | 0 => p
  | c + 1 => cx (κ c) (jQ cx κ p c)
theorem jQ_s {cx : Int → Int → Int} {κ : Int → Int} {p c : Int} (h : 0 ≤ c) : jQ cx κ p (c + 1).toNat = cx (κ c) (jQ cx κ p c.toNat) := by
  rw [show (c + 1).toNat = c.toNat + 1 by omega]
  show cx (κ (c.toNat : Int)) _ = _
  rw [Int.toNat_of_nonneg h]
theorem jQ_b {T : Int → Int} {m p : Int} {cr cx cy : Int → Int → Int} (F : jCellF T m cr cx cy) {κ : Int → Int} (p0 : 0 ≤ p) (p1 : p ≤ m) (k : Nat) (hκ : ∀ c, 0 ≤ c → c < (k : Int) → κ c = 0 ∨ κ c = 1) (ok : ∀ c, 0 ≤ c → c < (k : Int) → cr (κ c) (jQ cx κ p c.toNat) = 1) : p ≤ jQ cx κ p k ∧ jQ cx κ p k ≤ m := by
  induction k with
  | zero => exact ⟨Int.le_refl _, p1⟩
  | succ k ih =>
    have i := ih (fun c a b => hκ c a (by omega)) (fun c a b => ok c a (by omega))
    have o := ok k (by omega) (by omega)
    rw [show ((k : Int)).toNat = k by omega] at o
    have f := (F (κ k) (jQ cx κ p k) (by omega) i.2 (hκ k (by omega) (by omega))).2.1 o
    exact ⟨by show p ≤ cx (κ k) (jQ cx κ p k); omega, f.2.1⟩
theorem sp_cRow {T : Int → Int} {m p : Int} {cr cx cy : Int → Int → Int} (F : jCellF T m cr cx cy) {C : jC} (h : jCL T m p C) {n r : Int} (hn : C 3 0 = n) (n1 : 1 ≤ n) (n5 : n ≤ 5) (hr : C 3 2 = r) (r0 : 0 ≤ r) (r1 : r < 14) (hκ : ∀ c, 0 ≤ c → c < n → C 4 c = 0 ∨ C 4 c = 1) {post : Int → jC → Prop}
    (y1 : (∀ c, 0 ≤ c → c < n → cr (C 4 c) (jQ cx (C 4) p c.toNat) = 1) → ∀ C', jXt C C' → jCL T m (jQ cx (C 4) p n.toNat) C' → C' 3 0 = n → C' 4 = C 4 → C' 3 2 = r + 1 → C' 5 r = n → (∀ j, j ≠ r → C' 5 j = C 5 j) → (∀ c, 0 ≤ c → c < n → C' 6 (r * 5 + c) = cy (C 4 c) (jQ cx (C 4) p c.toNat)) → (∀ j, j < r * 5 → C' 6 j = C 6 j) → post 1 C')
    (y0 : ∀ c, 0 ≤ c → c < n → (∀ i, 0 ≤ i → i < c → cr (C 4 i) (jQ cx (C 4) p i.toNat) = 1) → cr (C 4 c) (jQ cx (C 4) p c.toNat) = 0 → ∀ C', jXf C C' (cx (C 4 c) (jQ cx (C 4) p c.toNat)) → post 0 C') : wp_9_readCells C post := by
  obtain ⟨a1, a2, a3, a4, a5, a6⟩ := id h
  unfold wp_9_readCells wp_9_beginRow
  rw [hr, if_neg (by omega)]
  refine ⟨r0, ?_⟩
  refine jL2_of (fun k E => 0 ≤ k ∧ k ≤ n ∧ (∀ c, 0 ≤ c → c < k → cr (C 4 c) (jQ cx (C 4) p c.toNat) = 1) ∧ jXt C E ∧ jCL T m (jQ cx (C 4) p k.toNat) E ∧ E 3 = C 3 ∧ E 4 = C 4 ∧ E 5 r = k ∧ (∀ j, j ≠ r → E 5 j = C 5 j) ∧ (∀ c, 0 ≤ c → c < k → E 6 (r * 5 + c) = cy (C 4 c) (jQ cx (C 4) p c.toNat)) ∧ (∀ j, j < r * 5 → E 6 j = C 6 j)) (fun k _ => (n - k).toNat) (fun K k E hi hk => ?_) ⟨by omega, by omega, fun c a b => by omega, jXt_u C _ _ (by decide) (by decide), jCL_tx h (jXt_u C _ _ (by decide) (by decide)) (by rw [jU_ne (by decide)]; exact a2) a3 a4, jU_ne (by decide), jU_ne (by decide), by rw [jU_at, if_pos rfl, if_pos rfl], fun j hj => by rw [jU_at, if_pos rfl, if_neg hj], fun c a b => by omega, fun j hj => by rw [jU_ne (by decide)]⟩
  obtain ⟨i0, i1, i2, i3, i4, i5, i6, i7, i8, i9, i10⟩ := hi
  unfold wp_9_readCells_6
  rw [i5, hn, hr]
  by_cases a : n ≤ k
  · rw [if_pos a]
    have ek : k = n := by omega
    subst ek
    have g := jXt_u E (a := 3) 2 (r + 1) (by decide) (by decide)
    refine ⟨⟨by omega, by omega⟩, y1 i2 _ (jXt_t i3 g) (jCL_tx i4 g (by rw [jU_ne (by decide)]; exact i4.2.1) i4.2.2.1 i4.2.2.2.1) ?_ (by rw [jU_ne (by decide)]; exact i6) (by rw [jU_at, if_pos rfl, if_pos rfl]) (by rw [jU_ne (by decide)]; exact i7) (fun j hj => by rw [jU_ne (by decide)]; exact i8 j hj) (fun c a b => by rw [jU_ne (by decide)]; exact i9 c a b) (fun j hj => by rw [jU_ne (by decide)]; exact i10 j hj)⟩
    rw [jU_at, if_pos rfl, if_neg (by decide), i5]; exact hn
  · rw [if_neg a]
    unfold wp_9_kindAsked
    rw [i5, hn, i6, if_neg (by omega), if_neg (by omega), if_neg (by omega)]
    have kk := hκ k i0 (by omega)
    obtain ⟨f1, f2, f3, -⟩ := F (C 4 k) (jQ cx (C 4) p k.toNat) i4.2.2.1 i4.2.2.2.1 kk
    refine f3 E _ i4 (fun o C' g1 g2 g3 => ?_) (fun o C' g1 => ?_)
    · rw [if_neg (by decide), g3]
      have e3 : C' 3 = C 3 := by rw [g1.1 3 (by decide)]; exact i5
      have e5 : C' 5 = E 5 := g1.1 5 (by decide)
      have e6 : C' 6 = E 6 := g1.1 6 (by decide)
      unfold wp_9_takeValue
      have q3 : ∀ x, jU C' 6 (r * 5 + k) x 3 2 = r := fun x => by rw [jU_ne (by decide), e3]; exact hr
      have q5 : ∀ x, jU C' 6 (r * 5 + k) x 5 r = k := fun x => by rw [jU_ne (by decide), e5]; exact i7
      rw [e3, hr, if_neg (by omega)]
      have e5r : C' 5 r = k := by rw [e5]; exact i7
      rw [e5r, if_neg (by omega), q3, q5]
      refine ⟨r0, by omega, r0, by omega, ⟨by omega, by omega⟩, ?_⟩
      have gT : jXt E (jU (jU C' 6 (r * 5 + k) (cy (C 4 k) (jQ cx (C 4) p k.toNat))) 5 r (k + 1)) := jXt_t (jXt_go g1) (jXt_t (jXt_u _ _ _ (by decide) (by decide)) (jXt_u _ _ _ (by decide) (by decide)))
      refine hk _ _ ⟨by omega, by omega, fun c a b => ?_, jXt_t i3 gT, ?_, by rw [jU_ne (by decide), jU_ne (by decide)]; exact e3, by rw [jU_ne (by decide), jU_ne (by decide), g1.1 4 (by decide)]; exact i6, by rw [jU_at, if_pos rfl, if_pos rfl], fun j hj => by rw [jU_at, if_pos rfl, if_neg hj, jU_ne (by decide), e5]; exact i8 j hj, fun c a b => ?_, fun j hj => ?_⟩ (by omega)
      · by_cases e : c = k
        · rw [e]; exact o
        · exact i2 c a (by omega)
      · have := f2 o
        have := i4.2.2.1
        rw [jQ_s i0]
        exact jCL_tx i4 gT (by rw [jU_ne (by decide), jU_ne (by decide)]; exact g2.2.1) (by omega) (by omega)
      · rw [jU_ne (by decide), jU_at, if_pos rfl]
        by_cases e : c = k
        · rw [if_pos (by omega), e]
        · rw [if_neg (by omega), e6]; exact i9 c a (by omega)
      · rw [jU_ne (by decide), jU_at, if_pos rfl, if_neg (by omega), e6]; exact i10 j hj
    · rw [if_pos rfl]
      exact y0 k i0 (by omega) i2 o C' (jXf_bad i3 g1)
/-- a kind of column stands at g j, and the next comes at g (j + 1) -/
def jKd (T : Int → Int) (m : Int) (g κ : Int → Int) (j : Int) : Prop :=
  (jWq T m (jBl T m (g j)) 2 ∧ κ j = 0 ∧ g (j + 1) = jBl T m (g j) + 6) ∨ (¬ jWq T m (jBl T m (g j)) 2 ∧ jWq T m (jBl T m (g j)) 3 ∧ κ j = 1 ∧ g (j + 1) = jBl T m (g j) + 4)
def jNoK (T : Int → Int) (m x : Int) : Prop := ¬ jWq T m (jBl T m x) 2 ∧ ¬ jWq T m (jBl T m x) 3
theorem sp_cKinds {T : Int → Int} {m p : Int} {C : jC} (h : jCL T m p C) {post : Int → jC → Prop}
    (y1 : ∀ (n q : Int) (g : Int → Int) (C' : jC), 1 ≤ n → n ≤ 5 → g 0 = p → (∀ j, 0 ≤ j → j ≤ n → 0 ≤ g j ∧ g j ≤ m) → (∀ j, 0 ≤ j → j < n → jKd T m g (C' 4) j) → (n = 5 ∨ jNoK T m (g n)) → jXt C C' → jCL T m q C' → jBl T m q = jBl T m (g n) → C' 3 0 = n → C' 3 2 = C 3 2 → (∀ j, n ≤ j → C' 4 j = C 4 j) → (∀ b, b ≠ 1 → b ≠ 3 → b ≠ 4 → C' b = C b) → post 1 C')
    (y0 : jNoK T m p → ∀ C', jXf C C' (jBl T m p) → post 0 C') : wp_9_readKinds C post := by
  obtain ⟨a1, a2, a3, a4, a5, a6⟩ := id h
  have s2 : jSlen 2 = 6 := rfl
  have s3 : jSlen 3 = 4 := rfl
  unfold wp_9_readKinds
  refine jL2_of (fun k E => 0 ≤ k ∧ k ≤ 5 ∧ ∃ g : Int → Int, g 0 = p ∧ (∀ j, 0 ≤ j → j ≤ k → 0 ≤ g j ∧ g j ≤ m) ∧ (∀ j, 0 ≤ j → j < k → jKd T m g (E 4) j) ∧ jXt C E ∧ jCL T m (g k) E ∧ (1 ≤ k → E 3 0 = k) ∧ E 3 2 = C 3 2 ∧ (∀ j, k ≤ j → E 4 j = C 4 j) ∧ (∀ b, b ≠ 1 → b ≠ 3 → b ≠ 4 → E b = C b)) (fun k _ => (5 - k).toNat) (fun K k E hi hk => ?_) ⟨by omega, by omega, fun _ => p, rfl, fun j _ _ => ⟨a3, a4⟩, fun j a b => by omega, jXt_r C, h, by omega, rfl, fun _ _ => rfl, fun _ _ _ _ => rfl⟩
  obtain ⟨i0, i1, g, g0, gb, g1, g2, g3, g4, g5, g6, g7⟩ := hi
  unfold wp_9_readKinds_2
  by_cases a : 5 ≤ k
  · rw [if_pos a]
    exact y1 k (g k) g E (by omega) (by omega) g0 gb g1 (Or.inl (by omega)) g2 g3 rfl (g4 (by omega)) g5 g6 g7
  · rw [if_neg a]
    have step : ∀ (C1 : jC) (x v : Int), jGo3 E C1 → jCL T m x C1 → (v = 0 ∨ v = 1) → ((jWq T m (jBl T m (g k)) 2 ∧ v = 0 ∧ x = jBl T m (g k) + 6) ∨ (¬ jWq T m (jBl T m (g k)) 2 ∧ jWq T m (jBl T m (g k)) 3 ∧ v = 1 ∧ x = jBl T m (g k) + 4)) → K (k + 1) (jU (jU C1 4 k v) 3 0 (k + 1)) := by
      intro C1 x v c1 c2 hv hx
      have gT : jXt C1 (jU (jU C1 4 k v) 3 0 (k + 1)) := jXt_t (jXt_u _ _ _ (by decide) (by decide)) (jXt_u _ _ _ (by decide) (by decide))
      have k4 : ∀ j, jU (jU C1 4 k v) 3 0 (k + 1) 4 j = if j = k then v else E 4 j := fun j => by rw [jU_ne (by decide), jU_at, if_pos rfl, c1.1 4 (by decide)]
      obtain ⟨g', eg⟩ : ∃ g' : Int → Int, ∀ j, g' j = if j = k + 1 then x else g j := ⟨_, fun _ => rfl⟩
      refine hk _ _ ⟨by omega, by omega, g', by rw [eg, if_neg (by omega)]; exact g0, fun j j0 j1 => ?_, fun j j0 j1 => ?_, jXt_t g2 (jXt_t (jXt_go (jGo3_go c1)) gT), ?_, fun _ => by rw [jU_at, if_pos rfl, if_pos rfl], ?_, fun j hj => ?_, fun b b1 b2 b3 => by rw [jU_ne b2, jU_ne b3, c1.1 b b1, g7 b b1 b2 b3]⟩ (by omega)
      · rw [eg]
        by_cases e : j = k + 1
        · rw [if_pos e]; exact ⟨c2.2.2.1, c2.2.2.2.1⟩
        · rw [if_neg e]; exact gb j j0 (by omega)
      · unfold jKd
        rw [k4, eg, eg]
        by_cases e : j = k
        · subst e
          rw [if_neg (by omega), if_pos rfl, if_pos rfl]
          rcases hx with ⟨q1, q2, q3⟩ | ⟨q1, q2, q3, q4⟩
          · exact Or.inl ⟨q1, q2, q3⟩
          · exact Or.inr ⟨q1, q2, q3, q4⟩
        · rw [if_neg (by omega), if_neg e, if_neg (by omega)]
          exact g1 j j0 (by omega)
      · rw [eg, if_pos rfl]
        exact jCL_tx c2 gT (by rw [jU_ne (by decide), jU_ne (by decide)]; exact c2.2.1) c2.2.2.1 c2.2.2.2.1
      · rw [jU_at, if_pos rfl, if_neg (by decide), jU_ne (by decide), c1.1 3 (by decide)]; exact g5
      · rw [k4, if_neg (by omega)]; exact g6 j (by omega)
    refine sp_cTakeWord g3 (by decide) (fun w C1 c1 c2 => ?_) (fun w C1 c1 c2 => ?_)
    · rw [if_neg (by decide)]
      rw [s2] at c2
      exact ⟨i0, step C1 _ 0 c1 c2 (Or.inl rfl) (Or.inl ⟨w, rfl, rfl⟩)⟩
    · rw [if_pos rfl]
      have bb := jBl_bl (T := T) g3.2.2.1 g3.2.2.2.1 a5
      refine sp_cTakeWord c2 (by decide) (fun w3 C2 d1 d2 => ?_) (fun w3 C2 d1 d2 => ?_)
      · rw [if_neg (by decide)]
        rw [bb] at w3 d2
        rw [s3] at d2
        exact ⟨i0, step C2 _ 1 (jGo3_t c1 d1) d2 (Or.inr rfl) (Or.inr ⟨w, w3, rfl, rfl⟩)⟩
      · rw [if_pos rfl]
        rw [bb] at w3 d2
        have gE := jGo3_t c1 d1
        by_cases e : 0 < k
        · rw [if_pos e]
          refine y1 k (jBl T m (g k)) g C2 (by omega) (by omega) g0 gb (fun j j0 j1 => ?_) (Or.inr ⟨w, w3⟩) (jXt_t g2 (jXt_go (jGo3_go gE))) d2 bb (by rw [gE.1 3 (by decide)]; exact g4 (by omega)) (by rw [gE.1 3 (by decide)]; exact g5) (fun j hj => by rw [gE.1 4 (by decide)]; exact g6 j hj) (fun b b1 b2 b3 => by rw [gE.1 b b1, g7 b b1 b2 b3])
          rw [gE.1 4 (by decide)]; exact g1 j j0 j1
        · rw [if_neg e]
          unfold wp_5_failHere
          dsimp only
          rw [if_pos rfl, d2.2.1]
          have ek : k = 0 := by omega
          subst ek
          rw [g0] at w w3 ⊢
          exact y0 ⟨w, w3⟩ _ (jXf_bad (jXt_t g2 (jXt_go (jGo3_go gE))) (jBad_u _ _))

-- reading the tape: T its bytes, m its length
def jRn (f : Int → Int) (m : Int) : Nat → Int → Int
  | 0, p => p
  | n + 1, p => if p < m ∧ f p = 1 then jRn f m n (p + 1) else p
/-- from p on f holds up to r, and no further -/
def jUp (f : Int → Int) (m p r : Int) : Prop := p ≤ r ∧ r ≤ m ∧ (∀ i, p ≤ i → i < r → f i = 1) ∧ (r = m ∨ f r ≠ 1)
theorem jUp_uniq {f : Int → Int} {m p r r' : Int} (h : jUp f m p r) (h' : jUp f m p r') : r = r' := by
  obtain ⟨a1, a2, a3, a4⟩ := h
  obtain ⟨b1, b2, b3, b4⟩ := h'
  rcases Int.lt_trichotomy r r' with c | c | c
  · rcases a4 with a4 | a4
    · omega
    · exact absurd (b3 r a1 c) a4
  · exact c
  · rcases b4 with b4 | b4
    · omega
    · exact absurd (a3 r' b1 c) b4
theorem jRn_up {f : Int → Int} {m : Int} (n : Nat) : ∀ p, p ≤ m → m - p ≤ n → jUp f m p (jRn f m n p) := by
  induction n with
  | zero => intro p h1 h2; exact ⟨Int.le_refl _, h1, fun i a b => absurd b (by show ¬ i < p; omega), Or.inl (by show p = m; omega)⟩
  | succ n ih =>
    intro p h1 h2
    show jUp f m p (if p < m ∧ f p = 1 then jRn f m n (p + 1) else p)
    by_cases c : p < m ∧ f p = 1
    · rw [if_pos c]
      obtain ⟨a1, a2, a3, a4⟩ := ih (p + 1) (by omega) (by omega)
      refine ⟨by omega, a2, fun i i0 i1 => ?_, a4⟩
      by_cases e : i = p
      · rw [e]; exact c.2
      · exact a3 i (by omega) i1
    · rw [if_neg c]
      refine ⟨Int.le_refl _, h1, fun i a b => by omega, ?_⟩
      by_cases e : p = m
      · exact Or.inl e
      · exact Or.inr (fun z => c ⟨by omega, z⟩)
def jIsB (T : Int → Int) (i : Int) : Int := if T i = 32 then 1 else 0
def jIsL (T : Int → Int) (i : Int) : Int := if 97 ≤ T i ∧ T i ≤ 122 then 1 else 0
def jIsD (T : Int → Int) (i : Int) : Int := if 48 ≤ T i ∧ T i ≤ 57 then 1 else 0
def jBl (T : Int → Int) (m p : Int) : Int := jRn (jIsB T) m 400 p
def jLt (T : Int → Int) (m p : Int) : Int := jRn (jIsL T) m 400 p
def jDg (T : Int → Int) (m p : Int) : Int := jRn (jIsD T) m 400 p
theorem jBl_up {T : Int → Int} {m p : Int} (p0 : 0 ≤ p) (p1 : p ≤ m) (m4 : m ≤ 400) : jUp (jIsB T) m p (jBl T m p) := jRn_up 400 p p1 (by omega)
theorem jLt_up {T : Int → Int} {m p : Int} (p0 : 0 ≤ p) (p1 : p ≤ m) (m4 : m ≤ 400) : jUp (jIsL T) m p (jLt T m p) := jRn_up 400 p p1 (by omega)
theorem jDg_up {T : Int → Int} {m p : Int} (p0 : 0 ≤ p) (p1 : p ≤ m) (m4 : m ≤ 400) : jUp (jIsD T) m p (jDg T m p) := jRn_up 400 p p1 (by omega)
theorem jBl_bl {T : Int → Int} {m p : Int} (p0 : 0 ≤ p) (p1 : p ≤ m) (m4 : m ≤ 400) : jBl T m (jBl T m p) = jBl T m p := by
  have h := jBl_up (T := T) p0 p1 m4
  refine jUp_uniq (jBl_up (by have := h.1; omega) h.2.1 m4) ⟨Int.le_refl _, h.2.1, fun i a b => by omega, h.2.2.2⟩
/-- the class's reader: at p of the tape T, m -/
def jCL (T : Int → Int) (m p : Int) (C : jC) : Prop := C 1 2 = m ∧ C 1 3 = p ∧ 0 ≤ p ∧ p ≤ m ∧ m ≤ 400 ∧ ∀ i, 0 ≤ i → i < m → C 2 i = jUb (T i) ∧ -128 ≤ T i ∧ T i < 128
/-- the model's -/
def jML (T : Int → Int) (m p : Int) (D : jC) : Prop := D 345 8 = m ∧ D 345 7 = p ∧ 0 ≤ p ∧ p ≤ m ∧ m ≤ 400 ∧ D 349 = T
/-- only the reader has gone on -/
def jGo (C C' : jC) : Prop := (∀ b, b ≠ 1 → C' b = C b) ∧ (∀ j, j ≠ 3 → j ≠ 5 → j ≠ 6 → C' 1 j = C 1 j)
def jGoM (D D' : jC) : Prop := (∀ b, b ≠ 345 → D' b = D b) ∧ (∀ j, j ≠ 7 → j ≠ 9 → j ≠ 10 → D' 345 j = D 345 j)
theorem jGo_r (C : jC) : jGo C C := ⟨fun _ _ => rfl, fun _ _ _ _ => rfl⟩
theorem jGo_t {A B C : jC} (h : jGo A B) (h' : jGo B C) : jGo A C := ⟨fun b hb => by rw [h'.1 b hb, h.1 b hb], fun j a b c => by rw [h'.2 j a b c, h.2 j a b c]⟩
theorem jGoM_r (C : jC) : jGoM C C := ⟨fun _ _ => rfl, fun _ _ _ _ => rfl⟩
theorem jGoM_t {A B C : jC} (h : jGoM A B) (h' : jGoM B C) : jGoM A C := ⟨fun b hb => by rw [h'.1 b hb, h.1 b hb], fun j a b c => by rw [h'.2 j a b c, h.2 j a b c]⟩
theorem jGo_u (C : jC) {k : Int} (v : Int) (hk : k = 3 ∨ k = 5 ∨ k = 6) : jGo C (jU C 1 k v) := ⟨fun b hb => jU_ne hb, fun j a b c => by rw [jU_at, if_pos rfl, if_neg (by omega)]⟩
theorem jGoM_u (C : jC) {k : Int} (v : Int) (hk : k = 7 ∨ k = 9 ∨ k = 10) : jGoM C (jU C 345 k v) := ⟨fun b hb => jU_ne hb, fun j a b c => by rw [jU_at, if_pos rfl, if_neg (by omega)]⟩
theorem jCL_go {T : Int → Int} {m p x : Int} {C C' : jC} (h : jCL T m p C) (g : jGo C C') (hx : C' 1 3 = x) (x0 : 0 ≤ x) (x1 : x ≤ m) : jCL T m x C' := by
  obtain ⟨a1, a2, a3, a4, a5, a6⟩ := h
  exact ⟨by rw [g.2 2 (by decide) (by decide) (by decide)]; exact a1, hx, x0, x1, a5, fun i i0 i1 => by rw [g.1 2 (by decide)]; exact a6 i i0 i1⟩
theorem jML_go {T : Int → Int} {m p x : Int} {D D' : jC} (h : jML T m p D) (g : jGoM D D') (hx : D' 345 7 = x) (x0 : 0 ≤ x) (x1 : x ≤ m) : jML T m x D' := by
  obtain ⟨a1, a2, a3, a4, a5, a6⟩ := h
  exact ⟨by rw [g.2 8 (by decide) (by decide) (by decide)]; exact a1, hx, x0, x1, a5, by rw [g.1 349 (by decide)]; exact a6⟩
/-- the model's reader has gone on, and read no value -/
def jGoN (D D' : jC) : Prop := (∀ b, b ≠ 345 → D' b = D b) ∧ (∀ j, j ≠ 7 → j ≠ 9 → D' 345 j = D 345 j)
theorem jGoN_r (C : jC) : jGoN C C := ⟨fun _ _ => rfl, fun _ _ _ => rfl⟩
theorem jGoN_t {A B C : jC} (h : jGoN A B) (h' : jGoN B C) : jGoN A C := ⟨fun b hb => by rw [h'.1 b hb, h.1 b hb], fun j a b => by rw [h'.2 j a b, h.2 j a b]⟩
theorem jGoN_u (C : jC) {k : Int} (v : Int) (hk : k = 7 ∨ k = 9) : jGoN C (jU C 345 k v) := ⟨fun b hb => jU_ne hb, fun j a b => by rw [jU_at, if_pos rfl, if_neg (by omega)]⟩
theorem jGoN_M {D D' : jC} (h : jGoN D D') : jGoM D D' := ⟨h.1, fun j a b _ => h.2 j a b⟩
theorem jML_goN {T : Int → Int} {m p x : Int} {D D' : jC} (h : jML T m p D) (g : jGoN D D') (hx : D' 345 7 = x) (x0 : 0 ≤ x) (x1 : x ≤ m) : jML T m x D' := jML_go h (jGoN_M g) hx x0 x1
theorem jUb_eq {x c : Int} (x0 : -128 ≤ x) (x1 : x < 128) (c0 : 0 ≤ c) (c1 : c < 128) : jUb x = c ↔ x = c := by
  unfold jUb; split <;> omega
theorem jUb_le {x c : Int} (x0 : -128 ≤ x) (x1 : x < 128) (c0 : 0 ≤ c) (c1 : c < 128) : (c ≤ jUb x ∧ jUb x < 128) ↔ c ≤ x := by
  unfold jUb; split <;> omega
theorem sp_cBlanks {T : Int → Int} {m p : Int} {C : jC} (h : jCL T m p C) {post : jC → Prop} (y : ∀ C', jGo C C' → C' 1 3 = jBl T m p → (∀ j, j ≠ 3 → C' 1 j = C 1 j) → post C') : wp_5_skipBlanks C post := by
  obtain ⟨a1, a2, a3, a4, a5, a6⟩ := h
  have hu := jBl_up (T := T) a3 a4 a5
  generalize jBl T m p = r at y hu
  obtain ⟨u1, u2, u3, u4⟩ := hu
  unfold wp_5_skipBlanks
  refine jL1_of (fun E => jGo C E ∧ (∀ j, j ≠ 3 → E 1 j = C 1 j) ∧ p ≤ E 1 3 ∧ E 1 3 ≤ r) (fun E => (r - E 1 3).toNat) (fun K E hi hk => ?_) ⟨jGo_r C, fun _ _ => rfl, by omega, by omega⟩
  obtain ⟨i1, i2, i3, i4⟩ := hi
  unfold wp_5_skipBlanks_0
  rw [i2 2 (by decide), a1]
  by_cases c : m ≤ E 1 3
  · rw [if_pos c]
    exact y E i1 (by omega) i2
  · rw [if_neg c]
    refine ⟨by omega, by omega, ?_⟩
    obtain ⟨b1, b2, b3⟩ := a6 (E 1 3) (by omega) (by omega)
    rw [i1.1 2 (by decide), b1]
    have e32 : jUb (T (E 1 3)) = 32 ↔ jIsB T (E 1 3) = 1 := by
      rw [jUb_eq b2 b3 (by omega) (by omega)]
      unfold jIsB
      split <;> simp_all
    by_cases d : jUb (T (E 1 3)) = 32
    · rw [if_pos d]
      have : E 1 3 ≠ r := by
        intro z
        rcases u4 with u4 | u4
        · omega
        · exact u4 (by rw [← z]; exact e32.mp d)
      refine hk _ ⟨jGo_t i1 (jGo_u _ _ (Or.inl rfl)), fun j hj => by rw [jU_at, if_pos rfl, if_neg hj, i2 j hj], ?_, ?_⟩ ?_
      · rw [jU_at, if_pos rfl, if_pos rfl]; omega
      · rw [jU_at, if_pos rfl, if_pos rfl]; omega
      · rw [jU_at, if_pos rfl, if_pos rfl]; omega
    · rw [if_neg d]
      refine y E i1 ?_ i2
      by_cases z : E 1 3 = r
      · exact z
      · exact absurd (e32.mpr (u3 (E 1 3) (by omega) (by omega))) d
theorem sp_isAt {T : Int → Int} {m p : Int} {D : jC} (h : jML T m p D) (l u : Int) {post : Int → Prop} : wp_12_isAt l u D post = post (if p < m ∧ l ≤ T p ∧ T p ≤ u then 1 else 0) := by
  obtain ⟨a1, a2, a3, a4, a5, a6⟩ := h
  unfold wp_12_isAt
  rw [a1, a2, a6]
  by_cases c : m ≤ p
  · rw [if_pos c, if_neg (by omega)]
  · rw [if_neg c]
    by_cases d : T p < l
    · rw [if_pos d, if_neg (by omega)]
      exact propext ⟨fun z => z.2.2, fun z => ⟨by omega, by omega, z⟩⟩
    · rw [if_neg d]
      by_cases e : u < T p
      · rw [if_pos e, if_neg (by omega)]
        exact propext ⟨fun z => z.2.2, fun z => ⟨by omega, by omega, z⟩⟩
      · rw [if_neg e, if_pos (by omega)]
        exact propext ⟨fun z => z.2.2, fun z => ⟨by omega, by omega, z⟩⟩
theorem sp_isAt1 {T : Int → Int} {m p : Int} {D : jC} (h : jML T m p D) {l u : Int} {post : Int → Prop} (c : p < m ∧ l ≤ T p ∧ T p ≤ u) : wp_12_isAt l u D post = post 1 := by rw [sp_isAt h, if_pos c]
theorem sp_isAt0 {T : Int → Int} {m p : Int} {D : jC} (h : jML T m p D) {l u : Int} {post : Int → Prop} (c : ¬ (p < m ∧ l ≤ T p ∧ T p ≤ u)) : wp_12_isAt l u D post = post 0 := by rw [sp_isAt h, if_neg c]
theorem sp_mBlanks {T : Int → Int} {m p : Int} {D : jC} (h : jML T m p D) {post : jC → Prop} (y : ∀ D', jGoN D D' → D' 345 7 = jBl T m p → D' 345 9 = jBl T m p → post D') : wp_12_blanks D post := by
  obtain ⟨a1, a2, a3, a4, a5, a6⟩ := id h
  have hu := jBl_up (T := T) a3 a4 a5
  generalize jBl T m p = r at y hu
  obtain ⟨u1, u2, u3, u4⟩ := hu
  unfold wp_12_blanks
  refine jL1_of (fun E => jGoN D E ∧ p ≤ E 345 7 ∧ E 345 7 ≤ r) (fun E => (r - E 345 7).toNat) (fun K E hi hk => ?_) ⟨jGoN_r D, by omega, by omega⟩
  obtain ⟨i1, i3, i4⟩ := hi
  have hE := jML_goN h i1 rfl (by omega) (by omega)
  unfold wp_12_blanks_0
  by_cases d : E 345 7 < m ∧ 32 ≤ T (E 345 7) ∧ T (E 345 7) ≤ 32
  · rw [sp_isAt1 hE d, if_neg (by decide)]
    have : E 345 7 ≠ r := by
      intro z
      rcases u4 with u4 | u4
      · omega
      · exact u4 (by rw [← z]; unfold jIsB; rw [if_pos (by omega)])
    refine ⟨⟨by omega, by omega⟩, hk _ ⟨jGoN_t i1 (jGoN_u _ _ (Or.inl rfl)), ?_, ?_⟩ ?_⟩
    · rw [jU_at, if_pos rfl, if_pos rfl]; omega
    · rw [jU_at, if_pos rfl, if_pos rfl]; omega
    · rw [jU_at, if_pos rfl, if_pos rfl]; omega
  · rw [sp_isAt0 hE d, if_pos rfl]
    have er : E 345 7 = r := by
      by_cases z : E 345 7 = r
      · exact z
      · have := u3 (E 345 7) (by omega) (by omega)
        unfold jIsB at this
        split at this
        · omega
        · omega
    refine y _ (jGoN_t i1 (jGoN_u _ _ (Or.inr rfl))) ?_ ?_
    · rw [jU_at, if_pos rfl, if_neg (by decide), er]
    · rw [jU_at, if_pos rfl, if_pos rfl, er]
theorem sp_mLetters {T : Int → Int} {m p : Int} {D : jC} (h : jML T m p D) {post : jC → Prop} (y : ∀ D', jGoN D D' → D' 345 7 = jLt T m (jBl T m p) → D' 345 9 = jBl T m p → post D') : wp_12_letters D post := by
  obtain ⟨a1, a2, a3, a4, a5, a6⟩ := id h
  have hb := jBl_up (T := T) a3 a4 a5
  unfold wp_12_letters
  refine sp_mBlanks h (fun D1 d1 d2 d3 => ?_)
  have h1 := jML_goN h d1 d2 (by have := hb.1; omega) hb.2.1
  generalize jBl T m p = b at *
  obtain ⟨c1, c2, c3, c4, c5, c6⟩ := id h1
  have hu := jLt_up (T := T) c3 c4 c5
  generalize jLt T m b = r at y hu
  obtain ⟨u1, u2, u3, u4⟩ := hu
  refine jL1_of (fun E => jGoN D E ∧ b ≤ E 345 7 ∧ E 345 7 ≤ r ∧ E 345 9 = b) (fun E => (r - E 345 7).toNat) (fun K E hi hk => ?_) ⟨d1, by omega, by omega, d3⟩
  obtain ⟨i1, i3, i4, i5⟩ := hi
  have hE := jML_goN h i1 rfl (by omega) (by omega)
  unfold wp_12_letters_4
  by_cases d : E 345 7 < m ∧ 97 ≤ T (E 345 7) ∧ T (E 345 7) ≤ 122
  · rw [sp_isAt1 hE d, if_neg (by decide)]
    have : E 345 7 ≠ r := by
      intro z
      rcases u4 with u4 | u4
      · omega
      · exact u4 (by rw [← z]; unfold jIsL; rw [if_pos d.2])
    refine ⟨⟨by omega, by omega⟩, hk _ ⟨jGoN_t i1 (jGoN_u _ _ (Or.inl rfl)), ?_, ?_, ?_⟩ ?_⟩
    · rw [jU_at, if_pos rfl, if_pos rfl]; omega
    · rw [jU_at, if_pos rfl, if_pos rfl]; omega
    · rw [jU_at, if_pos rfl, if_neg (by decide)]; exact i5
    · rw [jU_at, if_pos rfl, if_pos rfl]; omega
  · rw [sp_isAt0 hE d, if_pos rfl]
    have er : E 345 7 = r := by
      by_cases z : E 345 7 = r
      · exact z
      · have := u3 (E 345 7) (by omega) (by omega)
        unfold jIsL at this
        split at this
        · omega
        · omega
    exact y E i1 er i5
/-- word q stands at b -/
def jWq (T : Int → Int) (m b : Int) (q : Nat) : Prop := b + jSlen q ≤ m ∧ (∀ i, 0 ≤ i → i < jSlen q → T (b + i) = jSch q i) ∧ (b + jSlen q = m ∨ jIsL T (b + jSlen q) ≠ 1)
theorem jSw_rng (q : Nat) (hq : q < 11) : 2 ≤ jSlen q ∧ jSlen q ≤ 7 ∧ ∀ i, 0 ≤ i → i < jSlen q → 97 ≤ jSch q i ∧ jSch q i ≤ 122 := by
  have key : ∀ q, q < 11 → (2 ≤ jSlen q ∧ jSlen q ≤ 7 ∧ ∀ n : Nat, n < 7 → (n : Int) < jSlen q → 97 ≤ jSch q n ∧ jSch q n ≤ 122) := by decide
  obtain ⟨a, b, c⟩ := key q hq
  refine ⟨a, b, fun i i0 i1 => ?_⟩
  have := c i.toNat (by omega) (by omega)
  rw [Int.toNat_of_nonneg i0] at this
  exact this
theorem sp_cWord {T : Int → Int} {m b : Int} {C : jC} (h : jCL T m b C) {q : Nat} (hq : q < 11) {post : Int → Prop} (y1 : jWq T m b q → post 1) (y0 : ¬ jWq T m b q → post 0) : wp_5_isWordHere q C post := by
  obtain ⟨a1, a2, a3, a4, a5, a6⟩ := id h
  obtain ⟨s1, s2, s3⟩ := jSw_rng q hq
  unfold wp_5_isWordHere
  rw [a1, a2]
  refine ⟨⟨by omega, by omega⟩, ?_⟩
  by_cases c : b + jSlen q ≤ m
  · rw [if_pos c]
    refine jL1_of (fun k => 0 ≤ k ∧ k ≤ jSlen q ∧ ∀ i, 0 ≤ i → i < k → T (b + i) = jSch q i) (fun k => (jSlen q - k).toNat) (fun K k hi hk => ?_) ⟨by omega, by omega, fun i a b => by omega⟩
    obtain ⟨i0, i1, i2⟩ := hi
    unfold wp_5_isWordHere_22
    rw [a1, a2]
    by_cases d : jSlen q ≤ k
    · rw [if_pos d]
      by_cases e : m ≤ b + jSlen q
      · rw [if_pos e]
        exact y1 ⟨c, fun i a b => i2 i a (by omega), Or.inl (by omega)⟩
      · rw [if_neg e]
        refine ⟨by omega, by omega, ?_⟩
        obtain ⟨b1, b2, b3⟩ := a6 (b + jSlen q) (by omega) (by omega)
        rw [b1]
        have il : jIsL T (b + jSlen q) = 1 ↔ (97 ≤ jUb (T (b + jSlen q)) ∧ jUb (T (b + jSlen q)) ≤ 122) := by
          unfold jIsL jUb
          split <;> split <;> omega
        by_cases f : jUb (T (b + jSlen q)) < 97
        · rw [if_pos f]
          exact y1 ⟨c, fun i a b => i2 i a (by omega), Or.inr (by omega)⟩
        · rw [if_neg f]
          by_cases g : jUb (T (b + jSlen q)) ≤ 122
          · rw [if_pos g]
            refine y0 (fun z => ?_)
            rcases z.2.2 with z | z
            · omega
            · exact z (il.mpr ⟨by omega, g⟩)
          · rw [if_neg g]
            exact y1 ⟨c, fun i a b => i2 i a (by omega), Or.inr (by omega)⟩
    · rw [if_neg d]
      obtain ⟨b1, b2, b3⟩ := a6 (b + k) (by omega) (by omega)
      have sc := s3 k i0 (by omega)
      refine ⟨by omega, by omega, by omega, by omega, ?_⟩
      rw [b1]
      have e1 := jUb_eq (c := jSch q k) b2 b3 (by omega) (by omega)
      by_cases f : jUb (T (b + k)) = jSch q k
      · rw [if_pos f]
        refine hk _ ⟨by omega, by omega, fun i a b => ?_⟩ (by omega)
        by_cases e : i = k
        · rw [e]; exact e1.mp f
        · exact i2 i a (by omega)
      · rw [if_neg f]
        exact y0 (fun z => f (e1.mpr (z.2.1 k i0 (by omega))))
  · rw [if_neg c]
    exact y0 (fun z => c z.1)
theorem jWq_lt {T : Int → Int} {m b : Int} {q : Nat} (b0 : 0 ≤ b) (b1 : b ≤ m) (m4 : m ≤ 400) (hq : q < 11) : jWq T m b q ↔ (jLt T m b - b = jSlen q ∧ ∀ i, 0 ≤ i → i < jSlen q → T (b + i) = jSch q i) := by
  have hu := jLt_up (T := T) b0 b1 m4
  obtain ⟨s1, s2, s3⟩ := jSw_rng q hq
  constructor
  · rintro ⟨a1, a2, a3⟩
    refine ⟨?_, a2⟩
    have : jUp (jIsL T) m b (b + jSlen q) := by
      refine ⟨by omega, a1, fun i i0 i1 => ?_, a3⟩
      have e := a2 (i - b) (by omega) (by omega)
      rw [show b + (i - b) = i by omega] at e
      have sc := s3 (i - b) (by omega) (by omega)
      unfold jIsL
      rw [if_pos (by omega)]
    rw [jUp_uniq hu this]
    omega
  · rintro ⟨a1, a2⟩
    obtain ⟨u1, u2, u3, u4⟩ := hu
    rw [show jLt T m b = b + jSlen q by omega] at u2 u4
    exact ⟨u2, a2, u4⟩
theorem sp_mWordAt {T : Int → Int} {m b : Int} {D : jC} (hT : D 349 = T) (b0 : 0 ≤ b) (b1 : b ≤ m) (m4 : m ≤ 400) (h7 : D 345 7 = jLt T m b) (h9 : D 345 9 = b) {q : Nat} (hq : q < 11) {post : Int → Prop} (y1 : jWq T m b q → post 1) (y0 : ¬ jWq T m b q → post 0) : wp_12_isWord q D post := by
  have hu := jLt_up (T := T) b0 b1 m4
  have u1 := hu.1
  have u2 := hu.2.1
  obtain ⟨s1, s2, s3⟩ := jSw_rng q hq
  rw [jWq_lt b0 b1 m4 hq] at y1 y0
  unfold wp_12_isWord
  rw [h7, h9]
  refine ⟨⟨by omega, by omega⟩, ?_⟩
  have stop : ∀ k, (¬ (jLt T m b - b = jSlen q ∧ ∀ i, 0 ≤ i → i < jSlen q → T (b + i) = jSch q i)) → jL2 (wp_12_isWord_24 q D post) 0 k := by
    intro k z
    refine ⟨1, ?_⟩
    show wp_12_isWord_24 q D post (jI2 (wp_12_isWord_24 q D post) 0) 0 k
    unfold wp_12_isWord_24
    rw [if_pos rfl]
    exact ⟨by omega, y0 z⟩
  by_cases c : jLt T m b - b = jSlen q
  · rw [if_pos c]
    refine jL2_of (fun a k => 0 ≤ k ∧ k ≤ jSlen q ∧ ((a = 1 ∧ ∀ i, 0 ≤ i → i < k → T (b + i) = jSch q i) ∨ (a = 0 ∧ ¬ ∀ i, 0 ≤ i → i < jSlen q → T (b + i) = jSch q i))) (fun a k => (jSlen q - k).toNat) (fun K a k hi hk => ?_) ⟨by omega, by omega, Or.inl ⟨rfl, fun i a b => by omega⟩⟩
    obtain ⟨i0, i1, i2⟩ := hi
    unfold wp_12_isWord_24
    rcases i2 with ⟨rfl, i2⟩ | ⟨rfl, i2⟩
    · rw [if_neg (by decide)]
      by_cases d : jSlen q ≤ k
      · rw [if_pos d]
        exact ⟨by omega, y1 ⟨c, fun i a b => i2 i a (by omega)⟩⟩
      · rw [if_neg d, h9, hT]
        refine ⟨by omega, by omega, by omega, by omega, ?_⟩
        by_cases e : T (b + k) = jSch q k
        · rw [if_pos e]
          refine hk _ _ ⟨by omega, by omega, Or.inl ⟨rfl, fun i a b => ?_⟩⟩ (by omega)
          by_cases f : i = k
          · rw [f]; exact e
          · exact i2 i a (by omega)
        · rw [if_neg e]
          exact hk _ _ ⟨by omega, by omega, Or.inr ⟨rfl, fun z => e (z k i0 (by omega))⟩⟩ (by omega)
    · rw [if_pos rfl]
      exact ⟨by omega, y0 (fun z => i2 z.2)⟩
  · rw [if_neg c]
    exact stop 0 (fun z => c z.1)

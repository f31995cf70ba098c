-- one run, one outcome: what is proved twice of a run holds of one outcome
theorem jIf2 {c : Prop} [Decidable c] {A B A' B' : Prop} (h : if c then A else B) (g : if c then A' else B') : (A ∧ A') ∨ (B ∧ B') := by
  by_cases q : c
  · rw [if_pos q] at h g; exact Or.inl ⟨h, g⟩
  · rw [if_neg q] at h g; exact Or.inr ⟨h, g⟩

theorem jL1_cj {α1 : Type} {b b' : (α1 → Prop) → α1 → Prop} {P : Prop} {x1 : α1} (h : jL1 b x1) (g : jL1 b' x1) (hb : ∀ K K' y1, b K y1 → b' K' y1 → P ∨ ∃ z1, K z1 ∧ K' z1) : P := by
  obtain ⟨k, h⟩ := h
  obtain ⟨l, g⟩ := g
  induction k generalizing x1 l with
  | zero => exact h.elim
  | succ n ih =>
    cases l with
    | zero => exact g.elim
    | succ l =>
      rcases hb _ _ _ h g with q | ⟨z1, q, q'⟩
      · exact q
      · exact ih q l q'
theorem jL2_cj {α1 α2 : Type} {b b' : (α1 → α2 → Prop) → α1 → α2 → Prop} {P : Prop} {x1 : α1} {x2 : α2} (h : jL2 b x1 x2) (g : jL2 b' x1 x2) (hb : ∀ K K' y1 y2, b K y1 y2 → b' K' y1 y2 → P ∨ ∃ z1 z2, K z1 z2 ∧ K' z1 z2) : P := by
  obtain ⟨k, h⟩ := h
  obtain ⟨l, g⟩ := g
  induction k generalizing x1 x2 l with
  | zero => exact h.elim
  | succ n ih =>
    cases l with
    | zero => exact g.elim
    | succ l =>
      rcases hb _ _ _ _ h g with q | ⟨z1, z2, q, q'⟩
      · exact q
      · exact ih q l q'
theorem jL3_cj {α1 α2 α3 : Type} {b b' : (α1 → α2 → α3 → Prop) → α1 → α2 → α3 → Prop} {P : Prop} {x1 : α1} {x2 : α2} {x3 : α3} (h : jL3 b x1 x2 x3) (g : jL3 b' x1 x2 x3) (hb : ∀ K K' y1 y2 y3, b K y1 y2 y3 → b' K' y1 y2 y3 → P ∨ ∃ z1 z2 z3, K z1 z2 z3 ∧ K' z1 z2 z3) : P := by
  obtain ⟨k, h⟩ := h
  obtain ⟨l, g⟩ := g
  induction k generalizing x1 x2 x3 l with
  | zero => exact h.elim
  | succ n ih =>
    cases l with
    | zero => exact g.elim
    | succ l =>
      rcases hb _ _ _ _ _ h g with q | ⟨z1, z2, z3, q, q'⟩
      · exact q
      · exact ih q l q'
theorem jL4_cj {α1 α2 α3 α4 : Type} {b b' : (α1 → α2 → α3 → α4 → Prop) → α1 → α2 → α3 → α4 → Prop} {P : Prop} {x1 : α1} {x2 : α2} {x3 : α3} {x4 : α4} (h : jL4 b x1 x2 x3 x4) (g : jL4 b' x1 x2 x3 x4) (hb : ∀ K K' y1 y2 y3 y4, b K y1 y2 y3 y4 → b' K' y1 y2 y3 y4 → P ∨ ∃ z1 z2 z3 z4, K z1 z2 z3 z4 ∧ K' z1 z2 z3 z4) : P := by
  obtain ⟨k, h⟩ := h
  obtain ⟨l, g⟩ := g
  induction k generalizing x1 x2 x3 x4 l with
  | zero => exact h.elim
  | succ n ih =>
    cases l with
    | zero => exact g.elim
    | succ l =>
      rcases hb _ _ _ _ _ _ h g with q | ⟨z1, z2, z3, z4, q, q'⟩
      · exact q
      · exact ih q l q'
theorem jL5_cj {α1 α2 α3 α4 α5 : Type} {b b' : (α1 → α2 → α3 → α4 → α5 → Prop) → α1 → α2 → α3 → α4 → α5 → Prop} {P : Prop} {x1 : α1} {x2 : α2} {x3 : α3} {x4 : α4} {x5 : α5} (h : jL5 b x1 x2 x3 x4 x5) (g : jL5 b' x1 x2 x3 x4 x5) (hb : ∀ K K' y1 y2 y3 y4 y5, b K y1 y2 y3 y4 y5 → b' K' y1 y2 y3 y4 y5 → P ∨ ∃ z1 z2 z3 z4 z5, K z1 z2 z3 z4 z5 ∧ K' z1 z2 z3 z4 z5) : P := by
  obtain ⟨k, h⟩ := h
  obtain ⟨l, g⟩ := g
  induction k generalizing x1 x2 x3 x4 x5 l with
  | zero => exact h.elim
  | succ n ih =>
    cases l with
    | zero => exact g.elim
    | succ l =>
      rcases hb _ _ _ _ _ _ _ h g with q | ⟨z1, z2, z3, z4, z5, q, q'⟩
      · exact q
      · exact ih q l q'
theorem cj_7_isSeat {v0 : Int} {v1 : Int} {C : jC} {post : Int → Prop} {postx : Int → Prop} (h : wp_7_isSeat v0 v1 C post) (g : wp_7_isSeat v0 v1 C postx) : ∃ (r0 : Int), post r0 ∧ postx r0 := by
  unfold wp_7_isSeat at h g
  rcases jIf2 h g with ⟨h, g⟩ | ⟨h, g⟩
  · exact ⟨_, h, g⟩
  · rcases jIf2 h g with ⟨h, g⟩ | ⟨h, g⟩
    · exact ⟨_, h, g⟩
    · exact ⟨_, h, g⟩
theorem cj_7_isColumn {v0 : Int} {v1 : Int} {C : jC} {post : Int → Prop} {postx : Int → Prop} (h : wp_7_isColumn v0 v1 C post) (g : wp_7_isColumn v0 v1 C postx) : ∃ (r0 : Int), post r0 ∧ postx r0 := by
  unfold wp_7_isColumn at h g
  rcases jIf2 h g with ⟨h, g⟩ | ⟨h, g⟩
  · exact ⟨_, h, g⟩
  · rcases jIf2 h g with ⟨h, g⟩ | ⟨h, g⟩
    · exact ⟨_, h, g⟩
    · rcases jIf2 h g with ⟨h, g⟩ | ⟨h, g⟩
      · exact ⟨_, h, g⟩
      · exact ⟨_, h, g⟩
theorem cj_7_valueAt {v0 : Int} {v1 : Int} {v2 : Int} {C : jC} {post : Int → Prop} {postx : Int → Prop} (h : wp_7_valueAt v0 v1 v2 C post) (g : wp_7_valueAt v0 v1 v2 C postx) : ∃ (r0 : Int), post r0 ∧ postx r0 := by
  unfold wp_7_valueAt at h g
  obtain ⟨_, h, g⟩ := cj_7_isSeat h g
  rcases jIf2 h g with ⟨h, g⟩ | ⟨h, g⟩
  · exact ⟨_, h, g⟩
  · obtain ⟨_, h, g⟩ := cj_7_isColumn h g
    rcases jIf2 h g with ⟨h, g⟩ | ⟨h, g⟩
    · exact ⟨_, h, g⟩
    · replace h := h.2
      replace g := g.2
      replace h := h.2
      replace g := g.2
      exact ⟨_, h, g⟩
theorem cj_1_isAs_27 {v0 : Int} {v1 : Int} {v2 : Int} {C : jC} {post : Int → Prop} {postx : Int → Prop} (h : wp_1_isAs_27 v0 v1 v2 C post) (g : wp_1_isAs_27 v0 v1 v2 C postx) : ∃ (r0 : Int), post r0 ∧ postx r0 := by
  unfold wp_1_isAs_27 at h g
  replace h := h.2
  replace g := g.2
  replace h := h.2
  replace g := g.2
  rcases jIf2 h g with ⟨h, g⟩ | ⟨h, g⟩
  · rcases jIf2 h g with ⟨h, g⟩ | ⟨h, g⟩
    · exact ⟨_, h, g⟩
    · exact ⟨_, h, g⟩
  · exact ⟨_, h, g⟩
theorem cj_1_matches_5 {v0 : Int} {v1 : Int} {C : jC} {post : Int → Prop} {k5 : Int → Int → Prop} {v3 : Int} {v4 : Int} {postx : Int → Prop} {k5x : Int → Int → Prop} (h : wp_1_matches_5 v0 v1 C post k5 v3 v4) (g : wp_1_matches_5 v0 v1 C postx k5x v3 v4) : (∃ (r0 : Int), post r0 ∧ postx r0) ∨ (∃ (r0 : Int) (r1 : Int), k5 r0 r1 ∧ k5x r0 r1) := by
  unfold wp_1_matches_5 at h g
  rcases jIf2 h g with ⟨h, g⟩ | ⟨h, g⟩
  · exact Or.inl ⟨_, h, g⟩
  · rcases jIf2 h g with ⟨h, g⟩ | ⟨h, g⟩
    · rcases jIf2 h g with ⟨h, g⟩ | ⟨h, g⟩
      · rcases jIf2 h g with ⟨h, g⟩ | ⟨h, g⟩
        · exact Or.inl ⟨_, h, g⟩
        · exact Or.inl ⟨_, h, g⟩
      · exact Or.inl ⟨_, h, g⟩
    · rcases jIf2 h g with ⟨h, g⟩ | ⟨h, g⟩
      · exact Or.inl ⟨_, h, g⟩
      · rcases jIf2 h g with ⟨h, g⟩ | ⟨h, g⟩
        · replace h := h.2
          replace g := g.2
          exact Or.inr ⟨_, _, h, g⟩
        · rcases jIf2 h g with ⟨h, g⟩ | ⟨h, g⟩
          · replace h := h.2
            replace g := g.2
            exact Or.inr ⟨_, _, h, g⟩
          · exact Or.inl ⟨_, h, g⟩
theorem cj_1_matches {v0 : Int} {v1 : Int} {v2 : Int} {C : jC} {post : Int → Prop} {postx : Int → Prop} (h : wp_1_matches v0 v1 v2 C post) (g : wp_1_matches v0 v1 v2 C postx) : ∃ (r0 : Int), post r0 ∧ postx r0 := by
  unfold wp_1_matches at h g
  exact jL2_cj h g (fun K K2 a b h g => cj_1_matches_5 h g)
theorem cj_1_isAs {v0 : Int} {v1 : Int} {v2 : Int} {C : jC} {post : Int → Prop} {postx : Int → Prop} (h : wp_1_isAs v0 v1 v2 C post) (g : wp_1_isAs v0 v1 v2 C postx) : ∃ (r0 : Int), post r0 ∧ postx r0 := by
  unfold wp_1_isAs at h g
  rcases jIf2 h g with ⟨h, g⟩ | ⟨h, g⟩
  · exact ⟨_, h, g⟩
  · rcases jIf2 h g with ⟨h, g⟩ | ⟨h, g⟩
    · rcases jIf2 h g with ⟨h, g⟩ | ⟨h, g⟩
      · exact cj_1_isAs_27 h g
      · rcases jIf2 h g with ⟨h, g⟩ | ⟨h, g⟩
        · exact cj_1_isAs_27 h g
        · rcases jIf2 h g with ⟨h, g⟩ | ⟨h, g⟩
          · rcases jIf2 h g with ⟨h, g⟩ | ⟨h, g⟩
            · exact ⟨_, h, g⟩
            · rcases jIf2 h g with ⟨h, g⟩ | ⟨h, g⟩
              · exact ⟨_, h, g⟩
              · exact ⟨_, h, g⟩
          · rcases jIf2 h g with ⟨h, g⟩ | ⟨h, g⟩
            · obtain ⟨_, h, g⟩ := cj_1_matches h g
              replace h := h.2
              replace g := g.2
              exact ⟨_, h, g⟩
            · obtain ⟨_, h, g⟩ := cj_1_matches h g
              replace h := h.2
              replace g := g.2
              exact ⟨_, h, g⟩
    · exact ⟨_, h, g⟩
theorem cj_1_accepts_2 {v0 : Int} {v1 : Int} {C : jC} {post : Int → Prop} {k2 : Int → Prop} {v2 : Int} {postx : Int → Prop} {k2x : Int → Prop} (h : wp_1_accepts_2 v0 v1 C post k2 v2) (g : wp_1_accepts_2 v0 v1 C postx k2x v2) : (∃ (r0 : Int), post r0 ∧ postx r0) ∨ (∃ (r0 : Int), k2 r0 ∧ k2x r0) := by
  unfold wp_1_accepts_2 at h g
  rcases jIf2 h g with ⟨h, g⟩ | ⟨h, g⟩
  · rcases jIf2 h g with ⟨h, g⟩ | ⟨h, g⟩
    · exact Or.inl ⟨_, h, g⟩
    · exact Or.inl ⟨_, h, g⟩
  · rcases jIf2 h g with ⟨h, g⟩ | ⟨h, g⟩
    · rcases jIf2 h g with ⟨h, g⟩ | ⟨h, g⟩
      · exact Or.inl ⟨_, h, g⟩
      · exact Or.inl ⟨_, h, g⟩
    · replace h := h.2
      replace g := g.2
      rcases jIf2 h g with ⟨h, g⟩ | ⟨h, g⟩
      · obtain ⟨_, h, g⟩ := cj_1_isAs h g
        rcases jIf2 h g with ⟨h, g⟩ | ⟨h, g⟩
        · exact Or.inr ⟨_, h, g⟩
        · exact Or.inl ⟨_, h, g⟩
      · obtain ⟨_, h, g⟩ := cj_1_isAs h g
        rcases jIf2 h g with ⟨h, g⟩ | ⟨h, g⟩
        · exact Or.inr ⟨_, h, g⟩
        · exact Or.inl ⟨_, h, g⟩
theorem cj_1_accepts {v0 : Int} {v1 : Int} {C : jC} {post : Int → Prop} {postx : Int → Prop} (h : wp_1_accepts v0 v1 C post) (g : wp_1_accepts v0 v1 C postx) : ∃ (r0 : Int), post r0 ∧ postx r0 := by
  unfold wp_1_accepts at h g
  exact jL1_cj h g (fun K K2 a h g => cj_1_accepts_2 h g)
theorem cj_2_firstUnlike_2 {v0 : Int} {v1 : Int} {v2 : Int} {C : jC} {post : Int → Prop} {k2 : Int → Prop} {v3 : Int} {postx : Int → Prop} {k2x : Int → Prop} (h : wp_2_firstUnlike_2 v0 v1 v2 C post k2 v3) (g : wp_2_firstUnlike_2 v0 v1 v2 C postx k2x v3) : (∃ (r0 : Int), post r0 ∧ postx r0) ∨ (∃ (r0 : Int), k2 r0 ∧ k2x r0) := by
  unfold wp_2_firstUnlike_2 at h g
  rcases jIf2 h g with ⟨h, g⟩ | ⟨h, g⟩
  · exact Or.inl ⟨_, h, g⟩
  · replace h := h.2
    replace g := g.2
    obtain ⟨_, h, g⟩ := cj_7_valueAt h g
    obtain ⟨_, h, g⟩ := cj_1_accepts h g
    rcases jIf2 h g with ⟨h, g⟩ | ⟨h, g⟩
    · exact Or.inl ⟨_, h, g⟩
    · exact Or.inr ⟨_, h, g⟩
theorem cj_2_firstUnlike {v0 : Int} {v1 : Int} {v2 : Int} {C : jC} {post : Int → Prop} {postx : Int → Prop} (h : wp_2_firstUnlike v0 v1 v2 C post) (g : wp_2_firstUnlike v0 v1 v2 C postx) : ∃ (r0 : Int), post r0 ∧ postx r0 := by
  unfold wp_2_firstUnlike at h g
  exact jL1_cj h g (fun K K2 a h g => cj_2_firstUnlike_2 h g)
theorem cj_12_columns {C : jC} {post : Int → Prop} {postx : Int → Prop} (h : wp_12_columns C post) (g : wp_12_columns C postx) : ∃ (r0 : Int), post r0 ∧ postx r0 := by
  unfold wp_12_columns at h g
  exact ⟨_, h, g⟩
theorem cj_12_viewAt {v0 : Int} {v1 : Int} {C : jC} {post : Int → Prop} {postx : Int → Prop} (h : wp_12_viewAt v0 v1 C post) (g : wp_12_viewAt v0 v1 C postx) : ∃ (r0 : Int), post r0 ∧ postx r0 := by
  unfold wp_12_viewAt at h g
  replace h := h.2
  replace g := g.2
  exact ⟨_, h, g⟩
theorem cj_12_filterAt {v0 : Int} {v1 : Int} {C : jC} {post : Int → Prop} {postx : Int → Prop} (h : wp_12_filterAt v0 v1 C post) (g : wp_12_filterAt v0 v1 C postx) : ∃ (r0 : Int), post r0 ∧ postx r0 := by
  unfold wp_12_filterAt at h g
  replace h := h.2
  replace g := g.2
  obtain ⟨_, h, g⟩ := cj_12_viewAt h g
  exact ⟨_, h, g⟩
theorem cj_12_rowOf_11 {v1 : Int} {C : jC} {post : Int → Prop} {k11 : Int → Prop} {v2 : Int} {postx : Int → Prop} {k11x : Int → Prop} (h : wp_12_rowOf_11 v1 C post k11 v2) (g : wp_12_rowOf_11 v1 C postx k11x v2) : (∃ (r0 : Int), post r0 ∧ postx r0) ∨ (∃ (r0 : Int), k11 r0 ∧ k11x r0) := by
  unfold wp_12_rowOf_11 at h g
  rcases jIf2 h g with ⟨h, g⟩ | ⟨h, g⟩
  · rcases jIf2 h g with ⟨h, g⟩ | ⟨h, g⟩
    · exact Or.inl ⟨_, h, g⟩
    · replace h := h.2
      replace g := g.2
      exact Or.inl ⟨_, h, g⟩
  · replace h := h.2
    replace g := g.2
    rcases jIf2 h g with ⟨h, g⟩ | ⟨h, g⟩
    · rcases jIf2 h g with ⟨h, g⟩ | ⟨h, g⟩
      · exact Or.inl ⟨_, h, g⟩
      · exact Or.inl ⟨_, h, g⟩
    · exact Or.inr ⟨_, h, g⟩
theorem cj_12_rowOf {v1 : Int} {C : jC} {post : Int → Prop} {postx : Int → Prop} (h : wp_12_rowOf v1 C post) (g : wp_12_rowOf v1 C postx) : ∃ (r0 : Int), post r0 ∧ postx r0 := by
  unfold wp_12_rowOf at h g
  rcases jIf2 h g with ⟨h, g⟩ | ⟨h, g⟩
  · exact jL1_cj h g (fun K K2 a h g => cj_12_rowOf_11 h g)
  · exact jL1_cj h g (fun K K2 a h g => cj_12_rowOf_11 h g)
theorem cj_12_cellOf {v1 : Int} {v2 : Int} {C : jC} {post : Int → Prop} {postx : Int → Prop} (h : wp_12_cellOf v1 v2 C post) (g : wp_12_cellOf v1 v2 C postx) : ∃ (r0 : Int), post r0 ∧ postx r0 := by
  unfold wp_12_cellOf at h g
  obtain ⟨_, h, g⟩ := cj_12_rowOf h g
  replace h := h.2
  replace g := g.2
  replace h := h.2
  replace g := g.2
  exact ⟨_, h, g⟩
theorem cj_12_testAt {v0 : Int} {v1 : Int} {v2 : Int} {C : jC} {post : Int → Prop} {postx : Int → Prop} (h : wp_12_testAt v0 v1 v2 C post) (g : wp_12_testAt v0 v1 v2 C postx) : ∃ (r0 : Int), post r0 ∧ postx r0 := by
  unfold wp_12_testAt at h g
  obtain ⟨_, h, g⟩ := cj_12_filterAt h g
  replace h := h.2
  replace g := g.2
  exact ⟨_, h, g⟩
theorem cj_12_isAsTest_75 {s0 : Int} {v2 : Int} {C : jC} {post : Int → Prop} {postx : Int → Prop} (h : wp_12_isAsTest_75 s0 v2 C post) (g : wp_12_isAsTest_75 s0 v2 C postx) : ∃ (r0 : Int), post r0 ∧ postx r0 := by
  unfold wp_12_isAsTest_75 at h g
  replace h := h.2
  replace g := g.2
  replace h := h.2
  replace g := g.2
  rcases jIf2 h g with ⟨h, g⟩ | ⟨h, g⟩
  · rcases jIf2 h g with ⟨h, g⟩ | ⟨h, g⟩
    · exact ⟨_, h, g⟩
    · exact ⟨_, h, g⟩
  · rcases jIf2 h g with ⟨h, g⟩ | ⟨h, g⟩
    · exact ⟨_, h, g⟩
    · exact ⟨_, h, g⟩
theorem cj_12_in {v0 : Int} {v1 : Int} {v2 : Int} {C : jC} {post : Int → Prop} {postx : Int → Prop} (h : wp_12_in v0 v1 v2 C post) (g : wp_12_in v0 v1 v2 C postx) : ∃ (r0 : Int), post r0 ∧ postx r0 := by
  unfold wp_12_in at h g
  rcases jIf2 h g with ⟨h, g⟩ | ⟨h, g⟩
  · exact ⟨_, h, g⟩
  · rcases jIf2 h g with ⟨h, g⟩ | ⟨h, g⟩
    · exact ⟨_, h, g⟩
    · exact ⟨_, h, g⟩
theorem cj_12_isPattern_70 {s0 : Int} {s1 : Int} {v2 : Int} {v3 : Int} {v4 : Int} {v5 : Int} {v6 : Int} {v8 : Int} {v9 : Int} {C : jC} {post : Int → Prop} {k39 : Int → Int → Int → Int → Int → Prop} {postx : Int → Prop} {k39x : Int → Int → Int → Int → Int → Prop} (h : wp_12_isPattern_70 s0 s1 v2 v3 v4 v5 v6 v8 v9 C post k39) (g : wp_12_isPattern_70 s0 s1 v2 v3 v4 v5 v6 v8 v9 C postx k39x) : (∃ (r0 : Int), post r0 ∧ postx r0) ∨ (∃ (r0 : Int) (r1 : Int) (r2 : Int) (r3 : Int) (r4 : Int), k39 r0 r1 r2 r3 r4 ∧ k39x r0 r1 r2 r3 r4) := by
  unfold wp_12_isPattern_70 at h g
  rcases jIf2 h g with ⟨h, g⟩ | ⟨h, g⟩
  · rcases jIf2 h g with ⟨h, g⟩ | ⟨h, g⟩
    · replace h := h.2
      replace g := g.2
      replace h := h.2
      replace g := g.2
      exact Or.inr ⟨_, _, _, _, _, h, g⟩
    · rcases jIf2 h g with ⟨h, g⟩ | ⟨h, g⟩
      · replace h := h.2
        replace g := g.2
        replace h := h.2
        replace g := g.2
        exact Or.inr ⟨_, _, _, _, _, h, g⟩
      · rcases jIf2 h g with ⟨h, g⟩ | ⟨h, g⟩
        · replace h := h.2
          replace g := g.2
          replace h := h.2
          replace g := g.2
          exact Or.inr ⟨_, _, _, _, _, h, g⟩
        · rcases jIf2 h g with ⟨h, g⟩ | ⟨h, g⟩
          · replace h := h.2
            replace g := g.2
            replace h := h.2
            replace g := g.2
            exact Or.inr ⟨_, _, _, _, _, h, g⟩
          · replace h := h.2
            replace g := g.2
            replace h := h.2
            replace g := g.2
            exact Or.inr ⟨_, _, _, _, _, h, g⟩
  · replace h := h.2
    replace g := g.2
    replace h := h.2
    replace g := g.2
    exact Or.inr ⟨_, _, _, _, _, h, g⟩
theorem cj_12_isPattern_39 {v2 : Int} {v3 : Int} {C : jC} {post : Int → Prop} {k39 : Int → Int → Int → Int → Int → Prop} {v4 : Int} {v5 : Int} {v6 : Int} {v7 : Int} {v8 : Int} {postx : Int → Prop} {k39x : Int → Int → Int → Int → Int → Prop} (h : wp_12_isPattern_39 v2 v3 C post k39 v4 v5 v6 v7 v8) (g : wp_12_isPattern_39 v2 v3 C postx k39x v4 v5 v6 v7 v8) : (∃ (r0 : Int), post r0 ∧ postx r0) ∨ (∃ (r0 : Int) (r1 : Int) (r2 : Int) (r3 : Int) (r4 : Int), k39 r0 r1 r2 r3 r4 ∧ k39x r0 r1 r2 r3 r4) := by
  unfold wp_12_isPattern_39 at h g
  rcases jIf2 h g with ⟨h, g⟩ | ⟨h, g⟩
  · rcases jIf2 h g with ⟨h, g⟩ | ⟨h, g⟩
    · exact Or.inl ⟨_, h, g⟩
    · rcases jIf2 h g with ⟨h, g⟩ | ⟨h, g⟩
      · exact Or.inl ⟨_, h, g⟩
      · replace h := h.2
        replace g := g.2
        replace h := h.2
        replace g := g.2
        rcases jIf2 h g with ⟨h, g⟩ | ⟨h, g⟩
        · exact Or.inl ⟨_, h, g⟩
        · exact Or.inl ⟨_, h, g⟩
  · rcases jIf2 h g with ⟨h, g⟩ | ⟨h, g⟩
    · exact cj_12_isPattern_70 h g
    · exact cj_12_isPattern_70 h g
theorem cj_12_isPattern {v1 : Int} {v2 : Int} {C : jC} {post : Int → Prop} {postx : Int → Prop} (h : wp_12_isPattern v1 v2 C post) (g : wp_12_isPattern v1 v2 C postx) : ∃ (r0 : Int), post r0 ∧ postx r0 := by
  unfold wp_12_isPattern at h g
  rcases jIf2 h g with ⟨h, g⟩ | ⟨h, g⟩
  · exact ⟨_, h, g⟩
  · replace h := h.2
    replace g := g.2
    replace h := h.2
    replace g := g.2
    replace h := h.2
    replace g := g.2
    replace h := h.2
    replace g := g.2
    exact jL5_cj h g (fun K K2 a b c d e h g => cj_12_isPattern_39 h g)
theorem cj_12_isAsTest {v1 : Int} {v2 : Int} {C : jC} {post : Int → Prop} {postx : Int → Prop} (h : wp_12_isAsTest v1 v2 C post) (g : wp_12_isAsTest v1 v2 C postx) : ∃ (r0 : Int), post r0 ∧ postx r0 := by
  unfold wp_12_isAsTest at h g
  replace h := h.2
  replace g := g.2
  replace h := h.2
  replace g := g.2
  rcases jIf2 h g with ⟨h, g⟩ | ⟨h, g⟩
  · rcases jIf2 h g with ⟨h, g⟩ | ⟨h, g⟩
    · exact cj_12_isAsTest_75 h g
    · exact cj_12_isAsTest_75 h g
  · rcases jIf2 h g with ⟨h, g⟩ | ⟨h, g⟩
    · rcases jIf2 h g with ⟨h, g⟩ | ⟨h, g⟩
      · exact cj_12_isAsTest_75 h g
      · replace h := h.2
        replace g := g.2
        replace h := h.2
        replace g := g.2
        replace h := h.2
        replace g := g.2
        replace h := h.2
        replace g := g.2
        obtain ⟨_, h, g⟩ := cj_12_in h g
        rcases jIf2 h g with ⟨h, g⟩ | ⟨h, g⟩
        · exact cj_12_isAsTest_75 h g
        · exact cj_12_isAsTest_75 h g
    · obtain ⟨_, h, g⟩ := cj_12_isPattern h g
      exact cj_12_isAsTest_75 h g
theorem cj_12_isAsFilter_27 {v1 : Int} {v2 : Int} {v3 : Int} {v4 : Int} {C : jC} {post : Int → Prop} {k27 : Int → Int → Prop} {v5 : Int} {v6 : Int} {postx : Int → Prop} {k27x : Int → Int → Prop} (h : wp_12_isAsFilter_27 v1 v2 v3 v4 C post k27 v5 v6) (g : wp_12_isAsFilter_27 v1 v2 v3 v4 C postx k27x v5 v6) : (∃ (r0 : Int), post r0 ∧ postx r0) ∨ (∃ (r0 : Int) (r1 : Int), k27 r0 r1 ∧ k27x r0 r1) := by
  unfold wp_12_isAsFilter_27 at h g
  rcases jIf2 h g with ⟨h, g⟩ | ⟨h, g⟩
  · replace h := h.2
    replace g := g.2
    exact Or.inl ⟨_, h, g⟩
  · rcases jIf2 h g with ⟨h, g⟩ | ⟨h, g⟩
    · obtain ⟨_, h, g⟩ := cj_12_cellOf h g
      obtain ⟨_, h, g⟩ := cj_12_testAt h g
      obtain ⟨_, h, g⟩ := cj_12_isAsTest h g
      exact Or.inr ⟨_, _, h, g⟩
    · replace h := h.2
      replace g := g.2
      exact Or.inl ⟨_, h, g⟩
theorem cj_12_isAsFilter {v1 : Int} {v2 : Int} {v3 : Int} {C : jC} {post : Int → Prop} {postx : Int → Prop} (h : wp_12_isAsFilter v1 v2 v3 C post) (g : wp_12_isAsFilter v1 v2 v3 C postx) : ∃ (r0 : Int), post r0 ∧ postx r0 := by
  unfold wp_12_isAsFilter at h g
  obtain ⟨_, h, g⟩ := cj_12_filterAt h g
  replace h := h.2
  replace g := g.2
  replace h := h.2
  replace g := g.2
  rcases jIf2 h g with ⟨h, g⟩ | ⟨h, g⟩
  · exact jL2_cj h g (fun K K2 a b h g => cj_12_isAsFilter_27 h g)
  · exact jL2_cj h g (fun K K2 a b h g => cj_12_isAsFilter_27 h g)
theorem cj_12_whyNot_2 {v1 : Int} {v2 : Int} {C : jC} {post : Int → Prop} {k2 : Int → Prop} {v3 : Int} {postx : Int → Prop} {k2x : Int → Prop} (h : wp_12_whyNot_2 v1 v2 C post k2 v3) (g : wp_12_whyNot_2 v1 v2 C postx k2x v3) : (∃ (r0 : Int), post r0 ∧ postx r0) ∨ (∃ (r0 : Int), k2 r0 ∧ k2x r0) := by
  unfold wp_12_whyNot_2 at h g
  obtain ⟨_, h, g⟩ := cj_12_columns h g
  rcases jIf2 h g with ⟨h, g⟩ | ⟨h, g⟩
  · obtain ⟨_, h, g⟩ := cj_12_columns h g
    rcases jIf2 h g with ⟨h, g⟩ | ⟨h, g⟩
    · exact Or.inl ⟨_, h, g⟩
    · exact Or.inl ⟨_, h, g⟩
  · obtain ⟨_, h, g⟩ := cj_12_isAsFilter h g
    rcases jIf2 h g with ⟨h, g⟩ | ⟨h, g⟩
    · obtain ⟨_, h, g⟩ := cj_12_columns h g
      rcases jIf2 h g with ⟨h, g⟩ | ⟨h, g⟩
      · exact Or.inl ⟨_, h, g⟩
      · exact Or.inl ⟨_, h, g⟩
    · exact Or.inr ⟨_, h, g⟩
theorem cj_12_whyNot {v1 : Int} {v2 : Int} {C : jC} {post : Int → Prop} {postx : Int → Prop} (h : wp_12_whyNot v1 v2 C post) (g : wp_12_whyNot v1 v2 C postx) : ∃ (r0 : Int), post r0 ∧ postx r0 := by
  unfold wp_12_whyNot at h g
  exact jL1_cj h g (fun K K2 a h g => cj_12_whyNot_2 h g)
theorem cj_12_isFit {v1 : Int} {v2 : Int} {C : jC} {post : Int → Prop} {postx : Int → Prop} (h : wp_12_isFit v1 v2 C post) (g : wp_12_isFit v1 v2 C postx) : ∃ (r0 : Int), post r0 ∧ postx r0 := by
  unfold wp_12_isFit at h g
  obtain ⟨_, h, g⟩ := cj_12_whyNot h g
  rcases jIf2 h g with ⟨h, g⟩ | ⟨h, g⟩
  · exact ⟨_, h, g⟩
  · exact ⟨_, h, g⟩

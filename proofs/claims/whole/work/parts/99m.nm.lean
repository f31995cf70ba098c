-- no wonder: what a part of the model is proved to do, it does
theorem jIf {c : Prop} [Decidable c] {A B : Prop} (h : if c then A else B) : A ∨ B := by
  by_cases q : c
  · rw [if_pos q] at h; exact Or.inl h
  · rw [if_neg q] at h; exact Or.inr h
theorem jL1_nm {α1 : Type} {b : (α1 → Prop) → α1 → Prop} {P : Prop} (hb : ∀ K y, b K y → P ∨ ∃ y', K y') {x : α1} (h : jL1 b x) : P := by
  obtain ⟨k, h⟩ := h
  induction k generalizing x with
  | zero => exact h.elim
  | succ n ih =>
    rcases hb _ _ h with q | ⟨y, q⟩
    · exact q
    · exact ih q
theorem jL2_nm {α1 α2 : Type} {b : (α1 → α2 → Prop) → α1 → α2 → Prop} {P : Prop} (hb : ∀ K y z, b K y z → P ∨ ∃ y' z', K y' z') {x : α1} {x2 : α2} (h : jL2 b x x2) : P := by
  obtain ⟨k, h⟩ := h
  induction k generalizing x x2 with
  | zero => exact h.elim
  | succ n ih =>
    rcases hb _ _ _ h with q | ⟨y, z, q⟩
    · exact q
    · exact ih q
theorem jL3_nm {α1 α2 α3 : Type} {b : (α1 → α2 → α3 → Prop) → α1 → α2 → α3 → Prop} {P : Prop} (hb : ∀ K y z u, b K y z u → P ∨ ∃ y' z' u', K y' z' u') {x : α1} {x2 : α2} {x3 : α3} (h : jL3 b x x2 x3) : P := by
  obtain ⟨k, h⟩ := h
  induction k generalizing x x2 x3 with
  | zero => exact h.elim
  | succ n ih =>
    rcases hb _ _ _ _ h with q | ⟨y, z, u, q⟩
    · exact q
    · exact ih q
theorem nm_12_isAt {v1 : Int} {v2 : Int} {C : jC} {post : Int → Prop} (h : wp_12_isAt v1 v2 C post) : ∃ (r0 : Int), post r0 := by
  unfold wp_12_isAt at h
  rcases jIf h with h | h
  · exact ⟨_, h⟩
  · replace h := h.2
    replace h := h.2
    rcases jIf h with h | h
    · exact ⟨_, h⟩
    · rcases jIf h with h | h
      · exact ⟨_, h⟩
      · exact ⟨_, h⟩
theorem nm_12_blanks_0 {post : jC → Prop} {k0 : jC → Prop} {C : jC} (h : wp_12_blanks_0 post k0 C) : (∃ (r0 : jC), post r0) ∨ (∃ (r0 : jC), k0 r0) := by
  unfold wp_12_blanks_0 at h
  obtain ⟨_, h⟩ := nm_12_isAt h
  rcases jIf h with h | h
  · exact Or.inl ⟨_, h⟩
  · replace h := h.2
    exact Or.inr ⟨_, h⟩
theorem nm_12_blanks {C : jC} {post : jC → Prop} (h : wp_12_blanks C post) : ∃ (r0 : jC), post r0 := by
  unfold wp_12_blanks at h
  exact jL1_nm (fun K a h => nm_12_blanks_0 h) h
theorem nm_12_letters_4 {post : jC → Prop} {k4 : jC → Prop} {C : jC} (h : wp_12_letters_4 post k4 C) : (∃ (r0 : jC), post r0) ∨ (∃ (r0 : jC), k4 r0) := by
  unfold wp_12_letters_4 at h
  obtain ⟨_, h⟩ := nm_12_isAt h
  rcases jIf h with h | h
  · exact Or.inl ⟨_, h⟩
  · replace h := h.2
    exact Or.inr ⟨_, h⟩
theorem nm_12_letters {C : jC} {post : jC → Prop} (h : wp_12_letters C post) : ∃ (r0 : jC), post r0 := by
  unfold wp_12_letters at h
  obtain ⟨_, h⟩ := nm_12_blanks h
  exact jL1_nm (fun K a h => nm_12_letters_4 h) h
theorem nm_12_isWord_24 {v1 : Nat} {C : jC} {post : Int → Prop} {k24 : Int → Int → Prop} {v2 : Int} {v3 : Int} (h : wp_12_isWord_24 v1 C post k24 v2 v3) : (∃ (r0 : Int), post r0) ∨ (∃ (r0 : Int) (r1 : Int), k24 r0 r1) := by
  unfold wp_12_isWord_24 at h
  rcases jIf h with h | h
  · replace h := h.2
    exact Or.inl ⟨_, h⟩
  · rcases jIf h with h | h
    · replace h := h.2
      exact Or.inl ⟨_, h⟩
    · replace h := h.2
      replace h := h.2
      replace h := h.2
      replace h := h.2
      rcases jIf h with h | h
      · exact Or.inr ⟨_, _, h⟩
      · exact Or.inr ⟨_, _, h⟩
theorem nm_12_isWord {v1 : Nat} {C : jC} {post : Int → Prop} (h : wp_12_isWord v1 C post) : ∃ (r0 : Int), post r0 := by
  unfold wp_12_isWord at h
  replace h := h.2
  rcases jIf h with h | h
  · exact jL2_nm (fun K a b h => nm_12_isWord_24 h) h
  · exact jL2_nm (fun K a b h => nm_12_isWord_24 h) h
theorem nm_12_passes {v1 : Nat} {C : jC} {post : Int → jC → Prop} (h : wp_12_passes v1 C post) : ∃ (r0 : Int) (r1 : jC), post r0 r1 := by
  unfold wp_12_passes at h
  obtain ⟨_, h⟩ := nm_12_letters h
  obtain ⟨_, h⟩ := nm_12_isWord h
  rcases jIf h with h | h
  · exact ⟨_, _, h⟩
  · exact ⟨_, _, h⟩
theorem nm_12_columns {C : jC} {post : Int → Prop} (h : wp_12_columns C post) : ∃ (r0 : Int), post r0 := by
  unfold wp_12_columns at h
  exact ⟨_, h⟩
theorem nm_12_in {v0 : Int} {v1 : Int} {v2 : Int} {C : jC} {post : Int → Prop} (h : wp_12_in v0 v1 v2 C post) : ∃ (r0 : Int), post r0 := by
  unfold wp_12_in at h
  rcases jIf h with h | h
  · exact ⟨_, h⟩
  · rcases jIf h with h | h
    · exact ⟨_, h⟩
    · exact ⟨_, h⟩
theorem nm_12_figures_9 {v1 : Int} {v2 : Int} {v3 : Int} {v4 : Int} {post : Int → jC → Prop} {k9 : Int → jC → Prop} {v5 : Int} {C : jC} (h : wp_12_figures_9 v1 v2 v3 v4 post k9 v5 C) : (∃ (r0 : Int) (r1 : jC), post r0 r1) ∨ (∃ (r0 : Int) (r1 : jC), k9 r0 r1) := by
  unfold wp_12_figures_9 at h
  obtain ⟨_, h⟩ := nm_12_isAt h
  rcases jIf h with h | h
  · replace h := h.2
    replace h := h.2
    obtain ⟨_, h⟩ := nm_12_in h
    rcases jIf h with h | h
    · exact Or.inl ⟨_, _, h⟩
    · obtain ⟨_, h⟩ := nm_12_in h
      rcases jIf h with h | h
      · exact Or.inl ⟨_, _, h⟩
      · exact Or.inl ⟨_, _, h⟩
  · replace h := h.2
    rcases jIf h with h | h
    · replace h := h.2
      exact Or.inr ⟨_, _, h⟩
    · replace h := h.2
      replace h := h.2
      replace h := h.2
      exact Or.inr ⟨_, _, h⟩
theorem nm_12_figures {v1 : Int} {v2 : Int} {v3 : Int} {C : jC} {post : Int → jC → Prop} (h : wp_12_figures v1 v2 v3 C post) : ∃ (r0 : Int) (r1 : jC), post r0 r1 := by
  unfold wp_12_figures at h
  exact jL2_nm (fun K a b h => nm_12_figures_9 h) h
theorem nm_12_number {v1 : Int} {v2 : Int} {C : jC} {post : Int → jC → Prop} (h : wp_12_number v1 v2 C post) : ∃ (r0 : Int) (r1 : jC), post r0 r1 := by
  unfold wp_12_number at h
  obtain ⟨_, h⟩ := nm_12_blanks h
  obtain ⟨_, _, h⟩ := nm_12_figures h
  replace h := h.2
  exact ⟨_, _, h⟩
theorem nm_12_viewAt {v0 : Int} {v1 : Int} {C : jC} {post : Int → Prop} (h : wp_12_viewAt v0 v1 C post) : ∃ (r0 : Int), post r0 := by
  unfold wp_12_viewAt at h
  replace h := h.2
  exact ⟨_, h⟩
theorem nm_12_filterAt {v0 : Int} {v1 : Int} {C : jC} {post : Int → Prop} (h : wp_12_filterAt v0 v1 C post) : ∃ (r0 : Int), post r0 := by
  unfold wp_12_filterAt at h
  replace h := h.2
  obtain ⟨_, h⟩ := nm_12_viewAt h
  exact ⟨_, h⟩
theorem nm_12_sign {v1 : Int} {C : jC} {post : Int → jC → Prop} (h : wp_12_sign v1 C post) : ∃ (r0 : Int) (r1 : jC), post r0 r1 := by
  unfold wp_12_sign at h
  obtain ⟨_, h⟩ := nm_12_blanks h
  obtain ⟨_, h⟩ := nm_12_isAt h
  rcases jIf h with h | h
  · exact ⟨_, _, h⟩
  · replace h := h.2
    exact ⟨_, _, h⟩
theorem nm_12_testAt {v0 : Int} {v1 : Int} {v2 : Int} {C : jC} {post : Int → Prop} (h : wp_12_testAt v0 v1 v2 C post) : ∃ (r0 : Int), post r0 := by
  unfold wp_12_testAt at h
  obtain ⟨_, h⟩ := nm_12_filterAt h
  replace h := h.2
  exact ⟨_, h⟩
theorem nm_12_isWords {v1 : Int} {C : jC} {post : Int → Prop} (h : wp_12_isWords v1 C post) : ∃ (r0 : Int), post r0 := by
  unfold wp_12_isWords at h
  replace h := h.2
  replace h := h.2
  rcases jIf h with h | h
  · exact ⟨_, h⟩
  · exact ⟨_, h⟩
theorem nm_12_signed_54 {v1 : Int} {v2 : Int} {C : jC} {post : Int → jC → Prop} (h : wp_12_signed_54 v1 v2 C post) : ∃ (r0 : Int) (r1 : jC), post r0 r1 := by
  unfold wp_12_signed_54 at h
  rcases jIf h with h | h
  · obtain ⟨_, _, h⟩ := nm_12_figures h
    replace h := h.2
    exact ⟨_, _, h⟩
  · obtain ⟨_, _, h⟩ := nm_12_figures h
    replace h := h.2
    exact ⟨_, _, h⟩
theorem nm_12_signed_27 {s0 : Int} {s1 : Int} {v1 : Int} {v2 : Int} {C : jC} {post : Int → jC → Prop} (h : wp_12_signed_27 s0 s1 v1 v2 C post) : ∃ (r0 : Int) (r1 : jC), post r0 r1 := by
  unfold wp_12_signed_27 at h
  replace h := h.2
  rcases jIf h with h | h
  · exact nm_12_signed_54 h
  · obtain ⟨_, h⟩ := nm_12_isAt h
    rcases jIf h with h | h
    · exact nm_12_signed_54 h
    · exact nm_12_signed_54 h
theorem nm_12_signed {v1 : Int} {C : jC} {post : Int → jC → Prop} (h : wp_12_signed v1 C post) : ∃ (r0 : Int) (r1 : jC), post r0 r1 := by
  unfold wp_12_signed at h
  obtain ⟨_, h⟩ := nm_12_blanks h
  obtain ⟨_, h⟩ := nm_12_isAt h
  rcases jIf h with h | h
  · exact nm_12_signed_27 h
  · exact nm_12_signed_27 h
theorem nm_12_isAWord_63 {C : jC} {post : Int → Prop} (h : wp_12_isAWord_63 C post) : ∃ (r0 : Int), post r0 := by
  unfold wp_12_isAWord_63 at h
  exact ⟨_, h⟩
theorem nm_12_isAWord {C : jC} {post : Int → Prop} (h : wp_12_isAWord C post) : ∃ (r0 : Int), post r0 := by
  unfold wp_12_isAWord at h
  obtain ⟨_, h⟩ := nm_12_isWord h
  rcases jIf h with h | h
  · obtain ⟨_, h⟩ := nm_12_isWord h
    rcases jIf h with h | h
    · obtain ⟨_, h⟩ := nm_12_isWord h
      rcases jIf h with h | h
      · obtain ⟨_, h⟩ := nm_12_isWord h
        rcases jIf h with h | h
        · obtain ⟨_, h⟩ := nm_12_isWord h
          rcases jIf h with h | h
          · obtain ⟨_, h⟩ := nm_12_isWord h
            rcases jIf h with h | h
            · obtain ⟨_, h⟩ := nm_12_isWord h
              rcases jIf h with h | h
              · exact ⟨_, h⟩
              · exact nm_12_isAWord_63 h
            · exact nm_12_isAWord_63 h
          · exact nm_12_isAWord_63 h
        · exact nm_12_isAWord_63 h
      · exact nm_12_isAWord_63 h
    · exact nm_12_isAWord_63 h
  · exact nm_12_isAWord_63 h
theorem nm_12_readPattern_177 {s0 : Int} {s1 : Int} {s2 : Int} {v2 : Int} {v4 : Int} {C : jC} {post : Int → jC → Prop} (h : wp_12_readPattern_177 s0 s1 s2 v2 v4 C post) : ∃ (r0 : Int) (r1 : jC), post r0 r1 := by
  unfold wp_12_readPattern_177 at h
  replace h := h.2
  replace h := h.2
  rcases jIf h with h | h
  · exact ⟨_, _, h⟩
  · rcases jIf h with h | h
    · exact ⟨_, _, h⟩
    · rcases jIf h with h | h
      · exact ⟨_, _, h⟩
      · exact ⟨_, _, h⟩
theorem nm_12_readPattern_129 {s0 : Int} {s1 : Int} {v1 : Int} {v2 : Int} {v3 : Int} {v4 : Int} {C : jC} {post : Int → jC → Prop} (h : wp_12_readPattern_129 s0 s1 v1 v2 v3 v4 C post) : ∃ (r0 : Int) (r1 : jC), post r0 r1 := by
  unfold wp_12_readPattern_129 at h
  replace h := h.2
  replace h := h.2
  replace h := h.2
  replace h := h.2
  replace h := h.2
  replace h := h.2
  replace h := h.2
  rcases jIf h with h | h
  · replace h := h.2
    exact nm_12_readPattern_177 h
  · replace h := h.2
    exact nm_12_readPattern_177 h
theorem nm_12_readPattern_47 {v1 : Int} {v2 : Int} {v3 : Int} {C : jC} {post : Int → jC → Prop} {k25 : Int → Int → jC → Prop} (h : wp_12_readPattern_47 v1 v2 v3 C post k25) : (∃ (r0 : Int) (r1 : jC), post r0 r1) ∨ (∃ (r0 : Int) (r1 : Int) (r2 : jC), k25 r0 r1 r2) := by
  unfold wp_12_readPattern_47 at h
  rcases jIf h with h | h
  · replace h := h.2
    replace h := h.2
    exact Or.inr ⟨_, _, _, h⟩
  · obtain ⟨_, h⟩ := nm_12_isAt h
    rcases jIf h with h | h
    · replace h := h.2
      replace h := h.2
      replace h := h.2
      exact Or.inr ⟨_, _, _, h⟩
    · replace h := h.2
      replace h := h.2
      exact Or.inr ⟨_, _, _, h⟩
theorem nm_12_readPattern_25 {v1 : Int} {post : Int → jC → Prop} {k25 : Int → Int → jC → Prop} {v2 : Int} {v3 : Int} {C : jC} (h : wp_12_readPattern_25 v1 post k25 v2 v3 C) : (∃ (r0 : Int) (r1 : jC), post r0 r1) ∨ (∃ (r0 : Int) (r1 : Int) (r2 : jC), k25 r0 r1 r2) := by
  unfold wp_12_readPattern_25 at h
  obtain ⟨_, h⟩ := nm_12_isAt h
  rcases jIf h with h | h
  · obtain ⟨_, h⟩ := nm_12_isAt h
    rcases jIf h with h | h
    · obtain ⟨_, h⟩ := nm_12_isAt h
      rcases jIf h with h | h
      · exact Or.inl (nm_12_readPattern_129 h)
      · exact Or.inl (nm_12_readPattern_129 h)
    · exact nm_12_readPattern_47 h
  · exact nm_12_readPattern_47 h
theorem nm_12_readPattern {v1 : Int} {C : jC} {post : Int → jC → Prop} (h : wp_12_readPattern v1 C post) : ∃ (r0 : Int) (r1 : jC), post r0 r1 := by
  unfold wp_12_readPattern at h
  obtain ⟨_, h⟩ := nm_12_letters h
  obtain ⟨_, h⟩ := nm_12_isAWord h
  rcases jIf h with h | h
  · exact jL3_nm (fun K a b c h => nm_12_readPattern_25 h) h
  · exact ⟨_, _, h⟩
theorem nm_12_readTest_2 {v1 : Int} {v2 : Int} {post : Int → jC → Prop} {k2 : Int → jC → Prop} {v3 : Int} {C : jC} (h : wp_12_readTest_2 v1 v2 post k2 v3 C) : (∃ (r0 : Int) (r1 : jC), post r0 r1) ∨ (∃ (r0 : Int) (r1 : jC), k2 r0 r1) := by
  unfold wp_12_readTest_2 at h
  obtain ⟨_, _, h⟩ := nm_12_passes h
  rcases jIf h with h | h
  · replace h := h.2
    replace h := h.2
    replace h := h.2
    replace h := h.2
    obtain ⟨_, _, h⟩ := nm_12_passes h
    rcases jIf h with h | h
    · obtain ⟨_, h⟩ := nm_12_isWords h
      rcases jIf h with h | h
      · obtain ⟨_, _, h⟩ := nm_12_signed h
        rcases jIf h with h | h
        · exact Or.inl ⟨_, _, h⟩
        · replace h := h.2
          replace h := h.2
          replace h := h.2
          replace h := h.2
          obtain ⟨_, _, h⟩ := nm_12_passes h
          rcases jIf h with h | h
          · exact Or.inl ⟨_, _, h⟩
          · obtain ⟨_, _, h⟩ := nm_12_signed h
            replace h := h.2
            exact Or.inl ⟨_, _, h⟩
      · obtain ⟨_, _, h⟩ := nm_12_readPattern h
        replace h := h.2
        exact Or.inl ⟨_, _, h⟩
    · exact Or.inl ⟨_, _, h⟩
  · rcases jIf h with h | h
    · exact Or.inl ⟨_, _, h⟩
    · replace h := h.2
      exact Or.inr ⟨_, _, h⟩
theorem nm_12_readTest {v1 : Int} {v2 : Int} {C : jC} {post : Int → jC → Prop} (h : wp_12_readTest v1 v2 C post) : ∃ (r0 : Int) (r1 : jC), post r0 r1 := by
  unfold wp_12_readTest at h
  exact jL2_nm (fun K a b h => nm_12_readTest_2 h) h
theorem nm_12_readFilter_47 {v1 : Int} {v2 : Int} {post : Int → jC → Prop} {k47 : Int → jC → Prop} {v3 : Int} {C : jC} (h : wp_12_readFilter_47 v1 v2 post k47 v3 C) : (∃ (r0 : Int) (r1 : jC), post r0 r1) ∨ (∃ (r0 : Int) (r1 : jC), k47 r0 r1) := by
  unfold wp_12_readFilter_47 at h
  obtain ⟨_, h⟩ := nm_12_blanks h
  rcases jIf h with h | h
  · exact Or.inl ⟨_, _, h⟩
  · obtain ⟨_, h⟩ := nm_12_testAt h
    obtain ⟨_, _, h⟩ := nm_12_readTest h
    rcases jIf h with h | h
    · exact Or.inl ⟨_, _, h⟩
    · obtain ⟨_, _, h⟩ := nm_12_passes h
      rcases jIf h with h | h
      · obtain ⟨_, h⟩ := nm_12_filterAt h
        replace h := h.2
        replace h := h.2
        replace h := h.2
        exact Or.inl ⟨_, _, h⟩
      · replace h := h.2
        exact Or.inr ⟨_, _, h⟩
theorem nm_12_readFilter {v1 : Int} {C : jC} {post : Int → jC → Prop} (h : wp_12_readFilter v1 C post) : ∃ (r0 : Int) (r1 : jC), post r0 r1 := by
  unfold wp_12_readFilter at h
  obtain ⟨_, h⟩ := nm_12_columns h
  replace h := h.2
  obtain ⟨_, _, h⟩ := nm_12_number h
  rcases jIf h with h | h
  · exact ⟨_, _, h⟩
  · obtain ⟨_, h⟩ := nm_12_filterAt h
    replace h := h.2
    replace h := h.2
    rcases jIf h with h | h
    · exact ⟨_, _, h⟩
    · obtain ⟨_, _, h⟩ := nm_12_sign h
      rcases jIf h with h | h
      · exact ⟨_, _, h⟩
      · exact jL2_nm (fun K a b h => nm_12_readFilter_47 h) h
theorem nm_12_has {v0 : Int} {v1 : Int} {C : jC} {post : Int → Prop} (h : wp_12_has v0 v1 C post) : ∃ (r0 : Int), post r0 := by
  unfold wp_12_has at h
  rcases jIf h with h | h
  · exact ⟨_, h⟩
  · exact ⟨_, h⟩
theorem nm_12_readHide {v1 : Int} {C : jC} {post : Int → jC → Prop} (h : wp_12_readHide v1 C post) : ∃ (r0 : Int) (r1 : jC), post r0 r1 := by
  unfold wp_12_readHide at h
  obtain ⟨_, h⟩ := nm_12_columns h
  replace h := h.2
  obtain ⟨_, _, h⟩ := nm_12_number h
  rcases jIf h with h | h
  · exact ⟨_, _, h⟩
  · obtain ⟨_, h⟩ := nm_12_viewAt h
    replace h := h.2
    replace h := h.2
    obtain ⟨_, h⟩ := nm_12_has h
    rcases jIf h with h | h
    · obtain ⟨_, h⟩ := nm_12_viewAt h
      replace h := h.2
      replace h := h.2
      exact ⟨_, _, h⟩
    · exact ⟨_, _, h⟩
theorem nm_12_readSort_36 {v1 : Int} {v2 : Int} {v3 : Int} {C : jC} {post : Int → jC → Prop} {k36 : Int → Prop} {v4 : Int} (h : wp_12_readSort_36 v1 v2 v3 C post k36 v4) : (∃ (r0 : Int) (r1 : jC), post r0 r1) ∨ (∃ (r0 : Int), k36 r0) := by
  unfold wp_12_readSort_36 at h
  rcases jIf h with h | h
  · replace h := h.2
    obtain ⟨_, h⟩ := nm_12_viewAt h
    replace h := h.2
    replace h := h.2
    replace h := h.2
    obtain ⟨_, h⟩ := nm_12_viewAt h
    replace h := h.2
    replace h := h.2
    replace h := h.2
    exact Or.inl ⟨_, _, h⟩
  · replace h := h.2
    obtain ⟨_, h⟩ := nm_12_viewAt h
    replace h := h.2
    replace h := h.2
    rcases jIf h with h | h
    · exact Or.inl ⟨_, _, h⟩
    · exact Or.inr ⟨_, h⟩
theorem nm_12_readSort {v1 : Int} {v2 : Int} {C : jC} {post : Int → jC → Prop} (h : wp_12_readSort v1 v2 C post) : ∃ (r0 : Int) (r1 : jC), post r0 r1 := by
  unfold wp_12_readSort at h
  obtain ⟨_, h⟩ := nm_12_viewAt h
  replace h := h.2
  replace h := h.2
  rcases jIf h with h | h
  · exact ⟨_, _, h⟩
  · obtain ⟨_, h⟩ := nm_12_columns h
    replace h := h.2
    obtain ⟨_, _, h⟩ := nm_12_number h
    rcases jIf h with h | h
    · exact ⟨_, _, h⟩
    · exact jL1_nm (fun K a h => nm_12_readSort_36 h) h
theorem nm_12_readPart {v1 : Int} {C : jC} {post : Int → jC → Prop} (h : wp_12_readPart v1 C post) : ∃ (r0 : Int) (r1 : jC), post r0 r1 := by
  unfold wp_12_readPart at h
  obtain ⟨_, _, h⟩ := nm_12_passes h
  rcases jIf h with h | h
  · obtain ⟨_, _, h⟩ := nm_12_passes h
    rcases jIf h with h | h
    · obtain ⟨_, _, h⟩ := nm_12_passes h
      rcases jIf h with h | h
      · obtain ⟨_, _, h⟩ := nm_12_readFilter h
        replace h := h.2
        exact ⟨_, _, h⟩
      · obtain ⟨_, _, h⟩ := nm_12_readHide h
        replace h := h.2
        exact ⟨_, _, h⟩
    · obtain ⟨_, _, h⟩ := nm_12_readSort h
      replace h := h.2
      exact ⟨_, _, h⟩
  · obtain ⟨_, _, h⟩ := nm_12_readSort h
    replace h := h.2
    exact ⟨_, _, h⟩
theorem nm_12_readView_44 {v1 : Int} {post : Int → jC → Prop} {k44 : jC → Prop} {C : jC} (h : wp_12_readView_44 v1 post k44 C) : (∃ (r0 : Int) (r1 : jC), post r0 r1) ∨ (∃ (r0 : jC), k44 r0) := by
  unfold wp_12_readView_44 at h
  obtain ⟨_, _, h⟩ := nm_12_readPart h
  rcases jIf h with h | h
  · exact Or.inl ⟨_, _, h⟩
  · obtain ⟨_, _, h⟩ := nm_12_sign h
    rcases jIf h with h | h
    · rcases jIf h with h | h
      · exact Or.inl ⟨_, _, h⟩
      · exact Or.inl ⟨_, _, h⟩
    · exact Or.inr ⟨_, h⟩
theorem nm_12_readView_3 {v1 : Int} {post : Int → jC → Prop} {k3 : Int → jC → Prop} {v2 : Int} {C : jC} (h : wp_12_readView_3 v1 post k3 v2 C) : (∃ (r0 : Int) (r1 : jC), post r0 r1) ∨ (∃ (r0 : Int) (r1 : jC), k3 r0 r1) := by
  unfold wp_12_readView_3 at h
  rcases jIf h with h | h
  · obtain ⟨_, h⟩ := nm_12_blanks h
    rcases jIf h with h | h
    · exact Or.inl ⟨_, _, h⟩
    · exact Or.inl (jL1_nm (fun K a h => nm_12_readView_44 h) h)
  · obtain ⟨_, h⟩ := nm_12_viewAt h
    replace h := h.2
    replace h := h.2
    exact Or.inr ⟨_, _, h⟩
theorem nm_12_readView {v1 : Int} {C : jC} {post : Int → jC → Prop} (h : wp_12_readView v1 C post) : ∃ (r0 : Int) (r1 : jC), post r0 r1 := by
  unfold wp_12_readView at h
  exact jL2_nm (fun K a b h => nm_12_readView_3 h) h

-- what a column may hold
theorem jWord_dig {p q r s : Int} (p0 : 1 ≤ p) (p1 : p ≤ 26) (q0 : 0 ≤ q) (q1 : q ≤ 26) (r0 : 0 ≤ r) (r1 : r ≤ 26) (s0 : 0 ≤ s) (s1 : s ≤ 26) : jWord (p * 19683 + q * 729 + r * 27 + s) ↔ ((q = 0 → r = 0) ∧ (r = 0 → s = 0)) := by
  constructor
  · rintro ⟨a, b, c, d, e, h1, h2, h3, h4, h5, h6, h7, h8, h9, h10⟩
    have e1 : p = a := by omega
    have e2 : q = b := by omega
    have e3 : r = c := by omega
    have e4 : s = d := by omega
    subst e1 e2 e3 e4
    exact ⟨h9, h10⟩
  · rintro ⟨a, b⟩
    exact ⟨p, q, r, s, rfl, p0, p1, q0, q1, r0, r1, s0, s1, a, b⟩
theorem cw_step {x i l x2 : Int} {C : jC} {post : Int → Prop} {k : Int → Int → Prop} (i0 : 0 ≤ i) (hi : i < 4) (x0 : 0 ≤ x) (hl : x / 19683 = l) (hm : x % 19683 * 27 = x2) (hr : x2 < 1000000) (h1 : l ≠ 0 ∨ x = 0 → k x2 (i + 1)) (h0 : l = 0 → x ≠ 0 → post 0) : wp_1_isWord_19 C post k x i := by
  unfold wp_1_isWord_19
  rw [if_neg (by omega)]
  have e : x.tmod 19683 * 27 = x2 := by rw [tmod_nn x0, hm]
  have R : jRng x2 := ⟨by omega, by omega⟩
  by_cases a : 19683 ≤ x
  · rw [if_pos a]
    unfold wp_1_isWord_36
    rw [if_pos rfl, e]
    exact ⟨R, ⟨by omega, by omega⟩, h1 (Or.inl (by omega))⟩
  · rw [if_neg a]
    unfold wp_1_isWord_36
    rw [if_neg (by decide), e]
    by_cases b : x ≤ 0
    · rw [if_pos b]; exact ⟨R, ⟨by omega, by omega⟩, h1 (Or.inr (by omega))⟩
    · rw [if_neg b]; exact h0 (by omega) (by omega)
theorem sp_isWord {p q r s v x : Int} {C : jC} (hv : v = p * 19683 + q * 729 + r * 27 + s) (p0 : 1 ≤ p) (p1 : p ≤ 26) (q0 : 0 ≤ q) (q1 : q ≤ 26) (r0 : 0 ≤ r) (r1 : r ≤ 26) (s0 : 0 ≤ s) (s1 : s ≤ 26) (hx : x = 0 ∨ x = 1) (hx1 : x = 1 ↔ ((q = 0 → r = 0) ∧ (r = 0 → s = 0))) : jDet (wp_1_isWord v C) x := by
  intro post y
  unfold wp_1_isWord
  rw [if_neg (by omega), if_pos (by omega)]
  have bad : ¬ ((q = 0 → r = 0) ∧ (r = 0 → s = 0)) → post 0 := by
    intro z
    have : x = 0 := by
      rcases hx with h | h
      · exact h
      · exact absurd (hx1.mp h) z
    rw [← this]; exact y
  refine ⟨5, ?_⟩
  refine cw_step (k := jI2 (wp_1_isWord_19 C post) 4) (l := p) (x2 := q * 19683 + r * 729 + s * 27) (by decide) (by decide) (by omega) (by omega) (by omega) (by omega) (fun _ => ?_) (fun z _ => by omega)
  refine cw_step (k := jI2 (wp_1_isWord_19 C post) 3) (l := q) (x2 := r * 19683 + s * 729) (by decide) (by decide) (by omega) (by omega) (by omega) (by omega) (fun h2 => ?_) (fun z z2 => bad (by omega))
  refine cw_step (k := jI2 (wp_1_isWord_19 C post) 2) (l := r) (x2 := s * 19683) (by decide) (by decide) (by omega) (by omega) (by omega) (by omega) (fun h3 => ?_) (fun z z2 => bad (by omega))
  refine cw_step (k := jI2 (wp_1_isWord_19 C post) 1) (l := s) (x2 := 0) (by decide) (by decide) (by omega) (by omega) (by omega) (by omega) (fun h4 => ?_) (fun z z2 => by omega)
  show wp_1_isWord_19 C post (jI2 (wp_1_isWord_19 C post) 0) 0 (0 + 1 + 1 + 1 + 1)
  unfold wp_1_isWord_19
  rw [if_pos (by decide), ← hx1.mpr (by omega)]
  exact y
theorem mw_step {g t x l x2 g' t' : Int} {C : jC} {post : Int → Prop} {k : Int → Int → Int → Prop} (x0 : 0 < x) (hl : x % 27 = l) (hd : x / 27 = x2) (hg : g' = if g = 0 ∨ (t = 0 ∧ l = 0) then 0 else 1) (ht : t' = if t ≠ 0 ∧ l = 0 then 1 else 0) (h : k g' t' x2) : wp_12_isValue_42 C post k g t x := by
  have key : wp_12_isValue_69 g' t x C post k := by
    unfold wp_12_isValue_69
    rw [tdiv_nn (by omega), tmod_nn (by omega), hl, hd]
    by_cases a : t = 0
    · rw [if_neg (by omega)] at ht; rw [if_pos a, ← ht]; exact h
    · rw [if_neg a]
      by_cases b : l = 0
      · rw [if_pos ⟨a, b⟩] at ht; rw [if_pos b, ← ht]; exact h
      · rw [if_neg (fun z => b z.2)] at ht; rw [if_neg b, ← ht]; exact h
  unfold wp_12_isValue_42
  rw [if_neg (by omega), tmod_nn (by omega), hl]
  by_cases a : g = 0
  · rw [if_pos (Or.inl a)] at hg; rw [if_pos a, ← hg]; exact key
  · rw [if_neg a]
    by_cases b : t = 0
    · rw [if_pos b]
      by_cases c : l ≤ 0
      · rw [if_pos (Or.inr ⟨b, by omega⟩)] at hg; rw [if_pos c, ← hg]; exact key
      · rw [if_neg (by omega)] at hg; rw [if_neg c, ← hg]; exact key
    · rw [if_neg b]
      rw [if_neg (by omega)] at hg; rw [← hg]; exact key
theorem sp_mWord {p q r s v x : Int} {C : jC} (hv : v = p * 19683 + q * 729 + r * 27 + s) (p0 : 1 ≤ p) (p1 : p ≤ 26) (q0 : 0 ≤ q) (q1 : q ≤ 26) (r0 : 0 ≤ r) (r1 : r ≤ 26) (s0 : 0 ≤ s) (s1 : s ≤ 26) (hx : x = 0 ∨ x = 1) (hx1 : x = 1 ↔ ((q = 0 → r = 0) ∧ (r = 0 → s = 0))) {post : Int → Prop} (y : post x) : jL3 (wp_12_isValue_42 C post) 1 1 v := by
  refine ⟨5, ?_⟩
  refine mw_step (k := jI3 (wp_12_isValue_42 C post) 4) (l := s) (x2 := p * 729 + q * 27 + r) (by omega) (by omega) (by omega) rfl rfl ?_
  refine mw_step (k := jI3 (wp_12_isValue_42 C post) 3) (l := r) (x2 := p * 27 + q) (by omega) (by omega) (by omega) rfl rfl ?_
  refine mw_step (k := jI3 (wp_12_isValue_42 C post) 2) (l := q) (x2 := p) (by omega) (by omega) (by omega) rfl rfl ?_
  refine mw_step (k := jI3 (wp_12_isValue_42 C post) 1) (l := p) (x2 := 0) (by omega) (by omega) (by omega) rfl rfl ?_
  show wp_12_isValue_42 C post (jI3 (wp_12_isValue_42 C post) 0) _ _ _
  unfold wp_12_isValue_42
  rw [if_pos (by decide)]
  have e : x = (if (if (if (if (1 : Int) = 0 ∨ ((1 : Int) = 0 ∧ s = 0) then (0 : Int) else 1) = 0 ∨ ((if (1 : Int) ≠ 0 ∧ s = 0 then (1 : Int) else 0) = 0 ∧ r = 0) then (0 : Int) else 1) = 0 ∨ ((if (if (1 : Int) ≠ 0 ∧ s = 0 then (1 : Int) else 0) ≠ 0 ∧ r = 0 then (1 : Int) else 0) = 0 ∧ q = 0) then (0 : Int) else 1) = 0 ∨ ((if (if (if (1 : Int) ≠ 0 ∧ s = 0 then (1 : Int) else 0) ≠ 0 ∧ r = 0 then (1 : Int) else 0) ≠ 0 ∧ q = 0 then (1 : Int) else 0) = 0 ∧ p = 0) then (0 : Int) else 1) := by
    by_cases a : s = 0 <;> by_cases b : r = 0 <;> by_cases c : q = 0 <;> simp [a, b, c] at hx1 ⊢ <;> omega
  rw [← e]
  exact ⟨hx, y⟩
/-- what a column may hold, or nothing: both sides alike -/
theorem sp_hold {C : jC} {w : Int → Int} (h : rS 35 C w) {c v : Int} (c0 : 0 ≤ c) (c1 : c < C 36 0) :
    ∃ x, (x = 0 ∨ x = 1) ∧ (x = 1 → v ≠ -1000000 → jVal (w (4 + c)) v) ∧ jDet (wp_7_mayHold 36 c v C) x ∧ ∀ C' : jC, C' 346 = w → jDet (wp_12_isValue c v C') x := by
  obtain ⟨k1, k2, k3, -⟩ := r_cols h
  obtain ⟨q1, q2⟩ := r_kind h c0 (show c < 5 by omega)
  have K : ∀ post : Int → Prop, wp_7_kindOf 36 c C post = post (w (4 + c)) := by
    intro post
    rw [sp_kindOf (by omega), if_pos (show 0 ≤ c ∧ c < C 36 0 from ⟨c0, c1⟩)]
    simp only [Int.reduceAdd]
    rw [q1]
  rcases q2 with z | z
  · obtain ⟨x, hx⟩ : ∃ x : Int, x = if -999 ≤ v ∧ v ≤ 999 then 1 else 0 := ⟨_, rfl⟩
    have x01 : x = 0 ∨ x = 1 := by split at hx <;> omega
    refine ⟨x, x01, fun e _ => Or.inr (Or.inl ⟨z, by split at hx <;> omega⟩), fun post y => ?_, fun C' hC post y => ?_⟩
    · unfold wp_7_mayHold
      rw [K, if_pos z]
      by_cases a : v < -999
      · rw [if_neg (by omega)] at hx; rw [if_pos a, ← hx]; exact y
      · rw [if_neg a]
        by_cases b : 999 < v
        · rw [if_neg (by omega)] at hx; rw [if_pos b, ← hx]; exact y
        · rw [if_pos (by omega)] at hx; rw [if_neg b, ← hx]; exact y
    · unfold wp_12_isValue
      rw [sp_isWords c0 (by omega), hC, if_pos (show (if w (4 + c) = 1 then (1 : Int) else 0) = 0 by rw [if_neg (by omega)]), sp_in, ← hx]
      exact ⟨x01, y⟩
  · by_cases rg : 19683 ≤ v ∧ v ≤ 531440
    · have D : v = v / 19683 * 19683 + v / 729 % 27 * 729 + v / 27 % 27 * 27 + v % 27 := by omega
      have p0 : 1 ≤ v / 19683 := by omega
      have p1 : v / 19683 ≤ 26 := by omega
      have d0 : ∀ y : Int, 0 ≤ y % 27 ∧ y % 27 ≤ 26 := fun y => by omega
      have wd := jWord_dig p0 p1 (d0 (v / 729)).1 (d0 (v / 729)).2 (d0 (v / 27)).1 (d0 (v / 27)).2 (d0 v).1 (d0 v).2
      rw [← D] at wd
      obtain ⟨ρ, hρ⟩ := jChi (fun _ => (v / 729 % 27 = 0 → v / 27 % 27 = 0) ∧ (v / 27 % 27 = 0 → v % 27 = 0))
      refine ⟨ρ 0, (hρ 0).1, fun e _ => Or.inr (Or.inr ⟨z, wd.mpr ((hρ 0).2.mp e)⟩), fun post y => ?_, fun C' hC post y => ?_⟩
      · unfold wp_7_mayHold
        rw [K, if_neg (by omega)]
        exact sp_isWord D p0 p1 (d0 _).1 (d0 _).2 (d0 _).1 (d0 _).2 (d0 _).1 (d0 _).2 (hρ 0).1 (hρ 0).2 _ ⟨(hρ 0).1, y⟩
      · unfold wp_12_isValue
        rw [sp_isWords c0 (by omega), hC, if_neg (show ¬ (if w (4 + c) = 1 then (1 : Int) else 0) = 0 by rw [if_pos z]; decide), sp_in1 rg.1 rg.2, if_neg (by decide)]
        exact sp_mWord D p0 p1 (d0 _).1 (d0 _).2 (d0 _).1 (d0 _).2 (d0 _).1 (d0 _).2 (hρ 0).1 (hρ 0).2 y
    · refine ⟨0, Or.inl rfl, fun e => absurd e (by decide), fun post y => ?_, fun C' hC post y => ?_⟩
      · unfold wp_7_mayHold
        rw [K, if_neg (by omega)]
        unfold wp_1_isWord
        by_cases a : v < 19683
        · rw [if_pos a]; exact ⟨Or.inl rfl, y⟩
        · rw [if_neg a, if_neg (by omega)]; exact ⟨Or.inl rfl, y⟩
      · unfold wp_12_isValue
        rw [sp_isWords c0 (by omega), hC, if_neg (show ¬ (if w (4 + c) = 1 then (1 : Int) else 0) = 0 by rw [if_pos z]; decide), sp_in0 rg, if_pos rfl]
        exact y

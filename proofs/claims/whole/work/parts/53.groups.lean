-- groups
theorem jChi (P : Int → Prop) : ∃ ρ : Int → Int, ∀ i, (ρ i = 0 ∨ ρ i = 1) ∧ (ρ i = 1 ↔ P i) := by
  have H : ∀ i, ∃ x : Int, (x = 0 ∨ x = 1) ∧ (x = 1 ↔ P i) := by
    intro i
    by_cases h : P i
    · exact ⟨1, Or.inr rfl, fun _ => h, fun _ => rfl⟩
    · exact ⟨0, Or.inl rfl, fun z => absurd z (by decide), fun z => absurd z h⟩
  exact Classical.skolem.mp H
theorem sp_alike {C : jC} {w : Int → Int} (h : rS 35 C w) {v c i j : Int} {post : Int → Prop} (v0 : 0 ≤ v) (v1 : v < 4) (c0 : 0 ≤ c) (c1 : c < w 0) (i0 : 0 ≤ i) (i1 : i < w (298 + 2114 * v)) (j0 : 0 ≤ j) (j1 : j < w (298 + 2114 * v)) : wp_4_isAlike 36 (51 + 72 * v + 29) c i j C post = post (if jLv C v c i = jLv C v c j then 1 else 0) := by
  unfold wp_4_isAlike
  rw [sp_vat h v0 v1 i0 i1, sp_vval h v0 v1 i0 i1 c0 c1, sp_vat h v0 v1 j0 j1, sp_vval h v0 v1 j0 j1 c0 c1]
  by_cases e : jLv C v c i = jLv C v c j
  · rw [if_pos e, if_pos e]
  · rw [if_neg e, if_neg e]
/-- the first at all with its value -/
def jNew (f : Int → Int) (i : Int) : Prop := ∀ j, 0 ≤ j → j < i → f j ≠ f i
theorem sp_firstLike {C : jC} {w : Int → Int} (h : rS 35 C w) {v c i : Int} (v0 : 0 ≤ v) (v1 : v < 4) (c0 : 0 ≤ c) (c1 : c < w 0) (i0 : 0 ≤ i) (i1 : i < w (298 + 2114 * v)) {x : Int} (hx : x = 0 ∨ x = 1) (hx2 : x = 1 ↔ jNew (jLv C v c) i) : jDet (wp_4_isFirstLike 36 (51 + 72 * v + 29) c i C) x := by
  intro post y
  unfold wp_4_isFirstLike
  refine jL1_of (fun k => 0 ≤ k ∧ k ≤ i ∧ ∀ j, 0 ≤ j → j < k → jLv C v c j ≠ jLv C v c i) (fun k => (i - k).toNat) (fun Q k hi hk => ?_) ⟨by omega, i0, fun j _ _ => by omega⟩
  obtain ⟨a0, a1, a2⟩ := hi
  unfold wp_4_isFirstLike_3
  by_cases a : i ≤ k
  · rw [if_pos a, ← hx2.mpr (fun j j0 j1 => a2 j j0 (by omega))]; exact y
  · rw [if_neg a, sp_alike h v0 v1 c0 c1 i0 i1 a0 (by omega)]
    by_cases e : jLv C v c i = jLv C v c k
    · rw [if_pos e, if_neg (by decide)]
      have : x = 0 := by
        rcases hx with z | z
        · exact z
        · exact absurd e.symm (hx2.mp z k a0 (by omega))
      rw [← this]; exact y
    · rw [if_neg e, if_pos rfl]
      refine hk _ ⟨by omega, by omega, fun j j0 j1 => ?_⟩ (by omega)
      by_cases ej : j = k
      · rw [ej]; exact fun z => e z.symm
      · exact a2 j j0 (by omega)
/-- the first place from s on -/
def jFrom (f : Int → Int) (x s n r : Int) : Prop := (s ≤ r ∧ r < n ∧ f r = x ∧ ∀ j, s ≤ j → j < r → f j ≠ x) ∨ (r = -1 ∧ ∀ j, s ≤ j → j < n → f j ≠ x)
theorem sp_firstPlace {C : jC} {w : Int → Int} (h : rS 35 C w) {v c x s : Int} (v0 : 0 ≤ v) (v1 : v < 4) (c0 : 0 ≤ c) (c1 : c < w 0) (s0 : 0 ≤ s) {C' : jC} (hC : C' 346 = w) {post : Int → Prop} (y : ∀ r, jFrom (jLv C v c) x s (w (298 + 2114 * v)) r → post r) : wp_12_firstPlace v c x s C' post := by
  unfold wp_12_firstPlace
  refine jL1_of (fun k => s ≤ k ∧ ∀ j, s ≤ j → j < k → jLv C v c j ≠ x) (fun k => (w (298 + 2114 * v) - k).toNat) (fun Q k hi hk => ?_) ⟨by omega, fun j _ _ => by omega⟩
  obtain ⟨a0, a1⟩ := hi
  unfold wp_12_firstPlace_4
  rw [sp_vsize v0 v1, hC]
  by_cases a : w (298 + 2114 * v) ≤ k
  · rw [if_pos a, sp_vsize v0 v1, hC, if_pos a]
    exact y _ (Or.inr ⟨rfl, fun j j0 j1 => a1 j j0 (by omega)⟩)
  · rw [if_neg a]
    refine sp_mval h v0 v1 (show 0 ≤ k by omega) (by omega) c0 c1 hC _ ?_
    by_cases e : jLv C v c k = x
    · rw [if_pos e, sp_vsize v0 v1, hC, if_neg a]
      exact y _ (Or.inl ⟨a0, by omega, e, a1⟩)
    · rw [if_neg e]
      refine hk _ ⟨by omega, fun j j0 j1 => ?_⟩ (by omega)
      by_cases ej : j = k
      · rw [ej]; exact e
      · exact a1 j j0 (by omega)
theorem jFrom_new {f : Int → Int} {i n r : Int} (i0 : 0 ≤ i) (i1 : i < n) (h : jFrom f (f i) 0 n r) : r = i ↔ jNew f i := by
  rcases h with ⟨a0, a1, a2, a3⟩ | ⟨a0, a1⟩
  · constructor
    · intro e; subst e; exact a3
    · intro e
      by_cases z : i < r
      · exact absurd rfl (a3 i i0 z)
      · by_cases y : r < i
        · exact absurd a2 (e r a0 y)
        · omega
  · exact absurd rfl (a1 i i0 i1)
theorem sp_mFirst {C : jC} {w : Int → Int} (h : rS 35 C w) {v c i : Int} (v0 : 0 ≤ v) (v1 : v < 4) (c0 : 0 ≤ c) (c1 : c < w 0) (i0 : 0 ≤ i) (i1 : i < w (298 + 2114 * v)) {C' : jC} (hC : C' 346 = w) {x : Int} (hx : x = 0 ∨ x = 1) (hx2 : x = 1 ↔ jNew (jLv C v c) i) : jDet (wp_12_isFirst v c i C') x := by
  intro post y
  unfold wp_12_isFirst
  refine sp_mval h v0 v1 i0 i1 c0 c1 hC _ ?_
  refine sp_firstPlace h v0 v1 c0 c1 (by omega) hC (fun r hr => ?_)
  have e := jFrom_new i0 i1 hr
  by_cases z : r = i
  · rw [if_pos z, ← hx2.mpr (e.mp z)]; exact y
  · rw [if_neg z]
    have : x = 0 := by
      rcases hx with q | q
      · exact q
      · exact absurd (e.mpr (hx2.mp q)) z
    rw [← this]; exact y
def jCnt (ρ : Int → Int) (i x : Int) : Int := x + ρ i
theorem jCnt_rng {ρ : Int → Int} (h : ∀ i, ρ i = 0 ∨ ρ i = 1) {k : Int} (k0 : 0 ≤ k) : 0 ≤ jFold (jCnt ρ) 0 k.toNat ∧ jFold (jCnt ρ) 0 k.toNat ≤ k := by
  have key : ∀ n : Nat, 0 ≤ jFold (jCnt ρ) 0 n ∧ jFold (jCnt ρ) 0 n ≤ n := by
    intro n
    induction n with
    | zero => exact (show (0 : Int) ≤ 0 ∧ (0 : Int) ≤ ((0 : Nat) : Int) by decide)
    | succ n ih =>
      have := h n
      show 0 ≤ jFold (jCnt ρ) 0 n + ρ n ∧ jFold (jCnt ρ) 0 n + ρ n ≤ ((n + 1 : Nat) : Int)
      omega
  have := key k.toNat
  omega
theorem jCnt_lt {ρ : Int → Int} (h : ∀ i, ρ i = 0 ∨ ρ i = 1) {i j : Int} (i0 : 0 ≤ i) (hi : ρ i = 1) (hj : i < j) : jFold (jCnt ρ) 0 i.toNat < jFold (jCnt ρ) 0 j.toNat := by
  have key : ∀ m : Nat, jFold (jCnt ρ) 0 i.toNat < jFold (jCnt ρ) 0 (i.toNat + 1 + m) := by
    intro m
    induction m with
    | zero =>
      show _ < jFold (jCnt ρ) 0 i.toNat + ρ (i.toNat : Int)
      rw [Int.toNat_of_nonneg i0]
      omega
    | succ m ih =>
      have := h ((i.toNat + 1 + m : Nat) : Int)
      show _ < jFold (jCnt ρ) 0 (i.toNat + 1 + m) + ρ ((i.toNat + 1 + m : Nat) : Int)
      omega
  have := key (j.toNat - (i.toNat + 1))
  rw [show i.toNat + 1 + (j.toNat - (i.toNat + 1)) = j.toNat by omega] at this
  exact this
theorem op_kinds {C : jC} {K v c : Int} (h : rAll C K) : wp_11_kinds v c C (fun E C1 => E = jIOB ∧ oM (wp_12_kinds v c) K 1 C1) (fun r => oR (wp_12_kinds v c) K r C) := by
  have hs := r_now h
  obtain ⟨k1, k2, k3, -⟩ := r_cols hs
  unfold wp_11_kinds
  refine sp_viewNumbered (fun hn => ⟨rfl, ?_⟩) (fun h0 h1 => ?_)
  · unfold oM wp_12_kinds
    rw [sp_noView1 hn, if_neg (by decide), sp_throws1, if_neg (by decide), m00]
    exact ⟨m0_0 _ _, rAll_m0 h⟩
  refine sp_needColumn (by omega) (fun hn => ⟨rfl, ?_⟩) (fun c0 c1 => ?_)
  · unfold oM wp_12_kinds
    rw [sp_noView0 h0 h1, if_pos rfl, sp_noCol1 hs (m0_w _ _) hn, if_neg (by decide), sp_throws1, if_neg (by decide), m00]
    exact ⟨m0_0 _ _, rAll_m0 h⟩
  obtain ⟨l1, l2, l3, l4, -⟩ := r_list hs h0 h1
  obtain ⟨ρ, hρ⟩ := jChi (jNew (jLv C v c))
  unfold wp_4_groupsOf
  refine jL2_of (fun x k => 0 ≤ k ∧ k ≤ C 346 (298 + 2114 * v) ∧ x = jFold (jCnt ρ) 0 k.toNat) (fun _ k => (C 346 (298 + 2114 * v) - k).toNat) (fun Q x k hi hk => ?_) ⟨by omega, by omega, rfl⟩
  obtain ⟨i0, i1, i2⟩ := hi
  unfold wp_4_groupsOf_6
  rw [sp_length, l1]
  have rg := jCnt_rng (fun i => (hρ i).1) i0
  by_cases a : C 346 (298 + 2114 * v) ≤ k
  · rw [if_pos a]
    unfold oR wp_12_kinds
    dsimp only
    rw [sp_noView0 h0 h1, if_pos rfl, sp_noCol0 hs (m0_w _ _) c0 c1, if_pos rfl, sp_throws0, if_pos rfl]
    refine jL2_of (fun x k => 0 ≤ k ∧ k ≤ C 346 (298 + 2114 * v) ∧ x = jFold (jCnt ρ) 0 k.toNat) (fun _ k => (C 346 (298 + 2114 * v) - k).toNat) (fun Q' x' k' hi' hk' => ?_) ⟨by omega, by omega, rfl⟩
    obtain ⟨j0, j1, j2⟩ := hi'
    unfold wp_12_kinds_40
    rw [sp_vsize h0 h1, m0_w]
    have rg' := jCnt_rng (fun i => (hρ i).1) j0
    by_cases a' : C 346 (298 + 2114 * v) ≤ k'
    · rw [if_pos a']
      refine ⟨m0_0 _ _, ?_, rAll_m0 h⟩
      rw [i2, j2, show k' = k by omega]
    · rw [if_neg a']
      refine sp_mval hs h0 h1 j0 (show k' < C 346 (298 + 2114 * v) by omega) c0 (by omega) (m0_w C 0) _ ?_
      refine sp_firstPlace hs h0 h1 c0 (by omega) (by omega) (m0_w C 0) (fun r hr => ?_)
      have e := jFrom_new j0 (by omega) hr
      by_cases z : r = k'
      · rw [if_pos z]
        have := (hρ k').2.mpr (e.mp z)
        refine ⟨⟨by omega, by omega⟩, hk' _ _ ⟨by omega, by omega, ?_⟩ (by omega)⟩
        rw [jFold_s j0, jCnt, this, j2]
      · rw [if_neg z]
        have : ρ k' = 0 := by
          rcases (hρ k').1 with q | q
          · exact q
          · exact absurd (e.mpr ((hρ k').2.mp q)) z
        refine hk' _ _ ⟨by omega, by omega, ?_⟩ (by omega)
        rw [jFold_s j0, jCnt, this, j2]
  · rw [if_neg a]
    refine sp_firstLike hs h0 h1 c0 (by omega) i0 (by omega) (hρ k).1 (hρ k).2 _ ?_
    by_cases z : ρ k = 0
    · rw [if_pos z]
      refine hk _ _ ⟨by omega, by omega, ?_⟩ (by omega)
      rw [jFold_s i0, jCnt, z, i2, Int.add_zero]
    · rw [if_neg z]
      have := (hρ k).1
      refine ⟨⟨by omega, by omega⟩, hk _ _ ⟨by omega, by omega, ?_⟩ (by omega)⟩
      rw [jFold_s i0, jCnt, show ρ k = 1 by omega, i2]
/-- the place where group g begins -/
def jGrp (ρ : Int → Int) (n g r : Int) : Prop := (0 ≤ r ∧ r < n ∧ ρ r = 1 ∧ jFold (jCnt ρ) 0 r.toNat = g) ∨ (r = -1 ∧ ∀ i, 0 ≤ i → i < n → ρ i = 1 → jFold (jCnt ρ) 0 i.toNat ≠ g)
theorem jGrp_uniq {ρ : Int → Int} (h : ∀ i, ρ i = 0 ∨ ρ i = 1) {n g r r' : Int} (h1 : jGrp ρ n g r) (h2 : jGrp ρ n g r') : r = r' := by
  rcases h1 with ⟨a0, a1, a2, a3⟩ | ⟨a0, a1⟩
  · rcases h2 with ⟨b0, b1, b2, b3⟩ | ⟨b0, b1⟩
    · by_cases e : r < r'
      · have := jCnt_lt h a0 a2 e; omega
      · by_cases e2 : r' < r
        · have := jCnt_lt h b0 b2 e2; omega
        · omega
    · exact absurd a3 (b1 r a0 a1 a2)
  · rcases h2 with ⟨b0, b1, b2, b3⟩ | ⟨b0, b1⟩
    · exact absurd b3 (a1 r' b0 b1 b2)
    · omega
theorem sp_groupStart {C : jC} {w : Int → Int} (h : rS 35 C w) {v c g : Int} (v0 : 0 ≤ v) (v1 : v < 4) (c0 : 0 ≤ c) (c1 : c < w 0) {ρ : Int → Int} (hρ : ∀ i, (ρ i = 0 ∨ ρ i = 1) ∧ (ρ i = 1 ↔ jNew (jLv C v c) i)) {post : Int → Prop} (y : ∀ r, jGrp ρ (w (298 + 2114 * v)) g r → post r) : wp_4_groupStart 36 (51 + 72 * v + 29) c g C post := by
  obtain ⟨l1, l2, l3, l4, -⟩ := r_list h v0 v1
  unfold wp_4_groupStart
  refine jL2_of (fun x k => 0 ≤ k ∧ k ≤ w (298 + 2114 * v) ∧ x = jFold (jCnt ρ) 0 k.toNat ∧ ∀ i, 0 ≤ i → i < k → ρ i = 1 → jFold (jCnt ρ) 0 i.toNat ≠ g) (fun _ k => (w (298 + 2114 * v) - k).toNat) (fun Q x k hi hk => ?_) ⟨by omega, by omega, rfl, fun i _ _ => by omega⟩
  obtain ⟨i0, i1, i2, i3⟩ := hi
  unfold wp_4_groupStart_6
  rw [sp_length, l1]
  have rg := jCnt_rng (fun i => (hρ i).1) i0
  by_cases a : w (298 + 2114 * v) ≤ k
  · rw [if_pos a]; exact y _ (Or.inr ⟨rfl, fun i a0 a1 => i3 i a0 (by omega)⟩)
  · rw [if_neg a]
    refine sp_firstLike h v0 v1 c0 c1 i0 (by omega) (hρ k).1 (hρ k).2 _ ?_
    by_cases z : ρ k = 0
    · rw [if_pos z]
      refine hk _ _ ⟨by omega, by omega, ?_, fun i a0 a1 a2 => ?_⟩ (by omega)
      · rw [jFold_s i0, jCnt, z, i2, Int.add_zero]
      · by_cases e : i = k
        · rw [e] at a2; omega
        · exact i3 i a0 (by omega) a2
    · rw [if_neg z]
      have z1 := (hρ k).1
      by_cases e : x = g
      · rw [if_pos e]; exact y _ (Or.inl ⟨i0, by omega, by omega, by omega⟩)
      · rw [if_neg e]
        refine ⟨⟨by omega, by omega⟩, hk _ _ ⟨by omega, by omega, ?_, fun i a0 a1 a2 => ?_⟩ (by omega)⟩
        · rw [jFold_s i0, jCnt, show ρ k = 1 by omega, i2]
        · by_cases e2 : i = k
          · rw [e2]; omega
          · exact i3 i a0 (by omega) a2
theorem sp_groupAt {C : jC} {w : Int → Int} (h : rS 35 C w) {v c g : Int} (v0 : 0 ≤ v) (v1 : v < 4) (c0 : 0 ≤ c) (c1 : c < w 0) {ρ : Int → Int} (hρ : ∀ i, (ρ i = 0 ∨ ρ i = 1) ∧ (ρ i = 1 ↔ jNew (jLv C v c) i)) {C' : jC} (hC : C' 346 = w) {post : Int → Prop} (y : ∀ r, jGrp ρ (w (298 + 2114 * v)) g r → post r) : wp_12_groupAt v c g C' post := by
  obtain ⟨l1, l2, l3, l4, -⟩ := r_list h v0 v1
  unfold wp_12_groupAt
  refine jL2_of (fun x k => 0 ≤ k ∧ k ≤ w (298 + 2114 * v) ∧ x = g - jFold (jCnt ρ) 0 k.toNat ∧ ∀ i, 0 ≤ i → i < k → ρ i = 1 → jFold (jCnt ρ) 0 i.toNat ≠ g) (fun _ k => (w (298 + 2114 * v) - k).toNat) (fun Q x k hi hk => ?_) ⟨by omega, by omega, (show g = g - 0 by omega), fun i _ _ => by omega⟩
  obtain ⟨i0, i1, i2, i3⟩ := hi
  unfold wp_12_groupAt_6
  rw [sp_vsize v0 v1, hC]
  have rg := jCnt_rng (fun i => (hρ i).1) i0
  by_cases a : w (298 + 2114 * v) ≤ k
  · rw [if_pos a]; exact y _ (Or.inr ⟨rfl, fun i a0 a1 => i3 i a0 (by omega)⟩)
  · rw [if_neg a]
    by_cases b : x < 0
    · rw [if_pos b]
      refine y _ (Or.inr ⟨rfl, fun i a0 a1 a2 => ?_⟩)
      by_cases e : i < k
      · exact i3 i a0 e a2
      · have mono : ∀ m : Nat, jFold (jCnt ρ) 0 k.toNat ≤ jFold (jCnt ρ) 0 (k.toNat + m) := by
          intro m
          induction m with
          | zero => exact Int.le_refl _
          | succ m ih =>
            have := (hρ ((k.toNat + m : Nat) : Int)).1
            show _ ≤ jFold (jCnt ρ) 0 (k.toNat + m) + ρ ((k.toNat + m : Nat) : Int)
            omega
        have := mono (i.toNat - k.toNat)
        rw [show k.toNat + (i.toNat - k.toNat) = i.toNat by omega] at this
        omega
    · rw [if_neg b]
      refine sp_mFirst h v0 v1 c0 c1 i0 (by omega) hC (hρ k).1 (hρ k).2 _ ?_
      by_cases z : ρ k = 0
      · rw [if_pos z]
        refine hk _ _ ⟨by omega, by omega, ?_, fun i a0 a1 a2 => ?_⟩ (by omega)
        · rw [jFold_s i0, jCnt, z, i2, Int.add_zero]
        · by_cases e : i = k
          · rw [e] at a2; omega
          · exact i3 i a0 (by omega) a2
      · rw [if_neg z]
        have z1 := (hρ k).1
        by_cases e : x = 0
        · rw [if_pos e]; exact y _ (Or.inl ⟨i0, by omega, by omega, by omega⟩)
        · rw [if_neg e]
          refine hk _ _ ⟨by omega, by omega, ?_, fun i a0 a1 a2 => ?_⟩ (by omega)
          · rw [jFold_s i0, jCnt, show ρ k = 1 by omega, i2]; omega
          · by_cases e2 : i = k
            · rw [e2]; omega
            · exact i3 i a0 (by omega) a2

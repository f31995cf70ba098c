-- all grids, and then the new rows join the other views
theorem sp_pAll {C : jC} {w d : Int → Int} (h : rS 35 C w) {v pl c0 N R : Int} (v0 : 0 ≤ v) (v1 : v < 4) (pl0 : 0 ≤ pl) (pl1 : pl < w (298 + 2114 * v)) (hN : w 0 = N) (N1 : 1 ≤ N) (N5 : N ≤ 5) (c00 : 0 ≤ c0) (hR : C 3 2 = R) (R0 : 0 ≤ R) (R12 : R ≤ 12) (room : w 273 + max 0 (pl + R - w (298 + 2114 * v)) ≤ 24) (hk2 : w 2 < 900000) {sn : Int → Int} (hs : ∀ c, jSn (jHd (w (298 + 2114 * v + 29))) N c (sn c)) (sc : sn c0 = c0) (hg : ∀ g, 0 ≤ g → g < R → 1 ≤ C 5 g ∧ C 5 g ≤ 5 ∧ ∀ i, 0 ≤ i → i < C 5 g → jGu sn c0 i.toNat < N ∧ jVal (w (4 + jGu sn c0 i.toNat)) (C 6 (g * 5 + i))) {post : Int → jC → Prop}
    (y : ∀ (E : jC) (Wf df : Int → Int → Int), Wf 0 = w → df 0 = jSet d 0 0 → jPJ C w v pl (pl + R) R E (Wf R) (df R) → (∀ k, 0 ≤ k → k < R → ∀ (B : jC) (K : Int → jC → Prop) (post' : Int → jC → Prop), B 346 = Wf k → B 352 = df k → rGr C B → K (k + 1) (jV (jV B 346 (Wf (k + 1))) 352 (df (k + 1))) → wp_12_paste_139 v pl c0 (w (298 + 2114 * v)) (w 2) post' K k B) → jL2 (wp_8_pasteGrids_114 35 v (51 + 72 * v + 29) post) (w (298 + 2114 * v)) E) : jL2 (wp_8_pasteGrids_36 35 v pl c0 (51 + 72 * v + 29) (w (298 + 2114 * v)) post) 0 (jU C 46 0 0) := by
  obtain ⟨k1, k2, k3, k4⟩ := r_cols h
  obtain ⟨o1, o2, o3, o4, o5⟩ := r_ord h
  obtain ⟨l1, l2, l3, l4, l5⟩ := r_list h v0 v1
  refine jL2_of (fun k E => 0 ≤ k ∧ k ≤ R ∧ ∃ (Wf df : Int → Int → Int), Wf 0 = w ∧ df 0 = jSet d 0 0 ∧ jPJ C w v pl (pl + k) k E (Wf k) (df k) ∧ (∀ q, 0 ≤ q → q < k → ∀ (B : jC) (K : Int → jC → Prop) (post' : Int → jC → Prop), B 346 = Wf q → B 352 = df q → rGr C B → K (q + 1) (jV (jV B 346 (Wf (q + 1))) 352 (df (q + 1))) → wp_12_paste_139 v pl c0 (w (298 + 2114 * v)) (w 2) post' K q B)) (fun k _ => (R - k).toNat) (fun K k E hi hk => ?_) ⟨Int.le_refl 0, R0, fun _ => w, fun _ => jSet d 0 0, rfl, rfl, ?_, fun q a b => by omega⟩
  · obtain ⟨i0, i1, Wf, df, W0, D0, pj, tr⟩ := hi
    have e3 : E 3 = C 3 := pj.2.2.1 3 (by omega) (by omega) (by omega)
    unfold wp_8_pasteGrids_36
    rw [e3, hR]
    by_cases a : R ≤ k
    · rw [if_pos a]
      have ek : k = R := by omega
      subst ek
      exact y E Wf df W0 D0 pj tr
    rw [if_neg a]
    have lE := r_list pj.1 v0 v1
    have Lk := pj.2.2.2.1
    -- how a step ends
    have fin : ∀ (E' : jC) (W' d' : Int → Int), jPJ C w v pl (pl + k + 1) (k + 1) E' W' d' → (∀ (B : jC) (K : Int → jC → Prop) (post' : Int → jC → Prop), B 346 = Wf k → B 352 = df k → rGr C B → K (k + 1) (jV (jV B 346 W') 352 d') → wp_12_paste_139 v pl c0 (w (298 + 2114 * v)) (w 2) post' K k B) → K (k + 1) E' := by
      intro E' W' d' pj' mo
      obtain ⟨V, eV⟩ : ∃ V : Int → Int → Int, ∀ j, V j = if j = k + 1 then W' else Wf j := ⟨_, fun _ => rfl⟩
      obtain ⟨δ, eδ⟩ : ∃ δ : Int → Int → Int, ∀ j, δ j = if j = k + 1 then d' else df j := ⟨_, fun _ => rfl⟩
      refine hk _ _ ⟨by omega, by omega, V, δ, by rw [eV, if_neg (by omega)]; exact W0, by rw [eδ, if_neg (by omega)]; exact D0, by rw [eV, eδ, if_pos rfl, if_pos rfl, show pl + (k + 1) = pl + k + 1 by omega]; exact pj', fun q q0 q1 => ?_⟩ (by omega)
      by_cases e : q = k
      · subst e
        rw [eV, eδ, eV, eδ, if_neg (by omega), if_neg (by omega), if_pos rfl, if_pos rfl]
        exact mo
      · rw [eV, eδ, eV, eδ, if_neg (by omega), if_neg (by omega), if_neg (by omega), if_neg (by omega)]
        exact tr q q0 (by omega)
    have h16 : ∀ B : jC, rGr C B → ¬ B 345 16 ≤ k := fun B hB => by rw [hB.1, hR]; omega
    rw [sp_length, lE.1]
    refine ⟨⟨by omega, by omega⟩, ?_⟩
    by_cases b : pl + k < Wf k (298 + 2114 * v)
    · rw [if_pos b, sp_at]
      have bw : pl + k < w (298 + 2114 * v) := by omega
      have pj1 : jPJ C w v pl (pl + k + 1) k E (Wf k) (df k) := by
        obtain ⟨a1, a2, a3, a4, a5, a6, a7⟩ := pj
        exact ⟨a1, a2, a3, by omega, by omega, by omega, a7⟩
      refine sp_pStep v0 v1 pl0 pl1 l3 hN N5 c00 hR R12 hs sc hg i0 (by omega) pj1 (v5 := w (298 + 2114 * v)) (v6 := w 2) (fun E' W' d' pj' mo => fin E' W' d' pj' (fun B K' post' b1 b2 b3 z => ?_))
      unfold wp_12_paste_139
      rw [if_neg (h16 B b3), if_pos bw]
      exact ⟨⟨by omega, by omega⟩, mo B K' post' b1 b2 b3 z⟩
    · rw [if_neg b]
      have bw : ¬ pl + k < w (298 + 2114 * v) := by omega
      obtain ⟨p1, p2, p3, p4, p5, p6, p7, p8, p9, p10, p11, p12, p13⟩ := id pj
      show wp_7_seatNewRow 36 E (fun x47 C48 => wp_6_putLast 41 x47 C48 (fun C52 => wp_6_putLast (51 + 72 * v + 29) x47 C52 (fun C56 => wp_6_at (51 + 72 * v + 29) (pl + k) C56 (fun x59 => wp_8_pasteGrid 35 k v x59 c0 C56 (fun C64 => K (k + 1) C64)))))
      refine sp_pNew p1 p2 v0 v1 (by omega) (by omega) (by omega) (fun s F W' s0 s1 sl s38 f1 f2 f3 f4 f5 f6 f7 f8 f9 f10 f11 f12 => ?_)
      rw [sp_at]
      have eb : Wf k (298 + 2114 * v) = pl + k := by omega
      have pj1 : jPJ C w v pl (pl + k + 1) k F W' (df k) := by
        refine ⟨f1, f2, fun b b1 b2 b3 => by rw [f3 b (by omega) (by omega) (by omega) (by omega) (by omega) (by omega) b2 b3, p3 b b1 b2 b3], by omega, by omega, by omega, by rw [f10 0 (by omega) (by omega)]; exact p7, fun c c0 c1 => by rw [f10 _ (by omega) (by omega)]; exact p8 c c0 c1, fun j j0 j1 j2 => by rw [f11 j j0 j2]; exact p9 j j0 j1 j2, fun j j0 j1 => by rw [f9 j j0 (by omega)]; exact p10 j j0 j1, fun j j0 j1 => ?_, p12, fun i i0 i1 => ?_⟩
        · by_cases e : j = Wf k (298 + 2114 * v)
          · rw [e, f7]; omega
          · rw [f9 j (by omega) (by omega)]; exact p11 j j0 (by omega)
        · obtain ⟨t, t0, t1, t2⟩ := p13 i i0 i1
          exact ⟨t, t0, t1, by rw [t2, f9 _ (by omega) (by omega)]⟩
      refine sp_pStep v0 v1 pl0 pl1 l3 hN N5 c00 hR R12 hs sc hg i0 (by omega) pj1 (v5 := w (298 + 2114 * v)) (v6 := w 2) (fun E' W2 d' pj' mo => fin E' W2 d' pj' (fun B K' post' b1 b2 b3 z => ?_))
      unfold wp_12_paste_139
      rw [if_neg (h16 B b3), if_neg bw]
      refine ⟨⟨by omega, by omega⟩, f12 B _ b1 ?_⟩
      refine mo _ K' post' (jV_eq _ _ _) (by rw [jV_ne (by decide)]; exact b2) (rGr_eq (fun _ _ => rfl) (by rw [jV_ne (by decide)]) (by rw [jV_ne (by decide)]) b3) ?_
      have e2 : jV (jV (jV B 346 W') 346 W2) 352 d' = jV (jV B 346 W2) 352 d' := by rw [jV_V]
      rw [e2]; exact z
  · refine ⟨rS_46 h (fun b hb => jU_ne hb), rDr_0, fun b b1 b2 b3 => jU_ne (by omega), by show w (298 + 2114 * v) = max (w (298 + 2114 * v)) (pl + 0); omega, by show w 273 = w 273 + max 0 (pl + 0 - w (298 + 2114 * v)); omega, by show w 2 = w 2 + max 0 (pl + 0 - w (298 + 2114 * v)); omega, rfl, fun _ _ _ => rfl, fun _ _ _ _ => rfl, fun _ _ _ => rfl, fun j j0 j1 => ?_, ?_, fun i i0 i1 => ?_⟩
    · have j1 : j < w (298 + 2114 * v) := j1
      omega
    · show jSet d 0 0 0 ≤ 5 * 0
      rw [jSet_eq]; omega
    · have i1 : i < jSet d 0 0 0 := i1
      rw [jSet_eq] at i1
      omega
/-- a row that joins: what stays, and whose keys stand in the lists -/
theorem jJn_out {φ : Int → Int} {th key : Int} {w : Int → Int} (hw : ∀ u, 0 ≤ u → u < 4 → 0 ≤ w (298 + 2114 * u) ∧ w (298 + 2114 * u) ≤ 24) (hw2 : ∀ u, 0 ≤ u → u < 4 → u ≠ th → w (298 + 2114 * u) < 24) (k : Nat) (hk : (k : Int) ≤ 4) : ∀ j, (∀ u, 0 ≤ u → u < (k : Int) → u ≠ th → j < 298 + 2114 * u ∨ 298 + 2114 * u + 25 ≤ j) → jJn φ th key w k j = w j := by
  induction k with
  | zero => intro j _; rfl
  | succ k ih =>
    intro j hj
    have i2 := jJn_low2 (φ := φ) (key := key) hw hw2 k (by omega) k (Int.le_refl _) (by omega)
    show (if (k : Int) = th ∨ φ k = 0 then jJn φ th key w k else jApp (298 + 2114 * k) (jJn φ th key w k (298 + 2114 * k)) key (jJn φ th key w k)) j = _
    by_cases e : (k : Int) = th ∨ φ k = 0
    · rw [if_pos e]; exact ih (by omega) j (fun u a b => hj u a (by omega))
    · have hl := hw k (by omega) (by omega)
      have hl2 := hw2 k (by omega) (by omega) (fun z => e (Or.inl z))
      have q := hj k (by omega) (by omega) (fun z => e (Or.inl z))
      rw [if_neg e, jApp_out (by rw [i2]; omega) (by omega) (by rw [i2]; omega)]
      exact ih (by omega) j (fun u a b => hj u a (by omega))
theorem jJn_keys {φ : Int → Int} {th key Z : Int} {w : Int → Int} (hw : ∀ u, 0 ≤ u → u < 4 → 0 ≤ w (298 + 2114 * u) ∧ w (298 + 2114 * u) ≤ 24) (hw2 : ∀ u, 0 ≤ u → u < 4 → u ≠ th → w (298 + 2114 * u) < 24) (hz : key < Z) (hs : ∀ u, 0 ≤ u → u < 4 → u ≠ th → ∀ j, 0 ≤ j → j < w (298 + 2114 * u) → w (298 + 2114 * u + 1 + j) < Z) (k : Nat) (hk : (k : Int) ≤ 4) : ∀ u, 0 ≤ u → u < 4 → u ≠ th → ∀ j, 0 ≤ j → j < jJn φ th key w k (298 + 2114 * u) → jJn φ th key w k (298 + 2114 * u + 1 + j) < Z := by
  induction k with
  | zero => exact hs
  | succ k ih =>
    intro u u0 u1 u2 j j0 j1
    have i2 := jJn_low2 (φ := φ) (key := key) hw hw2 k (by omega) k (Int.le_refl _) (by omega)
    have st : jJn φ th key w (k + 1) = (if (k : Int) = th ∨ φ k = 0 then jJn φ th key w k else jApp (298 + 2114 * k) (jJn φ th key w k (298 + 2114 * k)) key (jJn φ th key w k)) := rfl
    rw [st] at j1 ⊢
    by_cases e : (k : Int) = th ∨ φ k = 0
    · rw [if_pos e] at j1 ⊢; exact ih (by omega) u u0 u1 u2 j j0 j1
    · rw [if_neg e] at j1 ⊢
      have hl := hw k (by omega) (by omega)
      have hl2 := hw2 k (by omega) (by omega) (fun z => e (Or.inl z))
      by_cases eu : u = k
      · subst eu
        rw [jApp_b, i2] at j1
        rw [jApp_i j0 (by rw [i2]; omega), i2]
        by_cases q : j < w (298 + 2114 * (k : Int))
        · rw [if_pos q]
          exact ih (by omega) _ u0 u1 u2 j j0 (by rw [i2]; exact q)
        · rw [if_neg q, if_pos (by omega)]; exact hz
      · have hlu := hw u u0 u1
        have hlu2 := hw2 u u0 u1 u2
        rw [jApp_out (by rw [i2]; omega) (by omega) (by rw [i2]; omega)] at j1
        have jl : j < 25 := by
          by_cases c : (k : Int) ≤ u
          · rw [jJn_low2 (φ := φ) (key := key) hw hw2 k (by omega) u c u1] at j1; omega
          · have : jJn φ th key w k (298 + 2114 * u) ≤ 24 := by
              have key2 : ∀ q : Nat, (q : Int) ≤ 4 → ∀ u, 0 ≤ u → u < 4 → u ≠ th → jJn φ th key w q (298 + 2114 * u) ≤ w (298 + 2114 * u) + 1 := by
                intro q hq u u0 u1 u2
                by_cases c : (q : Int) ≤ u
                · rw [jJn_low2 (φ := φ) (key := key) hw hw2 q hq u c u1]; omega
                · have a := jJn_low2 (φ := φ) (key := key) hw hw2 u.toNat (by omega) u (by omega) u1
                  have b : jJn φ th key w (u.toNat + 1) (298 + 2114 * u) ≤ w (298 + 2114 * u) + 1 := by
                    show (if (u.toNat : Int) = th ∨ φ u.toNat = 0 then jJn φ th key w u.toNat else jApp (298 + 2114 * u.toNat) (jJn φ th key w u.toNat (298 + 2114 * u.toNat)) key (jJn φ th key w u.toNat)) (298 + 2114 * u) ≤ _
                    rw [Int.toNat_of_nonneg u0]
                    by_cases e : u = th ∨ φ u = 0
                    · rw [if_pos e, a]; omega
                    · rw [if_neg e, jApp_b, a]; omega
                  have c2 : ∀ n : Nat, (n : Int) + u + 1 ≤ 4 → jJn φ th key w (u.toNat + 1 + n) (298 + 2114 * u) = jJn φ th key w (u.toNat + 1) (298 + 2114 * u) := by
                    intro n
                    induction n with
                    | zero => intro _; rfl
                    | succ n ihn =>
                      intro hn
                      have i3 := jJn_low2 (φ := φ) (key := key) hw hw2 (u.toNat + 1 + n) (by omega) ((u.toNat + 1 + n : Nat) : Int) (Int.le_refl _) (by omega)
                      show (if ((u.toNat + 1 + n : Nat) : Int) = th ∨ φ ((u.toNat + 1 + n : Nat) : Int) = 0 then jJn φ th key w (u.toNat + 1 + n) else jApp (298 + 2114 * ((u.toNat + 1 + n : Nat) : Int)) (jJn φ th key w (u.toNat + 1 + n) (298 + 2114 * ((u.toNat + 1 + n : Nat) : Int))) key (jJn φ th key w (u.toNat + 1 + n))) (298 + 2114 * u) = _
                      by_cases e : ((u.toNat + 1 + n : Nat) : Int) = th ∨ φ ((u.toNat + 1 + n : Nat) : Int) = 0
                      · rw [if_pos e]; exact ihn (by omega)
                      · have hq := hw ((u.toNat + 1 + n : Nat) : Int) (by omega) (by omega)
                        rw [if_neg e, jApp_out (by rw [i3]; omega) (by omega) (by rw [i3]; omega)]; exact ihn (by omega)
                  have := c2 (q - (u.toNat + 1)) (by omega)
                  rw [show u.toNat + 1 + (q - (u.toNat + 1)) = q by omega] at this
                  rw [this]; exact b
              have := key2 k (by omega) u u0 u1 u2
              omega
            omega
        rw [jApp_out (by rw [i2]; omega) (by omega) (by rw [i2]; omega)]
        exact ih (by omega) u u0 u1 u2 j j0 j1
theorem sp_joinP {φ : Int → Int} {th key : Int} {w : Int → Int} {D : jC} (hD : D 346 = w) (hk : jRng (key + 1)) (ok : jJok φ th key w 4) (hw : ∀ u, 0 ≤ u → u < 4 → 0 ≤ w (298 + 2114 * u) ∧ w (298 + 2114 * u) ≤ 24) (hw2 : ∀ u, 0 ≤ u → u < 4 → u ≠ th → w (298 + 2114 * u) < 24) {post : Int → jC → Prop} {k212 : Int → jC → Prop} (y : k212 (key + 1) (jV D 346 (jJn φ th key w 4))) : jL2 (wp_12_paste_226 th key post k212) 0 D := by
  refine jL2_of (fun k E => 0 ≤ k ∧ k ≤ 4 ∧ E = jV D 346 (jJn φ th key w k.toNat) ∧ ∀ u, k ≤ u → u < 4 → jJn φ th key w k.toNat (298 + 2114 * u) = w (298 + 2114 * u)) (fun k _ => (4 - k).toNat) (fun K k E hi hk1 => ?_) ⟨by omega, by omega, ?_, fun _ _ _ => rfl⟩
  · obtain ⟨i0, i1, rfl, i5⟩ := hi
    unfold wp_12_paste_226
    by_cases a : 4 ≤ k
    · rw [if_pos a]
      rw [show k = 4 by omega]; exact ⟨hk, y⟩
    · rw [if_neg a]
      have st := jJn_s (φ := φ) (th := th) (key := key) (w := w) i0
      by_cases b : k = th
      · rw [if_pos b]
        rw [if_pos (Or.inl b)] at st
        exact hk1 _ _ ⟨by omega, by omega, by rw [st], fun u u0 u1 => by rw [st]; exact i5 u (by omega) u1⟩ (by omega)
      · rw [if_neg b]
        obtain ⟨f1, f2⟩ := ok k i0 (by omega) b
        refine f2 _ (jV_eq _ _ _) _ ?_
        by_cases c : φ k = 0
        · rw [if_pos c]
          rw [if_pos (Or.inr c)] at st
          exact hk1 _ _ ⟨by omega, by omega, by rw [st], fun u u0 u1 => by rw [st]; exact i5 u (by omega) u1⟩ (by omega)
        · rw [if_neg c, sp_listOf i0 (by omega)]
          rw [if_neg (by omega)] at st
          have wk := i5 k (Int.le_refl _) (by omega)
          have hl := hw k i0 (by omega)
          have hl2 := hw2 k i0 (by omega) b
          refine sp_putsLast (by rw [jV_eq, wk]; exact ⟨by omega, by omega⟩) (by omega) (by rw [jV_eq, wk]; omega) (by rw [jV_eq, wk]; omega) ?_
          rw [jV_eq, jV_V]
          refine hk1 _ _ ⟨by omega, by omega, ?_, fun u u0 u1 => ?_⟩ (by omega)
          · rw [st]; rfl
          · rw [st, jApp_out (by rw [wk]; omega) (by omega) (by rw [wk]; omega)]; exact i5 u (by omega) u1
  · show D = jV D 346 w
    rw [← hD, jV_id]
/-- the new rows join the other views -/
theorem sp_pJoin {C E : jC} {w W d : Int → Int} (h : rS 35 C w) {v pl x k : Int} (v0 : 0 ≤ v) (v1 : v < 4) (k12 : k ≤ 12) (hk2 : w 2 < 900000) (pj : jPJ C w v pl x k E W d) {post : Int → jC → Prop}
    (y : ∀ (G : jC) (Vf : Int → Int → Int), Vf 0 = W → rS 35 G (Vf (W (298 + 2114 * v) - w (298 + 2114 * v))) → rDr G (Vf (W (298 + 2114 * v) - w (298 + 2114 * v))) d → (∀ b, ¬ (36 ≤ b ∧ b < 339) → G b = C b) → Vf (W (298 + 2114 * v) - w (298 + 2114 * v)) 2 = W 2 → (∀ t, 0 ≤ t → t ≤ W (298 + 2114 * v) - w (298 + 2114 * v) → Vf t 2 = W 2) → (∀ t, 0 ≤ t → t < W (298 + 2114 * v) - w (298 + 2114 * v) → ∀ (B : jC) (K : Int → jC → Prop) (post' : Int → jC → Prop), B 346 = Vf t → K (w 2 + t + 1) (jV B 346 (Vf (t + 1))) → jL2 (wp_12_paste_226 v (w 2 + t) post' K) 0 B) → wp_8_finishEdit 35 v G post) : jL2 (wp_8_pasteGrids_114 35 v (51 + 72 * v + 29) post) (w (298 + 2114 * v)) E := by
  obtain ⟨h1, h2, h3, h4, h5, h6, h7, h8, h9, h10, h11, h12, h13⟩ := pj
  obtain ⟨l1, l2, l3, l4, l5⟩ := r_list h v0 v1
  obtain ⟨m1, m2, m3, m4, m5⟩ := r_list h1 v0 v1
  obtain ⟨-, -, k3, -⟩ := r_cols h1
  obtain ⟨-, -, -, kw⟩ := r_cols h
  generalize hM : W (298 + 2114 * v) = M at *
  generalize hL : w (298 + 2114 * v) = L at *
  refine jL2_of (fun i G => L ≤ i ∧ i ≤ M ∧ ∃ Vf : Int → Int → Int, Vf 0 = W ∧ rS 35 G (Vf (i - L)) ∧ rDr G (Vf (i - L)) d ∧ (∀ b, ¬ (80 ≤ b ∧ b < 298) → G b = E b) ∧ G (51 + 72 * v + 29) = E (51 + 72 * v + 29) ∧ G (51 + 72 * v + 29 + 1) = E (51 + 72 * v + 29 + 1) ∧ (∀ t, 0 ≤ t → t ≤ i - L → ∀ j, (j < 298 ∨ (298 + 2114 * v ≤ j ∧ j < 298 + 2114 * v + 25)) → Vf t j = W j) ∧ (∀ u, 0 ≤ u → u < 4 → u ≠ v → ∀ j, 0 ≤ j → j < Vf (i - L) (298 + 2114 * u) → Vf (i - L) (298 + 2114 * u + 1 + j) < w 2 + (i - L)) ∧ (∀ t, 0 ≤ t → t < i - L → ∀ (B : jC) (K : Int → jC → Prop) (post' : Int → jC → Prop), B 346 = Vf t → K (w 2 + t + 1) (jV B 346 (Vf (t + 1))) → jL2 (wp_12_paste_226 v (w 2 + t) post' K) 0 B)) (fun i _ => (M - i).toNat) (fun K i G hi hk => ?_) ⟨Int.le_refl _, by omega, fun _ => W, rfl, h1, h2, fun _ _ => rfl, rfl, rfl, fun _ _ _ _ _ => rfl, fun u u0 u1 u2 j j0 j1 => ?_, fun t a b => by omega⟩
  · obtain ⟨i0, i1, Vf, V0, g1, g2, g3, g4, g5, g6, g7, g8⟩ := hi
    unfold wp_8_pasteGrids_114
    rw [sp_length, g4, m1]
    by_cases a : M ≤ i
    · rw [if_pos a]
      have ei : i = M := by omega
      subst ei
      exact y G Vf V0 g1 g2 (fun b hb => by rw [g3 b (by omega), h3 b (by omega) (by omega) (by omega)]) (g6 _ (by omega) (Int.le_refl _) 2 (by omega)) (fun t a b => g6 t a b 2 (by omega)) g8
    rw [if_neg a, sp_at]
    have ea : jAt G (51 + 72 * v + 29) i = E (51 + 72 * v + 29 + 1) i := by unfold jAt; rw [g4, g5, if_pos (by omega)]
    rw [ea]
    have gl := r_list g1 v0 v1
    have vM : Vf (i - L) (298 + 2114 * v) = M := by rw [g6 _ (by omega) (Int.le_refl _) _ (by omega)]; exact hM
    obtain ⟨s0, s1, sk, sl⟩ := gl.2.2.2.1 i (by omega) (by omega)
    rw [g5] at s0 s1 sk sl
    generalize hS : E (51 + 72 * v + 29 + 1) i = s at *
    have key : G 38 s = w 2 + (i - L) := by
      rw [← sk, g6 _ (by omega) (Int.le_refl _) _ (by omega)]
      exact h11 i i0 (by omega)
    have Wl : ∀ u, 0 ≤ u → u < 4 → 0 ≤ Vf (i - L) (298 + 2114 * u) ∧ Vf (i - L) (298 + 2114 * u) ≤ 24 := fun u u0 u1 => ⟨(r_list g1 u0 u1).2.1, (r_list g1 u0 u1).2.2.1⟩
    refine sp_joinC g1 s0 s1 sl (fun u u0 u1 u2 j j0 j1 z => ?_) (fun φ D q1 q2 q3 q4 q5 => ?_)
    · have := g7 u u0 u1 u2 j j0 j1
      rw [((r_list g1 u0 u1).2.2.2.1 j j0 j1).2.2.1, z, key] at this
      omega
    · rw [key] at q1 q3
      obtain ⟨V, eV⟩ : ∃ V : Int → Int → Int, ∀ j, V j = if j = i - L + 1 then jJn φ v (w 2 + (i - L)) (Vf (i - L)) 4 else Vf j := ⟨_, fun _ => rfl⟩
      have vn : V (i + 1 - L) = jJn φ v (w 2 + (i - L)) (Vf (i - L)) 4 := by rw [eV, if_pos (by omega)]
      have vo : ∀ t, t ≤ i - L → V t = Vf t := fun t ht => by rw [eV, if_neg (by omega)]
      have jo : ∀ j, (j < 298 ∨ (298 + 2114 * v ≤ j ∧ j < 298 + 2114 * v + 25)) → jJn φ v (w 2 + (i - L)) (Vf (i - L)) 4 j = Vf (i - L) j := fun j hj => jJn_out Wl q4 4 (by decide) j (fun u u0 u1 u2 => by omega)
      have q5' : D (51 + 72 * v + 29) = G (51 + 72 * v + 29) ∧ D (51 + 72 * v + 29 + 1) = G (51 + 72 * v + 29 + 1) := by
        rcases q5 with z | z
        · omega
        · exact z
      refine hk _ _ ⟨by omega, by omega, V, by rw [vo 0 (by omega)]; exact V0, by rw [vn]; exact q3, ?_, fun b hb => by rw [q2 b hb, g3 b hb], by rw [q5'.1, g4], by rw [q5'.2, g5], fun t t0 t1 j hj => ?_, fun u u0 u1 u2 j j0 j1 => ?_, fun t t0 t1 B K' post' b1 z => ?_⟩ (by omega)
      · rw [vn]
        have k3' : Vf (i - L) 0 ≤ 5 := by rw [g6 _ (by omega) (Int.le_refl _) 0 (by omega)]; exact k3
        exact rDr_keep g2 (fun b b0 b1 => q2 b (by omega)) (jo 0 (by omega)) (fun c c0 c1 => jo _ (by omega)) k3'
      · by_cases e : t = i + 1 - L
        · rw [e, vn, jo j hj]; exact g6 _ (by omega) (Int.le_refl _) j hj
        · rw [vo t (by omega)]; exact g6 t t0 (by omega) j hj
      · rw [vn] at j1 ⊢
        exact jJn_keys Wl q4 (by omega) (fun u u0 u1 u2 j j0 j1 => by have := g7 u u0 u1 u2 j j0 j1; omega) 4 (by decide) u u0 u1 u2 j j0 j1
      · by_cases e : t = i - L
        · subst e
          rw [vo _ (Int.le_refl _)] at b1
          rw [show i - L + 1 = i + 1 - L by omega, vn] at z
          exact sp_joinP b1 ⟨by omega, by omega⟩ q1 Wl q4 z
        · rw [vo t (by omega)] at b1
          rw [vo (t + 1) (by omega)] at z
          exact g8 t t0 (by omega) B K' post' b1 z
  · have j1 : j < W (298 + 2114 * u) := j1
    show W (298 + 2114 * u + 1 + j) < w 2 + (L - L)
    have lu := r_list h u0 u1
    rw [h9 _ (by omega) (by omega) (by omega)] at j1
    rw [h9 _ (by omega) (by omega) (by omega)]
    obtain ⟨a1, a2, a3, a4⟩ := lu.2.2.2.1 j j0 j1
    rw [a3]
    have := (r_live h a1 a2 a4).2.2.1
    omega

-- rows that come and go
theorem rLst_ins {C D : jC} {a : Int} {w w1 : Int → Int} {q b p x : Int} (h : rLst C a w q b) (p0 : 0 ≤ p) (p1 : p ≤ w b) (n : w b < 24) (x0 : 0 ≤ x) (x1 : x < 24) (hn : ∀ i, 0 ≤ i → i < w b → C (q + 1) i ≠ x)
    (c1 : D q 1 = w b + 1) (c2 : ∀ i, 0 ≤ i → i ≤ w b → D (q + 1) i = if i < p then C (q + 1) i else if i = p then x else C (q + 1) (i - 1)) (w1b : w1 b = w b + 1) (w2 : ∀ i, 0 ≤ i → i ≤ w b → w1 (b + 1 + i) = if i < p then w (b + 1 + i) else if i = p then D (a + 3) x else w (b + 1 + (i - 1)))
    (hk : ∀ i, 0 ≤ i → i < w b → D (a + 3) (C (q + 1) i) = C (a + 3) (C (q + 1) i)) : rLst D a w1 q b := by
  obtain ⟨a1, a2, a3, a4, a5⟩ := h
  unfold rLst
  rw [c1, w1b]
  refine ⟨rfl, by omega, by omega, fun i i0 i1 => ?_, fun i j i0 i1 j1 => ?_⟩
  · rw [c2 i i0 (by omega), w2 i i0 (by omega)]
    by_cases e1 : i < p
    · rw [if_pos e1, if_pos e1, hk i i0 (by omega)]; exact a4 i i0 (by omega)
    rw [if_neg e1, if_neg e1]
    by_cases e2 : i = p
    · rw [if_pos e2, if_pos e2]; exact ⟨x0, x1, rfl⟩
    rw [if_neg e2, if_neg e2, hk (i - 1) (by omega) (by omega)]
    exact a4 (i - 1) (by omega) (by omega)
  · rw [c2 i i0 (by omega), c2 j (by omega) (by omega)]
    by_cases e1 : i < p
    · rw [if_pos e1]
      by_cases f1 : j < p
      · rw [if_pos f1]; exact a5 i j i0 i1 (by omega)
      rw [if_neg f1]
      by_cases f2 : j = p
      · rw [if_pos f2]; exact hn i i0 (by omega)
      rw [if_neg f2]; exact a5 i (j - 1) i0 (by omega) (by omega)
    rw [if_neg e1, if_neg (by omega : ¬ j < p), if_neg (by omega : ¬ j = p)]
    by_cases e2 : i = p
    · rw [if_pos e2]; exact (hn (j - 1) (by omega) (by omega)).symm
    rw [if_neg e2]; exact a5 (i - 1) (j - 1) (by omega) (by omega) (by omega)
theorem rLst_del {C D : jC} {a : Int} {w w1 : Int → Int} {q b r : Int} (h : rLst C a w q b) (r0 : 0 ≤ r) (r1 : r < w b)
    (c1 : D q 1 = w b - 1) (c2 : ∀ i, 0 ≤ i → i < w b - 1 → D (q + 1) i = if i < r then C (q + 1) i else C (q + 1) (i + 1)) (w1b : w1 b = w b - 1) (w2 : ∀ i, 0 ≤ i → i < w b - 1 → w1 (b + 1 + i) = if i < r then w (b + 1 + i) else w (b + 1 + (i + 1)))
    (hk : ∀ i, 0 ≤ i → i < w b → i ≠ r → D (a + 3) (C (q + 1) i) = C (a + 3) (C (q + 1) i)) : rLst D a w1 q b := by
  obtain ⟨a1, a2, a3, a4, a5⟩ := h
  unfold rLst
  rw [c1, w1b]
  refine ⟨rfl, by omega, by omega, fun i i0 i1 => ?_, fun i j i0 i1 j1 => ?_⟩
  · rw [c2 i i0 (by omega), w2 i i0 (by omega)]
    by_cases e1 : i < r
    · rw [if_pos e1, if_pos e1, hk i i0 (by omega) (by omega)]; exact a4 i i0 (by omega)
    rw [if_neg e1, if_neg e1, hk (i + 1) (by omega) (by omega) (by omega)]
    exact a4 (i + 1) (by omega) (by omega)
  · rw [c2 i i0 (by omega), c2 j (by omega) (by omega)]
    by_cases e1 : i < r
    · rw [if_pos e1]
      by_cases f1 : j < r
      · rw [if_pos f1]; exact a5 i j i0 i1 (by omega)
      rw [if_neg f1]; exact a5 i (j + 1) i0 (by omega) (by omega)
    rw [if_neg e1, if_neg (by omega : ¬ j < r)]
    exact a5 (i + 1) (j + 1) (by omega) (by omega) (by omega)
theorem jIns_c {f : Int → Int} {p n x i : Int} (i1 : i ≤ n) : jInsF f 0 p n x i = if i < p then f i else if i = p then x else f (i - 1) := by
  unfold jInsF
  rw [Int.zero_add, Int.zero_add]
  by_cases e1 : i < p
  · rw [if_pos e1, if_pos e1]
  rw [if_neg e1, if_neg e1]
  by_cases e2 : i = p
  · rw [if_pos e2, if_pos e2]
  rw [if_neg e2, if_neg e2, if_pos i1]
theorem jIns_w {f : Int → Int} {b p n x i : Int} (i1 : i ≤ n) : jInsF f (b + 1) p n x (b + 1 + i) = if i < p then f (b + 1 + i) else if i = p then x else f (b + 1 + (i - 1)) := by
  unfold jInsF
  by_cases e1 : i < p
  · rw [if_pos (by omega), if_pos e1]
  rw [if_neg (by omega), if_neg e1]
  by_cases e2 : i = p
  · rw [if_pos (by omega), if_pos e2]
  rw [if_neg (by omega), if_neg e2, if_pos (by omega), show b + 1 + i - 1 = b + 1 + (i - 1) by omega]
theorem jDel_c {f : Int → Int} {r n i : Int} (i1 : i < n - 1) : jDelF f 0 r n i = if i < r then f i else f (i + 1) := by
  unfold jDelF
  by_cases e1 : i < r
  · rw [if_neg (by omega), if_pos e1]
  · rw [if_pos (by omega), if_neg e1]
theorem jDel_w {f : Int → Int} {b r n i : Int} (i1 : i < n - 1) : jDelF f (b + 1) r n (b + 1 + i) = if i < r then f (b + 1 + i) else f (b + 1 + (i + 1)) := by
  unfold jDelF
  by_cases e1 : i < r
  · rw [if_neg (by omega), if_pos e1]
  · rw [if_pos (by omega), if_neg e1, show b + 1 + i + 1 = b + 1 + (i + 1) by omega]
theorem jIns_out {f : Int → Int} {o p n x j : Int} (p0 : 0 ≤ p) (p1 : p ≤ n) (h : j < o ∨ o + n < j) : jInsF f o p n x j = f j := by
  unfold jInsF
  by_cases e : j < o + p
  · rw [if_pos e]
  · rw [if_neg e, if_neg (by omega), if_neg (by omega)]
theorem jDel_out {f : Int → Int} {o r n j : Int} (r0 : 0 ≤ r) (h : j < o ∨ o + n - 1 ≤ j) : jDelF f o r n j = f j := by
  unfold jDelF
  rw [if_neg (by omega)]
/-- a new row at seat s, at place p of the order -/
theorem rS_new {C D : jC} {w w1 : Int → Int} (h : rS 35 C w) {s p : Int} (s0 : 0 ≤ s) (s1 : s < 24) (hn : ¬ rLive C 35 s) (p0 : 0 ≤ p) (p1 : p ≤ w 273) (n24 : w 273 < 24) (cc : w 0 ≠ 0)
    (hd : ∀ b, b ≠ 36 → b ≠ 38 → b ≠ 39 → b ≠ 40 → b ≠ 41 → b ≠ 42 → b < 339 → D b = C b)
    (h36 : ∀ j, j ≠ 7 → D 36 j = C 36 j) (h367 : D 36 7 = w 2 + 1) (h38 : ∀ t, t ≠ s → D 38 t = C 38 t) (h38s : D 38 s = w 2)
    (h39 : ∀ t c, t ≠ s → 0 ≤ c → c < 5 → D 39 (t * 5 + c) = C 39 (t * 5 + c)) (h40 : ∀ t c, t ≠ s → 0 ≤ c → c < 5 → D 40 (t * 5 + c) = C 40 (t * 5 + c))
    (hs : ∀ c, 0 ≤ c → c < w 0 → jVal (w (4 + c)) (w1 (9 + 11 * s + 1 + c)) ∧ D 39 (s * 5 + c) = w1 (9 + 11 * s + 1 + c) ∧ D 40 (s * 5 + c) = w1 (9 + 11 * s + 6 + c) ∧ -1 ≤ w1 (9 + 11 * s + 6 + c) ∧ w1 (9 + 11 * s + 6 + c) < 4)
    (o1 : D 41 1 = w 273 + 1) (o2 : ∀ i, 0 ≤ i → i ≤ w 273 → D 42 i = if i < p then C 42 i else if i = p then s else C 42 (i - 1))
    (ww : ∀ j, j ≠ 2 → ¬ (9 + 11 * s ≤ j ∧ j < 9 + 11 * s + 11) → ¬ (273 ≤ j ∧ j < 298) → w1 j = w j) (w2 : w1 2 = w 2 + 1) (wk : w1 (9 + 11 * s) = w 2)
    (w273 : w1 273 = w 273 + 1) (wo : ∀ i, 0 ≤ i → i ≤ w 273 → w1 (274 + i) = if i < p then w (274 + i) else if i = p then w 2 else w (274 + (i - 1))) : rS 35 D w1 ∧ rLive D 35 s ∧ ∀ t, rLive C 35 t → rLive D 35 t := by
  have hro := r_ord h
  have hrl := fun t => @r_live C w h t
  obtain ⟨hA, hB, hO, hW, hV, hG, hZ⟩ := id h
  obtain ⟨a1, a2, a3, a4, a5, a6, a7, a8, a9, a10, a11⟩ := id hA
  have live : ∀ t, rLive D 35 t ↔ (t = s ∨ rLive C 35 t) := by
    intro t
    unfold rLive
    simp only [Int.reduceAdd]
    rw [o1, hro.1]
    constructor
    · rintro ⟨i, i0, i1, i2⟩
      rw [o2 i i0 (by omega)] at i2
      by_cases e1 : i < p
      · rw [if_pos e1] at i2; exact Or.inr ⟨i, i0, by omega, i2⟩
      rw [if_neg e1] at i2
      by_cases e2 : i = p
      · rw [if_pos e2] at i2; exact Or.inl i2.symm
      rw [if_neg e2] at i2; exact Or.inr ⟨i - 1, by omega, by omega, i2⟩
    · rintro (e | ⟨i, i0, i1, i2⟩)
      · exact ⟨p, p0, by omega, by rw [o2 p p0 (by omega), if_neg (by omega), if_pos rfl, e]⟩
      · by_cases e1 : i < p
        · exact ⟨i, i0, by omega, by rw [o2 i i0 (by omega), if_pos e1]; exact i2⟩
        · exact ⟨i + 1, by omega, by omega, by rw [o2 (i + 1) (by omega) (by omega), if_neg (by omega), if_neg (by omega), show i + 1 - 1 = i by omega]; exact i2⟩
  refine ⟨⟨?_, ?_, ?_, ?_, ?_, ?_, ?_⟩, (live s).mpr (Or.inl rfl), fun t ht => (live t).mpr (Or.inr ht)⟩
  · unfold rA
    simp only [Int.reduceAdd] at *
    rw [h36 0 (by decide), h36 6 (by decide), h367, hd 44 (by decide) (by decide) (by decide) (by decide) (by decide) (by decide) (by decide), ww 0 (by decide) (by omega) (by omega), ww 1 (by decide) (by omega) (by omega), ww 3 (by decide) (by omega) (by omega), w2]
    exact ⟨a1, a2, a3, a4, a5, a6, rfl, by omega, a9, a10, a11⟩
  · intro q q0 q1
    rw [hd (35 + 2) (by decide) (by decide) (by decide) (by decide) (by decide) (by decide) (by decide), ww (4 + q) (by omega) (by omega) (by omega)]; exact hB q q0 q1
  · have ns : ∀ i, 0 ≤ i → i < w 273 → C (35 + 6 + 1) i ≠ s := fun i i0 i1 e => hn ⟨i, i0, by rw [hO.1]; exact i1, e⟩
    refine rLst_ins hO p0 p1 n24 s0 s1 ns o1 o2 w273 (fun i i0 i1 => ?_) (fun i i0 i1 => ?_)
    · have e := wo i i0 i1
      simp only [Int.reduceAdd]
      rw [h38s]; exact e
    · simp only [Int.reduceAdd]
      exact h38 _ (ns i i0 i1)
  · obtain ⟨q1, q2, q3⟩ := hW
    have lt : ∀ t, 0 ≤ t → t < 24 → rLive C 35 t → C 38 t < w 2 := fun t t0 t1 tl => (hrl t t0 t1 tl).2.2.1
    refine ⟨fun t t0 t1 hl => ?_, fun t t0 t1 hl => ?_, fun t u t0 t1 u0 u1 ht hu => ?_⟩
    · simp only [Int.reduceAdd]
      by_cases e : t = s
      · subst e
        rw [wk, h38s, w2, ww 0 (by decide) (by omega) (by omega)]
        refine ⟨rfl, a8, by omega, fun c c0 c1 => ?_⟩
        obtain ⟨f1, f2, f3, f4, f5⟩ := hs c c0 c1
        unfold rCell
        simp only [Int.reduceAdd]
        rw [f2, f3, ww (4 + c) (by omega) (by omega) (by omega)]
        exact ⟨rfl, rfl, f1, f4, f5⟩
      · have hl' : rLive C 35 t := by
          rcases (live t).mp hl with q | q
          · exact absurd q e
          · exact q
        obtain ⟨u1, u2, u3, u4⟩ := q1 t t0 t1 hl'
        simp only [Int.reduceAdd] at u1 u2 u3
        rw [h38 t e, ww (9 + 11 * t) (by omega) (by omega) (by omega), w2, ww 0 (by decide) (by omega) (by omega)]
        refine ⟨u1, u2, by omega, fun c c0 c1 => ?_⟩
        obtain ⟨f1, f2, f3, f4, f5⟩ := u4 c c0 c1
        unfold rCell
        simp only [Int.reduceAdd] at f1 f2 ⊢
        rw [h39 t c e c0 (by omega), h40 t c e c0 (by omega), ww (4 + c) (by omega) (by omega) (by omega), ww (9 + 11 * t + 1 + c) (by omega) (by omega) (by omega), ww (9 + 11 * t + 6 + c) (by omega) (by omega) (by omega)]
        exact ⟨f1, f2, f3, f4, f5⟩
    · have e : t ≠ s := fun z => hl ((live t).mpr (Or.inl z))
      rw [ww (9 + 11 * t) (by omega) (by omega) (by omega)]
      exact q2 t t0 t1 (fun z => hl ((live t).mpr (Or.inr z)))
    · simp only [Int.reduceAdd] at *
      intro ek
      rcases (live t).mp ht with e | e <;> rcases (live u).mp hu with f | f
      · rw [e, f]
      · by_cases z : u = s
        · rw [e, z]
        · rw [e, h38s, h38 u z] at ek
          have := lt u u0 u1 f
          omega
      · by_cases z : t = s
        · rw [f, z]
        · rw [f, h38s, h38 t z] at ek
          have := lt t t0 t1 e
          omega
      · have z1 : t ≠ s := fun z => hn (z ▸ e)
        have z2 : u ≠ s := fun z => hn (z ▸ f)
        rw [h38 t z1, h38 u z2] at ek
        exact q3 t u t0 t1 u0 u1 e f ek
  · intro u u0 u1
    obtain ⟨p1, p2, p3, p4⟩ := hV u u0 u1
    rw [show 35 + 8 + 8 + 72 * u = 51 + 72 * u by omega] at p1 p2 p3 p4 ⊢
    have kd : ∀ b, 51 ≤ b → b < 339 → D b = C b := fun b b0 b1 => hd b (by omega) (by omega) (by omega) (by omega) (by omega) (by omega) b1
    have kw : ∀ j, 298 ≤ j → w1 j = w j := fun j j0 => ww j (by omega) (by omega) (by omega)
    refine ⟨rLst_keep p1 (by rw [kd (51 + 72 * u + 29) (by omega) (by omega)]) (fun i _ _ => by rw [kd (51 + 72 * u + 29 + 1) (by omega) (by omega)]) (fun i i0 i1 => ?_) (fun j a b => kw j (by omega)), fun i i0 i1 => ?_, ?_, ?_⟩
    · exact h38 _ (fun z => hn (z ▸ p2 i i0 i1))
    · rw [kw (298 + 2114 * u) (by omega)] at i1
      rw [live, kd (51 + 72 * u + 29 + 1) (by omega) (by omega)]; exact Or.inr (p2 i i0 i1)
    · exact rLens_keep p3 hA.2.1 (fun x x0 x1 => kd x (by omega) (by omega)) (ww 0 (by decide) (by omega) (by omega)) (fun q q0 q1 => ww _ (by omega) (by omega) (by omega)) (fun j j0 j1 => kw j (by omega))
    · exact rEds_keep p4 (by rw [kd (51 + 72 * u) (by omega) (by omega)]) (fun x x0 x1 => kd x (by omega) (by omega)) (ww 0 (by decide) (by omega) (by omega)) (fun q q0 q1 => ww _ (by omega) (by omega) (by omega)) a3 (fun j j0 j1 => kw j (by omega))
  · exact rG_keep hG (hd _ (by decide) (by decide) (by decide) (by decide) (by decide) (by decide) (by decide)) (hd _ (by decide) (by decide) (by decide) (by decide) (by decide) (by decide) (by decide)) (ww 3 (by decide) (by omega) (by omega)) a11 (fun j a b => ww j (by omega) (by omega) (by omega))
  · intro z
    rw [ww 0 (by decide) (by omega) (by omega)] at z
    exact absurd z cc
theorem jPig : ∀ n : Nat, 1 ≤ n → n ≤ 24 → ∀ g : Int → Int, (∀ j, 0 ≤ j → j < (n : Int) → 0 ≤ g j ∧ g j < (n : Int) - 1) → ∃ i j, 0 ≤ i ∧ i < j ∧ j < (n : Int) ∧ g i = g j := by
  intro n
  induction n with
  | zero => intro z; omega
  | succ n ih =>
    intro _ hn g hg
    by_cases n0 : n = 0
    · subst n0
      have := hg 0 (by omega) (by omega)
      omega
    · by_cases ex : ∃ i, 0 ≤ i ∧ i < (n : Int) ∧ g i = g n
      · obtain ⟨i, a1, a2, a3⟩ := ex
        exact ⟨i, n, a1, a2, by omega, a3⟩
      · have hgn := hg n (by omega) (by omega)
        obtain ⟨i, j, b1, b2, b3, b4⟩ := ih (by omega) (by omega) (fun j => if g j < g n then g j else g j - 1) (fun j j0 j1 => by
          have := hg j j0 (by omega)
          have ne : g j ≠ g n := fun e => ex ⟨j, j0, j1, e⟩
          split <;> omega)
        have ni : g i ≠ g n := fun e => ex ⟨i, b1, by omega, e⟩
        have nj : g j ≠ g n := fun e => ex ⟨j, by omega, b3, e⟩
        refine ⟨i, j, b1, b2, by omega, ?_⟩
        split at b4 <;> split at b4 <;> omega
/-- the class's new row -/
theorem sp_newC {C : jC} {w : Int → Int} (h : rS 35 C w) (n24 : w 273 < 24) (hk : w 2 < 1000000) {post : Int → jC → Prop}
    (y : ∀ (s : Int) (D : jC), 0 ≤ s → s < 24 → ¬ rLive C 35 s → (∀ j, 0 ≤ j → j < s → rLive C 35 j) → (∀ b, b ≠ 36 → b ≠ 38 → b ≠ 39 → b ≠ 40 → D b = C b) → (∀ j, j ≠ 7 → D 36 j = C 36 j) → D 36 7 = w 2 + 1 → (∀ t, t ≠ s → D 38 t = C 38 t) → D 38 s = w 2 → (∀ t c, t ≠ s → 0 ≤ c → c < 5 → D 39 (t * 5 + c) = C 39 (t * 5 + c)) → (∀ t c, t ≠ s → 0 ≤ c → c < 5 → D 40 (t * 5 + c) = C 40 (t * 5 + c)) → (∀ c, 0 ≤ c → c < w 0 → D 39 (s * 5 + c) = -1000000 ∧ D 40 (s * 5 + c) = -1) → post s D) : wp_7_seatNewRow 36 C post := by
  obtain ⟨o1, o2, o3, o4, o5⟩ := r_ord h
  obtain ⟨k1, k2, k3, k4⟩ := r_cols h
  have k7 := h.1.2.2.2.2.2.2.1
  simp only [Int.reduceAdd] at k7
  unfold wp_7_seatNewRow
  refine jL1_of (fun k => 0 ≤ k ∧ k ≤ 24 ∧ ∀ j, 0 ≤ j → j < k → rLive C 35 j) (fun k => (24 - k).toNat) (fun K k hi hk1 => ?_) ⟨by omega, by omega, fun j a b => by omega⟩
  obtain ⟨i0, i1, i2⟩ := hi
  unfold wp_7_seatNewRow_2
  by_cases a : 24 ≤ k
  · exfalso
    have ek : k = 24 := by omega
    subst ek
    have H : ∀ j, ∃ i, 0 ≤ j → j < 24 → 0 ≤ i ∧ i < w 273 ∧ C 42 i = j := by
      intro j
      by_cases q : 0 ≤ j ∧ j < 24
      · obtain ⟨i, a1, a2, a3⟩ := i2 j q.1 q.2
        simp only [Int.reduceAdd] at a2 a3
        exact ⟨i, fun _ _ => ⟨a1, by omega, a3⟩⟩
      · exact ⟨0, fun a b => absurd ⟨a, b⟩ q⟩
    obtain ⟨g, hg⟩ := Classical.skolem.mp H
    obtain ⟨i, j, b1, b2, b3, b4⟩ := jPig 24 (by omega) (by omega) g (fun j j0 j1 => ⟨(hg j j0 (by omega)).1, by have := (hg j j0 (by omega)).2.1; omega⟩)
    have e1 := (hg i b1 (by omega)).2.2
    have e2 := (hg j (by omega) (by omega)).2.2
    rw [b4, e2] at e1
    omega
  · rw [if_neg a]
    simp only [Int.reduceAdd]
    refine sp_holds (by omega) (fun r hr => ?_)
    simp only [Int.reduceAdd] at hr
    by_cases e : r = -1
    · rw [if_pos e, if_pos rfl]
      have nl : ¬ rLive C 35 k := by
        rintro ⟨i, a1, a2, a3⟩
        simp only [Int.reduceAdd] at a2 a3
        rcases hr with ⟨b0, -⟩ | ⟨-, b1⟩
        · omega
        · exact b1 i a1 a2 a3
      have z7 : jU C 38 k (C 36 7) 36 7 = w 2 := by rw [jU_ne (by decide)]; exact k7
      rw [z7]
      refine ⟨i0, ⟨by omega, by omega⟩, ?_⟩
      have key7 := k7
      refine jL2_of (fun c D => 0 ≤ c ∧ c ≤ w 0 ∧ (∀ b, b ≠ 36 → b ≠ 38 → b ≠ 39 → b ≠ 40 → D b = C b) ∧ (∀ j, j ≠ 7 → D 36 j = C 36 j) ∧ D 36 7 = w 2 + 1 ∧ (∀ t, t ≠ k → D 38 t = C 38 t) ∧ D 38 k = w 2 ∧ (∀ t c, t ≠ k → 0 ≤ c → c < 5 → D 39 (t * 5 + c) = C 39 (t * 5 + c)) ∧ (∀ t c, t ≠ k → 0 ≤ c → c < 5 → D 40 (t * 5 + c) = C 40 (t * 5 + c)) ∧ (∀ q, 0 ≤ q → q < c → D 39 (k * 5 + q) = -1000000 ∧ D 40 (k * 5 + q) = -1)) (fun c _ => (w 0 - c).toNat) (fun K2 c D hi2 hk2 => ?_) ⟨by omega, by omega, fun b b1 b2 _ _ => by rw [jU_ne b1, jU_ne b2], fun j hj => by rw [jU_at, if_pos rfl, if_neg hj, jU_ne (by decide)], by rw [jU_at, if_pos rfl, if_pos rfl], fun t ht => by rw [jU_ne (by decide), jU_at, if_pos rfl, if_neg ht], by rw [jU_ne (by decide), jU_at, if_pos rfl, if_pos rfl]; exact key7, fun t c _ _ _ => by rw [jU_ne (by decide), jU_ne (by decide)], fun t c _ _ _ => by rw [jU_ne (by decide), jU_ne (by decide)], fun q a b => by omega⟩
      obtain ⟨c0, c1, d1, d2, d3, d4, d5, d6, d7, d8⟩ := hi2
      unfold wp_7_seatNewRow_41
      rw [d2 0 (by decide), k1]
      by_cases f : w 0 ≤ c
      · rw [if_pos f]
        exact y k D i0 (by omega) nl i2 d1 d2 d3 d4 d5 d6 d7 (fun q a b => d8 q a (by omega))
      · rw [if_neg f]
        unfold wp_7_write
        rw [sp_seat1 i0 (by omega), if_neg (by decide), sp_col1 (by rw [d2 0 (by decide)]; omega) c0 (by rw [d2 0 (by decide)]; omega), if_neg (by decide)]
        simp only [Int.reduceAdd]
        refine ⟨by omega, by omega, hk2 _ _ ⟨by omega, by omega, fun b b1 b2 b3 b4 => by rw [jU_ne b4, jU_ne b3, d1 b b1 b2 b3 b4], fun j hj => by rw [jU_ne (by decide), jU_ne (by decide), d2 j hj], by rw [jU_ne (by decide), jU_ne (by decide), d3], fun t ht => by rw [jU_ne (by decide), jU_ne (by decide), d4 t ht], by rw [jU_ne (by decide), jU_ne (by decide), d5], fun t q a b e => ?_, fun t q a b e => ?_, fun q a b => ?_⟩ (by omega)⟩
        · rw [jU_ne (by decide), jU_at, if_pos rfl, if_neg (by omega)]; exact d6 t q a b e
        · rw [jU_at, if_pos rfl, if_neg (by omega), jU_ne (by decide)]; exact d7 t q a b e
        · by_cases eq : q = c
          · subst eq
            rw [jU_ne (by decide), jU_at, if_pos rfl, if_pos rfl, jU_at, if_pos rfl, if_pos rfl]
            exact ⟨rfl, rfl⟩
          · rw [jU_ne (by decide), jU_at, if_pos rfl, if_neg (by omega), jU_at, if_pos rfl, if_neg (by omega), jU_ne (by decide)]
            exact d8 q a (by omega)
    · rw [if_neg e, if_neg (by decide)]
      have li : rLive C 35 k := by
        rcases hr with ⟨b0, b1, b2, -⟩ | ⟨b1, -⟩
        · exact ⟨r, b0, b1, b2⟩
        · exact absurd b1 e
      refine hk1 _ ⟨by omega, by omega, fun j a b => ?_⟩ (by omega)
      by_cases ej : j = k
      · rw [ej]; exact li
      · exact i2 j a (by omega)
/-- the model's world with a new row at seat s -/
def jNewW (s : Int) (w : Int → Int) : Int → Int := fun j => if j = 2 then w 2 + 1 else if j = 9 + 11 * s then w 2 else if 9 + 11 * s + 1 ≤ j ∧ j < 9 + 11 * s + 6 then -1000000 else if 9 + 11 * s + 6 ≤ j ∧ j < 9 + 11 * s + 11 then -1 else w j
theorem sp_newM {C D : jC} {w : Int → Int} (h : rS 35 C w) (hD : D 346 = w) (hk : w 2 < 1000000) {s : Int} (s0 : 0 ≤ s) (s1 : s < 24) (hn : ¬ rLive C 35 s) (hf : ∀ j, 0 ≤ j → j < s → rLive C 35 j) {post : Int → jC → Prop} (y : post (w 2) (jV D 346 (jNewW s w))) : wp_12_comes D post := by
  obtain ⟨k1, k2, k3, k4⟩ := r_cols h
  unfold wp_12_comes
  refine jL1_of (fun k => 0 ≤ k ∧ k ≤ s) (fun k => (s - k).toNat) (fun K k hi hk1 => ?_) ⟨by omega, by omega⟩
  obtain ⟨i0, i1⟩ := hi
  unfold wp_12_comes_2
  refine ⟨by omega, by omega, ?_⟩
  rw [hD]
  by_cases e : k = s
  · subst e
    have ws : w (9 + 11 * k) = -1 := h.2.2.2.1.2.1 k s0 s1 hn
    rw [if_pos ws]
    refine jL2_of (fun c E => 0 ≤ c ∧ c ≤ 5 ∧ E = jV D 346 (fun j => if j = 9 + 11 * k then w 2 else if 9 + 11 * k + 1 ≤ j ∧ j < 9 + 11 * k + 1 + c then -1000000 else if 9 + 11 * k + 6 ≤ j ∧ j < 9 + 11 * k + 6 + c then -1 else w j)) (fun c _ => (5 - c).toNat) (fun K2 c E hi2 hk2 => ?_) ⟨by omega, by omega, ?_⟩
    · obtain ⟨c0, c1, rfl⟩ := hi2
      unfold wp_12_comes_46
      by_cases a : 5 ≤ c
      · rw [if_pos a]
        have ec : c = 5 := by omega
        subst ec
        have e2 : jV D 346 (fun j => if j = 9 + 11 * k then w 2 else if 9 + 11 * k + 1 ≤ j ∧ j < 9 + 11 * k + 1 + 5 then -1000000 else if 9 + 11 * k + 6 ≤ j ∧ j < 9 + 11 * k + 6 + 5 then -1 else w j) 346 2 = w 2 := by
          rw [jV_eq]
          rw [if_neg (by omega), if_neg (by omega), if_neg (by omega)]
        rw [e2]
        refine ⟨⟨by omega, by omega⟩, ?_⟩
        have e3 : jU (jV D 346 (fun j => if j = 9 + 11 * k then w 2 else if 9 + 11 * k + 1 ≤ j ∧ j < 9 + 11 * k + 1 + 5 then -1000000 else if 9 + 11 * k + 6 ≤ j ∧ j < 9 + 11 * k + 6 + 5 then -1 else w j)) 346 2 (w 2 + 1) = jV D 346 (jNewW k w) := by
          rw [jU_S, jV_V, jV_eq]
          congr 1
          funext j
          unfold jSet jNewW
          rw [show 9 + 11 * k + 1 + 5 = 9 + 11 * k + 6 by omega, show 9 + 11 * k + 6 + 5 = 9 + 11 * k + 11 by omega]
        rw [e3]; exact y
      · rw [if_neg a]
        refine ⟨by omega, by omega, by omega, by omega, hk2 _ _ ⟨by omega, by omega, ?_⟩ (by omega)⟩
        rw [jU_S, jU_S, jV_V, jV_V, jV_eq, jV_eq]
        congr 1
        funext j
        unfold jSet
        dsimp only
        by_cases b1 : j = 9 + 11 * k + 6 + c
        · rw [if_pos b1, if_neg (by omega), if_neg (by omega), if_pos (by omega)]
        rw [if_neg b1]
        by_cases b2 : j = 9 + 11 * k + 1 + c
        · rw [if_pos b2, if_neg (by omega), if_pos (by omega)]
        rw [if_neg b2]
        by_cases b3 : j = 9 + 11 * k
        · rw [if_pos b3, if_pos b3]
        rw [if_neg b3, if_neg b3]
        by_cases b4 : 9 + 11 * k + 1 ≤ j ∧ j < 9 + 11 * k + 1 + c
        · rw [if_pos b4, if_pos (by omega)]
        rw [if_neg b4, if_neg (show ¬ (9 + 11 * k + 1 ≤ j ∧ j < 9 + 11 * k + 1 + (c + 1)) by omega)]
        by_cases b5 : 9 + 11 * k + 6 ≤ j ∧ j < 9 + 11 * k + 6 + c
        · rw [if_pos b5, if_pos (by omega)]
        rw [if_neg b5, if_neg (by omega)]
    · rw [jU_S, hD]
      congr 1
      funext j
      unfold jSet
      by_cases b3 : j = 9 + 11 * k
      · rw [if_pos b3, if_pos b3]
      rw [if_neg b3, if_neg b3, if_neg (by omega), if_neg (by omega)]
  · have lv := hf k i0 (by omega)
    obtain ⟨u1, u2, -⟩ := r_live h i0 (by omega) lv
    rw [if_neg (by omega)]
    exact ⟨⟨by omega, by omega⟩, hk1 _ ⟨by omega, by omega⟩ (by omega)⟩

theorem sp_tellOne {C : jC} {v N : Int} (hN : N = 2 * C 36 0) (n0 : 0 ≤ N) (n1 : N ≤ 10) {t1 : Int → Prop} (H : ∀ (a : Int) (q : Int → Prop), 0 ≤ a → a < N → (t1 a → q 1) → (¬ t1 a → q 0) → wp_4_isTold 36 (51 + 72 * v + 29) a (-1) C q) {post : Int → jC → Prop} (y1 : ∀ a, 0 ≤ a → a < N → t1 a → (∀ j, 0 ≤ j → j < a → ¬ t1 j) → post 1 (jU C 339 5 a)) (y0 : (∀ j, 0 ≤ j → j < N → ¬ t1 j) → post 0 C) : wp_4_tellOneSort 36 (51 + 72 * v + 29) C post := by
  unfold wp_4_tellOneSort
  refine jL1_of (fun k => 0 ≤ k ∧ k ≤ N ∧ ∀ j, 0 ≤ j → j < k → ¬ t1 j) (fun k => (N - k).toNat) (fun K k hi hk => ?_) ⟨by omega, by omega, fun j a b => by omega⟩
  obtain ⟨i0, i1, i2⟩ := hi
  unfold wp_4_tellOneSort_2
  rw [← hN]
  refine ⟨⟨by omega, by omega⟩, ?_⟩
  by_cases a : N ≤ k
  · rw [if_pos a]
    exact y0 (fun j b c => i2 j b (by omega))
  · rw [if_neg a]
    refine H k _ i0 (by omega) (fun z => ?_) (fun z => ?_)
    · rw [if_neg (by decide)]
      exact y1 k i0 (by omega) z i2
    · rw [if_pos rfl]
      refine hk _ ⟨by omega, by omega, fun j b c => ?_⟩ (by omega)
      by_cases e : j = k
      · rw [e]; exact z
      · exact i2 j b (by omega)
theorem sp_tellTwo {C : jC} {v N : Int} (hN : N = 2 * C 36 0) (n0 : 0 ≤ N) (n1 : N ≤ 10) {t2 : Int → Int → Prop} (hd : ∀ a b, t2 a b → a / 2 ≠ b / 2) (H : ∀ (a b : Int) (q : Int → Prop), 0 ≤ a → a < N → 0 ≤ b → b < N → a / 2 ≠ b / 2 → (t2 a b → q 1) → (¬ t2 a b → q 0) → wp_4_isTold 36 (51 + 72 * v + 29) a b C q) {post : Int → jC → Prop} (y1 : ∀ a b, 0 ≤ a → a < N → 0 ≤ b → b < N → t2 a b → (∀ a' b', 0 ≤ a' → 0 ≤ b' → b' < N → (a' < a ∨ (a' = a ∧ b' < b)) → ¬ t2 a' b') → post 1 (jU (jU C 339 5 a) 339 6 b)) (y0 : (∀ a' b', 0 ≤ a' → a' < N → 0 ≤ b' → b' < N → ¬ t2 a' b') → post 0 C) : wp_4_tellTwoSorts 36 (51 + 72 * v + 29) C post := by
  unfold wp_4_tellTwoSorts
  refine jL1_of (fun k => 0 ≤ k ∧ k ≤ N ∧ ∀ a' b', 0 ≤ a' → a' < k → 0 ≤ b' → b' < N → ¬ t2 a' b') (fun k => (N - k).toNat) (fun K k hi hk => ?_) ⟨by omega, by omega, fun a' b' a b => by omega⟩
  obtain ⟨i0, i1, i2⟩ := hi
  unfold wp_4_tellTwoSorts_2
  rw [← hN]
  refine ⟨⟨by omega, by omega⟩, ?_⟩
  by_cases a : N ≤ k
  · rw [if_pos a]
    exact y0 (fun a' b' b c d e => i2 a' b' b (by omega) d e)
  · rw [if_neg a]
    refine jL1_of (fun j => 0 ≤ j ∧ j ≤ N ∧ ∀ b', 0 ≤ b' → b' < j → ¬ t2 k b') (fun j => (N - j).toNat) (fun K1 j hi1 hk1 => ?_) ⟨by omega, by omega, fun b' a b => by omega⟩
    obtain ⟨j0, j1, j2⟩ := hi1
    unfold wp_4_tellTwoSorts_15
    rw [← hN]
    refine ⟨⟨by omega, by omega⟩, ?_⟩
    by_cases b : N ≤ j
    · rw [if_pos b]
      refine ⟨⟨by omega, by omega⟩, hk _ ⟨by omega, by omega, fun a' b' c d e f => ?_⟩ (by omega)⟩
      by_cases g : a' = k
      · rw [g]; exact j2 b' e (by omega)
      · exact i2 a' b' c (by omega) e f
    · rw [if_neg b, tdiv_nn i0, tdiv_nn j0]
      have no : ¬ t2 k j → K1 (j + 1) := by
        intro z
        refine hk1 _ ⟨by omega, by omega, fun b' c d => ?_⟩ (by omega)
        by_cases g : b' = j
        · rw [g]; exact z
        · exact j2 b' c (by omega)
      by_cases c : k / 2 = j / 2
      · rw [if_pos c]
        exact no (fun z => hd _ _ z c)
      · rw [if_neg c]
        refine H k j _ i0 (by omega) j0 (by omega) c (fun z => ?_) (fun z => ?_)
        · rw [if_neg (by decide)]
          refine y1 k j i0 (by omega) j0 (by omega) z (fun a' b' d e f g => ?_)
          by_cases l : a' < k
          · exact i2 a' b' d l e f
          · have : a' = k := by omega
            rw [this]; exact j2 b' e (by omega)
        · rw [if_pos rfl]; exact no z
theorem sp_mTwo {b N : Int} {W : Int → Int} {C : jC} (n0 : 0 ≤ N) (n1 : N ≤ 10) {t2 : Int → Int → Prop} (hd : ∀ a b, t2 a b → a / 2 ≠ b / 2) (H : ∀ (E : jC) (a c : Int) (q : Int → Prop), E 346 = W → E 355 0 = a → E 355 1 = c → 0 ≤ a → a < N → 0 ≤ c → c < N → a / 2 ≠ c / 2 → (t2 a c → q 1) → (¬ t2 a c → q 0) → wp_12_isSorted b 2 E q) (hC : C 346 = W) {post : Int → jC → Prop}
    (y1 : ∀ (E : jC) (a c : Int), (∀ q, q ≠ 355 → E q = C q) → E 355 0 = a → E 355 1 = c → 0 ≤ a → a < N → 0 ≤ c → c < N → t2 a c → (∀ a' b', 0 ≤ a' → 0 ≤ b' → b' < N → (a' < a ∨ (a' = a ∧ b' < c)) → ¬ t2 a' b') → post 2 E) (y0 : ∀ E : jC, (∀ q, q ≠ 355 → E q = C q) → (∀ a' b', 0 ≤ a' → a' < N → 0 ≤ b' → b' < N → ¬ t2 a' b') → post (-1) E) : jL2 (wp_12_sortsTelling_51 b N post) 0 C := by
  refine jL2_of (fun k E => 0 ≤ k ∧ k ≤ N ∧ (∀ q, q ≠ 355 → E q = C q) ∧ ∀ a' b', 0 ≤ a' → a' < k → 0 ≤ b' → b' < N → ¬ t2 a' b') (fun k _ => (N - k).toNat) (fun K k E hi hk => ?_) ⟨by omega, by omega, fun _ _ => rfl, fun a' b' a b => by omega⟩
  obtain ⟨i0, i1, e1, i2⟩ := hi
  unfold wp_12_sortsTelling_51
  by_cases a : N ≤ k
  · rw [if_pos a]
    exact y0 E e1 (fun a' b' b c d e => i2 a' b' b (by omega) d e)
  · rw [if_neg a]
    refine jL2_of (fun j F => 0 ≤ j ∧ j ≤ N ∧ (∀ q, q ≠ 355 → F q = C q) ∧ ∀ b', 0 ≤ b' → b' < j → ¬ t2 k b') (fun j _ => (N - j).toNat) (fun K1 j F hi1 hk1 => ?_) ⟨by omega, by omega, e1, fun b' a b => by omega⟩
    obtain ⟨j0, j1, f1, j2⟩ := hi1
    unfold wp_12_sortsTelling_59
    by_cases b : N ≤ j
    · rw [if_pos b]
      refine ⟨⟨by omega, by omega⟩, hk _ _ ⟨by omega, by omega, f1, fun a' b' c d e f => ?_⟩ (by omega)⟩
      by_cases g : a' = k
      · rw [g]; exact j2 b' e (by omega)
      · exact i2 a' b' c (by omega) e f
    · rw [if_neg b, tdiv_nn i0, tdiv_nn j0]
      have g1 : ∀ q, q ≠ 355 → jU (jU F 355 0 k) 355 1 j q = C q := fun q hq => by rw [jU_ne hq, jU_ne hq, f1 q hq]
      have g2 : jU (jU F 355 0 k) 355 1 j 355 0 = k := by rw [jU_at, if_pos rfl, if_neg (by decide), jU_at, if_pos rfl, if_pos rfl]
      have g3 : jU (jU F 355 0 k) 355 1 j 355 1 = j := by rw [jU_at, if_pos rfl, if_pos rfl]
      have no : ¬ t2 k j → K1 (j + 1) (jU (jU F 355 0 k) 355 1 j) := by
        intro z
        refine hk1 _ _ ⟨by omega, by omega, g1, fun b' c d => ?_⟩ (by omega)
        by_cases g : b' = j
        · rw [g]; exact z
        · exact j2 b' c (by omega)
      by_cases c : k / 2 = j / 2
      · rw [if_pos c]
        exact no (fun z => hd _ _ z c)
      · rw [if_neg c]
        refine H _ k j _ (by rw [g1 346 (by decide)]; exact hC) g2 g3 i0 (by omega) j0 (by omega) c (fun z => ?_) (fun z => ?_)
        · rw [if_neg (by decide)]
          refine y1 _ k j g1 g2 g3 i0 (by omega) j0 (by omega) z (fun a' b' d e f g => ?_)
          by_cases l : a' < k
          · exact i2 a' b' d l e f
          · have : a' = k := by omega
            rw [this]; exact j2 b' e (by omega)
        · rw [if_pos rfl]; exact no z
theorem sp_mOne {b N : Int} {W : Int → Int} {C : jC} (n0 : 0 ≤ N) (n1 : N ≤ 10) {t1 : Int → Prop} (H : ∀ (E : jC) (a : Int) (q : Int → Prop), E 346 = W → E 355 0 = a → 0 ≤ a → a < N → (t1 a → q 1) → (¬ t1 a → q 0) → wp_12_isSorted b 1 E q) (hC : C 346 = W) {post : Int → jC → Prop}
    (y1 : ∀ (E : jC) (a : Int), (∀ q, q ≠ 355 → E q = C q) → E 355 0 = a → 0 ≤ a → a < N → t1 a → (∀ j, 0 ≤ j → j < a → ¬ t1 j) → post 1 E) (y0 : ∀ E : jC, (∀ q, q ≠ 355 → E q = C q) → (∀ j, 0 ≤ j → j < N → ¬ t1 j) → jL2 (wp_12_sortsTelling_51 b N post) 0 E) : jL2 (wp_12_sortsTelling_20 b N post) 0 C := by
  refine jL2_of (fun k E => 0 ≤ k ∧ k ≤ N ∧ (∀ q, q ≠ 355 → E q = C q) ∧ ∀ j, 0 ≤ j → j < k → ¬ t1 j) (fun k _ => (N - k).toNat) (fun K k E hi hk => ?_) ⟨by omega, by omega, fun _ _ => rfl, fun j a b => by omega⟩
  obtain ⟨i0, i1, e1, i2⟩ := hi
  unfold wp_12_sortsTelling_20
  by_cases a : N ≤ k
  · rw [if_pos a]
    exact y0 E e1 (fun j b c => i2 j b (by omega))
  · rw [if_neg a]
    have g1 : ∀ q, q ≠ 355 → jU E 355 0 k q = C q := fun q hq => by rw [jU_ne hq, e1 q hq]
    have g2 : jU E 355 0 k 355 0 = k := by rw [jU_at, if_pos rfl, if_pos rfl]
    refine H _ k _ (by rw [g1 346 (by decide)]; exact hC) g2 i0 (by omega) (fun z => ?_) (fun z => ?_)
    · rw [if_neg (by decide)]
      exact y1 _ k g1 g2 i0 (by omega) z i2
    · rw [if_pos rfl]
      refine hk _ _ ⟨by omega, by omega, g1, fun j b c => ?_⟩ (by omega)
      by_cases e : j = k
      · rw [e]; exact z
      · exact i2 j b (by omega)

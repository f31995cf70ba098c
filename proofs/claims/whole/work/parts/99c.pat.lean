-- the signs of a pattern, as bits and as one number
theorem jOr_add {P y : Int} (k : Nat) (P0 : 0 ≤ P) (P1 : P < 2 ^ k) (y0 : 0 ≤ y) (h : P + y * 2 ^ k < 2147483648) : jOr P (y * 2 ^ k) = P + y * 2 ^ k := by
  have t0 : (0 : Int) < 2 ^ k := Int.pow_pos (by decide)
  have X0 : 0 ≤ y * 2 ^ k := Int.mul_nonneg y0 (Int.le_of_lt t0)
  have e : ∀ z : Int, 0 ≤ z → z < 2147483648 → (Int32.ofInt z).toBitVec.toNat = z.toNat := by
    intro z z0 z1
    show (BitVec.ofInt 32 z).toNat = _
    rw [BitVec.toNat_ofInt]
    omega
  have eX : (y * 2 ^ k).toNat = y.toNat <<< k := by
    rw [Nat.shiftLeft_eq, Int.toNat_mul y0 (Int.le_of_lt t0)]
    congr 1
  have eP : P.toNat < 2 ^ k := by
    have : ((2 ^ k : Nat) : Int) = 2 ^ k := by norm_cast
    omega
  have e3 : (Int32.ofInt P ||| Int32.ofInt (y * 2 ^ k)).toBitVec.toNat = (P + y * 2 ^ k).toNat := by
    rw [Int32.toBitVec_or, BitVec.toNat_or, e P P0 (by omega), e _ X0 (by omega), eX, Nat.or_comm, ← Nat.shiftLeft_add_eq_or_of_lt eP, ← eX]
    omega
  unfold jOr
  have : (Int32.ofInt P ||| Int32.ofInt (y * 2 ^ k)).toInt = (Int32.ofInt P ||| Int32.ofInt (y * 2 ^ k)).toBitVec.toInt := rfl
  rw [this, BitVec.toInt_eq_toNat_of_lt (by rw [e3]; omega), e3]
  omega
theorem jShl_d : ∀ d : Nat, d < 28 → ∀ i : Nat, i < 4 → jShl (d : Int) (5 * (i : Int)) = (d : Int) * 2 ^ (5 * i) := by decide +kernel
def jDgt (T : Int → Int) (i : Int) : Int := if T i = 63 then 27 else T i - 96
def jPs (T : Int → Int) (i : Int) : Int := if (97 ≤ T i ∧ T i ≤ 122) ∨ T i = 63 then 1 else 0
theorem jDgt_rng {T : Int → Int} {i : Int} (h : jPs T i = 1) : 1 ≤ jDgt T i ∧ jDgt T i ≤ 27 := by
  unfold jPs at h
  unfold jDgt
  split at h
  · split <;> omega
  · omega
def jLw (T : Int → Int) (b k : Int) : Int := jFold (fun i a => if i < 4 then a + jDgt T (b + i) * 2 ^ (5 * i.toNat) else a) 0 k.toNat
def jCd (T : Int → Int) (b k : Int) : Int := jFold (fun i a => if i < 4 then 32 * a + jDgt T (b + i) else a) 0 k.toNat
theorem jLw_s {T : Int → Int} {b k : Int} (h : 0 ≤ k) : jLw T b (k + 1) = if k < 4 then jLw T b k + jDgt T (b + k) * 2 ^ (5 * k.toNat) else jLw T b k := jFold_s h
theorem jCd_s {T : Int → Int} {b k : Int} (h : 0 ≤ k) : jCd T b (k + 1) = if k < 4 then 32 * jCd T b k + jDgt T (b + k) else jCd T b k := jFold_s h
theorem jLw_e (T : Int → Int) (b : Int) : jLw T b 0 = 0 ∧ jLw T b 1 = jDgt T b ∧ jLw T b 2 = jDgt T b + jDgt T (b + 1) * 32 ∧ jLw T b 3 = jDgt T b + jDgt T (b + 1) * 32 + jDgt T (b + 2) * 1024 ∧ jLw T b 4 = jDgt T b + jDgt T (b + 1) * 32 + jDgt T (b + 2) * 1024 + jDgt T (b + 3) * 32768 := by
  have e1 := jLw_s (T := T) (b := b) (k := 0) (by omega)
  have e2 := jLw_s (T := T) (b := b) (k := 1) (by omega)
  have e3 := jLw_s (T := T) (b := b) (k := 2) (by omega)
  have e4 := jLw_s (T := T) (b := b) (k := 3) (by omega)
  rw [if_pos (by decide), show jLw T b 0 = 0 from rfl, show (2 : Int) ^ (5 * (0 : Int).toNat) = 1 from rfl] at e1
  rw [if_pos (by decide), show (2 : Int) ^ (5 * (1 : Int).toNat) = 32 from rfl] at e2
  rw [if_pos (by decide), show (2 : Int) ^ (5 * (2 : Int).toNat) = 1024 from rfl] at e3
  rw [if_pos (by decide), show (2 : Int) ^ (5 * (3 : Int).toNat) = 32768 from rfl] at e4
  simp only [Int.reduceAdd, Int.add_zero] at e1 e2 e3 e4
  exact ⟨rfl, by omega, by omega, by omega, by omega⟩
theorem jCd_e (T : Int → Int) (b : Int) : jCd T b 0 = 0 ∧ jCd T b 1 = jDgt T b ∧ jCd T b 2 = 32 * jDgt T b + jDgt T (b + 1) ∧ jCd T b 3 = 1024 * jDgt T b + 32 * jDgt T (b + 1) + jDgt T (b + 2) ∧ jCd T b 4 = 32768 * jDgt T b + 1024 * jDgt T (b + 1) + 32 * jDgt T (b + 2) + jDgt T (b + 3) := by
  have e1 := jCd_s (T := T) (b := b) (k := 0) (by omega)
  have e2 := jCd_s (T := T) (b := b) (k := 1) (by omega)
  have e3 := jCd_s (T := T) (b := b) (k := 2) (by omega)
  have e4 := jCd_s (T := T) (b := b) (k := 3) (by omega)
  rw [if_pos (by decide), show jCd T b 0 = 0 from rfl] at e1
  rw [if_pos (by decide)] at e2 e3 e4
  simp only [Int.reduceAdd, Int.add_zero] at e1 e2 e3 e4
  exact ⟨rfl, by omega, by omega, by omega, by omega⟩
theorem jPat_ok {T : Int → Int} {b n : Int} (h : ∀ i, 0 ≤ i → i < n → jPs T (b + i) = 1) (n0 : 0 ≤ n) (n4 : n ≤ 4) : rPat (jLw T b n) (jCd T b n) n := by
  obtain ⟨l0, l1, l2, l3, l4⟩ := jLw_e T b
  obtain ⟨c0, c1, c2, c3, c4⟩ := jCd_e T b
  have d : ∀ i, 0 ≤ i → i < n → 1 ≤ jDgt T (b + i) ∧ jDgt T (b + i) ≤ 27 := fun i a c => jDgt_rng (h i a c)
  have hn : n = 0 ∨ n = 1 ∨ n = 2 ∨ n = 3 ∨ n = 4 := by omega
  rcases hn with rfl | rfl | rfl | rfl | rfl
  · exact ⟨0, 0, 0, 0, by omega, by omega, Or.inl ⟨rfl, rfl, rfl, rfl, rfl, c0⟩⟩
  · have d0 := d 0 (by omega) (by omega)
    rw [Int.add_zero] at d0
    exact ⟨jDgt T b, 0, 0, 0, by omega, by omega, Or.inr (Or.inl ⟨rfl, d0.1, rfl, rfl, rfl, c1⟩)⟩
  · have d0 := d 0 (by omega) (by omega)
    rw [Int.add_zero] at d0
    have d1 := d 1 (by omega) (by omega)
    exact ⟨jDgt T b, jDgt T (b + 1), 0, 0, by omega, by omega, Or.inr (Or.inr (Or.inl ⟨rfl, d0.1, d1.1, rfl, rfl, c2⟩))⟩
  · have d0 := d 0 (by omega) (by omega)
    rw [Int.add_zero] at d0
    have d1 := d 1 (by omega) (by omega)
    have d2 := d 2 (by omega) (by omega)
    exact ⟨jDgt T b, jDgt T (b + 1), jDgt T (b + 2), 0, by omega, by omega, Or.inr (Or.inr (Or.inr (Or.inl ⟨rfl, d0.1, d1.1, d2.1, rfl, c3⟩)))⟩
  · have d0 := d 0 (by omega) (by omega)
    rw [Int.add_zero] at d0
    have d1 := d 1 (by omega) (by omega)
    have d2 := d 2 (by omega) (by omega)
    have d3 := d 3 (by omega) (by omega)
    exact ⟨jDgt T b, jDgt T (b + 1), jDgt T (b + 2), jDgt T (b + 3), by omega, by omega, Or.inr (Or.inr (Or.inr (Or.inr ⟨rfl, d0.1, d1.1, d2.1, d3.1, c4⟩)))⟩
theorem jLw_or {T : Int → Int} {b k : Int} (h : ∀ i, 0 ≤ i → i ≤ k → jPs T (b + i) = 1) (k0 : 0 ≤ k) (k4 : k < 4) : jOr (jLw T b k) (jShl (jDgt T (b + k)) (5 * k)) = jLw T b (k + 1) := by
  have d : ∀ i, 0 ≤ i → i ≤ k → 1 ≤ jDgt T (b + i) ∧ jDgt T (b + i) ≤ 27 := fun i a c => jDgt_rng (h i a c)
  obtain ⟨l0, l1, l2, l3, l4⟩ := jLw_e T b
  have dk := d k k0 (Int.le_refl _)
  have sh := jShl_d (jDgt T (b + k)).toNat (by omega) k.toNat (by omega)
  rw [Int.toNat_of_nonneg (by omega), Int.toNat_of_nonneg k0] at sh
  rw [sh, jLw_s k0, if_pos k4]
  have hk : k = 0 ∨ k = 1 ∨ k = 2 ∨ k = 3 := by omega
  have d0 := d 0 (by omega) k0
  rw [Int.add_zero] at d0
  rcases hk with rfl | rfl | rfl | rfl
  · refine jOr_add _ (by omega) ?_ (by omega) ?_
    · rw [l0]; decide
    · rw [l0, show (2 : Int) ^ (5 * (0 : Int).toNat) = 1 from rfl]; omega
  · refine jOr_add _ (by omega) ?_ (by omega) ?_
    · rw [l1, show (2 : Int) ^ (5 * (1 : Int).toNat) = 32 from rfl]; omega
    · rw [l1, show (2 : Int) ^ (5 * (1 : Int).toNat) = 32 from rfl]; omega
  · have d1 := d 1 (by omega) (by omega)
    refine jOr_add _ (by omega) ?_ (by omega) ?_
    · rw [l2, show (2 : Int) ^ (5 * (2 : Int).toNat) = 1024 from rfl]; omega
    · rw [l2, show (2 : Int) ^ (5 * (2 : Int).toNat) = 1024 from rfl]; omega
  · have d1 := d 1 (by omega) (by omega)
    have d2 := d 2 (by omega) (by omega)
    refine jOr_add _ (by omega) ?_ (by omega) ?_
    · rw [l3, show (2 : Int) ^ (5 * (3 : Int).toNat) = 32768 from rfl]; omega
    · rw [l3, show (2 : Int) ^ (5 * (3 : Int).toNat) = 32768 from rfl]; omega

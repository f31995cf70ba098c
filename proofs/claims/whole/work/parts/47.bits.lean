-- bits
theorem jShr_div {x : Int} (hx : jRng x) (k : Nat) (hk : ((Int32.ofInt (k : Int) &&& 31).toBitVec.smod 32).toNat = k) : jShr x k = x / 2 ^ k := by
  unfold jShr
  rw [pk_shr _ _ k hk, ji_toInt hx, Int.shiftRight_eq_div_pow]
  norm_cast
theorem jAnd_mod {x : Int} (hx : jRng x) {m : Int} (k : Nat) (hm : (Int32.ofInt m).toBitVec.toNat = 2 ^ k - 1) (hk : k ≤ 30) : jAnd x m = x % 2 ^ k := by
  unfold jAnd
  rw [pk_and _ k hm]
  have h1 : (Int32.ofInt x).toBitVec.toNat % 2 ^ k < 2 ^ k := Nat.mod_lt _ (Nat.two_pow_pos k)
  have h2 : (2 : Nat) ^ k ≤ 2 ^ 30 := Nat.pow_le_pow_right (by decide) hk
  rw [nI_toInt (by omega)]
  have h3 : ((Int32.ofInt x).toBitVec.toNat : Int) = x % 4294967296 := by
    show (((BitVec.ofInt 32 x).toNat : Nat) : Int) = _
    rw [BitVec.toNat_ofInt]
    have : (0 : Int) ≤ x % 4294967296 := Int.emod_nonneg _ (by decide)
    exact Int.toNat_of_nonneg this
  rw [Int.natCast_emod, h3]
  have h4 : ((2 ^ k : Nat) : Int) ∣ 4294967296 := by
    refine ⟨((2 ^ (32 - k) : Nat) : Int), ?_⟩
    rw [← Int.natCast_mul, ← Nat.pow_add, show k + (32 - k) = 32 by omega]
    rfl
  rw [Int.emod_emod_of_dvd _ h4]
  norm_cast
theorem jAnd31 {x : Int} (hx : jRng x) : jAnd x 31 = x % 32 := jAnd_mod hx 5 (by decide) (by decide)
theorem jAnd1 {x : Int} (hx : jRng x) : jAnd x 1 = x % 2 := jAnd_mod hx 1 (by decide) (by decide)
theorem jAnd255 {x : Int} (hx : jRng x) : jAnd x 255 = x % 256 := jAnd_mod hx 8 (by decide) (by decide)
theorem jShr0 {x : Int} (hx : jRng x) : jShr x 0 = x := by
  have := jShr_div hx 0 (by decide)
  simpa using this
theorem jShr5 {x : Int} (hx : jRng x) : jShr x 5 = x / 32 := jShr_div hx 5 (by decide)
theorem jShr10 {x : Int} (hx : jRng x) : jShr x 10 = x / 1024 := jShr_div hx 10 (by decide)
theorem jShr15 {x : Int} (hx : jRng x) : jShr x 15 = x / 32768 := jShr_div hx 15 (by decide)
-- patterns
/-- a sign against a letter: no sign any more: the letters end there, or there is a star; else the letter is as the sign, and so on -/
def pE (p l star : Int) (rest : Prop) : Prop := if p = 0 then (star = 1 ∨ l = 0) else (l ≠ 0 ∧ (p = 27 ∨ p = l)) ∧ rest
def pB (p0 p1 p2 p3 l0 l1 l2 l3 star : Int) : Prop := pE p0 l0 star (pE p1 l1 star (pE p2 l2 star (pE p3 l3 star True)))
theorem tdiv_nn {x y : Int} (h : 0 ≤ x) : x.tdiv y = x / y := Int.tdiv_eq_ediv_of_nonneg h
theorem tmod_nn {x y : Int} (h : 0 ≤ x) : x.tmod y = x % y := Int.tmod_eq_emod_of_nonneg h
theorem m_one {low star x i p l x2 : Int} {rest : Prop} {C : jC} {post : Int → Prop} {k : Int → Int → Prop} (hi : i < 4) (hs : jAnd (jShr low (5 * i)) 31 = p) (he : x.tdiv 19683 = l) (hm : x.tmod 19683 * 27 = x2) (hr : jRng x2) (hst : star = 0 ∨ star = 1) (h1 : pE p l star rest → post 1) (h0 : ¬ pE p l star rest → post 0) (h4 : (rest → post 1) → (¬ rest → post 0) → k x2 (i + 1)) : wp_1_matches_5 low star C post k x i := by
  unfold wp_1_matches_5
  unfold pE at h1 h0
  rw [hs, he, hm, if_neg (by omega)]
  by_cases a : p = 0
  · rw [if_pos a] at h1 h0 ⊢
    by_cases b : star = 0
    · rw [if_pos b]
      by_cases c : l = 0
      · rw [if_pos c]; exact h1 (Or.inr c)
      · rw [if_neg c]; exact h0 (by omega)
    · rw [if_neg b]; exact h1 (Or.inl (by omega))
  · rw [if_neg a] at h1 h0 ⊢
    by_cases c : l = 0
    · rw [if_pos c]; exact h0 (fun z => z.1.1 c)
    · rw [if_neg c]
      by_cases d : p = 27
      · rw [if_pos d]; exact ⟨hr, h4 (fun z => h1 ⟨⟨c, Or.inl d⟩, z⟩) (fun z => h0 (fun y => z y.2))⟩
      · rw [if_neg d]
        by_cases e : p = l
        · rw [if_pos e]; exact ⟨hr, h4 (fun z => h1 ⟨⟨c, Or.inr e⟩, z⟩) (fun z => h0 (fun y => z y.2))⟩
        · rw [if_neg e]; exact h0 (fun z => by omega)
theorem sp_matches {low p0 p1 p2 p3 l0 l1 l2 l3 v star : Int} {C : jC} {post : Int → Prop} (q0 : 0 ≤ p0 ∧ p0 ≤ 27) (q1 : 0 ≤ p1 ∧ p1 ≤ 27) (q2 : 0 ≤ p2 ∧ p2 ≤ 27) (q3 : 0 ≤ p3 ∧ p3 ≤ 27) (hl : low = p0 + 32 * p1 + 1024 * p2 + 32768 * p3)
    (hv : v = l0 * 19683 + l1 * 729 + l2 * 27 + l3) (hl0 : 0 ≤ l0 ∧ l0 ≤ 26) (hl1 : 0 ≤ l1 ∧ l1 ≤ 26) (hl2 : 0 ≤ l2 ∧ l2 ≤ 26) (hl3 : 0 ≤ l3 ∧ l3 ≤ 26) (hs : star = 0 ∨ star = 1)
    (h1 : pB p0 p1 p2 p3 l0 l1 l2 l3 star → post 1) (h0 : ¬ pB p0 p1 p2 p3 l0 l1 l2 l3 star → post 0) : wp_1_matches low star v C post := by
  have rl : jRng low := ⟨by omega, by omega⟩
  have s0 : jAnd (jShr low (5 * 0)) 31 = p0 := by rw [show (5 : Int) * 0 = 0 by decide, jShr0 rl, jAnd31 rl]; omega
  have s1 : jAnd (jShr low (5 * (0 + 1))) 31 = p1 := by
    rw [show (5 : Int) * (0 + 1) = 5 by decide, jShr5 rl, jAnd31 ⟨by omega, by omega⟩]; omega
  have s2 : jAnd (jShr low (5 * (0 + 1 + 1))) 31 = p2 := by
    rw [show (5 : Int) * (0 + 1 + 1) = 10 by decide, jShr10 rl, jAnd31 ⟨by omega, by omega⟩]; omega
  have s3 : jAnd (jShr low (5 * (0 + 1 + 1 + 1))) 31 = p3 := by
    rw [show (5 : Int) * (0 + 1 + 1 + 1) = 15 by decide, jShr15 rl, jAnd31 ⟨by omega, by omega⟩]; omega
  have v0 : 0 ≤ v := by omega
  have e0 : v.tdiv 19683 = l0 := by rw [tdiv_nn v0]; omega
  have m0 : v.tmod 19683 * 27 = l1 * 19683 + l2 * 729 + l3 * 27 := by rw [tmod_nn v0]; omega
  have e1 : (l1 * 19683 + l2 * 729 + l3 * 27).tdiv 19683 = l1 := by rw [tdiv_nn (by omega)]; omega
  have m1 : (l1 * 19683 + l2 * 729 + l3 * 27).tmod 19683 * 27 = l2 * 19683 + l3 * 729 := by rw [tmod_nn (by omega)]; omega
  have e2 : (l2 * 19683 + l3 * 729).tdiv 19683 = l2 := by rw [tdiv_nn (by omega)]; omega
  have m2 : (l2 * 19683 + l3 * 729).tmod 19683 * 27 = l3 * 19683 := by rw [tmod_nn (by omega)]; omega
  have e3 : (l3 * 19683).tdiv 19683 = l3 := by rw [tdiv_nn (by omega)]; omega
  have m3 : (l3 * 19683).tmod 19683 * 27 = 0 := by rw [tmod_nn (by omega)]; omega
  have R : ∀ x : Int, 0 ≤ x → x < 1000000 → jRng x := fun x a b => ⟨by omega, by omega⟩
  unfold pB at h1 h0
  unfold wp_1_matches
  refine ⟨5, ?_⟩
  refine m_one (k := jI2 (wp_1_matches_5 low star C post) 4) (by decide) s0 e0 m0 (R _ (by omega) (by omega)) hs h1 h0 (fun h1 h0 => ?_)
  refine m_one (k := jI2 (wp_1_matches_5 low star C post) 3) (by decide) s1 e1 m1 (R _ (by omega) (by omega)) hs h1 h0 (fun h1 h0 => ?_)
  refine m_one (k := jI2 (wp_1_matches_5 low star C post) 2) (by decide) s2 e2 m2 (R _ (by omega) (by omega)) hs h1 h0 (fun h1 h0 => ?_)
  refine m_one (k := jI2 (wp_1_matches_5 low star C post) 1) (by decide) s3 e3 m3 (R _ (by omega) (by omega)) hs h1 h0 (fun h1 h0 => ?_)
  show wp_1_matches_5 low star C post (jI2 (wp_1_matches_5 low star C post) 0) 0 (0 + 1 + 1 + 1 + 1)
  unfold wp_1_matches_5
  rw [if_pos (by decide)]
  exact h1 trivial

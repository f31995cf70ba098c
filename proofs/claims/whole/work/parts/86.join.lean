theorem rLst_room {C : jC} {a : Int} {w : Int → Int} {q b x : Int} (h : rLst C a w q b) (x0 : 0 ≤ x) (x1 : x < 24) (hn : ∀ i, 0 ≤ i → i < w b → C (q + 1) i ≠ x) : w b < 24 := by
  obtain ⟨a1, a2, a3, a4, a5⟩ := h
  by_cases e : w b < 24
  · exact e
  · exfalso
    obtain ⟨i, j, b1, b2, b3, b4⟩ := jPig 24 (by omega) (by omega) (fun i => if C (q + 1) i < x then C (q + 1) i else C (q + 1) i - 1) (fun j j0 j1 => by
      have := a4 j j0 (by omega)
      have ne := hn j j0 (by omega)
      split <;> omega)
    have ni := hn i b1 (by omega)
    have nj := hn j (by omega) (by omega)
    have ne := a5 i j b1 b2 (by omega)
    split at b4 <;> split at b4 <;> omega
theorem rAll_mono {C : jC} {K K' : Int} (h : rAll C K) (hk : K ≤ K') : rAll C K' := by
  obtain ⟨a1, a2, a3, a4, a5, a6, a7, a8⟩ := h
  refine ⟨a1, a2, a3, a4, a5, a6, by omega, ?_⟩
  rcases a8 with z | ⟨z1, z2, z3, z4⟩
  · exact Or.inl z
  · exact Or.inr ⟨z1, z2, z3, by omega⟩
/-- a key put into a list of the model's at b, at place p -/
def jApp (b p key : Int) (w : Int → Int) : Int → Int := jSet (jInsF w (b + 1) p (w b) key) b (w b + 1)
theorem jApp_out {b p key j : Int} {w : Int → Int} (p0 : 0 ≤ p) (p1 : p ≤ w b) (h : j < b ∨ b + 1 + w b < j) : jApp b p key w j = w j := by
  unfold jApp
  by_cases e : j = b
  · omega
  · rw [jSet_ne e, jIns_out p0 p1 (by omega)]
theorem jApp_b {b p key : Int} {w : Int → Int} : jApp b p key w b = w b + 1 := jSet_eq _ _ _
theorem jApp_i {b p key i : Int} {w : Int → Int} (i0 : 0 ≤ i) (i1 : i ≤ w b) : jApp b p key w (b + 1 + i) = if i < p then w (b + 1 + i) else if i = p then key else w (b + 1 + (i - 1)) := by
  unfold jApp
  rw [jSet_ne (by omega), jIns_w i1]
/-- a live row put into a view's list at place p -/
theorem rS_put {C D : jC} {w : Int → Int} (h : rS 35 C w) {v p s : Int} (v0 : 0 ≤ v) (v1 : v < 4) (p0 : 0 ≤ p) (p1 : p ≤ w (298 + 2114 * v)) (s0 : 0 ≤ s) (s1 : s < 24) (sl : rLive C 35 s) (hn : ∀ i, 0 ≤ i → i < w (298 + 2114 * v) → C (51 + 72 * v + 29 + 1) i ≠ s)
    (hD : D = jV (jV C (51 + 72 * v + 29 + 1) (jInsF (C (51 + 72 * v + 29 + 1)) 0 p (C (51 + 72 * v + 29) 1) s)) (51 + 72 * v + 29) (jSet (C (51 + 72 * v + 29)) 1 (C (51 + 72 * v + 29) 1 + 1))) : rS 35 D (jApp (298 + 2114 * v) p (C 38 s) w) := by
  obtain ⟨q1, q2, -, -⟩ := r_view h v0 v1
  have n24 := rLst_room q1 s0 s1 hn
  have q11 := q1.1
  have fr : ∀ b, b ≠ 51 + 72 * v + 29 → b ≠ 51 + 72 * v + 30 → D b = C b := fun b b1 b2 => by rw [hD, jV_ne b1, jV_ne (by omega)]
  have d1 : D (51 + 72 * v + 29) 1 = w (298 + 2114 * v) + 1 := by rw [hD, jV_eq, jSet_eq, q11]
  have d2 : ∀ i, 0 ≤ i → i ≤ w (298 + 2114 * v) → D (51 + 72 * v + 29 + 1) i = if i < p then C (51 + 72 * v + 29 + 1) i else if i = p then s else C (51 + 72 * v + 29 + 1) (i - 1) := fun i i0 i1 => by rw [hD, jV_ne (by omega), jV_eq, q11, jIns_c i1]
  have e38 : D (35 + 3) = C (35 + 3) := fr _ (by omega) (by omega)
  refine rS_list h v0 v1 (fun b b1 b2 _ => fr b b1 b2) (fun j hj => jApp_out p0 p1 (by omega)) (rLst_ins q1 p0 p1 n24 s0 s1 hn d1 d2 jApp_b (fun i i0 i1 => by rw [jApp_i i0 i1, e38]; rfl) (fun i _ _ => by rw [e38])) (fun i i0 i1 => ?_)
  rw [jApp_b] at i1
  rw [d2 i i0 (by omega)]
  by_cases e1 : i < p
  · rw [if_pos e1]; exact q2 i i0 (by omega)
  rw [if_neg e1]
  by_cases e2 : i = p
  · rw [if_pos e2]; exact sl
  rw [if_neg e2]; exact q2 (i - 1) (by omega) (by omega)
/-- the worlds of the model while a row joins the other views -/
def jJn (φ : Int → Int) (th key : Int) (w : Int → Int) : Nat → Int → Int
  | 0 => w
  | n + 1 => if (n : Int) = th ∨ φ n = 0 then jJn φ th key w n else jApp (298 + 2114 * n) (jJn φ th key w n (298 + 2114 * n)) key (jJn φ th key w n)
theorem jJn_s {φ : Int → Int} {th key : Int} {w : Int → Int} {k : Int} (h : 0 ≤ k) : jJn φ th key w (k + 1).toNat = if k = th ∨ φ k = 0 then jJn φ th key w k.toNat else jApp (298 + 2114 * k) (jJn φ th key w k.toNat (298 + 2114 * k)) key (jJn φ th key w k.toNat) := by
  rw [show (k + 1).toNat = k.toNat + 1 by omega]
  show (if ((k.toNat : Nat) : Int) = th ∨ φ ((k.toNat : Nat) : Int) = 0 then jJn φ th key w k.toNat else jApp (298 + 2114 * ((k.toNat : Nat) : Int)) (jJn φ th key w k.toNat (298 + 2114 * ((k.toNat : Nat) : Int))) key (jJn φ th key w k.toNat)) = _
  rw [Int.toNat_of_nonneg h]
theorem jJn_congr {φ ψ : Int → Int} {th key : Int} {w : Int → Int} (k : Nat) (h : ∀ u : Int, 0 ≤ u → u < (k : Int) → φ u = ψ u) : jJn φ th key w k = jJn ψ th key w k := by
  induction k with
  | zero => rfl
  | succ k ih =>
    show (if (k : Int) = th ∨ φ k = 0 then jJn φ th key w k else jApp (298 + 2114 * k) (jJn φ th key w k (298 + 2114 * k)) key (jJn φ th key w k)) = (if (k : Int) = th ∨ ψ k = 0 then jJn ψ th key w k else jApp (298 + 2114 * k) (jJn ψ th key w k (298 + 2114 * k)) key (jJn ψ th key w k))
    rw [ih (fun u a b => h u a (by omega)), h k (by omega) (by omega)]
def jJok (φ : Int → Int) (th key : Int) (w : Int → Int) (k : Int) : Prop := ∀ u, 0 ≤ u → u < k → u ≠ th → (φ u = 0 ∨ φ u = 1) ∧ ∀ E : jC, E 346 = jJn φ th key w u.toNat → jDet (wp_12_isFit u key E) (φ u)
/-- what stays of the model's world, and how long the lists are -/
theorem jJn_low {φ : Int → Int} {th key : Int} {w : Int → Int} (hw : ∀ u, 0 ≤ u → u < 4 → 0 ≤ w (298 + 2114 * u) ∧ w (298 + 2114 * u) < 24) (k : Nat) (hk : (k : Int) ≤ 4) : ∀ j, (∀ u, 0 ≤ u → u < (k : Int) → j < 298 + 2114 * u ∨ 298 + 2114 * u + 25 ≤ j) → jJn φ th key w k j = w j := by
  induction k with
  | zero => intro j _; rfl
  | succ k ih =>
    intro j hj
    have i1 := ih (by omega) j (fun u a b => hj u a (by omega))
    have i2 := ih (by omega) (298 + 2114 * k) (fun u a b => by omega)
    have hk' := hj k (by omega) (by omega)
    have hl := hw k (by omega) (by omega)
    show (if (k : Int) = th ∨ φ k = 0 then jJn φ th key w k else jApp (298 + 2114 * k) (jJn φ th key w k (298 + 2114 * k)) key (jJn φ th key w k)) j = w j
    by_cases e : (k : Int) = th ∨ φ k = 0
    · rw [if_pos e]; exact i1
    · rw [if_neg e, jApp_out (by rw [i2]; omega) (by omega) (by rw [i2]; omega)]; exact i1
theorem jJn_low2 {φ : Int → Int} {th key : Int} {w : Int → Int} (hw : ∀ u, 0 ≤ u → u < 4 → 0 ≤ w (298 + 2114 * u) ∧ w (298 + 2114 * u) ≤ 24) (hw2 : ∀ u, 0 ≤ u → u < 4 → u ≠ th → w (298 + 2114 * u) < 24) (k : Nat) (hk : (k : Int) ≤ 4) : ∀ u, (k : Int) ≤ u → u < 4 → jJn φ th key w k (298 + 2114 * u) = w (298 + 2114 * u) := by
  induction k with
  | zero => intro u _ _; rfl
  | succ k ih =>
    intro u u0 u1
    have i1 := ih (by omega) u (by omega) u1
    have i2 := ih (by omega) k (Int.le_refl _) (by omega)
    have hl := hw k (by omega) (by omega)
    show (if (k : Int) = th ∨ φ k = 0 then jJn φ th key w k else jApp (298 + 2114 * k) (jJn φ th key w k (298 + 2114 * k)) key (jJn φ th key w k)) (298 + 2114 * u) = _
    by_cases e : (k : Int) = th ∨ φ k = 0
    · rw [if_pos e]; exact i1
    · have hl2 := hw2 k (by omega) (by omega) (fun z => e (Or.inl z))
      rw [if_neg e, jApp_out (by rw [i2]; omega) (by omega) (by rw [i2]; omega)]; exact i1
/-- asked by the first filter that a row is unlike, instead of whether it suits -/
theorem sp_suits {a b s : Int} {C : jC} {P Q : Prop} (h : wp_2_suits a b s C (fun x => if x = 0 then Q else P)) : wp_2_firstUnlike a b s C (fun x => if x = -1 then P else Q) := by
  have e : (fun x1 : Int => if x1 = -1 then (if (1 : Int) = 0 then Q else P) else (if (0 : Int) = 0 then Q else P)) = (fun x : Int => if x = -1 then P else Q) := by
    funext x
    by_cases q : x = -1
    · rw [if_pos q, if_pos q, if_neg (by decide)]
    · rw [if_neg q, if_neg q, if_pos rfl]
  unfold wp_2_suits at h
  rw [← e]
  exact h
theorem sp_joinC {C : jC} {w : Int → Int} (h : rS 35 C w) {s th : Int} (s0 : 0 ≤ s) (s1 : s < 24) (sl : rLive C 35 s) (hn : ∀ u, 0 ≤ u → u < 4 → u ≠ th → ∀ i, 0 ≤ i → i < w (298 + 2114 * u) → C (51 + 72 * u + 29 + 1) i ≠ s) {post : jC → Prop}
    (y : ∀ (φ : Int → Int) (D : jC), jJok φ th (C 38 s) w 4 → (∀ b, ¬ (80 ≤ b ∧ b < 298) → D b = C b) → rS 35 D (jJn φ th (C 38 s) w 4) → (∀ u, 0 ≤ u → u < 4 → u ≠ th → w (298 + 2114 * u) < 24) → (th < 0 ∨ D (51 + 72 * th + 29) = C (51 + 72 * th + 29) ∧ D (51 + 72 * th + 29 + 1) = C (51 + 72 * th + 29 + 1)) → post D) : wp_8_joinOthers 35 s th C post := by
  have room : ∀ u, 0 ≤ u → u < 4 → u ≠ th → w (298 + 2114 * u) < 24 := fun u u0 u1 u2 => rLst_room (r_view h u0 u1).1 s0 s1 (hn u u0 u1 u2)
  unfold wp_8_joinOthers
  refine jL2_of (fun k D => 0 ≤ k ∧ k ≤ 4 ∧ ∃ φ, jJok φ th (C 38 s) w k ∧ (∀ b, (∀ u, 0 ≤ u → u < k → u ≠ th → b ≠ 51 + 72 * u + 29 ∧ b ≠ 51 + 72 * u + 29 + 1) → D b = C b) ∧ rS 35 D (jJn φ th (C 38 s) w k.toNat) ∧ (∀ u, k ≤ u → u < 4 → jJn φ th (C 38 s) w k.toNat (298 + 2114 * u) = w (298 + 2114 * u))) (fun k _ => (4 - k).toNat) (fun K k D hi hk => ?_) ⟨by omega, by omega, fun _ => 0, fun u a b => by omega, fun b _ => rfl, h, fun u _ _ => rfl⟩
  obtain ⟨i0, i1, φ, i2, i3, i4, i5⟩ := hi
  unfold wp_8_joinOthers_2
  by_cases a : 4 ≤ k
  · rw [if_pos a]
    have ek : k = 4 := by omega
    subst ek
    refine y φ D i2 (fun b hb => i3 b (fun u u0 u1 _ => by omega)) i4 room ?_
    by_cases t : th < 0
    · exact Or.inl t
    · exact Or.inr ⟨i3 _ (fun u u0 u1 u2 => by omega), i3 _ (fun u u0 u1 u2 => by omega)⟩
  · rw [if_neg a]
    by_cases b : k = th
    · rw [if_pos b]
      have e : jJn φ th (C 38 s) w (k + 1).toNat = jJn φ th (C 38 s) w k.toNat := by rw [jJn_s i0, if_pos (Or.inl b)]
      refine hk _ _ ⟨by omega, by omega, φ, fun u u0 u1 u2 => i2 u u0 (by omega) u2, fun b' hb => i3 b' (fun u u0 u1 u2 => hb u u0 (by omega) u2), by rw [e]; exact i4, fun u u0 u1 => by rw [e]; exact i5 u (by omega) u1⟩ (by omega)
    · rw [if_neg b]
      refine ⟨i0, ?_⟩
      simp only [Int.reduceAdd]
      have slD : rLive D 35 s := by
        obtain ⟨z, z0, z1, z2⟩ := sl
        exact ⟨z, z0, by rw [i3 (35 + 6) (fun u _ _ _ => by omega)]; exact z1, by rw [i3 (35 + 7) (fun u _ _ _ => by omega)]; exact z2⟩
      have e38 : D 38 = C 38 := i3 38 (fun u _ _ _ => by omega)
      obtain ⟨r, r0, r1, r2⟩ := sp_fit i4 i0 (show k < 4 by omega) s0 s1 slD
      rw [e38] at r2
      refine sp_suits ?_
      refine r1 _ ?_
      have cg : ∀ q : Int, 0 ≤ q → q ≤ k → jJn (fun u => if u = k then r else φ u) th (C 38 s) w q.toNat = jJn φ th (C 38 s) w q.toNat := fun q q0 q1 => jJn_congr _ (fun u u0 u1 => by rw [if_neg (by omega)])
      have ok' : jJok (fun u => if u = k then r else φ u) th (C 38 s) w (k + 1) := by
        intro u u0 u1 u2
        rw [cg u u0 (by omega)]
        dsimp only
        by_cases e : u = k
        · subst e
          rw [if_pos rfl]
          exact ⟨r0, fun E hE => r2 E hE⟩
        · rw [if_neg e]
          exact i2 u u0 (by omega) u2
      have st := jJn_s (φ := fun u => if u = k then r else φ u) (th := th) (key := C 38 s) (w := w) i0
      rw [cg k i0 (Int.le_refl _), if_pos rfl] at st
      by_cases c : r = 0
      · rw [if_pos c]
        rw [if_pos (Or.inr c)] at st
        refine hk _ _ ⟨by omega, by omega, _, ok', fun b' hb => i3 b' (fun u u0 u1 u2 => hb u u0 (by omega) u2), by rw [st]; exact i4, fun u u0 u1 => by rw [st]; exact i5 u (by omega) u1⟩ (by omega)
      · rw [if_neg c]
        rw [if_neg (by omega)] at st
        have rm := room k i0 (by omega) b
        have l1 := (r_list i4 i0 (show k < 4 by omega)).1
        have l2 := (r_list i4 i0 (show k < 4 by omega)).2.1
        have wk := i5 k (Int.le_refl _) (by omega)
        rw [wk] at l1 l2
        have d29 : D (51 + 72 * k + 29 + 1) = C (51 + 72 * k + 29 + 1) := i3 _ (fun u u0 u1 _ => by omega)
        refine sp_putLast ⟨by omega, by omega⟩ (by omega) (by omega) ?_
        have rs := rS_put (p := D (51 + 72 * k + 29) 1) i4 i0 (show k < 4 by omega) (by omega) (by omega) s0 s1 slD (fun i a b' => by rw [d29]; exact hn k i0 (by omega) b i a (by omega)) rfl
        rw [e38, l1] at rs
        rw [wk] at st
        refine hk _ _ ⟨by omega, by omega, _, ok', fun b' hb => ?_, by rw [st, l1]; exact rs, fun u u0 u1 => ?_⟩ (by omega)
        · have hb' := hb k i0 (by omega) b
          rw [jV_ne hb'.1, jV_ne hb'.2]
          exact i3 b' (fun u u0 u1 u2 => hb u u0 (by omega) u2)
        · rw [st, jApp_out (by omega) (by omega) (by omega)]; exact i5 u (by omega) u1

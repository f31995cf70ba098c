-- NEW CELLS: a segment of the picture, from a number on, by its kinds
def jZa (Z : jE) (ad : Nat → Nat) : jE := (Z.1, Z.2.1, ad, Z.2.2.2)
def jSg (Z : jE) (ad : Nat → Nat) (C : jC) : Nat → List Nat → va_W
  | _, [] => []
  | B, c :: L => (ad B, jcell (jZa Z ad) c (B : Int) (C (B : Int))) :: jSg Z ad C (B + 1) L
theorem jSg_app {Z : jE} {ad : Nat → Nat} {C : jC} (L1 L2 : List Nat) : ∀ B, jSg Z ad C B (L1 ++ L2) = jSg Z ad C B L1 ++ jSg Z ad C (B + L1.length) L2 := by
  induction L1 with
  | nil => intro B; rfl
  | cons c L ih =>
    intro B
    show (ad B, _) :: jSg Z ad C (B + 1) (L ++ L2) = (ad B, _) :: jSg Z ad C (B + 1) L ++ jSg Z ad C (B + (L.length + 1)) L2
    rw [ih (B + 1), show B + (L.length + 1) = B + 1 + L.length by omega]
    rfl
theorem jSg_at {Z : jE} {ad : Nat → Nat} {C : jC} {L : List Nat} : ∀ {B i c : Nat}, L[i]? = some c → (jSg Z ad C B L)[i]? = some (ad (B + i), jcell (jZa Z ad) c ((B + i : Nat) : Int) (C ((B + i : Nat) : Int))) := by
  induction L with
  | nil => intro B i c h; simp at h
  | cons d L ih =>
    intro B i c h
    cases i with
    | zero =>
      have h : d = c := by simpa using h
      subst h
      rfl
    | succ i =>
      have h : L[i]? = some c := by simpa using h
      have := ih (B := B + 1) h
      rw [show B + 1 + i = B + (i + 1) by omega] at this
      exact this
theorem jSg_len {Z : jE} {ad : Nat → Nat} {C : jC} {L : List Nat} : ∀ {B : Nat}, (jSg Z ad C B L).length = L.length := by
  induction L with
  | nil => intro B; rfl
  | cons d L ih => intro B; show (jSg Z ad C (B + 1) L).length + 1 = L.length + 1; rw [ih]
theorem jSg_ws {Z : jE} {ad : Nat → Nat} {C : jC} {n : Nat} (hn : n ≤ 661) : jws (jZa Z ad) n C = jSg Z ad C 0 (jKs.take n) := by
  apply List.ext_getElem?
  intro i
  by_cases hi : i < n
  · have hl : i < jKs.length := by rw [jKs_len]; omega
    have e : (jKs.take n)[i]? = some (jK i) := by
      rw [List.getElem?_take, if_pos hi, List.getElem?_eq_getElem hl]
      unfold jK
      rw [List.getD_eq_getElem?_getD, List.getElem?_eq_getElem hl]
      rfl
    rw [jws_at hi, jSg_at e, Nat.zero_add]
    rfl
  · rw [List.getElem?_eq_none (by rw [jws_len]; omega), List.getElem?_eq_none (by rw [jSg_len, List.length_take]; omega)]
def jReach (c : Nat) : Nat := match c with
  | 0 => 5
  | 1 => 5
  | 2 => 3
  | 3 => 2
  | 4 => 6
  | 5 => 2
  | 6 => 2
  | 7 => 6
  | 8 => 12
  | 9 => 5
  | 10 => 32
  | 11 => 340
  | 12 => 11
  | 21 => 23
  | 23 => 225
  | _ => 1
def jClo (C : jC) : Nat → List Nat → Prop
  | _, [] => True
  | B, c :: L => (jReach c ≤ L.length + 1 ∧ (c = 22 → ∀ j : Nat, j < 8 → B ≤ (C (B : Int) (j : Int)).toNat ∧ (C (B : Int) (j : Int)).toNat < B + (L.length + 1)) ∧ (c = 11 → C (B : Int) 4 = -1)) ∧ jClo C (B + 1) L
theorem jClo_app {C : jC} (L1 L2 : List Nat) : ∀ B, jClo C B L1 → jClo C (B + L1.length) L2 → jClo C B (L1 ++ L2) := by
  induction L1 with
  | nil => intro B _ h; exact h
  | cons c L ih =>
    intro B h1 h2
    obtain ⟨⟨a1, a2, a3⟩, a4⟩ := h1
    have hl : (L.append L2).length = L.length + L2.length := List.length_append
    refine ⟨⟨by rw [hl]; omega, fun e j hj => ?_, a3⟩, ih (B + 1) a4 (by rw [show B + 1 + L.length = B + (c :: L).length by simp; omega]; exact h2)⟩
    have := a2 e j hj
    rw [hl]
    omega
theorem arrV_congr {cA : ClassId} {N : Nat} {f g : Nat → Value} (h : ∀ j, j < N → f j = g j) : arrV cA N f = arrV cA N g := by
  unfold arrV
  have : (fun j : Fin N => f ↑j) = (fun j : Fin N => g ↑j) := by
    funext j; exact h j j.isLt
  rw [this]
theorem jcell_tr {Z : jE} {ad ad' : Nat → Nat} {c B M : Nat} {C : jC} (h : ∀ i, B ≤ i → i < B + M → ad' i = ad i) (hr : jReach c ≤ M) (h22 : c = 22 → ∀ j : Nat, j < 8 → B ≤ (C (B : Int) (j : Int)).toNat ∧ (C (B : Int) (j : Int)).toNat < B + M) (h11 : c = 11 → C (B : Int) 4 = -1) {q : Nat} {H : Heap} (hv : va_at Z.1 jcl (q, jcell (jZa Z ad) c (B : Int) (C (B : Int))) H) : va_at Z.1 jcl (q, jcell (jZa Z ad') c (B : Int) (C (B : Int))) H := by
  have hj : ∀ k : Int, 0 ≤ k → k < (M : Int) → jr (jZa Z ad') ((B : Int) + k) = jr (jZa Z ad) ((B : Int) + k) := by
    intro k k0 k1
    show Value.ref (ad' ((B : Int) + k).toNat) = Value.ref (ad ((B : Int) + k).toNat)
    rw [h _ (by omega) (by omega)]
  by_cases c21 : c = 21
  · subst c21
    have hr : 23 ≤ M := hr
    have e : vp_cell (Z.2.1 3) (5, .inr (.inr (.inr (.inr (fun j => some (ad' ((B : Int) + 2 + 5 * (j : Int)).toNat)))))) = vp_cell (Z.2.1 3) (5, .inr (.inr (.inr (.inr (fun j => some (ad ((B : Int) + 2 + 5 * (j : Int)).toNat)))))) := by
      rw [vp_cell_q, vp_cell_q]
      refine arrV_congr (fun j hj => ?_)
      rw [h _ (by omega) (by omega)]
    show H[q]? = some (vp_cell (Z.2.1 3) (5, .inr (.inr (.inr (.inr (fun j => some (ad' ((B : Int) + 2 + 5 * (j : Int)).toNat)))))))
    rw [e]; exact hv
  by_cases c22 : c = 22
  · subst c22
    have e : vp_cell (Z.2.1 4) (8, .inr (.inr (.inr (.inr (fun j => some (ad' (C (B : Int) (j : Int)).toNat)))))) = vp_cell (Z.2.1 4) (8, .inr (.inr (.inr (.inr (fun j => some (ad (C (B : Int) (j : Int)).toNat)))))) := by
      rw [vp_cell_q, vp_cell_q]
      refine arrV_congr (fun j hj => ?_)
      have := h22 rfl j hj
      rw [h _ (by omega) (by omega)]
    show H[q]? = some (vp_cell (Z.2.1 4) (8, .inr (.inr (.inr (.inr (fun j => some (ad' (C (B : Int) (j : Int)).toNat)))))))
    rw [e]; exact hv
  by_cases c23 : c = 23
  · subst c23
    have hr : 225 ≤ M := hr
    have e : vp_cell (Z.2.1 5) (4, .inr (.inr (.inr (.inr (fun j => some (ad' ((B : Int) + 8 + 72 * (j : Int)).toNat)))))) = vp_cell (Z.2.1 5) (4, .inr (.inr (.inr (.inr (fun j => some (ad ((B : Int) + 8 + 72 * (j : Int)).toNat)))))) := by
      rw [vp_cell_q, vp_cell_q]
      refine arrV_congr (fun j hj => ?_)
      rw [h _ (by omega) (by omega)]
    show H[q]? = some (vp_cell (Z.2.1 5) (4, .inr (.inr (.inr (.inr (fun j => some (ad' ((B : Int) + 8 + 72 * (j : Int)).toNat)))))))
    rw [e]; exact hv
  have key : jcell (jZa Z ad') c (B : Int) (C (B : Int)) = jcell (jZa Z ad) c (B : Int) (C (B : Int)) := by
    match c, hr, h11, c21, c22, c23 with
    | 0, hr, _, _, _, _ => have hr : 5 ≤ M := hr; simp only [jcell]; rw [hj 1 (by omega) (by omega), hj 2 (by omega) (by omega), hj 3 (by omega) (by omega), hj 4 (by omega) (by omega)]
    | 1, hr, _, _, _, _ => have hr : 5 ≤ M := hr; simp only [jcell]; rw [hj 1 (by omega) (by omega), hj 2 (by omega) (by omega), hj 3 (by omega) (by omega), hj 4 (by omega) (by omega)]
    | 2, hr, _, _, _, _ => have hr : 3 ≤ M := hr; simp only [jcell]; rw [hj 1 (by omega) (by omega), hj 2 (by omega) (by omega)]
    | 3, hr, _, _, _, _ => have hr : 2 ≤ M := hr; simp only [jcell]; rw [hj 1 (by omega) (by omega)]
    | 4, hr, _, _, _, _ => have hr : 6 ≤ M := hr; simp only [jcell]; rw [hj 1 (by omega) (by omega), hj 3 (by omega) (by omega), hj 4 (by omega) (by omega), hj 5 (by omega) (by omega)]
    | 5, hr, _, _, _, _ => have hr : 2 ≤ M := hr; simp only [jcell]; rw [hj 1 (by omega) (by omega)]
    | 6, hr, _, _, _, _ => have hr : 2 ≤ M := hr; simp only [jcell]; rw [hj 1 (by omega) (by omega)]
    | 7, hr, _, _, _, _ => have hr : 6 ≤ M := hr; simp only [jcell]; rw [hj 1 (by omega) (by omega), hj 2 (by omega) (by omega), hj 3 (by omega) (by omega), hj 4 (by omega) (by omega), hj 5 (by omega) (by omega)]
    | 8, hr, _, _, _, _ => have hr : 12 ≤ M := hr; simp only [jcell]; rw [hj 1 (by omega) (by omega), hj 8 (by omega) (by omega), hj 9 (by omega) (by omega), hj 11 (by omega) (by omega)]
    | 9, hr, _, _, _, _ => have hr : 5 ≤ M := hr; simp only [jcell]; rw [hj 1 (by omega) (by omega), hj 2 (by omega) (by omega), hj 3 (by omega) (by omega), hj 4 (by omega) (by omega)]
    | 10, hr, _, _, _, _ => have hr : 32 ≤ M := hr; simp only [jcell]; rw [hj 1 (by omega) (by omega), hj 29 (by omega) (by omega), hj 31 (by omega) (by omega)]
    | 11, hr, h11, _, _, _ =>
      have hr : 340 ≤ M := hr
      simp only [jcell]
      rw [hj 1 (by omega) (by omega), hj 3 (by omega) (by omega), hj 35 (by omega) (by omega), hj 339 (by omega) (by omega), h11 rfl]
      rfl
    | 12, hr, _, _, _, _ => have hr : 11 ≤ M := hr; simp only [jcell]; rw [hj 1 (by omega) (by omega), hj 2 (by omega) (by omega), hj 3 (by omega) (by omega), hj 4 (by omega) (by omega), hj 5 (by omega) (by omega), hj 6 (by omega) (by omega), hj 7 (by omega) (by omega), hj 8 (by omega) (by omega), hj 9 (by omega) (by omega), hj 10 (by omega) (by omega)]
    | 20, _, _, _, _, _ => rfl
    | 24, _, _, _, _, _ => rfl
    | 13, _, _, _, _, _ => rfl
    | 14, _, _, _, _, _ => rfl
    | 15, _, _, _, _, _ => rfl
    | 16, _, _, _, _, _ => rfl
    | 17, _, _, _, _, _ => rfl
    | 18, _, _, _, _, _ => rfl
    | 19, _, _, _, _, _ => rfl
    | 21, _, _, q, _, _ => exact absurd rfl q
    | 22, _, _, _, q, _ => exact absurd rfl q
    | 23, _, _, _, _, q => exact absurd rfl q
    | c + 25, _, _, _, _, _ => rfl
  rw [key]; exact hv
theorem va_P_cons {D : va_G} {cl : List vw_C} {x : Nat × va_E} {w : va_W} {H : Heap} : va_P D cl (x :: w) H ↔ va_at D cl x H ∧ va_P D cl w H := by
  constructor
  · exact fun h => ⟨h 0 x rfl, fun k q hk => h (k + 1) q (by simpa using hk)⟩
  · intro h k q hk
    cases k with
    | zero => have : x = q := by simpa using hk
              rw [← this]; exact h.1
    | succ k => exact h.2 k q (by simpa using hk)
theorem va_P_app {D : va_G} {cl : List vw_C} {a b : va_W} {H : Heap} (h : va_P D cl (a ++ b) H) : va_P D cl a H ∧ va_P D cl b H := by
  induction a with
  | nil => exact ⟨fun k q hk => by simp at hk, h⟩
  | cons x a ih =>
    obtain ⟨h1, h2⟩ := va_P_cons.mp h
    obtain ⟨i1, i2⟩ := ih h2
    exact ⟨va_P_cons.mpr ⟨h1, i1⟩, i2⟩
theorem jSg_tr {Z : jE} {ad ad' : Nat → Nat} {C : jC} {H : Heap} {L : List Nat} : ∀ {B : Nat}, jClo C B L → (∀ i, B ≤ i → i < B + L.length → ad' i = ad i) → va_P Z.1 jcl (jSg Z ad C B L) H → va_P Z.1 jcl (jSg Z ad' C B L) H := by
  induction L with
  | nil => intro B _ _ h; exact h
  | cons c L ih =>
    intro B hc h hP
    obtain ⟨⟨a1, a2, a3⟩, a4⟩ := hc
    obtain ⟨p1, p2⟩ := va_P_cons.mp (show va_P Z.1 jcl ((ad B, jcell (jZa Z ad) c (B : Int) (C (B : Int))) :: jSg Z ad C (B + 1) L) H from hP)
    have hl : (c :: L).length = L.length + 1 := rfl
    refine va_P_cons.mpr ⟨?_, ih a4 (fun i i0 i1 => h i (by omega) (by rw [hl]; omega)) p2⟩
    rw [h B (Nat.le_refl _) (by rw [hl]; omega)]
    exact jcell_tr (M := L.length + 1) (fun i i0 i1 => h i i0 (by rw [hl]; omega)) a1 a2 a3 p1
theorem jSg_ad {Z : jE} {ad ad' : Nat → Nat} {C : jC} {L : List Nat} : ∀ {B : Nat}, (∀ i, B ≤ i → i < B + L.length → ad' i = ad i) → (jSg Z ad' C B L).map Prod.fst = (jSg Z ad C B L).map Prod.fst := by
  induction L with
  | nil => intro B _; rfl
  | cons c L ih =>
    intro B h
    have hl : (c :: L).length = L.length + 1 := rfl
    show ad' B :: (jSg Z ad' C (B + 1) L).map Prod.fst = ad B :: (jSg Z ad C (B + 1) L).map Prod.fst
    rw [h B (Nat.le_refl _) (by rw [hl]; omega), ih (fun i i0 i1 => h i (by omega) (by rw [hl]; omega))]
theorem va_D_ad {A : Nat → Prop} {w w' : va_W} (h : va_D A w) (e : w'.map Prod.fst = w.map Prod.fst) : va_D A w' := by
  have key : ∀ (i : Nat) (q : Nat × va_E), w'[i]? = some q → ∃ q0, w[i]? = some q0 ∧ q0.1 = q.1 := by
    intro i q hq
    have h1 : (w'.map Prod.fst)[i]? = some q.1 := by rw [List.getElem?_map, hq]; rfl
    rw [e, List.getElem?_map] at h1
    cases hw : w[i]? with
    | none => rw [hw] at h1; cases h1
    | some q0 => rw [hw] at h1; exact ⟨q0, rfl, Option.some.inj h1⟩
  refine ⟨fun i j x y hi hj hxy => ?_, fun k q hk => ?_⟩
  · obtain ⟨x0, h1, h2⟩ := key i x hi
    obtain ⟨y0, h3, h4⟩ := key j y hj
    exact h.1 i j x0 y0 h1 h3 (h2.trans (hxy.trans h4.symm))
  · obtain ⟨q0, h1, h2⟩ := key k q hk
    rw [← h2]; exact h.2 k q0 h1
theorem jsg_glue {Z : jE} {ad adX : Nat → Nat} {C : jC} {P : (Nat → Nat) → va_W} {b : Nat} {L LX : List Nat} {A : Nat → Prop} {H : Heap} (hPc : ∀ ad' : Nat → Nat, (∀ i, i < b + L.length → ad' i = ad i) → P ad' = P ad) (hc : jClo C b L) (hcX : jClo C (b + L.length) LX) (hP : va_P Z.1 jcl ((P ad ++ jSg Z ad C b L) ++ jSg Z adX C (b + L.length) LX) H) (hD : va_D A ((P ad ++ jSg Z ad C b L) ++ jSg Z adX C (b + L.length) LX)) :
    ∃ ad' : Nat → Nat, (∀ i, i < b + L.length → ad' i = ad i) ∧ (∀ i, b + L.length ≤ i → ad' i = adX i) ∧ va_P Z.1 jcl (P ad' ++ jSg Z ad' C b (L ++ LX)) H ∧ va_D A (P ad' ++ jSg Z ad' C b (L ++ LX)) := by
  obtain ⟨ad', e⟩ : ∃ ad' : Nat → Nat, ∀ i, ad' i = if i < b + L.length then ad i else adX i := ⟨_, fun _ => rfl⟩
  have e1 : ∀ i, i < b + L.length → ad' i = ad i := fun i hi => by rw [e, if_pos hi]
  have e2 : ∀ i, b + L.length ≤ i → ad' i = adX i := fun i hi => by rw [e, if_neg (by omega)]
  obtain ⟨p12, p3⟩ := va_P_app hP
  obtain ⟨p1, p2⟩ := va_P_app p12
  refine ⟨ad', e1, e2, ?_, ?_⟩
  · rw [hPc ad' e1, jSg_app]
    exact p1.app ((jSg_tr hc (fun i _ i1 => e1 i i1) p2).app (jSg_tr hcX (fun i i0 _ => e2 i i0) p3))
  · rw [hPc ad' e1, jSg_app, ← List.append_assoc]
    refine va_D_ad hD ?_
    rw [List.map_append, List.map_append, List.map_append, List.map_append, jSg_ad (ad := ad) (ad' := ad') (fun i _ i1 => e1 i i1), jSg_ad (ad := adX) (ad' := ad') (fun i i0 _ => e2 i i0)]
theorem va_nd_range' : ∀ (n k : Nat), va_nd (List.range' k n) = true := by
  intro n
  induction n with
  | zero => intro k; rfl
  | succ n ih =>
    intro k
    rw [List.range'_succ]
    show (decide (k ∉ List.range' (k + 1) n) && va_nd (List.range' (k + 1) n)) = true
    rw [ih, Bool.and_true, decide_eq_true_eq]
    intro h
    have := List.mem_range'_1.mp h
    omega
theorem va_joinL {A0 : Nat → Prop} {D : va_G} {cl : List vw_C} {ws w1 : va_W} {x : Nat × va_E} {H H1 : Heap} (hP : va_P D cl (ws ++ [x]) H) (hD : va_D A0 (ws ++ [x])) (hk : ∀ q : Nat, q < H.size → ¬ va_A [x] H.size q → H1[q]? = H[q]?) (hF : ∀ q, va_A [x] H.size q → A0 q) (hP1 : va_P D cl w1 H1) (hD1 : va_D (va_A [x] H.size) w1) : va_P D cl (ws ++ w1) H1 ∧ va_D A0 (ws ++ w1) := by
  refine va_join (wc := [x]) (wr := ws) hP hD [ws.length] (List.range' 0 ws.length) ?_ ?_ (va_nd_range' _ _) (fun i hi hj => ?_) hk hF hP1 hD1
  · simp
  · apply List.ext_getElem?
    intro i
    rw [List.getElem?_map, List.getElem?_map]
    by_cases hi : i < ws.length
    · rw [List.getElem?_range' hi, Option.map_some, Nat.zero_add, Nat.one_mul, List.getElem?_append_left hi, List.getElem?_eq_getElem hi]
      rfl
    · rw [List.getElem?_eq_none (by simp; omega), List.getElem?_eq_none (by omega)]
      rfl
  · have h1 := List.mem_range'_1.mp hi
    have h2 : i = ws.length := by simpa using hj
    omega

-- THE PICTURE: cells by numbers; the number of a cell says its kind; whole numbers stand for Int32
abbrev jC : Type := Int → Int → Int
abbrev jE : Type := va_G × (Nat → ClassId) × (Nat → Nat) × (Nat → Nat) × (Nat → Nat)
abbrev jad (Z : jE) : Nat → Nat := Z.2.2.1
abbrev jsK (Z : jE) : Nat → Nat := Z.2.2.2.1
abbrev jsV (Z : jE) : Nat → Nat := Z.2.2.2.2
def jRng (x : Int) : Prop := -2147483648 ≤ x ∧ x < 2147483648
abbrev jI (x : Int) : Value := .int (Int32.ofInt x)
abbrev jr (Z : jE) (a : Int) : Value := .ref (jad Z a.toNat)
def jo (Z : jE) (a : Int) : Option Nat := if a < 0 then none else some (jad Z a.toNat)
abbrev jn (Z : jE) (a : Int) : Value := va_rf (jo Z a)
def jtys (Z : jE) : List (ClassId × FieldType) := [(Z.2.1 0, .int), (Z.2.1 1, .byte), (Z.2.1 2, .long), (Z.2.1 3, .object "PrivateViews$Filter"), (Z.2.1 4, .object "PrivateViews$Edit"), (Z.2.1 5, .object "PrivateViews$View")]
def jarr (Z : jE) (n : Nat) (f : Int → Int) : va_E := .inl (Z.2.1 0, n, .inl (fun j => Int32.ofInt (f j)))
def jcell (Z : jE) (c : Nat) (a : Int) (f : Int → Int) : va_E := match c with
  | 0 => .inr (0, [jI (f 0), jr Z (a + 1), jr Z (a + 2), jr Z (a + 3), jr Z (a + 4)])
  | 1 => .inr (1, [jI (f 0), jr Z (a + 1), jr Z (a + 2), jr Z (a + 3), jr Z (a + 4)])
  | 2 => .inr (2, [jr Z (a + 1), jr Z (a + 2), jI (f 2), jI (f 3)])
  | 3 => .inr (3, [jr Z (a + 1), jI (f 1), jI (f 2)])
  | 4 => .inr (4, [jr Z (a + 1), jr Z (a + 3), jr Z (a + 4), jr Z (a + 5), jI (f 4), jI (f 5), jI (f 6)])
  | 5 => .inr (5, [jr Z (a + 1), jI (f 1), jI (f 2), jI (f 3), jI (f 4), jI (f 5), jI (f 6)])
  | 6 => .inr (6, [jr Z (a + 1), jI (f 1)])
  | 7 => .inr (7, [jI (f 0), jr Z (a + 1), jr Z (a + 2), jr Z (a + 3), jr Z (a + 4), jr Z (a + 5), jI (f 6), jI (f 7)])
  | 8 => .inr (8, [jr Z (a + 1), jr Z (a + 8), jr Z (a + 9), jr Z (a + 11)])
  | 9 => .inr (9, [jI (f 0), jr Z (a + 1), jI (f 2), jr Z (a + 2), jr Z (a + 3), jr Z (a + 4)])
  | 10 => .inr (10, [jr Z (a + 1), jr Z (a + 29), jr Z (a + 31), jI (f 3)])
  | 11 => .inr (11, [jr Z (a + 1), jr Z (a + 3), jr Z (a + 35), jr Z (a + 339), jn Z (f 4)])
  | 12 => .inr (12, [jI (f 0), jr Z (a + 1), jr Z (a + 2), jr Z (a + 3), jI (f 4), jr Z (a + 4), jI (f 6), jI (f 7), jI (f 8), jI (f 9), jI (f 10), jI (f 11), jr Z (a + 5), jr Z (a + 6), jr Z (a + 7), jr Z (a + 8), jI (f 16), jr Z (a + 9), jr Z (a + 10)])
  | 20 => .inl (Z.2.1 1, 400, .inl (fun j => Int32.ofInt (f j)))
  | 21 => .inl (Z.2.1 3, 5, .inr (.inr (.inr (.inr (fun j => some (jad Z (a + 2 + 5 * (j : Int)).toNat))))))
  | 22 => .inl (Z.2.1 4, 8, .inr (.inr (.inr (.inr (fun j => some (jad Z (f j).toNat))))))
  | 23 => .inl (Z.2.1 5, 4, .inr (.inr (.inr (.inr (fun j => some (jad Z (a + 8 + 72 * (j : Int)).toNat))))))
  | 24 => .inl (Z.2.1 2, 1, .inr (.inl (fun _ => Int64.ofNat (jsV Z 5000))))
  | c => jarr Z (c - 1000) f
def jKs : List Nat := [11, 5, 1400, 9, 1005, 1014, 1070, 2, 21, 1003, 1, 1006, 1006, 1006, 1006, 1, 1006, 1006, 1006, 1006, 1, 1006, 1006, 1006, 1006, 1, 1006, 1006, 1006, 1006, 1, 1006, 1006, 1006, 1006, 8, 7, 1005, 1024, 1120, 1120, 6, 1024, 23, 3, 1200, 0, 1060, 1060, 1060, 1060, 10, 2, 21, 1003, 1, 1006, 1006, 1006, 1006, 1, 1006, 1006, 1006, 1006, 1, 1006, 1006, 1006, 1006, 1, 1006, 1006, 1006, 1006, 1, 1006, 1006, 1006, 1006, 6, 1024, 22, 0, 1060, 1060, 1060, 1060, 0, 1060, 1060, 1060, 1060, 0, 1060, 1060, 1060, 1060, 0, 1060, 1060, 1060, 1060, 0, 1060, 1060, 1060, 1060, 0, 1060, 1060, 1060, 1060, 0, 1060, 1060, 1060, 1060, 0, 1060, 1060, 1060, 1060, 10, 2, 21, 1003, 1, 1006, 1006, 1006, 1006, 1, 1006, 1006, 1006, 1006, 1, 1006, 1006, 1006, 1006, 1, 1006, 1006, 1006, 1006, 1, 1006, 1006, 1006, 1006, 6, 1024, 22, 0, 1060, 1060, 1060, 1060, 0, 1060, 1060, 1060, 1060, 0, 1060, 1060, 1060, 1060, 0, 1060, 1060, 1060, 1060, 0, 1060, 1060, 1060, 1060, 0, 1060, 1060, 1060, 1060, 0, 1060, 1060, 1060, 1060, 0, 1060, 1060, 1060, 1060, 10, 2, 21, 1003, 1, 1006, 1006, 1006, 1006, 1, 1006, 1006, 1006, 1006, 1, 1006, 1006, 1006, 1006, 1, 1006, 1006, 1006, 1006, 1, 1006, 1006, 1006, 1006, 6, 1024, 22, 0, 1060, 1060, 1060, 1060, 0, 1060, 1060, 1060, 1060, 0, 1060, 1060, 1060, 1060, 0, 1060, 1060, 1060, 1060, 0, 1060, 1060, 1060, 1060, 0, 1060, 1060, 1060, 1060, 0, 1060, 1060, 1060, 1060, 0, 1060, 1060, 1060, 1060, 10, 2, 21, 1003, 1, 1006, 1006, 1006, 1006, 1, 1006, 1006, 1006, 1006, 1, 1006, 1006, 1006, 1006, 1, 1006, 1006, 1006, 1006, 1, 1006, 1006, 1006, 1006, 6, 1024, 22, 0, 1060, 1060, 1060, 1060, 0, 1060, 1060, 1060, 1060, 0, 1060, 1060, 1060, 1060, 0, 1060, 1060, 1060, 1060, 0, 1060, 1060, 1060, 1060, 0, 1060, 1060, 1060, 1060, 0, 1060, 1060, 1060, 1060, 0, 1060, 1060, 1060, 1060, 4, 6, 1024, 1024, 1024, 1024, 12, 9954, 9954, 9954, 20, 1005, 1025, 1241, 1072, 1024, 1002, 24, 8, 7, 1005, 1024, 1120, 1120, 6, 1024, 23, 3, 1200, 0, 1060, 1060, 1060, 1060, 10, 2, 21, 1003, 1, 1006, 1006, 1006, 1006, 1, 1006, 1006, 1006, 1006, 1, 1006, 1006, 1006, 1006, 1, 1006, 1006, 1006, 1006, 1, 1006, 1006, 1006, 1006, 6, 1024, 22, 0, 1060, 1060, 1060, 1060, 0, 1060, 1060, 1060, 1060, 0, 1060, 1060, 1060, 1060, 0, 1060, 1060, 1060, 1060, 0, 1060, 1060, 1060, 1060, 0, 1060, 1060, 1060, 1060, 0, 1060, 1060, 1060, 1060, 0, 1060, 1060, 1060, 1060, 10, 2, 21, 1003, 1, 1006, 1006, 1006, 1006, 1, 1006, 1006, 1006, 1006, 1, 1006, 1006, 1006, 1006, 1, 1006, 1006, 1006, 1006, 1, 1006, 1006, 1006, 1006, 6, 1024, 22, 0, 1060, 1060, 1060, 1060, 0, 1060, 1060, 1060, 1060, 0, 1060, 1060, 1060, 1060, 0, 1060, 1060, 1060, 1060, 0, 1060, 1060, 1060, 1060, 0, 1060, 1060, 1060, 1060, 0, 1060, 1060, 1060, 1060, 0, 1060, 1060, 1060, 1060, 10, 2, 21, 1003, 1, 1006, 1006, 1006, 1006, 1, 1006, 1006, 1006, 1006, 1, 1006, 1006, 1006, 1006, 1, 1006, 1006, 1006, 1006, 1, 1006, 1006, 1006, 1006, 6, 1024, 22, 0, 1060, 1060, 1060, 1060, 0, 1060, 1060, 1060, 1060, 0, 1060, 1060, 1060, 1060, 0, 1060, 1060, 1060, 1060, 0, 1060, 1060, 1060, 1060, 0, 1060, 1060, 1060, 1060, 0, 1060, 1060, 1060, 1060, 0, 1060, 1060, 1060, 1060, 10, 2, 21, 1003, 1, 1006, 1006, 1006, 1006, 1, 1006, 1006, 1006, 1006, 1, 1006, 1006, 1006, 1006, 1, 1006, 1006, 1006, 1006, 1, 1006, 1006, 1006, 1006, 6, 1024, 22, 0, 1060, 1060, 1060, 1060, 0, 1060, 1060, 1060, 1060, 0, 1060, 1060, 1060, 1060, 0, 1060, 1060, 1060, 1060, 0, 1060, 1060, 1060, 1060, 0, 1060, 1060, 1060, 1060, 0, 1060, 1060, 1060, 1060, 0, 1060, 1060, 1060, 1060]
def jK (i : Nat) : Nat := jKs.getD i 99
def jws (Z : jE) (n : Nat) (C : jC) : va_W := (List.range n).map (fun i => (jad Z i, jcell Z (jK i) i (C i)))
def jT (n : Nat) (a : Int) (c : Nat) : Prop := 0 ≤ a ∧ a < n ∧ jK a.toNat = c
def jU (C : jC) (a k v : Int) : jC := fun b => if b = a then (fun j => if j = k then v else C a j) else C b
def jV (C : jC) (a : Int) (f : Int → Int) : jC := fun b => if b = a then f else C b
theorem jU_V (C : jC) (a k v : Int) : jU C a k v = jV C a (fun j => if j = k then v else C a j) := rfl
theorem jws_len (Z : jE) (n : Nat) (C : jC) : (jws Z n C).length = n := by simp [jws]
theorem jws_get {Z : jE} {n : Nat} {C : jC} {a : Int} {c : Nat} (h : jT n a c) : (jws Z n C)[a.toNat]? = some (jad Z a.toNat, jcell Z c a (C a)) := by
  obtain ⟨h0, h1, h2⟩ := h
  have e : ((a.toNat : Nat) : Int) = a := Int.toNat_of_nonneg h0
  have hl : a.toNat < n := by omega
  unfold jws
  rw [List.getElem?_map, List.getElem?_range hl]
  simp only [Option.map_some, h2, e]
theorem jws_at {Z : jE} {n : Nat} {C : jC} {i : Nat} (h : i < n) : (jws Z n C)[i]? = some (jad Z i, jcell Z (jK i) i (C i)) := by
  unfold jws
  rw [List.getElem?_map, List.getElem?_range h]
  rfl
theorem jws_set {Z : jE} {n : Nat} {C : jC} {a : Int} {c : Nat} {f : Int → Int} {x : va_E} (h : jT n a c) (hx : jcell Z c a f = x) : (jws Z n C).set a.toNat (jad Z a.toNat, x) = jws Z n (jV C a f) := by
  obtain ⟨h0, h1, h2⟩ := h
  have e : ((a.toNat : Nat) : Int) = a := Int.toNat_of_nonneg h0
  have hl : a.toNat < n := by omega
  subst hx
  apply List.ext_getElem?
  intro i
  by_cases hi : i < n
  · by_cases hia : i = a.toNat
    · subst hia
      rw [List.getElem?_set_self (by rw [jws_len]; exact hl), jws_at hl, h2, e]
      simp [jV]
    · rw [List.getElem?_set_ne (fun q => hia q.symm), jws_at hi, jws_at hi]
      have : ¬ ((i : Int) = a) := by omega
      simp [jV, this]
  · rw [List.getElem?_eq_none (by simp [jws_len]; omega), List.getElem?_eq_none (by simp [jws_len]; omega)]
theorem jD_any {Z : jE} {n : Nat} {C C' : jC} {A : Nat → Prop} (h : va_D A (jws Z n C)) : va_D A (jws Z n C') := by
  have key : ∀ (i : Nat) (q : Nat × va_E), (jws Z n C')[i]? = some q → ∃ q0, (jws Z n C)[i]? = some q0 ∧ q0.1 = q.1 := by
    intro i q hq
    have hi : i < n := by
      have := (List.getElem?_eq_some_iff.mp hq).1
      rwa [jws_len] at this
    rw [jws_at hi] at hq
    cases hq
    exact ⟨_, jws_at hi, rfl⟩
  refine ⟨fun i j x y hi hj hxy => ?_, fun k q hk => ?_⟩
  · obtain ⟨x0, h1, h2⟩ := key i x hi
    obtain ⟨y0, h3, h4⟩ := key j y hj
    exact h.1 i j x0 y0 h1 h3 (h2.trans (hxy.trans h4.symm))
  · obtain ⟨q0, h1, h2⟩ := key k q hk
    rw [← h2]; exact h.2 k q0 h1
def jA (Z : jE) (n : Nat) (sz : Nat) : Nat → Prop := fun q => (∃ i, i < n ∧ q = jad Z i) ∨ sz ≤ q
theorem jA_in {Z : jE} {n : Nat} {C : jC} {A B : Nat → Prop} (h : va_D B (jws Z n C)) (hA : ∀ i, i < n → A (jad Z i)) : va_D A (jws Z n C) := by
  refine ⟨h.1, fun k q hk => ?_⟩
  have hi : k < n := by
    have := (List.getElem?_eq_some_iff.mp hk).1
    rwa [jws_len] at this
  rw [jws_at hi] at hk
  cases hk
  exact hA k hi
theorem jA_mem {Z : jE} {n : Nat} {C : jC} {A : Nat → Prop} (h : va_D A (jws Z n C)) {i : Nat} (hi : i < n) : A (jad Z i) := h.2 i _ (jws_at hi)
theorem jA_sub {Z : jE} {n : Nat} {C : jC} {A : Nat → Prop} {s : State} {H : Heap} {locs : List Loc} (h : va_D A (jws Z n C)) (hS : va_S A s.heap H locs) (hA : ∀ q, s.heap.size ≤ q → A q) : ∀ q, jA Z n H.size q → A q := by
  intro q hq
  rcases hq with ⟨i, hi, rfl⟩ | hq
  · exact jA_mem h hi
  · exact hA q (Nat.le_trans hS.1 hq)
-- what the state holds: every number fits an int; the rows of edits hold edits; kept
def jOkn (n : Nat) : Prop := n = 357 ∨ n = 661
def jWF (n : Nat) (C : jC) : Prop := (∀ a k, jRng (C a k)) ∧ (∀ a, jT n a 22 → ∀ k, 0 ≤ k → k < 8 → jT n (C a k) 0) ∧ jOkn n ∧ ((C 0 4 = -1 ∧ n = 357) ∨ (C 0 4 = 357 ∧ n = 661))
theorem jT_fun {n : Nat} {a : Int} {c c' : Nat} (h : jT n a c) (h' : jT n a c') : c = c' := h.2.2.symm.trans h'.2.2
theorem jT_0 {n : Nat} {c : Nat} (h : jT n 0 c) : c = 11 := h.2.2.symm.trans (by decide +kernel)
theorem jWF.v {n : Nat} {C : jC} {a : Int} {c : Nat} {f : Int → Int} (hw : jWF n C) (ha : jT n a c) (hc : c ≠ 22 ∧ c ≠ 11) (hr : ∀ k, jRng (f k)) : jWF n (jV C a f) := by
  obtain ⟨w1, w2, w3, w4⟩ := hw
  refine ⟨fun b k => ?_, fun b hb k h0 h1 => ?_, w3, ?_⟩
  · unfold jV; split
    · exact hr k
    · exact w1 b k
  · have hne : b ≠ a := by rintro rfl; exact hc.1 (jT_fun ha hb)
    simp only [jV, if_neg hne]; exact w2 b hb k h0 h1
  · have hne : (0 : Int) ≠ a := by rintro rfl; exact hc.2 (jT_0 ha)
    simp only [jV, if_neg hne]; exact w4
theorem jWF.u {n : Nat} {C : jC} {a k v : Int} {c : Nat} (hw : jWF n C) (ha : jT n a c) (hc : c ≠ 22 ∧ c ≠ 11) (hr : jRng v) : jWF n (jU C a k v) := by
  rw [jU_V]
  refine hw.v ha hc (fun j => ?_)
  split
  · exact hr
  · exact hw.1 a j
theorem jWF.e {n : Nat} {C : jC} {a k v : Int} (hw : jWF n C) (ha : jT n a 22) (hv : jT n v 0) : jWF n (jU C a k v) := by
  obtain ⟨w1, w2, w3, w4⟩ := hw
  have hr : jRng v := by
    obtain ⟨h0, h1, -⟩ := hv
    rcases w3 with rfl | rfl <;> (constructor <;> omega)
  refine ⟨fun b j => ?_, fun b hb j h0 h1 => ?_, w3, ?_⟩
  · by_cases e1 : b = a
    · by_cases e2 : j = k
      · simp only [jU, if_pos e1, if_pos e2]; exact hr
      · simp only [jU, if_pos e1, if_neg e2]; exact w1 a j
    · simp only [jU, if_neg e1]; exact w1 b j
  · by_cases e1 : b = a
    · by_cases e2 : j = k
      · simp only [jU, if_pos e1, if_pos e2]; exact hv
      · simp only [jU, if_pos e1, if_neg e2]; exact w2 a ha j h0 h1
    · simp only [jU, if_neg e1]; exact w2 b hb j h0 h1
  · have hne : (0 : Int) ≠ a := by
      rintro rfl
      exact absurd (jT_0 ha) (by decide)
    simp only [jU, if_neg hne]; exact w4
def jZ (L : List Nat) (c off d : Nat) : Bool := (L.zip (L.drop off ++ List.replicate off 99)).all (fun q => !(q.1 == c) || q.2 == d)
theorem jZ_of {L : List Nat} {c off d : Nat} (h : jZ L c off d = true) {i : Nat} (hi : L[i]? = some c) (hd : d ≠ 99) : L[i + off]? = some d := by
  have hl : i < L.length := (List.getElem?_eq_some_iff.mp hi).1
  have h2 : ∃ z, (L.drop off ++ List.replicate off 99)[i]? = some z := by
    have : i < (L.drop off ++ List.replicate off 99).length := by simp; omega
    exact ⟨_, List.getElem?_eq_getElem this⟩
  obtain ⟨z, hz⟩ := h2
  have hm : (c, z) ∈ L.zip (L.drop off ++ List.replicate off 99) := by
    apply List.mem_of_getElem? (i := i)
    rw [List.getElem?_zip_eq_some]
    exact ⟨hi, hz⟩
  have hq := List.all_eq_true.mp h _ hm
  simp only [beq_self_eq_true, Bool.not_true, Bool.false_or, beq_iff_eq] at hq
  subst hq
  by_cases hlt : i < (L.drop off).length
  · rw [List.getElem?_append_left hlt, List.getElem?_drop] at hz
    rw [Nat.add_comm]; exact hz
  · rw [List.getElem?_append_right (by omega)] at hz
    have := List.mem_of_getElem? hz
    rw [List.mem_replicate] at this
    exact absurd this.2 hd
theorem jK_of {i c : Nat} (h : jK i = c) (hc : c ≠ 99) : jKs[i]? = some c := by
  unfold jK at h
  rw [List.getD_eq_getElem?_getD] at h
  cases hq : jKs[i]? with
  | none => rw [hq] at h; exact absurd h.symm hc
  | some z => rw [hq] at h; exact congrArg some h
theorem jK_at {i c : Nat} (h : jKs[i]? = some c) : jK i = c := by
  unfold jK
  rw [List.getD_eq_getElem?_getD, h]; rfl
theorem jKs_len : jKs.length = 661 := by decide +kernel
theorem jc_of {n : Nat} {a : Int} {c d off : Nat} (hn : jOkn n) (h : jT n a c) (h9 : c ≠ 99 ∧ d ≠ 99) (hd : jZ jKs c off d = true) (hd2 : jZ (jKs.take 357) c off d = true) : jT n (a + off) d := by
  obtain ⟨h0, h1, h2⟩ := h
  have e : (a + (off : Int)).toNat = a.toNat + off := by omega
  have hk := jK_of h2 h9.1
  have h3 := jZ_of hd hk h9.2
  have hl : a.toNat + off < 661 := by
    have := (List.getElem?_eq_some_iff.mp h3).1
    rwa [jKs_len] at this
  refine ⟨by omega, ?_, by rw [e]; exact jK_at h3⟩
  rcases hn with rfl | rfl
  · have hk2 : (jKs.take 357)[a.toNat]? = some c := by rw [List.getElem?_take, if_pos (by omega)]; exact hk
    have h4 := (List.getElem?_eq_some_iff.mp (jZ_of hd2 hk2 h9.2)).1
    rw [List.length_take] at h4
    omega
  · omega
theorem jc_ed_1 {n : Nat} {a : Int} (hn : jOkn n) (h : jT n a 0) : jT n (a + 1) 1060 := jc_of hn h (by decide) (by decide +kernel) (by decide +kernel)
theorem jc_ed_2 {n : Nat} {a : Int} (hn : jOkn n) (h : jT n a 0) : jT n (a + 2) 1060 := jc_of hn h (by decide) (by decide +kernel) (by decide +kernel)
theorem jc_ed_3 {n : Nat} {a : Int} (hn : jOkn n) (h : jT n a 0) : jT n (a + 3) 1060 := jc_of hn h (by decide) (by decide +kernel) (by decide +kernel)
theorem jc_ed_4 {n : Nat} {a : Int} (hn : jOkn n) (h : jT n a 0) : jT n (a + 4) 1060 := jc_of hn h (by decide) (by decide +kernel) (by decide +kernel)
theorem jc_fi_1 {n : Nat} {a : Int} (hn : jOkn n) (h : jT n a 1) : jT n (a + 1) 1006 := jc_of hn h (by decide) (by decide +kernel) (by decide +kernel)
theorem jc_fi_2 {n : Nat} {a : Int} (hn : jOkn n) (h : jT n a 1) : jT n (a + 2) 1006 := jc_of hn h (by decide) (by decide +kernel) (by decide +kernel)
theorem jc_fi_3 {n : Nat} {a : Int} (hn : jOkn n) (h : jT n a 1) : jT n (a + 3) 1006 := jc_of hn h (by decide) (by decide +kernel) (by decide +kernel)
theorem jc_fi_4 {n : Nat} {a : Int} (hn : jOkn n) (h : jT n a 1) : jT n (a + 4) 1006 := jc_of hn h (by decide) (by decide +kernel) (by decide +kernel)
theorem jc_le_0 {n : Nat} {a : Int} (hn : jOkn n) (h : jT n a 2) : jT n (a + 1) 21 := jc_of hn h (by decide) (by decide +kernel) (by decide +kernel)
theorem jc_le_1 {n : Nat} {a : Int} (hn : jOkn n) (h : jT n a 2) : jT n (a + 2) 1003 := jc_of hn h (by decide) (by decide +kernel) (by decide +kernel)
theorem jc_lo_0 {n : Nat} {a : Int} (hn : jOkn n) (h : jT n a 3) : jT n (a + 1) 1200 := jc_of hn h (by decide) (by decide +kernel) (by decide +kernel)
theorem jc_qu_0 {n : Nat} {a : Int} (hn : jOkn n) (h : jT n a 4) : jT n (a + 1) 6 := jc_of hn h (by decide) (by decide +kernel) (by decide +kernel)
theorem jc_qu_1 {n : Nat} {a : Int} (hn : jOkn n) (h : jT n a 4) : jT n (a + 3) 1024 := jc_of hn h (by decide) (by decide +kernel) (by decide +kernel)
theorem jc_qu_2 {n : Nat} {a : Int} (hn : jOkn n) (h : jT n a 4) : jT n (a + 4) 1024 := jc_of hn h (by decide) (by decide +kernel) (by decide +kernel)
theorem jc_qu_3 {n : Nat} {a : Int} (hn : jOkn n) (h : jT n a 4) : jT n (a + 5) 1024 := jc_of hn h (by decide) (by decide +kernel) (by decide +kernel)
theorem jc_re_0 {n : Nat} {a : Int} (hn : jOkn n) (h : jT n a 5) : jT n (a + 1) 1400 := jc_of hn h (by decide) (by decide +kernel) (by decide +kernel)
theorem jc_ro_0 {n : Nat} {a : Int} (hn : jOkn n) (h : jT n a 6) : jT n (a + 1) 1024 := jc_of hn h (by decide) (by decide +kernel) (by decide +kernel)
theorem jc_sh_1 {n : Nat} {a : Int} (hn : jOkn n) (h : jT n a 7) : jT n (a + 1) 1005 := jc_of hn h (by decide) (by decide +kernel) (by decide +kernel)
theorem jc_sh_2 {n : Nat} {a : Int} (hn : jOkn n) (h : jT n a 7) : jT n (a + 2) 1024 := jc_of hn h (by decide) (by decide +kernel) (by decide +kernel)
theorem jc_sh_3 {n : Nat} {a : Int} (hn : jOkn n) (h : jT n a 7) : jT n (a + 3) 1120 := jc_of hn h (by decide) (by decide +kernel) (by decide +kernel)
theorem jc_sh_4 {n : Nat} {a : Int} (hn : jOkn n) (h : jT n a 7) : jT n (a + 4) 1120 := jc_of hn h (by decide) (by decide +kernel) (by decide +kernel)
theorem jc_sh_5 {n : Nat} {a : Int} (hn : jOkn n) (h : jT n a 7) : jT n (a + 5) 6 := jc_of hn h (by decide) (by decide +kernel) (by decide +kernel)
theorem jc_st_0 {n : Nat} {a : Int} (hn : jOkn n) (h : jT n a 8) : jT n (a + 1) 7 := jc_of hn h (by decide) (by decide +kernel) (by decide +kernel)
theorem jc_st_1 {n : Nat} {a : Int} (hn : jOkn n) (h : jT n a 8) : jT n (a + 8) 23 := jc_of hn h (by decide) (by decide +kernel) (by decide +kernel)
theorem jc_st_2 {n : Nat} {a : Int} (hn : jOkn n) (h : jT n a 8) : jT n (a + 9) 3 := jc_of hn h (by decide) (by decide +kernel) (by decide +kernel)
theorem jc_st_3 {n : Nat} {a : Int} (hn : jOkn n) (h : jT n a 8) : jT n (a + 11) 0 := jc_of hn h (by decide) (by decide +kernel) (by decide +kernel)
theorem jc_te_1 {n : Nat} {a : Int} (hn : jOkn n) (h : jT n a 9) : jT n (a + 1) 1005 := jc_of hn h (by decide) (by decide +kernel) (by decide +kernel)
theorem jc_te_3 {n : Nat} {a : Int} (hn : jOkn n) (h : jT n a 9) : jT n (a + 2) 1014 := jc_of hn h (by decide) (by decide +kernel) (by decide +kernel)
theorem jc_te_4 {n : Nat} {a : Int} (hn : jOkn n) (h : jT n a 9) : jT n (a + 3) 1070 := jc_of hn h (by decide) (by decide +kernel) (by decide +kernel)
theorem jc_te_5 {n : Nat} {a : Int} (hn : jOkn n) (h : jT n a 9) : jT n (a + 4) 2 := jc_of hn h (by decide) (by decide +kernel) (by decide +kernel)
theorem jc_vi_0 {n : Nat} {a : Int} (hn : jOkn n) (h : jT n a 10) : jT n (a + 1) 2 := jc_of hn h (by decide) (by decide +kernel) (by decide +kernel)
theorem jc_vi_1 {n : Nat} {a : Int} (hn : jOkn n) (h : jT n a 10) : jT n (a + 29) 6 := jc_of hn h (by decide) (by decide +kernel) (by decide +kernel)
theorem jc_vi_2 {n : Nat} {a : Int} (hn : jOkn n) (h : jT n a 10) : jT n (a + 31) 22 := jc_of hn h (by decide) (by decide +kernel) (by decide +kernel)
theorem jc_pv_0 {n : Nat} {a : Int} (hn : jOkn n) (h : jT n a 11) : jT n (a + 1) 5 := jc_of hn h (by decide) (by decide +kernel) (by decide +kernel)
theorem jc_pv_1 {n : Nat} {a : Int} (hn : jOkn n) (h : jT n a 11) : jT n (a + 3) 9 := jc_of hn h (by decide) (by decide +kernel) (by decide +kernel)
theorem jc_pv_2 {n : Nat} {a : Int} (hn : jOkn n) (h : jT n a 11) : jT n (a + 35) 8 := jc_of hn h (by decide) (by decide +kernel) (by decide +kernel)
theorem jc_pv_3 {n : Nat} {a : Int} (hn : jOkn n) (h : jT n a 11) : jT n (a + 339) 4 := jc_of hn h (by decide) (by decide +kernel) (by decide +kernel)
theorem jc_mo_1 {n : Nat} {a : Int} (hn : jOkn n) (h : jT n a 12) : jT n (a + 1) 9954 := jc_of hn h (by decide) (by decide +kernel) (by decide +kernel)
theorem jc_mo_2 {n : Nat} {a : Int} (hn : jOkn n) (h : jT n a 12) : jT n (a + 2) 9954 := jc_of hn h (by decide) (by decide +kernel) (by decide +kernel)
theorem jc_mo_3 {n : Nat} {a : Int} (hn : jOkn n) (h : jT n a 12) : jT n (a + 3) 9954 := jc_of hn h (by decide) (by decide +kernel) (by decide +kernel)
theorem jc_mo_5 {n : Nat} {a : Int} (hn : jOkn n) (h : jT n a 12) : jT n (a + 4) 20 := jc_of hn h (by decide) (by decide +kernel) (by decide +kernel)
theorem jc_mo_12 {n : Nat} {a : Int} (hn : jOkn n) (h : jT n a 12) : jT n (a + 5) 1005 := jc_of hn h (by decide) (by decide +kernel) (by decide +kernel)
theorem jc_mo_13 {n : Nat} {a : Int} (hn : jOkn n) (h : jT n a 12) : jT n (a + 6) 1025 := jc_of hn h (by decide) (by decide +kernel) (by decide +kernel)
theorem jc_mo_14 {n : Nat} {a : Int} (hn : jOkn n) (h : jT n a 12) : jT n (a + 7) 1241 := jc_of hn h (by decide) (by decide +kernel) (by decide +kernel)
theorem jc_mo_15 {n : Nat} {a : Int} (hn : jOkn n) (h : jT n a 12) : jT n (a + 8) 1072 := jc_of hn h (by decide) (by decide +kernel) (by decide +kernel)
theorem jc_mo_17 {n : Nat} {a : Int} (hn : jOkn n) (h : jT n a 12) : jT n (a + 9) 1024 := jc_of hn h (by decide) (by decide +kernel) (by decide +kernel)
theorem jc_mo_18 {n : Nat} {a : Int} (hn : jOkn n) (h : jT n a 12) : jT n (a + 10) 1002 := jc_of hn h (by decide) (by decide +kernel) (by decide +kernel)
theorem jc_fa_0 {n : Nat} {a : Int} (hn : jOkn n) (h : jT n a 21) : jT n (a + 2) 1 := jc_of hn h (by decide) (by decide +kernel) (by decide +kernel)
theorem jc_fa_1 {n : Nat} {a : Int} (hn : jOkn n) (h : jT n a 21) : jT n (a + 7) 1 := jc_of hn h (by decide) (by decide +kernel) (by decide +kernel)
theorem jc_fa_2 {n : Nat} {a : Int} (hn : jOkn n) (h : jT n a 21) : jT n (a + 12) 1 := jc_of hn h (by decide) (by decide +kernel) (by decide +kernel)
theorem jc_fa_3 {n : Nat} {a : Int} (hn : jOkn n) (h : jT n a 21) : jT n (a + 17) 1 := jc_of hn h (by decide) (by decide +kernel) (by decide +kernel)
theorem jc_fa_4 {n : Nat} {a : Int} (hn : jOkn n) (h : jT n a 21) : jT n (a + 22) 1 := jc_of hn h (by decide) (by decide +kernel) (by decide +kernel)
theorem jc_va_0 {n : Nat} {a : Int} (hn : jOkn n) (h : jT n a 23) : jT n (a + 8) 10 := jc_of hn h (by decide) (by decide +kernel) (by decide +kernel)
theorem jc_va_1 {n : Nat} {a : Int} (hn : jOkn n) (h : jT n a 23) : jT n (a + 80) 10 := jc_of hn h (by decide) (by decide +kernel) (by decide +kernel)
theorem jc_va_2 {n : Nat} {a : Int} (hn : jOkn n) (h : jT n a 23) : jT n (a + 152) 10 := jc_of hn h (by decide) (by decide +kernel) (by decide +kernel)
theorem jc_va_3 {n : Nat} {a : Int} (hn : jOkn n) (h : jT n a 23) : jT n (a + 224) 10 := jc_of hn h (by decide) (by decide +kernel) (by decide +kernel)
theorem jc_fa {n : Nat} {a k : Int} (hn : jOkn n) (h : jT n a 21) (h0 : 0 ≤ k) (h1 : k < 5) : jT n (a + 2 + 5 * k) 1 := by
  have : k = 0 ∨ k = 1 ∨ k = 2 ∨ k = 3 ∨ k = 4 := by omega
  rcases this with rfl | rfl | rfl | rfl | rfl
  · have := jc_fa_0 hn h; rwa [show a + 2 + 5 * 0 = a + (2 : Nat) by omega]
  · have := jc_fa_1 hn h; rwa [show a + 2 + 5 * 1 = a + (7 : Nat) by omega]
  · have := jc_fa_2 hn h; rwa [show a + 2 + 5 * 2 = a + (12 : Nat) by omega]
  · have := jc_fa_3 hn h; rwa [show a + 2 + 5 * 3 = a + (17 : Nat) by omega]
  · have := jc_fa_4 hn h; rwa [show a + 2 + 5 * 4 = a + (22 : Nat) by omega]
theorem jc_va {n : Nat} {a k : Int} (hn : jOkn n) (h : jT n a 23) (h0 : 0 ≤ k) (h1 : k < 4) : jT n (a + 8 + 72 * k) 10 := by
  have : k = 0 ∨ k = 1 ∨ k = 2 ∨ k = 3 := by omega
  rcases this with rfl | rfl | rfl | rfl
  · have := jc_va_0 hn h; rwa [show a + 8 + 72 * 0 = a + (8 : Nat) by omega]
  · have := jc_va_1 hn h; rwa [show a + 8 + 72 * 1 = a + (80 : Nat) by omega]
  · have := jc_va_2 hn h; rwa [show a + 8 + 72 * 2 = a + (152 : Nat) by omega]
  · have := jc_va_3 hn h; rwa [show a + 8 + 72 * 3 = a + (224 : Nat) by omega]

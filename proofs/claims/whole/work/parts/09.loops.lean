def jI1 {α1 : Type} (b : (α1 → Prop) → α1 → Prop) : Nat → α1 → Prop
  | 0 => fun _ => False
  | k + 1 => b (jI1 b k)
def jL1 {α1 : Type} (b : (α1 → Prop) → α1 → Prop) (x1 : α1) : Prop := ∃ k, jI1 b k x1
theorem jL1_of {α1 : Type} {b : (α1 → Prop) → α1 → Prop} (I : α1 → Prop) (μ : α1 → Nat) (h : ∀ (k : α1 → Prop) (x1 : α1), I x1 → (∀ (y1 : α1), I y1 → μ y1 < μ x1 → k y1) → b k x1) {x1 : α1} (h0 : I x1) : jL1 b x1 := by
  have key : ∀ (n : Nat) (x1 : α1), I x1 → μ x1 < n → jI1 b n x1 := by
    intro n
    induction n with
    | zero => intro x1 _ hz; exact absurd hz (Nat.not_lt_zero _)
    | succ n ih =>
      intro x1 hi hz
      exact h (jI1 b n) x1 hi (fun y1 hi2 hz2 => ih y1 hi2 (by omega))
  exact ⟨μ x1 + 1, key _ _ h0 (Nat.lt_succ_self _)⟩
def jI2 {α1 α2 : Type} (b : (α1 → α2 → Prop) → α1 → α2 → Prop) : Nat → α1 → α2 → Prop
  | 0 => fun _ _ => False
  | k + 1 => b (jI2 b k)
def jL2 {α1 α2 : Type} (b : (α1 → α2 → Prop) → α1 → α2 → Prop) (x1 : α1) (x2 : α2) : Prop := ∃ k, jI2 b k x1 x2
theorem jL2_of {α1 α2 : Type} {b : (α1 → α2 → Prop) → α1 → α2 → Prop} (I : α1 → α2 → Prop) (μ : α1 → α2 → Nat) (h : ∀ (k : α1 → α2 → Prop) (x1 : α1) (x2 : α2), I x1 x2 → (∀ (y1 : α1) (y2 : α2), I y1 y2 → μ y1 y2 < μ x1 x2 → k y1 y2) → b k x1 x2) {x1 : α1} {x2 : α2} (h0 : I x1 x2) : jL2 b x1 x2 := by
  have key : ∀ (n : Nat) (x1 : α1) (x2 : α2), I x1 x2 → μ x1 x2 < n → jI2 b n x1 x2 := by
    intro n
    induction n with
    | zero => intro x1 x2 _ hz; exact absurd hz (Nat.not_lt_zero _)
    | succ n ih =>
      intro x1 x2 hi hz
      exact h (jI2 b n) x1 x2 hi (fun y1 y2 hi2 hz2 => ih y1 y2 hi2 (by omega))
  exact ⟨μ x1 x2 + 1, key _ _ _ h0 (Nat.lt_succ_self _)⟩
def jI3 {α1 α2 α3 : Type} (b : (α1 → α2 → α3 → Prop) → α1 → α2 → α3 → Prop) : Nat → α1 → α2 → α3 → Prop
  | 0 => fun _ _ _ => False
  | k + 1 => b (jI3 b k)
def jL3 {α1 α2 α3 : Type} (b : (α1 → α2 → α3 → Prop) → α1 → α2 → α3 → Prop) (x1 : α1) (x2 : α2) (x3 : α3) : Prop := ∃ k, jI3 b k x1 x2 x3
theorem jL3_of {α1 α2 α3 : Type} {b : (α1 → α2 → α3 → Prop) → α1 → α2 → α3 → Prop} (I : α1 → α2 → α3 → Prop) (μ : α1 → α2 → α3 → Nat) (h : ∀ (k : α1 → α2 → α3 → Prop) (x1 : α1) (x2 : α2) (x3 : α3), I x1 x2 x3 → (∀ (y1 : α1) (y2 : α2) (y3 : α3), I y1 y2 y3 → μ y1 y2 y3 < μ x1 x2 x3 → k y1 y2 y3) → b k x1 x2 x3) {x1 : α1} {x2 : α2} {x3 : α3} (h0 : I x1 x2 x3) : jL3 b x1 x2 x3 := by
  have key : ∀ (n : Nat) (x1 : α1) (x2 : α2) (x3 : α3), I x1 x2 x3 → μ x1 x2 x3 < n → jI3 b n x1 x2 x3 := by
    intro n
    induction n with
    | zero => intro x1 x2 x3 _ hz; exact absurd hz (Nat.not_lt_zero _)
    | succ n ih =>
      intro x1 x2 x3 hi hz
      exact h (jI3 b n) x1 x2 x3 hi (fun y1 y2 y3 hi2 hz2 => ih y1 y2 y3 hi2 (by omega))
  exact ⟨μ x1 x2 x3 + 1, key _ _ _ _ h0 (Nat.lt_succ_self _)⟩
def jI4 {α1 α2 α3 α4 : Type} (b : (α1 → α2 → α3 → α4 → Prop) → α1 → α2 → α3 → α4 → Prop) : Nat → α1 → α2 → α3 → α4 → Prop
  | 0 => fun _ _ _ _ => False
  | k + 1 => b (jI4 b k)
def jL4 {α1 α2 α3 α4 : Type} (b : (α1 → α2 → α3 → α4 → Prop) → α1 → α2 → α3 → α4 → Prop) (x1 : α1) (x2 : α2) (x3 : α3) (x4 : α4) : Prop := ∃ k, jI4 b k x1 x2 x3 x4
theorem jL4_of {α1 α2 α3 α4 : Type} {b : (α1 → α2 → α3 → α4 → Prop) → α1 → α2 → α3 → α4 → Prop} (I : α1 → α2 → α3 → α4 → Prop) (μ : α1 → α2 → α3 → α4 → Nat) (h : ∀ (k : α1 → α2 → α3 → α4 → Prop) (x1 : α1) (x2 : α2) (x3 : α3) (x4 : α4), I x1 x2 x3 x4 → (∀ (y1 : α1) (y2 : α2) (y3 : α3) (y4 : α4), I y1 y2 y3 y4 → μ y1 y2 y3 y4 < μ x1 x2 x3 x4 → k y1 y2 y3 y4) → b k x1 x2 x3 x4) {x1 : α1} {x2 : α2} {x3 : α3} {x4 : α4} (h0 : I x1 x2 x3 x4) : jL4 b x1 x2 x3 x4 := by
  have key : ∀ (n : Nat) (x1 : α1) (x2 : α2) (x3 : α3) (x4 : α4), I x1 x2 x3 x4 → μ x1 x2 x3 x4 < n → jI4 b n x1 x2 x3 x4 := by
    intro n
    induction n with
    | zero => intro x1 x2 x3 x4 _ hz; exact absurd hz (Nat.not_lt_zero _)
    | succ n ih =>
      intro x1 x2 x3 x4 hi hz
      exact h (jI4 b n) x1 x2 x3 x4 hi (fun y1 y2 y3 y4 hi2 hz2 => ih y1 y2 y3 y4 hi2 (by omega))
  exact ⟨μ x1 x2 x3 x4 + 1, key _ _ _ _ _ h0 (Nat.lt_succ_self _)⟩
def jI5 {α1 α2 α3 α4 α5 : Type} (b : (α1 → α2 → α3 → α4 → α5 → Prop) → α1 → α2 → α3 → α4 → α5 → Prop) : Nat → α1 → α2 → α3 → α4 → α5 → Prop
  | 0 => fun _ _ _ _ _ => False
  | k + 1 => b (jI5 b k)
def jL5 {α1 α2 α3 α4 α5 : Type} (b : (α1 → α2 → α3 → α4 → α5 → Prop) → α1 → α2 → α3 → α4 → α5 → Prop) (x1 : α1) (x2 : α2) (x3 : α3) (x4 : α4) (x5 : α5) : Prop := ∃ k, jI5 b k x1 x2 x3 x4 x5
theorem jL5_of {α1 α2 α3 α4 α5 : Type} {b : (α1 → α2 → α3 → α4 → α5 → Prop) → α1 → α2 → α3 → α4 → α5 → Prop} (I : α1 → α2 → α3 → α4 → α5 → Prop) (μ : α1 → α2 → α3 → α4 → α5 → Nat) (h : ∀ (k : α1 → α2 → α3 → α4 → α5 → Prop) (x1 : α1) (x2 : α2) (x3 : α3) (x4 : α4) (x5 : α5), I x1 x2 x3 x4 x5 → (∀ (y1 : α1) (y2 : α2) (y3 : α3) (y4 : α4) (y5 : α5), I y1 y2 y3 y4 y5 → μ y1 y2 y3 y4 y5 < μ x1 x2 x3 x4 x5 → k y1 y2 y3 y4 y5) → b k x1 x2 x3 x4 x5) {x1 : α1} {x2 : α2} {x3 : α3} {x4 : α4} {x5 : α5} (h0 : I x1 x2 x3 x4 x5) : jL5 b x1 x2 x3 x4 x5 := by
  have key : ∀ (n : Nat) (x1 : α1) (x2 : α2) (x3 : α3) (x4 : α4) (x5 : α5), I x1 x2 x3 x4 x5 → μ x1 x2 x3 x4 x5 < n → jI5 b n x1 x2 x3 x4 x5 := by
    intro n
    induction n with
    | zero => intro x1 x2 x3 x4 x5 _ hz; exact absurd hz (Nat.not_lt_zero _)
    | succ n ih =>
      intro x1 x2 x3 x4 x5 hi hz
      exact h (jI5 b n) x1 x2 x3 x4 x5 hi (fun y1 y2 y3 y4 y5 hi2 hz2 => ih y1 y2 y3 y4 y5 hi2 (by omega))
  exact ⟨μ x1 x2 x3 x4 x5 + 1, key _ _ _ _ _ _ h0 (Nat.lt_succ_self _)⟩
def jSlen (q : Nat) : Int := ((jSl.getD q 0 : Nat) : Int)
def jSch (q : Nat) (i : Int) : Int := ((jSb.getD q []).getD i.toNat 0).toInt
theorem jSlen_rng (q : Nat) : jRng (jSlen q) := by
  unfold jSlen jSl
  match q with
  | 0 | 1 | 2 | 3 | 4 | 5 | 6 | 7 | 8 | 9 | 10 => exact ⟨by decide, by decide⟩
  | q + 11 => exact ⟨by simp, by simp⟩
theorem jSch_rng (q : Nat) (i : Int) : jRng (jSch q i) := ji_rng _
theorem jrng_tdiv {x y : Int} (hx : jRng x) (h0 : 0 < y) (h1 : y < 2147483648) : jRng (x.tdiv y) := by
  obtain ⟨a, b⟩ := hx
  have h2 := Int.natAbs_tdiv x y
  have h3 : (x.tdiv y).natAbs ≤ x.natAbs := by rw [h2]; exact Nat.div_le_self _ _
  by_cases hx0 : 0 ≤ x
  · constructor <;> omega
  · have h4 : x.tdiv y ≤ 0 := by
      rw [show x = -(-x) by omega, Int.neg_tdiv]
      have := Int.tdiv_nonneg (a := -x) (b := y) (by omega) (by omega)
      omega
    constructor <;> omega
theorem jrng_tmod {x y : Int} (hx : jRng x) (h0 : 0 < y) (h1 : y < 2147483648) : jRng (x.tmod y) := by
  have h2 := Int.tmod_lt_of_pos x h0
  have h3 : -y < x.tmod y := by
    by_cases hx0 : 0 ≤ x
    · have := Int.tmod_nonneg (a := x) y hx0
      omega
    · have e : x.tmod y = -((-x).tmod y) := by rw [show x = -(-x) by omega, Int.neg_tmod]; simp
      have := Int.tmod_lt_of_pos (-x) h0
      omega
  constructor <;> omega
theorem jrng_max {x y : Int} (hx : jRng x) (hy : jRng y) : jRng (max x y) := by
  obtain ⟨a, b⟩ := hx; obtain ⟨c, d⟩ := hy
  constructor <;> omega
theorem jrng_min {x y : Int} (hx : jRng x) (hy : jRng y) : jRng (min x y) := by
  obtain ⟨a, b⟩ := hx; obtain ⟨c, d⟩ := hy
  constructor <;> omega
theorem jnar_b {x : Int} (h : x = 0 ∨ x = 1) : narrow .boolean (jI x) = jI x := by
  rcases h with rfl | rfl <;> rfl
theorem jWF_keptq {n : Nat} {C : jC} (hw : jWF n C) : C 0 4 < 0 ∨ jT n (C 0 4) 8 := by
  rcases hw.2.2.2 with ⟨h1, h2⟩ | ⟨h1, h2⟩
  · exact Or.inl (by rw [h1]; decide)
  · refine Or.inr ?_
    rw [h1, h2]
    exact ⟨by decide, by decide, by decide +kernel⟩
theorem jWF_kept {n : Nat} {C : jC} (hw : jWF n C) (h : 0 ≤ C 0 4) : jT n (C 0 4) 8 := Or.resolve_left (jWF_keptq hw) (Int.not_lt.mpr h)
section JQ
variable {p : Program} {l : Launch} {e : Env} {R : Room} {s : State} {m : MethodId} {args : Array Value} {below : List Frame} {meth : Method} {c : Code} {cc : ByteArray} {own : String} {nL : Nat} {Z : jE} {A : Nat → Prop} {cells slots : Nat} {Q : State → Prop} {pc n : Nat} {lv : List (Nat × Value)} {st : List Value} {ws : va_W} {C : jC}
theorem jg_qload_n {f : Fin 4} {x : Int} (X : jX p l s m args c cc own nL Z A) (hd : decode cc pc = .ok (.aload_n f, 1)) (k : Nat) (hk : lv[k]? = some ((f : Nat), jn Z x)) (kk : jG p l e R s m args below meth c nL Z A ws cells slots Q (pc + 1) lv (jn Z x :: st)) : jG p l e R s m args below meth c nL Z A ws cells slots Q pc lv st := by
  intro H locs ls hP hD hS hl
  have k9 := kk H locs ls hP hD hS hl
  by_cases hq : x < 0
  · have e9 : jn Z x = .null := by simp [jn, jo, hq, va_rf]
    rw [e9] at k9 hk
    exact lv_aload_nN X.1 X.2.1 hd rfl (lv_at hl k hk) k9
  · have e9 : jn Z x = jr Z x := jn_pos (by omega)
    rw [e9] at k9 hk
    exact lv_aload_n X.1 X.2.1 hd rfl (lv_at hl k hk) k9
theorem jg_qloadp_n {f : Fin 4} {x : Int} (X : jX p l s m args c cc own nL Z A) (hd : decode cc pc = .ok (.aload_n f, 1)) (k : Nat) (hk : lv[k]? = some ((f : Nat), jn Z x)) (h0 : 0 ≤ x) (kk : jG p l e R s m args below meth c nL Z A ws cells slots Q (pc + 1) lv (jr Z x :: st)) : jG p l e R s m args below meth c nL Z A ws cells slots Q pc lv st := by
  intro H locs ls hP hD hS hl
  rw [jn_pos h0] at hk
  exact lv_aload_n X.1 X.2.1 hd rfl (lv_at hl k hk) (kk H locs ls hP hD hS hl)
theorem jg_qstore_n {f : Fin 4} {x : Int} (X : jX p l s m args c cc own nL Z A) (lv2 : List (Nat × Value)) (hd : decode cc pc = .ok (.astore_n f, 1)) (hi : (f : Nat) < nL) (hl2 : ((f : Nat), jn Z x) :: lv.filter (fun q => !(q.1 == (f : Nat)) && !(q.1 + 1 == (f : Nat) && q.2.category == 2)) = lv2) (kk : jG p l e R s m args below meth c nL Z A ws cells slots Q (pc + 1) lv2 st) : jG p l e R s m args below meth c nL Z A ws cells slots Q pc lv (jn Z x :: st) := by
  intro H locs ls hP hD hS hl
  by_cases hq : x < 0
  · have e9 : jn Z x = .null := by simp [jn, jo, hq, va_rf]
    rw [e9] at hl2 ⊢
    exact lv_astore_nN X.1 X.2.1 hd rfl hl hi hl2 (fun ls hl => kk H locs ls hP hD hS hl)
  · have e9 : jn Z x = jr Z x := jn_pos (by omega)
    rw [e9] at hl2 ⊢
    exact lv_astore_n X.1 X.2.1 hd rfl hl hi hl2 (fun ls hl => kk H locs ls hP hD hS hl)
theorem jg_qload {i : Nat} {x : Int} (X : jX p l s m args c cc own nL Z A) (hd : decode cc pc = .ok (.aload i, 2)) (k : Nat) (hk : lv[k]? = some (i, jn Z x)) (kk : jG p l e R s m args below meth c nL Z A ws cells slots Q (pc + 2) lv (jn Z x :: st)) : jG p l e R s m args below meth c nL Z A ws cells slots Q pc lv st := by
  intro H locs ls hP hD hS hl
  have k9 := kk H locs ls hP hD hS hl
  by_cases hq : x < 0
  · have e9 : jn Z x = .null := by simp [jn, jo, hq, va_rf]
    rw [e9] at k9 hk
    exact lv_aloadN X.1 X.2.1 hd (lv_at hl k hk) k9
  · have e9 : jn Z x = jr Z x := jn_pos (by omega)
    rw [e9] at k9 hk
    exact lv_aload X.1 X.2.1 hd (lv_at hl k hk) k9
theorem jg_qloadp {i : Nat} {x : Int} (X : jX p l s m args c cc own nL Z A) (hd : decode cc pc = .ok (.aload i, 2)) (k : Nat) (hk : lv[k]? = some (i, jn Z x)) (h0 : 0 ≤ x) (kk : jG p l e R s m args below meth c nL Z A ws cells slots Q (pc + 2) lv (jr Z x :: st)) : jG p l e R s m args below meth c nL Z A ws cells slots Q pc lv st := by
  intro H locs ls hP hD hS hl
  rw [jn_pos h0] at hk
  exact lv_aload X.1 X.2.1 hd (lv_at hl k hk) (kk H locs ls hP hD hS hl)
theorem jg_qstore {i : Nat} {x : Int} (X : jX p l s m args c cc own nL Z A) (lv2 : List (Nat × Value)) (hd : decode cc pc = .ok (.astore i, 2)) (hi : i < nL) (hl2 : (i, jn Z x) :: lv.filter (fun q => !(q.1 == i) && !(q.1 + 1 == i && q.2.category == 2)) = lv2) (kk : jG p l e R s m args below meth c nL Z A ws cells slots Q (pc + 2) lv2 st) : jG p l e R s m args below meth c nL Z A ws cells slots Q pc lv (jn Z x :: st) := by
  intro H locs ls hP hD hS hl
  by_cases hq : x < 0
  · have e9 : jn Z x = .null := by simp [jn, jo, hq, va_rf]
    rw [e9] at hl2 ⊢
    exact lv_astoreN X.1 X.2.1 hd hl hi hl2 (fun ls hl => kk H locs ls hP hD hS hl)
  · have e9 : jn Z x = jr Z x := jn_pos (by omega)
    rw [e9] at hl2 ⊢
    exact lv_astore X.1 X.2.1 hd hl hi hl2 (fun ls hl => kk H locs ls hP hD hS hl)
end JQ

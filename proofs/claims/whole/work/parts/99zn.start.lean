theorem kq_28 : Cond.classLink "PrivateViewsLaw" 8 "PrivateViews" ∈ jTB := jtb (List.mem_of_getElem? (i := 28) (by decide +kernel)) (by decide +kernel)
theorem kq_29 : Cond.instantiable "PrivateViews" 5 ∈ jTB := jtb (List.mem_of_getElem? (i := 29) (by decide +kernel)) (by decide +kernel)
theorem kq_31 : Cond.instanceMethod ⟨"PrivateViews", "<init>", "()V"⟩ ∈ jTB := jtb (List.mem_of_getElem? (i := 31) (by decide +kernel)) (by decide +kernel)
theorem kq_32 : Cond.code ⟨"PrivateViews", "<init>", "()V"⟩ prog_1_method_1_code 1 none ∈ jTB := jtb (List.mem_of_getElem? (i := 32) (by decide +kernel)) (by decide +kernel)
theorem kq_1467 : Cond.classLink "PrivateViewsLaw" 140 "PrivateViewsModel" ∈ jTB := jtb (List.mem_of_getElem? (i := 1467) (by decide +kernel)) (by decide +kernel)
theorem kq_1468 : Cond.instantiable "PrivateViewsModel" 19 ∈ jTB := jtb (List.mem_of_getElem? (i := 1468) (by decide +kernel)) (by decide +kernel)
theorem kq_1470 : Cond.instanceMethod ⟨"PrivateViewsModel", "<init>", "()V"⟩ ∈ jTB := jtb (List.mem_of_getElem? (i := 1470) (by decide +kernel)) (by decide +kernel)
theorem kq_1471 : Cond.code ⟨"PrivateViewsModel", "<init>", "()V"⟩ prog_14_method_5_code 2 none ∈ jTB := jtb (List.mem_of_getElem? (i := 1471) (by decide +kernel)) (by decide +kernel)
theorem kq_30 : Cond.methodLink "PrivateViewsLaw" 139 ⟨"PrivateViews", "<init>", "()V"⟩ ∈ jTB := jtb (List.mem_of_getElem? (i := 30) (by decide +kernel)) (by decide +kernel)
theorem kq_1469 : Cond.methodLink "PrivateViewsLaw" 142 ⟨"PrivateViewsModel", "<init>", "()V"⟩ ∈ jTB := jtb (List.mem_of_getElem? (i := 1469) (by decide +kernel)) (by decide +kernel)
-- THE START: a new object, a new model, out
def jC0 : jC := fun a k => if a = 0 then (if k = 4 then -1 else 0) else if a = 1 then (if k = 4 then -1 else 0) else if a = 345 then (if k = 11 then -1 else 0) else if a = 346 then jMw 24 k else if (a = 82 ∨ a = 154 ∨ a = 226 ∨ a = 298) ∧ 0 ≤ k ∧ k < 8 then a + 1 + 5 * k else 0
theorem jC0_z {a k : Int} (h0 : a ≠ 0) (h1 : a ≠ 1) (h5 : a ≠ 345) (h6 : a ≠ 346) (h : a ≠ 82 ∧ a ≠ 154 ∧ a ≠ 226 ∧ a ≠ 298) : jC0 a k = 0 := by
  unfold jC0
  rw [if_neg h0, if_neg h1, if_neg h5, if_neg h6, if_neg (by omega)]
theorem jC0_r {a k : Int} (h : a = 82 ∨ a = 154 ∨ a = 226 ∨ a = 298) (k0 : 0 ≤ k) (k1 : k < 8) : jC0 a k = a + 1 + 5 * k := by
  unfold jC0
  rw [if_neg (by omega), if_neg (by omega), if_neg (by omega), if_neg (by omega), if_pos ⟨h, k0, k1⟩]
theorem jC0_0 (k : Int) : jC0 0 k = if k = 4 then -1 else 0 := if_pos rfl
theorem jC0_1 (k : Int) : jC0 1 k = if k = 4 then -1 else 0 := by unfold jC0; rw [if_neg (by decide), if_pos rfl]
theorem jC0_345 (k : Int) : jC0 345 k = if k = 11 then -1 else 0 := by unfold jC0; rw [if_neg (by decide), if_neg (by decide), if_pos rfl]
theorem jC0_346 (k : Int) : jC0 346 k = jMw 24 k := by unfold jC0; rw [if_neg (by decide), if_neg (by decide), if_neg (by decide), if_pos rfl]
theorem jMw_z {t : Int} (h : t < 9 ∨ 273 ≤ t) : jMw 24 t = 0 := by unfold jMw; rw [if_neg (by omega)]
theorem jC0_hz : ∀ d : Nat, 2 ≤ d → d < 345 → (∀ v, v < 4 → d ≠ 82 + 72 * v) → ∀ k, jC0 ((0 + d : Nat) : Int) k = 0 := by
  intro d d2 d1 h k
  have a0 := h 0 (by omega)
  have a1 := h 1 (by omega)
  have a2 := h 2 (by omega)
  have a3 := h 3 (by omega)
  exact jC0_z (by omega) (by omega) (by omega) (by omega) ⟨by omega, by omega, by omega, by omega⟩
theorem jC0_rw : ∀ v : Nat, v < 4 → ∀ j : Nat, j < 8 → jC0 ((0 + 35 + 16 + 72 * v + 31 : Nat) : Int) (j : Int) = ((0 + 35 + 16 + 72 * v + 32 + 5 * j : Nat) : Int) := by
  intro v hv j hj
  rw [jC0_r (by omega) (by omega) (by omega)]
  omega
theorem jK_22a : ∀ a, a < 357 → jK a = 22 → (a = 82 ∨ a = 154 ∨ a = 226 ∨ a = 298) := by decide +kernel
theorem jK_ea : ∀ k, k < 8 → jK (83 + 5 * k) = 0 ∧ jK (155 + 5 * k) = 0 ∧ jK (227 + 5 * k) = 0 ∧ jK (299 + 5 * k) = 0 := by decide +kernel
theorem jMw_rng (t : Int) : jRng (jMw 24 t) := by
  unfold jMw
  split
  · exact ⟨by decide, by decide⟩
  · exact ji_0
theorem jWF_0 : jWF 357 jC0 := by
  refine ⟨fun a k => ?_, fun a ha k k0 k1 => ?_, Or.inl rfl, Or.inl ⟨by rw [jC0_0]; rfl, rfl⟩⟩
  · unfold jC0
    repeat' split
    all_goals first | exact jMw_rng _ | (constructor <;> omega)
  · obtain ⟨a0, a1, a2⟩ := ha
    have h4 := jK_22a a.toNat (by omega) a2
    obtain ⟨e1, e2, e3, e4⟩ := jK_ea k.toNat (by omega)
    rw [jC0_r (by omega) k0 k1]
    refine ⟨by omega, by omega, ?_⟩
    rcases h4 with h4 | h4 | h4 | h4
    · rw [show (a + 1 + 5 * k).toNat = 83 + 5 * k.toNat by omega]; exact e1
    · rw [show (a + 1 + 5 * k).toNat = 155 + 5 * k.toNat by omega]; exact e2
    · rw [show (a + 1 + 5 * k).toNat = 227 + 5 * k.toNat by omega]; exact e3
    · rw [show (a + 1 + 5 * k).toNat = 299 + 5 * k.toNat by omega]; exact e4
theorem jC0_n {a k : Int} (h0 : 1 < a) (h5 : a < 345) (h : a ≠ 82 ∧ a ≠ 154 ∧ a ≠ 226 ∧ a ≠ 298) : jC0 a k = 0 := jC0_z (by omega) (by omega) (by omega) (by omega) h
theorem rAll_0 : rAll jC0 0 := by
  have e5 : ∀ k, k ≠ 11 → jC0 345 k = 0 := fun k hk => by rw [jC0_345, if_neg hk]
  have ew : jC0 346 = jMw 24 := funext jC0_346
  have nl : ∀ s, ¬ rLive jC0 35 s := by
    rintro s ⟨i, i0, i1, -⟩
    rw [show (35 : Int) + 6 = 41 by decide, jC0_n (by decide) (by decide) (by decide)] at i1
    omega
  refine ⟨?_, ?_, ?_, ?_, ?_, ?_, ?_, Or.inl ⟨?_, e5 4 (by decide)⟩⟩
  · rw [jC0_1, e5 6 (by decide), if_neg (by decide)]
  · rw [e5 6 (by decide)]; omega
  · rw [e5 6 (by decide)]; omega
  · intro i i0 i1
    rw [e5 6 (by decide)] at i1
    omega
  · rw [jC0_1, jC0_345, if_pos rfl, if_pos rfl]
  · rw [ew]
    refine ⟨?_, ?_, ?_, ⟨?_, ?_, ?_⟩, ?_, ?_, ?_⟩
    · have z0 : jMw 24 0 = 0 := jMw_z (by omega)
      have z1 : jMw 24 1 = 0 := jMw_z (by omega)
      have z2 : jMw 24 2 = 0 := jMw_z (by omega)
      have z3 : jMw 24 3 = 0 := jMw_z (by omega)
      refine ⟨?_, ?_, ?_, ?_, ?_, ?_, ?_, ?_, ?_, ?_, ?_⟩
      · rw [z0]; exact jC0_n (by omega) (by omega) (by omega)
      · omega
      · omega
      · rw [z1]; exact jC0_n (by omega) (by omega) (by omega)
      · omega
      · omega
      · rw [z2]; exact jC0_n (by omega) (by omega) (by omega)
      · omega
      · rw [z3]; exact jC0_n (by omega) (by omega) (by omega)
      · omega
      · omega
    · intro c c0 c1
      rw [jMw_z (by omega)]
      exact ⟨jC0_n (by omega) (by omega) (by omega), Or.inl rfl⟩
    · have z : jMw 24 273 = 0 := jMw_z (by omega)
      refine ⟨?_, ?_, ?_, fun i i0 i1 => ?_, fun i j i0 ij j1 => ?_⟩
      · rw [z]; exact jC0_n (by omega) (by omega) (by omega)
      · omega
      · omega
      · omega
      · omega
    · intro s s0 s1 hl
      exact absurd hl (nl s)
    · intro s s0 s1 _
      unfold jMw
      rw [if_pos (by omega)]
    · intro s t s0 s1 t0 t1 hl
      exact absurd hl (nl s)
    · intro v v0 v1
      have zb : ∀ t, 298 ≤ t → jMw 24 t = 0 := fun t ht => jMw_z (by omega)
      have cz : ∀ d k, 0 ≤ d → d < 72 → d ≠ 31 → jC0 (35 + 8 + 8 + 72 * v + d) k = 0 := fun d k d0 d1 d2 => jC0_n (by omega) (by omega) (by omega)
      refine ⟨⟨?_, ?_, ?_, fun i i0 i1 => ?_, fun i j i0 ij j1 => ?_⟩, fun i i0 i1 => ?_, ⟨?_, ?_, ?_, fun k k0 k1 => ?_, ?_, ?_, ?_, fun c c0 c1 => ⟨?_, ?_, ?_, fun k k0 k1 => ?_⟩, fun c c0 c1 => ?_⟩, ⟨?_, ?_, ?_, fun k k0 k1 => ⟨k, k0, k1, ?_⟩, fun i j i0 ij j1 => ?_, fun k k0 k1 => ?_⟩⟩
      · rw [zb _ (by omega)]; exact cz 29 1 (by omega) (by omega) (by omega)
      · rw [zb _ (by omega)]; omega
      · rw [zb _ (by omega)]; omega
      · rw [zb _ (by omega)] at i1; omega
      · rw [zb _ (by omega)] at j1; omega
      · rw [zb _ (by omega)] at i1; omega
      · rw [zb _ (by omega)]; exact cz 1 2 (by omega) (by omega) (by omega)
      · rw [zb _ (by omega)]; omega
      · rw [zb _ (by omega)]; omega
      · rw [zb _ (by omega)] at k1; omega
      · rw [zb _ (by omega)]; exact cz 1 3 (by omega) (by omega) (by omega)
      · rw [zb _ (by omega)]; omega
      · rw [zb _ (by omega)]; omega
      · rw [zb _ (by omega)]
        exact jC0_n (by omega) (by omega) (by omega)
      · rw [zb _ (by omega)]; omega
      · rw [zb _ (by omega)]; omega
      · rw [zb _ (by omega)] at k1; omega
      · exact zb _ (by rw [jMw_z (by omega)] at c0; omega)
      · rw [zb _ (by omega)]
        have := cz 0 3 (by omega) (by omega) (by omega)
        rw [Int.add_zero] at this
        exact this
      · rw [zb _ (by omega)]; omega
      · rw [zb _ (by omega)]; omega
      · rw [jC0_r (by omega) k0 k1]; omega
      · rw [jC0_r (by omega) i0 (by omega), jC0_r (by omega) (by omega) j1]; omega
      · rw [zb _ (by omega)] at k1; omega
    · have z : jMw 24 3 = 0 := jMw_z (by omega)
      have c1 : jC0 (35 + 9) 1 = 0 := jC0_n (by omega) (by omega) (by omega)
      refine ⟨by rw [c1]; omega, by rw [c1]; omega, fun g p g0 g1 => ?_⟩
      rw [z] at g1
      omega
    · intro _
      exact jMw_z (by omega)
  · rw [ew, jMw_z (by omega)]; omega
  · rw [jC0_0, if_pos rfl]
theorem clo_P : jClo jC0 0 kP := by
  have h1 : jClo jC0 1 (kRe ++ kT) := jClo_of (by decide +kernel)
  have h2 : jClo jC0 35 kSt := clo_St (fun v hv j hj => jC0_rw v hv j hj)
  have h3 : jClo jC0 339 kQ := jClo_of (by decide +kernel)
  refine ⟨⟨by decide +kernel, fun q => absurd q (by decide), fun _ => by rw [show ((0 : Nat) : Int) = 0 from rfl, jC0_0, if_pos rfl]⟩, ?_⟩
  show jClo jC0 1 (((kRe ++ kT) ++ kSt) ++ kQ)
  exact jClo_app _ _ _ (jClo_app _ _ _ h1 (by rw [show 1 + (kRe ++ kT).length = 35 by decide +kernel]; exact h2)) (by rw [show 1 + ((kRe ++ kT) ++ kSt).length = 339 by decide +kernel]; exact h3)
theorem jK_start : jKs.take 357 = (kP ++ kM) ++ [24] := by decide +kernel
set_option maxHeartbeats 4000000 in
set_option maxRecDepth 100000 in
theorem law_begin {p : Program} {l : Launch} {e : Env} {s : State} {m : MethodId} {args : Array Value} {below : List Frame} {meth : Method} {c : Code} {Z : jE} {A : Nat → Prop} {Q : State → Prop} {b : Nat} (X : jX p l s m args c code "PrivateViewsLaw" 7 Z A) (h5 : jsV Z 5000 = 0)
    (kk : ∀ ad : Nat → Nat, jG p l e room_1 s m args below meth c 7 (jZa Z ad) A (jws (jZa Z ad) 357 jC0) 357 37799 Q 23 (jwLv (jZa Z ad) 0 b) []) : jG p l e room_1 s m args below meth c 7 Z A [] 0 0 Q 0 [(0, .ref b)] [] := by
  refine jg_newI (C := jC0) (B := 0) (pc := 0) X (n_11 (by rw [show ((0 : Nat) : Int) = 0 from rfl, jC0_0, if_pos rfl]) (fun k hk => by rw [show ((0 + 1 : Nat) : Int) = 1 from rfl, jC0_1, if_neg hk]) (by rw [show ((0 + 1 : Nat) : Int) = 1 from rfl, jC0_1, if_pos rfl]) jC0_hz jC0_rw) rfl jin11 jty11 nd_11 kq_28 kq_29 kw_1 rfl rfl kq_31 kq_32 ⟨by decide, by decide, by decide +kernel⟩ (Or.inl kq_30) d_W_0 d_W_3 d_W_4 ⟨Nat.le_of_ble_eq_true rfl, Nat.le_of_ble_eq_true rfl⟩ (Nat.le_of_ble_eq_true rfl) ⟨Nat.le_of_ble_eq_true rfl, Nat.le_of_ble_eq_true rfl⟩ (fun adX => ?_)
  refine jg_sastore_n (pc := 7) X [(1, .ref (adX 0)), (0, .ref b)] d_W_7 (by decide) rfl ?_
  refine jg_newI (C := jC0) (B := 345) (pc := 8) X (n_12 (fun k hk => by rw [show ((345 : Nat) : Int) = 345 from rfl, jC0_345, if_neg hk]) (by rw [show ((345 : Nat) : Int) = 345 from rfl, jC0_345, if_pos rfl]) (fun t => by rw [show ((345 + 1 : Nat) : Int) = 346 from rfl, jC0_346]) (fun d d2 d1 k => jC0_z (by omega) (by omega) (by omega) (by omega) ⟨by omega, by omega, by omega, by omega⟩)) rfl jin12 jty12 nd_12 kq_1467 kq_1468 kw_13 rfl rfl kq_1470 kq_1471 ⟨by decide, by decide, by decide +kernel⟩ (Or.inl kq_1469) d_W_8 d_W_11 d_W_12 ⟨Nat.le_of_ble_eq_true rfl, Nat.le_of_ble_eq_true rfl⟩ (Nat.le_of_ble_eq_true rfl) ⟨Nat.le_of_ble_eq_true rfl, Nat.le_of_ble_eq_true rfl⟩ (fun adY => ?_)
  refine jg_sastore_n (pc := 15) X [(2, .ref (adY 345)), (1, .ref (adX 0)), (0, .ref b)] d_W_15 (by decide) rfl ?_
  refine jg_iconst (pc := 16) X d_W_16 ?_
  refine jg_newl (N := 1) (pc := 17) X (by decide) d_W_17 ⟨Nat.le_of_ble_eq_true rfl, Nat.le_of_ble_eq_true rfl⟩ (fun q => ?_)
  refine jg_sastore_n (pc := 19) X [(3, .ref q), (2, .ref (adY 345)), (1, .ref (adX 0)), (0, .ref b)] d_W_19 (by decide) rfl ?_
  refine jg_iconst (pc := 20) X d_W_20 ?_
  refine jg_istore (pc := 21) X [(4, jI 0), (3, .ref q), (2, .ref (adY 345)), (1, .ref (adX 0)), (0, .ref b)] d_W_21 (by decide) rfl ?_
  obtain ⟨ad, a1, a2, a3⟩ : ∃ ad : Nat → Nat, (∀ i, i < 345 → ad i = adX i) ∧ (∀ i, 345 ≤ i → i < 356 → ad i = adY i) ∧ ad 356 = q := ⟨fun i => if i < 345 then adX i else if i < 356 then adY i else q, fun i hi => if_pos hi, fun i h0 h1 => by dsimp only; rw [if_neg (by omega), if_pos h1], by dsimp only; rw [if_neg (by decide), if_neg (by decide)]⟩
  have e : jws (jZa Z ad) 357 jC0 = (jSg Z ad jC0 0 kP ++ jSg Z ad jC0 345 kM) ++ [(ad 356, .inl (Z.2.1 2, 1, .inr (.inl (fun _ => Int64.ofInt 0))))] := by
    rw [jSg_ws (by decide), jK_start, jSg_app, jSg_app, show 0 + kP.length = 345 by decide +kernel, show 0 + (kP ++ kM).length = 356 by decide +kernel]
    congr 1
    show [(ad 356, (.inl (Z.2.1 2, 1, .inr (.inl (fun _ => Int64.ofNat (jsV Z 5000)))) : va_E))] = _
    rw [h5]
    rfl
  refine jg_conv (ws' := jws (jZa Z ad) 357 jC0) (fun H hP => ?_) ?_ ?_
  · rw [e]
    obtain ⟨p12, p3⟩ := va_P_app hP
    obtain ⟨p1, p2⟩ := va_P_app p12
    rw [a3]
    refine ((jSg_tr clo_P (fun i _ i1 => a1 i ?_) p1).app (jSg_tr (jClo_of (by decide +kernel)) (fun i i0 i1 => a2 i i0 ?_) p2)).app p3
    · have : kP.length = 345 := by decide +kernel
      omega
    · have : kM.length = 11 := by decide +kernel
      omega
  · rw [e, List.map_append, List.map_append, List.map_append, List.map_append, a3]
    have h1 : kP.length = 345 := by decide +kernel
    have h2 : kM.length = 11 := by decide +kernel
    rw [jSg_ad (ad := adX) (ad' := ad) (fun i _ i1 => a1 i (by omega)), jSg_ad (ad := adY) (ad' := ad) (fun i i0 i1 => a2 i i0 (by omega))]
    rfl
  · have hk := kk ad
    have e0 : jr (jZa Z ad) 0 = .ref (adX 0) := congrArg Value.ref (a1 0 (by decide))
    have e1 : jr (jZa Z ad) 345 = .ref (adY 345) := congrArg Value.ref (a2 345 (by decide) (by decide))
    have e2 : jr (jZa Z ad) 356 = .ref q := congrArg Value.ref a3
    refine jg_lvsub (lv2 := jwLv (jZa Z ad) 0 b) [0, 4, 3, 2, 1] (by show [_, _, _, _, _] = [_, _, (1, jr (jZa Z ad) 0), (2, jr (jZa Z ad) 345), (3, jr (jZa Z ad) 356)]; rw [e0, e1, e2]) ?_
    exact hk
/-- THE LAW, from its entry -/
theorem whole_start {p : Program} {e : Env} {s : State} {m : MethodId} {below : List Frame} {meth : Method} {c : Code} (l : Launch) (hflags : l.flags = flags0) {b L : Nat} {xs : Nat → Int32} (hL : L ≤ 3072) (C0 : lw_At p s m meth c b L xs) : W p l e room_1 s m #[Value.ref b] below meth c s.heap [] 0 0 (lw_Z below #[Value.ref b] s) (entryFrame m ([Value.ref b] : List Value).toArray 7) := by
  obtain ⟨Z0, X0, hN⟩ := law_X l hflags C0
  obtain ⟨hx, hb, hr, hml, hown, hts, hX, hbl, hlocks, hgv⟩ := C0
  have X : jX p l s m #[Value.ref b] c code "PrivateViewsLaw" 7 (jZo Z0 0) (fun q => s.heap.size ≤ q) := jX_o X0
  have hl := lv_entry ([.ref b] : List Value) (n := 7) (Nat.le_of_ble_eq_true rfl)
  rw [lg_entry_eq]
  refine law_begin (Z := jZo Z0 0) (b := b) X (jsV_o Z0 0) (fun ad => ?_) s.heap [] _ (fun k q h => by simp at h) ⟨fun i j p q h => by simp at h, fun k q h => by simp at h⟩ va_S.rf hl
  exact law_loop (fun q h => h) hr hlocks hN hX hbl (Nat.not_le.mpr hbl) hL 513 0 (jZa (jZo Z0 0) ad) 357 jC0 357 37799 0 0 (by omega) (by omega) (by omega) (by omega) (by omega) (by omega) X jWF_0 rAll_0

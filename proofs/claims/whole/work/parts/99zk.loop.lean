set_option maxHeartbeats 16000000 in
set_option maxRecDepth 100000 in
theorem law_switch {p : Program} {l : Launch} {e : Env} {s : State} {m : MethodId} {args : Array Value} {below : List Frame} {meth : Method} {c : Code} {Z : jE} {A : Nat → Prop} {cells slots : Nat} {Q : State → Prop} {n : Nat} {C : jC} {b L : Nat} {xs : Nat → Int32} {i K x : Int} (LW : jwLaw p l s m args c Z A b L xs i) (hw : jWF n C) (h : rAll C K) (hK : K < 800000) (hc : cells + 310 ≤ 319022 ∧ slots + 9400 ≤ 8139040) (kk : jwCo p l e s m args below meth c A cells slots Q K i b) (rx : jRng x) : jG p l e room_1 s m args below meth c 7 Z A (jws Z n C) cells slots Q 40 (jwLv Z i b) [jI x] := by
  have X := LW.1
  by_cases hx : 0 ≤ x ∧ x ≤ 44
  · have hd : x = 0 ∨ x = 1 ∨ x = 2 ∨ x = 3 ∨ x = 4 ∨ x = 5 ∨ x = 6 ∨ x = 7 ∨ x = 8 ∨ x = 9 ∨ x = 10 ∨ x = 11 ∨ x = 12 ∨ x = 13 ∨ x = 14 ∨ x = 15 ∨ x = 16 ∨ x = 17 ∨ x = 18 ∨ x = 19 ∨ x = 20 ∨ x = 21 ∨ x = 22 ∨ x = 23 ∨ x = 24 ∨ x = 25 ∨ x = 26 ∨ x = 27 ∨ x = 28 ∨ x = 29 ∨ x = 30 ∨ x = 31 ∨ x = 32 ∨ x = 33 ∨ x = 34 ∨ x = 35 ∨ x = 36 ∨ x = 37 ∨ x = 38 ∨ x = 39 ∨ x = 40 ∨ x = 41 ∨ x = 42 ∨ x = 43 ∨ x = 44 := by omega
    rcases hd with rfl | rfl | rfl | rfl | rfl | rfl | rfl | rfl | rfl | rfl | rfl | rfl | rfl | rfl | rfl | rfl | rfl | rfl | rfl | rfl | rfl | rfl | rfl | rfl | rfl | rfl | rfl | rfl | rfl | rfl | rfl | rfl | rfl | rfl | rfl | rfl | rfl | rfl | rfl | rfl | rfl | rfl | rfl | rfl | rfl
    · exact jg_tswIn (pc := 40) (tgt := 236) (off := 196) X d_W_40 rx (by decide) (by decide) rfl (by decide) (law_0 LW hw h hK hc kk)
    · exact jg_tswIn (pc := 40) (tgt := 309) (off := 269) X d_W_40 rx (by decide) (by decide) rfl (by decide) (law_1 LW hw h hK hc kk)
    · exact jg_tswIn (pc := 40) (tgt := 334) (off := 294) X d_W_40 rx (by decide) (by decide) rfl (by decide) (law_2 LW hw h hK hc kk)
    · exact jg_tswIn (pc := 40) (tgt := 378) (off := 338) X d_W_40 rx (by decide) (by decide) rfl (by decide) (law_3 LW hw h hK hc kk)
    · exact jg_tswIn (pc := 40) (tgt := 434) (off := 394) X d_W_40 rx (by decide) (by decide) rfl (by decide) (law_4 LW hw h hK hc kk)
    · exact jg_tswIn (pc := 40) (tgt := 447) (off := 407) X d_W_40 rx (by decide) (by decide) rfl (by decide) (law_5 LW hw h hK hc kk)
    · exact jg_tswIn (pc := 40) (tgt := 503) (off := 463) X d_W_40 rx (by decide) (by decide) rfl (by decide) (law_6 LW hw h hK hc kk)
    · exact jg_tswIn (pc := 40) (tgt := 571) (off := 531) X d_W_40 rx (by decide) (by decide) rfl (by decide) (law_7 LW hw h hK hc kk)
    · exact jg_tswIn (pc := 40) (tgt := 596) (off := 556) X d_W_40 rx (by decide) (by decide) rfl (by decide) (law_8 LW hw h hK hc kk)
    · exact jg_tswIn (pc := 40) (tgt := 664) (off := 624) X d_W_40 rx (by decide) (by decide) rfl (by decide) (law_9 LW hw h hK hc kk)
    · exact jg_tswIn (pc := 40) (tgt := 732) (off := 692) X d_W_40 rx (by decide) (by decide) rfl (by decide) (law_10 LW hw h hK hc kk)
    · exact jg_tswIn (pc := 40) (tgt := 800) (off := 760) X d_W_40 rx (by decide) (by decide) rfl (by decide) (law_11 LW hw h hK hc kk)
    · exact jg_tswIn (pc := 40) (tgt := 868) (off := 828) X d_W_40 rx (by decide) (by decide) rfl (by decide) (law_12 LW hw h hK hc kk)
    · exact jg_tswIn (pc := 40) (tgt := 960) (off := 920) X d_W_40 rx (by decide) (by decide) rfl (by decide) (law_13 LW hw h hK hc kk)
    · exact jg_tswIn (pc := 40) (tgt := 1040) (off := 1000) X d_W_40 rx (by decide) (by decide) rfl (by decide) (law_14 LW hw h hK hc kk)
    · exact jg_tswIn (pc := 40) (tgt := 1132) (off := 1092) X d_W_40 rx (by decide) (by decide) rfl (by decide) (law_15 LW hw h hK hc kk)
    · exact jg_tswIn (pc := 40) (tgt := 1224) (off := 1184) X d_W_40 rx (by decide) (by decide) rfl (by decide) (law_16 LW hw h hK hc kk)
    · exact jg_tswIn (pc := 40) (tgt := 1316) (off := 1276) X d_W_40 rx (by decide) (by decide) rfl (by decide) (law_17 LW hw h hK hc kk)
    · exact jg_tswIn (pc := 40) (tgt := 1396) (off := 1356) X d_W_40 rx (by decide) (by decide) rfl (by decide) (law_18 LW hw h hK hc kk)
    · exact jg_tswIn (pc := 40) (tgt := 1464) (off := 1424) X d_W_40 rx (by decide) (by decide) rfl (by decide) (law_19 LW hw h hK hc kk)
    · exact jg_tswIn (pc := 40) (tgt := 1532) (off := 1492) X d_W_40 rx (by decide) (by decide) rfl (by decide) (law_20 LW hw h hK hc kk)
    · exact jg_tswIn (pc := 40) (tgt := 1612) (off := 1572) X d_W_40 rx (by decide) (by decide) rfl (by decide) (law_21 LW hw h hK hc kk)
    · exact jg_tswIn (pc := 40) (tgt := 1668) (off := 1628) X d_W_40 rx (by decide) (by decide) rfl (by decide) (law_22 LW hw h hK hc kk)
    · exact jg_tswIn (pc := 40) (tgt := 1724) (off := 1684) X d_W_40 rx (by decide) (by decide) rfl (by decide) (law_23 LW hw h hK hc kk)
    · exact jg_tswIn (pc := 40) (tgt := 1799) (off := 1759) X d_W_40 rx (by decide) (by decide) rfl (by decide) (law_24 LW hw h hK hc kk)
    · exact jg_tswIn (pc := 40) (tgt := 1867) (off := 1827) X d_W_40 rx (by decide) (by decide) rfl (by decide) (law_25 LW hw h hK hc kk)
    · exact jg_tswIn (pc := 40) (tgt := 1923) (off := 1883) X d_W_40 rx (by decide) (by decide) rfl (by decide) (law_26 LW hw h hK hc kk)
    · exact jg_tswIn (pc := 40) (tgt := 1979) (off := 1939) X d_W_40 rx (by decide) (by decide) rfl (by decide) (law_27 LW hw h hK hc kk)
    · exact jg_tswIn (pc := 40) (tgt := 2047) (off := 2007) X d_W_40 rx (by decide) (by decide) rfl (by decide) (law_28 LW hw h hK hc kk)
    · exact jg_tswIn (pc := 40) (tgt := 2103) (off := 2063) X d_W_40 rx (by decide) (by decide) rfl (by decide) (law_29 LW hw h hK hc kk)
    · exact jg_tswIn (pc := 40) (tgt := 2171) (off := 2131) X d_W_40 rx (by decide) (by decide) rfl (by decide) (law_30 LW hw h hK hc kk)
    · exact jg_tswIn (pc := 40) (tgt := 2239) (off := 2199) X d_W_40 rx (by decide) (by decide) rfl (by decide) (law_31 LW hw h hK hc kk)
    · exact jg_tswIn (pc := 40) (tgt := 2319) (off := 2279) X d_W_40 rx (by decide) (by decide) rfl (by decide) (law_32 LW hw h hK hc kk)
    · exact jg_tswIn (pc := 40) (tgt := 2387) (off := 2347) X d_W_40 rx (by decide) (by decide) rfl (by decide) (law_33 LW hw h hK hc kk)
    · exact jg_tswIn (pc := 40) (tgt := 2455) (off := 2415) X d_W_40 rx (by decide) (by decide) rfl (by decide) (law_34 LW hw h hK hc kk)
    · exact jg_tswIn (pc := 40) (tgt := 2523) (off := 2483) X d_W_40 rx (by decide) (by decide) rfl (by decide) (law_35 LW hw h hK hc kk)
    · exact jg_tswIn (pc := 40) (tgt := 2615) (off := 2575) X d_W_40 rx (by decide) (by decide) rfl (by decide) (law_36 LW hw h hK hc kk)
    · exact jg_tswIn (pc := 40) (tgt := 2707) (off := 2667) X d_W_40 rx (by decide) (by decide) rfl (by decide) (law_37 LW hw h hK hc kk)
    · exact jg_tswIn (pc := 40) (tgt := 2775) (off := 2735) X d_W_40 rx (by decide) (by decide) rfl (by decide) (law_38 LW hw h hK hc kk)
    · exact jg_tswIn (pc := 40) (tgt := 2831) (off := 2791) X d_W_40 rx (by decide) (by decide) rfl (by decide) (law_39 LW hw h hK hc kk)
    · exact jg_tswIn (pc := 40) (tgt := 2887) (off := 2847) X d_W_40 rx (by decide) (by decide) rfl (by decide) (law_40 LW hw h hK hc kk)
    · exact jg_tswIn (pc := 40) (tgt := 2979) (off := 2939) X d_W_40 rx (by decide) (by decide) rfl (by decide) (law_41 LW hw h hK hc kk)
    · exact jg_tswIn (pc := 40) (tgt := 3047) (off := 3007) X d_W_40 rx (by decide) (by decide) rfl (by decide) (law_42 LW hw h hK hc kk)
    · exact jg_tswIn (pc := 40) (tgt := 3058) (off := 3018) X d_W_40 rx (by decide) (by decide) rfl (by decide) (law_43 LW hw h hK hc kk)
    · exact jg_tswIn (pc := 40) (tgt := 3071) (off := 3031) X d_W_40 rx (by decide) (by decide) rfl (by decide) (law_44 LW hw h hK hc kk)
  · refine jg_tswOut (pc := 40) (tgt := 3096) X d_W_40 rx (by omega) (by decide) ?_
    refine jg_widen (cells2 := cells + 310) (slots2 := slots + 9400) (by omega) (by omega) ?_
    exact kk Z n C X hw (rAll_mono h (by omega))
set_option maxHeartbeats 4000000 in
set_option maxRecDepth 100000 in
theorem law_loop {p : Program} {l : Launch} {e : Env} {s : State} {m : MethodId} {below : List Frame} {meth : Method} {c : Code} {A : Nat → Prop} {b L : Nat} {xs : Nat → Int32} (hA : ∀ q, A q → s.heap.size ≤ q) (hr : meth.sig.returnType = ret) (hlocks : meth.locks = false) (hN : jNcs s) (hX : va_X b L xs s s.heap) (hbl : b < s.heap.size) (hbA : ¬ A b) (hL : L ≤ 3072) :
    ∀ (N j : Nat) (Z : jE) (n : Nat) (C : jC) (cells slots : Nat) (i K : Int), L < 6 * (j + N) + 6 → 6 * j ≤ L + 5 → i = 6 * (j : Int) → K = 14 * (j : Int) → cells = 357 + 310 * j → slots = 37799 + 9400 * j → jX p l s m #[.ref b] c code "PrivateViewsLaw" 7 Z A → jWF n C → rAll C K → jG p l e room_1 s m #[.ref b] below meth c 7 Z A (jws Z n C) cells slots (lw_Z below #[Value.ref b] s) 23 (jwLv Z i b) [] := by
  intro N
  induction N with
  | zero =>
    intro j Z n C cells slots i K h1 h2 ei eK ec es X hw h
    refine jg_iload (pc := 23) X d_W_23 0 rfl ?_
    refine jg_sload_n (pc := 25) X d_W_25 1 rfl ?_
    refine jg_slen (pc := 26) X hX hbl hbA d_W_26 ?_
    refine jg_bipush (pc := 27) X d_W_27 rfl ?_
    refine jg_isub (pc := 29) X d_W_29 ?_
    refine jg_icmp_gt (T := True) (F := False) (tgt := 3102) (pc := 30) X d_W_30 (by decide) ⟨by omega, by omega⟩ ⟨by omega, by omega⟩ (by rw [if_pos (by omega)]; trivial) (fun _ _ => ?_) (fun _ q => q.elim)
    exact jg_lawEnd X hA hr hlocks ⟨by omega, by omega⟩ d_W_3102 d_W_3103
  | succ N ih =>
    intro j Z n C cells slots i K h1 h2 ei eK ec es X hw h
    refine jg_iload (pc := 23) X d_W_23 0 rfl ?_
    refine jg_sload_n (pc := 25) X d_W_25 1 rfl ?_
    refine jg_slen (pc := 26) X hX hbl hbA d_W_26 ?_
    refine jg_bipush (pc := 27) X d_W_27 rfl ?_
    refine jg_isub (pc := 29) X d_W_29 ?_
    refine jg_icmp_gt (T := True) (F := True) (tgt := 3102) (pc := 30) X d_W_30 (by decide) ⟨by omega, by omega⟩ ⟨by omega, by omega⟩ (by split <;> trivial) (fun _ _ => ?_) (fun c1 _ => ?_)
    · exact jg_lawEnd X hA hr hlocks ⟨by omega, by omega⟩ d_W_3102 d_W_3103
    · refine jg_sload_n (pc := 33) X d_W_33 1 rfl ?_
      refine jg_iload (pc := 34) X d_W_34 0 rfl ?_
      refine jg_sld (pc := 36) X hX hbl hbA (by omega) (by omega) (by omega) d_W_36 ?_
      refine jg_bipush (pc := 37) X d_W_37 rfl ?_
      refine jg_iand (pc := 39) X d_W_39 ?_
      refine law_switch (L := L) (xs := xs) (K := K) ⟨X, hN, hX, hbl, hbA, hL, by omega, by omega⟩ hw h (by omega) ⟨by omega, by omega⟩ (fun Z' n' C' X' hw' h' => ?_) (jAnd_rng _ _)
      refine jg_iinc (pc := 3096) X' (jwLv Z' (i + 6) b) d_W_3096 0 rfl (by decide) rfl ?_
      refine jg_goto (tgt := 23) (pc := 3099) X' d_W_3099 (by decide) ?_
      exact ih (j + 1) Z' n' C' (cells + 310) (slots + 9400) (i + 6) (K + 14) (by omega) (by omega) (by omega) (by omega) (by omega) (by omega) X' hw' h'

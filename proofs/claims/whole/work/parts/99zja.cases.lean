set_option maxHeartbeats 4000000 in
set_option maxRecDepth 100000 in
theorem law_0 {p : Program} {l : Launch} {e : Env} {s : State} {m : MethodId} {args : Array Value} {below : List Frame} {meth : Method} {c : Code} {Z : jE} {A : Nat → Prop} {cells slots : Nat} {Q : State → Prop} {n : Nat} {C : jC} {b L : Nat} {xs : Nat → Int32} {i K : Int} (LW : jwLaw p l s m args c Z A b L xs i) (hw : jWF n C) (h : rAll C K) (hK : K < 800000) (hc : cells + 310 ≤ 319022 ∧ slots + 9400 ≤ 8139040) (kk : jwCo p l e s m args below meth c A cells slots Q K i b) : jG p l e room_1 s m args below meth c 7 Z A (jws Z n C) cells slots Q 236 (jwLv Z i b) [] := by
  have X := LW.1
  have hn := hw.2.2.1
  have hc1 := hc.1
  have hc2 := hc.2
  refine jg_aload_n (pc := 236) X d_W_236 2 rfl ?_
  refine jg_arg (pc := 237) (k := 1) LW (by decide) (by decide) l_W_237 1 0 rfl rfl ?_
  refine jg_arg (pc := 243) (k := 2) LW (by decide) (by decide) l_W_243 1 0 rfl rfl ?_
  refine jg_arg (pc := 249) (k := 3) LW (by decide) (by decide) l_W_249 1 0 rfl rfl ?_
  refine jg_arg (pc := 255) (k := 4) LW (by decide) (by decide) l_W_255 1 0 rfl rfl ?_
  refine jg_arg (pc := 261) (k := 5) LW (by decide) (by decide) l_W_261 1 0 rfl rfl ?_
  refine jg_callVi (rest := []) (pc := 267) X (m_11_feed (jwSv_r xs i 1) (jwSv_r xs i 2) (jwSv_r xs i 3) (jwSv_r xs i 4) (jwSv_r xs i 5) hw (op_feed h)) jM_11_feed ky_352 (jl_0_11 hn) rfl rfl rfl rfl rfl (Nat.le_of_ble_eq_true rfl) d_W_267 ⟨Nat.le_of_ble_eq_true rfl, Nat.le_of_ble_eq_true rfl⟩ ⟨by show cells + 0 ≤ 319022; omega, by show slots + 0 ≤ 8139040; omega⟩ (fun r C1 rr hw1 hp => ?_)
  refine jg_aload_n (pc := 270) X d_W_270 3 rfl ?_
  refine jg_arg (pc := 271) (k := 1) LW (by decide) (by decide) l_W_271 1 0 rfl rfl ?_
  refine jg_arg (pc := 277) (k := 2) LW (by decide) (by decide) l_W_277 1 0 rfl rfl ?_
  refine jg_arg (pc := 283) (k := 3) LW (by decide) (by decide) l_W_283 1 0 rfl rfl ?_
  refine jg_arg (pc := 289) (k := 4) LW (by decide) (by decide) l_W_289 1 0 rfl rfl ?_
  refine jg_arg (pc := 295) (k := 5) LW (by decide) (by decide) l_W_295 1 0 rfl rfl ?_
  refine jg_callVi (rest := [jI r]) (pc := 301) X (m_12_feed (jwSv_r xs i 1) (jwSv_r xs i 2) (jwSv_r xs i 3) (jwSv_r xs i 4) (jwSv_r xs i 5) hw1 hp) jM_12_feed ky_1539 (jl_345_12 hn) rfl rfl rfl rfl rfl (Nat.le_of_ble_eq_true rfl) d_W_301 ⟨Nat.le_of_ble_eq_true rfl, Nat.le_of_ble_eq_true rfl⟩ ⟨by show cells + 0 + 0 ≤ 319022; omega, by show slots + 0 + 0 ≤ 8139040; omega⟩ (fun b2 C2 rb hw2 hp2 => ?_)
  obtain ⟨p1, p2, p3⟩ := hp2
  refine jg_icmp_eq (T := True) (F := False) (tgt := 3096) (pc := 304) X d_W_304 (by decide) rr rb (by rw [if_pos p2.symm]; trivial) (fun _ _ => ?_) (fun _ q => q.elim)
  refine jg_widen (cells2 := cells + 310) (slots2 := slots + 9400) (by show cells + 0 + 0 ≤ cells + 310; omega) (by show slots + 0 + 0 ≤ slots + 9400; omega) ?_
  exact kk Z n C2 X hw2 (rAll_mono p3 (by omega))
set_option maxHeartbeats 4000000 in
set_option maxRecDepth 100000 in
theorem law_1 {p : Program} {l : Launch} {e : Env} {s : State} {m : MethodId} {args : Array Value} {below : List Frame} {meth : Method} {c : Code} {Z : jE} {A : Nat → Prop} {cells slots : Nat} {Q : State → Prop} {n : Nat} {C : jC} {b L : Nat} {xs : Nat → Int32} {i K : Int} (LW : jwLaw p l s m args c Z A b L xs i) (hw : jWF n C) (h : rAll C K) (hK : K < 800000) (hc : cells + 310 ≤ 319022 ∧ slots + 9400 ≤ 8139040) (kk : jwCo p l e s m args below meth c A cells slots Q K i b) : jG p l e room_1 s m args below meth c 7 Z A (jws Z n C) cells slots Q 309 (jwLv Z i b) [] := by
  have X := LW.1
  have hn := hw.2.2.1
  have hc1 := hc.1
  have hc2 := hc.2
  refine jg_aload_n (pc := 309) X d_W_309 2 rfl ?_
  refine jg_arg (pc := 310) (k := 1) LW (by decide) (by decide) l_W_310 1 0 rfl rfl ?_
  refine jg_callVi (rest := []) (pc := 316) X (m_11_end (jwSv_r xs i 1) hw (op_end h)) jM_11_end ky_360 (jl_0_11 hn) rfl rfl rfl rfl rfl (Nat.le_of_ble_eq_true rfl) d_W_316 ⟨Nat.le_of_ble_eq_true rfl, Nat.le_of_ble_eq_true rfl⟩ ⟨by show cells + 0 ≤ 319022; omega, by show slots + 0 ≤ 8139040; omega⟩ (fun r C1 rr hw1 hp => ?_)
  refine jg_aload_n (pc := 319) X d_W_319 3 rfl ?_
  refine jg_arg (pc := 320) (k := 1) LW (by decide) (by decide) l_W_320 1 0 rfl rfl ?_
  refine jg_callVi (rest := [jI r]) (pc := 326) X (m_12_end (jwSv_r xs i 1) hw1 hp) jM_12_end ky_1543 (jl_345_12 hn) rfl rfl rfl rfl rfl (Nat.le_of_ble_eq_true rfl) d_W_326 ⟨Nat.le_of_ble_eq_true rfl, Nat.le_of_ble_eq_true rfl⟩ ⟨by show cells + 0 + 0 ≤ 319022; omega, by show slots + 0 + 0 ≤ 8139040; omega⟩ (fun b2 C2 rb hw2 hp2 => ?_)
  obtain ⟨p1, p2, p3⟩ := hp2
  refine jg_icmp_eq (T := True) (F := False) (tgt := 3096) (pc := 329) X d_W_329 (by decide) rr rb (by rw [if_pos p2.symm]; trivial) (fun _ _ => ?_) (fun _ q => q.elim)
  refine jg_widen (cells2 := cells + 310) (slots2 := slots + 9400) (by show cells + 0 + 0 ≤ cells + 310; omega) (by show slots + 0 + 0 ≤ slots + 9400; omega) ?_
  exact kk Z n C2 X hw2 (rAll_mono p3 (by omega))
set_option maxHeartbeats 4000000 in
set_option maxRecDepth 100000 in
theorem law_2 {p : Program} {l : Launch} {e : Env} {s : State} {m : MethodId} {args : Array Value} {below : List Frame} {meth : Method} {c : Code} {Z : jE} {A : Nat → Prop} {cells slots : Nat} {Q : State → Prop} {n : Nat} {C : jC} {b L : Nat} {xs : Nat → Int32} {i K : Int} (LW : jwLaw p l s m args c Z A b L xs i) (hw : jWF n C) (h : rAll C K) (hK : K < 800000) (hc : cells + 310 ≤ 319022 ∧ slots + 9400 ≤ 8139040) (kk : jwCo p l e s m args below meth c A cells slots Q K i b) : jG p l e room_1 s m args below meth c 7 Z A (jws Z n C) cells slots Q 334 (jwLv Z i b) [] := by
  have X := LW.1
  have hn := hw.2.2.1
  have hc1 := hc.1
  have hc2 := hc.2
  refine jg_aload_n (pc := 334) X d_W_334 2 rfl ?_
  refine jg_aload_n (pc := 335) X d_W_335 4 rfl ?_
  refine jg_callH (np := 2) (rest := []) (pc := 336) X LW.2.1 (h_sheet hw h hK) ky_450 ky_449 ky_0 ky_448 ⟨by decide, by decide, by decide +kernel⟩ rfl rfl (Nat.le_of_ble_eq_true rfl) d_W_336 ⟨Nat.le_of_ble_eq_true rfl, Nat.le_of_ble_eq_true rfl⟩ ⟨by show cells + 1 ≤ 319022; omega, by show slots + 6 ≤ 8139040; omega⟩ (fun r v C1 rr hw1 hp => ?_)
  refine jg_istore (pc := 339) X ((5, jI r) :: jwLv Z i b) d_W_339 (by decide) rfl ?_
  refine jg_aload_n (pc := 341) X d_W_341 4 rfl ?_
  refine jg_eqst (st2 := ([] : List Value).reverse ++ [jr Z 345]) rfl ?_
  exact law_tailI (wpm := wp_12_sheet) (pc := 342) X (fun post hq => m_12_sheet hw1 hq) jM_12_sheet rfl ky_1551 ky_1463 rfl t_W_342 u_W_342 (by decide) hp rr hw1 ⟨Nat.le_of_ble_eq_true rfl, Nat.le_of_ble_eq_true rfl, rfl, rfl⟩ hc ⟨by show cells + 1 ≤ cells + 310; omega, by show slots + 6 ≤ slots + 9400; omega⟩ (by omega) kk
set_option maxHeartbeats 4000000 in
set_option maxRecDepth 100000 in
theorem law_3 {p : Program} {l : Launch} {e : Env} {s : State} {m : MethodId} {args : Array Value} {below : List Frame} {meth : Method} {c : Code} {Z : jE} {A : Nat → Prop} {cells slots : Nat} {Q : State → Prop} {n : Nat} {C : jC} {b L : Nat} {xs : Nat → Int32} {i K : Int} (LW : jwLaw p l s m args c Z A b L xs i) (hw : jWF n C) (h : rAll C K) (hK : K < 800000) (hc : cells + 310 ≤ 319022 ∧ slots + 9400 ≤ 8139040) (kk : jwCo p l e s m args below meth c A cells slots Q K i b) : jG p l e room_1 s m args below meth c 7 Z A (jws Z n C) cells slots Q 378 (jwLv Z i b) [] := by
  have X := LW.1
  have hn := hw.2.2.1
  have hc1 := hc.1
  have hc2 := hc.2
  refine jg_aload_n (pc := 378) X d_W_378 2 rfl ?_
  refine jg_arg (pc := 379) (k := 1) LW (by decide) (by decide) l_W_379 1 0 rfl rfl ?_
  refine jg_aload_n (pc := 385) X d_W_385 4 rfl ?_
  refine jg_callH (np := 3) (rest := []) (pc := 386) X LW.2.1 (h_view (jwSv_r xs i 1) hw h) ky_765 ky_764 ky_0 ky_763 ⟨by decide, by decide, by decide +kernel⟩ rfl rfl (Nat.le_of_ble_eq_true rfl) d_W_386 ⟨Nat.le_of_ble_eq_true rfl, Nat.le_of_ble_eq_true rfl⟩ ⟨by show cells + 2 ≤ 319022; omega, by show slots + 12 ≤ 8139040; omega⟩ (fun r v C1 rr hw1 hp => ?_)
  refine jg_istore (pc := 389) X ((5, jI r) :: jwLv Z i b) d_W_389 (by decide) rfl ?_
  refine jg_aload_n (pc := 391) X d_W_391 4 rfl ?_
  refine jg_arg (pc := 392) (k := 1) LW (by decide) (by decide) l_W_392 2 1 rfl rfl ?_
  refine jg_eqst (st2 := ([jI (jwSv xs i 1)] : List Value).reverse ++ [jr Z 345]) rfl ?_
  exact law_tailI (wpm := (wp_12_view (jwSv xs i 1))) (pc := 398) X (fun post hq => m_12_view (jwSv_r xs i 1) hw1 hq) jM_12_view rfl ky_1701 ky_1463 rfl t_W_398 u_W_398 (by decide) hp rr hw1 ⟨Nat.le_of_ble_eq_true rfl, Nat.le_of_ble_eq_true rfl, rfl, rfl⟩ hc ⟨by show cells + 2 ≤ cells + 310; omega, by show slots + 12 ≤ slots + 9400; omega⟩ (by omega) kk
set_option maxHeartbeats 4000000 in
set_option maxRecDepth 100000 in
theorem law_4 {p : Program} {l : Launch} {e : Env} {s : State} {m : MethodId} {args : Array Value} {below : List Frame} {meth : Method} {c : Code} {Z : jE} {A : Nat → Prop} {cells slots : Nat} {Q : State → Prop} {n : Nat} {C : jC} {b L : Nat} {xs : Nat → Int32} {i K : Int} (LW : jwLaw p l s m args c Z A b L xs i) (hw : jWF n C) (h : rAll C K) (hK : K < 800000) (hc : cells + 310 ≤ 319022 ∧ slots + 9400 ≤ 8139040) (kk : jwCo p l e s m args below meth c A cells slots Q K i b) : jG p l e room_1 s m args below meth c 7 Z A (jws Z n C) cells slots Q 434 (jwLv Z i b) [] := by
  have X := LW.1
  have hn := hw.2.2.1
  have hc1 := hc.1
  have hc2 := hc.2
  refine jg_aload_n (pc := 434) X d_W_434 2 rfl ?_
  refine jg_pcallVi (rest := []) (pc := 435) X (m_11_fault hw (op_fault h)) jM_11_fault ky_364 (jl_0_11 hn) rfl rfl rfl rfl rfl (Nat.le_of_ble_eq_true rfl) d_W_435 ⟨Nat.le_of_ble_eq_true rfl, Nat.le_of_ble_eq_true rfl⟩ ⟨by show cells + 0 ≤ 319022; omega, by show slots + 0 ≤ 8139040; omega⟩ (fun r rr hp => ?_)
  refine jg_aload_n (pc := 438) X d_W_438 3 rfl ?_
  refine jg_callVi (rest := [jI r]) (pc := 439) X (m_12_fault hw hp) jM_12_fault ky_1547 (jl_345_12 hn) rfl rfl rfl rfl rfl (Nat.le_of_ble_eq_true rfl) d_W_439 ⟨Nat.le_of_ble_eq_true rfl, Nat.le_of_ble_eq_true rfl⟩ ⟨by show cells + 0 + 0 ≤ 319022; omega, by show slots + 0 + 0 ≤ 8139040; omega⟩ (fun b2 C2 rb hw2 hp2 => ?_)
  obtain ⟨p1, p2, p3⟩ := hp2
  refine jg_icmp_eq (T := True) (F := False) (tgt := 3096) (pc := 442) X d_W_442 (by decide) rr rb (by rw [if_pos p2.symm]; trivial) (fun _ _ => ?_) (fun _ q => q.elim)
  refine jg_widen (cells2 := cells + 310) (slots2 := slots + 9400) (by show cells + 0 + 0 ≤ cells + 310; omega) (by show slots + 0 + 0 ≤ slots + 9400; omega) ?_
  exact kk Z n C2 X hw2 (rAll_mono p3 (by omega))
set_option maxHeartbeats 4000000 in
set_option maxRecDepth 100000 in
theorem law_5 {p : Program} {l : Launch} {e : Env} {s : State} {m : MethodId} {args : Array Value} {below : List Frame} {meth : Method} {c : Code} {Z : jE} {A : Nat → Prop} {cells slots : Nat} {Q : State → Prop} {n : Nat} {C : jC} {b L : Nat} {xs : Nat → Int32} {i K : Int} (LW : jwLaw p l s m args c Z A b L xs i) (hw : jWF n C) (h : rAll C K) (hK : K < 800000) (hc : cells + 310 ≤ 319022 ∧ slots + 9400 ≤ 8139040) (kk : jwCo p l e s m args below meth c A cells slots Q K i b) : jG p l e room_1 s m args below meth c 7 Z A (jws Z n C) cells slots Q 447 (jwLv Z i b) [] := by
  have X := LW.1
  have hn := hw.2.2.1
  have hc1 := hc.1
  have hc2 := hc.2
  refine jg_aload_n (pc := 447) X d_W_447 2 rfl ?_
  refine jg_arg (pc := 448) (k := 1) LW (by decide) (by decide) l_W_448 1 0 rfl rfl ?_
  refine jg_aload_n (pc := 454) X d_W_454 4 rfl ?_
  refine jg_callH (np := 3) (rest := []) (pc := 455) X LW.2.1 (h_kind (jwSv_r xs i 1) hw h) ky_899 ky_898 ky_0 ky_897 ⟨by decide, by decide, by decide +kernel⟩ rfl rfl (Nat.le_of_ble_eq_true rfl) d_W_455 ⟨Nat.le_of_ble_eq_true rfl, Nat.le_of_ble_eq_true rfl⟩ ⟨by show cells + 1 ≤ 319022; omega, by show slots + 6 ≤ 8139040; omega⟩ (fun r v C1 rr hw1 hp => ?_)
  refine jg_istore (pc := 458) X ((5, jI r) :: jwLv Z i b) d_W_458 (by decide) rfl ?_
  refine jg_aload_n (pc := 460) X d_W_460 4 rfl ?_
  refine jg_arg (pc := 461) (k := 1) LW (by decide) (by decide) l_W_461 2 1 rfl rfl ?_
  refine jg_eqst (st2 := ([jI (jwSv xs i 1)] : List Value).reverse ++ [jr Z 345]) rfl ?_
  exact law_tailI (wpm := (wp_12_kind (jwSv xs i 1))) (pc := 467) X (fun post hq => m_12_kind (jwSv_r xs i 1) hw1 hq) jM_12_kind rfl ky_1904 ky_1463 rfl t_W_467 u_W_467 (by decide) hp rr hw1 ⟨Nat.le_of_ble_eq_true rfl, Nat.le_of_ble_eq_true rfl, rfl, rfl⟩ hc ⟨by show cells + 1 ≤ cells + 310; omega, by show slots + 6 ≤ slots + 9400; omega⟩ (by omega) kk
set_option maxHeartbeats 4000000 in
set_option maxRecDepth 100000 in
theorem law_6 {p : Program} {l : Launch} {e : Env} {s : State} {m : MethodId} {args : Array Value} {below : List Frame} {meth : Method} {c : Code} {Z : jE} {A : Nat → Prop} {cells slots : Nat} {Q : State → Prop} {n : Nat} {C : jC} {b L : Nat} {xs : Nat → Int32} {i K : Int} (LW : jwLaw p l s m args c Z A b L xs i) (hw : jWF n C) (h : rAll C K) (hK : K < 800000) (hc : cells + 310 ≤ 319022 ∧ slots + 9400 ≤ 8139040) (kk : jwCo p l e s m args below meth c A cells slots Q K i b) : jG p l e room_1 s m args below meth c 7 Z A (jws Z n C) cells slots Q 503 (jwLv Z i b) [] := by
  have X := LW.1
  have hn := hw.2.2.1
  have hc1 := hc.1
  have hc2 := hc.2
  refine jg_aload_n (pc := 503) X d_W_503 2 rfl ?_
  refine jg_arg (pc := 504) (k := 1) LW (by decide) (by decide) l_W_504 1 0 rfl rfl ?_
  refine jg_arg (pc := 510) (k := 2) LW (by decide) (by decide) l_W_510 1 0 rfl rfl ?_
  refine jg_aload_n (pc := 516) X d_W_516 4 rfl ?_
  refine jg_callH (np := 4) (rest := []) (pc := 517) X LW.2.1 (h_cell (jwSv_r xs i 1) (jwSv_r xs i 2) hw h) ky_915 ky_914 ky_0 ky_913 ⟨by decide, by decide, by decide +kernel⟩ rfl rfl (Nat.le_of_ble_eq_true rfl) d_W_517 ⟨Nat.le_of_ble_eq_true rfl, Nat.le_of_ble_eq_true rfl⟩ ⟨by show cells + 2 ≤ 319022; omega, by show slots + 12 ≤ 8139040; omega⟩ (fun r v C1 rr hw1 hp => ?_)
  refine jg_istore (pc := 520) X ((5, jI r) :: jwLv Z i b) d_W_520 (by decide) rfl ?_
  refine jg_aload_n (pc := 522) X d_W_522 4 rfl ?_
  refine jg_arg (pc := 523) (k := 1) LW (by decide) (by decide) l_W_523 2 1 rfl rfl ?_
  refine jg_arg (pc := 529) (k := 2) LW (by decide) (by decide) l_W_529 2 1 rfl rfl ?_
  refine jg_eqst (st2 := ([jI (jwSv xs i 1), jI (jwSv xs i 2)] : List Value).reverse ++ [jr Z 345]) rfl ?_
  exact law_tailI (wpm := (wp_12_cell (jwSv xs i 1) (jwSv xs i 2))) (pc := 535) X (fun post hq => m_12_cell (jwSv_r xs i 1) (jwSv_r xs i 2) hw1 hq) jM_12_cell rfl ky_1908 ky_1463 rfl t_W_535 u_W_535 (by decide) hp rr hw1 ⟨Nat.le_of_ble_eq_true rfl, Nat.le_of_ble_eq_true rfl, rfl, rfl⟩ hc ⟨by show cells + 2 ≤ cells + 310; omega, by show slots + 12 ≤ slots + 9400; omega⟩ (by omega) kk
set_option maxHeartbeats 4000000 in
set_option maxRecDepth 100000 in
theorem law_7 {p : Program} {l : Launch} {e : Env} {s : State} {m : MethodId} {args : Array Value} {below : List Frame} {meth : Method} {c : Code} {Z : jE} {A : Nat → Prop} {cells slots : Nat} {Q : State → Prop} {n : Nat} {C : jC} {b L : Nat} {xs : Nat → Int32} {i K : Int} (LW : jwLaw p l s m args c Z A b L xs i) (hw : jWF n C) (h : rAll C K) (hK : K < 800000) (hc : cells + 310 ≤ 319022 ∧ slots + 9400 ≤ 8139040) (kk : jwCo p l e s m args below meth c A cells slots Q K i b) : jG p l e room_1 s m args below meth c 7 Z A (jws Z n C) cells slots Q 571 (jwLv Z i b) [] := by
  have X := LW.1
  have hn := hw.2.2.1
  have hc1 := hc.1
  have hc2 := hc.2
  refine jg_aload_n (pc := 571) X d_W_571 2 rfl ?_
  refine jg_arg (pc := 572) (k := 1) LW (by decide) (by decide) l_W_572 1 0 rfl rfl ?_
  refine jg_pcallVi (rest := []) (pc := 578) X (m_11_order (jwSv_r xs i 1) hw (op_order h)) jM_11_order ky_368 (jl_0_11 hn) rfl rfl rfl rfl rfl (Nat.le_of_ble_eq_true rfl) d_W_578 ⟨Nat.le_of_ble_eq_true rfl, Nat.le_of_ble_eq_true rfl⟩ ⟨by show cells + 0 ≤ 319022; omega, by show slots + 0 ≤ 8139040; omega⟩ (fun r rr hp => ?_)
  refine jg_aload_n (pc := 581) X d_W_581 3 rfl ?_
  refine jg_arg (pc := 582) (k := 1) LW (by decide) (by decide) l_W_582 1 0 rfl rfl ?_
  refine jg_callVi (rest := [jI r]) (pc := 588) X (m_12_order (jwSv_r xs i 1) hw hp) jM_12_order ky_1912 (jl_345_12 hn) rfl rfl rfl rfl rfl (Nat.le_of_ble_eq_true rfl) d_W_588 ⟨Nat.le_of_ble_eq_true rfl, Nat.le_of_ble_eq_true rfl⟩ ⟨by show cells + 0 + 0 ≤ 319022; omega, by show slots + 0 + 0 ≤ 8139040; omega⟩ (fun b2 C2 rb hw2 hp2 => ?_)
  obtain ⟨p1, p2, p3⟩ := hp2
  refine jg_icmp_eq (T := True) (F := False) (tgt := 3096) (pc := 591) X d_W_591 (by decide) rr rb (by rw [if_pos p2.symm]; trivial) (fun _ _ => ?_) (fun _ q => q.elim)
  refine jg_widen (cells2 := cells + 310) (slots2 := slots + 9400) (by show cells + 0 + 0 ≤ cells + 310; omega) (by show slots + 0 + 0 ≤ slots + 9400; omega) ?_
  exact kk Z n C2 X hw2 (rAll_mono p3 (by omega))
set_option maxHeartbeats 4000000 in
set_option maxRecDepth 100000 in
theorem law_8 {p : Program} {l : Launch} {e : Env} {s : State} {m : MethodId} {args : Array Value} {below : List Frame} {meth : Method} {c : Code} {Z : jE} {A : Nat → Prop} {cells slots : Nat} {Q : State → Prop} {n : Nat} {C : jC} {b L : Nat} {xs : Nat → Int32} {i K : Int} (LW : jwLaw p l s m args c Z A b L xs i) (hw : jWF n C) (h : rAll C K) (hK : K < 800000) (hc : cells + 310 ≤ 319022 ∧ slots + 9400 ≤ 8139040) (kk : jwCo p l e s m args below meth c A cells slots Q K i b) : jG p l e room_1 s m args below meth c 7 Z A (jws Z n C) cells slots Q 596 (jwLv Z i b) [] := by
  have X := LW.1
  have hn := hw.2.2.1
  have hc1 := hc.1
  have hc2 := hc.2
  refine jg_aload_n (pc := 596) X d_W_596 2 rfl ?_
  refine jg_arg (pc := 597) (k := 1) LW (by decide) (by decide) l_W_597 1 0 rfl rfl ?_
  refine jg_arg (pc := 603) (k := 2) LW (by decide) (by decide) l_W_603 1 0 rfl rfl ?_
  refine jg_aload_n (pc := 609) X d_W_609 4 rfl ?_
  refine jg_callH (np := 4) (rest := []) (pc := 610) X LW.2.1 (h_row (jwSv_r xs i 1) (jwSv_r xs i 2) hw h) ky_933 ky_932 ky_0 ky_931 ⟨by decide, by decide, by decide +kernel⟩ rfl rfl (Nat.le_of_ble_eq_true rfl) d_W_610 ⟨Nat.le_of_ble_eq_true rfl, Nat.le_of_ble_eq_true rfl⟩ ⟨by show cells + 1 ≤ 319022; omega, by show slots + 6 ≤ 8139040; omega⟩ (fun r v C1 rr hw1 hp => ?_)
  refine jg_istore (pc := 613) X ((5, jI r) :: jwLv Z i b) d_W_613 (by decide) rfl ?_
  refine jg_aload_n (pc := 615) X d_W_615 4 rfl ?_
  refine jg_arg (pc := 616) (k := 1) LW (by decide) (by decide) l_W_616 2 1 rfl rfl ?_
  refine jg_arg (pc := 622) (k := 2) LW (by decide) (by decide) l_W_622 2 1 rfl rfl ?_
  refine jg_eqst (st2 := ([jI (jwSv xs i 1), jI (jwSv xs i 2)] : List Value).reverse ++ [jr Z 345]) rfl ?_
  exact law_tailI (wpm := (wp_12_row (jwSv xs i 1) (jwSv xs i 2))) (pc := 628) X (fun post hq => m_12_row (jwSv_r xs i 1) (jwSv_r xs i 2) hw1 hq) jM_12_row rfl ky_1916 ky_1463 rfl t_W_628 u_W_628 (by decide) hp rr hw1 ⟨Nat.le_of_ble_eq_true rfl, Nat.le_of_ble_eq_true rfl, rfl, rfl⟩ hc ⟨by show cells + 1 ≤ cells + 310; omega, by show slots + 6 ≤ slots + 9400; omega⟩ (by omega) kk
set_option maxHeartbeats 4000000 in
set_option maxRecDepth 100000 in
theorem law_9 {p : Program} {l : Launch} {e : Env} {s : State} {m : MethodId} {args : Array Value} {below : List Frame} {meth : Method} {c : Code} {Z : jE} {A : Nat → Prop} {cells slots : Nat} {Q : State → Prop} {n : Nat} {C : jC} {b L : Nat} {xs : Nat → Int32} {i K : Int} (LW : jwLaw p l s m args c Z A b L xs i) (hw : jWF n C) (h : rAll C K) (hK : K < 800000) (hc : cells + 310 ≤ 319022 ∧ slots + 9400 ≤ 8139040) (kk : jwCo p l e s m args below meth c A cells slots Q K i b) : jG p l e room_1 s m args below meth c 7 Z A (jws Z n C) cells slots Q 664 (jwLv Z i b) [] := by
  have X := LW.1
  have hn := hw.2.2.1
  have hc1 := hc.1
  have hc2 := hc.2
  refine jg_aload_n (pc := 664) X d_W_664 2 rfl ?_
  refine jg_arg (pc := 665) (k := 1) LW (by decide) (by decide) l_W_665 1 0 rfl rfl ?_
  refine jg_arg (pc := 671) (k := 2) LW (by decide) (by decide) l_W_671 1 0 rfl rfl ?_
  refine jg_aload_n (pc := 677) X d_W_677 4 rfl ?_
  refine jg_callH (np := 4) (rest := []) (pc := 678) X LW.2.1 (h_place (jwSv_r xs i 1) (jwSv_r xs i 2) hw h) ky_940 ky_939 ky_0 ky_938 ⟨by decide, by decide, by decide +kernel⟩ rfl rfl (Nat.le_of_ble_eq_true rfl) d_W_678 ⟨Nat.le_of_ble_eq_true rfl, Nat.le_of_ble_eq_true rfl⟩ ⟨by show cells + 2 ≤ 319022; omega, by show slots + 12 ≤ 8139040; omega⟩ (fun r v C1 rr hw1 hp => ?_)
  refine jg_istore (pc := 681) X ((5, jI r) :: jwLv Z i b) d_W_681 (by decide) rfl ?_
  refine jg_aload_n (pc := 683) X d_W_683 4 rfl ?_
  refine jg_arg (pc := 684) (k := 1) LW (by decide) (by decide) l_W_684 2 1 rfl rfl ?_
  refine jg_arg (pc := 690) (k := 2) LW (by decide) (by decide) l_W_690 2 1 rfl rfl ?_
  refine jg_eqst (st2 := ([jI (jwSv xs i 1), jI (jwSv xs i 2)] : List Value).reverse ++ [jr Z 345]) rfl ?_
  exact law_tailI (wpm := (wp_12_place (jwSv xs i 1) (jwSv xs i 2))) (pc := 696) X (fun post hq => m_12_place (jwSv_r xs i 1) (jwSv_r xs i 2) hw1 hq) jM_12_place rfl ky_1920 ky_1463 rfl t_W_696 u_W_696 (by decide) hp rr hw1 ⟨Nat.le_of_ble_eq_true rfl, Nat.le_of_ble_eq_true rfl, rfl, rfl⟩ hc ⟨by show cells + 2 ≤ cells + 310; omega, by show slots + 12 ≤ slots + 9400; omega⟩ (by omega) kk
set_option maxHeartbeats 4000000 in
set_option maxRecDepth 100000 in
theorem law_10 {p : Program} {l : Launch} {e : Env} {s : State} {m : MethodId} {args : Array Value} {below : List Frame} {meth : Method} {c : Code} {Z : jE} {A : Nat → Prop} {cells slots : Nat} {Q : State → Prop} {n : Nat} {C : jC} {b L : Nat} {xs : Nat → Int32} {i K : Int} (LW : jwLaw p l s m args c Z A b L xs i) (hw : jWF n C) (h : rAll C K) (hK : K < 800000) (hc : cells + 310 ≤ 319022 ∧ slots + 9400 ≤ 8139040) (kk : jwCo p l e s m args below meth c A cells slots Q K i b) : jG p l e room_1 s m args below meth c 7 Z A (jws Z n C) cells slots Q 732 (jwLv Z i b) [] := by
  have X := LW.1
  have hn := hw.2.2.1
  have hc1 := hc.1
  have hc2 := hc.2
  refine jg_aload_n (pc := 732) X d_W_732 2 rfl ?_
  refine jg_arg (pc := 733) (k := 1) LW (by decide) (by decide) l_W_733 1 0 rfl rfl ?_
  refine jg_arg (pc := 739) (k := 2) LW (by decide) (by decide) l_W_739 1 0 rfl rfl ?_
  refine jg_aload_n (pc := 745) X d_W_745 4 rfl ?_
  refine jg_callH (np := 4) (rest := []) (pc := 746) X LW.2.1 (h_about (jwSv_r xs i 1) (jwSv_r xs i 2) hw h) ky_948 ky_947 ky_0 ky_946 ⟨by decide, by decide, by decide +kernel⟩ rfl rfl (Nat.le_of_ble_eq_true rfl) d_W_746 ⟨Nat.le_of_ble_eq_true rfl, Nat.le_of_ble_eq_true rfl⟩ ⟨by show cells + 2 ≤ 319022; omega, by show slots + 12 ≤ 8139040; omega⟩ (fun r v C1 rr hw1 hp => ?_)
  refine jg_istore (pc := 749) X ((5, jI r) :: jwLv Z i b) d_W_749 (by decide) rfl ?_
  refine jg_aload_n (pc := 751) X d_W_751 4 rfl ?_
  refine jg_arg (pc := 752) (k := 1) LW (by decide) (by decide) l_W_752 2 1 rfl rfl ?_
  refine jg_arg (pc := 758) (k := 2) LW (by decide) (by decide) l_W_758 2 1 rfl rfl ?_
  refine jg_eqst (st2 := ([jI (jwSv xs i 1), jI (jwSv xs i 2)] : List Value).reverse ++ [jr Z 345]) rfl ?_
  exact law_tailI (wpm := (wp_12_about (jwSv xs i 1) (jwSv xs i 2))) (pc := 764) X (fun post hq => m_12_about (jwSv_r xs i 1) (jwSv_r xs i 2) hw1 hq) jM_12_about rfl ky_1928 ky_1463 rfl t_W_764 u_W_764 (by decide) hp rr hw1 ⟨Nat.le_of_ble_eq_true rfl, Nat.le_of_ble_eq_true rfl, rfl, rfl⟩ hc ⟨by show cells + 2 ≤ cells + 310; omega, by show slots + 12 ≤ slots + 9400; omega⟩ (by omega) kk
set_option maxHeartbeats 4000000 in
set_option maxRecDepth 100000 in
theorem law_11 {p : Program} {l : Launch} {e : Env} {s : State} {m : MethodId} {args : Array Value} {below : List Frame} {meth : Method} {c : Code} {Z : jE} {A : Nat → Prop} {cells slots : Nat} {Q : State → Prop} {n : Nat} {C : jC} {b L : Nat} {xs : Nat → Int32} {i K : Int} (LW : jwLaw p l s m args c Z A b L xs i) (hw : jWF n C) (h : rAll C K) (hK : K < 800000) (hc : cells + 310 ≤ 319022 ∧ slots + 9400 ≤ 8139040) (kk : jwCo p l e s m args below meth c A cells slots Q K i b) : jG p l e room_1 s m args below meth c 7 Z A (jws Z n C) cells slots Q 800 (jwLv Z i b) [] := by
  have X := LW.1
  have hn := hw.2.2.1
  have hc1 := hc.1
  have hc2 := hc.2
  refine jg_aload_n (pc := 800) X d_W_800 2 rfl ?_
  refine jg_arg (pc := 801) (k := 1) LW (by decide) (by decide) l_W_801 1 0 rfl rfl ?_
  refine jg_arg (pc := 807) (k := 2) LW (by decide) (by decide) l_W_807 1 0 rfl rfl ?_
  refine jg_aload_n (pc := 813) X d_W_813 4 rfl ?_
  refine jg_callH (np := 4) (rest := []) (pc := 814) X LW.2.1 (h_sorts (jwSv_r xs i 1) (jwSv_r xs i 2) hw h) ky_975 ky_974 ky_0 ky_973 ⟨by decide, by decide, by decide +kernel⟩ rfl rfl (Nat.le_of_ble_eq_true rfl) d_W_814 ⟨Nat.le_of_ble_eq_true rfl, Nat.le_of_ble_eq_true rfl⟩ ⟨by show cells + 1 ≤ 319022; omega, by show slots + 6 ≤ 8139040; omega⟩ (fun r v C1 rr hw1 hp => ?_)
  refine jg_istore (pc := 817) X ((5, jI r) :: jwLv Z i b) d_W_817 (by decide) rfl ?_
  refine jg_aload_n (pc := 819) X d_W_819 4 rfl ?_
  refine jg_arg (pc := 820) (k := 1) LW (by decide) (by decide) l_W_820 2 1 rfl rfl ?_
  refine jg_arg (pc := 826) (k := 2) LW (by decide) (by decide) l_W_826 2 1 rfl rfl ?_
  refine jg_eqst (st2 := ([jI (jwSv xs i 1), jI (jwSv xs i 2)] : List Value).reverse ++ [jr Z 345]) rfl ?_
  exact law_tailI (wpm := (wp_12_sorts (jwSv xs i 1) (jwSv xs i 2))) (pc := 832) X (fun post hq => m_12_sorts (jwSv_r xs i 1) (jwSv_r xs i 2) hw1 hq) jM_12_sorts rfl ky_1932 ky_1463 rfl t_W_832 u_W_832 (by decide) hp rr hw1 ⟨Nat.le_of_ble_eq_true rfl, Nat.le_of_ble_eq_true rfl, rfl, rfl⟩ hc ⟨by show cells + 1 ≤ cells + 310; omega, by show slots + 6 ≤ slots + 9400; omega⟩ (by omega) kk
set_option maxHeartbeats 4000000 in
set_option maxRecDepth 100000 in
theorem law_12 {p : Program} {l : Launch} {e : Env} {s : State} {m : MethodId} {args : Array Value} {below : List Frame} {meth : Method} {c : Code} {Z : jE} {A : Nat → Prop} {cells slots : Nat} {Q : State → Prop} {n : Nat} {C : jC} {b L : Nat} {xs : Nat → Int32} {i K : Int} (LW : jwLaw p l s m args c Z A b L xs i) (hw : jWF n C) (h : rAll C K) (hK : K < 800000) (hc : cells + 310 ≤ 319022 ∧ slots + 9400 ≤ 8139040) (kk : jwCo p l e s m args below meth c A cells slots Q K i b) : jG p l e room_1 s m args below meth c 7 Z A (jws Z n C) cells slots Q 868 (jwLv Z i b) [] := by
  have X := LW.1
  have hn := hw.2.2.1
  have hc1 := hc.1
  have hc2 := hc.2
  refine jg_aload_n (pc := 868) X d_W_868 2 rfl ?_
  refine jg_arg (pc := 869) (k := 1) LW (by decide) (by decide) l_W_869 1 0 rfl rfl ?_
  refine jg_arg (pc := 875) (k := 2) LW (by decide) (by decide) l_W_875 1 0 rfl rfl ?_
  refine jg_arg (pc := 881) (k := 3) LW (by decide) (by decide) l_W_881 1 0 rfl rfl ?_
  refine jg_arg (pc := 887) (k := 4) LW (by decide) (by decide) l_W_887 1 0 rfl rfl ?_
  refine jg_aload_n (pc := 893) X d_W_893 4 rfl ?_
  refine jg_callH (np := 6) (rest := []) (pc := 894) X LW.2.1 (h_set (jwSv_r xs i 1) (jwSv_r xs i 2) (jwSv_r xs i 3) (jwSv_r xs i 4) hw h) ky_983 ky_982 ky_0 ky_981 ⟨by decide, by decide, by decide +kernel⟩ rfl rfl (Nat.le_of_ble_eq_true rfl) d_W_894 ⟨Nat.le_of_ble_eq_true rfl, Nat.le_of_ble_eq_true rfl⟩ ⟨by show cells + 5 ≤ 319022; omega, by show slots + 30 ≤ 8139040; omega⟩ (fun r v C1 rr hw1 hp => ?_)
  refine jg_istore (pc := 897) X ((5, jI r) :: jwLv Z i b) d_W_897 (by decide) rfl ?_
  refine jg_aload_n (pc := 899) X d_W_899 4 rfl ?_
  refine jg_arg (pc := 900) (k := 1) LW (by decide) (by decide) l_W_900 2 1 rfl rfl ?_
  refine jg_arg (pc := 906) (k := 2) LW (by decide) (by decide) l_W_906 2 1 rfl rfl ?_
  refine jg_arg (pc := 912) (k := 3) LW (by decide) (by decide) l_W_912 2 1 rfl rfl ?_
  refine jg_arg (pc := 918) (k := 4) LW (by decide) (by decide) l_W_918 2 1 rfl rfl ?_
  refine jg_eqst (st2 := ([jI (jwSv xs i 1), jI (jwSv xs i 2), jI (jwSv xs i 3), jI (jwSv xs i 4)] : List Value).reverse ++ [jr Z 345]) rfl ?_
  exact law_tailI (wpm := (wp_12_set (jwSv xs i 1) (jwSv xs i 2) (jwSv xs i 3) (jwSv xs i 4))) (pc := 924) X (fun post hq => m_12_set (jwSv_r xs i 1) (jwSv_r xs i 2) (jwSv_r xs i 3) (jwSv_r xs i 4) hw1 hq) jM_12_set rfl ky_1786 ky_1463 rfl t_W_924 u_W_924 (by decide) hp rr hw1 ⟨Nat.le_of_ble_eq_true rfl, Nat.le_of_ble_eq_true rfl, rfl, rfl⟩ hc ⟨by show cells + 5 ≤ cells + 310; omega, by show slots + 30 ≤ slots + 9400; omega⟩ (by omega) kk
set_option maxHeartbeats 4000000 in
set_option maxRecDepth 100000 in
theorem law_13 {p : Program} {l : Launch} {e : Env} {s : State} {m : MethodId} {args : Array Value} {below : List Frame} {meth : Method} {c : Code} {Z : jE} {A : Nat → Prop} {cells slots : Nat} {Q : State → Prop} {n : Nat} {C : jC} {b L : Nat} {xs : Nat → Int32} {i K : Int} (LW : jwLaw p l s m args c Z A b L xs i) (hw : jWF n C) (h : rAll C K) (hK : K < 800000) (hc : cells + 310 ≤ 319022 ∧ slots + 9400 ≤ 8139040) (kk : jwCo p l e s m args below meth c A cells slots Q K i b) : jG p l e room_1 s m args below meth c 7 Z A (jws Z n C) cells slots Q 960 (jwLv Z i b) [] := by
  have X := LW.1
  have hn := hw.2.2.1
  have hc1 := hc.1
  have hc2 := hc.2
  refine jg_aload_n (pc := 960) X d_W_960 2 rfl ?_
  refine jg_arg (pc := 961) (k := 1) LW (by decide) (by decide) l_W_961 1 0 rfl rfl ?_
  refine jg_arg (pc := 967) (k := 2) LW (by decide) (by decide) l_W_967 1 0 rfl rfl ?_
  refine jg_arg (pc := 973) (k := 3) LW (by decide) (by decide) l_W_973 1 0 rfl rfl ?_
  refine jg_aload_n (pc := 979) X d_W_979 4 rfl ?_
  refine jg_callH (np := 5) (rest := []) (pc := 980) X LW.2.1 (h_clear (jwSv_r xs i 1) (jwSv_r xs i 2) (jwSv_r xs i 3) hw h) ky_1059 ky_1058 ky_0 ky_1057 ⟨by decide, by decide, by decide +kernel⟩ rfl rfl (Nat.le_of_ble_eq_true rfl) d_W_980 ⟨Nat.le_of_ble_eq_true rfl, Nat.le_of_ble_eq_true rfl⟩ ⟨by show cells + 4 ≤ 319022; omega, by show slots + 24 ≤ 8139040; omega⟩ (fun r v C1 rr hw1 hp => ?_)
  refine jg_istore (pc := 983) X ((5, jI r) :: jwLv Z i b) d_W_983 (by decide) rfl ?_
  refine jg_aload_n (pc := 985) X d_W_985 4 rfl ?_
  refine jg_arg (pc := 986) (k := 1) LW (by decide) (by decide) l_W_986 2 1 rfl rfl ?_
  refine jg_arg (pc := 992) (k := 2) LW (by decide) (by decide) l_W_992 2 1 rfl rfl ?_
  refine jg_arg (pc := 998) (k := 3) LW (by decide) (by decide) l_W_998 2 1 rfl rfl ?_
  refine jg_eqst (st2 := ([jI (jwSv xs i 1), jI (jwSv xs i 2), jI (jwSv xs i 3)] : List Value).reverse ++ [jr Z 345]) rfl ?_
  exact law_tailI (wpm := (wp_12_clear (jwSv xs i 1) (jwSv xs i 2) (jwSv xs i 3))) (pc := 1004) X (fun post hq => m_12_clear (jwSv_r xs i 1) (jwSv_r xs i 2) (jwSv_r xs i 3) hw1 hq) jM_12_clear rfl ky_1827 ky_1463 rfl t_W_1004 u_W_1004 (by decide) hp rr hw1 ⟨Nat.le_of_ble_eq_true rfl, Nat.le_of_ble_eq_true rfl, rfl, rfl⟩ hc ⟨by show cells + 4 ≤ cells + 310; omega, by show slots + 24 ≤ slots + 9400; omega⟩ (by omega) kk
set_option maxHeartbeats 4000000 in
set_option maxRecDepth 100000 in
theorem law_14 {p : Program} {l : Launch} {e : Env} {s : State} {m : MethodId} {args : Array Value} {below : List Frame} {meth : Method} {c : Code} {Z : jE} {A : Nat → Prop} {cells slots : Nat} {Q : State → Prop} {n : Nat} {C : jC} {b L : Nat} {xs : Nat → Int32} {i K : Int} (LW : jwLaw p l s m args c Z A b L xs i) (hw : jWF n C) (h : rAll C K) (hK : K < 800000) (hc : cells + 310 ≤ 319022 ∧ slots + 9400 ≤ 8139040) (kk : jwCo p l e s m args below meth c A cells slots Q K i b) : jG p l e room_1 s m args below meth c 7 Z A (jws Z n C) cells slots Q 1040 (jwLv Z i b) [] := by
  have X := LW.1
  have hn := hw.2.2.1
  have hc1 := hc.1
  have hc2 := hc.2
  refine jg_aload_n (pc := 1040) X d_W_1040 2 rfl ?_
  refine jg_arg (pc := 1041) (k := 1) LW (by decide) (by decide) l_W_1041 1 0 rfl rfl ?_
  refine jg_arg (pc := 1047) (k := 2) LW (by decide) (by decide) l_W_1047 1 0 rfl rfl ?_
  refine jg_arg (pc := 1053) (k := 3) LW (by decide) (by decide) l_W_1053 1 0 rfl rfl ?_
  refine jg_arg (pc := 1059) (k := 4) LW (by decide) (by decide) l_W_1059 1 0 rfl rfl ?_
  refine jg_aload_n (pc := 1065) X d_W_1065 4 rfl ?_
  refine jg_callH (np := 6) (rest := []) (pc := 1066) X LW.2.1 (h_fill (jwSv_r xs i 1) (jwSv_r xs i 2) (jwSv_r xs i 3) (jwSv_r xs i 4) hw h) ky_1067 ky_1066 ky_0 ky_1065 ⟨by decide, by decide, by decide +kernel⟩ rfl rfl (Nat.le_of_ble_eq_true rfl) d_W_1066 ⟨Nat.le_of_ble_eq_true rfl, Nat.le_of_ble_eq_true rfl⟩ ⟨by show cells + 5 ≤ 319022; omega, by show slots + 30 ≤ 8139040; omega⟩ (fun r v C1 rr hw1 hp => ?_)
  refine jg_istore (pc := 1069) X ((5, jI r) :: jwLv Z i b) d_W_1069 (by decide) rfl ?_
  refine jg_aload_n (pc := 1071) X d_W_1071 4 rfl ?_
  refine jg_arg (pc := 1072) (k := 1) LW (by decide) (by decide) l_W_1072 2 1 rfl rfl ?_
  refine jg_arg (pc := 1078) (k := 2) LW (by decide) (by decide) l_W_1078 2 1 rfl rfl ?_
  refine jg_arg (pc := 1084) (k := 3) LW (by decide) (by decide) l_W_1084 2 1 rfl rfl ?_
  refine jg_arg (pc := 1090) (k := 4) LW (by decide) (by decide) l_W_1090 2 1 rfl rfl ?_
  refine jg_eqst (st2 := ([jI (jwSv xs i 1), jI (jwSv xs i 2), jI (jwSv xs i 3), jI (jwSv xs i 4)] : List Value).reverse ++ [jr Z 345]) rfl ?_
  exact law_tailI (wpm := (wp_12_fill (jwSv xs i 1) (jwSv xs i 2) (jwSv xs i 3) (jwSv xs i 4))) (pc := 1096) X (fun post hq => m_12_fill (jwSv_r xs i 1) (jwSv_r xs i 2) (jwSv_r xs i 3) (jwSv_r xs i 4) hw1 hq) jM_12_fill rfl ky_1831 ky_1463 rfl t_W_1096 u_W_1096 (by decide) hp rr hw1 ⟨Nat.le_of_ble_eq_true rfl, Nat.le_of_ble_eq_true rfl, rfl, rfl⟩ hc ⟨by show cells + 5 ≤ cells + 310; omega, by show slots + 30 ≤ slots + 9400; omega⟩ (by omega) kk
set_option maxHeartbeats 4000000 in
set_option maxRecDepth 100000 in
theorem law_15 {p : Program} {l : Launch} {e : Env} {s : State} {m : MethodId} {args : Array Value} {below : List Frame} {meth : Method} {c : Code} {Z : jE} {A : Nat → Prop} {cells slots : Nat} {Q : State → Prop} {n : Nat} {C : jC} {b L : Nat} {xs : Nat → Int32} {i K : Int} (LW : jwLaw p l s m args c Z A b L xs i) (hw : jWF n C) (h : rAll C K) (hK : K < 800000) (hc : cells + 310 ≤ 319022 ∧ slots + 9400 ≤ 8139040) (kk : jwCo p l e s m args below meth c A cells slots Q K i b) : jG p l e room_1 s m args below meth c 7 Z A (jws Z n C) cells slots Q 1132 (jwLv Z i b) [] := by
  have X := LW.1
  have hn := hw.2.2.1
  have hc1 := hc.1
  have hc2 := hc.2
  refine jg_aload_n (pc := 1132) X d_W_1132 2 rfl ?_
  refine jg_arg (pc := 1133) (k := 1) LW (by decide) (by decide) l_W_1133 1 0 rfl rfl ?_
  refine jg_arg (pc := 1139) (k := 2) LW (by decide) (by decide) l_W_1139 1 0 rfl rfl ?_
  refine jg_arg (pc := 1145) (k := 3) LW (by decide) (by decide) l_W_1145 1 0 rfl rfl ?_
  refine jg_arg (pc := 1151) (k := 4) LW (by decide) (by decide) l_W_1151 1 0 rfl rfl ?_
  refine jg_aload_n (pc := 1157) X d_W_1157 4 rfl ?_
  refine jg_callH (np := 6) (rest := []) (pc := 1158) X LW.2.1 (h_replace (jwSv_r xs i 1) (jwSv_r xs i 2) (jwSv_r xs i 3) (jwSv_r xs i 4) hw h) ky_1074 ky_1073 ky_0 ky_1072 ⟨by decide, by decide, by decide +kernel⟩ rfl rfl (Nat.le_of_ble_eq_true rfl) d_W_1158 ⟨Nat.le_of_ble_eq_true rfl, Nat.le_of_ble_eq_true rfl⟩ ⟨by show cells + 4 ≤ 319022; omega, by show slots + 24 ≤ 8139040; omega⟩ (fun r v C1 rr hw1 hp => ?_)
  refine jg_istore (pc := 1161) X ((5, jI r) :: jwLv Z i b) d_W_1161 (by decide) rfl ?_
  refine jg_aload_n (pc := 1163) X d_W_1163 4 rfl ?_
  refine jg_arg (pc := 1164) (k := 1) LW (by decide) (by decide) l_W_1164 2 1 rfl rfl ?_
  refine jg_arg (pc := 1170) (k := 2) LW (by decide) (by decide) l_W_1170 2 1 rfl rfl ?_
  refine jg_arg (pc := 1176) (k := 3) LW (by decide) (by decide) l_W_1176 2 1 rfl rfl ?_
  refine jg_arg (pc := 1182) (k := 4) LW (by decide) (by decide) l_W_1182 2 1 rfl rfl ?_
  refine jg_eqst (st2 := ([jI (jwSv xs i 1), jI (jwSv xs i 2), jI (jwSv xs i 3), jI (jwSv xs i 4)] : List Value).reverse ++ [jr Z 345]) rfl ?_
  exact law_tailI (wpm := (wp_12_replace (jwSv xs i 1) (jwSv xs i 2) (jwSv xs i 3) (jwSv xs i 4))) (pc := 1188) X (fun post hq => m_12_replace (jwSv_r xs i 1) (jwSv_r xs i 2) (jwSv_r xs i 3) (jwSv_r xs i 4) hw1 hq) jM_12_replace rfl ky_1835 ky_1463 rfl t_W_1188 u_W_1188 (by decide) hp rr hw1 ⟨Nat.le_of_ble_eq_true rfl, Nat.le_of_ble_eq_true rfl, rfl, rfl⟩ hc ⟨by show cells + 4 ≤ cells + 310; omega, by show slots + 24 ≤ slots + 9400; omega⟩ (by omega) kk
set_option maxHeartbeats 4000000 in
set_option maxRecDepth 100000 in
theorem law_16 {p : Program} {l : Launch} {e : Env} {s : State} {m : MethodId} {args : Array Value} {below : List Frame} {meth : Method} {c : Code} {Z : jE} {A : Nat → Prop} {cells slots : Nat} {Q : State → Prop} {n : Nat} {C : jC} {b L : Nat} {xs : Nat → Int32} {i K : Int} (LW : jwLaw p l s m args c Z A b L xs i) (hw : jWF n C) (h : rAll C K) (hK : K < 800000) (hc : cells + 310 ≤ 319022 ∧ slots + 9400 ≤ 8139040) (kk : jwCo p l e s m args below meth c A cells slots Q K i b) : jG p l e room_1 s m args below meth c 7 Z A (jws Z n C) cells slots Q 1224 (jwLv Z i b) [] := by
  have X := LW.1
  have hn := hw.2.2.1
  have hc1 := hc.1
  have hc2 := hc.2
  refine jg_aload_n (pc := 1224) X d_W_1224 2 rfl ?_
  refine jg_arg (pc := 1225) (k := 1) LW (by decide) (by decide) l_W_1225 1 0 rfl rfl ?_
  refine jg_arg (pc := 1231) (k := 2) LW (by decide) (by decide) l_W_1231 1 0 rfl rfl ?_
  refine jg_arg (pc := 1237) (k := 3) LW (by decide) (by decide) l_W_1237 1 0 rfl rfl ?_
  refine jg_arg (pc := 1243) (k := 4) LW (by decide) (by decide) l_W_1243 1 0 rfl rfl ?_
  refine jg_aload_n (pc := 1249) X d_W_1249 4 rfl ?_
  refine jg_callH (np := 6) (rest := []) (pc := 1250) X LW.2.1 (h_swap (jwSv_r xs i 1) (jwSv_r xs i 2) (jwSv_r xs i 3) (jwSv_r xs i 4) hw h) ky_1086 ky_1085 ky_0 ky_1084 ⟨by decide, by decide, by decide +kernel⟩ rfl rfl (Nat.le_of_ble_eq_true rfl) d_W_1250 ⟨Nat.le_of_ble_eq_true rfl, Nat.le_of_ble_eq_true rfl⟩ ⟨by show cells + 5 ≤ 319022; omega, by show slots + 30 ≤ 8139040; omega⟩ (fun r v C1 rr hw1 hp => ?_)
  refine jg_istore (pc := 1253) X ((5, jI r) :: jwLv Z i b) d_W_1253 (by decide) rfl ?_
  refine jg_aload_n (pc := 1255) X d_W_1255 4 rfl ?_
  refine jg_arg (pc := 1256) (k := 1) LW (by decide) (by decide) l_W_1256 2 1 rfl rfl ?_
  refine jg_arg (pc := 1262) (k := 2) LW (by decide) (by decide) l_W_1262 2 1 rfl rfl ?_
  refine jg_arg (pc := 1268) (k := 3) LW (by decide) (by decide) l_W_1268 2 1 rfl rfl ?_
  refine jg_arg (pc := 1274) (k := 4) LW (by decide) (by decide) l_W_1274 2 1 rfl rfl ?_
  refine jg_eqst (st2 := ([jI (jwSv xs i 1), jI (jwSv xs i 2), jI (jwSv xs i 3), jI (jwSv xs i 4)] : List Value).reverse ++ [jr Z 345]) rfl ?_
  exact law_tailI (wpm := (wp_12_swap (jwSv xs i 1) (jwSv xs i 2) (jwSv xs i 3) (jwSv xs i 4))) (pc := 1280) X (fun post hq => m_12_swap (jwSv_r xs i 1) (jwSv_r xs i 2) (jwSv_r xs i 3) (jwSv_r xs i 4) hw1 hq) jM_12_swap rfl ky_1847 ky_1463 rfl t_W_1280 u_W_1280 (by decide) hp rr hw1 ⟨Nat.le_of_ble_eq_true rfl, Nat.le_of_ble_eq_true rfl, rfl, rfl⟩ hc ⟨by show cells + 5 ≤ cells + 310; omega, by show slots + 30 ≤ slots + 9400; omega⟩ (by omega) kk
set_option maxHeartbeats 4000000 in
set_option maxRecDepth 100000 in
theorem law_17 {p : Program} {l : Launch} {e : Env} {s : State} {m : MethodId} {args : Array Value} {below : List Frame} {meth : Method} {c : Code} {Z : jE} {A : Nat → Prop} {cells slots : Nat} {Q : State → Prop} {n : Nat} {C : jC} {b L : Nat} {xs : Nat → Int32} {i K : Int} (LW : jwLaw p l s m args c Z A b L xs i) (hw : jWF n C) (h : rAll C K) (hK : K < 800000) (hc : cells + 310 ≤ 319022 ∧ slots + 9400 ≤ 8139040) (kk : jwCo p l e s m args below meth c A cells slots Q K i b) : jG p l e room_1 s m args below meth c 7 Z A (jws Z n C) cells slots Q 1316 (jwLv Z i b) [] := by
  have X := LW.1
  have hn := hw.2.2.1
  have hc1 := hc.1
  have hc2 := hc.2
  refine jg_aload_n (pc := 1316) X d_W_1316 2 rfl ?_
  refine jg_arg (pc := 1317) (k := 1) LW (by decide) (by decide) l_W_1317 1 0 rfl rfl ?_
  refine jg_arg (pc := 1323) (k := 2) LW (by decide) (by decide) l_W_1323 1 0 rfl rfl ?_
  refine jg_arg (pc := 1329) (k := 3) LW (by decide) (by decide) l_W_1329 1 0 rfl rfl ?_
  refine jg_aload_n (pc := 1335) X d_W_1335 4 rfl ?_
  refine jg_callH (np := 5) (rest := []) (pc := 1336) X LW.2.1 (h_paste (jwSv_r xs i 1) (jwSv_r xs i 2) (jwSv_r xs i 3) hw h hK) ky_1093 ky_1092 ky_0 ky_1091 ⟨by decide, by decide, by decide +kernel⟩ rfl rfl (Nat.le_of_ble_eq_true rfl) d_W_1336 ⟨Nat.le_of_ble_eq_true rfl, Nat.le_of_ble_eq_true rfl⟩ ⟨by show cells + 5 ≤ 319022; omega, by show slots + 30 ≤ 8139040; omega⟩ (fun r v C1 rr hw1 hp => ?_)
  refine jg_istore (pc := 1339) X ((5, jI r) :: jwLv Z i b) d_W_1339 (by decide) rfl ?_
  refine jg_aload_n (pc := 1341) X d_W_1341 4 rfl ?_
  refine jg_arg (pc := 1342) (k := 1) LW (by decide) (by decide) l_W_1342 2 1 rfl rfl ?_
  refine jg_arg (pc := 1348) (k := 2) LW (by decide) (by decide) l_W_1348 2 1 rfl rfl ?_
  refine jg_arg (pc := 1354) (k := 3) LW (by decide) (by decide) l_W_1354 2 1 rfl rfl ?_
  refine jg_eqst (st2 := ([jI (jwSv xs i 1), jI (jwSv xs i 2), jI (jwSv xs i 3)] : List Value).reverse ++ [jr Z 345]) rfl ?_
  exact law_tailI (wpm := (wp_12_paste (jwSv xs i 1) (jwSv xs i 2) (jwSv xs i 3))) (pc := 1360) X (fun post hq => m_12_paste (jwSv_r xs i 1) (jwSv_r xs i 2) (jwSv_r xs i 3) hw1 hq) jM_12_paste rfl ky_1851 ky_1463 rfl t_W_1360 u_W_1360 (by decide) hp rr hw1 ⟨Nat.le_of_ble_eq_true rfl, Nat.le_of_ble_eq_true rfl, rfl, rfl⟩ hc ⟨by show cells + 5 ≤ cells + 310; omega, by show slots + 30 ≤ slots + 9400; omega⟩ (by omega) kk
set_option maxHeartbeats 4000000 in
set_option maxRecDepth 100000 in
theorem law_18 {p : Program} {l : Launch} {e : Env} {s : State} {m : MethodId} {args : Array Value} {below : List Frame} {meth : Method} {c : Code} {Z : jE} {A : Nat → Prop} {cells slots : Nat} {Q : State → Prop} {n : Nat} {C : jC} {b L : Nat} {xs : Nat → Int32} {i K : Int} (LW : jwLaw p l s m args c Z A b L xs i) (hw : jWF n C) (h : rAll C K) (hK : K < 800000) (hc : cells + 310 ≤ 319022 ∧ slots + 9400 ≤ 8139040) (kk : jwCo p l e s m args below meth c A cells slots Q K i b) : jG p l e room_1 s m args below meth c 7 Z A (jws Z n C) cells slots Q 1396 (jwLv Z i b) [] := by
  have X := LW.1
  have hn := hw.2.2.1
  have hc1 := hc.1
  have hc2 := hc.2
  refine jg_aload_n (pc := 1396) X d_W_1396 2 rfl ?_
  refine jg_arg (pc := 1397) (k := 1) LW (by decide) (by decide) l_W_1397 1 0 rfl rfl ?_
  refine jg_arg (pc := 1403) (k := 2) LW (by decide) (by decide) l_W_1403 1 0 rfl rfl ?_
  refine jg_aload_n (pc := 1409) X d_W_1409 4 rfl ?_
  refine jg_callH (np := 4) (rest := []) (pc := 1410) X LW.2.1 (h_add (jwSv_r xs i 1) (jwSv_r xs i 2) hw h hK) ky_1123 ky_1122 ky_0 ky_1121 ⟨by decide, by decide, by decide +kernel⟩ rfl rfl (Nat.le_of_ble_eq_true rfl) d_W_1410 ⟨Nat.le_of_ble_eq_true rfl, Nat.le_of_ble_eq_true rfl⟩ ⟨by show cells + 3 ≤ 319022; omega, by show slots + 18 ≤ 8139040; omega⟩ (fun r v C1 rr hw1 hp => ?_)
  refine jg_istore (pc := 1413) X ((5, jI r) :: jwLv Z i b) d_W_1413 (by decide) rfl ?_
  refine jg_aload_n (pc := 1415) X d_W_1415 4 rfl ?_
  refine jg_arg (pc := 1416) (k := 1) LW (by decide) (by decide) l_W_1416 2 1 rfl rfl ?_
  refine jg_arg (pc := 1422) (k := 2) LW (by decide) (by decide) l_W_1422 2 1 rfl rfl ?_
  refine jg_eqst (st2 := ([jI (jwSv xs i 1), jI (jwSv xs i 2)] : List Value).reverse ++ [jr Z 345]) rfl ?_
  exact law_tailI (wpm := (wp_12_add (jwSv xs i 1) (jwSv xs i 2))) (pc := 1428) X (fun post hq => m_12_add (jwSv_r xs i 1) (jwSv_r xs i 2) hw1 hq) jM_12_add rfl ky_1888 ky_1463 rfl t_W_1428 u_W_1428 (by decide) hp rr hw1 ⟨Nat.le_of_ble_eq_true rfl, Nat.le_of_ble_eq_true rfl, rfl, rfl⟩ hc ⟨by show cells + 3 ≤ cells + 310; omega, by show slots + 18 ≤ slots + 9400; omega⟩ (by omega) kk
set_option maxHeartbeats 4000000 in
set_option maxRecDepth 100000 in
theorem law_19 {p : Program} {l : Launch} {e : Env} {s : State} {m : MethodId} {args : Array Value} {below : List Frame} {meth : Method} {c : Code} {Z : jE} {A : Nat → Prop} {cells slots : Nat} {Q : State → Prop} {n : Nat} {C : jC} {b L : Nat} {xs : Nat → Int32} {i K : Int} (LW : jwLaw p l s m args c Z A b L xs i) (hw : jWF n C) (h : rAll C K) (hK : K < 800000) (hc : cells + 310 ≤ 319022 ∧ slots + 9400 ≤ 8139040) (kk : jwCo p l e s m args below meth c A cells slots Q K i b) : jG p l e room_1 s m args below meth c 7 Z A (jws Z n C) cells slots Q 1464 (jwLv Z i b) [] := by
  have X := LW.1
  have hn := hw.2.2.1
  have hc1 := hc.1
  have hc2 := hc.2
  refine jg_aload_n (pc := 1464) X d_W_1464 2 rfl ?_
  refine jg_arg (pc := 1465) (k := 1) LW (by decide) (by decide) l_W_1465 1 0 rfl rfl ?_
  refine jg_arg (pc := 1471) (k := 2) LW (by decide) (by decide) l_W_1471 1 0 rfl rfl ?_
  refine jg_aload_n (pc := 1477) X d_W_1477 4 rfl ?_
  refine jg_callH (np := 4) (rest := []) (pc := 1478) X LW.2.1 (h_drop (jwSv_r xs i 1) (jwSv_r xs i 2) hw h) ky_1133 ky_1132 ky_0 ky_1131 ⟨by decide, by decide, by decide +kernel⟩ rfl rfl (Nat.le_of_ble_eq_true rfl) d_W_1478 ⟨Nat.le_of_ble_eq_true rfl, Nat.le_of_ble_eq_true rfl⟩ ⟨by show cells + 2 ≤ 319022; omega, by show slots + 12 ≤ 8139040; omega⟩ (fun r v C1 rr hw1 hp => ?_)
  refine jg_istore (pc := 1481) X ((5, jI r) :: jwLv Z i b) d_W_1481 (by decide) rfl ?_
  refine jg_aload_n (pc := 1483) X d_W_1483 4 rfl ?_
  refine jg_arg (pc := 1484) (k := 1) LW (by decide) (by decide) l_W_1484 2 1 rfl rfl ?_
  refine jg_arg (pc := 1490) (k := 2) LW (by decide) (by decide) l_W_1490 2 1 rfl rfl ?_
  refine jg_eqst (st2 := ([jI (jwSv xs i 1), jI (jwSv xs i 2)] : List Value).reverse ++ [jr Z 345]) rfl ?_
  exact law_tailI (wpm := (wp_12_drop (jwSv xs i 1) (jwSv xs i 2))) (pc := 1496) X (fun post hq => m_12_drop (jwSv_r xs i 1) (jwSv_r xs i 2) hw1 hq) jM_12_drop rfl ky_1892 ky_1463 rfl t_W_1496 u_W_1496 (by decide) hp rr hw1 ⟨Nat.le_of_ble_eq_true rfl, Nat.le_of_ble_eq_true rfl, rfl, rfl⟩ hc ⟨by show cells + 2 ≤ cells + 310; omega, by show slots + 12 ≤ slots + 9400; omega⟩ (by omega) kk
set_option maxHeartbeats 4000000 in
set_option maxRecDepth 100000 in
theorem law_20 {p : Program} {l : Launch} {e : Env} {s : State} {m : MethodId} {args : Array Value} {below : List Frame} {meth : Method} {c : Code} {Z : jE} {A : Nat → Prop} {cells slots : Nat} {Q : State → Prop} {n : Nat} {C : jC} {b L : Nat} {xs : Nat → Int32} {i K : Int} (LW : jwLaw p l s m args c Z A b L xs i) (hw : jWF n C) (h : rAll C K) (hK : K < 800000) (hc : cells + 310 ≤ 319022 ∧ slots + 9400 ≤ 8139040) (kk : jwCo p l e s m args below meth c A cells slots Q K i b) : jG p l e room_1 s m args below meth c 7 Z A (jws Z n C) cells slots Q 1532 (jwLv Z i b) [] := by
  have X := LW.1
  have hn := hw.2.2.1
  have hc1 := hc.1
  have hc2 := hc.2
  refine jg_aload_n (pc := 1532) X d_W_1532 2 rfl ?_
  refine jg_arg (pc := 1533) (k := 1) LW (by decide) (by decide) l_W_1533 1 0 rfl rfl ?_
  refine jg_arg (pc := 1539) (k := 2) LW (by decide) (by decide) l_W_1539 1 0 rfl rfl ?_
  refine jg_arg (pc := 1545) (k := 3) LW (by decide) (by decide) l_W_1545 1 0 rfl rfl ?_
  refine jg_aload_n (pc := 1551) X d_W_1551 4 rfl ?_
  refine jg_callH (np := 5) (rest := []) (pc := 1552) X LW.2.1 (h_drag (jwSv_r xs i 1) (jwSv_r xs i 2) (jwSv_r xs i 3) hw h) ky_1148 ky_1147 ky_0 ky_1146 ⟨by decide, by decide, by decide +kernel⟩ rfl rfl (Nat.le_of_ble_eq_true rfl) d_W_1552 ⟨Nat.le_of_ble_eq_true rfl, Nat.le_of_ble_eq_true rfl⟩ ⟨by show cells + 4 ≤ 319022; omega, by show slots + 24 ≤ 8139040; omega⟩ (fun r v C1 rr hw1 hp => ?_)
  refine jg_istore (pc := 1555) X ((5, jI r) :: jwLv Z i b) d_W_1555 (by decide) rfl ?_
  refine jg_aload_n (pc := 1557) X d_W_1557 4 rfl ?_
  refine jg_arg (pc := 1558) (k := 1) LW (by decide) (by decide) l_W_1558 2 1 rfl rfl ?_
  refine jg_arg (pc := 1564) (k := 2) LW (by decide) (by decide) l_W_1564 2 1 rfl rfl ?_
  refine jg_arg (pc := 1570) (k := 3) LW (by decide) (by decide) l_W_1570 2 1 rfl rfl ?_
  refine jg_eqst (st2 := ([jI (jwSv xs i 1), jI (jwSv xs i 2), jI (jwSv xs i 3)] : List Value).reverse ++ [jr Z 345]) rfl ?_
  exact law_tailI (wpm := (wp_12_drag (jwSv xs i 1) (jwSv xs i 2) (jwSv xs i 3))) (pc := 1576) X (fun post hq => m_12_drag (jwSv_r xs i 1) (jwSv_r xs i 2) (jwSv_r xs i 3) hw1 hq) jM_12_drag rfl ky_1900 ky_1463 rfl t_W_1576 u_W_1576 (by decide) hp rr hw1 ⟨Nat.le_of_ble_eq_true rfl, Nat.le_of_ble_eq_true rfl, rfl, rfl⟩ hc ⟨by show cells + 4 ≤ cells + 310; omega, by show slots + 24 ≤ slots + 9400; omega⟩ (by omega) kk
set_option maxHeartbeats 4000000 in
set_option maxRecDepth 100000 in
theorem law_21 {p : Program} {l : Launch} {e : Env} {s : State} {m : MethodId} {args : Array Value} {below : List Frame} {meth : Method} {c : Code} {Z : jE} {A : Nat → Prop} {cells slots : Nat} {Q : State → Prop} {n : Nat} {C : jC} {b L : Nat} {xs : Nat → Int32} {i K : Int} (LW : jwLaw p l s m args c Z A b L xs i) (hw : jWF n C) (h : rAll C K) (hK : K < 800000) (hc : cells + 310 ≤ 319022 ∧ slots + 9400 ≤ 8139040) (kk : jwCo p l e s m args below meth c A cells slots Q K i b) : jG p l e room_1 s m args below meth c 7 Z A (jws Z n C) cells slots Q 1612 (jwLv Z i b) [] := by
  have X := LW.1
  have hn := hw.2.2.1
  have hc1 := hc.1
  have hc2 := hc.2
  refine jg_aload_n (pc := 1612) X d_W_1612 2 rfl ?_
  refine jg_arg (pc := 1613) (k := 1) LW (by decide) (by decide) l_W_1613 1 0 rfl rfl ?_
  refine jg_aload_n (pc := 1619) X d_W_1619 4 rfl ?_
  refine jg_callH (np := 3) (rest := []) (pc := 1620) X LW.2.1 (h_refresh (jwSv_r xs i 1) hw h) ky_1164 ky_1163 ky_0 ky_1162 ⟨by decide, by decide, by decide +kernel⟩ rfl rfl (Nat.le_of_ble_eq_true rfl) d_W_1620 ⟨Nat.le_of_ble_eq_true rfl, Nat.le_of_ble_eq_true rfl⟩ ⟨by show cells + 1 ≤ 319022; omega, by show slots + 6 ≤ 8139040; omega⟩ (fun r v C1 rr hw1 hp => ?_)
  refine jg_istore (pc := 1623) X ((5, jI r) :: jwLv Z i b) d_W_1623 (by decide) rfl ?_
  refine jg_aload_n (pc := 1625) X d_W_1625 4 rfl ?_
  refine jg_arg (pc := 1626) (k := 1) LW (by decide) (by decide) l_W_1626 2 1 rfl rfl ?_
  refine jg_eqst (st2 := ([jI (jwSv xs i 1)] : List Value).reverse ++ [jr Z 345]) rfl ?_
  exact law_tailI (wpm := (wp_12_refresh (jwSv xs i 1))) (pc := 1632) X (fun post hq => m_12_refresh (jwSv_r xs i 1) hw1 hq) jM_12_refresh rfl ky_1782 ky_1463 rfl t_W_1632 u_W_1632 (by decide) hp rr hw1 ⟨Nat.le_of_ble_eq_true rfl, Nat.le_of_ble_eq_true rfl, rfl, rfl⟩ hc ⟨by show cells + 1 ≤ cells + 310; omega, by show slots + 6 ≤ slots + 9400; omega⟩ (by omega) kk
set_option maxHeartbeats 4000000 in
set_option maxRecDepth 100000 in
theorem law_22 {p : Program} {l : Launch} {e : Env} {s : State} {m : MethodId} {args : Array Value} {below : List Frame} {meth : Method} {c : Code} {Z : jE} {A : Nat → Prop} {cells slots : Nat} {Q : State → Prop} {n : Nat} {C : jC} {b L : Nat} {xs : Nat → Int32} {i K : Int} (LW : jwLaw p l s m args c Z A b L xs i) (hw : jWF n C) (h : rAll C K) (hK : K < 800000) (hc : cells + 310 ≤ 319022 ∧ slots + 9400 ≤ 8139040) (kk : jwCo p l e s m args below meth c A cells slots Q K i b) : jG p l e room_1 s m args below meth c 7 Z A (jws Z n C) cells slots Q 1668 (jwLv Z i b) [] := by
  have X := LW.1
  have hn := hw.2.2.1
  have hc1 := hc.1
  have hc2 := hc.2
  refine jg_aload_n (pc := 1668) X d_W_1668 2 rfl ?_
  refine jg_arg (pc := 1669) (k := 1) LW (by decide) (by decide) l_W_1669 1 0 rfl rfl ?_
  refine jg_aload_n (pc := 1675) X d_W_1675 4 rfl ?_
  refine jg_callH (np := 3) (rest := []) (pc := 1676) X LW.2.1 (h_undo (jwSv_r xs i 1) hw h) ky_1180 ky_1179 ky_0 ky_1178 ⟨by decide, by decide, by decide +kernel⟩ rfl rfl (Nat.le_of_ble_eq_true rfl) d_W_1676 ⟨Nat.le_of_ble_eq_true rfl, Nat.le_of_ble_eq_true rfl⟩ ⟨by show cells + 2 ≤ 319022; omega, by show slots + 12 ≤ 8139040; omega⟩ (fun r v C1 rr hw1 hp => ?_)
  refine jg_istore (pc := 1679) X ((5, jI r) :: jwLv Z i b) d_W_1679 (by decide) rfl ?_
  refine jg_aload_n (pc := 1681) X d_W_1681 4 rfl ?_
  refine jg_arg (pc := 1682) (k := 1) LW (by decide) (by decide) l_W_1682 2 1 rfl rfl ?_
  refine jg_eqst (st2 := ([jI (jwSv xs i 1)] : List Value).reverse ++ [jr Z 345]) rfl ?_
  exact law_tailI (wpm := (wp_12_undo (jwSv xs i 1))) (pc := 1688) X (fun post hq => m_12_undo (jwSv_r xs i 1) hw1 hq) jM_12_undo rfl ky_1884 ky_1463 rfl t_W_1688 u_W_1688 (by decide) hp rr hw1 ⟨Nat.le_of_ble_eq_true rfl, Nat.le_of_ble_eq_true rfl, rfl, rfl⟩ hc ⟨by show cells + 2 ≤ cells + 310; omega, by show slots + 12 ≤ slots + 9400; omega⟩ (by omega) kk

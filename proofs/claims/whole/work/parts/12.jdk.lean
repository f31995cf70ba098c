section JDK
variable {p : Program} {l : Launch} {e : Env} {R : Room} {s : State} {m : MethodId} {args : Array Value} {below : List Frame} {meth : Method} {c : Code} {cc : ByteArray} {own : String} {nL : Nat} {Z : jE} {A : Nat → Prop} {cells slots : Nat} {Q : State → Prop} {pc n : Nat} {lv : List (Nat × Value)} {st : List Value} {ws : va_W} {C : jC}
variable {y : MethodName} {bytes : ByteArray} {maxL np idx : Nat} {rt : FieldType} {ret : Option FieldType} {rm : Room} {avs rest : List Value}
theorem jg_svalue {q : Nat} (X : jX p l s m args c cc own nL Z A) (hq : q < 11) (hlink : Cond.fieldLink own idx "java/lang/String" "value" "[B" ∈ jTB) (hd : decode cc pc = .ok (.getfield idx, 3)) (kk : jG p l e R s m args below meth c nL Z A (jws Z n C) cells slots Q (pc + 3) lv (Value.ref (jsV Z q) :: st)) : jG p l e R s m args below meth c nL Z A (jws Z n C) cells slots Q pc lv (Value.ref (jsK Z q) :: st) := by
  intro H locs ls hP hD hS hl
  exact vk_getf X.1 X.2.1 ((X.2.2.2.2.2.2.2.2.2.1.1 q hq).2.2.1) hS X.2.2.2.1 (X.2.2.2.2.1 _ hlink) (fun _ h => h) hd (kk H locs ls hP hD hS hl)
theorem jg_scoder {q : Nat} (X : jX p l s m args c cc own nL Z A) (hq : q < 11) (hlink : Cond.fieldLink own idx "java/lang/String" "coder" "B" ∈ jTB) (hd : decode cc pc = .ok (.getfield idx, 3)) (kk : jG p l e R s m args below meth c nL Z A (jws Z n C) cells slots Q (pc + 3) lv (jI 0 :: st)) : jG p l e R s m args below meth c nL Z A (jws Z n C) cells slots Q pc lv (Value.ref (jsK Z q) :: st) := by
  intro H locs ls hP hD hS hl
  exact vk_getf (v := .int 0) X.1 X.2.1 ((X.2.2.2.2.2.2.2.2.2.1.1 q hq).2.1) hS X.2.2.2.1 (X.2.2.2.2.1 _ hlink) (fun _ h => h) hd (kk H locs ls hP hD hS hl)
theorem jg_compact (X : jX p l s m args c cc own nL Z A) (hlink : Cond.fieldLink own idx "java/lang/String" "COMPACT_STRINGS" "Z" ∈ jTB) (hd : decode cc pc = .ok (.getstatic idx, 3)) (kk : jG p l e R s m args below meth c nL Z A (jws Z n C) cells slots Q (pc + 3) lv (jI 1 :: st)) : jG p l e R s m args below meth c nL Z A (jws Z n C) cells slots Q pc lv st := by
  intro H locs ls hP hD hS hl
  exact va_gets (v := .int 1) X.1 X.2.1 X.2.2.2.2.2.2.2.2.2.2.2.2.1 hS X.2.2.2.1 (X.2.2.2.2.1 _ hlink) (fun _ h => h) hd (kk H locs ls hP hD hS hl)
theorem jg_sioobe (X : jX p l s m args c cc own nL Z A) (hlink : Cond.fieldLink own idx "jdk/internal/util/Preconditions" "SIOOBE_FORMATTER" "Ljava/util/function/BiFunction;" ∈ jTB) (hd : decode cc pc = .ok (.getstatic idx, 3)) (kk : ∀ v : Value, v.category = 1 → (v = .null ∨ ∃ a, v = .ref a) → jG p l e R s m args below meth c nL Z A (jws Z n C) cells slots Q (pc + 3) lv (v :: st)) : jG p l e R s m args below meth c nL Z A (jws Z n C) cells slots Q pc lv st := by
  intro H locs ls hP hD hS hl
  rcases X.2.2.2.2.2.2.2.2.2.2.2.2.2.1 with hz | ⟨t, hz⟩
  · exact va_gets (v := .null) X.1 X.2.1 hz hS X.2.2.2.1 (X.2.2.2.2.1 _ hlink) (fun _ h => h) hd (kk .null rfl (Or.inl rfl) H locs ls hP hD hS hl)
  · exact va_gets (v := .ref t) X.1 X.2.1 hz hS X.2.2.2.1 (X.2.2.2.2.1 _ hlink) (fun _ h => h) hd (kk (.ref t) rfl (Or.inr ⟨t, rfl⟩) H locs ls hP hD hS hl)
theorem jg_slen9 {q : Nat} (X : jX p l s m args c cc own nL Z A) (hq : q < 11) (hd : decode cc pc = .ok (.arraylength, 1)) (kk : jG p l e R s m args below meth c nL Z A (jws Z n C) cells slots Q (pc + 1) lv (jI (jSlen q) :: st)) : jG p l e R s m args below meth c nL Z A (jws Z n C) cells slots Q pc lv (Value.ref (jsV Z q) :: st) := by
  intro H locs ls hP hD hS hl
  refine va_tlen (v := Int32.ofInt (jSlen q)) X.1 X.2.1 ((X.2.2.2.2.2.2.2.2.2.1.1 q hq).2.2.2) hS ?_ hd (kk H locs ls hP hD hS hl)
  rfl
theorem jSlen_small (q : Nat) (hq : q < 11) : jSl.getD q 0 < 2147483648 := by
  match q, hq with
  | 0, _ | 1, _ | 2, _ | 3, _ | 4, _ | 5, _ | 6, _ | 7, _ | 8, _ | 9, _ | 10, _ => decide
theorem jg_sbyte {q : Nat} {i : Int} (X : jX p l s m args c cc own nL Z A) (hq : q < 11) (h0 : 0 ≤ i) (h1 : i < jSlen q) (hd : decode cc pc = .ok (.baload, 1)) (kk : jG p l e R s m args below meth c nL Z A (jws Z n C) cells slots Q (pc + 1) lv (jI (jSch q i) :: st)) : jG p l e R s m args below meth c nL Z A (jws Z n C) cells slots Q pc lv (jI i :: Value.ref (jsV Z q) :: st) := by
  intro H locs ls hP hD hS hl
  have hs := jSlen_small q hq
  have h2 : i < ((jSl.getD q 0 : Nat) : Int) := h1
  refine va_tb (v := Value.int ((jSb.getD q []).getD i.toNat 0)) X.1 X.2.1 ((X.2.2.2.2.2.2.2.2.2.1.1 q hq).2.2.2) hS (ji_in h0 h2 hs) ?_ hd ?_
  · rw [ji_clamp h0 (by omega)]
  · have e9 : (jSb.getD q []).getD i.toNat 0 = Int32.ofInt (jSch q i) := (ji_of _).symm
    rw [e9]
    exact kk H locs ls hP hD hS hl
theorem jg_scallVi {q : Nat} {post : Int → jC → Prop} (X : jX p l s m args c cc own nL Z A) (hq : q < 11) (hM : jCi l y bytes maxL rt rm Z n C (Value.ref (jsK Z q) :: avs) post) (hy : jMy y bytes maxL (some rt) np) (hyc : "java/lang/String" = y.cls) (hlink : Cond.methodLink own idx y ∈ jTB) (hn : avs.length = np) (hst : st = avs.reverse ++ Value.ref (jsK Z q) :: rest) (hcat : (rest.map fun v => v.category).sum ≤ 8) (hd : decode cc pc = .ok (.invokevirtual idx, 3)) (hR : rm.frames + 1 ≤ R.frames ∧ 8 + (maxL + 11) + rm.locals ≤ R.locals) (hC : cells + rm.cells ≤ R.cells ∧ slots + rm.slots ≤ R.slots)
    (kk : ∀ (r : Int) (C' : jC), jRng r → jWF n C' → post r C' → jG p l e R s m args below meth c nL Z A (jws Z n C') (cells + rm.cells) (slots + rm.slots) Q (pc + 3) lv (jI r :: rest)) : jG p l e R s m args below meth c nL Z A (jws Z n C) cells slots Q pc lv st := by
  intro H locs ls hP hD hS hl
  have hsub := jA_sub hD hS X.2.2.2.2.2.2.1
  obtain ⟨g1, g2, g3, g4, g5⟩ := hy
  have hrv := vk_recv (X.2.2.2.2.2.2.2.2.2.1) hq hS
  rw [hyc] at hrv
  subst hst
  refine va_calli (va_runV (As := avs) (rest := rest) (b := jsK Z q) (C := y.cls) ⟨X.1, X.2.1, X.2.2.1, X.2.2.2.1, X.2.2.2.2.1⟩ (hM H.size) ⟨jcb_of X g4 g3 hlink g5 hR, X.2.2.2.2.1 _ g1, X.2.2.2.2.1 _ g2⟩ ⟨jPc_blind, hrv, jpre_of X hP hD hS _⟩ rfl hn hl.1 rfl (lv_room hcat) hd hC) hS (fun q _ h => hsub q h) hsub (fun r u t H1 locs1 ht hvm hw hB hz1 hk1 hS1 => ?_)
  obtain ⟨r', C'⟩ := u
  obtain ⟨rfl, hr, hwf, hp⟩ := hw
  exact kk r' C' hr hwf hp H1 locs1 ls (by rw [← ht]; exact hB) (jD_any hD) hS1 hl
theorem jg_callSv {post : jC → Prop} (X : jX p l s m args c cc own nL Z A) (hM : jCv l y bytes maxL rm Z n C avs post) (hy : jMs y bytes maxL none np) (hlink : Cond.methodLink own idx y ∈ jTB) (hn : avs.length = np) (hst : st = avs.reverse ++ rest) (hcat : (rest.map fun v => v.category).sum ≤ 8) (hd : decode cc pc = .ok (.invokestatic idx, 3)) (hR : rm.frames + 1 ≤ R.frames ∧ 8 + (maxL + 11) + rm.locals ≤ R.locals) (hC : cells + rm.cells ≤ R.cells ∧ slots + rm.slots ≤ R.slots)
    (kk : ∀ (C' : jC), jWF n C' → post C' → jG p l e R s m args below meth c nL Z A (jws Z n C') (cells + rm.cells) (slots + rm.slots) Q (pc + 3) lv rest) : jG p l e R s m args below meth c nL Z A (jws Z n C) cells slots Q pc lv st := by
  intro H locs ls hP hD hS hl
  have hsub := jA_sub hD hS X.2.2.2.2.2.2.1
  obtain ⟨g1, g3, g4, g5⟩ := hy
  subst hst
  refine va_callv (va_runS (As := avs) (rest := rest) ⟨X.1, X.2.1, X.2.2.1, X.2.2.2.1, X.2.2.2.2.1⟩ (hM H.size) ⟨jcb_of X g4 g3 hlink g5 hR, X.2.2.2.2.1 _ g1⟩ ⟨jPc_blind, jpre_of X hP hD hS _⟩ rfl hn hl.1 rfl (lv_room hcat) hd hC) hS (fun q _ h => hsub q h) hsub (fun C' t H1 locs1 ht hvm hw hB hz1 hk1 hS1 => ?_)
  exact kk C' hw.1 hw.2 H1 locs1 ls (by rw [← ht]; exact hB) (jD_any hD) hS1 hl
theorem jg_vload_n {f : Fin 4} {v : Value} (X : jX p l s m args c cc own nL Z A) (hd : decode cc pc = .ok (.aload_n f, 1)) (k : Nat) (hk : lv[k]? = some ((f : Nat), v)) (hv : v = .null ∨ ∃ a, v = .ref a) (kk : jG p l e R s m args below meth c nL Z A (jws Z n C) cells slots Q (pc + 1) lv (v :: st)) : jG p l e R s m args below meth c nL Z A (jws Z n C) cells slots Q pc lv st := by
  intro H locs ls hP hD hS hl
  rcases hv with rfl | ⟨a, rfl⟩
  · exact lv_aload_nN X.1 X.2.1 hd rfl (lv_at hl k hk) (kk H locs ls hP hD hS hl)
  · exact lv_aload_n X.1 X.2.1 hd rfl (lv_at hl k hk) (kk H locs ls hP hD hS hl)
theorem jg_ixor {x y : Int32} (X : jX p l s m args c cc own nL Z A) (hd : decode cc pc = .ok (.ixor, 1)) (kk : jG p l e R s m args below meth c nL Z A (jws Z n C) cells slots Q (pc + 1) lv (Value.int (x ^^^ y) :: st)) : jG p l e R s m args below meth c nL Z A (jws Z n C) cells slots Q pc lv (Value.int y :: Value.int x :: st) :=
  fun H locs ls hP hD hS hl => lv_ixor X.1 X.2.1 hd (kk H locs ls hP hD hS hl)
end JDK
theorem kj_15 : Cond.initialized "java/lang/String" ∈ jTB := jtb (List.mem_of_getElem? (i := 15) (by decide +kernel)) (by decide +kernel)
theorem kj_16 : Cond.initialized "java/lang/StringLatin1" ∈ jTB := jtb (List.mem_of_getElem? (i := 16) (by decide +kernel)) (by decide +kernel)
theorem kj_17 : Cond.initialized "jdk/internal/util/Preconditions" ∈ jTB := jtb (List.mem_of_getElem? (i := 17) (by decide +kernel)) (by decide +kernel)
theorem kj_27 : Cond.initialized "java/lang/Math" ∈ jTB := jtb (List.mem_of_getElem? (i := 27) (by decide +kernel)) (by decide +kernel)
theorem kj_502 : Cond.instanceMethod ⟨"java/lang/String", "length", "()I"⟩ ∈ jTB := jtb (List.mem_of_getElem? (i := 502) (by decide +kernel)) (by decide +kernel)
theorem kj_503 : Cond.selects "java/lang/String" ⟨"java/lang/String", "length", "()I"⟩ ⟨"java/lang/String", "length", "()I"⟩ ∈ jTB := jtb (List.mem_of_getElem? (i := 503) (by decide +kernel)) (by decide +kernel)
theorem kj_504 : Cond.code ⟨"java/lang/String", "length", "()I"⟩ prog_24_method_54_code 1 (some .int) ∈ jTB := jtb (List.mem_of_getElem? (i := 504) (by decide +kernel)) (by decide +kernel)
theorem kj_505 : Cond.methodLink "java/lang/String" 335 ⟨"java/lang/String", "coder", "()B"⟩ ∈ jTB := jtb (List.mem_of_getElem? (i := 505) (by decide +kernel)) (by decide +kernel)
theorem kj_506 : Cond.instanceMethod ⟨"java/lang/String", "coder", "()B"⟩ ∈ jTB := jtb (List.mem_of_getElem? (i := 506) (by decide +kernel)) (by decide +kernel)
theorem kj_507 : Cond.selects "java/lang/String" ⟨"java/lang/String", "coder", "()B"⟩ ⟨"java/lang/String", "coder", "()B"⟩ ∈ jTB := jtb (List.mem_of_getElem? (i := 507) (by decide +kernel)) (by decide +kernel)
theorem kj_508 : Cond.code ⟨"java/lang/String", "coder", "()B"⟩ prog_24_method_152_code 1 (some .byte) ∈ jTB := jtb (List.mem_of_getElem? (i := 508) (by decide +kernel)) (by decide +kernel)
theorem kj_509 : Cond.fieldLink "java/lang/String" 38 "java/lang/String" "COMPACT_STRINGS" "Z" ∈ jTB := jtb (List.mem_of_getElem? (i := 509) (by decide +kernel)) (by decide +kernel)
theorem kj_512 : Cond.instanceMethod ⟨"java/lang/String", "charAt", "(I)C"⟩ ∈ jTB := jtb (List.mem_of_getElem? (i := 512) (by decide +kernel)) (by decide +kernel)
theorem kj_513 : Cond.selects "java/lang/String" ⟨"java/lang/String", "charAt", "(I)C"⟩ ⟨"java/lang/String", "charAt", "(I)C"⟩ ∈ jTB := jtb (List.mem_of_getElem? (i := 513) (by decide +kernel)) (by decide +kernel)
theorem kj_514 : Cond.code ⟨"java/lang/String", "charAt", "(I)C"⟩ prog_24_method_56_code 2 (some .char) ∈ jTB := jtb (List.mem_of_getElem? (i := 514) (by decide +kernel)) (by decide +kernel)
theorem kj_515 : Cond.methodLink "java/lang/String" 492 ⟨"java/lang/String", "isLatin1", "()Z"⟩ ∈ jTB := jtb (List.mem_of_getElem? (i := 515) (by decide +kernel)) (by decide +kernel)
theorem kj_516 : Cond.instanceMethod ⟨"java/lang/String", "isLatin1", "()Z"⟩ ∈ jTB := jtb (List.mem_of_getElem? (i := 516) (by decide +kernel)) (by decide +kernel)
theorem kj_517 : Cond.selects "java/lang/String" ⟨"java/lang/String", "isLatin1", "()Z"⟩ ⟨"java/lang/String", "isLatin1", "()Z"⟩ ∈ jTB := jtb (List.mem_of_getElem? (i := 517) (by decide +kernel)) (by decide +kernel)
theorem kj_518 : Cond.code ⟨"java/lang/String", "isLatin1", "()Z"⟩ prog_24_method_154_code 1 (some .boolean) ∈ jTB := jtb (List.mem_of_getElem? (i := 518) (by decide +kernel)) (by decide +kernel)
theorem kj_519 : Cond.methodLink "java/lang/String" 495 ⟨"java/lang/StringLatin1", "charAt", "([BI)C"⟩ ∈ jTB := jtb (List.mem_of_getElem? (i := 519) (by decide +kernel)) (by decide +kernel)
theorem kj_520 : Cond.static ⟨"java/lang/StringLatin1", "charAt", "([BI)C"⟩ ∈ jTB := jtb (List.mem_of_getElem? (i := 520) (by decide +kernel)) (by decide +kernel)
theorem kj_521 : Cond.code ⟨"java/lang/StringLatin1", "charAt", "([BI)C"⟩ prog_25_method_2_code 2 (some .char) ∈ jTB := jtb (List.mem_of_getElem? (i := 521) (by decide +kernel)) (by decide +kernel)
theorem kj_522 : Cond.methodLink "java/lang/StringLatin1" 9 ⟨"java/lang/String", "checkIndex", "(II)V"⟩ ∈ jTB := jtb (List.mem_of_getElem? (i := 522) (by decide +kernel)) (by decide +kernel)
theorem kj_523 : Cond.static ⟨"java/lang/String", "checkIndex", "(II)V"⟩ ∈ jTB := jtb (List.mem_of_getElem? (i := 523) (by decide +kernel)) (by decide +kernel)
theorem kj_524 : Cond.code ⟨"java/lang/String", "checkIndex", "(II)V"⟩ prog_24_method_155_code 2 none ∈ jTB := jtb (List.mem_of_getElem? (i := 524) (by decide +kernel)) (by decide +kernel)
theorem kj_525 : Cond.fieldLink "java/lang/String" 1053 "jdk/internal/util/Preconditions" "SIOOBE_FORMATTER" "Ljava/util/function/BiFunction;" ∈ jTB := jtb (List.mem_of_getElem? (i := 525) (by decide +kernel)) (by decide +kernel)
theorem kj_527 : Cond.methodLink "java/lang/String" 1059 ⟨"jdk/internal/util/Preconditions", "checkIndex", "(IILjava/util/function/BiFunction;)I"⟩ ∈ jTB := jtb (List.mem_of_getElem? (i := 527) (by decide +kernel)) (by decide +kernel)
theorem kj_528 : Cond.static ⟨"jdk/internal/util/Preconditions", "checkIndex", "(IILjava/util/function/BiFunction;)I"⟩ ∈ jTB := jtb (List.mem_of_getElem? (i := 528) (by decide +kernel)) (by decide +kernel)
theorem kj_529 : Cond.code ⟨"jdk/internal/util/Preconditions", "checkIndex", "(IILjava/util/function/BiFunction;)I"⟩ prog_33_method_11_code 3 (some .int) ∈ jTB := jtb (List.mem_of_getElem? (i := 529) (by decide +kernel)) (by decide +kernel)
theorem kj_1461 : Cond.static ⟨"java/lang/Math", "floorMod", "(II)I"⟩ ∈ jTB := jtb (List.mem_of_getElem? (i := 1461) (by decide +kernel)) (by decide +kernel)
theorem kj_1462 : Cond.code ⟨"java/lang/Math", "floorMod", "(II)I"⟩ prog_22_method_50_code 3 (some .int) ∈ jTB := jtb (List.mem_of_getElem? (i := 1462) (by decide +kernel)) (by decide +kernel)
theorem kj_2070 : Cond.fieldLink "java/lang/String" 9 "java/lang/String" "value" "[B" ∈ jTB := jtb (List.mem_of_getElem? (i := 2070) (by decide +kernel)) (by decide +kernel)
theorem kj_2071 : Cond.fieldLink "java/lang/String" 15 "java/lang/String" "coder" "B" ∈ jTB := jtb (List.mem_of_getElem? (i := 2071) (by decide +kernel)) (by decide +kernel)
def y_Scoder : MethodName := ⟨"java/lang/String", "coder", "()B"⟩
def q_Scoder : Room := { frames := 0, cells := 0, slots := 0, locals := 0 }
theorem jM_Scoder : jMy y_Scoder prog_24_method_152_code 1 (some .byte) 0 := ⟨kj_506, kj_507, kj_15, kj_508, ⟨by decide, by decide, by decide +kernel⟩⟩
theorem d_Scoder_0 : decode prog_24_method_152_code 0 = .ok (.getstatic 38, 3) := by decide +kernel
theorem d_Scoder_3 : decode prog_24_method_152_code 3 = .ok (.ifCond .eq 10, 3) := by decide +kernel
theorem d_Scoder_6 : decode prog_24_method_152_code 6 = .ok (.aload_n 0, 1) := by decide +kernel
theorem d_Scoder_7 : decode prog_24_method_152_code 7 = .ok (.getfield 15, 3) := by decide +kernel
theorem d_Scoder_10 : decode prog_24_method_152_code 10 = .ok (.goto 4, 3) := by decide +kernel
theorem d_Scoder_13 : decode prog_24_method_152_code 13 = .ok (.iconst 1, 1) := by decide +kernel
theorem d_Scoder_14 : decode prog_24_method_152_code 14 = .ok (.ireturn, 1) := by decide +kernel
def y_Slength : MethodName := ⟨"java/lang/String", "length", "()I"⟩
def q_Slength : Room := { frames := 1, cells := 0, slots := 0, locals := 20 }
theorem jM_Slength : jMy y_Slength prog_24_method_54_code 1 (some .int) 0 := ⟨kj_502, kj_503, kj_15, kj_504, ⟨by decide, by decide, by decide +kernel⟩⟩
theorem d_Slength_0 : decode prog_24_method_54_code 0 = .ok (.aload_n 0, 1) := by decide +kernel
theorem d_Slength_1 : decode prog_24_method_54_code 1 = .ok (.getfield 9, 3) := by decide +kernel
theorem d_Slength_4 : decode prog_24_method_54_code 4 = .ok (.arraylength, 1) := by decide +kernel
theorem d_Slength_5 : decode prog_24_method_54_code 5 = .ok (.aload_n 0, 1) := by decide +kernel
theorem d_Slength_6 : decode prog_24_method_54_code 6 = .ok (.invokevirtual 335, 3) := by decide +kernel
theorem d_Slength_9 : decode prog_24_method_54_code 9 = .ok (.ishr, 1) := by decide +kernel
theorem d_Slength_10 : decode prog_24_method_54_code 10 = .ok (.ireturn, 1) := by decide +kernel
def y_Slatin : MethodName := ⟨"java/lang/String", "isLatin1", "()Z"⟩
def q_Slatin : Room := { frames := 0, cells := 0, slots := 0, locals := 0 }
theorem jM_Slatin : jMy y_Slatin prog_24_method_154_code 1 (some .boolean) 0 := ⟨kj_516, kj_517, kj_15, kj_518, ⟨by decide, by decide, by decide +kernel⟩⟩
theorem d_Slatin_0 : decode prog_24_method_154_code 0 = .ok (.getstatic 38, 3) := by decide +kernel
theorem d_Slatin_3 : decode prog_24_method_154_code 3 = .ok (.ifCond .eq 14, 3) := by decide +kernel
theorem d_Slatin_6 : decode prog_24_method_154_code 6 = .ok (.aload_n 0, 1) := by decide +kernel
theorem d_Slatin_7 : decode prog_24_method_154_code 7 = .ok (.getfield 15, 3) := by decide +kernel
theorem d_Slatin_10 : decode prog_24_method_154_code 10 = .ok (.ifCond .ne 7, 3) := by decide +kernel
theorem d_Slatin_13 : decode prog_24_method_154_code 13 = .ok (.iconst 1, 1) := by decide +kernel
theorem d_Slatin_14 : decode prog_24_method_154_code 14 = .ok (.goto 4, 3) := by decide +kernel
theorem d_Slatin_17 : decode prog_24_method_154_code 17 = .ok (.iconst 0, 1) := by decide +kernel
theorem d_Slatin_18 : decode prog_24_method_154_code 18 = .ok (.ireturn, 1) := by decide +kernel
def y_Pcheck : MethodName := ⟨"jdk/internal/util/Preconditions", "checkIndex", "(IILjava/util/function/BiFunction;)I"⟩
def q_Pcheck : Room := { frames := 0, cells := 0, slots := 0, locals := 0 }
theorem jM_Pcheck : jMs y_Pcheck prog_33_method_11_code 3 (some .int) 3 := ⟨kj_528, kj_17, kj_529, ⟨by decide, by decide, by decide +kernel⟩⟩
theorem d_Pcheck_0 : decode prog_33_method_11_code 0 = .ok (.iload_n 0, 1) := by decide +kernel
theorem d_Pcheck_1 : decode prog_33_method_11_code 1 = .ok (.ifCond .lt 8, 3) := by decide +kernel
theorem d_Pcheck_4 : decode prog_33_method_11_code 4 = .ok (.iload_n 0, 1) := by decide +kernel
theorem d_Pcheck_5 : decode prog_33_method_11_code 5 = .ok (.iload_n 1, 1) := by decide +kernel
theorem d_Pcheck_6 : decode prog_33_method_11_code 6 = .ok (.if_icmp .lt 10, 3) := by decide +kernel
theorem d_Pcheck_9 : decode prog_33_method_11_code 9 = .ok (.aload_n 2, 1) := by decide +kernel
theorem d_Pcheck_10 : decode prog_33_method_11_code 10 = .ok (.iload_n 0, 1) := by decide +kernel
theorem d_Pcheck_11 : decode prog_33_method_11_code 11 = .ok (.iload_n 1, 1) := by decide +kernel
theorem d_Pcheck_12 : decode prog_33_method_11_code 12 = .ok (.invokestatic 95, 3) := by decide +kernel
theorem d_Pcheck_15 : decode prog_33_method_11_code 15 = .ok (.athrow, 1) := by decide +kernel
theorem d_Pcheck_16 : decode prog_33_method_11_code 16 = .ok (.iload_n 0, 1) := by decide +kernel
theorem d_Pcheck_17 : decode prog_33_method_11_code 17 = .ok (.ireturn, 1) := by decide +kernel
def y_Scheck : MethodName := ⟨"java/lang/String", "checkIndex", "(II)V"⟩
def q_Scheck : Room := { frames := 1, cells := 0, slots := 0, locals := 22 }
theorem jM_Scheck : jMs y_Scheck prog_24_method_155_code 2 none 2 := ⟨kj_523, kj_15, kj_524, ⟨by decide, by decide, by decide +kernel⟩⟩
theorem d_Scheck_0 : decode prog_24_method_155_code 0 = .ok (.iload_n 0, 1) := by decide +kernel
theorem d_Scheck_1 : decode prog_24_method_155_code 1 = .ok (.iload_n 1, 1) := by decide +kernel
theorem d_Scheck_2 : decode prog_24_method_155_code 2 = .ok (.getstatic 1053, 3) := by decide +kernel
theorem d_Scheck_5 : decode prog_24_method_155_code 5 = .ok (.invokestatic 1059, 3) := by decide +kernel
theorem d_Scheck_8 : decode prog_24_method_155_code 8 = .ok (.pop, 1) := by decide +kernel
theorem d_Scheck_9 : decode prog_24_method_155_code 9 = .ok (.return_, 1) := by decide +kernel
def y_Lchar : MethodName := ⟨"java/lang/StringLatin1", "charAt", "([BI)C"⟩
def q_Lchar : Room := { frames := 2, cells := 0, slots := 0, locals := 43 }
theorem jM_Lchar : jMs y_Lchar prog_25_method_2_code 2 (some .char) 2 := ⟨kj_520, kj_16, kj_521, ⟨by decide, by decide, by decide +kernel⟩⟩
theorem d_Lchar_0 : decode prog_25_method_2_code 0 = .ok (.iload_n 1, 1) := by decide +kernel
theorem d_Lchar_1 : decode prog_25_method_2_code 1 = .ok (.aload_n 0, 1) := by decide +kernel
theorem d_Lchar_2 : decode prog_25_method_2_code 2 = .ok (.arraylength, 1) := by decide +kernel
theorem d_Lchar_3 : decode prog_25_method_2_code 3 = .ok (.invokestatic 9, 3) := by decide +kernel
theorem d_Lchar_6 : decode prog_25_method_2_code 6 = .ok (.aload_n 0, 1) := by decide +kernel
theorem d_Lchar_7 : decode prog_25_method_2_code 7 = .ok (.iload_n 1, 1) := by decide +kernel
theorem d_Lchar_8 : decode prog_25_method_2_code 8 = .ok (.baload, 1) := by decide +kernel
theorem d_Lchar_9 : decode prog_25_method_2_code 9 = .ok (.sipush 255, 3) := by decide +kernel
theorem d_Lchar_12 : decode prog_25_method_2_code 12 = .ok (.iand, 1) := by decide +kernel
theorem d_Lchar_13 : decode prog_25_method_2_code 13 = .ok (.i2c, 1) := by decide +kernel
theorem d_Lchar_14 : decode prog_25_method_2_code 14 = .ok (.ireturn, 1) := by decide +kernel
def y_Schar : MethodName := ⟨"java/lang/String", "charAt", "(I)C"⟩
def q_Schar : Room := { frames := 3, cells := 0, slots := 0, locals := 64 }
theorem jM_Schar : jMy y_Schar prog_24_method_56_code 2 (some .char) 1 := ⟨kj_512, kj_513, kj_15, kj_514, ⟨by decide, by decide, by decide +kernel⟩⟩
theorem d_Schar_0 : decode prog_24_method_56_code 0 = .ok (.aload_n 0, 1) := by decide +kernel
theorem d_Schar_1 : decode prog_24_method_56_code 1 = .ok (.invokevirtual 492, 3) := by decide +kernel
theorem d_Schar_4 : decode prog_24_method_56_code 4 = .ok (.ifCond .eq 12, 3) := by decide +kernel
theorem d_Schar_7 : decode prog_24_method_56_code 7 = .ok (.aload_n 0, 1) := by decide +kernel
theorem d_Schar_8 : decode prog_24_method_56_code 8 = .ok (.getfield 9, 3) := by decide +kernel
theorem d_Schar_11 : decode prog_24_method_56_code 11 = .ok (.iload_n 1, 1) := by decide +kernel
theorem d_Schar_12 : decode prog_24_method_56_code 12 = .ok (.invokestatic 495, 3) := by decide +kernel
theorem d_Schar_15 : decode prog_24_method_56_code 15 = .ok (.ireturn, 1) := by decide +kernel
theorem d_Schar_16 : decode prog_24_method_56_code 16 = .ok (.aload_n 0, 1) := by decide +kernel
theorem d_Schar_17 : decode prog_24_method_56_code 17 = .ok (.getfield 9, 3) := by decide +kernel
theorem d_Schar_20 : decode prog_24_method_56_code 20 = .ok (.iload_n 1, 1) := by decide +kernel
theorem d_Schar_21 : decode prog_24_method_56_code 21 = .ok (.invokestatic 498, 3) := by decide +kernel
theorem d_Schar_24 : decode prog_24_method_56_code 24 = .ok (.ireturn, 1) := by decide +kernel
def y_Mfloor : MethodName := ⟨"java/lang/Math", "floorMod", "(II)I"⟩
def q_Mfloor : Room := { frames := 0, cells := 0, slots := 0, locals := 0 }
theorem jM_Mfloor : jMs y_Mfloor prog_22_method_50_code 3 (some .int) 2 := ⟨kj_1461, kj_27, kj_1462, ⟨by decide, by decide, by decide +kernel⟩⟩
theorem d_Mfloor_0 : decode prog_22_method_50_code 0 = .ok (.iload_n 0, 1) := by decide +kernel
theorem d_Mfloor_1 : decode prog_22_method_50_code 1 = .ok (.iload_n 1, 1) := by decide +kernel
theorem d_Mfloor_2 : decode prog_22_method_50_code 2 = .ok (.irem, 1) := by decide +kernel
theorem d_Mfloor_3 : decode prog_22_method_50_code 3 = .ok (.istore_n 2, 1) := by decide +kernel
theorem d_Mfloor_4 : decode prog_22_method_50_code 4 = .ok (.iload_n 0, 1) := by decide +kernel
theorem d_Mfloor_5 : decode prog_22_method_50_code 5 = .ok (.iload_n 1, 1) := by decide +kernel
theorem d_Mfloor_6 : decode prog_22_method_50_code 6 = .ok (.ixor, 1) := by decide +kernel
theorem d_Mfloor_7 : decode prog_22_method_50_code 7 = .ok (.ifCond .ge 11, 3) := by decide +kernel
theorem d_Mfloor_10 : decode prog_22_method_50_code 10 = .ok (.iload_n 2, 1) := by decide +kernel
theorem d_Mfloor_11 : decode prog_22_method_50_code 11 = .ok (.ifCond .eq 7, 3) := by decide +kernel
theorem d_Mfloor_14 : decode prog_22_method_50_code 14 = .ok (.iload_n 2, 1) := by decide +kernel
theorem d_Mfloor_15 : decode prog_22_method_50_code 15 = .ok (.iload_n 1, 1) := by decide +kernel
theorem d_Mfloor_16 : decode prog_22_method_50_code 16 = .ok (.iadd, 1) := by decide +kernel
theorem d_Mfloor_17 : decode prog_22_method_50_code 17 = .ok (.ireturn, 1) := by decide +kernel
theorem d_Mfloor_18 : decode prog_22_method_50_code 18 = .ok (.iload_n 2, 1) := by decide +kernel
theorem d_Mfloor_19 : decode prog_22_method_50_code 19 = .ok (.ireturn, 1) := by decide +kernel
theorem jxor_sign (u v : Int32) (hv : ¬ v < 0) : (u ^^^ v < 0 ↔ u < 0) := by
  have h0 : ∀ w : Int32, w < 0 ↔ w.toBitVec.msb = true := by
    intro w
    rw [Int32.lt_iff_toInt_lt]
    show w.toBitVec.toInt < (0 : Int32).toInt ↔ _
    rw [show (0 : Int32).toInt = 0 by decide, BitVec.toInt_neg_iff, BitVec.msb_eq_decide]
    simp
    omega
  rw [h0, h0]
  rw [h0] at hv
  have : (u ^^^ v).toBitVec = u.toBitVec ^^^ v.toBitVec := rfl
  rw [this, BitVec.msb_xor]
  simp only [Bool.not_eq_true] at hv
  rw [hv]
  simp
set_option maxHeartbeats 4000000 in
theorem m_Scoder {l : Launch} {Z : jE} {n : Nat} {C : jC} {q : Nat} (hq : q < 11) (hw : jWF n C) : jCi l y_Scoder prog_24_method_152_code 1 (.byte) q_Scoder Z n C [Value.ref (jsK Z q)] (fun r C9 => C9 = C ∧ r = 0) := by
  refine jCi_of (lv0 := [(0, Value.ref (jsK Z q))]) (by decide) (Nat.le_of_ble_eq_true rfl) rfl ?_
  intro p e s m args below meth c A sz X hAe hr hlocks
  refine jg_compact (pc := 0) X kj_509 d_Scoder_0 ?_
  refine jg_if_eq (tgt := 13) (T := False) (F := True) (pc := 3) X d_Scoder_3 (by decide) ⟨by decide, by decide⟩ (by rw [if_neg (by decide)]; trivial) (fun _ h => h.elim) (fun _ _ => ?_)
  refine jg_sload_n (pc := 6) X d_Scoder_6 0 rfl ?_
  refine jg_scoder (pc := 7) X hq kj_2071 d_Scoder_7 ?_
  refine jg_goto (tgt := 14) (pc := 10) X d_Scoder_10 (by decide) ?_
  exact jg_ireturn (pc := 14) X hAe hlocks hr d_Scoder_14 ⟨(Nat.le_of_ble_eq_true rfl), (Nat.le_of_ble_eq_true rfl)⟩ rfl ji_0 hw ⟨rfl, rfl⟩
set_option maxHeartbeats 4000000 in
theorem m_Slength {l : Launch} {Z : jE} {n : Nat} {C : jC} {q : Nat} (hq : q < 11) (hw : jWF n C) : jCi l y_Slength prog_24_method_54_code 1 (.int) q_Slength Z n C [Value.ref (jsK Z q)] (fun r C9 => C9 = C ∧ r = jSlen q) := by
  refine jCi_of (lv0 := [(0, Value.ref (jsK Z q))]) (by decide) (Nat.le_of_ble_eq_true rfl) rfl ?_
  intro p e s m args below meth c A sz X hAe hr hlocks
  refine jg_sload_n (pc := 0) X d_Slength_0 0 rfl ?_
  refine jg_svalue (pc := 1) X hq kj_2070 d_Slength_1 ?_
  refine jg_slen9 (pc := 4) X hq d_Slength_4 ?_
  refine jg_sload_n (pc := 5) X d_Slength_5 0 rfl ?_
  refine jg_scallVi (pc := 6) X hq (m_Scoder hq hw) jM_Scoder rfl kj_505 rfl rfl (Nat.le_of_ble_eq_true rfl) d_Slength_6 ⟨(Nat.le_of_ble_eq_true rfl), (Nat.le_of_ble_eq_true rfl)⟩ ⟨(Nat.le_of_ble_eq_true rfl), (Nat.le_of_ble_eq_true rfl)⟩ (fun x C2 r w2 h => ?_)
  obtain ⟨rfl, rfl⟩ := h
  refine jg_ishr (pc := 9) X d_Slength_9 ?_
  have e9 : jShr (jSlen q) 0 = jSlen q := by
    unfold jShr
    have e8 : Int32.ofInt (jSlen q) >>> (Int32.ofInt 0 &&& 31) = Int32.ofInt (jSlen q) := by
      match q, hq with
      | 0, _ | 1, _ | 2, _ | 3, _ | 4, _ | 5, _ | 6, _ | 7, _ | 8, _ | 9, _ | 10, _ => decide
    rw [e8, ji_toInt (jSlen_rng q)]
  rw [e9]
  exact jg_ireturn (pc := 10) X hAe hlocks hr d_Slength_10 ⟨(Nat.le_of_ble_eq_true rfl), (Nat.le_of_ble_eq_true rfl)⟩ rfl (jSlen_rng q) hw ⟨rfl, rfl⟩
set_option maxHeartbeats 4000000 in
theorem m_Slatin {l : Launch} {Z : jE} {n : Nat} {C : jC} {q : Nat} (hq : q < 11) (hw : jWF n C) : jCi l y_Slatin prog_24_method_154_code 1 (.boolean) q_Slatin Z n C [Value.ref (jsK Z q)] (fun r C9 => C9 = C ∧ r = 1) := by
  refine jCi_of (lv0 := [(0, Value.ref (jsK Z q))]) (by decide) (Nat.le_of_ble_eq_true rfl) rfl ?_
  intro p e s m args below meth c A sz X hAe hr hlocks
  refine jg_compact (pc := 0) X kj_509 d_Slatin_0 ?_
  refine jg_if_eq (tgt := 17) (T := False) (F := True) (pc := 3) X d_Slatin_3 (by decide) ⟨by decide, by decide⟩ (by rw [if_neg (by decide)]; trivial) (fun _ h => h.elim) (fun _ _ => ?_)
  refine jg_sload_n (pc := 6) X d_Slatin_6 0 rfl ?_
  refine jg_scoder (pc := 7) X hq kj_2071 d_Slatin_7 ?_
  refine jg_if_ne (tgt := 17) (T := True) (F := False) (pc := 10) X d_Slatin_10 (by decide) ji_0 (by rw [if_pos rfl]; trivial) (fun _ _ => ?_) (fun _ h => h.elim)
  refine jg_iconst (pc := 13) X d_Slatin_13 ?_
  refine jg_goto (tgt := 18) (pc := 14) X d_Slatin_14 (by decide) ?_
  exact jg_ireturn (pc := 18) X hAe hlocks hr d_Slatin_18 ⟨(Nat.le_of_ble_eq_true rfl), (Nat.le_of_ble_eq_true rfl)⟩ rfl ⟨by decide, by decide⟩ hw ⟨rfl, rfl⟩
set_option maxHeartbeats 4000000 in
theorem m_Pcheck {l : Launch} {Z : jE} {n : Nat} {C : jC} {i k : Int} {v : Value} (ri : jRng i) (rk : jRng k) (h0 : 0 ≤ i) (h1 : i < k) (hv : v = .null ∨ ∃ a, v = .ref a) (hw : jWF n C) : jCi l y_Pcheck prog_33_method_11_code 3 (.int) q_Pcheck Z n C [jI i, jI k, v] (fun r C9 => C9 = C) := by
  refine jCi_of (lv0 := lv_args 0 [jI i, jI k, v]) (by decide) (by rcases hv with rfl | ⟨a, rfl⟩ <;> exact Nat.le_of_ble_eq_true rfl) rfl ?_
  intro p e s m args below meth c A sz X hAe hr hlocks
  refine jg_iload_n (pc := 0) X d_Pcheck_0 0 rfl ?_
  refine jg_if_lt (tgt := 9) (T := False) (F := True) (pc := 1) X d_Pcheck_1 (by decide) ri (by rw [if_neg (by omega)]; trivial) (fun _ h => h.elim) (fun _ _ => ?_)
  refine jg_iload_n (pc := 4) X d_Pcheck_4 0 rfl ?_
  refine jg_iload_n (pc := 5) X d_Pcheck_5 1 rfl ?_
  refine jg_icmp_lt (tgt := 16) (T := True) (F := False) (pc := 6) X d_Pcheck_6 (by decide) ri rk (by rw [if_pos h1]; trivial) (fun _ _ => ?_) (fun _ h => h.elim)
  refine jg_iload_n (pc := 16) X d_Pcheck_16 0 rfl ?_
  exact jg_ireturn (pc := 17) X hAe hlocks hr d_Pcheck_17 ⟨(Nat.le_of_ble_eq_true rfl), (Nat.le_of_ble_eq_true rfl)⟩ rfl ri hw rfl
set_option maxHeartbeats 4000000 in
theorem m_Scheck {l : Launch} {Z : jE} {n : Nat} {C : jC} {i k : Int} (ri : jRng i) (rk : jRng k) (h0 : 0 ≤ i) (h1 : i < k) (hw : jWF n C) : jCv l y_Scheck prog_24_method_155_code 2 q_Scheck Z n C [jI i, jI k] (fun C9 => C9 = C) := by
  refine jCv_of (lv0 := [(0, jI i), (1, jI k)]) (by decide) (Nat.le_of_ble_eq_true rfl) rfl ?_
  intro p e s m args below meth c A sz X hAe hr hlocks
  refine jg_iload_n (pc := 0) X d_Scheck_0 0 rfl ?_
  refine jg_iload_n (pc := 1) X d_Scheck_1 1 rfl ?_
  refine jg_sioobe (pc := 2) X kj_525 d_Scheck_2 (fun v hv hv2 => ?_)
  refine jg_callSi (pc := 5) X (m_Pcheck ri rk h0 h1 hv2 hw) jM_Pcheck kj_527 rfl rfl (Nat.le_of_ble_eq_true rfl) d_Scheck_5 ⟨(Nat.le_of_ble_eq_true rfl), (Nat.le_of_ble_eq_true rfl)⟩ ⟨(Nat.le_of_ble_eq_true rfl), (Nat.le_of_ble_eq_true rfl)⟩ (fun x C2 r w2 h => ?_)
  obtain rfl := h
  refine jg_pop (pc := 8) X d_Scheck_8 rfl ?_
  exact jg_return (pc := 9) X hAe hlocks hr d_Scheck_9 ⟨(Nat.le_of_ble_eq_true rfl), (Nat.le_of_ble_eq_true rfl)⟩ hw rfl
theorem jch_ok : ((List.range 11).all (fun q => (List.range (jSl.getD q 0)).all (fun j => decide (((((jSb.getD q []).getD j 0) &&& 255).toUInt32 % 65536).toInt32 = (jSb.getD q []).getD j 0) && decide (narrow .char (.int ((jSb.getD q []).getD j 0)) = .int ((jSb.getD q []).getD j 0))))) = true := by decide +kernel
theorem jch_of {q : Nat} {i : Int} (hq : q < 11) (h0 : 0 ≤ i) (h1 : i < jSlen q) : (Int32.ofInt (jAnd (jSch q i) 255)).toUInt32 % 65536 = (Int32.ofInt (jSch q i)).toUInt32 ∧ narrow .char (jI (jSch q i)) = jI (jSch q i) := by
  have h2 : i < ((jSl.getD q 0 : Nat) : Int) := h1
  have h3 := List.all_eq_true.mp jch_ok q (List.mem_range.mpr hq)
  have h4 := List.all_eq_true.mp h3 i.toNat (List.mem_range.mpr (by omega))
  simp only [Bool.and_eq_true, decide_eq_true_eq] at h4
  have e9 : Int32.ofInt (jSch q i) = (jSb.getD q []).getD i.toNat 0 := ji_of _
  have e8 : Int32.ofInt (jAnd (jSch q i) 255) = (jSb.getD q []).getD i.toNat 0 &&& 255 := by
    unfold jAnd
    rw [ji_of, e9]; rfl
  refine ⟨?_, ?_⟩
  · rw [e8, e9]
    have := congrArg Int32.toUInt32 h4.1
    simpa using this
  · show narrow .char (.int (Int32.ofInt (jSch q i))) = .int (Int32.ofInt (jSch q i))
    rw [e9]; exact h4.2
set_option maxHeartbeats 4000000 in
theorem m_Lchar {l : Launch} {Z : jE} {n : Nat} {C : jC} {q : Nat} {i : Int} (hq : q < 11) (ri : jRng i) (h0 : 0 ≤ i) (h1 : i < jSlen q) (hw : jWF n C) : jCi l y_Lchar prog_25_method_2_code 2 (.char) q_Lchar Z n C [Value.ref (jsV Z q), jI i] (fun r C9 => C9 = C ∧ r = jSch q i) := by
  refine jCi_of (lv0 := [(0, Value.ref (jsV Z q)), (1, jI i)]) (by decide) (Nat.le_of_ble_eq_true rfl) rfl ?_
  intro p e s m args below meth c A sz X hAe hr hlocks
  refine jg_iload_n (pc := 0) X d_Lchar_0 1 rfl ?_
  refine jg_sload_n (pc := 1) X d_Lchar_1 0 rfl ?_
  refine jg_slen9 (pc := 2) X hq d_Lchar_2 ?_
  refine jg_callSv (pc := 3) X (m_Scheck ri (jSlen_rng q) h0 h1 hw) jM_Scheck kj_522 rfl rfl (Nat.le_of_ble_eq_true rfl) d_Lchar_3 ⟨(Nat.le_of_ble_eq_true rfl), (Nat.le_of_ble_eq_true rfl)⟩ ⟨(Nat.le_of_ble_eq_true rfl), (Nat.le_of_ble_eq_true rfl)⟩ (fun C2 w2 h => ?_)
  obtain rfl := h
  refine jg_sload_n (pc := 6) X d_Lchar_6 0 rfl ?_
  refine jg_iload_n (pc := 7) X d_Lchar_7 1 rfl ?_
  refine jg_sbyte (pc := 8) X hq h0 h1 d_Lchar_8 ?_
  refine jg_sipush (pc := 9) X d_Lchar_9 rfl ?_
  refine jg_iand (pc := 12) X d_Lchar_12 ?_
  obtain ⟨e1, e2⟩ := jch_of hq h0 h1
  intro H locs ls hP hD hS hl
  refine lv_i2c (v := Int32.ofInt (jSch q i)) X.1 X.2.1 d_Lchar_13 (by rw [e1]; simp) ?_
  exact jg_ireturn (pc := 14) X hAe hlocks hr d_Lchar_14 ⟨(Nat.le_of_ble_eq_true rfl), (Nat.le_of_ble_eq_true rfl)⟩ e2 (jSch_rng q i) hw ⟨rfl, rfl⟩ H locs ls hP hD hS hl
set_option maxHeartbeats 4000000 in
theorem m_Schar {l : Launch} {Z : jE} {n : Nat} {C : jC} {q : Nat} {i : Int} (hq : q < 11) (ri : jRng i) (h0 : 0 ≤ i) (h1 : i < jSlen q) (hw : jWF n C) : jCi l y_Schar prog_24_method_56_code 2 (.char) q_Schar Z n C [Value.ref (jsK Z q), jI i] (fun r C9 => C9 = C ∧ r = jSch q i) := by
  refine jCi_of (lv0 := [(0, Value.ref (jsK Z q)), (1, jI i)]) (by decide) (Nat.le_of_ble_eq_true rfl) rfl ?_
  intro p e s m args below meth c A sz X hAe hr hlocks
  refine jg_sload_n (pc := 0) X d_Schar_0 0 rfl ?_
  refine jg_scallVi (pc := 1) X hq (m_Slatin hq hw) jM_Slatin rfl kj_515 rfl rfl (Nat.le_of_ble_eq_true rfl) d_Schar_1 ⟨(Nat.le_of_ble_eq_true rfl), (Nat.le_of_ble_eq_true rfl)⟩ ⟨(Nat.le_of_ble_eq_true rfl), (Nat.le_of_ble_eq_true rfl)⟩ (fun x C2 r w2 h => ?_)
  obtain ⟨rfl, rfl⟩ := h
  refine jg_if_eq (tgt := 16) (T := False) (F := True) (pc := 4) X d_Schar_4 (by decide) ⟨by decide, by decide⟩ (by rw [if_neg (by decide)]; trivial) (fun _ h => h.elim) (fun _ _ => ?_)
  refine jg_sload_n (pc := 7) X d_Schar_7 0 rfl ?_
  refine jg_svalue (pc := 8) X hq kj_2070 d_Schar_8 ?_
  refine jg_iload_n (pc := 11) X d_Schar_11 1 rfl ?_
  refine jg_callSi (pc := 12) X (m_Lchar hq ri h0 h1 hw) jM_Lchar kj_519 rfl rfl (Nat.le_of_ble_eq_true rfl) d_Schar_12 ⟨(Nat.le_of_ble_eq_true rfl), (Nat.le_of_ble_eq_true rfl)⟩ ⟨(Nat.le_of_ble_eq_true rfl), (Nat.le_of_ble_eq_true rfl)⟩ (fun x C2 r w2 h => ?_)
  obtain ⟨rfl, rfl⟩ := h
  exact jg_ireturn (pc := 15) X hAe hlocks hr d_Schar_15 ⟨(Nat.le_of_ble_eq_true rfl), (Nat.le_of_ble_eq_true rfl)⟩ (jch_of hq h0 h1).2 (jSch_rng q i) hw ⟨rfl, rfl⟩
theorem Met_ofWF {l : Launch} {y : MethodName} {ws ws' : List Cond} {rm : Room} {Pc : Array Value → State → Prop} {Qc : Array Value → State → Outcome → State → Prop} {mc ms : Nat} {free : Addr → Prop} {cc : ByteArray} {maxL : Nat} {ret : Option FieldType}
    (hy : plainFor y = true) (hw : ws = Cond.code y cc maxL ret :: ws')
    (body : ∀ p e s m args below meth c s₁, BodyLoose p l y (headSpec ws rm) cc maxL ret e s m args below meth c s₁ → c.maxLocals = maxL → Pc args s →
      W p l e (headSpec ws rm).room s m args below meth c s.heap [] 0 0 (MQ below Qc args s mc ms free) (entryFrame m args maxL)) : Met l y ws rm Pc Qc mc ms free := by
  refine MetFree.of_bodySF (code := cc) (maxLocals := maxL) (ret := ret) hy ?_ ?_
  · intro args s m h hn
    obtain ⟨meth, c, h1, h2, h3, h4, h5, h6, -, -⟩ := Cond.code_spec hn (atoms_spec (ws := ws) h _ (by rw [hw]; exact List.mem_cons_self))
    exact ⟨meth, c, h1, h2, h3, h4, h5, h6⟩
  · intro p e s m args below meth c s₁ B hml hP _
    have hh0 : s₁.heap = s.heap := by rw [B.state]; rfl
    obtain ⟨t, a1, o, b1, b2, b3⟩ := body p e s m args below meth c s₁ B hml hP s₁ hh0 (Stand.of_body B)
    exact ⟨t, o, a1, b1, b2, ⟨b3.1, b3.2⟩⟩
theorem jCi_ofF {l : Launch} {y : MethodName} {bytes : ByteArray} {maxL n : Nat} {rt : FieldType} {rm : Room} {Z : jE} {C : jC} {avs : List Value} {post : Int → jC → Prop} {lv0 : List (Nat × Value)} (hy : plainFor y = true) (hlen : (lg_sl avs).length ≤ maxL) (hlv : lv_args 0 avs = lv0)
    (body : ∀ (p : Program) (e : Env) (s : State) (m : MethodId) (args : Array Value) (below : List Frame) (meth : Method) (c : Code) (A : Nat → Prop) (sz : Nat), jX p l s m args c bytes y.cls maxL Z A → A = jA Z n sz → meth.sig.returnType = some rt → meth.locks = false → jG p l e rm s m args below meth c maxL Z A (jws Z n C) 0 0 (MQ below (jQi Z n sz post) args s rm.cells rm.slots (jA Z n sz)) 0 lv0 []) : jCi l y bytes maxL rt rm Z n C avs post := by
  intro sz
  refine Met_ofWF (cc := bytes) (maxL := maxL) (ret := some rt) hy rfl ?_
  intro p e s m args below meth c s₁ B hml hv
  obtain ⟨rfl, hsz, hP, hK, hD0, hB⟩ := hv
  have hts := atoms_spec (ws := jW y bytes maxL (some rt)) B.pre
  rw [hsz] at hB
  have X : jX p l s m avs.toArray c bytes y.cls maxL Z (jA Z n sz) := ⟨B.exec, B.bytes, hml, findClass_of_methodNamed B.named, fun w hw => hts w (List.mem_cons_of_mem _ hw), hK, fun q hq => Or.inr (by rw [← hsz]; exact hq), hB⟩
  have hl := lv_entry avs (n := maxL) hlen
  rw [lg_entry_eq]
  rw [hlv] at hl
  exact body p e s m _ below meth c _ sz X rfl B.returns B.notSynchronized s.heap [] _ hP (jA_in hD0 (fun i hi => Or.inl ⟨i, hi, rfl⟩)) va_S.rf hl
set_option maxHeartbeats 4000000 in
theorem m_Mfloor {l : Launch} {Z : jE} {n : Nat} {C : jC} {x y : Int} (rx : jRng x) (hy0 : 0 < y) (hy : y < 2147483648) (hw : jWF n C) : jCi l y_Mfloor prog_22_method_50_code 3 (.int) q_Mfloor Z n C [jI x, jI y] (fun r C9 => C9 = C ∧ r = x % y) := by
  refine jCi_ofF (lv0 := [(0, jI x), (1, jI y)]) (by decide +kernel) (Nat.le_of_ble_eq_true rfl) rfl ?_
  intro p e s m args below meth c A sz X hAe hr hlocks
  have rm := jrng_tmod rx hy0 hy
  have ry : jRng y := ⟨by omega, hy⟩
  refine jg_iload_n (pc := 0) X d_Mfloor_0 0 rfl ?_
  refine jg_iload_n (pc := 1) X d_Mfloor_1 1 rfl ?_
  refine jg_irem (pc := 2) X d_Mfloor_2 rx hy0 hy ?_
  refine jg_istore_n (pc := 3) X [(2, jI (x.tmod y)), (0, jI x), (1, jI y)] d_Mfloor_3 (by decide) rfl ?_
  refine jg_iload_n (pc := 4) X d_Mfloor_4 1 rfl ?_
  refine jg_iload_n (pc := 5) X d_Mfloor_5 2 rfl ?_
  refine jg_ixor (pc := 6) X d_Mfloor_6 ?_
  rw [← ji_of (Int32.ofInt x ^^^ Int32.ofInt y)]
  have hsg : (Int32.ofInt x ^^^ Int32.ofInt y).toInt < 0 ↔ x < 0 := by
    have hx9 := ji_lt (x := x) (y := 0) rx ji_0
    have hy9 := ji_lt (x := y) (y := 0) ry ji_0
    have hz : (Int32.ofInt x ^^^ Int32.ofInt y) < 0 ↔ Int32.ofInt x < 0 := by
      have hyn : ¬ Int32.ofInt y < 0 := fun z => by
        have := hy9.mp z
        omega
      generalize Int32.ofInt x = u at *
      generalize Int32.ofInt y = v at *
      have : ∀ u v : Int32, ¬ v < 0 → (u ^^^ v < 0 ↔ u < 0) := by
        intro u v
        have := jxor_sign u v
        exact this
      exact this u v hyn
    rw [← hx9]
    rw [Int32.lt_iff_toInt_lt] at hz
    exact hz
  have hfm : x % y = if x.tmod y < 0 then x.tmod y + y else x.tmod y := by
    have h1 := Int.tmod_lt_of_pos x hy0
    by_cases hx0 : 0 ≤ x
    · have h2 := Int.tmod_nonneg (a := x) y hx0
      rw [if_neg (by omega), Int.tmod_eq_emod_of_nonneg hx0]
    · have h3 := Int.tmod_eq_emod (a := x) (b := y)
      have h4 := Int.emod_nonneg x (show y ≠ 0 by omega)
      have h5 := Int.emod_lt_of_pos x hy0
      split at h3 <;> split <;> omega
  by_cases hx0 : 0 ≤ x
  · refine jg_if_ge (tgt := 18) (T := True) (F := False) (pc := 7) X d_Mfloor_7 (by decide) (ji_rng _) (by rw [if_pos (by have := not_congr hsg; omega)]; trivial) (fun _ _ => ?_) (fun _ h => h.elim)
    refine jg_iload_n (pc := 18) X d_Mfloor_18 0 rfl ?_
    refine jg_ireturn (pc := 19) X hAe hlocks hr d_Mfloor_19 ⟨(Nat.le_of_ble_eq_true rfl), (Nat.le_of_ble_eq_true rfl)⟩ rfl rm hw ⟨rfl, ?_⟩
    have := Int.tmod_nonneg (a := x) y hx0
    rw [hfm, if_neg (by omega)]
  · refine jg_if_ge (tgt := 18) (T := False) (F := True) (pc := 7) X d_Mfloor_7 (by decide) (ji_rng _) (by rw [if_neg (by have := hsg.mpr (by omega); omega)]; trivial) (fun _ h => h.elim) (fun _ _ => ?_)
    refine jg_iload_n (pc := 10) X d_Mfloor_10 0 rfl ?_
    have hle : x.tmod y ≤ 0 := by
      have e : x.tmod y = -((-x).tmod y) := by rw [show x = -(-x) by omega, Int.neg_tmod]; simp
      have := Int.tmod_nonneg (a := -x) y (by omega)
      omega
    by_cases hz : x.tmod y = 0
    · refine jg_if_eq (tgt := 18) (T := True) (F := False) (pc := 11) X d_Mfloor_11 (by decide) rm (by rw [if_pos hz]; trivial) (fun _ _ => ?_) (fun _ h => h.elim)
      refine jg_iload_n (pc := 18) X d_Mfloor_18 0 rfl ?_
      refine jg_ireturn (pc := 19) X hAe hlocks hr d_Mfloor_19 ⟨(Nat.le_of_ble_eq_true rfl), (Nat.le_of_ble_eq_true rfl)⟩ rfl rm hw ⟨rfl, ?_⟩
      rw [hfm, if_neg (by omega)]
    · refine jg_if_eq (tgt := 18) (T := False) (F := True) (pc := 11) X d_Mfloor_11 (by decide) rm (by rw [if_neg hz]; trivial) (fun _ h => h.elim) (fun _ _ => ?_)
      refine jg_iload_n (pc := 14) X d_Mfloor_14 0 rfl ?_
      refine jg_iload_n (pc := 15) X d_Mfloor_15 2 rfl ?_
      refine jg_iadd (pc := 16) X d_Mfloor_16 ?_
      have h1 := Int.tmod_lt_of_pos x hy0
      have e9 : x.tmod y + y = x % y := by rw [hfm, if_pos (by omega)]
      rw [e9]
      refine jg_ireturn (pc := 17) X hAe hlocks hr d_Mfloor_17 ⟨(Nat.le_of_ble_eq_true rfl), (Nat.le_of_ble_eq_true rfl)⟩ rfl ?_ hw ⟨rfl, rfl⟩
      have := Int.emod_nonneg x (show y ≠ 0 by omega)
      have := Int.emod_lt_of_pos x hy0
      exact ⟨by omega, by omega⟩
section JDK2
variable {p : Program} {l : Launch} {e : Env} {R : Room} {s : State} {m : MethodId} {args : Array Value} {below : List Frame} {meth : Method} {c : Code} {cc : ByteArray} {own : String} {nL : Nat} {Z : jE} {A : Nat → Prop} {cells slots : Nat} {Q : State → Prop} {pc n : Nat} {lv : List (Nat × Value)} {st : List Value} {ws : va_W} {C : jC}
variable {y : MethodName} {bytes : ByteArray} {maxL np idx : Nat} {rt : FieldType} {ret : Option FieldType} {rm : Room} {avs rest : List Value}
theorem jg_strlen {q : Nat} (X : jX p l s m args c cc own nL Z A) (hq : q < 11) (hlink : Cond.methodLink own idx y_Slength ∈ jTB) (hd : decode cc pc = .ok (.invokevirtual idx, 3)) (hw : jWF n C) (hcat : (st.map fun v => v.category).sum ≤ 8) (hR : 2 ≤ R.frames ∧ 40 ≤ R.locals) (hC : cells ≤ R.cells ∧ slots ≤ R.slots) (kk : jG p l e R s m args below meth c nL Z A (jws Z n C) cells slots Q (pc + 3) lv (jI (jSlen q) :: st)) : jG p l e R s m args below meth c nL Z A (jws Z n C) cells slots Q pc lv (Value.ref (jsK Z q) :: st) := by
  refine jg_scallVi X hq (m_Slength hq hw) jM_Slength rfl hlink rfl rfl hcat hd ⟨hR.1, hR.2⟩ hC (fun x C2 r w2 h => ?_)
  obtain ⟨rfl, rfl⟩ := h
  exact kk
theorem jg_strchar {q : Nat} {i : Int} (X : jX p l s m args c cc own nL Z A) (hq : q < 11) (ri : jRng i) (h0 : 0 ≤ i) (h1 : i < jSlen q) (hlink : Cond.methodLink own idx y_Schar ∈ jTB) (hd : decode cc pc = .ok (.invokevirtual idx, 3)) (hw : jWF n C) (hcat : (st.map fun v => v.category).sum ≤ 8) (hR : 4 ≤ R.frames ∧ 85 ≤ R.locals) (hC : cells ≤ R.cells ∧ slots ≤ R.slots) (kk : jG p l e R s m args below meth c nL Z A (jws Z n C) cells slots Q (pc + 3) lv (jI (jSch q i) :: st)) : jG p l e R s m args below meth c nL Z A (jws Z n C) cells slots Q pc lv (jI i :: Value.ref (jsK Z q) :: st) := by
  refine jg_scallVi (avs := [jI i]) X hq (m_Schar hq ri h0 h1 hw) jM_Schar rfl hlink rfl rfl hcat hd ⟨hR.1, hR.2⟩ hC (fun x C2 r w2 h => ?_)
  obtain ⟨rfl, rfl⟩ := h
  exact kk
theorem jg_floorMod {x y : Int} (X : jX p l s m args c cc own nL Z A) (hlink : Cond.methodLink own idx y_Mfloor ∈ jTB) (hd : decode cc pc = .ok (.invokestatic idx, 3)) (hw : jWF n C) (rx : jRng x) (hy0 : 0 < y) (hy : y < 2147483648) (hcat : (st.map fun v => v.category).sum ≤ 8) (hR : 1 ≤ R.frames ∧ 22 ≤ R.locals) (hC : cells ≤ R.cells ∧ slots ≤ R.slots) (kk : jG p l e R s m args below meth c nL Z A (jws Z n C) cells slots Q (pc + 3) lv (jI (x % y) :: st)) : jG p l e R s m args below meth c nL Z A (jws Z n C) cells slots Q pc lv (jI y :: jI x :: st) := by
  refine jg_callSi (avs := [jI x, jI y]) X (m_Mfloor rx hy0 hy hw) jM_Mfloor hlink rfl rfl hcat hd ⟨hR.1, hR.2⟩ hC (fun x C2 r w2 h => ?_)
  obtain ⟨rfl, rfl⟩ := h
  exact kk
end JDK2

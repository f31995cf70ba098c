theorem jNest_of {w : Cond} {args : Array Value} {s : State} (h : jNestB w = true) (hz : w.before args s = true) : va_Nw w s := by
  cases w
  case arrayOver ty =>
    cases ty <;> first | exact hz | (simp [jNestB] at h)
  all_goals first | exact va_Nw.of rfl hz | (simp [jNestB] at h)
set_option maxHeartbeats 4000000 in
set_option maxRecDepth 100000 in
theorem law_X {p : Program} {s : State} {m : MethodId} {meth : Method} {c : Code} (l : Launch) (hflags : l.flags = flags0) {b L : Nat} {xs : Nat → Int32} (C0 : lw_At p s m meth c b L xs) : ∃ Z : jE, jX p l s m #[Value.ref b] c code "PrivateViewsLaw" 7 Z (fun q => s.heap.size ≤ q) ∧ jNcs s := by
  obtain ⟨hx, hb, hr, hml, hown, hts, hX, hbl, hlocks, hgv⟩ := C0
  have htb : ∀ w ∈ jTB, w.before #[Value.ref b] s = true := fun w hw => hts w (List.mem_filter.mp hw).1
  have hta : ∀ w ∈ tables_1, w.before #[Value.ref b] s = true := fun w hw => hts w (List.mem_append_right _ hw)
  have hg := flat_of_before _ hgv
  have hA : ∀ a : Nat, a < s.heap.size → ¬ (fun q => s.heap.size ≤ q) a := fun a h => Nat.not_le.mpr h
  obtain ⟨c0, i0, k0⟩ := u_known (C := jN0) (T := jF0) (N := 5) (n := 5) htb jin0 (hta (Cond.instantiable "PrivateViews$Edit" 5) (List.mem_of_getElem? (i := 230) (by decide +kernel)))
  obtain ⟨c1, i1, k1⟩ := u_known (C := jN1) (T := jF1) (N := 5) (n := 5) htb jin1 (hta (Cond.instantiable "PrivateViews$Filter" 5) (List.mem_of_getElem? (i := 84) (by decide +kernel)))
  obtain ⟨c2, i2, k2⟩ := u_known (C := jN2) (T := jF2) (N := 4) (n := 4) htb jin2 (hta (Cond.instantiable "PrivateViews$Lens" 4) (List.mem_of_getElem? (i := 77) (by decide +kernel)))
  obtain ⟨c3, i3, k3⟩ := u_known (C := jN3) (T := jF3) (N := 3) (n := 3) htb jin3 (hta (Cond.instantiable "PrivateViews$Log" 3) (List.mem_of_getElem? (i := 213) (by decide +kernel)))
  obtain ⟨c4, i4, k4⟩ := u_known (C := jN4) (T := jF4) (N := 7) (n := 7) htb jin4 (hta (Cond.instantiable "PrivateViews$Questions" 7) (List.mem_of_getElem? (i := 306) (by decide +kernel)))
  obtain ⟨c5, i5, k5⟩ := u_known (C := jN5) (T := jF5) (N := 7) (n := 7) htb jin5 (hta (Cond.instantiable "PrivateViews$Reader" 7) (List.mem_of_getElem? (i := 37) (by decide +kernel)))
  obtain ⟨c6, i6, k6⟩ := u_known (C := jN6) (T := jF6) (N := 2) (n := 2) htb jin6 (hta (Cond.instantiable "PrivateViews$RowList" 2) (List.mem_of_getElem? (i := 161) (by decide +kernel)))
  obtain ⟨c7, i7, k7⟩ := u_known (C := jN7) (T := jF7) (N := 8) (n := 8) htb jin7 (hta (Cond.instantiable "PrivateViews$Sheet" 8) (List.mem_of_getElem? (i := 155) (by decide +kernel)))
  obtain ⟨c8, i8, k8⟩ := u_known (C := jN8) (T := jF8) (N := 4) (n := 4) htb jin8 (hta (Cond.instantiable "PrivateViews$State" 4) (List.mem_of_getElem? (i := 149) (by decide +kernel)))
  obtain ⟨c9, i9, k9⟩ := u_known (C := jN9) (T := jF9) (N := 6) (n := 6) htb jin9 (hta (Cond.instantiable "PrivateViews$Texts" 6) (List.mem_of_getElem? (i := 71) (by decide +kernel)))
  obtain ⟨c10, i10, k10⟩ := u_known (C := jN10) (T := jF10) (N := 4) (n := 4) htb jin10 (hta (Cond.instantiable "PrivateViews$View" 4) (List.mem_of_getElem? (i := 256) (by decide +kernel)))
  obtain ⟨c11, i11, k11⟩ := u_known (C := jN11) (T := jF11) (N := 5) (n := 5) htb jin11 (hta (Cond.instantiable "PrivateViews" 5) (List.mem_of_getElem? (i := 29) (by decide +kernel)))
  obtain ⟨c12, i12, k12⟩ := u_known (C := jN12) (T := jF12) (N := 19) (n := 19) htb jin12 (hta (Cond.instantiable "PrivateViewsModel" 19) (List.mem_of_getElem? (i := 1468) (by decide +kernel)))
  obtain ⟨dC, dI, hKc⟩ : ∃ (dC : Nat → ClassId) (dI : Nat → Nat → Nat), ∀ (k : Nat) (q : vw_C), jcl[k]? = some q → u_Kn s q.1 q.2.1 q.2.2 (dC k) (dI k) := by
    refine ⟨fun k => match k with | 0 => c0 | 1 => c1 | 2 => c2 | 3 => c3 | 4 => c4 | 5 => c5 | 6 => c6 | 7 => c7 | 8 => c8 | 9 => c9 | 10 => c10 | 11 => c11 | _ => c12, fun k => match k with | 0 => i0 | 1 => i1 | 2 => i2 | 3 => i3 | 4 => i4 | 5 => i5 | 6 => i6 | 7 => i7 | 8 => i8 | 9 => i9 | 10 => i10 | 11 => i11 | _ => i12, ?_⟩
    intro k q hq
    match k, hq with
    | 0, hq => cases hq; exact k0
    | 1, hq => cases hq; exact k1
    | 2, hq => cases hq; exact k2
    | 3, hq => cases hq; exact k3
    | 4, hq => cases hq; exact k4
    | 5, hq => cases hq; exact k5
    | 6, hq => cases hq; exact k6
    | 7, hq => cases hq; exact k7
    | 8, hq => cases hq; exact k8
    | 9, hq => cases hq; exact k9
    | 10, hq => cases hq; exact k10
    | 11, hq => cases hq; exact k11
    | 12, hq => cases hq; exact k12
    | k + 13, hq => simp [jcl] at hq
  obtain ⟨a0, r0⟩ := st_int (hta (Cond.arrayClass .int) (List.mem_of_getElem? (i := 69) (by decide +kernel)))
  obtain ⟨a1, r1⟩ := st_byte (hta (Cond.arrayClass .byte) (List.mem_of_getElem? (i := 677) (by decide +kernel)))
  obtain ⟨a2, r2⟩ := st_long (hta (Cond.arrayClass .long) (List.mem_of_getElem? (i := 2048) (by decide +kernel)))
  obtain ⟨a3, r3⟩ := st_obj (hta (Cond.arrayOver (.object "PrivateViews$Filter")) (List.mem_of_getElem? (i := 83) (by decide +kernel)))
  obtain ⟨a4, r4⟩ := st_obj (hta (Cond.arrayOver (.object "PrivateViews$Edit")) (List.mem_of_getElem? (i := 266) (by decide +kernel)))
  obtain ⟨a5, r5⟩ := st_obj (hta (Cond.arrayOver (.object "PrivateViews$View")) (List.mem_of_getElem? (i := 211) (by decide +kernel)))
  obtain ⟨adK, adV, hSt, hev⟩ := vk_Sof (N := 11) (tm := jTm) (len := jSl) (byt := jSb) (A := fun q => s.heap.size ≤ q) (by decide) (st_ex hg) (st_co hg) (st_ar hg) (st_le hg) (st_el hg) (st_ne hg) hA
  refine ⟨((dC, dI), (fun k => match k with | 0 => a0 | 1 => a1 | 2 => a2 | 3 => a3 | 4 => a4 | _ => a5), (fun _ => 0), adK, adV), ⟨hx, hb, hml, hown, htb, ⟨hKc, fun k q hk => ?_⟩, fun _ h => h, ?_⟩, st_nc hg⟩
  · match k, hk with
    | 0, hk => cases hk; exact r0
    | 1, hk => cases hk; exact r1
    | 2, hk => cases hk; exact r2
    | 3, hk => cases hk; exact r3
    | 4, hk => cases hk; exact r4
    | 5, hk => cases hk; exact r5
    | k + 6, hk => simp [jtys] at hk
  · refine ⟨fun w hw => ?_, st_str hta hg hev, hSt, vx_Zqof (hta (Cond.laysStatic "java/lang/Throwable" "UNASSIGNED_STACK" "[Ljava/lang/StackTraceElement;") (List.mem_of_getElem? (i := 639) (by decide +kernel))) (hta (Cond.initialized "java/lang/Throwable") (List.mem_of_getElem? (i := 19) (by decide +kernel))) (hg _ (List.mem_of_getElem? (i := 9) (by decide +kernel))) hA, vx_Zqof (hta (Cond.laysStatic "java/lang/Throwable" "SUPPRESSED_SENTINEL" "Ljava/util/List;") (List.mem_of_getElem? (i := 641) (by decide +kernel))) (hta (Cond.initialized "java/lang/Throwable") (List.mem_of_getElem? (i := 19) (by decide +kernel))) (hg _ (List.mem_of_getElem? (i := 10) (by decide +kernel))) hA, va_Zof (hta (Cond.laysStatic "java/lang/String" "COMPACT_STRINGS" "Z") (List.mem_of_getElem? (i := 510) (by decide +kernel))) (hta (Cond.initialized "java/lang/String") (List.mem_of_getElem? (i := 15) (by decide +kernel))) (va_eqi (hg _ (List.mem_of_getElem? (i := 4) (by decide +kernel)))) hA, va_Zqof (hta (Cond.laysStatic "jdk/internal/util/Preconditions" "SIOOBE_FORMATTER" "Ljava/util/function/BiFunction;") (List.mem_of_getElem? (i := 526) (by decide +kernel))) (hta (Cond.initialized "jdk/internal/util/Preconditions") (List.mem_of_getElem? (i := 17) (by decide +kernel))) (hg _ (List.mem_of_getElem? (i := 5) (by decide +kernel))) hA, ?_⟩
    · obtain ⟨h1, h2⟩ := List.mem_filter.mp hw
      exact jNest_of h2 (hta w h1)
    · unfold Launch.stackTraces
      rw [hflags]
      decide

set_option maxHeartbeats 4000000 in
set_option maxRecDepth 100000 in
theorem m_12_told {l : Launch} {Z : jE} {n : Nat} {C : jC} {v1 : Int} {v2 : Int} {post : Int → jC → Prop} (rv1 : jRng v1) (rv2 : jRng v2) (hw0 : jWF n C) (h : wp_12_told v1 v2 C post) : jCi l y_12_told prog_14_method_112_code 4 (.int) q_12_told Z n C [jr Z 345, jI v1, jI v2] post := by
  have hn := hw0.2.2.1
  unfold wp_12_told at h
  refine jCi_of (lv0 := [(0, jr Z 345), (1, jI v1), (2, jI v2)]) (by decide) (Nat.le_of_ble_eq_true rfl) rfl ?_
  intro p e s m args below meth c A sz X hAe hr hlocks
  refine jg_aload_n (pc := 0) X d_12_told_0 0 rfl ?_
  refine jg_iconst (pc := 1) X d_12_told_1 ?_
  refine jgp_12_0 (pc := 2) X (jl_345_12 hn) kw_1473 d_12_told_2 ?_
  have w1 := jWF.u (k := 0) (v := 0) hw0 (jl_345_12 hn) (by decide) (⟨by decide, by decide⟩ : jRng 0)
  refine jg_aload_n (pc := 5) X d_12_told_5 0 rfl ?_
  refine jg_iload_n (pc := 6) X d_12_told_6 1 rfl ?_
  refine jg_pcallSi (pc := 7) X (m_12_noView rv1 w1 h) jM_12_noView kw_1705 rfl rfl (Nat.le_of_ble_eq_true rfl) d_12_told_7 ⟨(Nat.le_of_ble_eq_true rfl), (Nat.le_of_ble_eq_true rfl)⟩ ⟨(Nat.le_of_ble_eq_true rfl), (Nat.le_of_ble_eq_true rfl)⟩ (fun x2 r4 h => ?_)
  refine jg_iconst (pc := 10) X d_12_told_10 ?_
  refine jg_callVi (pc := 11) X (m_12_throwsIf r4 (⟨by decide, by decide⟩ : jRng 1) w1 h) jM_12_throwsIf kw_1697 (jl_345_12 hn) rfl rfl rfl rfl rfl (Nat.le_of_ble_eq_true rfl) d_12_told_11 ⟨(Nat.le_of_ble_eq_true rfl), (Nat.le_of_ble_eq_true rfl)⟩ ⟨(Nat.le_of_ble_eq_true rfl), (Nat.le_of_ble_eq_true rfl)⟩ (fun x6 C7 r8 w9 h => ?_)
  refine jg_if_eq (tgt := 19) (pc := 14) X d_12_told_14 (by decide) r8 h (fun c10 h => ?_) (fun c10 h => ?_)
  · refine jg_aload_n (pc := 19) X d_12_told_19 0 rfl ?_
    refine jg_iload_n (pc := 20) X d_12_told_20 1 rfl ?_
    refine jg_pcallSi (pc := 21) X (m_12_listOf rv1 w9 h) jM_12_listOf kw_1686 rfl rfl (Nat.le_of_ble_eq_true rfl) d_12_told_21 ⟨(Nat.le_of_ble_eq_true rfl), (Nat.le_of_ble_eq_true rfl)⟩ ⟨(Nat.le_of_ble_eq_true rfl), (Nat.le_of_ble_eq_true rfl)⟩ (fun x11 r13 h => ?_)
    refine jg_callVi (pc := 24) X (m_12_sortsTelling r13 w9 h) jM_12_sortsTelling kw_1972 (jl_345_12 hn) rfl rfl rfl rfl rfl (Nat.le_of_ble_eq_true rfl) d_12_told_24 ⟨(Nat.le_of_ble_eq_true rfl), (Nat.le_of_ble_eq_true rfl)⟩ ⟨(Nat.le_of_ble_eq_true rfl), (Nat.le_of_ble_eq_true rfl)⟩ (fun x15 C16 r17 w18 h => ?_)
    refine jg_istore_n (pc := 27) X [(3, jI x15), (0, jr Z 345), (1, jI v1), (2, jI v2)] d_12_told_27 (by decide) rfl ?_
    refine jg_iload_n (pc := 28) X d_12_told_28 3 rfl ?_
    refine jg_iconst (pc := 29) X d_12_told_29 ?_
    refine jg_icmp_ne (tgt := 37) (pc := 30) X d_12_told_30 (by decide) rv2 (⟨by decide, by decide⟩ : jRng (-1)) h (fun c19 h => ?_) (fun c19 h => ?_)
    · refine jg_iload_n (pc := 33) X d_12_told_33 0 rfl ?_
      refine jg_goto (tgt := 58) (pc := 34) X d_12_told_34 (by decide) ?_
      exact jg_ireturn (pc := 58) X hAe hlocks hr d_12_told_58 ⟨(Nat.le_of_ble_eq_true rfl), (Nat.le_of_ble_eq_true rfl)⟩ rfl r17 w18 h
    · refine jg_iload_n (pc := 37) X d_12_told_37 3 rfl ?_
      refine jg_iconst (pc := 38) X d_12_told_38 ?_
      refine jg_iload_n (pc := 39) X d_12_told_39 0 rfl ?_
      refine jg_iconst (pc := 40) X d_12_told_40 ?_
      refine jg_isub (pc := 41) X d_12_told_41 ?_
      obtain ⟨r20, h⟩ := h
      refine jg_pcallSi (pc := 42) X (m_12_in rv2 (⟨by decide, by decide⟩ : jRng 0) r20 w18 h) jM_12_in kw_1638 rfl rfl (Nat.le_of_ble_eq_true rfl) d_12_told_42 ⟨(Nat.le_of_ble_eq_true rfl), (Nat.le_of_ble_eq_true rfl)⟩ ⟨(Nat.le_of_ble_eq_true rfl), (Nat.le_of_ble_eq_true rfl)⟩ (fun x21 r23 h => ?_)
      refine jg_if_eq (tgt := 57) (pc := 45) X d_12_told_45 (by decide) r23 h (fun c25 h => ?_) (fun c25 h => ?_)
      · refine jg_iconst (pc := 57) X d_12_told_57 ?_
        exact jg_ireturn (pc := 58) X hAe hlocks hr d_12_told_58 ⟨(Nat.le_of_ble_eq_true rfl), (Nat.le_of_ble_eq_true rfl)⟩ rfl (⟨by decide, by decide⟩ : jRng (-1)) w18 h
      · refine jg_aload_n (pc := 48) X d_12_told_48 1 rfl ?_
        refine jgf_12_18 (pc := 49) X (jl_345_12 hn) kw_1491 d_12_told_49 ?_
        refine jg_iload_n (pc := 52) X d_12_told_52 3 rfl ?_
        obtain ⟨b26, b27, h⟩ := h
        refine jg_iaload (len := 2) (pc := 53) X d_12_told_53 (jl_355_1002 hn) (fun _ => rfl) (by decide) b26 b27 ?_
        refine jg_goto (tgt := 58) (pc := 54) X d_12_told_54 (by decide) ?_
        exact jg_ireturn (pc := 58) X hAe hlocks hr d_12_told_58 ⟨(Nat.le_of_ble_eq_true rfl), (Nat.le_of_ble_eq_true rfl)⟩ rfl (w18.1 _ _) w18 h
  · refine jg_iconst (pc := 17) X d_12_told_17 ?_
    exact jg_ireturn (pc := 18) X hAe hlocks hr d_12_told_18 ⟨(Nat.le_of_ble_eq_true rfl), (Nat.le_of_ble_eq_true rfl)⟩ rfl (⟨by decide, by decide⟩ : jRng 0) w9 h
set_option maxHeartbeats 4000000 in
set_option maxRecDepth 100000 in
theorem m_12_between {l : Launch} {Z : jE} {n : Nat} {C : jC} {v1 : Int} {v2 : Int} {v3 : Int} {post : Int → jC → Prop} (rv1 : jRng v1) (rv2 : jRng v2) (rv3 : jRng v3) (hw0 : jWF n C) (h : wp_12_between v1 v2 v3 C post) : jCi l y_12_between prog_14_method_113_code 9 (.int) q_12_between Z n C [jr Z 345, jI v1, jI v2, jI v3] post := by
  have hn := hw0.2.2.1
  unfold wp_12_between at h
  refine jCi_of (lv0 := [(0, jr Z 345), (1, jI v1), (2, jI v2), (3, jI v3)]) (by decide) (Nat.le_of_ble_eq_true rfl) rfl ?_
  intro p e s m args below meth c A sz X hAe hr hlocks
  have jb54 : ∀ (s0 : Int) (v1 : Int) (v2 : Int) (v3 : Int) (C : jC) (rs0 : jRng s0) (rv1 : jRng v1) (rv2 : jRng v2) (rv3 : jRng v3) (hw : jWF n C), wp_12_between_54 s0 v1 v2 v3 C post → jG p l e q_12_between s m args below meth c 9 Z A (jws Z n C) 0 0 (MQ below (jQi Z n sz post) args s q_12_between.cells q_12_between.slots (jA Z n sz)) 54 [(0, jr Z 345), (1, jI v1), (2, jI v2), (3, jI v3)] [jI s0, jr Z 345] := by
    intro s0 v1 v2 v3 C rs0 rv1 rv2 rv3 hw h
    unfold wp_12_between_54 at h
    refine jg_iconst (pc := 54) X d_12_between_54 ?_
    refine jg_callVi (pc := 55) X (m_12_throwsIf rs0 (⟨by decide, by decide⟩ : jRng 2) hw h) jM_12_throwsIf kw_1697 (jl_345_12 hn) rfl rfl rfl rfl rfl (Nat.le_of_ble_eq_true rfl) d_12_between_55 ⟨(Nat.le_of_ble_eq_true rfl), (Nat.le_of_ble_eq_true rfl)⟩ ⟨(Nat.le_of_ble_eq_true rfl), (Nat.le_of_ble_eq_true rfl)⟩ (fun x1 C2 r3 w4 h => ?_)
    refine jg_if_eq (tgt := 63) (pc := 58) X d_12_between_58 (by decide) r3 h (fun c5 h => ?_) (fun c5 h => ?_)
    · refine jg_iload_n (pc := 63) X d_12_between_63 1 rfl ?_
      refine jg_pcallSi (pc := 64) X (m_12_listOf rv1 w4 h) jM_12_listOf kw_1686 rfl rfl (Nat.le_of_ble_eq_true rfl) d_12_between_64 ⟨(Nat.le_of_ble_eq_true rfl), (Nat.le_of_ble_eq_true rfl)⟩ ⟨(Nat.le_of_ble_eq_true rfl), (Nat.le_of_ble_eq_true rfl)⟩ (fun x6 r8 h => ?_)
      refine jg_istore (pc := 67) X [(4, jI x6), (0, jr Z 345), (1, jI v1), (2, jI v2), (3, jI v3)] d_12_between_67 (by decide) rfl ?_
      refine jg_aload_n (pc := 69) X d_12_between_69 1 rfl ?_
      refine jg_sipush (pc := 70) X d_12_between_70 rfl ?_
      refine jg_aload_n (pc := 73) X d_12_between_73 1 rfl ?_
      refine jg_iload (pc := 74) X d_12_between_74 0 rfl ?_
      refine jg_iload_n (pc := 76) X d_12_between_76 3 rfl ?_
      refine jg_pcallVi (pc := 77) X (m_12_keyAt r8 rv2 w4 h) jM_12_keyAt kw_1766 (jl_345_12 hn) rfl rfl rfl rfl rfl (Nat.le_of_ble_eq_true rfl) d_12_between_77 ⟨(Nat.le_of_ble_eq_true rfl), (Nat.le_of_ble_eq_true rfl)⟩ ⟨(Nat.le_of_ble_eq_true rfl), (Nat.le_of_ble_eq_true rfl)⟩ (fun x10 r12 h => ?_)
      refine jg_pcallVi (pc := 80) X (m_12_placeIn (⟨by decide, by decide⟩ : jRng 273) r12 w4 h) jM_12_placeIn kw_1778 (jl_345_12 hn) rfl rfl rfl rfl rfl (Nat.le_of_ble_eq_true rfl) d_12_between_80 ⟨(Nat.le_of_ble_eq_true rfl), (Nat.le_of_ble_eq_true rfl)⟩ ⟨(Nat.le_of_ble_eq_true rfl), (Nat.le_of_ble_eq_true rfl)⟩ (fun x14 r16 h => ?_)
      refine jg_istore (pc := 83) X [(5, jI x14), (4, jI x6), (0, jr Z 345), (1, jI v1), (2, jI v2), (3, jI v3)] d_12_between_83 (by decide) rfl ?_
      refine jg_aload_n (pc := 85) X d_12_between_85 2 rfl ?_
      refine jg_sipush (pc := 86) X d_12_between_86 rfl ?_
      refine jg_aload_n (pc := 89) X d_12_between_89 2 rfl ?_
      refine jg_iload (pc := 90) X d_12_between_90 1 rfl ?_
      refine jg_iload_n (pc := 92) X d_12_between_92 5 rfl ?_
      refine jg_pcallVi (pc := 93) X (m_12_keyAt r8 rv3 w4 h) jM_12_keyAt kw_1766 (jl_345_12 hn) rfl rfl rfl rfl rfl (Nat.le_of_ble_eq_true rfl) d_12_between_93 ⟨(Nat.le_of_ble_eq_true rfl), (Nat.le_of_ble_eq_true rfl)⟩ ⟨(Nat.le_of_ble_eq_true rfl), (Nat.le_of_ble_eq_true rfl)⟩ (fun x18 r20 h => ?_)
      refine jg_pcallVi (pc := 96) X (m_12_placeIn (⟨by decide, by decide⟩ : jRng 273) r20 w4 h) jM_12_placeIn kw_1778 (jl_345_12 hn) rfl rfl rfl rfl rfl (Nat.le_of_ble_eq_true rfl) d_12_between_96 ⟨(Nat.le_of_ble_eq_true rfl), (Nat.le_of_ble_eq_true rfl)⟩ ⟨(Nat.le_of_ble_eq_true rfl), (Nat.le_of_ble_eq_true rfl)⟩ (fun x22 r24 h => ?_)
      refine jg_istore (pc := 99) X [(6, jI x22), (5, jI x14), (4, jI x6), (0, jr Z 345), (1, jI v1), (2, jI v2), (3, jI v3)] d_12_between_99 (by decide) rfl ?_
      refine jg_iconst (pc := 101) X d_12_between_101 ?_
      refine jg_istore (pc := 102) X [(7, jI 0), (6, jI x22), (5, jI x14), (4, jI x6), (0, jr Z 345), (1, jI v1), (2, jI v2), (3, jI v3)] d_12_between_102 (by decide) rfl ?_
      refine jg_iload (pc := 104) X d_12_between_104 2 rfl ?_
      refine jg_iload (pc := 106) X d_12_between_106 1 rfl ?_
      have r26 : jRng (min x14 x22) := jrng_min r16 r24
      refine jg_min (pc := 108) X kw_1819 d_12_between_108 kw_min1 kw_ma kw_min2 ⟨(Nat.le_of_ble_eq_true rfl), (Nat.le_of_ble_eq_true rfl), (Nat.le_of_ble_eq_true rfl), (Nat.le_of_ble_eq_true rfl)⟩ r16 r24 ?_
      refine jg_iconst (pc := 111) X d_12_between_111 ?_
      refine jg_iadd (pc := 112) X d_12_between_112 ?_
      refine jg_istore (pc := 113) X [(8, jI ((min x14 x22) + 1)), (7, jI 0), (6, jI x22), (5, jI x14), (4, jI x6), (0, jr Z 345), (1, jI v1), (2, jI v2), (3, jI v3)] d_12_between_113 (by decide) rfl ?_
      obtain ⟨r27, h⟩ := h
      have jl115 : ∀ (v4 : Int) (v5 : Int) (v6 : Int) (C : jC) (rv4 : jRng v4) (rv5 : jRng v5) (rv6 : jRng v6) (hw : jWF n C) (N : Nat) (v7 : Int) (v8 : Int) (rv7 : jRng v7) (rv8 : jRng v8), jI2 (wp_12_between_115 v4 v5 v6 C post) N v7 v8 → jG p l e q_12_between s m args below meth c 9 Z A (jws Z n C) 0 0 (MQ below (jQi Z n sz post) args s q_12_between.cells q_12_between.slots (jA Z n sz)) 115 [(0, jr Z 345), (4, jI v4), (5, jI v5), (6, jI v6), (7, jI v7), (8, jI v8)] [] := by
        intro v4 v5 v6 C rv4 rv5 rv6 hw N
        have hn := hw0.2.2.1
        induction N with
        | zero => intro v7 v8 rv7 rv8 h; exact h.elim
        | succ N ih115 =>
          intro v7 v8 rv7 rv8 h
          have h : wp_12_between_115 v4 v5 v6 C post (jI2 (wp_12_between_115 v4 v5 v6 C post) N) v7 v8 := h
          generalize jI2 (wp_12_between_115 v4 v5 v6 C post) N = k115 at h ih115
          unfold wp_12_between_115 at h
          refine jg_iload (pc := 115) X d_12_between_115 5 rfl ?_
          refine jg_iload (pc := 117) X d_12_between_117 2 rfl ?_
          refine jg_iload (pc := 119) X d_12_between_119 3 rfl ?_
          have r28 : jRng (max v5 v6) := jrng_max rv5 rv6
          refine jg_max (pc := 121) X kw_1867 d_12_between_121 kw_max1 kw_ma kw_max2 ⟨(Nat.le_of_ble_eq_true rfl), (Nat.le_of_ble_eq_true rfl), (Nat.le_of_ble_eq_true rfl), (Nat.le_of_ble_eq_true rfl)⟩ rv5 rv6 ?_
          refine jg_icmp_ge (tgt := 162) (pc := 124) X d_12_between_124 (by decide) rv8 r28 h (fun c29 h => ?_) (fun c29 h => ?_)
          · refine jg_iload (pc := 162) X d_12_between_162 4 rfl ?_
            exact jg_ireturn (pc := 164) X hAe hlocks hr d_12_between_164 ⟨(Nat.le_of_ble_eq_true rfl), (Nat.le_of_ble_eq_true rfl)⟩ rfl rv7 hw h
          · refine jg_iload (pc := 127) X d_12_between_127 4 rfl ?_
            refine jg_aload_n (pc := 129) X d_12_between_129 0 rfl ?_
            refine jg_iload (pc := 130) X d_12_between_130 1 rfl ?_
            refine jg_aload_n (pc := 132) X d_12_between_132 0 rfl ?_
            refine jg_sipush (pc := 133) X d_12_between_133 rfl ?_
            refine jg_iload (pc := 136) X d_12_between_136 5 rfl ?_
            refine jg_pcallVi (pc := 138) X (m_12_keyAt (⟨by decide, by decide⟩ : jRng 273) rv8 hw h) jM_12_keyAt kw_1766 (jl_345_12 hn) rfl rfl rfl rfl rfl (Nat.le_of_ble_eq_true rfl) d_12_between_138 ⟨(Nat.le_of_ble_eq_true rfl), (Nat.le_of_ble_eq_true rfl)⟩ ⟨(Nat.le_of_ble_eq_true rfl), (Nat.le_of_ble_eq_true rfl)⟩ (fun x30 r32 h => ?_)
            refine jg_pcallVi (pc := 141) X (m_12_placeIn rv4 r32 hw h) jM_12_placeIn kw_1778 (jl_345_12 hn) rfl rfl rfl rfl rfl (Nat.le_of_ble_eq_true rfl) d_12_between_141 ⟨(Nat.le_of_ble_eq_true rfl), (Nat.le_of_ble_eq_true rfl)⟩ ⟨(Nat.le_of_ble_eq_true rfl), (Nat.le_of_ble_eq_true rfl)⟩ (fun x34 r36 h => ?_)
            refine jg_iconst (pc := 144) X d_12_between_144 ?_
            refine jg_icmp_ne (tgt := 152) (pc := 145) X d_12_between_145 (by decide) r36 (⟨by decide, by decide⟩ : jRng (-1)) h (fun c38 h => ?_) (fun c38 h => ?_)
            · refine jg_iconst (pc := 148) X d_12_between_148 ?_
              refine jg_goto (tgt := 153) (pc := 149) X d_12_between_149 (by decide) ?_
              refine jg_iadd (pc := 153) X d_12_between_153 ?_
              refine jg_istore (pc := 154) X [(7, jI (v7 + 1)), (0, jr Z 345), (4, jI v4), (5, jI v5), (6, jI v6), (8, jI v8)] d_12_between_154 (by decide) rfl ?_
              refine jg_iinc (pc := 156) X [(8, jI (v8 + 1)), (7, jI (v7 + 1)), (0, jr Z 345), (4, jI v4), (5, jI v5), (6, jI v6)] d_12_between_156 5 rfl (by decide) rfl ?_
              refine jg_goto (tgt := 115) (pc := 159) X d_12_between_159 (by decide) ?_
              obtain ⟨r39, h⟩ := h
              have r40 : jRng (v8 + 1) := by (unfold jRng; exact ⟨by (have z0 : jRng v8 := rv8; have z1 : jRng (max v5 v6) := r28; unfold jRng at z0 z1; omega), by (have z0 : jRng v8 := rv8; have z1 : jRng (max v5 v6) := r28; unfold jRng at z0 z1; omega)⟩)
              refine jg_sub [2, 3, 4, 5, 1, 0] rfl ?_
              exact ih115 _ _ r39 r40 h
            · refine jg_iconst (pc := 152) X d_12_between_152 ?_
              refine jg_iadd (pc := 153) X d_12_between_153 ?_
              refine jg_istore (pc := 154) X [(7, jI (v7 + 0)), (0, jr Z 345), (4, jI v4), (5, jI v5), (6, jI v6), (8, jI v8)] d_12_between_154 (by decide) rfl ?_
              refine jg_iinc (pc := 156) X [(8, jI (v8 + 1)), (7, jI (v7 + 0)), (0, jr Z 345), (4, jI v4), (5, jI v5), (6, jI v6)] d_12_between_156 5 rfl (by decide) rfl ?_
              refine jg_goto (tgt := 115) (pc := 159) X d_12_between_159 (by decide) ?_
              have r41 : jRng (v7 + 0) := by (unfold jRng; exact ⟨by (have z0 : jRng v7 := rv7; unfold jRng at z0; omega), by (have z0 : jRng v7 := rv7; unfold jRng at z0; omega)⟩)
              have r42 : jRng (v8 + 1) := by (unfold jRng; exact ⟨by (have z0 : jRng v8 := rv8; have z1 : jRng (max v5 v6) := r28; unfold jRng at z0 z1; omega), by (have z0 : jRng v8 := rv8; have z1 : jRng (max v5 v6) := r28; unfold jRng at z0 z1; omega)⟩)
              refine jg_sub [2, 3, 4, 5, 1, 0] rfl ?_
              exact ih115 _ _ r41 r42 h
      obtain ⟨N, h⟩ := h
      refine jg_sub [5, 4, 3, 2, 1, 0] rfl ?_
      exact jl115 _ _ _ _ r8 r16 r24 w4 N _ _ (⟨by decide, by decide⟩ : jRng 0) r27 h
    · refine jg_iconst (pc := 61) X d_12_between_61 ?_
      exact jg_ireturn (pc := 62) X hAe hlocks hr d_12_between_62 ⟨(Nat.le_of_ble_eq_true rfl), (Nat.le_of_ble_eq_true rfl)⟩ rfl (⟨by decide, by decide⟩ : jRng 0) w4 h
  have jb31 : ∀ (v1 : Int) (v2 : Int) (v3 : Int) (C : jC) (rv1 : jRng v1) (rv2 : jRng v2) (rv3 : jRng v3) (hw : jWF n C), wp_12_between_31 v1 v2 v3 C post → jG p l e q_12_between s m args below meth c 9 Z A (jws Z n C) 0 0 (MQ below (jQi Z n sz post) args s q_12_between.cells q_12_between.slots (jA Z n sz)) 31 [(0, jr Z 345), (1, jI v1), (2, jI v2), (3, jI v3)] [jr Z 345] := by
    intro v1 v2 v3 C rv1 rv2 rv3 hw h
    unfold wp_12_between_31 at h
    refine jg_iconst (pc := 31) X d_12_between_31 ?_
    refine jg_goto (tgt := 36) (pc := 32) X d_12_between_32 (by decide) ?_
    refine jg_iconst (pc := 36) X d_12_between_36 ?_
    refine jg_callVi (pc := 37) X (m_12_throwsIf (⟨by decide, by decide⟩ : jRng 1) (⟨by decide, by decide⟩ : jRng 1) hw h) jM_12_throwsIf kw_1697 (jl_345_12 hn) rfl rfl rfl rfl rfl (Nat.le_of_ble_eq_true rfl) d_12_between_37 ⟨(Nat.le_of_ble_eq_true rfl), (Nat.le_of_ble_eq_true rfl)⟩ ⟨(Nat.le_of_ble_eq_true rfl), (Nat.le_of_ble_eq_true rfl)⟩ (fun x43 C44 r45 w46 h => ?_)
    refine jg_if_ne (tgt := 61) (pc := 40) X d_12_between_40 (by decide) r45 h (fun c47 h => ?_) (fun c47 h => ?_)
    · refine jg_aload_n (pc := 43) X d_12_between_43 0 rfl ?_
      refine jg_iload_n (pc := 44) X d_12_between_44 2 rfl ?_
      refine jg_iload_n (pc := 45) X d_12_between_45 3 rfl ?_
      refine jg_icmp_ne (tgt := 53) (pc := 46) X d_12_between_46 (by decide) rv2 rv3 h (fun c48 h => ?_) (fun c48 h => ?_)
      · refine jg_iconst (pc := 49) X d_12_between_49 ?_
        refine jg_goto (tgt := 54) (pc := 50) X d_12_between_50 (by decide) ?_
        refine jg_sub [0, 1, 2, 3] rfl ?_
        exact jb54 _ _ _ _ _ (⟨by decide, by decide⟩ : jRng 1) rv1 rv2 rv3 w46 h
      · refine jg_iconst (pc := 53) X d_12_between_53 ?_
        refine jg_sub [0, 1, 2, 3] rfl ?_
        exact jb54 _ _ _ _ _ (⟨by decide, by decide⟩ : jRng 0) rv1 rv2 rv3 w46 h
    · refine jg_iconst (pc := 61) X d_12_between_61 ?_
      exact jg_ireturn (pc := 62) X hAe hlocks hr d_12_between_62 ⟨(Nat.le_of_ble_eq_true rfl), (Nat.le_of_ble_eq_true rfl)⟩ rfl (⟨by decide, by decide⟩ : jRng 0) w46 h
  refine jg_aload_n (pc := 0) X d_12_between_0 0 rfl ?_
  refine jg_iconst (pc := 1) X d_12_between_1 ?_
  refine jgp_12_0 (pc := 2) X (jl_345_12 hn) kw_1473 d_12_between_2 ?_
  have w49 := jWF.u (k := 0) (v := 0) hw0 (jl_345_12 hn) (by decide) (⟨by decide, by decide⟩ : jRng 0)
  refine jg_aload_n (pc := 5) X d_12_between_5 0 rfl ?_
  refine jg_iload_n (pc := 6) X d_12_between_6 1 rfl ?_
  refine jg_pcallSi (pc := 7) X (m_12_noView rv1 w49 h) jM_12_noView kw_1705 rfl rfl (Nat.le_of_ble_eq_true rfl) d_12_between_7 ⟨(Nat.le_of_ble_eq_true rfl), (Nat.le_of_ble_eq_true rfl)⟩ ⟨(Nat.le_of_ble_eq_true rfl), (Nat.le_of_ble_eq_true rfl)⟩ (fun x50 r52 h => ?_)
  refine jg_if_ne (tgt := 31) (pc := 10) X d_12_between_10 (by decide) r52 h (fun c54 h => ?_) (fun c54 h => ?_)
  · refine jg_aload_n (pc := 13) X d_12_between_13 0 rfl ?_
    refine jg_iload_n (pc := 14) X d_12_between_14 1 rfl ?_
    refine jg_iload_n (pc := 15) X d_12_between_15 2 rfl ?_
    refine jg_pcallVi (pc := 16) X (m_12_noPlace rv1 rv2 w49 h) jM_12_noPlace kw_1794 (jl_345_12 hn) rfl rfl rfl rfl rfl (Nat.le_of_ble_eq_true rfl) d_12_between_16 ⟨(Nat.le_of_ble_eq_true rfl), (Nat.le_of_ble_eq_true rfl)⟩ ⟨(Nat.le_of_ble_eq_true rfl), (Nat.le_of_ble_eq_true rfl)⟩ (fun x55 r57 h => ?_)
    refine jg_if_ne (tgt := 31) (pc := 19) X d_12_between_19 (by decide) r57 h (fun c59 h => ?_) (fun c59 h => ?_)
    · refine jg_aload_n (pc := 22) X d_12_between_22 0 rfl ?_
      refine jg_iload_n (pc := 23) X d_12_between_23 1 rfl ?_
      refine jg_iload_n (pc := 24) X d_12_between_24 3 rfl ?_
      refine jg_pcallVi (pc := 25) X (m_12_noPlace rv1 rv3 w49 h) jM_12_noPlace kw_1794 (jl_345_12 hn) rfl rfl rfl rfl rfl (Nat.le_of_ble_eq_true rfl) d_12_between_25 ⟨(Nat.le_of_ble_eq_true rfl), (Nat.le_of_ble_eq_true rfl)⟩ ⟨(Nat.le_of_ble_eq_true rfl), (Nat.le_of_ble_eq_true rfl)⟩ (fun x60 r62 h => ?_)
      refine jg_if_eq (tgt := 35) (pc := 28) X d_12_between_28 (by decide) r62 h (fun c64 h => ?_) (fun c64 h => ?_)
      · refine jg_iconst (pc := 35) X d_12_between_35 ?_
        refine jg_iconst (pc := 36) X d_12_between_36 ?_
        refine jg_callVi (pc := 37) X (m_12_throwsIf (⟨by decide, by decide⟩ : jRng 0) (⟨by decide, by decide⟩ : jRng 1) w49 h) jM_12_throwsIf kw_1697 (jl_345_12 hn) rfl rfl rfl rfl rfl (Nat.le_of_ble_eq_true rfl) d_12_between_37 ⟨(Nat.le_of_ble_eq_true rfl), (Nat.le_of_ble_eq_true rfl)⟩ ⟨(Nat.le_of_ble_eq_true rfl), (Nat.le_of_ble_eq_true rfl)⟩ (fun x65 C66 r67 w68 h => ?_)
        refine jg_if_ne (tgt := 61) (pc := 40) X d_12_between_40 (by decide) r67 h (fun c69 h => ?_) (fun c69 h => ?_)
        · refine jg_aload_n (pc := 43) X d_12_between_43 0 rfl ?_
          refine jg_iload_n (pc := 44) X d_12_between_44 2 rfl ?_
          refine jg_iload_n (pc := 45) X d_12_between_45 3 rfl ?_
          refine jg_icmp_ne (tgt := 53) (pc := 46) X d_12_between_46 (by decide) rv2 rv3 h (fun c70 h => ?_) (fun c70 h => ?_)
          · refine jg_iconst (pc := 49) X d_12_between_49 ?_
            refine jg_goto (tgt := 54) (pc := 50) X d_12_between_50 (by decide) ?_
            refine jg_sub [0, 1, 2, 3] rfl ?_
            exact jb54 _ _ _ _ _ (⟨by decide, by decide⟩ : jRng 1) rv1 rv2 rv3 w68 h
          · refine jg_iconst (pc := 53) X d_12_between_53 ?_
            refine jg_sub [0, 1, 2, 3] rfl ?_
            exact jb54 _ _ _ _ _ (⟨by decide, by decide⟩ : jRng 0) rv1 rv2 rv3 w68 h
        · refine jg_iconst (pc := 61) X d_12_between_61 ?_
          exact jg_ireturn (pc := 62) X hAe hlocks hr d_12_between_62 ⟨(Nat.le_of_ble_eq_true rfl), (Nat.le_of_ble_eq_true rfl)⟩ rfl (⟨by decide, by decide⟩ : jRng 0) w68 h
      · refine jg_sub [0, 1, 2, 3] rfl ?_
        exact jb31 _ _ _ _ rv1 rv2 rv3 w49 h
    · refine jg_sub [0, 1, 2, 3] rfl ?_
      exact jb31 _ _ _ _ rv1 rv2 rv3 w49 h
  · refine jg_sub [0, 1, 2, 3] rfl ?_
    exact jb31 _ _ _ _ rv1 rv2 rv3 w49 h
set_option maxHeartbeats 4000000 in
set_option maxRecDepth 100000 in
theorem m_12_sum {l : Launch} {Z : jE} {n : Nat} {C : jC} {v1 : Int} {v2 : Int} {post : Int → jC → Prop} (rv1 : jRng v1) (rv2 : jRng v2) (hw0 : jWF n C) (h : wp_12_sum v1 v2 C post) : jCi l y_12_sum prog_14_method_115_code 5 (.int) q_12_sum Z n C [jr Z 345, jI v1, jI v2] post := by
  have hn := hw0.2.2.1
  unfold wp_12_sum at h
  refine jCi_of (lv0 := [(0, jr Z 345), (1, jI v1), (2, jI v2)]) (by decide) (Nat.le_of_ble_eq_true rfl) rfl ?_
  intro p e s m args below meth c A sz X hAe hr hlocks
  have jb26 : ∀ (s0 : Int) (v1 : Int) (v2 : Int) (C : jC) (rs0 : jRng s0) (rv1 : jRng v1) (rv2 : jRng v2) (hw : jWF n C), wp_12_sum_26 s0 v1 v2 C post → jG p l e q_12_sum s m args below meth c 5 Z A (jws Z n C) 0 0 (MQ below (jQi Z n sz post) args s q_12_sum.cells q_12_sum.slots (jA Z n sz)) 26 [(0, jr Z 345), (1, jI v1), (2, jI v2)] [jI s0, jr Z 345] := by
    intro s0 v1 v2 C rs0 rv1 rv2 hw h
    unfold wp_12_sum_26 at h
    refine jg_iconst (pc := 26) X d_12_sum_26 ?_
    refine jg_callVi (pc := 27) X (m_12_throwsIf rs0 (⟨by decide, by decide⟩ : jRng 1) hw h) jM_12_throwsIf kw_1697 (jl_345_12 hn) rfl rfl rfl rfl rfl (Nat.le_of_ble_eq_true rfl) d_12_sum_27 ⟨(Nat.le_of_ble_eq_true rfl), (Nat.le_of_ble_eq_true rfl)⟩ ⟨(Nat.le_of_ble_eq_true rfl), (Nat.le_of_ble_eq_true rfl)⟩ (fun x1 C2 r3 w4 h => ?_)
    refine jg_if_ne (tgt := 46) (pc := 30) X d_12_sum_30 (by decide) r3 h (fun c5 h => ?_) (fun c5 h => ?_)
    · refine jg_aload_n (pc := 33) X d_12_sum_33 0 rfl ?_
      refine jg_aload_n (pc := 34) X d_12_sum_34 0 rfl ?_
      refine jg_iload_n (pc := 35) X d_12_sum_35 2 rfl ?_
      refine jg_pcallVi (pc := 36) X (m_12_isWords rv2 w4 h) jM_12_isWords kw_1626 (jl_345_12 hn) rfl rfl rfl rfl rfl (Nat.le_of_ble_eq_true rfl) d_12_sum_36 ⟨(Nat.le_of_ble_eq_true rfl), (Nat.le_of_ble_eq_true rfl)⟩ ⟨(Nat.le_of_ble_eq_true rfl), (Nat.le_of_ble_eq_true rfl)⟩ (fun x6 r8 h => ?_)
      refine jg_iconst (pc := 39) X d_12_sum_39 ?_
      refine jg_callVi (pc := 40) X (m_12_throwsIf r8 (⟨by decide, by decide⟩ : jRng 2) w4 h) jM_12_throwsIf kw_1697 (jl_345_12 hn) rfl rfl rfl rfl rfl (Nat.le_of_ble_eq_true rfl) d_12_sum_40 ⟨(Nat.le_of_ble_eq_true rfl), (Nat.le_of_ble_eq_true rfl)⟩ ⟨(Nat.le_of_ble_eq_true rfl), (Nat.le_of_ble_eq_true rfl)⟩ (fun x10 C11 r12 w13 h => ?_)
      refine jg_if_eq (tgt := 48) (pc := 43) X d_12_sum_43 (by decide) r12 h (fun c14 h => ?_) (fun c14 h => ?_)
      · refine jg_iconst (pc := 48) X d_12_sum_48 ?_
        refine jg_istore_n (pc := 49) X [(3, jI 0), (0, jr Z 345), (1, jI v1), (2, jI v2)] d_12_sum_49 (by decide) rfl ?_
        refine jg_iconst (pc := 50) X d_12_sum_50 ?_
        refine jg_istore (pc := 51) X [(4, jI 0), (3, jI 0), (0, jr Z 345), (1, jI v1), (2, jI v2)] d_12_sum_51 (by decide) rfl ?_
        have jl53 : ∀ (C : jC) (hw : jWF n C) (N : Nat) (v3 : Int) (v4 : Int) (rv3 : jRng v3) (rv4 : jRng v4), jI2 (wp_12_sum_53 v1 v2 C post) N v3 v4 → jG p l e q_12_sum s m args below meth c 5 Z A (jws Z n C) 0 0 (MQ below (jQi Z n sz post) args s q_12_sum.cells q_12_sum.slots (jA Z n sz)) 53 [(0, jr Z 345), (1, jI v1), (2, jI v2), (3, jI v3), (4, jI v4)] [] := by
          intro C hw N
          have hn := hw0.2.2.1
          induction N with
          | zero => intro v3 v4 rv3 rv4 h; exact h.elim
          | succ N ih53 =>
            intro v3 v4 rv3 rv4 h
            have h : wp_12_sum_53 v1 v2 C post (jI2 (wp_12_sum_53 v1 v2 C post) N) v3 v4 := h
            generalize jI2 (wp_12_sum_53 v1 v2 C post) N = k53 at h ih53
            unfold wp_12_sum_53 at h
            refine jg_iload (pc := 53) X d_12_sum_53 4 rfl ?_
            refine jg_aload_n (pc := 55) X d_12_sum_55 0 rfl ?_
            refine jg_iload_n (pc := 56) X d_12_sum_56 1 rfl ?_
            refine jg_pcallSi (pc := 57) X (m_12_listOf rv1 hw h) jM_12_listOf kw_1686 rfl rfl (Nat.le_of_ble_eq_true rfl) d_12_sum_57 ⟨(Nat.le_of_ble_eq_true rfl), (Nat.le_of_ble_eq_true rfl)⟩ ⟨(Nat.le_of_ble_eq_true rfl), (Nat.le_of_ble_eq_true rfl)⟩ (fun x15 r17 h => ?_)
            refine jg_pcallVi (pc := 60) X (m_12_size r17 hw h) jM_12_size kw_1609 (jl_345_12 hn) rfl rfl rfl rfl rfl (Nat.le_of_ble_eq_true rfl) d_12_sum_60 ⟨(Nat.le_of_ble_eq_true rfl), (Nat.le_of_ble_eq_true rfl)⟩ ⟨(Nat.le_of_ble_eq_true rfl), (Nat.le_of_ble_eq_true rfl)⟩ (fun x19 r21 h => ?_)
            refine jg_icmp_ge (tgt := 100) (pc := 63) X d_12_sum_63 (by decide) rv4 r21 h (fun c23 h => ?_) (fun c23 h => ?_)
            · refine jg_iload_n (pc := 100) X d_12_sum_100 3 rfl ?_
              exact jg_ireturn (pc := 101) X hAe hlocks hr d_12_sum_101 ⟨(Nat.le_of_ble_eq_true rfl), (Nat.le_of_ble_eq_true rfl)⟩ rfl rv3 hw h
            · refine jg_iload_n (pc := 66) X d_12_sum_66 3 rfl ?_
              refine jg_aload_n (pc := 67) X d_12_sum_67 0 rfl ?_
              refine jg_iload_n (pc := 68) X d_12_sum_68 1 rfl ?_
              refine jg_iload (pc := 69) X d_12_sum_69 4 rfl ?_
              refine jg_iload_n (pc := 71) X d_12_sum_71 2 rfl ?_
              refine jg_pcallVi (pc := 72) X (m_12_valueAt rv1 rv4 rv2 hw h) jM_12_valueAt kw_1843 (jl_345_12 hn) rfl rfl rfl rfl rfl (Nat.le_of_ble_eq_true rfl) d_12_sum_72 ⟨(Nat.le_of_ble_eq_true rfl), (Nat.le_of_ble_eq_true rfl)⟩ ⟨(Nat.le_of_ble_eq_true rfl), (Nat.le_of_ble_eq_true rfl)⟩ (fun x24 r26 h => ?_)
              refine jg_ldk (pc := 75) (-1000000) X kw_1617 (by decide) d_12_sum_75 ?_
              refine jg_icmp_ne (tgt := 84) (pc := 77) X d_12_sum_77 (by decide) r26 (⟨by decide, by decide⟩ : jRng (-1000000)) h (fun c28 h => ?_) (fun c28 h => ?_)
              · refine jg_iconst (pc := 80) X d_12_sum_80 ?_
                refine jg_goto (tgt := 92) (pc := 81) X d_12_sum_81 (by decide) ?_
                refine jg_iadd (pc := 92) X d_12_sum_92 ?_
                refine jg_istore_n (pc := 93) X [(3, jI (v3 + 0)), (0, jr Z 345), (1, jI v1), (2, jI v2), (4, jI v4)] d_12_sum_93 (by decide) rfl ?_
                refine jg_iinc (pc := 94) X [(4, jI (v4 + 1)), (3, jI (v3 + 0)), (0, jr Z 345), (1, jI v1), (2, jI v2)] d_12_sum_94 4 rfl (by decide) rfl ?_
                refine jg_goto (tgt := 53) (pc := 97) X d_12_sum_97 (by decide) ?_
                have r29 : jRng (v3 + 0) := by (unfold jRng; exact ⟨by (have z0 : jRng v3 := rv3; unfold jRng at z0; omega), by (have z0 : jRng v3 := rv3; unfold jRng at z0; omega)⟩)
                have r30 : jRng (v4 + 1) := by (unfold jRng; exact ⟨by (have z0 : jRng v4 := rv4; have z1 : jRng x19 := r21; unfold jRng at z0 z1; omega), by (have z0 : jRng v4 := rv4; have z1 : jRng x19 := r21; unfold jRng at z0 z1; omega)⟩)
                refine jg_sub [2, 3, 4, 1, 0] rfl ?_
                exact ih53 _ _ r29 r30 h
              · refine jg_aload_n (pc := 84) X d_12_sum_84 0 rfl ?_
                refine jg_iload_n (pc := 85) X d_12_sum_85 1 rfl ?_
                refine jg_iload (pc := 86) X d_12_sum_86 4 rfl ?_
                refine jg_iload_n (pc := 88) X d_12_sum_88 2 rfl ?_
                refine jg_pcallVi (pc := 89) X (m_12_valueAt rv1 rv4 rv2 hw h) jM_12_valueAt kw_1843 (jl_345_12 hn) rfl rfl rfl rfl rfl (Nat.le_of_ble_eq_true rfl) d_12_sum_89 ⟨(Nat.le_of_ble_eq_true rfl), (Nat.le_of_ble_eq_true rfl)⟩ ⟨(Nat.le_of_ble_eq_true rfl), (Nat.le_of_ble_eq_true rfl)⟩ (fun x31 r33 h => ?_)
                refine jg_iadd (pc := 92) X d_12_sum_92 ?_
                refine jg_istore_n (pc := 93) X [(3, jI (v3 + x31)), (0, jr Z 345), (1, jI v1), (2, jI v2), (4, jI v4)] d_12_sum_93 (by decide) rfl ?_
                refine jg_iinc (pc := 94) X [(4, jI (v4 + 1)), (3, jI (v3 + x31)), (0, jr Z 345), (1, jI v1), (2, jI v2)] d_12_sum_94 4 rfl (by decide) rfl ?_
                refine jg_goto (tgt := 53) (pc := 97) X d_12_sum_97 (by decide) ?_
                obtain ⟨r35, h⟩ := h
                have r36 : jRng (v4 + 1) := by (unfold jRng; exact ⟨by (have z0 : jRng v4 := rv4; have z1 : jRng x19 := r21; unfold jRng at z0 z1; omega), by (have z0 : jRng v4 := rv4; have z1 : jRng x19 := r21; unfold jRng at z0 z1; omega)⟩)
                refine jg_sub [2, 3, 4, 1, 0] rfl ?_
                exact ih53 _ _ r35 r36 h
        obtain ⟨N, h⟩ := h
        refine jg_sub [2, 3, 4, 1, 0] rfl ?_
        exact jl53 _ w13 N _ _ (⟨by decide, by decide⟩ : jRng 0) (⟨by decide, by decide⟩ : jRng 0) h
      · refine jg_iconst (pc := 46) X d_12_sum_46 ?_
        exact jg_ireturn (pc := 47) X hAe hlocks hr d_12_sum_47 ⟨(Nat.le_of_ble_eq_true rfl), (Nat.le_of_ble_eq_true rfl)⟩ rfl (⟨by decide, by decide⟩ : jRng 0) w13 h
    · refine jg_iconst (pc := 46) X d_12_sum_46 ?_
      exact jg_ireturn (pc := 47) X hAe hlocks hr d_12_sum_47 ⟨(Nat.le_of_ble_eq_true rfl), (Nat.le_of_ble_eq_true rfl)⟩ rfl (⟨by decide, by decide⟩ : jRng 0) w4 h
  refine jg_aload_n (pc := 0) X d_12_sum_0 0 rfl ?_
  refine jg_iconst (pc := 1) X d_12_sum_1 ?_
  refine jgp_12_0 (pc := 2) X (jl_345_12 hn) kw_1473 d_12_sum_2 ?_
  have w37 := jWF.u (k := 0) (v := 0) hw0 (jl_345_12 hn) (by decide) (⟨by decide, by decide⟩ : jRng 0)
  refine jg_aload_n (pc := 5) X d_12_sum_5 0 rfl ?_
  refine jg_iload_n (pc := 6) X d_12_sum_6 1 rfl ?_
  refine jg_pcallSi (pc := 7) X (m_12_noView rv1 w37 h) jM_12_noView kw_1705 rfl rfl (Nat.le_of_ble_eq_true rfl) d_12_sum_7 ⟨(Nat.le_of_ble_eq_true rfl), (Nat.le_of_ble_eq_true rfl)⟩ ⟨(Nat.le_of_ble_eq_true rfl), (Nat.le_of_ble_eq_true rfl)⟩ (fun x38 r40 h => ?_)
  refine jg_if_ne (tgt := 21) (pc := 10) X d_12_sum_10 (by decide) r40 h (fun c42 h => ?_) (fun c42 h => ?_)
  · refine jg_aload_n (pc := 13) X d_12_sum_13 0 rfl ?_
    refine jg_iload_n (pc := 14) X d_12_sum_14 2 rfl ?_
    refine jg_pcallVi (pc := 15) X (m_12_noColumn rv2 w37 h) jM_12_noColumn kw_1798 (jl_345_12 hn) rfl rfl rfl rfl rfl (Nat.le_of_ble_eq_true rfl) d_12_sum_15 ⟨(Nat.le_of_ble_eq_true rfl), (Nat.le_of_ble_eq_true rfl)⟩ ⟨(Nat.le_of_ble_eq_true rfl), (Nat.le_of_ble_eq_true rfl)⟩ (fun x43 r45 h => ?_)
    refine jg_if_eq (tgt := 25) (pc := 18) X d_12_sum_18 (by decide) r45 h (fun c47 h => ?_) (fun c47 h => ?_)
    · refine jg_iconst (pc := 25) X d_12_sum_25 ?_
      refine jg_sub [0, 1, 2] rfl ?_
      exact jb26 _ _ _ _ (⟨by decide, by decide⟩ : jRng 0) rv1 rv2 w37 h
    · refine jg_iconst (pc := 21) X d_12_sum_21 ?_
      refine jg_goto (tgt := 26) (pc := 22) X d_12_sum_22 (by decide) ?_
      refine jg_sub [0, 1, 2] rfl ?_
      exact jb26 _ _ _ _ (⟨by decide, by decide⟩ : jRng 1) rv1 rv2 w37 h
  · refine jg_iconst (pc := 21) X d_12_sum_21 ?_
    refine jg_goto (tgt := 26) (pc := 22) X d_12_sum_22 (by decide) ?_
    refine jg_sub [0, 1, 2] rfl ?_
    exact jb26 _ _ _ _ (⟨by decide, by decide⟩ : jRng 1) rv1 rv2 w37 h
set_option maxHeartbeats 4000000 in
set_option maxRecDepth 100000 in
theorem m_12_firstPlace {l : Launch} {Z : jE} {n : Nat} {C : jC} {v1 : Int} {v2 : Int} {v3 : Int} {v4 : Int} {post : Int → Prop} (rv1 : jRng v1) (rv2 : jRng v2) (rv3 : jRng v3) (rv4 : jRng v4) (hw0 : jWF n C) (h : wp_12_firstPlace v1 v2 v3 v4 C post) : jCi l y_12_firstPlace prog_14_method_116_code 6 (.int) q_12_firstPlace Z n C [jr Z 345, jI v1, jI v2, jI v3, jI v4] (fun x C9 => C9 = C ∧ post x) := by
  have hn := hw0.2.2.1
  unfold wp_12_firstPlace at h
  refine jCi_of (lv0 := [(0, jr Z 345), (1, jI v1), (2, jI v2), (3, jI v3), (4, jI v4)]) (by decide) (Nat.le_of_ble_eq_true rfl) rfl ?_
  intro p e s m args below meth c A sz X hAe hr hlocks
  refine jg_iload (pc := 0) X d_12_firstPlace_0 4 rfl ?_
  refine jg_istore (pc := 2) X [(5, jI v4), (0, jr Z 345), (1, jI v1), (2, jI v2), (3, jI v3), (4, jI v4)] d_12_firstPlace_2 (by decide) rfl ?_
  have hw : jWF n C := hw0
  have jl4 : ∀  (N : Nat) (v5 : Int) (rv5 : jRng v5), jI1 (wp_12_firstPlace_4 v1 v2 v3 C post) N v5 → jG p l e q_12_firstPlace s m args below meth c 6 Z A (jws Z n C) 0 0 (MQ below (jQi Z n sz (fun x C9 => C9 = C ∧ post x)) args s q_12_firstPlace.cells q_12_firstPlace.slots (jA Z n sz)) 4 [(0, jr Z 345), (1, jI v1), (2, jI v2), (3, jI v3), (5, jI v5)] [] := by
    intro   N
    have hn := hw0.2.2.1
    induction N with
    | zero => intro v5 rv5 h; exact h.elim
    | succ N ih4 =>
      intro v5 rv5 h
      have h : wp_12_firstPlace_4 v1 v2 v3 C post (jI1 (wp_12_firstPlace_4 v1 v2 v3 C post) N) v5 := h
      generalize jI1 (wp_12_firstPlace_4 v1 v2 v3 C post) N = k4 at h ih4
      unfold wp_12_firstPlace_4 at h
      refine jg_iload (pc := 4) X d_12_firstPlace_4 4 rfl ?_
      refine jg_aload_n (pc := 6) X d_12_firstPlace_6 0 rfl ?_
      refine jg_iload_n (pc := 7) X d_12_firstPlace_7 1 rfl ?_
      refine jg_pcallSi (pc := 8) X (m_12_listOf rv1 hw h) jM_12_listOf kw_1686 rfl rfl (Nat.le_of_ble_eq_true rfl) d_12_firstPlace_8 ⟨(Nat.le_of_ble_eq_true rfl), (Nat.le_of_ble_eq_true rfl)⟩ ⟨(Nat.le_of_ble_eq_true rfl), (Nat.le_of_ble_eq_true rfl)⟩ (fun x1 r3 h => ?_)
      refine jg_pcallVi (pc := 11) X (m_12_size r3 hw h) jM_12_size kw_1609 (jl_345_12 hn) rfl rfl rfl rfl rfl (Nat.le_of_ble_eq_true rfl) d_12_firstPlace_11 ⟨(Nat.le_of_ble_eq_true rfl), (Nat.le_of_ble_eq_true rfl)⟩ ⟨(Nat.le_of_ble_eq_true rfl), (Nat.le_of_ble_eq_true rfl)⟩ (fun x5 r7 h => ?_)
      refine jg_icmp_ge (tgt := 35) (pc := 14) X d_12_firstPlace_14 (by decide) rv5 r7 h (fun c9 h => ?_) (fun c9 h => ?_)
      · refine jg_iload (pc := 35) X d_12_firstPlace_35 4 rfl ?_
        refine jg_aload_n (pc := 37) X d_12_firstPlace_37 0 rfl ?_
        refine jg_iload_n (pc := 38) X d_12_firstPlace_38 1 rfl ?_
        refine jg_pcallSi (pc := 39) X (m_12_listOf rv1 hw h) jM_12_listOf kw_1686 rfl rfl (Nat.le_of_ble_eq_true rfl) d_12_firstPlace_39 ⟨(Nat.le_of_ble_eq_true rfl), (Nat.le_of_ble_eq_true rfl)⟩ ⟨(Nat.le_of_ble_eq_true rfl), (Nat.le_of_ble_eq_true rfl)⟩ (fun x10 r12 h => ?_)
        refine jg_pcallVi (pc := 42) X (m_12_size r12 hw h) jM_12_size kw_1609 (jl_345_12 hn) rfl rfl rfl rfl rfl (Nat.le_of_ble_eq_true rfl) d_12_firstPlace_42 ⟨(Nat.le_of_ble_eq_true rfl), (Nat.le_of_ble_eq_true rfl)⟩ ⟨(Nat.le_of_ble_eq_true rfl), (Nat.le_of_ble_eq_true rfl)⟩ (fun x14 r16 h => ?_)
        refine jg_icmp_ge (tgt := 53) (pc := 45) X d_12_firstPlace_45 (by decide) rv5 r16 h (fun c18 h => ?_) (fun c18 h => ?_)
        · refine jg_iconst (pc := 53) X d_12_firstPlace_53 ?_
          exact jg_ireturn (pc := 54) X hAe hlocks hr d_12_firstPlace_54 ⟨(Nat.le_of_ble_eq_true rfl), (Nat.le_of_ble_eq_true rfl)⟩ rfl (⟨by decide, by decide⟩ : jRng (-1)) hw ⟨rfl, h⟩
        · refine jg_iload (pc := 48) X d_12_firstPlace_48 4 rfl ?_
          refine jg_goto (tgt := 54) (pc := 50) X d_12_firstPlace_50 (by decide) ?_
          exact jg_ireturn (pc := 54) X hAe hlocks hr d_12_firstPlace_54 ⟨(Nat.le_of_ble_eq_true rfl), (Nat.le_of_ble_eq_true rfl)⟩ rfl rv5 hw ⟨rfl, h⟩
      · refine jg_aload_n (pc := 17) X d_12_firstPlace_17 0 rfl ?_
        refine jg_iload_n (pc := 18) X d_12_firstPlace_18 1 rfl ?_
        refine jg_iload (pc := 19) X d_12_firstPlace_19 4 rfl ?_
        refine jg_iload_n (pc := 21) X d_12_firstPlace_21 2 rfl ?_
        refine jg_pcallVi (pc := 22) X (m_12_valueAt rv1 rv5 rv2 hw h) jM_12_valueAt kw_1843 (jl_345_12 hn) rfl rfl rfl rfl rfl (Nat.le_of_ble_eq_true rfl) d_12_firstPlace_22 ⟨(Nat.le_of_ble_eq_true rfl), (Nat.le_of_ble_eq_true rfl)⟩ ⟨(Nat.le_of_ble_eq_true rfl), (Nat.le_of_ble_eq_true rfl)⟩ (fun x19 r21 h => ?_)
        refine jg_iload_n (pc := 25) X d_12_firstPlace_25 3 rfl ?_
        refine jg_icmp_eq (tgt := 35) (pc := 26) X d_12_firstPlace_26 (by decide) r21 rv3 h (fun c23 h => ?_) (fun c23 h => ?_)
        · refine jg_iload (pc := 35) X d_12_firstPlace_35 4 rfl ?_
          refine jg_aload_n (pc := 37) X d_12_firstPlace_37 0 rfl ?_
          refine jg_iload_n (pc := 38) X d_12_firstPlace_38 1 rfl ?_
          refine jg_pcallSi (pc := 39) X (m_12_listOf rv1 hw h) jM_12_listOf kw_1686 rfl rfl (Nat.le_of_ble_eq_true rfl) d_12_firstPlace_39 ⟨(Nat.le_of_ble_eq_true rfl), (Nat.le_of_ble_eq_true rfl)⟩ ⟨(Nat.le_of_ble_eq_true rfl), (Nat.le_of_ble_eq_true rfl)⟩ (fun x24 r26 h => ?_)
          refine jg_pcallVi (pc := 42) X (m_12_size r26 hw h) jM_12_size kw_1609 (jl_345_12 hn) rfl rfl rfl rfl rfl (Nat.le_of_ble_eq_true rfl) d_12_firstPlace_42 ⟨(Nat.le_of_ble_eq_true rfl), (Nat.le_of_ble_eq_true rfl)⟩ ⟨(Nat.le_of_ble_eq_true rfl), (Nat.le_of_ble_eq_true rfl)⟩ (fun x28 r30 h => ?_)
          refine jg_icmp_ge (tgt := 53) (pc := 45) X d_12_firstPlace_45 (by decide) rv5 r30 h (fun c32 h => ?_) (fun c32 h => ?_)
          · refine jg_iconst (pc := 53) X d_12_firstPlace_53 ?_
            exact jg_ireturn (pc := 54) X hAe hlocks hr d_12_firstPlace_54 ⟨(Nat.le_of_ble_eq_true rfl), (Nat.le_of_ble_eq_true rfl)⟩ rfl (⟨by decide, by decide⟩ : jRng (-1)) hw ⟨rfl, h⟩
          · refine jg_iload (pc := 48) X d_12_firstPlace_48 4 rfl ?_
            refine jg_goto (tgt := 54) (pc := 50) X d_12_firstPlace_50 (by decide) ?_
            exact jg_ireturn (pc := 54) X hAe hlocks hr d_12_firstPlace_54 ⟨(Nat.le_of_ble_eq_true rfl), (Nat.le_of_ble_eq_true rfl)⟩ rfl rv5 hw ⟨rfl, h⟩
        · refine jg_iinc (pc := 29) X [(5, jI (v5 + 1)), (0, jr Z 345), (1, jI v1), (2, jI v2), (3, jI v3)] d_12_firstPlace_29 4 rfl (by decide) rfl ?_
          refine jg_goto (tgt := 4) (pc := 32) X d_12_firstPlace_32 (by decide) ?_
          have r33 : jRng (v5 + 1) := by (unfold jRng; exact ⟨by (have z0 : jRng v5 := rv5; have z1 : jRng x5 := r7; unfold jRng at z0 z1; omega), by (have z0 : jRng v5 := rv5; have z1 : jRng x5 := r7; unfold jRng at z0 z1; omega)⟩)
          refine jg_sub [1, 2, 3, 4, 0] rfl ?_
          exact ih4 _ r33 h
  obtain ⟨N, h⟩ := h
  refine jg_sub [1, 2, 3, 4, 0] rfl ?_
  exact jl4   N _ rv4 h
set_option maxHeartbeats 4000000 in
set_option maxRecDepth 100000 in
theorem m_12_kinds {l : Launch} {Z : jE} {n : Nat} {C : jC} {v1 : Int} {v2 : Int} {post : Int → jC → Prop} (rv1 : jRng v1) (rv2 : jRng v2) (hw0 : jWF n C) (h : wp_12_kinds v1 v2 C post) : jCi l y_12_kinds prog_14_method_117_code 5 (.int) q_12_kinds Z n C [jr Z 345, jI v1, jI v2] post := by
  have hn := hw0.2.2.1
  unfold wp_12_kinds at h
  refine jCi_of (lv0 := [(0, jr Z 345), (1, jI v1), (2, jI v2)]) (by decide) (Nat.le_of_ble_eq_true rfl) rfl ?_
  intro p e s m args below meth c A sz X hAe hr hlocks
  refine jg_aload_n (pc := 0) X d_12_kinds_0 0 rfl ?_
  refine jg_iconst (pc := 1) X d_12_kinds_1 ?_
  refine jgp_12_0 (pc := 2) X (jl_345_12 hn) kw_1473 d_12_kinds_2 ?_
  have w1 := jWF.u (k := 0) (v := 0) hw0 (jl_345_12 hn) (by decide) (⟨by decide, by decide⟩ : jRng 0)
  refine jg_aload_n (pc := 5) X d_12_kinds_5 0 rfl ?_
  refine jg_iload_n (pc := 6) X d_12_kinds_6 1 rfl ?_
  refine jg_pcallSi (pc := 7) X (m_12_noView rv1 w1 h) jM_12_noView kw_1705 rfl rfl (Nat.le_of_ble_eq_true rfl) d_12_kinds_7 ⟨(Nat.le_of_ble_eq_true rfl), (Nat.le_of_ble_eq_true rfl)⟩ ⟨(Nat.le_of_ble_eq_true rfl), (Nat.le_of_ble_eq_true rfl)⟩ (fun x2 r4 h => ?_)
  refine jg_if_ne (tgt := 21) (pc := 10) X d_12_kinds_10 (by decide) r4 h (fun c6 h => ?_) (fun c6 h => ?_)
  · refine jg_aload_n (pc := 13) X d_12_kinds_13 0 rfl ?_
    refine jg_iload_n (pc := 14) X d_12_kinds_14 2 rfl ?_
    refine jg_pcallVi (pc := 15) X (m_12_noColumn rv2 w1 h) jM_12_noColumn kw_1798 (jl_345_12 hn) rfl rfl rfl rfl rfl (Nat.le_of_ble_eq_true rfl) d_12_kinds_15 ⟨(Nat.le_of_ble_eq_true rfl), (Nat.le_of_ble_eq_true rfl)⟩ ⟨(Nat.le_of_ble_eq_true rfl), (Nat.le_of_ble_eq_true rfl)⟩ (fun x7 r9 h => ?_)
    refine jg_if_eq (tgt := 25) (pc := 18) X d_12_kinds_18 (by decide) r9 h (fun c11 h => ?_) (fun c11 h => ?_)
    · refine jg_iconst (pc := 25) X d_12_kinds_25 ?_
      refine jg_iconst (pc := 26) X d_12_kinds_26 ?_
      refine jg_callVi (pc := 27) X (m_12_throwsIf (⟨by decide, by decide⟩ : jRng 0) (⟨by decide, by decide⟩ : jRng 1) w1 h) jM_12_throwsIf kw_1697 (jl_345_12 hn) rfl rfl rfl rfl rfl (Nat.le_of_ble_eq_true rfl) d_12_kinds_27 ⟨(Nat.le_of_ble_eq_true rfl), (Nat.le_of_ble_eq_true rfl)⟩ ⟨(Nat.le_of_ble_eq_true rfl), (Nat.le_of_ble_eq_true rfl)⟩ (fun x12 C13 r14 w15 h => ?_)
      refine jg_if_eq (tgt := 35) (pc := 30) X d_12_kinds_30 (by decide) r14 h (fun c16 h => ?_) (fun c16 h => ?_)
      · refine jg_iconst (pc := 35) X d_12_kinds_35 ?_
        refine jg_istore_n (pc := 36) X [(3, jI 0), (0, jr Z 345), (1, jI v1), (2, jI v2)] d_12_kinds_36 (by decide) rfl ?_
        refine jg_iconst (pc := 37) X d_12_kinds_37 ?_
        refine jg_istore (pc := 38) X [(4, jI 0), (3, jI 0), (0, jr Z 345), (1, jI v1), (2, jI v2)] d_12_kinds_38 (by decide) rfl ?_
        have jl40 : ∀ (C : jC) (hw : jWF n C) (N : Nat) (v3 : Int) (v4 : Int) (rv3 : jRng v3) (rv4 : jRng v4), jI2 (wp_12_kinds_40 v1 v2 C post) N v3 v4 → jG p l e q_12_kinds s m args below meth c 5 Z A (jws Z n C) 0 0 (MQ below (jQi Z n sz post) args s q_12_kinds.cells q_12_kinds.slots (jA Z n sz)) 40 [(0, jr Z 345), (1, jI v1), (2, jI v2), (3, jI v3), (4, jI v4)] [] := by
          intro C hw N
          have hn := hw0.2.2.1
          induction N with
          | zero => intro v3 v4 rv3 rv4 h; exact h.elim
          | succ N ih40 =>
            intro v3 v4 rv3 rv4 h
            have h : wp_12_kinds_40 v1 v2 C post (jI2 (wp_12_kinds_40 v1 v2 C post) N) v3 v4 := h
            generalize jI2 (wp_12_kinds_40 v1 v2 C post) N = k40 at h ih40
            unfold wp_12_kinds_40 at h
            refine jg_iload (pc := 40) X d_12_kinds_40 4 rfl ?_
            refine jg_aload_n (pc := 42) X d_12_kinds_42 0 rfl ?_
            refine jg_iload_n (pc := 43) X d_12_kinds_43 1 rfl ?_
            refine jg_pcallSi (pc := 44) X (m_12_listOf rv1 hw h) jM_12_listOf kw_1686 rfl rfl (Nat.le_of_ble_eq_true rfl) d_12_kinds_44 ⟨(Nat.le_of_ble_eq_true rfl), (Nat.le_of_ble_eq_true rfl)⟩ ⟨(Nat.le_of_ble_eq_true rfl), (Nat.le_of_ble_eq_true rfl)⟩ (fun x17 r19 h => ?_)
            refine jg_pcallVi (pc := 47) X (m_12_size r19 hw h) jM_12_size kw_1609 (jl_345_12 hn) rfl rfl rfl rfl rfl (Nat.le_of_ble_eq_true rfl) d_12_kinds_47 ⟨(Nat.le_of_ble_eq_true rfl), (Nat.le_of_ble_eq_true rfl)⟩ ⟨(Nat.le_of_ble_eq_true rfl), (Nat.le_of_ble_eq_true rfl)⟩ (fun x21 r23 h => ?_)
            refine jg_icmp_ge (tgt := 87) (pc := 50) X d_12_kinds_50 (by decide) rv4 r23 h (fun c25 h => ?_) (fun c25 h => ?_)
            · refine jg_iload_n (pc := 87) X d_12_kinds_87 3 rfl ?_
              exact jg_ireturn (pc := 88) X hAe hlocks hr d_12_kinds_88 ⟨(Nat.le_of_ble_eq_true rfl), (Nat.le_of_ble_eq_true rfl)⟩ rfl rv3 hw h
            · refine jg_iload_n (pc := 53) X d_12_kinds_53 3 rfl ?_
              refine jg_aload_n (pc := 54) X d_12_kinds_54 0 rfl ?_
              refine jg_iload_n (pc := 55) X d_12_kinds_55 1 rfl ?_
              refine jg_iload_n (pc := 56) X d_12_kinds_56 2 rfl ?_
              refine jg_aload_n (pc := 57) X d_12_kinds_57 0 rfl ?_
              refine jg_iload_n (pc := 58) X d_12_kinds_58 1 rfl ?_
              refine jg_iload (pc := 59) X d_12_kinds_59 4 rfl ?_
              refine jg_iload_n (pc := 61) X d_12_kinds_61 2 rfl ?_
              refine jg_pcallVi (pc := 62) X (m_12_valueAt rv1 rv4 rv2 hw h) jM_12_valueAt kw_1843 (jl_345_12 hn) rfl rfl rfl rfl rfl (Nat.le_of_ble_eq_true rfl) d_12_kinds_62 ⟨(Nat.le_of_ble_eq_true rfl), (Nat.le_of_ble_eq_true rfl)⟩ ⟨(Nat.le_of_ble_eq_true rfl), (Nat.le_of_ble_eq_true rfl)⟩ (fun x26 r28 h => ?_)
              refine jg_iconst (pc := 65) X d_12_kinds_65 ?_
              refine jg_pcallVi (pc := 66) X (m_12_firstPlace rv1 rv2 r28 (⟨by decide, by decide⟩ : jRng 0) hw h) jM_12_firstPlace kw_1996 (jl_345_12 hn) rfl rfl rfl rfl rfl (Nat.le_of_ble_eq_true rfl) d_12_kinds_66 ⟨(Nat.le_of_ble_eq_true rfl), (Nat.le_of_ble_eq_true rfl)⟩ ⟨(Nat.le_of_ble_eq_true rfl), (Nat.le_of_ble_eq_true rfl)⟩ (fun x30 r32 h => ?_)
              refine jg_iload (pc := 69) X d_12_kinds_69 4 rfl ?_
              refine jg_icmp_ne (tgt := 78) (pc := 71) X d_12_kinds_71 (by decide) r32 rv4 h (fun c34 h => ?_) (fun c34 h => ?_)
              · refine jg_iconst (pc := 74) X d_12_kinds_74 ?_
                refine jg_goto (tgt := 79) (pc := 75) X d_12_kinds_75 (by decide) ?_
                refine jg_iadd (pc := 79) X d_12_kinds_79 ?_
                refine jg_istore_n (pc := 80) X [(3, jI (v3 + 1)), (0, jr Z 345), (1, jI v1), (2, jI v2), (4, jI v4)] d_12_kinds_80 (by decide) rfl ?_
                refine jg_iinc (pc := 81) X [(4, jI (v4 + 1)), (3, jI (v3 + 1)), (0, jr Z 345), (1, jI v1), (2, jI v2)] d_12_kinds_81 4 rfl (by decide) rfl ?_
                refine jg_goto (tgt := 40) (pc := 84) X d_12_kinds_84 (by decide) ?_
                obtain ⟨r35, h⟩ := h
                have r36 : jRng (v4 + 1) := by (unfold jRng; exact ⟨by (have z0 : jRng v4 := rv4; have z1 : jRng x21 := r23; have z2 : jRng x30 := r32; unfold jRng at z0 z1 z2; omega), by (have z0 : jRng v4 := rv4; have z1 : jRng x21 := r23; have z2 : jRng x30 := r32; unfold jRng at z0 z1 z2; omega)⟩)
                refine jg_sub [2, 3, 4, 1, 0] rfl ?_
                exact ih40 _ _ r35 r36 h
              · refine jg_iconst (pc := 78) X d_12_kinds_78 ?_
                refine jg_iadd (pc := 79) X d_12_kinds_79 ?_
                refine jg_istore_n (pc := 80) X [(3, jI (v3 + 0)), (0, jr Z 345), (1, jI v1), (2, jI v2), (4, jI v4)] d_12_kinds_80 (by decide) rfl ?_
                refine jg_iinc (pc := 81) X [(4, jI (v4 + 1)), (3, jI (v3 + 0)), (0, jr Z 345), (1, jI v1), (2, jI v2)] d_12_kinds_81 4 rfl (by decide) rfl ?_
                refine jg_goto (tgt := 40) (pc := 84) X d_12_kinds_84 (by decide) ?_
                have r37 : jRng (v3 + 0) := by (unfold jRng; exact ⟨by (have z0 : jRng v3 := rv3; unfold jRng at z0; omega), by (have z0 : jRng v3 := rv3; unfold jRng at z0; omega)⟩)
                have r38 : jRng (v4 + 1) := by (unfold jRng; exact ⟨by (have z0 : jRng v4 := rv4; have z1 : jRng x21 := r23; unfold jRng at z0 z1; omega), by (have z0 : jRng v4 := rv4; have z1 : jRng x21 := r23; unfold jRng at z0 z1; omega)⟩)
                refine jg_sub [2, 3, 4, 1, 0] rfl ?_
                exact ih40 _ _ r37 r38 h
        obtain ⟨N, h⟩ := h
        refine jg_sub [2, 3, 4, 1, 0] rfl ?_
        exact jl40 _ w15 N _ _ (⟨by decide, by decide⟩ : jRng 0) (⟨by decide, by decide⟩ : jRng 0) h
      · refine jg_iconst (pc := 33) X d_12_kinds_33 ?_
        exact jg_ireturn (pc := 34) X hAe hlocks hr d_12_kinds_34 ⟨(Nat.le_of_ble_eq_true rfl), (Nat.le_of_ble_eq_true rfl)⟩ rfl (⟨by decide, by decide⟩ : jRng 0) w15 h
    · refine jg_iconst (pc := 21) X d_12_kinds_21 ?_
      refine jg_goto (tgt := 26) (pc := 22) X d_12_kinds_22 (by decide) ?_
      refine jg_iconst (pc := 26) X d_12_kinds_26 ?_
      refine jg_callVi (pc := 27) X (m_12_throwsIf (⟨by decide, by decide⟩ : jRng 1) (⟨by decide, by decide⟩ : jRng 1) w1 h) jM_12_throwsIf kw_1697 (jl_345_12 hn) rfl rfl rfl rfl rfl (Nat.le_of_ble_eq_true rfl) d_12_kinds_27 ⟨(Nat.le_of_ble_eq_true rfl), (Nat.le_of_ble_eq_true rfl)⟩ ⟨(Nat.le_of_ble_eq_true rfl), (Nat.le_of_ble_eq_true rfl)⟩ (fun x39 C40 r41 w42 h => ?_)
      refine jg_if_eq (tgt := 35) (pc := 30) X d_12_kinds_30 (by decide) r41 h (fun c43 h => ?_) (fun c43 h => ?_)
      · refine jg_iconst (pc := 35) X d_12_kinds_35 ?_
        refine jg_istore_n (pc := 36) X [(3, jI 0), (0, jr Z 345), (1, jI v1), (2, jI v2)] d_12_kinds_36 (by decide) rfl ?_
        refine jg_iconst (pc := 37) X d_12_kinds_37 ?_
        refine jg_istore (pc := 38) X [(4, jI 0), (3, jI 0), (0, jr Z 345), (1, jI v1), (2, jI v2)] d_12_kinds_38 (by decide) rfl ?_
        have jl40 : ∀ (C : jC) (hw : jWF n C) (N : Nat) (v3 : Int) (v4 : Int) (rv3 : jRng v3) (rv4 : jRng v4), jI2 (wp_12_kinds_40 v1 v2 C post) N v3 v4 → jG p l e q_12_kinds s m args below meth c 5 Z A (jws Z n C) 0 0 (MQ below (jQi Z n sz post) args s q_12_kinds.cells q_12_kinds.slots (jA Z n sz)) 40 [(0, jr Z 345), (1, jI v1), (2, jI v2), (3, jI v3), (4, jI v4)] [] := by
          intro C hw N
          have hn := hw0.2.2.1
          induction N with
          | zero => intro v3 v4 rv3 rv4 h; exact h.elim
          | succ N ih40 =>
            intro v3 v4 rv3 rv4 h
            have h : wp_12_kinds_40 v1 v2 C post (jI2 (wp_12_kinds_40 v1 v2 C post) N) v3 v4 := h
            generalize jI2 (wp_12_kinds_40 v1 v2 C post) N = k40 at h ih40
            unfold wp_12_kinds_40 at h
            refine jg_iload (pc := 40) X d_12_kinds_40 4 rfl ?_
            refine jg_aload_n (pc := 42) X d_12_kinds_42 0 rfl ?_
            refine jg_iload_n (pc := 43) X d_12_kinds_43 1 rfl ?_
            refine jg_pcallSi (pc := 44) X (m_12_listOf rv1 hw h) jM_12_listOf kw_1686 rfl rfl (Nat.le_of_ble_eq_true rfl) d_12_kinds_44 ⟨(Nat.le_of_ble_eq_true rfl), (Nat.le_of_ble_eq_true rfl)⟩ ⟨(Nat.le_of_ble_eq_true rfl), (Nat.le_of_ble_eq_true rfl)⟩ (fun x44 r46 h => ?_)
            refine jg_pcallVi (pc := 47) X (m_12_size r46 hw h) jM_12_size kw_1609 (jl_345_12 hn) rfl rfl rfl rfl rfl (Nat.le_of_ble_eq_true rfl) d_12_kinds_47 ⟨(Nat.le_of_ble_eq_true rfl), (Nat.le_of_ble_eq_true rfl)⟩ ⟨(Nat.le_of_ble_eq_true rfl), (Nat.le_of_ble_eq_true rfl)⟩ (fun x48 r50 h => ?_)
            refine jg_icmp_ge (tgt := 87) (pc := 50) X d_12_kinds_50 (by decide) rv4 r50 h (fun c52 h => ?_) (fun c52 h => ?_)
            · refine jg_iload_n (pc := 87) X d_12_kinds_87 3 rfl ?_
              exact jg_ireturn (pc := 88) X hAe hlocks hr d_12_kinds_88 ⟨(Nat.le_of_ble_eq_true rfl), (Nat.le_of_ble_eq_true rfl)⟩ rfl rv3 hw h
            · refine jg_iload_n (pc := 53) X d_12_kinds_53 3 rfl ?_
              refine jg_aload_n (pc := 54) X d_12_kinds_54 0 rfl ?_
              refine jg_iload_n (pc := 55) X d_12_kinds_55 1 rfl ?_
              refine jg_iload_n (pc := 56) X d_12_kinds_56 2 rfl ?_
              refine jg_aload_n (pc := 57) X d_12_kinds_57 0 rfl ?_
              refine jg_iload_n (pc := 58) X d_12_kinds_58 1 rfl ?_
              refine jg_iload (pc := 59) X d_12_kinds_59 4 rfl ?_
              refine jg_iload_n (pc := 61) X d_12_kinds_61 2 rfl ?_
              refine jg_pcallVi (pc := 62) X (m_12_valueAt rv1 rv4 rv2 hw h) jM_12_valueAt kw_1843 (jl_345_12 hn) rfl rfl rfl rfl rfl (Nat.le_of_ble_eq_true rfl) d_12_kinds_62 ⟨(Nat.le_of_ble_eq_true rfl), (Nat.le_of_ble_eq_true rfl)⟩ ⟨(Nat.le_of_ble_eq_true rfl), (Nat.le_of_ble_eq_true rfl)⟩ (fun x53 r55 h => ?_)
              refine jg_iconst (pc := 65) X d_12_kinds_65 ?_
              refine jg_pcallVi (pc := 66) X (m_12_firstPlace rv1 rv2 r55 (⟨by decide, by decide⟩ : jRng 0) hw h) jM_12_firstPlace kw_1996 (jl_345_12 hn) rfl rfl rfl rfl rfl (Nat.le_of_ble_eq_true rfl) d_12_kinds_66 ⟨(Nat.le_of_ble_eq_true rfl), (Nat.le_of_ble_eq_true rfl)⟩ ⟨(Nat.le_of_ble_eq_true rfl), (Nat.le_of_ble_eq_true rfl)⟩ (fun x57 r59 h => ?_)
              refine jg_iload (pc := 69) X d_12_kinds_69 4 rfl ?_
              refine jg_icmp_ne (tgt := 78) (pc := 71) X d_12_kinds_71 (by decide) r59 rv4 h (fun c61 h => ?_) (fun c61 h => ?_)
              · refine jg_iconst (pc := 74) X d_12_kinds_74 ?_
                refine jg_goto (tgt := 79) (pc := 75) X d_12_kinds_75 (by decide) ?_
                refine jg_iadd (pc := 79) X d_12_kinds_79 ?_
                refine jg_istore_n (pc := 80) X [(3, jI (v3 + 1)), (0, jr Z 345), (1, jI v1), (2, jI v2), (4, jI v4)] d_12_kinds_80 (by decide) rfl ?_
                refine jg_iinc (pc := 81) X [(4, jI (v4 + 1)), (3, jI (v3 + 1)), (0, jr Z 345), (1, jI v1), (2, jI v2)] d_12_kinds_81 4 rfl (by decide) rfl ?_
                refine jg_goto (tgt := 40) (pc := 84) X d_12_kinds_84 (by decide) ?_
                obtain ⟨r62, h⟩ := h
                have r63 : jRng (v4 + 1) := by (unfold jRng; exact ⟨by (have z0 : jRng v4 := rv4; have z1 : jRng x48 := r50; have z2 : jRng x57 := r59; unfold jRng at z0 z1 z2; omega), by (have z0 : jRng v4 := rv4; have z1 : jRng x48 := r50; have z2 : jRng x57 := r59; unfold jRng at z0 z1 z2; omega)⟩)
                refine jg_sub [2, 3, 4, 1, 0] rfl ?_
                exact ih40 _ _ r62 r63 h
              · refine jg_iconst (pc := 78) X d_12_kinds_78 ?_
                refine jg_iadd (pc := 79) X d_12_kinds_79 ?_
                refine jg_istore_n (pc := 80) X [(3, jI (v3 + 0)), (0, jr Z 345), (1, jI v1), (2, jI v2), (4, jI v4)] d_12_kinds_80 (by decide) rfl ?_
                refine jg_iinc (pc := 81) X [(4, jI (v4 + 1)), (3, jI (v3 + 0)), (0, jr Z 345), (1, jI v1), (2, jI v2)] d_12_kinds_81 4 rfl (by decide) rfl ?_
                refine jg_goto (tgt := 40) (pc := 84) X d_12_kinds_84 (by decide) ?_
                have r64 : jRng (v3 + 0) := by (unfold jRng; exact ⟨by (have z0 : jRng v3 := rv3; unfold jRng at z0; omega), by (have z0 : jRng v3 := rv3; unfold jRng at z0; omega)⟩)
                have r65 : jRng (v4 + 1) := by (unfold jRng; exact ⟨by (have z0 : jRng v4 := rv4; have z1 : jRng x48 := r50; unfold jRng at z0 z1; omega), by (have z0 : jRng v4 := rv4; have z1 : jRng x48 := r50; unfold jRng at z0 z1; omega)⟩)
                refine jg_sub [2, 3, 4, 1, 0] rfl ?_
                exact ih40 _ _ r64 r65 h
        obtain ⟨N, h⟩ := h
        refine jg_sub [2, 3, 4, 1, 0] rfl ?_
        exact jl40 _ w42 N _ _ (⟨by decide, by decide⟩ : jRng 0) (⟨by decide, by decide⟩ : jRng 0) h
      · refine jg_iconst (pc := 33) X d_12_kinds_33 ?_
        exact jg_ireturn (pc := 34) X hAe hlocks hr d_12_kinds_34 ⟨(Nat.le_of_ble_eq_true rfl), (Nat.le_of_ble_eq_true rfl)⟩ rfl (⟨by decide, by decide⟩ : jRng 0) w42 h
  · refine jg_iconst (pc := 21) X d_12_kinds_21 ?_
    refine jg_goto (tgt := 26) (pc := 22) X d_12_kinds_22 (by decide) ?_
    refine jg_iconst (pc := 26) X d_12_kinds_26 ?_
    refine jg_callVi (pc := 27) X (m_12_throwsIf (⟨by decide, by decide⟩ : jRng 1) (⟨by decide, by decide⟩ : jRng 1) w1 h) jM_12_throwsIf kw_1697 (jl_345_12 hn) rfl rfl rfl rfl rfl (Nat.le_of_ble_eq_true rfl) d_12_kinds_27 ⟨(Nat.le_of_ble_eq_true rfl), (Nat.le_of_ble_eq_true rfl)⟩ ⟨(Nat.le_of_ble_eq_true rfl), (Nat.le_of_ble_eq_true rfl)⟩ (fun x66 C67 r68 w69 h => ?_)
    refine jg_if_eq (tgt := 35) (pc := 30) X d_12_kinds_30 (by decide) r68 h (fun c70 h => ?_) (fun c70 h => ?_)
    · refine jg_iconst (pc := 35) X d_12_kinds_35 ?_
      refine jg_istore_n (pc := 36) X [(3, jI 0), (0, jr Z 345), (1, jI v1), (2, jI v2)] d_12_kinds_36 (by decide) rfl ?_
      refine jg_iconst (pc := 37) X d_12_kinds_37 ?_
      refine jg_istore (pc := 38) X [(4, jI 0), (3, jI 0), (0, jr Z 345), (1, jI v1), (2, jI v2)] d_12_kinds_38 (by decide) rfl ?_
      have jl40 : ∀ (C : jC) (hw : jWF n C) (N : Nat) (v3 : Int) (v4 : Int) (rv3 : jRng v3) (rv4 : jRng v4), jI2 (wp_12_kinds_40 v1 v2 C post) N v3 v4 → jG p l e q_12_kinds s m args below meth c 5 Z A (jws Z n C) 0 0 (MQ below (jQi Z n sz post) args s q_12_kinds.cells q_12_kinds.slots (jA Z n sz)) 40 [(0, jr Z 345), (1, jI v1), (2, jI v2), (3, jI v3), (4, jI v4)] [] := by
        intro C hw N
        have hn := hw0.2.2.1
        induction N with
        | zero => intro v3 v4 rv3 rv4 h; exact h.elim
        | succ N ih40 =>
          intro v3 v4 rv3 rv4 h
          have h : wp_12_kinds_40 v1 v2 C post (jI2 (wp_12_kinds_40 v1 v2 C post) N) v3 v4 := h
          generalize jI2 (wp_12_kinds_40 v1 v2 C post) N = k40 at h ih40
          unfold wp_12_kinds_40 at h
          refine jg_iload (pc := 40) X d_12_kinds_40 4 rfl ?_
          refine jg_aload_n (pc := 42) X d_12_kinds_42 0 rfl ?_
          refine jg_iload_n (pc := 43) X d_12_kinds_43 1 rfl ?_
          refine jg_pcallSi (pc := 44) X (m_12_listOf rv1 hw h) jM_12_listOf kw_1686 rfl rfl (Nat.le_of_ble_eq_true rfl) d_12_kinds_44 ⟨(Nat.le_of_ble_eq_true rfl), (Nat.le_of_ble_eq_true rfl)⟩ ⟨(Nat.le_of_ble_eq_true rfl), (Nat.le_of_ble_eq_true rfl)⟩ (fun x71 r73 h => ?_)
          refine jg_pcallVi (pc := 47) X (m_12_size r73 hw h) jM_12_size kw_1609 (jl_345_12 hn) rfl rfl rfl rfl rfl (Nat.le_of_ble_eq_true rfl) d_12_kinds_47 ⟨(Nat.le_of_ble_eq_true rfl), (Nat.le_of_ble_eq_true rfl)⟩ ⟨(Nat.le_of_ble_eq_true rfl), (Nat.le_of_ble_eq_true rfl)⟩ (fun x75 r77 h => ?_)
          refine jg_icmp_ge (tgt := 87) (pc := 50) X d_12_kinds_50 (by decide) rv4 r77 h (fun c79 h => ?_) (fun c79 h => ?_)
          · refine jg_iload_n (pc := 87) X d_12_kinds_87 3 rfl ?_
            exact jg_ireturn (pc := 88) X hAe hlocks hr d_12_kinds_88 ⟨(Nat.le_of_ble_eq_true rfl), (Nat.le_of_ble_eq_true rfl)⟩ rfl rv3 hw h
          · refine jg_iload_n (pc := 53) X d_12_kinds_53 3 rfl ?_
            refine jg_aload_n (pc := 54) X d_12_kinds_54 0 rfl ?_
            refine jg_iload_n (pc := 55) X d_12_kinds_55 1 rfl ?_
            refine jg_iload_n (pc := 56) X d_12_kinds_56 2 rfl ?_
            refine jg_aload_n (pc := 57) X d_12_kinds_57 0 rfl ?_
            refine jg_iload_n (pc := 58) X d_12_kinds_58 1 rfl ?_
            refine jg_iload (pc := 59) X d_12_kinds_59 4 rfl ?_
            refine jg_iload_n (pc := 61) X d_12_kinds_61 2 rfl ?_
            refine jg_pcallVi (pc := 62) X (m_12_valueAt rv1 rv4 rv2 hw h) jM_12_valueAt kw_1843 (jl_345_12 hn) rfl rfl rfl rfl rfl (Nat.le_of_ble_eq_true rfl) d_12_kinds_62 ⟨(Nat.le_of_ble_eq_true rfl), (Nat.le_of_ble_eq_true rfl)⟩ ⟨(Nat.le_of_ble_eq_true rfl), (Nat.le_of_ble_eq_true rfl)⟩ (fun x80 r82 h => ?_)
            refine jg_iconst (pc := 65) X d_12_kinds_65 ?_
            refine jg_pcallVi (pc := 66) X (m_12_firstPlace rv1 rv2 r82 (⟨by decide, by decide⟩ : jRng 0) hw h) jM_12_firstPlace kw_1996 (jl_345_12 hn) rfl rfl rfl rfl rfl (Nat.le_of_ble_eq_true rfl) d_12_kinds_66 ⟨(Nat.le_of_ble_eq_true rfl), (Nat.le_of_ble_eq_true rfl)⟩ ⟨(Nat.le_of_ble_eq_true rfl), (Nat.le_of_ble_eq_true rfl)⟩ (fun x84 r86 h => ?_)
            refine jg_iload (pc := 69) X d_12_kinds_69 4 rfl ?_
            refine jg_icmp_ne (tgt := 78) (pc := 71) X d_12_kinds_71 (by decide) r86 rv4 h (fun c88 h => ?_) (fun c88 h => ?_)
            · refine jg_iconst (pc := 74) X d_12_kinds_74 ?_
              refine jg_goto (tgt := 79) (pc := 75) X d_12_kinds_75 (by decide) ?_
              refine jg_iadd (pc := 79) X d_12_kinds_79 ?_
              refine jg_istore_n (pc := 80) X [(3, jI (v3 + 1)), (0, jr Z 345), (1, jI v1), (2, jI v2), (4, jI v4)] d_12_kinds_80 (by decide) rfl ?_
              refine jg_iinc (pc := 81) X [(4, jI (v4 + 1)), (3, jI (v3 + 1)), (0, jr Z 345), (1, jI v1), (2, jI v2)] d_12_kinds_81 4 rfl (by decide) rfl ?_
              refine jg_goto (tgt := 40) (pc := 84) X d_12_kinds_84 (by decide) ?_
              obtain ⟨r89, h⟩ := h
              have r90 : jRng (v4 + 1) := by (unfold jRng; exact ⟨by (have z0 : jRng v4 := rv4; have z1 : jRng x75 := r77; have z2 : jRng x84 := r86; unfold jRng at z0 z1 z2; omega), by (have z0 : jRng v4 := rv4; have z1 : jRng x75 := r77; have z2 : jRng x84 := r86; unfold jRng at z0 z1 z2; omega)⟩)
              refine jg_sub [2, 3, 4, 1, 0] rfl ?_
              exact ih40 _ _ r89 r90 h
            · refine jg_iconst (pc := 78) X d_12_kinds_78 ?_
              refine jg_iadd (pc := 79) X d_12_kinds_79 ?_
              refine jg_istore_n (pc := 80) X [(3, jI (v3 + 0)), (0, jr Z 345), (1, jI v1), (2, jI v2), (4, jI v4)] d_12_kinds_80 (by decide) rfl ?_
              refine jg_iinc (pc := 81) X [(4, jI (v4 + 1)), (3, jI (v3 + 0)), (0, jr Z 345), (1, jI v1), (2, jI v2)] d_12_kinds_81 4 rfl (by decide) rfl ?_
              refine jg_goto (tgt := 40) (pc := 84) X d_12_kinds_84 (by decide) ?_
              have r91 : jRng (v3 + 0) := by (unfold jRng; exact ⟨by (have z0 : jRng v3 := rv3; unfold jRng at z0; omega), by (have z0 : jRng v3 := rv3; unfold jRng at z0; omega)⟩)
              have r92 : jRng (v4 + 1) := by (unfold jRng; exact ⟨by (have z0 : jRng v4 := rv4; have z1 : jRng x75 := r77; unfold jRng at z0 z1; omega), by (have z0 : jRng v4 := rv4; have z1 : jRng x75 := r77; unfold jRng at z0 z1; omega)⟩)
              refine jg_sub [2, 3, 4, 1, 0] rfl ?_
              exact ih40 _ _ r91 r92 h
      obtain ⟨N, h⟩ := h
      refine jg_sub [2, 3, 4, 1, 0] rfl ?_
      exact jl40 _ w69 N _ _ (⟨by decide, by decide⟩ : jRng 0) (⟨by decide, by decide⟩ : jRng 0) h
    · refine jg_iconst (pc := 33) X d_12_kinds_33 ?_
      exact jg_ireturn (pc := 34) X hAe hlocks hr d_12_kinds_34 ⟨(Nat.le_of_ble_eq_true rfl), (Nat.le_of_ble_eq_true rfl)⟩ rfl (⟨by decide, by decide⟩ : jRng 0) w69 h
set_option maxHeartbeats 4000000 in
set_option maxRecDepth 100000 in
theorem m_12_by {l : Launch} {Z : jE} {n : Nat} {C : jC} {v1 : Int} {v2 : Int} {post : Int → jC → Prop} (rv1 : jRng v1) (rv2 : jRng v2) (hw0 : jWF n C) (h : wp_12_by v1 v2 C post) : jCi l y_12_by prog_14_method_118_code 3 (.int) q_12_by Z n C [jr Z 345, jI v1, jI v2] post := by
  have hn := hw0.2.2.1
  unfold wp_12_by at h
  refine jCi_of (lv0 := [(0, jr Z 345), (1, jI v1), (2, jI v2)]) (by decide) (Nat.le_of_ble_eq_true rfl) rfl ?_
  intro p e s m args below meth c A sz X hAe hr hlocks
  have jb28 : ∀ (s0 : Int) (v1 : Int) (v2 : Int) (C : jC) (rs0 : jRng s0) (rv1 : jRng v1) (rv2 : jRng v2) (hw : jWF n C), wp_12_by_28 s0 v1 v2 C post → jG p l e q_12_by s m args below meth c 3 Z A (jws Z n C) 0 0 (MQ below (jQi Z n sz post) args s q_12_by.cells q_12_by.slots (jA Z n sz)) 28 [(0, jr Z 345), (1, jI v1), (2, jI v2)] [jI s0, jr Z 345] := by
    intro s0 v1 v2 C rs0 rv1 rv2 hw h
    unfold wp_12_by_28 at h
    refine jg_iconst (pc := 28) X d_12_by_28 ?_
    refine jg_callVi (pc := 29) X (m_12_throwsIf rs0 (⟨by decide, by decide⟩ : jRng 1) hw h) jM_12_throwsIf kw_1697 (jl_345_12 hn) rfl rfl rfl rfl rfl (Nat.le_of_ble_eq_true rfl) d_12_by_29 ⟨(Nat.le_of_ble_eq_true rfl), (Nat.le_of_ble_eq_true rfl)⟩ ⟨(Nat.le_of_ble_eq_true rfl), (Nat.le_of_ble_eq_true rfl)⟩ (fun x1 C2 r3 w4 h => ?_)
    refine jg_if_eq (tgt := 39) (pc := 32) X d_12_by_32 (by decide) r3 h (fun c5 h => ?_) (fun c5 h => ?_)
    · refine jg_aload_n (pc := 39) X d_12_by_39 0 rfl ?_
      refine jgf_12_1 (pc := 40) X (jl_345_12 hn) kw_1474 d_12_by_40 ?_
      refine jg_aload_n (pc := 43) X d_12_by_43 0 rfl ?_
      refine jg_iload_n (pc := 44) X d_12_by_44 1 rfl ?_
      refine jg_pcallVi (pc := 45) X (m_12_rowOf rv1 w4 h) jM_12_rowOf kw_1641 (jl_345_12 hn) rfl rfl rfl rfl rfl (Nat.le_of_ble_eq_true rfl) d_12_by_45 ⟨(Nat.le_of_ble_eq_true rfl), (Nat.le_of_ble_eq_true rfl)⟩ ⟨(Nat.le_of_ble_eq_true rfl), (Nat.le_of_ble_eq_true rfl)⟩ (fun x6 r8 h => ?_)
      refine jg_bipush (pc := 48) X d_12_by_48 rfl ?_
      refine jg_iadd (pc := 50) X d_12_by_50 ?_
      refine jg_iload_n (pc := 51) X d_12_by_51 2 rfl ?_
      refine jg_iadd (pc := 52) X d_12_by_52 ?_
      obtain ⟨b10, b11, h⟩ := h
      refine jg_iaload (len := 8954) (pc := 53) X d_12_by_53 (jl_346_9954 hn) (fun _ => rfl) (by decide) b10 b11 ?_
      exact jg_ireturn (pc := 54) X hAe hlocks hr d_12_by_54 ⟨(Nat.le_of_ble_eq_true rfl), (Nat.le_of_ble_eq_true rfl)⟩ rfl (w4.1 _ _) w4 h
    · refine jg_iconst (pc := 35) X d_12_by_35 ?_
      refine jg_goto (tgt := 54) (pc := 36) X d_12_by_36 (by decide) ?_
      exact jg_ireturn (pc := 54) X hAe hlocks hr d_12_by_54 ⟨(Nat.le_of_ble_eq_true rfl), (Nat.le_of_ble_eq_true rfl)⟩ rfl (⟨by decide, by decide⟩ : jRng 0) w4 h
  refine jg_aload_n (pc := 0) X d_12_by_0 0 rfl ?_
  refine jg_iconst (pc := 1) X d_12_by_1 ?_
  refine jgp_12_0 (pc := 2) X (jl_345_12 hn) kw_1473 d_12_by_2 ?_
  have w12 := jWF.u (k := 0) (v := 0) hw0 (jl_345_12 hn) (by decide) (⟨by decide, by decide⟩ : jRng 0)
  refine jg_aload_n (pc := 5) X d_12_by_5 0 rfl ?_
  refine jg_aload_n (pc := 6) X d_12_by_6 0 rfl ?_
  refine jg_iload_n (pc := 7) X d_12_by_7 1 rfl ?_
  refine jg_pcallVi (pc := 8) X (m_12_rowOf rv1 w12 h) jM_12_rowOf kw_1641 (jl_345_12 hn) rfl rfl rfl rfl rfl (Nat.le_of_ble_eq_true rfl) d_12_by_8 ⟨(Nat.le_of_ble_eq_true rfl), (Nat.le_of_ble_eq_true rfl)⟩ ⟨(Nat.le_of_ble_eq_true rfl), (Nat.le_of_ble_eq_true rfl)⟩ (fun x13 r15 h => ?_)
  refine jg_iconst (pc := 11) X d_12_by_11 ?_
  refine jg_icmp_eq (tgt := 23) (pc := 12) X d_12_by_12 (by decide) r15 (⟨by decide, by decide⟩ : jRng (-1)) h (fun c17 h => ?_) (fun c17 h => ?_)
  · refine jg_iconst (pc := 23) X d_12_by_23 ?_
    refine jg_goto (tgt := 28) (pc := 24) X d_12_by_24 (by decide) ?_
    refine jg_sub [0, 1, 2] rfl ?_
    exact jb28 _ _ _ _ (⟨by decide, by decide⟩ : jRng 1) rv1 rv2 w12 h
  · refine jg_aload_n (pc := 15) X d_12_by_15 0 rfl ?_
    refine jg_iload_n (pc := 16) X d_12_by_16 2 rfl ?_
    refine jg_pcallVi (pc := 17) X (m_12_noColumn rv2 w12 h) jM_12_noColumn kw_1798 (jl_345_12 hn) rfl rfl rfl rfl rfl (Nat.le_of_ble_eq_true rfl) d_12_by_17 ⟨(Nat.le_of_ble_eq_true rfl), (Nat.le_of_ble_eq_true rfl)⟩ ⟨(Nat.le_of_ble_eq_true rfl), (Nat.le_of_ble_eq_true rfl)⟩ (fun x18 r20 h => ?_)
    refine jg_if_eq (tgt := 27) (pc := 20) X d_12_by_20 (by decide) r20 h (fun c22 h => ?_) (fun c22 h => ?_)
    · refine jg_iconst (pc := 27) X d_12_by_27 ?_
      refine jg_sub [0, 1, 2] rfl ?_
      exact jb28 _ _ _ _ (⟨by decide, by decide⟩ : jRng 0) rv1 rv2 w12 h
    · refine jg_iconst (pc := 23) X d_12_by_23 ?_
      refine jg_goto (tgt := 28) (pc := 24) X d_12_by_24 (by decide) ?_
      refine jg_sub [0, 1, 2] rfl ?_
      exact jb28 _ _ _ _ (⟨by decide, by decide⟩ : jRng 1) rv1 rv2 w12 h
set_option maxHeartbeats 4000000 in
set_option maxRecDepth 100000 in
theorem m_12_isFirst {l : Launch} {Z : jE} {n : Nat} {C : jC} {v1 : Int} {v2 : Int} {v3 : Int} {post : Int → Prop} (rv1 : jRng v1) (rv2 : jRng v2) (rv3 : jRng v3) (hw0 : jWF n C) (h : wp_12_isFirst v1 v2 v3 C post) : jCi l y_12_isFirst prog_14_method_119_code 4 (.boolean) q_12_isFirst Z n C [jr Z 345, jI v1, jI v2, jI v3] (fun x C9 => C9 = C ∧ post x) := by
  have hn := hw0.2.2.1
  unfold wp_12_isFirst at h
  refine jCi_of (lv0 := [(0, jr Z 345), (1, jI v1), (2, jI v2), (3, jI v3)]) (by decide) (Nat.le_of_ble_eq_true rfl) rfl ?_
  intro p e s m args below meth c A sz X hAe hr hlocks
  refine jg_aload_n (pc := 0) X d_12_isFirst_0 0 rfl ?_
  refine jg_iload_n (pc := 1) X d_12_isFirst_1 1 rfl ?_
  refine jg_iload_n (pc := 2) X d_12_isFirst_2 2 rfl ?_
  refine jg_aload_n (pc := 3) X d_12_isFirst_3 0 rfl ?_
  refine jg_iload_n (pc := 4) X d_12_isFirst_4 1 rfl ?_
  refine jg_iload_n (pc := 5) X d_12_isFirst_5 3 rfl ?_
  refine jg_iload_n (pc := 6) X d_12_isFirst_6 2 rfl ?_
  refine jg_pcallVi (pc := 7) X (m_12_valueAt rv1 rv3 rv2 hw0 h) jM_12_valueAt kw_1843 (jl_345_12 hn) rfl rfl rfl rfl rfl (Nat.le_of_ble_eq_true rfl) d_12_isFirst_7 ⟨(Nat.le_of_ble_eq_true rfl), (Nat.le_of_ble_eq_true rfl)⟩ ⟨(Nat.le_of_ble_eq_true rfl), (Nat.le_of_ble_eq_true rfl)⟩ (fun x1 r3 h => ?_)
  refine jg_iconst (pc := 10) X d_12_isFirst_10 ?_
  refine jg_pcallVi (pc := 11) X (m_12_firstPlace rv1 rv2 r3 (⟨by decide, by decide⟩ : jRng 0) hw0 h) jM_12_firstPlace kw_1996 (jl_345_12 hn) rfl rfl rfl rfl rfl (Nat.le_of_ble_eq_true rfl) d_12_isFirst_11 ⟨(Nat.le_of_ble_eq_true rfl), (Nat.le_of_ble_eq_true rfl)⟩ ⟨(Nat.le_of_ble_eq_true rfl), (Nat.le_of_ble_eq_true rfl)⟩ (fun x5 r7 h => ?_)
  refine jg_iload_n (pc := 14) X d_12_isFirst_14 3 rfl ?_
  refine jg_icmp_ne (tgt := 22) (pc := 15) X d_12_isFirst_15 (by decide) r7 rv3 h (fun c9 h => ?_) (fun c9 h => ?_)
  · refine jg_iconst (pc := 18) X d_12_isFirst_18 ?_
    refine jg_goto (tgt := 23) (pc := 19) X d_12_isFirst_19 (by decide) ?_
    exact jg_ireturn (pc := 23) X hAe hlocks hr d_12_isFirst_23 ⟨(Nat.le_of_ble_eq_true rfl), (Nat.le_of_ble_eq_true rfl)⟩ rfl (⟨by decide, by decide⟩ : jRng 1) hw0 ⟨rfl, h⟩
  · refine jg_iconst (pc := 22) X d_12_isFirst_22 ?_
    exact jg_ireturn (pc := 23) X hAe hlocks hr d_12_isFirst_23 ⟨(Nat.le_of_ble_eq_true rfl), (Nat.le_of_ble_eq_true rfl)⟩ rfl (⟨by decide, by decide⟩ : jRng 0) hw0 ⟨rfl, h⟩
set_option maxHeartbeats 4000000 in
set_option maxRecDepth 100000 in
theorem m_12_groupAt {l : Launch} {Z : jE} {n : Nat} {C : jC} {v1 : Int} {v2 : Int} {v3 : Int} {post : Int → Prop} (rv1 : jRng v1) (rv2 : jRng v2) (rv3 : jRng v3) (hw0 : jWF n C) (h : wp_12_groupAt v1 v2 v3 C post) : jCi l y_12_groupAt prog_14_method_120_code 6 (.int) q_12_groupAt Z n C [jr Z 345, jI v1, jI v2, jI v3] (fun x C9 => C9 = C ∧ post x) := by
  have hn := hw0.2.2.1
  unfold wp_12_groupAt at h
  refine jCi_of (lv0 := [(0, jr Z 345), (1, jI v1), (2, jI v2), (3, jI v3)]) (by decide) (Nat.le_of_ble_eq_true rfl) rfl ?_
  intro p e s m args below meth c A sz X hAe hr hlocks
  refine jg_iload_n (pc := 0) X d_12_groupAt_0 3 rfl ?_
  refine jg_istore (pc := 1) X [(4, jI v3), (0, jr Z 345), (1, jI v1), (2, jI v2), (3, jI v3)] d_12_groupAt_1 (by decide) rfl ?_
  refine jg_iconst (pc := 3) X d_12_groupAt_3 ?_
  refine jg_istore (pc := 4) X [(5, jI 0), (4, jI v3), (0, jr Z 345), (1, jI v1), (2, jI v2), (3, jI v3)] d_12_groupAt_4 (by decide) rfl ?_
  have hw : jWF n C := hw0
  have jl6 : ∀  (N : Nat) (v4 : Int) (v5 : Int) (rv4 : jRng v4) (rv5 : jRng v5), jI2 (wp_12_groupAt_6 v1 v2 C post) N v4 v5 → jG p l e q_12_groupAt s m args below meth c 6 Z A (jws Z n C) 0 0 (MQ below (jQi Z n sz (fun x C9 => C9 = C ∧ post x)) args s q_12_groupAt.cells q_12_groupAt.slots (jA Z n sz)) 6 [(0, jr Z 345), (1, jI v1), (2, jI v2), (4, jI v4), (5, jI v5)] [] := by
    intro   N
    have hn := hw0.2.2.1
    induction N with
    | zero => intro v4 v5 rv4 rv5 h; exact h.elim
    | succ N ih6 =>
      intro v4 v5 rv4 rv5 h
      have h : wp_12_groupAt_6 v1 v2 C post (jI2 (wp_12_groupAt_6 v1 v2 C post) N) v4 v5 := h
      generalize jI2 (wp_12_groupAt_6 v1 v2 C post) N = k6 at h ih6
      unfold wp_12_groupAt_6 at h
      refine jg_iload (pc := 6) X d_12_groupAt_6 4 rfl ?_
      refine jg_aload_n (pc := 8) X d_12_groupAt_8 0 rfl ?_
      refine jg_iload_n (pc := 9) X d_12_groupAt_9 1 rfl ?_
      refine jg_pcallSi (pc := 10) X (m_12_listOf rv1 hw h) jM_12_listOf kw_1686 rfl rfl (Nat.le_of_ble_eq_true rfl) d_12_groupAt_10 ⟨(Nat.le_of_ble_eq_true rfl), (Nat.le_of_ble_eq_true rfl)⟩ ⟨(Nat.le_of_ble_eq_true rfl), (Nat.le_of_ble_eq_true rfl)⟩ (fun x1 r3 h => ?_)
      refine jg_pcallVi (pc := 13) X (m_12_size r3 hw h) jM_12_size kw_1609 (jl_345_12 hn) rfl rfl rfl rfl rfl (Nat.le_of_ble_eq_true rfl) d_12_groupAt_13 ⟨(Nat.le_of_ble_eq_true rfl), (Nat.le_of_ble_eq_true rfl)⟩ ⟨(Nat.le_of_ble_eq_true rfl), (Nat.le_of_ble_eq_true rfl)⟩ (fun x5 r7 h => ?_)
      refine jg_icmp_ge (tgt := 55) (pc := 16) X d_12_groupAt_16 (by decide) rv5 r7 h (fun c9 h => ?_) (fun c9 h => ?_)
      · refine jg_iconst (pc := 55) X d_12_groupAt_55 ?_
        exact jg_ireturn (pc := 56) X hAe hlocks hr d_12_groupAt_56 ⟨(Nat.le_of_ble_eq_true rfl), (Nat.le_of_ble_eq_true rfl)⟩ rfl (⟨by decide, by decide⟩ : jRng (-1)) hw ⟨rfl, h⟩
      · refine jg_iload (pc := 19) X d_12_groupAt_19 3 rfl ?_
        refine jg_if_lt (tgt := 55) (pc := 21) X d_12_groupAt_21 (by decide) rv4 h (fun c10 h => ?_) (fun c10 h => ?_)
        · refine jg_iconst (pc := 55) X d_12_groupAt_55 ?_
          exact jg_ireturn (pc := 56) X hAe hlocks hr d_12_groupAt_56 ⟨(Nat.le_of_ble_eq_true rfl), (Nat.le_of_ble_eq_true rfl)⟩ rfl (⟨by decide, by decide⟩ : jRng (-1)) hw ⟨rfl, h⟩
        · refine jg_aload_n (pc := 24) X d_12_groupAt_24 0 rfl ?_
          refine jg_iload_n (pc := 25) X d_12_groupAt_25 1 rfl ?_
          refine jg_iload_n (pc := 26) X d_12_groupAt_26 2 rfl ?_
          refine jg_iload (pc := 27) X d_12_groupAt_27 4 rfl ?_
          refine jg_pcallVi (pc := 29) X (m_12_isFirst rv1 rv2 rv5 hw h) jM_12_isFirst kw_2012 (jl_345_12 hn) rfl rfl rfl rfl rfl (Nat.le_of_ble_eq_true rfl) d_12_groupAt_29 ⟨(Nat.le_of_ble_eq_true rfl), (Nat.le_of_ble_eq_true rfl)⟩ ⟨(Nat.le_of_ble_eq_true rfl), (Nat.le_of_ble_eq_true rfl)⟩ (fun x11 r13 h => ?_)
          refine jg_if_ne (tgt := 38) (pc := 32) X d_12_groupAt_32 (by decide) r13 h (fun c15 h => ?_) (fun c15 h => ?_)
          · refine jg_goto (tgt := 49) (pc := 35) X d_12_groupAt_35 (by decide) ?_
            refine jg_iinc (pc := 49) X [(5, jI (v5 + 1)), (0, jr Z 345), (1, jI v1), (2, jI v2), (4, jI v4)] d_12_groupAt_49 4 rfl (by decide) rfl ?_
            refine jg_goto (tgt := 6) (pc := 52) X d_12_groupAt_52 (by decide) ?_
            have r16 : jRng (v5 + 1) := by (unfold jRng; exact ⟨by (have z0 : jRng v5 := rv5; have z1 : jRng x5 := r7; unfold jRng at z0 z1; omega), by (have z0 : jRng v5 := rv5; have z1 : jRng x5 := r7; unfold jRng at z0 z1; omega)⟩)
            refine jg_sub [1, 2, 3, 4, 0] rfl ?_
            exact ih6 _ _ rv4 r16 h
          · refine jg_iload (pc := 38) X d_12_groupAt_38 3 rfl ?_
            refine jg_if_ne (tgt := 46) (pc := 40) X d_12_groupAt_40 (by decide) rv4 h (fun c17 h => ?_) (fun c17 h => ?_)
            · refine jg_iload (pc := 43) X d_12_groupAt_43 4 rfl ?_
              exact jg_ireturn (pc := 45) X hAe hlocks hr d_12_groupAt_45 ⟨(Nat.le_of_ble_eq_true rfl), (Nat.le_of_ble_eq_true rfl)⟩ rfl rv5 hw ⟨rfl, h⟩
            · refine jg_iinc (pc := 46) X [(4, jI (v4 + (-1))), (0, jr Z 345), (1, jI v1), (2, jI v2), (5, jI v5)] d_12_groupAt_46 3 rfl (by decide) rfl ?_
              refine jg_iinc (pc := 49) X [(5, jI (v5 + 1)), (4, jI (v4 + (-1))), (0, jr Z 345), (1, jI v1), (2, jI v2)] d_12_groupAt_49 4 rfl (by decide) rfl ?_
              refine jg_goto (tgt := 6) (pc := 52) X d_12_groupAt_52 (by decide) ?_
              have r18 : jRng (v4 + (-1)) := by (unfold jRng; exact ⟨by (have z0 : jRng v4 := rv4; unfold jRng at z0; omega), by (have z0 : jRng v4 := rv4; unfold jRng at z0; omega)⟩)
              have r19 : jRng (v5 + 1) := by (unfold jRng; exact ⟨by (have z0 : jRng v5 := rv5; have z1 : jRng x5 := r7; unfold jRng at z0 z1; omega), by (have z0 : jRng v5 := rv5; have z1 : jRng x5 := r7; unfold jRng at z0 z1; omega)⟩)
              refine jg_sub [2, 3, 4, 1, 0] rfl ?_
              exact ih6 _ _ r18 r19 h
  obtain ⟨N, h⟩ := h
  refine jg_sub [2, 3, 4, 1, 0] rfl ?_
  exact jl6   N _ _ rv3 (⟨by decide, by decide⟩ : jRng 0) h
set_option maxHeartbeats 4000000 in
set_option maxRecDepth 100000 in
theorem m_12_group {l : Launch} {Z : jE} {n : Nat} {C : jC} {v1 : Int} {v2 : Int} {v3 : Int} {v4 : Int} {post : Int → jC → Prop} (rv1 : jRng v1) (rv2 : jRng v2) (rv3 : jRng v3) (rv4 : jRng v4) (hw0 : jWF n C) (h : wp_12_group v1 v2 v3 v4 C post) : jCi l y_12_group prog_14_method_121_code 10 (.int) q_12_group Z n C [jr Z 345, jI v1, jI v2, jI v3, jI v4] post := by
  have hn := hw0.2.2.1
  unfold wp_12_group at h
  refine jCi_of (lv0 := [(0, jr Z 345), (1, jI v1), (2, jI v2), (3, jI v3), (4, jI v4)]) (by decide) (Nat.le_of_ble_eq_true rfl) rfl ?_
  intro p e s m args below meth c A sz X hAe hr hlocks
  have jb79 : ∀ (s0 : Int) (v1 : Int) (v2 : Int) (v4 : Int) (v5 : Int) (C : jC) (rs0 : jRng s0) (rv1 : jRng v1) (rv2 : jRng v2) (rv4 : jRng v4) (rv5 : jRng v5) (hw : jWF n C), wp_12_group_79 s0 v1 v2 v4 v5 C post → jG p l e q_12_group s m args below meth c 10 Z A (jws Z n C) 0 0 (MQ below (jQi Z n sz post) args s q_12_group.cells q_12_group.slots (jA Z n sz)) 79 [(0, jr Z 345), (1, jI v1), (2, jI v2), (4, jI v4), (5, jI v5)] [jI s0, jr Z 345] := by
    intro s0 v1 v2 v4 v5 C rs0 rv1 rv2 rv4 rv5 hw h
    unfold wp_12_group_79 at h
    refine jg_iconst (pc := 79) X d_12_group_79 ?_
    refine jg_callVi (pc := 80) X (m_12_throwsIf rs0 (⟨by decide, by decide⟩ : jRng 3) hw h) jM_12_throwsIf kw_1697 (jl_345_12 hn) rfl rfl rfl rfl rfl (Nat.le_of_ble_eq_true rfl) d_12_group_80 ⟨(Nat.le_of_ble_eq_true rfl), (Nat.le_of_ble_eq_true rfl)⟩ ⟨(Nat.le_of_ble_eq_true rfl), (Nat.le_of_ble_eq_true rfl)⟩ (fun x1 C2 r3 w4 h => ?_)
    refine jg_if_eq (tgt := 88) (pc := 83) X d_12_group_83 (by decide) r3 h (fun c5 h => ?_) (fun c5 h => ?_)
    · refine jg_aload_n (pc := 88) X d_12_group_88 0 rfl ?_
      refine jg_iload_n (pc := 89) X d_12_group_89 1 rfl ?_
      refine jg_iload (pc := 90) X d_12_group_90 4 rfl ?_
      refine jg_iload_n (pc := 92) X d_12_group_92 2 rfl ?_
      refine jg_pcallVi (pc := 93) X (m_12_valueAt rv1 rv5 rv2 w4 h) jM_12_valueAt kw_1843 (jl_345_12 hn) rfl rfl rfl rfl rfl (Nat.le_of_ble_eq_true rfl) d_12_group_93 ⟨(Nat.le_of_ble_eq_true rfl), (Nat.le_of_ble_eq_true rfl)⟩ ⟨(Nat.le_of_ble_eq_true rfl), (Nat.le_of_ble_eq_true rfl)⟩ (fun x6 r8 h => ?_)
      refine jg_istore (pc := 96) X [(6, jI x6), (0, jr Z 345), (1, jI v1), (2, jI v2), (4, jI v4), (5, jI v5)] d_12_group_96 (by decide) rfl ?_
      refine jg_iconst (pc := 98) X d_12_group_98 ?_
      refine jg_istore (pc := 99) X [(7, jI 0), (6, jI x6), (0, jr Z 345), (1, jI v1), (2, jI v2), (4, jI v4), (5, jI v5)] d_12_group_99 (by decide) rfl ?_
      refine jg_iload (pc := 101) X d_12_group_101 6 rfl ?_
      refine jg_istore (pc := 103) X [(8, jI v5), (7, jI 0), (6, jI x6), (0, jr Z 345), (1, jI v1), (2, jI v2), (4, jI v4), (5, jI v5)] d_12_group_103 (by decide) rfl ?_
      refine jg_iload (pc := 105) X d_12_group_105 7 rfl ?_
      refine jg_istore (pc := 107) X [(9, jI v5), (8, jI v5), (7, jI 0), (6, jI x6), (0, jr Z 345), (1, jI v1), (2, jI v2), (4, jI v4), (5, jI v5)] d_12_group_107 (by decide) rfl ?_
      have jl109 : ∀ (v6 : Int) (C : jC) (rv6 : jRng v6) (hw : jWF n C) (N : Nat) (v7 : Int) (v8 : Int) (v9 : Int) (rv7 : jRng v7) (rv8 : jRng v8) (rv9 : jRng v9), jI3 (wp_12_group_109 v1 v2 v4 v5 v6 C post) N v7 v8 v9 → jG p l e q_12_group s m args below meth c 10 Z A (jws Z n C) 0 0 (MQ below (jQi Z n sz post) args s q_12_group.cells q_12_group.slots (jA Z n sz)) 109 [(0, jr Z 345), (1, jI v1), (2, jI v2), (4, jI v4), (5, jI v5), (6, jI v6), (7, jI v7), (8, jI v8), (9, jI v9)] [] := by
        intro v6 C rv6 hw N
        have hn := hw0.2.2.1
        induction N with
        | zero => intro v7 v8 v9 rv7 rv8 rv9 h; exact h.elim
        | succ N ih109 =>
          intro v7 v8 v9 rv7 rv8 rv9 h
          have h : wp_12_group_109 v1 v2 v4 v5 v6 C post (jI3 (wp_12_group_109 v1 v2 v4 v5 v6 C post) N) v7 v8 v9 := h
          generalize jI3 (wp_12_group_109 v1 v2 v4 v5 v6 C post) N = k109 at h ih109
          unfold wp_12_group_109 at h
          refine jg_iload (pc := 109) X d_12_group_109 8 rfl ?_
          refine jg_aload_n (pc := 111) X d_12_group_111 0 rfl ?_
          refine jg_iload_n (pc := 112) X d_12_group_112 1 rfl ?_
          refine jg_pcallSi (pc := 113) X (m_12_listOf rv1 hw h) jM_12_listOf kw_1686 rfl rfl (Nat.le_of_ble_eq_true rfl) d_12_group_113 ⟨(Nat.le_of_ble_eq_true rfl), (Nat.le_of_ble_eq_true rfl)⟩ ⟨(Nat.le_of_ble_eq_true rfl), (Nat.le_of_ble_eq_true rfl)⟩ (fun x10 r12 h => ?_)
          refine jg_pcallVi (pc := 116) X (m_12_size r12 hw h) jM_12_size kw_1609 (jl_345_12 hn) rfl rfl rfl rfl rfl (Nat.le_of_ble_eq_true rfl) d_12_group_116 ⟨(Nat.le_of_ble_eq_true rfl), (Nat.le_of_ble_eq_true rfl)⟩ ⟨(Nat.le_of_ble_eq_true rfl), (Nat.le_of_ble_eq_true rfl)⟩ (fun x14 r16 h => ?_)
          refine jg_icmp_ge (tgt := 151) (pc := 119) X d_12_group_119 (by decide) rv9 r16 h (fun c18 h => ?_) (fun c18 h => ?_)
          · refine jg_iload (pc := 151) X d_12_group_151 3 rfl ?_
            refine jg_if_ne (tgt := 161) (pc := 153) X d_12_group_153 (by decide) rv4 h (fun c19 h => ?_) (fun c19 h => ?_)
            · refine jg_iload (pc := 156) X d_12_group_156 5 rfl ?_
              refine jg_goto (tgt := 185) (pc := 158) X d_12_group_158 (by decide) ?_
              exact jg_ireturn (pc := 185) X hAe hlocks hr d_12_group_185 ⟨(Nat.le_of_ble_eq_true rfl), (Nat.le_of_ble_eq_true rfl)⟩ rfl rv6 hw h
            · refine jg_iload (pc := 161) X d_12_group_161 3 rfl ?_
              refine jg_iconst (pc := 163) X d_12_group_163 ?_
              refine jg_icmp_ne (tgt := 172) (pc := 164) X d_12_group_164 (by decide) rv4 (⟨by decide, by decide⟩ : jRng 1) h (fun c20 h => ?_) (fun c20 h => ?_)
              · refine jg_iload (pc := 167) X d_12_group_167 6 rfl ?_
                refine jg_goto (tgt := 185) (pc := 169) X d_12_group_169 (by decide) ?_
                exact jg_ireturn (pc := 185) X hAe hlocks hr d_12_group_185 ⟨(Nat.le_of_ble_eq_true rfl), (Nat.le_of_ble_eq_true rfl)⟩ rfl rv7 hw h
              · refine jg_iload (pc := 172) X d_12_group_172 3 rfl ?_
                refine jg_iconst (pc := 174) X d_12_group_174 ?_
                refine jg_icmp_ne (tgt := 183) (pc := 175) X d_12_group_175 (by decide) rv4 (⟨by decide, by decide⟩ : jRng 2) h (fun c21 h => ?_) (fun c21 h => ?_)
                · refine jg_iload (pc := 178) X d_12_group_178 4 rfl ?_
                  refine jg_goto (tgt := 185) (pc := 180) X d_12_group_180 (by decide) ?_
                  exact jg_ireturn (pc := 185) X hAe hlocks hr d_12_group_185 ⟨(Nat.le_of_ble_eq_true rfl), (Nat.le_of_ble_eq_true rfl)⟩ rfl rv5 hw h
                · refine jg_iload (pc := 183) X d_12_group_183 7 rfl ?_
                  exact jg_ireturn (pc := 185) X hAe hlocks hr d_12_group_185 ⟨(Nat.le_of_ble_eq_true rfl), (Nat.le_of_ble_eq_true rfl)⟩ rfl rv8 hw h
          · refine jg_aload_n (pc := 122) X d_12_group_122 0 rfl ?_
            refine jg_iload_n (pc := 123) X d_12_group_123 1 rfl ?_
            refine jg_iload (pc := 124) X d_12_group_124 8 rfl ?_
            refine jg_iload_n (pc := 126) X d_12_group_126 2 rfl ?_
            refine jg_pcallVi (pc := 127) X (m_12_valueAt rv1 rv9 rv2 hw h) jM_12_valueAt kw_1843 (jl_345_12 hn) rfl rfl rfl rfl rfl (Nat.le_of_ble_eq_true rfl) d_12_group_127 ⟨(Nat.le_of_ble_eq_true rfl), (Nat.le_of_ble_eq_true rfl)⟩ ⟨(Nat.le_of_ble_eq_true rfl), (Nat.le_of_ble_eq_true rfl)⟩ (fun x22 r24 h => ?_)
            refine jg_iload (pc := 130) X d_12_group_130 5 rfl ?_
            refine jg_icmp_eq (tgt := 138) (pc := 132) X d_12_group_132 (by decide) r24 rv6 h (fun c26 h => ?_) (fun c26 h => ?_)
            · refine jg_iinc (pc := 138) X [(7, jI (v7 + 1)), (0, jr Z 345), (1, jI v1), (2, jI v2), (4, jI v4), (5, jI v5), (6, jI v6), (8, jI v8), (9, jI v9)] d_12_group_138 6 rfl (by decide) rfl ?_
              refine jg_iload (pc := 141) X d_12_group_141 8 rfl ?_
              refine jg_istore (pc := 143) X [(8, jI v9), (7, jI (v7 + 1)), (0, jr Z 345), (1, jI v1), (2, jI v2), (4, jI v4), (5, jI v5), (6, jI v6), (9, jI v9)] d_12_group_143 (by decide) rfl ?_
              refine jg_iinc (pc := 145) X [(9, jI (v9 + 1)), (8, jI v9), (7, jI (v7 + 1)), (0, jr Z 345), (1, jI v1), (2, jI v2), (4, jI v4), (5, jI v5), (6, jI v6)] d_12_group_145 8 rfl (by decide) rfl ?_
              refine jg_goto (tgt := 109) (pc := 148) X d_12_group_148 (by decide) ?_
              obtain ⟨r27, h⟩ := h
              have r28 : jRng (v9 + 1) := by (unfold jRng; exact ⟨by (have z0 : jRng v9 := rv9; have z1 : jRng x14 := r16; unfold jRng at z0 z1; omega), by (have z0 : jRng v9 := rv9; have z1 : jRng x14 := r16; unfold jRng at z0 z1; omega)⟩)
              refine jg_sub [3, 4, 5, 6, 7, 8, 2, 1, 0] rfl ?_
              exact ih109 _ _ _ r27 rv9 r28 h
            · refine jg_goto (tgt := 145) (pc := 135) X d_12_group_135 (by decide) ?_
              refine jg_iinc (pc := 145) X [(9, jI (v9 + 1)), (0, jr Z 345), (1, jI v1), (2, jI v2), (4, jI v4), (5, jI v5), (6, jI v6), (7, jI v7), (8, jI v8)] d_12_group_145 8 rfl (by decide) rfl ?_
              refine jg_goto (tgt := 109) (pc := 148) X d_12_group_148 (by decide) ?_
              have r29 : jRng (v9 + 1) := by (unfold jRng; exact ⟨by (have z0 : jRng v9 := rv9; have z1 : jRng x14 := r16; unfold jRng at z0 z1; omega), by (have z0 : jRng v9 := rv9; have z1 : jRng x14 := r16; unfold jRng at z0 z1; omega)⟩)
              refine jg_sub [1, 2, 3, 4, 5, 6, 7, 8, 0] rfl ?_
              exact ih109 _ _ _ rv7 rv8 r29 h
      obtain ⟨N, h⟩ := h
      refine jg_sub [4, 5, 6, 7, 8, 3, 2, 1, 0] rfl ?_
      exact jl109 _ _ r8 w4 N _ _ _ (⟨by decide, by decide⟩ : jRng 0) rv5 rv5 h
    · refine jg_iconst (pc := 86) X d_12_group_86 ?_
      exact jg_ireturn (pc := 87) X hAe hlocks hr d_12_group_87 ⟨(Nat.le_of_ble_eq_true rfl), (Nat.le_of_ble_eq_true rfl)⟩ rfl (⟨by decide, by decide⟩ : jRng 0) w4 h
  have jb49 : ∀ (s0 : Int) (v1 : Int) (v2 : Int) (v3 : Int) (v4 : Int) (C : jC) (rs0 : jRng s0) (rv1 : jRng v1) (rv2 : jRng v2) (rv3 : jRng v3) (rv4 : jRng v4) (hw : jWF n C), wp_12_group_49 s0 v1 v2 v3 v4 C post → jG p l e q_12_group s m args below meth c 10 Z A (jws Z n C) 0 0 (MQ below (jQi Z n sz post) args s q_12_group.cells q_12_group.slots (jA Z n sz)) 49 [(0, jr Z 345), (1, jI v1), (2, jI v2), (3, jI v3), (4, jI v4)] [jI s0, jr Z 345] := by
    intro s0 v1 v2 v3 v4 C rs0 rv1 rv2 rv3 rv4 hw h
    unfold wp_12_group_49 at h
    refine jg_iconst (pc := 49) X d_12_group_49 ?_
    refine jg_callVi (pc := 50) X (m_12_throwsIf rs0 (⟨by decide, by decide⟩ : jRng 2) hw h) jM_12_throwsIf kw_1697 (jl_345_12 hn) rfl rfl rfl rfl rfl (Nat.le_of_ble_eq_true rfl) d_12_group_50 ⟨(Nat.le_of_ble_eq_true rfl), (Nat.le_of_ble_eq_true rfl)⟩ ⟨(Nat.le_of_ble_eq_true rfl), (Nat.le_of_ble_eq_true rfl)⟩ (fun x30 C31 r32 w33 h => ?_)
    refine jg_if_eq (tgt := 58) (pc := 53) X d_12_group_53 (by decide) r32 h (fun c34 h => ?_) (fun c34 h => ?_)
    · refine jg_aload_n (pc := 58) X d_12_group_58 0 rfl ?_
      refine jg_iload_n (pc := 59) X d_12_group_59 1 rfl ?_
      refine jg_iload_n (pc := 60) X d_12_group_60 2 rfl ?_
      refine jg_iload_n (pc := 61) X d_12_group_61 3 rfl ?_
      refine jg_pcallVi (pc := 62) X (m_12_groupAt rv1 rv2 rv3 w33 h) jM_12_groupAt kw_2008 (jl_345_12 hn) rfl rfl rfl rfl rfl (Nat.le_of_ble_eq_true rfl) d_12_group_62 ⟨(Nat.le_of_ble_eq_true rfl), (Nat.le_of_ble_eq_true rfl)⟩ ⟨(Nat.le_of_ble_eq_true rfl), (Nat.le_of_ble_eq_true rfl)⟩ (fun x35 r37 h => ?_)
      refine jg_istore (pc := 65) X [(5, jI x35), (0, jr Z 345), (1, jI v1), (2, jI v2), (3, jI v3), (4, jI v4)] d_12_group_65 (by decide) rfl ?_
      refine jg_aload_n (pc := 67) X d_12_group_67 1 rfl ?_
      refine jg_iload (pc := 68) X d_12_group_68 0 rfl ?_
      refine jg_iconst (pc := 70) X d_12_group_70 ?_
      refine jg_icmp_ne (tgt := 78) (pc := 71) X d_12_group_71 (by decide) r37 (⟨by decide, by decide⟩ : jRng (-1)) h (fun c39 h => ?_) (fun c39 h => ?_)
      · refine jg_iconst (pc := 74) X d_12_group_74 ?_
        refine jg_goto (tgt := 79) (pc := 75) X d_12_group_75 (by decide) ?_
        refine jg_sub [1, 2, 3, 5, 0] rfl ?_
        exact jb79 _ _ _ _ _ _ (⟨by decide, by decide⟩ : jRng 1) rv1 rv2 rv4 r37 w33 h
      · refine jg_iconst (pc := 78) X d_12_group_78 ?_
        refine jg_sub [1, 2, 3, 5, 0] rfl ?_
        exact jb79 _ _ _ _ _ _ (⟨by decide, by decide⟩ : jRng 0) rv1 rv2 rv4 r37 w33 h
    · refine jg_iconst (pc := 56) X d_12_group_56 ?_
      exact jg_ireturn (pc := 57) X hAe hlocks hr d_12_group_57 ⟨(Nat.le_of_ble_eq_true rfl), (Nat.le_of_ble_eq_true rfl)⟩ rfl (⟨by decide, by decide⟩ : jRng 0) w33 h
  have jb26 : ∀ (s0 : Int) (v1 : Int) (v2 : Int) (v3 : Int) (v4 : Int) (C : jC) (rs0 : jRng s0) (rv1 : jRng v1) (rv2 : jRng v2) (rv3 : jRng v3) (rv4 : jRng v4) (hw : jWF n C), wp_12_group_26 s0 v1 v2 v3 v4 C post → jG p l e q_12_group s m args below meth c 10 Z A (jws Z n C) 0 0 (MQ below (jQi Z n sz post) args s q_12_group.cells q_12_group.slots (jA Z n sz)) 26 [(0, jr Z 345), (1, jI v1), (2, jI v2), (3, jI v3), (4, jI v4)] [jI s0, jr Z 345] := by
    intro s0 v1 v2 v3 v4 C rs0 rv1 rv2 rv3 rv4 hw h
    unfold wp_12_group_26 at h
    refine jg_iconst (pc := 26) X d_12_group_26 ?_
    refine jg_callVi (pc := 27) X (m_12_throwsIf rs0 (⟨by decide, by decide⟩ : jRng 1) hw h) jM_12_throwsIf kw_1697 (jl_345_12 hn) rfl rfl rfl rfl rfl (Nat.le_of_ble_eq_true rfl) d_12_group_27 ⟨(Nat.le_of_ble_eq_true rfl), (Nat.le_of_ble_eq_true rfl)⟩ ⟨(Nat.le_of_ble_eq_true rfl), (Nat.le_of_ble_eq_true rfl)⟩ (fun x40 C41 r42 w43 h => ?_)
    refine jg_if_ne (tgt := 56) (pc := 30) X d_12_group_30 (by decide) r42 h (fun c44 h => ?_) (fun c44 h => ?_)
    · refine jg_aload_n (pc := 33) X d_12_group_33 0 rfl ?_
      refine jg_iload (pc := 34) X d_12_group_34 4 rfl ?_
      refine jg_iconst (pc := 36) X d_12_group_36 ?_
      refine jg_iconst (pc := 37) X d_12_group_37 ?_
      refine jg_pcallSi (pc := 38) X (m_12_in rv4 (⟨by decide, by decide⟩ : jRng 0) (⟨by decide, by decide⟩ : jRng 3) w43 h) jM_12_in kw_1638 rfl rfl (Nat.le_of_ble_eq_true rfl) d_12_group_38 ⟨(Nat.le_of_ble_eq_true rfl), (Nat.le_of_ble_eq_true rfl)⟩ ⟨(Nat.le_of_ble_eq_true rfl), (Nat.le_of_ble_eq_true rfl)⟩ (fun x45 r47 h => ?_)
      refine jg_if_ne (tgt := 48) (pc := 41) X d_12_group_41 (by decide) r47 h (fun c49 h => ?_) (fun c49 h => ?_)
      · refine jg_iconst (pc := 44) X d_12_group_44 ?_
        refine jg_goto (tgt := 49) (pc := 45) X d_12_group_45 (by decide) ?_
        refine jg_sub [0, 1, 2, 3, 4] rfl ?_
        exact jb49 _ _ _ _ _ _ (⟨by decide, by decide⟩ : jRng 1) rv1 rv2 rv3 rv4 w43 h
      · refine jg_iconst (pc := 48) X d_12_group_48 ?_
        refine jg_sub [0, 1, 2, 3, 4] rfl ?_
        exact jb49 _ _ _ _ _ _ (⟨by decide, by decide⟩ : jRng 0) rv1 rv2 rv3 rv4 w43 h
    · refine jg_iconst (pc := 56) X d_12_group_56 ?_
      exact jg_ireturn (pc := 57) X hAe hlocks hr d_12_group_57 ⟨(Nat.le_of_ble_eq_true rfl), (Nat.le_of_ble_eq_true rfl)⟩ rfl (⟨by decide, by decide⟩ : jRng 0) w43 h
  refine jg_aload_n (pc := 0) X d_12_group_0 0 rfl ?_
  refine jg_iconst (pc := 1) X d_12_group_1 ?_
  refine jgp_12_0 (pc := 2) X (jl_345_12 hn) kw_1473 d_12_group_2 ?_
  have w50 := jWF.u (k := 0) (v := 0) hw0 (jl_345_12 hn) (by decide) (⟨by decide, by decide⟩ : jRng 0)
  refine jg_aload_n (pc := 5) X d_12_group_5 0 rfl ?_
  refine jg_iload_n (pc := 6) X d_12_group_6 1 rfl ?_
  refine jg_pcallSi (pc := 7) X (m_12_noView rv1 w50 h) jM_12_noView kw_1705 rfl rfl (Nat.le_of_ble_eq_true rfl) d_12_group_7 ⟨(Nat.le_of_ble_eq_true rfl), (Nat.le_of_ble_eq_true rfl)⟩ ⟨(Nat.le_of_ble_eq_true rfl), (Nat.le_of_ble_eq_true rfl)⟩ (fun x51 r53 h => ?_)
  refine jg_if_ne (tgt := 21) (pc := 10) X d_12_group_10 (by decide) r53 h (fun c55 h => ?_) (fun c55 h => ?_)
  · refine jg_aload_n (pc := 13) X d_12_group_13 0 rfl ?_
    refine jg_iload_n (pc := 14) X d_12_group_14 2 rfl ?_
    refine jg_pcallVi (pc := 15) X (m_12_noColumn rv2 w50 h) jM_12_noColumn kw_1798 (jl_345_12 hn) rfl rfl rfl rfl rfl (Nat.le_of_ble_eq_true rfl) d_12_group_15 ⟨(Nat.le_of_ble_eq_true rfl), (Nat.le_of_ble_eq_true rfl)⟩ ⟨(Nat.le_of_ble_eq_true rfl), (Nat.le_of_ble_eq_true rfl)⟩ (fun x56 r58 h => ?_)
    refine jg_if_eq (tgt := 25) (pc := 18) X d_12_group_18 (by decide) r58 h (fun c60 h => ?_) (fun c60 h => ?_)
    · refine jg_iconst (pc := 25) X d_12_group_25 ?_
      refine jg_sub [0, 1, 2, 3, 4] rfl ?_
      exact jb26 _ _ _ _ _ _ (⟨by decide, by decide⟩ : jRng 0) rv1 rv2 rv3 rv4 w50 h
    · refine jg_iconst (pc := 21) X d_12_group_21 ?_
      refine jg_goto (tgt := 26) (pc := 22) X d_12_group_22 (by decide) ?_
      refine jg_sub [0, 1, 2, 3, 4] rfl ?_
      exact jb26 _ _ _ _ _ _ (⟨by decide, by decide⟩ : jRng 1) rv1 rv2 rv3 rv4 w50 h
  · refine jg_iconst (pc := 21) X d_12_group_21 ?_
    refine jg_goto (tgt := 26) (pc := 22) X d_12_group_22 (by decide) ?_
    refine jg_sub [0, 1, 2, 3, 4] rfl ?_
    exact jb26 _ _ _ _ _ _ (⟨by decide, by decide⟩ : jRng 1) rv1 rv2 rv3 rv4 w50 h
set_option maxHeartbeats 4000000 in
set_option maxRecDepth 100000 in
theorem m_12_total {l : Launch} {Z : jE} {n : Nat} {C : jC} {v1 : Int} {v2 : Int} {v3 : Int} {v4 : Int} {post : Int → jC → Prop} (rv1 : jRng v1) (rv2 : jRng v2) (rv3 : jRng v3) (rv4 : jRng v4) (hw0 : jWF n C) (h : wp_12_total v1 v2 v3 v4 C post) : jCi l y_12_total prog_14_method_122_code 9 (.int) q_12_total Z n C [jr Z 345, jI v1, jI v2, jI v3, jI v4] post := by
  have hn := hw0.2.2.1
  unfold wp_12_total at h
  refine jCi_of (lv0 := [(0, jr Z 345), (1, jI v1), (2, jI v2), (3, jI v3), (4, jI v4)]) (by decide) (Nat.le_of_ble_eq_true rfl) rfl ?_
  intro p e s m args below meth c A sz X hAe hr hlocks
  have jb35 : ∀ (s0 : Int) (v1 : Int) (v2 : Int) (v3 : Int) (v4 : Int) (C : jC) (rs0 : jRng s0) (rv1 : jRng v1) (rv2 : jRng v2) (rv3 : jRng v3) (rv4 : jRng v4) (hw : jWF n C), wp_12_total_35 s0 v1 v2 v3 v4 C post → jG p l e q_12_total s m args below meth c 9 Z A (jws Z n C) 0 0 (MQ below (jQi Z n sz post) args s q_12_total.cells q_12_total.slots (jA Z n sz)) 35 [(0, jr Z 345), (1, jI v1), (2, jI v2), (3, jI v3), (4, jI v4)] [jI s0, jr Z 345] := by
    intro s0 v1 v2 v3 v4 C rs0 rv1 rv2 rv3 rv4 hw h
    unfold wp_12_total_35 at h
    refine jg_iconst (pc := 35) X d_12_total_35 ?_
    refine jg_callVi (pc := 36) X (m_12_throwsIf rs0 (⟨by decide, by decide⟩ : jRng 1) hw h) jM_12_throwsIf kw_1697 (jl_345_12 hn) rfl rfl rfl rfl rfl (Nat.le_of_ble_eq_true rfl) d_12_total_36 ⟨(Nat.le_of_ble_eq_true rfl), (Nat.le_of_ble_eq_true rfl)⟩ ⟨(Nat.le_of_ble_eq_true rfl), (Nat.le_of_ble_eq_true rfl)⟩ (fun x1 C2 r3 w4 h => ?_)
    refine jg_if_ne (tgt := 56) (pc := 39) X d_12_total_39 (by decide) r3 h (fun c5 h => ?_) (fun c5 h => ?_)
    · refine jg_aload_n (pc := 42) X d_12_total_42 0 rfl ?_
      refine jg_aload_n (pc := 43) X d_12_total_43 0 rfl ?_
      refine jg_iload (pc := 44) X d_12_total_44 4 rfl ?_
      refine jg_pcallVi (pc := 46) X (m_12_isWords rv4 w4 h) jM_12_isWords kw_1626 (jl_345_12 hn) rfl rfl rfl rfl rfl (Nat.le_of_ble_eq_true rfl) d_12_total_46 ⟨(Nat.le_of_ble_eq_true rfl), (Nat.le_of_ble_eq_true rfl)⟩ ⟨(Nat.le_of_ble_eq_true rfl), (Nat.le_of_ble_eq_true rfl)⟩ (fun x6 r8 h => ?_)
      refine jg_iconst (pc := 49) X d_12_total_49 ?_
      refine jg_callVi (pc := 50) X (m_12_throwsIf r8 (⟨by decide, by decide⟩ : jRng 2) w4 h) jM_12_throwsIf kw_1697 (jl_345_12 hn) rfl rfl rfl rfl rfl (Nat.le_of_ble_eq_true rfl) d_12_total_50 ⟨(Nat.le_of_ble_eq_true rfl), (Nat.le_of_ble_eq_true rfl)⟩ ⟨(Nat.le_of_ble_eq_true rfl), (Nat.le_of_ble_eq_true rfl)⟩ (fun x10 C11 r12 w13 h => ?_)
      refine jg_if_eq (tgt := 58) (pc := 53) X d_12_total_53 (by decide) r12 h (fun c14 h => ?_) (fun c14 h => ?_)
      · refine jg_aload_n (pc := 58) X d_12_total_58 0 rfl ?_
        refine jg_iload_n (pc := 59) X d_12_total_59 1 rfl ?_
        refine jg_iload_n (pc := 60) X d_12_total_60 2 rfl ?_
        refine jg_iload_n (pc := 61) X d_12_total_61 3 rfl ?_
        refine jg_pcallVi (pc := 62) X (m_12_groupAt rv1 rv2 rv3 w13 h) jM_12_groupAt kw_2008 (jl_345_12 hn) rfl rfl rfl rfl rfl (Nat.le_of_ble_eq_true rfl) d_12_total_62 ⟨(Nat.le_of_ble_eq_true rfl), (Nat.le_of_ble_eq_true rfl)⟩ ⟨(Nat.le_of_ble_eq_true rfl), (Nat.le_of_ble_eq_true rfl)⟩ (fun x15 r17 h => ?_)
        refine jg_istore (pc := 65) X [(5, jI x15), (0, jr Z 345), (1, jI v1), (2, jI v2), (3, jI v3), (4, jI v4)] d_12_total_65 (by decide) rfl ?_
        refine jg_aload_n (pc := 67) X d_12_total_67 1 rfl ?_
        refine jg_iload (pc := 68) X d_12_total_68 0 rfl ?_
        refine jg_iconst (pc := 70) X d_12_total_70 ?_
        refine jg_icmp_ne (tgt := 78) (pc := 71) X d_12_total_71 (by decide) r17 (⟨by decide, by decide⟩ : jRng (-1)) h (fun c19 h => ?_) (fun c19 h => ?_)
        · refine jg_iconst (pc := 74) X d_12_total_74 ?_
          refine jg_goto (tgt := 79) (pc := 75) X d_12_total_75 (by decide) ?_
          refine jg_iconst (pc := 79) X d_12_total_79 ?_
          refine jg_callVi (pc := 80) X (m_12_throwsIf (⟨by decide, by decide⟩ : jRng 1) (⟨by decide, by decide⟩ : jRng 3) w13 h) jM_12_throwsIf kw_1697 (jl_345_12 hn) rfl rfl rfl rfl rfl (Nat.le_of_ble_eq_true rfl) d_12_total_80 ⟨(Nat.le_of_ble_eq_true rfl), (Nat.le_of_ble_eq_true rfl)⟩ ⟨(Nat.le_of_ble_eq_true rfl), (Nat.le_of_ble_eq_true rfl)⟩ (fun x20 C21 r22 w23 h => ?_)
          refine jg_if_eq (tgt := 88) (pc := 83) X d_12_total_83 (by decide) r22 h (fun c24 h => ?_) (fun c24 h => ?_)
          · refine jg_iconst (pc := 88) X d_12_total_88 ?_
            refine jg_istore (pc := 89) X [(6, jI 0), (5, jI x15), (0, jr Z 345), (1, jI v1), (2, jI v2), (3, jI v3), (4, jI v4)] d_12_total_89 (by decide) rfl ?_
            refine jg_iload (pc := 91) X d_12_total_91 1 rfl ?_
            refine jg_istore (pc := 93) X [(7, jI x15), (6, jI 0), (5, jI x15), (0, jr Z 345), (1, jI v1), (2, jI v2), (3, jI v3), (4, jI v4)] d_12_total_93 (by decide) rfl ?_
            have jl95 : ∀ (v5 : Int) (C : jC) (rv5 : jRng v5) (hw : jWF n C) (N : Nat) (v6 : Int) (v7 : Int) (rv6 : jRng v6) (rv7 : jRng v7), jI2 (wp_12_total_95 v1 v2 v4 v5 C post) N v6 v7 → jG p l e q_12_total s m args below meth c 9 Z A (jws Z n C) 0 0 (MQ below (jQi Z n sz post) args s q_12_total.cells q_12_total.slots (jA Z n sz)) 95 [(0, jr Z 345), (1, jI v1), (2, jI v2), (4, jI v4), (5, jI v5), (6, jI v6), (7, jI v7)] [] := by
              intro v5 C rv5 hw N
              have hn := hw0.2.2.1
              induction N with
              | zero => intro v6 v7 rv6 rv7 h; exact h.elim
              | succ N ih95 =>
                intro v6 v7 rv6 rv7 h
                have h : wp_12_total_95 v1 v2 v4 v5 C post (jI2 (wp_12_total_95 v1 v2 v4 v5 C post) N) v6 v7 := h
                generalize jI2 (wp_12_total_95 v1 v2 v4 v5 C post) N = k95 at h ih95
                unfold wp_12_total_95 at h
                have jb146 : ∀ (s0 : Int) (v6 : Int) (v7 : Int) (rs0 : jRng s0) (rv6 : jRng v6) (rv7 : jRng v7), wp_12_total_146 s0 v1 v2 v4 v5 v6 v7 C post k95 → jG p l e q_12_total s m args below meth c 9 Z A (jws Z n C) 0 0 (MQ below (jQi Z n sz post) args s q_12_total.cells q_12_total.slots (jA Z n sz)) 146 [(0, jr Z 345), (1, jI v1), (2, jI v2), (4, jI v4), (5, jI v5), (6, jI v6), (7, jI v7)] [jI s0] := by
                  intro s0 v6 v7 rs0 rv6 rv7 h
                  unfold wp_12_total_146 at h
                  refine jg_istore (pc := 146) X [(8, jI s0), (0, jr Z 345), (1, jI v1), (2, jI v2), (4, jI v4), (5, jI v5), (6, jI v6), (7, jI v7)] d_12_total_146 (by decide) rfl ?_
                  refine jg_iload (pc := 148) X d_12_total_148 6 rfl ?_
                  refine jg_iload (pc := 150) X d_12_total_150 0 rfl ?_
                  refine jg_if_eq (tgt := 167) (pc := 152) X d_12_total_152 (by decide) rs0 h (fun c25 h => ?_) (fun c25 h => ?_)
                  · refine jg_iconst (pc := 167) X d_12_total_167 ?_
                    refine jg_iadd (pc := 168) X d_12_total_168 ?_
                    refine jg_istore (pc := 169) X [(6, jI (v6 + 0)), (8, jI s0), (0, jr Z 345), (1, jI v1), (2, jI v2), (4, jI v4), (5, jI v5), (7, jI v7)] d_12_total_169 (by decide) rfl ?_
                    refine jg_iinc (pc := 171) X [(7, jI (v7 + 1)), (6, jI (v6 + 0)), (8, jI s0), (0, jr Z 345), (1, jI v1), (2, jI v2), (4, jI v4), (5, jI v5)] d_12_total_171 7 rfl (by decide) rfl ?_
                    refine jg_goto (tgt := 95) (pc := 174) X d_12_total_174 (by decide) ?_
                    obtain ⟨r27, h⟩ := h
                    have r26 : jRng (v6 + 0) := by (unfold jRng; exact ⟨by (have z0 : jRng v6 := rv6; unfold jRng at z0; omega), by (have z0 : jRng v6 := rv6; unfold jRng at z0; omega)⟩)
                    refine jg_sub [3, 4, 5, 6, 7, 1, 0] rfl ?_
                    exact ih95 _ _ r26 r27 h
                  · refine jg_aload_n (pc := 155) X d_12_total_155 1 rfl ?_
                    refine jg_iload_n (pc := 156) X d_12_total_156 2 rfl ?_
                    refine jg_iload (pc := 157) X d_12_total_157 7 rfl ?_
                    refine jg_iload (pc := 159) X d_12_total_159 4 rfl ?_
                    refine jg_pcallVi (pc := 161) X (m_12_valueAt rv1 rv7 rv4 hw h) jM_12_valueAt kw_1843 (jl_345_12 hn) rfl rfl rfl rfl rfl (Nat.le_of_ble_eq_true rfl) d_12_total_161 ⟨(Nat.le_of_ble_eq_true rfl), (Nat.le_of_ble_eq_true rfl)⟩ ⟨(Nat.le_of_ble_eq_true rfl), (Nat.le_of_ble_eq_true rfl)⟩ (fun x28 r30 h => ?_)
                    refine jg_goto (tgt := 168) (pc := 164) X d_12_total_164 (by decide) ?_
                    refine jg_iadd (pc := 168) X d_12_total_168 ?_
                    refine jg_istore (pc := 169) X [(6, jI (v6 + x28)), (8, jI s0), (0, jr Z 345), (1, jI v1), (2, jI v2), (4, jI v4), (5, jI v5), (7, jI v7)] d_12_total_169 (by decide) rfl ?_
                    refine jg_iinc (pc := 171) X [(7, jI (v7 + 1)), (6, jI (v6 + x28)), (8, jI s0), (0, jr Z 345), (1, jI v1), (2, jI v2), (4, jI v4), (5, jI v5)] d_12_total_171 7 rfl (by decide) rfl ?_
                    refine jg_goto (tgt := 95) (pc := 174) X d_12_total_174 (by decide) ?_
                    obtain ⟨r32, r33, h⟩ := h
                    refine jg_sub [3, 4, 5, 6, 7, 1, 0] rfl ?_
                    exact ih95 _ _ r32 r33 h
                refine jg_iload (pc := 95) X d_12_total_95 6 rfl ?_
                refine jg_aload_n (pc := 97) X d_12_total_97 0 rfl ?_
                refine jg_iload_n (pc := 98) X d_12_total_98 1 rfl ?_
                refine jg_pcallSi (pc := 99) X (m_12_listOf rv1 hw h) jM_12_listOf kw_1686 rfl rfl (Nat.le_of_ble_eq_true rfl) d_12_total_99 ⟨(Nat.le_of_ble_eq_true rfl), (Nat.le_of_ble_eq_true rfl)⟩ ⟨(Nat.le_of_ble_eq_true rfl), (Nat.le_of_ble_eq_true rfl)⟩ (fun x34 r36 h => ?_)
                refine jg_pcallVi (pc := 102) X (m_12_size r36 hw h) jM_12_size kw_1609 (jl_345_12 hn) rfl rfl rfl rfl rfl (Nat.le_of_ble_eq_true rfl) d_12_total_102 ⟨(Nat.le_of_ble_eq_true rfl), (Nat.le_of_ble_eq_true rfl)⟩ ⟨(Nat.le_of_ble_eq_true rfl), (Nat.le_of_ble_eq_true rfl)⟩ (fun x38 r40 h => ?_)
                refine jg_icmp_ge (tgt := 177) (pc := 105) X d_12_total_105 (by decide) rv7 r40 h (fun c42 h => ?_) (fun c42 h => ?_)
                · refine jg_iload (pc := 177) X d_12_total_177 5 rfl ?_
                  exact jg_ireturn (pc := 179) X hAe hlocks hr d_12_total_179 ⟨(Nat.le_of_ble_eq_true rfl), (Nat.le_of_ble_eq_true rfl)⟩ rfl rv6 hw h
                · refine jg_aload_n (pc := 108) X d_12_total_108 0 rfl ?_
                  refine jg_iload_n (pc := 109) X d_12_total_109 1 rfl ?_
                  refine jg_iload (pc := 110) X d_12_total_110 6 rfl ?_
                  refine jg_iload_n (pc := 112) X d_12_total_112 2 rfl ?_
                  refine jg_pcallVi (pc := 113) X (m_12_valueAt rv1 rv7 rv2 hw h) jM_12_valueAt kw_1843 (jl_345_12 hn) rfl rfl rfl rfl rfl (Nat.le_of_ble_eq_true rfl) d_12_total_113 ⟨(Nat.le_of_ble_eq_true rfl), (Nat.le_of_ble_eq_true rfl)⟩ ⟨(Nat.le_of_ble_eq_true rfl), (Nat.le_of_ble_eq_true rfl)⟩ (fun x43 r45 h => ?_)
                  refine jg_aload_n (pc := 116) X d_12_total_116 0 rfl ?_
                  refine jg_iload_n (pc := 117) X d_12_total_117 1 rfl ?_
                  refine jg_iload (pc := 118) X d_12_total_118 4 rfl ?_
                  refine jg_iload_n (pc := 120) X d_12_total_120 2 rfl ?_
                  refine jg_pcallVi (pc := 121) X (m_12_valueAt rv1 rv5 rv2 hw h) jM_12_valueAt kw_1843 (jl_345_12 hn) rfl rfl rfl rfl rfl (Nat.le_of_ble_eq_true rfl) d_12_total_121 ⟨(Nat.le_of_ble_eq_true rfl), (Nat.le_of_ble_eq_true rfl)⟩ ⟨(Nat.le_of_ble_eq_true rfl), (Nat.le_of_ble_eq_true rfl)⟩ (fun x47 r49 h => ?_)
                  refine jg_icmp_ne (tgt := 145) (pc := 124) X d_12_total_124 (by decide) r45 r49 h (fun c51 h => ?_) (fun c51 h => ?_)
                  · refine jg_aload_n (pc := 127) X d_12_total_127 0 rfl ?_
                    refine jg_iload_n (pc := 128) X d_12_total_128 1 rfl ?_
                    refine jg_iload (pc := 129) X d_12_total_129 6 rfl ?_
                    refine jg_iload (pc := 131) X d_12_total_131 3 rfl ?_
                    refine jg_pcallVi (pc := 133) X (m_12_valueAt rv1 rv7 rv4 hw h) jM_12_valueAt kw_1843 (jl_345_12 hn) rfl rfl rfl rfl rfl (Nat.le_of_ble_eq_true rfl) d_12_total_133 ⟨(Nat.le_of_ble_eq_true rfl), (Nat.le_of_ble_eq_true rfl)⟩ ⟨(Nat.le_of_ble_eq_true rfl), (Nat.le_of_ble_eq_true rfl)⟩ (fun x52 r54 h => ?_)
                    refine jg_ldk (pc := 136) (-1000000) X kw_1617 (by decide) d_12_total_136 ?_
                    refine jg_icmp_eq (tgt := 145) (pc := 138) X d_12_total_138 (by decide) r54 (⟨by decide, by decide⟩ : jRng (-1000000)) h (fun c56 h => ?_) (fun c56 h => ?_)
                    · refine jg_iconst (pc := 145) X d_12_total_145 ?_
                      refine jg_sub [0, 1, 2, 3, 4, 5, 6] rfl ?_
                      exact jb146 _ _ _ (⟨by decide, by decide⟩ : jRng 0) rv6 rv7 h
                    · refine jg_iconst (pc := 141) X d_12_total_141 ?_
                      refine jg_goto (tgt := 146) (pc := 142) X d_12_total_142 (by decide) ?_
                      refine jg_sub [0, 1, 2, 3, 4, 5, 6] rfl ?_
                      exact jb146 _ _ _ (⟨by decide, by decide⟩ : jRng 1) rv6 rv7 h
                  · refine jg_iconst (pc := 145) X d_12_total_145 ?_
                    refine jg_sub [0, 1, 2, 3, 4, 5, 6] rfl ?_
                    exact jb146 _ _ _ (⟨by decide, by decide⟩ : jRng 0) rv6 rv7 h
            obtain ⟨N, h⟩ := h
            refine jg_sub [3, 4, 5, 7, 2, 1, 0] rfl ?_
            exact jl95 _ _ r17 w23 N _ _ (⟨by decide, by decide⟩ : jRng 0) r17 h
          · refine jg_iconst (pc := 86) X d_12_total_86 ?_
            exact jg_ireturn (pc := 87) X hAe hlocks hr d_12_total_87 ⟨(Nat.le_of_ble_eq_true rfl), (Nat.le_of_ble_eq_true rfl)⟩ rfl (⟨by decide, by decide⟩ : jRng 0) w23 h
        · refine jg_iconst (pc := 78) X d_12_total_78 ?_
          refine jg_iconst (pc := 79) X d_12_total_79 ?_
          refine jg_callVi (pc := 80) X (m_12_throwsIf (⟨by decide, by decide⟩ : jRng 0) (⟨by decide, by decide⟩ : jRng 3) w13 h) jM_12_throwsIf kw_1697 (jl_345_12 hn) rfl rfl rfl rfl rfl (Nat.le_of_ble_eq_true rfl) d_12_total_80 ⟨(Nat.le_of_ble_eq_true rfl), (Nat.le_of_ble_eq_true rfl)⟩ ⟨(Nat.le_of_ble_eq_true rfl), (Nat.le_of_ble_eq_true rfl)⟩ (fun x57 C58 r59 w60 h => ?_)
          refine jg_if_eq (tgt := 88) (pc := 83) X d_12_total_83 (by decide) r59 h (fun c61 h => ?_) (fun c61 h => ?_)
          · refine jg_iconst (pc := 88) X d_12_total_88 ?_
            refine jg_istore (pc := 89) X [(6, jI 0), (5, jI x15), (0, jr Z 345), (1, jI v1), (2, jI v2), (3, jI v3), (4, jI v4)] d_12_total_89 (by decide) rfl ?_
            refine jg_iload (pc := 91) X d_12_total_91 1 rfl ?_
            refine jg_istore (pc := 93) X [(7, jI x15), (6, jI 0), (5, jI x15), (0, jr Z 345), (1, jI v1), (2, jI v2), (3, jI v3), (4, jI v4)] d_12_total_93 (by decide) rfl ?_
            have jl95 : ∀ (v5 : Int) (C : jC) (rv5 : jRng v5) (hw : jWF n C) (N : Nat) (v6 : Int) (v7 : Int) (rv6 : jRng v6) (rv7 : jRng v7), jI2 (wp_12_total_95 v1 v2 v4 v5 C post) N v6 v7 → jG p l e q_12_total s m args below meth c 9 Z A (jws Z n C) 0 0 (MQ below (jQi Z n sz post) args s q_12_total.cells q_12_total.slots (jA Z n sz)) 95 [(0, jr Z 345), (1, jI v1), (2, jI v2), (4, jI v4), (5, jI v5), (6, jI v6), (7, jI v7)] [] := by
              intro v5 C rv5 hw N
              have hn := hw0.2.2.1
              induction N with
              | zero => intro v6 v7 rv6 rv7 h; exact h.elim
              | succ N ih95 =>
                intro v6 v7 rv6 rv7 h
                have h : wp_12_total_95 v1 v2 v4 v5 C post (jI2 (wp_12_total_95 v1 v2 v4 v5 C post) N) v6 v7 := h
                generalize jI2 (wp_12_total_95 v1 v2 v4 v5 C post) N = k95 at h ih95
                unfold wp_12_total_95 at h
                have jb146 : ∀ (s0 : Int) (v6 : Int) (v7 : Int) (rs0 : jRng s0) (rv6 : jRng v6) (rv7 : jRng v7), wp_12_total_146 s0 v1 v2 v4 v5 v6 v7 C post k95 → jG p l e q_12_total s m args below meth c 9 Z A (jws Z n C) 0 0 (MQ below (jQi Z n sz post) args s q_12_total.cells q_12_total.slots (jA Z n sz)) 146 [(0, jr Z 345), (1, jI v1), (2, jI v2), (4, jI v4), (5, jI v5), (6, jI v6), (7, jI v7)] [jI s0] := by
                  intro s0 v6 v7 rs0 rv6 rv7 h
                  unfold wp_12_total_146 at h
                  refine jg_istore (pc := 146) X [(8, jI s0), (0, jr Z 345), (1, jI v1), (2, jI v2), (4, jI v4), (5, jI v5), (6, jI v6), (7, jI v7)] d_12_total_146 (by decide) rfl ?_
                  refine jg_iload (pc := 148) X d_12_total_148 6 rfl ?_
                  refine jg_iload (pc := 150) X d_12_total_150 0 rfl ?_
                  refine jg_if_eq (tgt := 167) (pc := 152) X d_12_total_152 (by decide) rs0 h (fun c62 h => ?_) (fun c62 h => ?_)
                  · refine jg_iconst (pc := 167) X d_12_total_167 ?_
                    refine jg_iadd (pc := 168) X d_12_total_168 ?_
                    refine jg_istore (pc := 169) X [(6, jI (v6 + 0)), (8, jI s0), (0, jr Z 345), (1, jI v1), (2, jI v2), (4, jI v4), (5, jI v5), (7, jI v7)] d_12_total_169 (by decide) rfl ?_
                    refine jg_iinc (pc := 171) X [(7, jI (v7 + 1)), (6, jI (v6 + 0)), (8, jI s0), (0, jr Z 345), (1, jI v1), (2, jI v2), (4, jI v4), (5, jI v5)] d_12_total_171 7 rfl (by decide) rfl ?_
                    refine jg_goto (tgt := 95) (pc := 174) X d_12_total_174 (by decide) ?_
                    obtain ⟨r64, h⟩ := h
                    have r63 : jRng (v6 + 0) := by (unfold jRng; exact ⟨by (have z0 : jRng v6 := rv6; unfold jRng at z0; omega), by (have z0 : jRng v6 := rv6; unfold jRng at z0; omega)⟩)
                    refine jg_sub [3, 4, 5, 6, 7, 1, 0] rfl ?_
                    exact ih95 _ _ r63 r64 h
                  · refine jg_aload_n (pc := 155) X d_12_total_155 1 rfl ?_
                    refine jg_iload_n (pc := 156) X d_12_total_156 2 rfl ?_
                    refine jg_iload (pc := 157) X d_12_total_157 7 rfl ?_
                    refine jg_iload (pc := 159) X d_12_total_159 4 rfl ?_
                    refine jg_pcallVi (pc := 161) X (m_12_valueAt rv1 rv7 rv4 hw h) jM_12_valueAt kw_1843 (jl_345_12 hn) rfl rfl rfl rfl rfl (Nat.le_of_ble_eq_true rfl) d_12_total_161 ⟨(Nat.le_of_ble_eq_true rfl), (Nat.le_of_ble_eq_true rfl)⟩ ⟨(Nat.le_of_ble_eq_true rfl), (Nat.le_of_ble_eq_true rfl)⟩ (fun x65 r67 h => ?_)
                    refine jg_goto (tgt := 168) (pc := 164) X d_12_total_164 (by decide) ?_
                    refine jg_iadd (pc := 168) X d_12_total_168 ?_
                    refine jg_istore (pc := 169) X [(6, jI (v6 + x65)), (8, jI s0), (0, jr Z 345), (1, jI v1), (2, jI v2), (4, jI v4), (5, jI v5), (7, jI v7)] d_12_total_169 (by decide) rfl ?_
                    refine jg_iinc (pc := 171) X [(7, jI (v7 + 1)), (6, jI (v6 + x65)), (8, jI s0), (0, jr Z 345), (1, jI v1), (2, jI v2), (4, jI v4), (5, jI v5)] d_12_total_171 7 rfl (by decide) rfl ?_
                    refine jg_goto (tgt := 95) (pc := 174) X d_12_total_174 (by decide) ?_
                    obtain ⟨r69, r70, h⟩ := h
                    refine jg_sub [3, 4, 5, 6, 7, 1, 0] rfl ?_
                    exact ih95 _ _ r69 r70 h
                refine jg_iload (pc := 95) X d_12_total_95 6 rfl ?_
                refine jg_aload_n (pc := 97) X d_12_total_97 0 rfl ?_
                refine jg_iload_n (pc := 98) X d_12_total_98 1 rfl ?_
                refine jg_pcallSi (pc := 99) X (m_12_listOf rv1 hw h) jM_12_listOf kw_1686 rfl rfl (Nat.le_of_ble_eq_true rfl) d_12_total_99 ⟨(Nat.le_of_ble_eq_true rfl), (Nat.le_of_ble_eq_true rfl)⟩ ⟨(Nat.le_of_ble_eq_true rfl), (Nat.le_of_ble_eq_true rfl)⟩ (fun x71 r73 h => ?_)
                refine jg_pcallVi (pc := 102) X (m_12_size r73 hw h) jM_12_size kw_1609 (jl_345_12 hn) rfl rfl rfl rfl rfl (Nat.le_of_ble_eq_true rfl) d_12_total_102 ⟨(Nat.le_of_ble_eq_true rfl), (Nat.le_of_ble_eq_true rfl)⟩ ⟨(Nat.le_of_ble_eq_true rfl), (Nat.le_of_ble_eq_true rfl)⟩ (fun x75 r77 h => ?_)
                refine jg_icmp_ge (tgt := 177) (pc := 105) X d_12_total_105 (by decide) rv7 r77 h (fun c79 h => ?_) (fun c79 h => ?_)
                · refine jg_iload (pc := 177) X d_12_total_177 5 rfl ?_
                  exact jg_ireturn (pc := 179) X hAe hlocks hr d_12_total_179 ⟨(Nat.le_of_ble_eq_true rfl), (Nat.le_of_ble_eq_true rfl)⟩ rfl rv6 hw h
                · refine jg_aload_n (pc := 108) X d_12_total_108 0 rfl ?_
                  refine jg_iload_n (pc := 109) X d_12_total_109 1 rfl ?_
                  refine jg_iload (pc := 110) X d_12_total_110 6 rfl ?_
                  refine jg_iload_n (pc := 112) X d_12_total_112 2 rfl ?_
                  refine jg_pcallVi (pc := 113) X (m_12_valueAt rv1 rv7 rv2 hw h) jM_12_valueAt kw_1843 (jl_345_12 hn) rfl rfl rfl rfl rfl (Nat.le_of_ble_eq_true rfl) d_12_total_113 ⟨(Nat.le_of_ble_eq_true rfl), (Nat.le_of_ble_eq_true rfl)⟩ ⟨(Nat.le_of_ble_eq_true rfl), (Nat.le_of_ble_eq_true rfl)⟩ (fun x80 r82 h => ?_)
                  refine jg_aload_n (pc := 116) X d_12_total_116 0 rfl ?_
                  refine jg_iload_n (pc := 117) X d_12_total_117 1 rfl ?_
                  refine jg_iload (pc := 118) X d_12_total_118 4 rfl ?_
                  refine jg_iload_n (pc := 120) X d_12_total_120 2 rfl ?_
                  refine jg_pcallVi (pc := 121) X (m_12_valueAt rv1 rv5 rv2 hw h) jM_12_valueAt kw_1843 (jl_345_12 hn) rfl rfl rfl rfl rfl (Nat.le_of_ble_eq_true rfl) d_12_total_121 ⟨(Nat.le_of_ble_eq_true rfl), (Nat.le_of_ble_eq_true rfl)⟩ ⟨(Nat.le_of_ble_eq_true rfl), (Nat.le_of_ble_eq_true rfl)⟩ (fun x84 r86 h => ?_)
                  refine jg_icmp_ne (tgt := 145) (pc := 124) X d_12_total_124 (by decide) r82 r86 h (fun c88 h => ?_) (fun c88 h => ?_)
                  · refine jg_aload_n (pc := 127) X d_12_total_127 0 rfl ?_
                    refine jg_iload_n (pc := 128) X d_12_total_128 1 rfl ?_
                    refine jg_iload (pc := 129) X d_12_total_129 6 rfl ?_
                    refine jg_iload (pc := 131) X d_12_total_131 3 rfl ?_
                    refine jg_pcallVi (pc := 133) X (m_12_valueAt rv1 rv7 rv4 hw h) jM_12_valueAt kw_1843 (jl_345_12 hn) rfl rfl rfl rfl rfl (Nat.le_of_ble_eq_true rfl) d_12_total_133 ⟨(Nat.le_of_ble_eq_true rfl), (Nat.le_of_ble_eq_true rfl)⟩ ⟨(Nat.le_of_ble_eq_true rfl), (Nat.le_of_ble_eq_true rfl)⟩ (fun x89 r91 h => ?_)
                    refine jg_ldk (pc := 136) (-1000000) X kw_1617 (by decide) d_12_total_136 ?_
                    refine jg_icmp_eq (tgt := 145) (pc := 138) X d_12_total_138 (by decide) r91 (⟨by decide, by decide⟩ : jRng (-1000000)) h (fun c93 h => ?_) (fun c93 h => ?_)
                    · refine jg_iconst (pc := 145) X d_12_total_145 ?_
                      refine jg_sub [0, 1, 2, 3, 4, 5, 6] rfl ?_
                      exact jb146 _ _ _ (⟨by decide, by decide⟩ : jRng 0) rv6 rv7 h
                    · refine jg_iconst (pc := 141) X d_12_total_141 ?_
                      refine jg_goto (tgt := 146) (pc := 142) X d_12_total_142 (by decide) ?_
                      refine jg_sub [0, 1, 2, 3, 4, 5, 6] rfl ?_
                      exact jb146 _ _ _ (⟨by decide, by decide⟩ : jRng 1) rv6 rv7 h
                  · refine jg_iconst (pc := 145) X d_12_total_145 ?_
                    refine jg_sub [0, 1, 2, 3, 4, 5, 6] rfl ?_
                    exact jb146 _ _ _ (⟨by decide, by decide⟩ : jRng 0) rv6 rv7 h
            obtain ⟨N, h⟩ := h
            refine jg_sub [3, 4, 5, 7, 2, 1, 0] rfl ?_
            exact jl95 _ _ r17 w60 N _ _ (⟨by decide, by decide⟩ : jRng 0) r17 h
          · refine jg_iconst (pc := 86) X d_12_total_86 ?_
            exact jg_ireturn (pc := 87) X hAe hlocks hr d_12_total_87 ⟨(Nat.le_of_ble_eq_true rfl), (Nat.le_of_ble_eq_true rfl)⟩ rfl (⟨by decide, by decide⟩ : jRng 0) w60 h
      · refine jg_iconst (pc := 56) X d_12_total_56 ?_
        exact jg_ireturn (pc := 57) X hAe hlocks hr d_12_total_57 ⟨(Nat.le_of_ble_eq_true rfl), (Nat.le_of_ble_eq_true rfl)⟩ rfl (⟨by decide, by decide⟩ : jRng 0) w13 h
    · refine jg_iconst (pc := 56) X d_12_total_56 ?_
      exact jg_ireturn (pc := 57) X hAe hlocks hr d_12_total_57 ⟨(Nat.le_of_ble_eq_true rfl), (Nat.le_of_ble_eq_true rfl)⟩ rfl (⟨by decide, by decide⟩ : jRng 0) w4 h
  refine jg_aload_n (pc := 0) X d_12_total_0 0 rfl ?_
  refine jg_iconst (pc := 1) X d_12_total_1 ?_
  refine jgp_12_0 (pc := 2) X (jl_345_12 hn) kw_1473 d_12_total_2 ?_
  have w94 := jWF.u (k := 0) (v := 0) hw0 (jl_345_12 hn) (by decide) (⟨by decide, by decide⟩ : jRng 0)
  refine jg_aload_n (pc := 5) X d_12_total_5 0 rfl ?_
  refine jg_iload_n (pc := 6) X d_12_total_6 1 rfl ?_
  refine jg_pcallSi (pc := 7) X (m_12_noView rv1 w94 h) jM_12_noView kw_1705 rfl rfl (Nat.le_of_ble_eq_true rfl) d_12_total_7 ⟨(Nat.le_of_ble_eq_true rfl), (Nat.le_of_ble_eq_true rfl)⟩ ⟨(Nat.le_of_ble_eq_true rfl), (Nat.le_of_ble_eq_true rfl)⟩ (fun x95 r97 h => ?_)
  refine jg_if_ne (tgt := 30) (pc := 10) X d_12_total_10 (by decide) r97 h (fun c99 h => ?_) (fun c99 h => ?_)
  · refine jg_aload_n (pc := 13) X d_12_total_13 0 rfl ?_
    refine jg_iload_n (pc := 14) X d_12_total_14 2 rfl ?_
    refine jg_pcallVi (pc := 15) X (m_12_noColumn rv2 w94 h) jM_12_noColumn kw_1798 (jl_345_12 hn) rfl rfl rfl rfl rfl (Nat.le_of_ble_eq_true rfl) d_12_total_15 ⟨(Nat.le_of_ble_eq_true rfl), (Nat.le_of_ble_eq_true rfl)⟩ ⟨(Nat.le_of_ble_eq_true rfl), (Nat.le_of_ble_eq_true rfl)⟩ (fun x100 r102 h => ?_)
    refine jg_if_ne (tgt := 30) (pc := 18) X d_12_total_18 (by decide) r102 h (fun c104 h => ?_) (fun c104 h => ?_)
    · refine jg_aload_n (pc := 21) X d_12_total_21 0 rfl ?_
      refine jg_iload (pc := 22) X d_12_total_22 4 rfl ?_
      refine jg_pcallVi (pc := 24) X (m_12_noColumn rv4 w94 h) jM_12_noColumn kw_1798 (jl_345_12 hn) rfl rfl rfl rfl rfl (Nat.le_of_ble_eq_true rfl) d_12_total_24 ⟨(Nat.le_of_ble_eq_true rfl), (Nat.le_of_ble_eq_true rfl)⟩ ⟨(Nat.le_of_ble_eq_true rfl), (Nat.le_of_ble_eq_true rfl)⟩ (fun x105 r107 h => ?_)
      refine jg_if_eq (tgt := 34) (pc := 27) X d_12_total_27 (by decide) r107 h (fun c109 h => ?_) (fun c109 h => ?_)
      · refine jg_iconst (pc := 34) X d_12_total_34 ?_
        refine jg_sub [0, 1, 2, 3, 4] rfl ?_
        exact jb35 _ _ _ _ _ _ (⟨by decide, by decide⟩ : jRng 0) rv1 rv2 rv3 rv4 w94 h
      · refine jg_iconst (pc := 30) X d_12_total_30 ?_
        refine jg_goto (tgt := 35) (pc := 31) X d_12_total_31 (by decide) ?_
        refine jg_sub [0, 1, 2, 3, 4] rfl ?_
        exact jb35 _ _ _ _ _ _ (⟨by decide, by decide⟩ : jRng 1) rv1 rv2 rv3 rv4 w94 h
    · refine jg_iconst (pc := 30) X d_12_total_30 ?_
      refine jg_goto (tgt := 35) (pc := 31) X d_12_total_31 (by decide) ?_
      refine jg_sub [0, 1, 2, 3, 4] rfl ?_
      exact jb35 _ _ _ _ _ _ (⟨by decide, by decide⟩ : jRng 1) rv1 rv2 rv3 rv4 w94 h
  · refine jg_iconst (pc := 30) X d_12_total_30 ?_
    refine jg_goto (tgt := 35) (pc := 31) X d_12_total_31 (by decide) ?_
    refine jg_sub [0, 1, 2, 3, 4] rfl ?_
    exact jb35 _ _ _ _ _ _ (⟨by decide, by decide⟩ : jRng 1) rv1 rv2 rv3 rv4 w94 h
set_option maxHeartbeats 4000000 in
set_option maxRecDepth 100000 in
theorem m_12_upTo {l : Launch} {Z : jE} {n : Nat} {C : jC} {v1 : Int} {v2 : Int} {v3 : Int} {v4 : Int} {post : Int → Prop} (rv1 : jRng v1) (rv2 : jRng v2) (rv3 : jRng v3) (rv4 : jRng v4) (hw0 : jWF n C) (h : wp_12_upTo v1 v2 v3 v4 C post) : jCi l y_12_upTo prog_14_method_123_code 8 (.int) q_12_upTo Z n C [jr Z 345, jI v1, jI v2, jI v3, jI v4] (fun x C9 => C9 = C ∧ post x) := by
  have hn := hw0.2.2.1
  unfold wp_12_upTo at h
  refine jCi_of (lv0 := [(0, jr Z 345), (1, jI v1), (2, jI v2), (3, jI v3), (4, jI v4)]) (by decide) (Nat.le_of_ble_eq_true rfl) rfl ?_
  intro p e s m args below meth c A sz X hAe hr hlocks
  refine jg_iconst (pc := 0) X d_12_upTo_0 ?_
  refine jg_istore (pc := 1) X [(5, jI 0), (0, jr Z 345), (1, jI v1), (2, jI v2), (3, jI v3), (4, jI v4)] d_12_upTo_1 (by decide) rfl ?_
  refine jg_iconst (pc := 3) X d_12_upTo_3 ?_
  refine jg_istore (pc := 4) X [(6, jI 0), (5, jI 0), (0, jr Z 345), (1, jI v1), (2, jI v2), (3, jI v3), (4, jI v4)] d_12_upTo_4 (by decide) rfl ?_
  have hw : jWF n C := hw0
  have jl6 : ∀  (N : Nat) (v5 : Int) (v6 : Int) (rv5 : jRng v5) (rv6 : jRng v6), jI2 (wp_12_upTo_6 v1 v2 v3 v4 C post) N v5 v6 → jG p l e q_12_upTo s m args below meth c 8 Z A (jws Z n C) 0 0 (MQ below (jQi Z n sz (fun x C9 => C9 = C ∧ post x)) args s q_12_upTo.cells q_12_upTo.slots (jA Z n sz)) 6 [(0, jr Z 345), (1, jI v1), (2, jI v2), (3, jI v3), (4, jI v4), (5, jI v5), (6, jI v6)] [] := by
    intro   N
    have hn := hw0.2.2.1
    induction N with
    | zero => intro v5 v6 rv5 rv6 h; exact h.elim
    | succ N ih6 =>
      intro v5 v6 rv5 rv6 h
      have h : wp_12_upTo_6 v1 v2 v3 v4 C post (jI2 (wp_12_upTo_6 v1 v2 v3 v4 C post) N) v5 v6 := h
      generalize jI2 (wp_12_upTo_6 v1 v2 v3 v4 C post) N = k6 at h ih6
      unfold wp_12_upTo_6 at h
      refine jg_iload (pc := 6) X d_12_upTo_6 6 rfl ?_
      refine jg_aload_n (pc := 8) X d_12_upTo_8 0 rfl ?_
      refine jg_iload_n (pc := 9) X d_12_upTo_9 1 rfl ?_
      refine jg_pcallSi (pc := 10) X (m_12_listOf rv1 hw h) jM_12_listOf kw_1686 rfl rfl (Nat.le_of_ble_eq_true rfl) d_12_upTo_10 ⟨(Nat.le_of_ble_eq_true rfl), (Nat.le_of_ble_eq_true rfl)⟩ ⟨(Nat.le_of_ble_eq_true rfl), (Nat.le_of_ble_eq_true rfl)⟩ (fun x1 r3 h => ?_)
      refine jg_pcallVi (pc := 13) X (m_12_size r3 hw h) jM_12_size kw_1609 (jl_345_12 hn) rfl rfl rfl rfl rfl (Nat.le_of_ble_eq_true rfl) d_12_upTo_13 ⟨(Nat.le_of_ble_eq_true rfl), (Nat.le_of_ble_eq_true rfl)⟩ ⟨(Nat.le_of_ble_eq_true rfl), (Nat.le_of_ble_eq_true rfl)⟩ (fun x5 r7 h => ?_)
      refine jg_icmp_ge (tgt := 69) (pc := 16) X d_12_upTo_16 (by decide) rv6 r7 h (fun c9 h => ?_) (fun c9 h => ?_)
      · refine jg_iload (pc := 69) X d_12_upTo_69 5 rfl ?_
        exact jg_ireturn (pc := 71) X hAe hlocks hr d_12_upTo_71 ⟨(Nat.le_of_ble_eq_true rfl), (Nat.le_of_ble_eq_true rfl)⟩ rfl rv5 hw ⟨rfl, h⟩
      · refine jg_aload_n (pc := 19) X d_12_upTo_19 0 rfl ?_
        refine jg_iload_n (pc := 20) X d_12_upTo_20 1 rfl ?_
        refine jg_iload (pc := 21) X d_12_upTo_21 6 rfl ?_
        refine jg_iload_n (pc := 23) X d_12_upTo_23 2 rfl ?_
        refine jg_pcallVi (pc := 24) X (m_12_valueAt rv1 rv6 rv2 hw h) jM_12_valueAt kw_1843 (jl_345_12 hn) rfl rfl rfl rfl rfl (Nat.le_of_ble_eq_true rfl) d_12_upTo_24 ⟨(Nat.le_of_ble_eq_true rfl), (Nat.le_of_ble_eq_true rfl)⟩ ⟨(Nat.le_of_ble_eq_true rfl), (Nat.le_of_ble_eq_true rfl)⟩ (fun x10 r12 h => ?_)
        refine jg_istore (pc := 27) X [(7, jI x10), (0, jr Z 345), (1, jI v1), (2, jI v2), (3, jI v3), (4, jI v4), (5, jI v5), (6, jI v6)] d_12_upTo_27 (by decide) rfl ?_
        refine jg_iload (pc := 29) X d_12_upTo_29 6 rfl ?_
        refine jg_iload (pc := 31) X d_12_upTo_31 0 rfl ?_
        refine jg_ldk (pc := 33) (-1000000) X kw_1617 (by decide) d_12_upTo_33 ?_
        refine jg_icmp_eq (tgt := 59) (pc := 35) X d_12_upTo_35 (by decide) r12 (⟨by decide, by decide⟩ : jRng (-1000000)) h (fun c14 h => ?_) (fun c14 h => ?_)
        · refine jg_iconst (pc := 59) X d_12_upTo_59 ?_
          refine jg_iadd (pc := 60) X d_12_upTo_60 ?_
          refine jg_istore (pc := 61) X [(5, jI (v5 + 0)), (7, jI x10), (0, jr Z 345), (1, jI v1), (2, jI v2), (3, jI v3), (4, jI v4), (6, jI v6)] d_12_upTo_61 (by decide) rfl ?_
          refine jg_iinc (pc := 63) X [(6, jI (v6 + 1)), (5, jI (v5 + 0)), (7, jI x10), (0, jr Z 345), (1, jI v1), (2, jI v2), (3, jI v3), (4, jI v4)] d_12_upTo_63 7 rfl (by decide) rfl ?_
          refine jg_goto (tgt := 6) (pc := 66) X d_12_upTo_66 (by decide) ?_
          have r15 : jRng (v5 + 0) := by (unfold jRng; exact ⟨by (have z0 : jRng v5 := rv5; unfold jRng at z0; omega), by (have z0 : jRng v5 := rv5; unfold jRng at z0; omega)⟩)
          have r16 : jRng (v6 + 1) := by (unfold jRng; exact ⟨by (have z0 : jRng v6 := rv6; have z1 : jRng x5 := r7; unfold jRng at z0 z1; omega), by (have z0 : jRng v6 := rv6; have z1 : jRng x5 := r7; unfold jRng at z0 z1; omega)⟩)
          refine jg_sub [3, 4, 5, 6, 7, 1, 0] rfl ?_
          exact ih6 _ _ r15 r16 h
        · refine jg_iload (pc := 38) X d_12_upTo_38 0 rfl ?_
          refine jg_iload_n (pc := 40) X d_12_upTo_40 4 rfl ?_
          refine jg_icmp_lt (tgt := 55) (pc := 41) X d_12_upTo_41 (by decide) r12 rv3 h (fun c17 h => ?_) (fun c17 h => ?_)
          · refine jg_iconst (pc := 55) X d_12_upTo_55 ?_
            refine jg_goto (tgt := 60) (pc := 56) X d_12_upTo_56 (by decide) ?_
            refine jg_iadd (pc := 60) X d_12_upTo_60 ?_
            refine jg_istore (pc := 61) X [(5, jI (v5 + 1)), (7, jI x10), (0, jr Z 345), (1, jI v1), (2, jI v2), (3, jI v3), (4, jI v4), (6, jI v6)] d_12_upTo_61 (by decide) rfl ?_
            refine jg_iinc (pc := 63) X [(6, jI (v6 + 1)), (5, jI (v5 + 1)), (7, jI x10), (0, jr Z 345), (1, jI v1), (2, jI v2), (3, jI v3), (4, jI v4)] d_12_upTo_63 7 rfl (by decide) rfl ?_
            refine jg_goto (tgt := 6) (pc := 66) X d_12_upTo_66 (by decide) ?_
            obtain ⟨r18, h⟩ := h
            have r19 : jRng (v6 + 1) := by (unfold jRng; exact ⟨by (have z0 : jRng v6 := rv6; have z1 : jRng x5 := r7; unfold jRng at z0 z1; omega), by (have z0 : jRng v6 := rv6; have z1 : jRng x5 := r7; unfold jRng at z0 z1; omega)⟩)
            refine jg_sub [3, 4, 5, 6, 7, 1, 0] rfl ?_
            exact ih6 _ _ r18 r19 h
          · refine jg_iload (pc := 44) X d_12_upTo_44 5 rfl ?_
            refine jg_if_eq (tgt := 59) (pc := 46) X d_12_upTo_46 (by decide) rv4 h (fun c20 h => ?_) (fun c20 h => ?_)
            · refine jg_iconst (pc := 59) X d_12_upTo_59 ?_
              refine jg_iadd (pc := 60) X d_12_upTo_60 ?_
              refine jg_istore (pc := 61) X [(5, jI (v5 + 0)), (7, jI x10), (0, jr Z 345), (1, jI v1), (2, jI v2), (3, jI v3), (4, jI v4), (6, jI v6)] d_12_upTo_61 (by decide) rfl ?_
              refine jg_iinc (pc := 63) X [(6, jI (v6 + 1)), (5, jI (v5 + 0)), (7, jI x10), (0, jr Z 345), (1, jI v1), (2, jI v2), (3, jI v3), (4, jI v4)] d_12_upTo_63 7 rfl (by decide) rfl ?_
              refine jg_goto (tgt := 6) (pc := 66) X d_12_upTo_66 (by decide) ?_
              have r21 : jRng (v5 + 0) := by (unfold jRng; exact ⟨by (have z0 : jRng v5 := rv5; unfold jRng at z0; omega), by (have z0 : jRng v5 := rv5; unfold jRng at z0; omega)⟩)
              have r22 : jRng (v6 + 1) := by (unfold jRng; exact ⟨by (have z0 : jRng v6 := rv6; have z1 : jRng x5 := r7; unfold jRng at z0 z1; omega), by (have z0 : jRng v6 := rv6; have z1 : jRng x5 := r7; unfold jRng at z0 z1; omega)⟩)
              refine jg_sub [3, 4, 5, 6, 7, 1, 0] rfl ?_
              exact ih6 _ _ r21 r22 h
            · refine jg_iload (pc := 49) X d_12_upTo_49 0 rfl ?_
              refine jg_iload_n (pc := 51) X d_12_upTo_51 4 rfl ?_
              refine jg_icmp_ne (tgt := 59) (pc := 52) X d_12_upTo_52 (by decide) r12 rv3 h (fun c23 h => ?_) (fun c23 h => ?_)
              · refine jg_iconst (pc := 55) X d_12_upTo_55 ?_
                refine jg_goto (tgt := 60) (pc := 56) X d_12_upTo_56 (by decide) ?_
                refine jg_iadd (pc := 60) X d_12_upTo_60 ?_
                refine jg_istore (pc := 61) X [(5, jI (v5 + 1)), (7, jI x10), (0, jr Z 345), (1, jI v1), (2, jI v2), (3, jI v3), (4, jI v4), (6, jI v6)] d_12_upTo_61 (by decide) rfl ?_
                refine jg_iinc (pc := 63) X [(6, jI (v6 + 1)), (5, jI (v5 + 1)), (7, jI x10), (0, jr Z 345), (1, jI v1), (2, jI v2), (3, jI v3), (4, jI v4)] d_12_upTo_63 7 rfl (by decide) rfl ?_
                refine jg_goto (tgt := 6) (pc := 66) X d_12_upTo_66 (by decide) ?_
                obtain ⟨r24, h⟩ := h
                have r25 : jRng (v6 + 1) := by (unfold jRng; exact ⟨by (have z0 : jRng v6 := rv6; have z1 : jRng x5 := r7; unfold jRng at z0 z1; omega), by (have z0 : jRng v6 := rv6; have z1 : jRng x5 := r7; unfold jRng at z0 z1; omega)⟩)
                refine jg_sub [3, 4, 5, 6, 7, 1, 0] rfl ?_
                exact ih6 _ _ r24 r25 h
              · refine jg_iconst (pc := 59) X d_12_upTo_59 ?_
                refine jg_iadd (pc := 60) X d_12_upTo_60 ?_
                refine jg_istore (pc := 61) X [(5, jI (v5 + 0)), (7, jI x10), (0, jr Z 345), (1, jI v1), (2, jI v2), (3, jI v3), (4, jI v4), (6, jI v6)] d_12_upTo_61 (by decide) rfl ?_
                refine jg_iinc (pc := 63) X [(6, jI (v6 + 1)), (5, jI (v5 + 0)), (7, jI x10), (0, jr Z 345), (1, jI v1), (2, jI v2), (3, jI v3), (4, jI v4)] d_12_upTo_63 7 rfl (by decide) rfl ?_
                refine jg_goto (tgt := 6) (pc := 66) X d_12_upTo_66 (by decide) ?_
                have r26 : jRng (v5 + 0) := by (unfold jRng; exact ⟨by (have z0 : jRng v5 := rv5; unfold jRng at z0; omega), by (have z0 : jRng v5 := rv5; unfold jRng at z0; omega)⟩)
                have r27 : jRng (v6 + 1) := by (unfold jRng; exact ⟨by (have z0 : jRng v6 := rv6; have z1 : jRng x5 := r7; unfold jRng at z0 z1; omega), by (have z0 : jRng v6 := rv6; have z1 : jRng x5 := r7; unfold jRng at z0 z1; omega)⟩)
                refine jg_sub [3, 4, 5, 6, 7, 1, 0] rfl ?_
                exact ih6 _ _ r26 r27 h
  obtain ⟨N, h⟩ := h
  refine jg_sub [2, 3, 4, 5, 6, 1, 0] rfl ?_
  exact jl6   N _ _ (⟨by decide, by decide⟩ : jRng 0) (⟨by decide, by decide⟩ : jRng 0) h
set_option maxHeartbeats 4000000 in
set_option maxRecDepth 100000 in
theorem m_12_middle {l : Launch} {Z : jE} {n : Nat} {C : jC} {v1 : Int} {v2 : Int} {post : Int → jC → Prop} (rv1 : jRng v1) (rv2 : jRng v2) (hw0 : jWF n C) (h : wp_12_middle v1 v2 C post) : jCi l y_12_middle prog_14_method_124_code 7 (.int) q_12_middle Z n C [jr Z 345, jI v1, jI v2] post := by
  have hn := hw0.2.2.1
  unfold wp_12_middle at h
  refine jCi_of (lv0 := [(0, jr Z 345), (1, jI v1), (2, jI v2)]) (by decide) (Nat.le_of_ble_eq_true rfl) rfl ?_
  intro p e s m args below meth c A sz X hAe hr hlocks
  refine jg_aload_n (pc := 0) X d_12_middle_0 0 rfl ?_
  refine jg_iconst (pc := 1) X d_12_middle_1 ?_
  refine jgp_12_0 (pc := 2) X (jl_345_12 hn) kw_1473 d_12_middle_2 ?_
  have w1 := jWF.u (k := 0) (v := 0) hw0 (jl_345_12 hn) (by decide) (⟨by decide, by decide⟩ : jRng 0)
  refine jg_aload_n (pc := 5) X d_12_middle_5 0 rfl ?_
  refine jg_iload_n (pc := 6) X d_12_middle_6 1 rfl ?_
  refine jg_pcallSi (pc := 7) X (m_12_noView rv1 w1 h) jM_12_noView kw_1705 rfl rfl (Nat.le_of_ble_eq_true rfl) d_12_middle_7 ⟨(Nat.le_of_ble_eq_true rfl), (Nat.le_of_ble_eq_true rfl)⟩ ⟨(Nat.le_of_ble_eq_true rfl), (Nat.le_of_ble_eq_true rfl)⟩ (fun x2 r4 h => ?_)
  refine jg_if_ne (tgt := 21) (pc := 10) X d_12_middle_10 (by decide) r4 h (fun c6 h => ?_) (fun c6 h => ?_)
  · refine jg_aload_n (pc := 13) X d_12_middle_13 0 rfl ?_
    refine jg_iload_n (pc := 14) X d_12_middle_14 2 rfl ?_
    refine jg_pcallVi (pc := 15) X (m_12_noColumn rv2 w1 h) jM_12_noColumn kw_1798 (jl_345_12 hn) rfl rfl rfl rfl rfl (Nat.le_of_ble_eq_true rfl) d_12_middle_15 ⟨(Nat.le_of_ble_eq_true rfl), (Nat.le_of_ble_eq_true rfl)⟩ ⟨(Nat.le_of_ble_eq_true rfl), (Nat.le_of_ble_eq_true rfl)⟩ (fun x7 r9 h => ?_)
    refine jg_if_eq (tgt := 25) (pc := 18) X d_12_middle_18 (by decide) r9 h (fun c11 h => ?_) (fun c11 h => ?_)
    · refine jg_iconst (pc := 25) X d_12_middle_25 ?_
      refine jg_iconst (pc := 26) X d_12_middle_26 ?_
      refine jg_callVi (pc := 27) X (m_12_throwsIf (⟨by decide, by decide⟩ : jRng 0) (⟨by decide, by decide⟩ : jRng 1) w1 h) jM_12_throwsIf kw_1697 (jl_345_12 hn) rfl rfl rfl rfl rfl (Nat.le_of_ble_eq_true rfl) d_12_middle_27 ⟨(Nat.le_of_ble_eq_true rfl), (Nat.le_of_ble_eq_true rfl)⟩ ⟨(Nat.le_of_ble_eq_true rfl), (Nat.le_of_ble_eq_true rfl)⟩ (fun x12 C13 r14 w15 h => ?_)
      refine jg_if_eq (tgt := 35) (pc := 30) X d_12_middle_30 (by decide) r14 h (fun c16 h => ?_) (fun c16 h => ?_)
      · refine jg_iconst (pc := 35) X d_12_middle_35 ?_
        refine jg_istore_n (pc := 36) X [(3, jI 0), (0, jr Z 345), (1, jI v1), (2, jI v2)] d_12_middle_36 (by decide) rfl ?_
        refine jg_iconst (pc := 37) X d_12_middle_37 ?_
        refine jg_istore (pc := 38) X [(4, jI 0), (3, jI 0), (0, jr Z 345), (1, jI v1), (2, jI v2)] d_12_middle_38 (by decide) rfl ?_
        have jl40 : ∀ (C : jC) (hw : jWF n C) (N : Nat) (v3 : Int) (v4 : Int) (rv3 : jRng v3) (rv4 : jRng v4), jI2 (wp_12_middle_40 v1 v2 C post) N v3 v4 → jG p l e q_12_middle s m args below meth c 7 Z A (jws Z n C) 0 0 (MQ below (jQi Z n sz post) args s q_12_middle.cells q_12_middle.slots (jA Z n sz)) 40 [(0, jr Z 345), (1, jI v1), (2, jI v2), (3, jI v3), (4, jI v4)] [] := by
          intro C hw N
          have hn := hw0.2.2.1
          induction N with
          | zero => intro v3 v4 rv3 rv4 h; exact h.elim
          | succ N ih40 =>
            intro v3 v4 rv3 rv4 h
            have h : wp_12_middle_40 v1 v2 C post (jI2 (wp_12_middle_40 v1 v2 C post) N) v3 v4 := h
            generalize jI2 (wp_12_middle_40 v1 v2 C post) N = k40 at h ih40
            unfold wp_12_middle_40 at h
            refine jg_iload (pc := 40) X d_12_middle_40 4 rfl ?_
            refine jg_aload_n (pc := 42) X d_12_middle_42 0 rfl ?_
            refine jg_iload_n (pc := 43) X d_12_middle_43 1 rfl ?_
            refine jg_pcallSi (pc := 44) X (m_12_listOf rv1 hw h) jM_12_listOf kw_1686 rfl rfl (Nat.le_of_ble_eq_true rfl) d_12_middle_44 ⟨(Nat.le_of_ble_eq_true rfl), (Nat.le_of_ble_eq_true rfl)⟩ ⟨(Nat.le_of_ble_eq_true rfl), (Nat.le_of_ble_eq_true rfl)⟩ (fun x17 r19 h => ?_)
            refine jg_pcallVi (pc := 47) X (m_12_size r19 hw h) jM_12_size kw_1609 (jl_345_12 hn) rfl rfl rfl rfl rfl (Nat.le_of_ble_eq_true rfl) d_12_middle_47 ⟨(Nat.le_of_ble_eq_true rfl), (Nat.le_of_ble_eq_true rfl)⟩ ⟨(Nat.le_of_ble_eq_true rfl), (Nat.le_of_ble_eq_true rfl)⟩ (fun x21 r23 h => ?_)
            refine jg_icmp_ge (tgt := 80) (pc := 50) X d_12_middle_50 (by decide) rv4 r23 h (fun c25 h => ?_) (fun c25 h => ?_)
            · refine jg_iload_n (pc := 80) X d_12_middle_80 3 rfl ?_
              refine jg_iconst (pc := 81) X d_12_middle_81 ?_
              refine jg_isub (pc := 82) X d_12_middle_82 ?_
              refine jg_iconst (pc := 83) X d_12_middle_83 ?_
              obtain ⟨r26, h⟩ := h
              have r27 : jRng ((v3 - 1).tdiv 2) := jrng_tdiv r26 (by decide) (by decide)
              refine jg_idiv (pc := 84) X d_12_middle_84 r26 (by decide) (by decide) ?_
              refine jg_istore (pc := 85) X [(4, jI ((v3 - 1).tdiv 2)), (0, jr Z 345), (1, jI v1), (2, jI v2), (3, jI v3)] d_12_middle_85 (by decide) rfl ?_
              refine jg_iconst (pc := 87) X d_12_middle_87 ?_
              refine jg_istore (pc := 88) X [(5, jI 0), (4, jI ((v3 - 1).tdiv 2)), (0, jr Z 345), (1, jI v1), (2, jI v2), (3, jI v3)] d_12_middle_88 (by decide) rfl ?_
              have jl90 : ∀ (v4 : Int) (rv4 : jRng v4) (N : Nat) (v5 : Int) (rv5 : jRng v5), jI1 (wp_12_middle_90 v1 v2 v3 v4 C post) N v5 → jG p l e q_12_middle s m args below meth c 7 Z A (jws Z n C) 0 0 (MQ below (jQi Z n sz post) args s q_12_middle.cells q_12_middle.slots (jA Z n sz)) 90 [(0, jr Z 345), (1, jI v1), (2, jI v2), (3, jI v3), (4, jI v4), (5, jI v5)] [] := by
                intro v4 rv4 N
                have hn := hw0.2.2.1
                induction N with
                | zero => intro v5 rv5 h; exact h.elim
                | succ N ih90 =>
                  intro v5 rv5 h
                  have h : wp_12_middle_90 v1 v2 v3 v4 C post (jI1 (wp_12_middle_90 v1 v2 v3 v4 C post) N) v5 := h
                  generalize jI1 (wp_12_middle_90 v1 v2 v3 v4 C post) N = k90 at h ih90
                  unfold wp_12_middle_90 at h
                  refine jg_iload (pc := 90) X d_12_middle_90 5 rfl ?_
                  refine jg_aload_n (pc := 92) X d_12_middle_92 0 rfl ?_
                  refine jg_iload_n (pc := 93) X d_12_middle_93 1 rfl ?_
                  refine jg_pcallSi (pc := 94) X (m_12_listOf rv1 hw h) jM_12_listOf kw_1686 rfl rfl (Nat.le_of_ble_eq_true rfl) d_12_middle_94 ⟨(Nat.le_of_ble_eq_true rfl), (Nat.le_of_ble_eq_true rfl)⟩ ⟨(Nat.le_of_ble_eq_true rfl), (Nat.le_of_ble_eq_true rfl)⟩ (fun x28 r30 h => ?_)
                  refine jg_pcallVi (pc := 97) X (m_12_size r30 hw h) jM_12_size kw_1609 (jl_345_12 hn) rfl rfl rfl rfl rfl (Nat.le_of_ble_eq_true rfl) d_12_middle_97 ⟨(Nat.le_of_ble_eq_true rfl), (Nat.le_of_ble_eq_true rfl)⟩ ⟨(Nat.le_of_ble_eq_true rfl), (Nat.le_of_ble_eq_true rfl)⟩ (fun x32 r34 h => ?_)
                  refine jg_icmp_ge (tgt := 161) (pc := 100) X d_12_middle_100 (by decide) rv5 r34 h (fun c36 h => ?_) (fun c36 h => ?_)
                  · refine jg_ldk (pc := 161) (-1000000) X kw_1617 (by decide) d_12_middle_161 ?_
                    exact jg_ireturn (pc := 163) X hAe hlocks hr d_12_middle_163 ⟨(Nat.le_of_ble_eq_true rfl), (Nat.le_of_ble_eq_true rfl)⟩ rfl (⟨by decide, by decide⟩ : jRng (-1000000)) hw h
                  · refine jg_iload_n (pc := 103) X d_12_middle_103 3 rfl ?_
                    refine jg_if_le (tgt := 161) (pc := 104) X d_12_middle_104 (by decide) rv3 h (fun c37 h => ?_) (fun c37 h => ?_)
                    · refine jg_ldk (pc := 161) (-1000000) X kw_1617 (by decide) d_12_middle_161 ?_
                      exact jg_ireturn (pc := 163) X hAe hlocks hr d_12_middle_163 ⟨(Nat.le_of_ble_eq_true rfl), (Nat.le_of_ble_eq_true rfl)⟩ rfl (⟨by decide, by decide⟩ : jRng (-1000000)) hw h
                    · refine jg_aload_n (pc := 107) X d_12_middle_107 0 rfl ?_
                      refine jg_iload_n (pc := 108) X d_12_middle_108 1 rfl ?_
                      refine jg_iload (pc := 109) X d_12_middle_109 5 rfl ?_
                      refine jg_iload_n (pc := 111) X d_12_middle_111 2 rfl ?_
                      refine jg_pcallVi (pc := 112) X (m_12_valueAt rv1 rv5 rv2 hw h) jM_12_valueAt kw_1843 (jl_345_12 hn) rfl rfl rfl rfl rfl (Nat.le_of_ble_eq_true rfl) d_12_middle_112 ⟨(Nat.le_of_ble_eq_true rfl), (Nat.le_of_ble_eq_true rfl)⟩ ⟨(Nat.le_of_ble_eq_true rfl), (Nat.le_of_ble_eq_true rfl)⟩ (fun x38 r40 h => ?_)
                      refine jg_istore (pc := 115) X [(6, jI x38), (0, jr Z 345), (1, jI v1), (2, jI v2), (3, jI v3), (4, jI v4), (5, jI v5)] d_12_middle_115 (by decide) rfl ?_
                      refine jg_iload (pc := 117) X d_12_middle_117 0 rfl ?_
                      refine jg_ldk (pc := 119) (-1000000) X kw_1617 (by decide) d_12_middle_119 ?_
                      refine jg_icmp_eq (tgt := 155) (pc := 121) X d_12_middle_121 (by decide) r40 (⟨by decide, by decide⟩ : jRng (-1000000)) h (fun c42 h => ?_) (fun c42 h => ?_)
                      · refine jg_iinc (pc := 155) X [(5, jI (v5 + 1)), (6, jI x38), (0, jr Z 345), (1, jI v1), (2, jI v2), (3, jI v3), (4, jI v4)] d_12_middle_155 6 rfl (by decide) rfl ?_
                        refine jg_goto (tgt := 90) (pc := 158) X d_12_middle_158 (by decide) ?_
                        have r43 : jRng (v5 + 1) := by (unfold jRng; exact ⟨by (have z0 : jRng v5 := rv5; have z1 : jRng x32 := r34; unfold jRng at z0 z1; omega), by (have z0 : jRng v5 := rv5; have z1 : jRng x32 := r34; unfold jRng at z0 z1; omega)⟩)
                        refine jg_sub [2, 3, 4, 5, 6, 0] rfl ?_
                        exact ih90 _ r43 h
                      · refine jg_aload_n (pc := 124) X d_12_middle_124 1 rfl ?_
                        refine jg_iload_n (pc := 125) X d_12_middle_125 2 rfl ?_
                        refine jg_iload_n (pc := 126) X d_12_middle_126 3 rfl ?_
                        refine jg_iload (pc := 127) X d_12_middle_127 0 rfl ?_
                        refine jg_iconst (pc := 129) X d_12_middle_129 ?_
                        refine jg_pcallVi (pc := 130) X (m_12_upTo rv1 rv2 r40 (⟨by decide, by decide⟩ : jRng 0) hw h) jM_12_upTo kw_2024 (jl_345_12 hn) rfl rfl rfl rfl rfl (Nat.le_of_ble_eq_true rfl) d_12_middle_130 ⟨(Nat.le_of_ble_eq_true rfl), (Nat.le_of_ble_eq_true rfl)⟩ ⟨(Nat.le_of_ble_eq_true rfl), (Nat.le_of_ble_eq_true rfl)⟩ (fun x44 r46 h => ?_)
                        refine jg_iload (pc := 133) X d_12_middle_133 5 rfl ?_
                        refine jg_icmp_gt (tgt := 155) (pc := 135) X d_12_middle_135 (by decide) r46 rv4 h (fun c48 h => ?_) (fun c48 h => ?_)
                        · refine jg_iinc (pc := 155) X [(5, jI (v5 + 1)), (6, jI x38), (0, jr Z 345), (1, jI v1), (2, jI v2), (3, jI v3), (4, jI v4)] d_12_middle_155 6 rfl (by decide) rfl ?_
                          refine jg_goto (tgt := 90) (pc := 158) X d_12_middle_158 (by decide) ?_
                          have r49 : jRng (v5 + 1) := by (unfold jRng; exact ⟨by (have z0 : jRng v5 := rv5; have z1 : jRng x32 := r34; unfold jRng at z0 z1; omega), by (have z0 : jRng v5 := rv5; have z1 : jRng x32 := r34; unfold jRng at z0 z1; omega)⟩)
                          refine jg_sub [2, 3, 4, 5, 6, 0] rfl ?_
                          exact ih90 _ r49 h
                        · refine jg_aload_n (pc := 138) X d_12_middle_138 1 rfl ?_
                          refine jg_iload_n (pc := 139) X d_12_middle_139 2 rfl ?_
                          refine jg_iload_n (pc := 140) X d_12_middle_140 3 rfl ?_
                          refine jg_iload (pc := 141) X d_12_middle_141 0 rfl ?_
                          refine jg_iconst (pc := 143) X d_12_middle_143 ?_
                          refine jg_pcallVi (pc := 144) X (m_12_upTo rv1 rv2 r40 (⟨by decide, by decide⟩ : jRng 1) hw h) jM_12_upTo kw_2024 (jl_345_12 hn) rfl rfl rfl rfl rfl (Nat.le_of_ble_eq_true rfl) d_12_middle_144 ⟨(Nat.le_of_ble_eq_true rfl), (Nat.le_of_ble_eq_true rfl)⟩ ⟨(Nat.le_of_ble_eq_true rfl), (Nat.le_of_ble_eq_true rfl)⟩ (fun x50 r52 h => ?_)
                          refine jg_iload (pc := 147) X d_12_middle_147 5 rfl ?_
                          refine jg_icmp_le (tgt := 155) (pc := 149) X d_12_middle_149 (by decide) r52 rv4 h (fun c54 h => ?_) (fun c54 h => ?_)
                          · refine jg_iinc (pc := 155) X [(5, jI (v5 + 1)), (6, jI x38), (0, jr Z 345), (1, jI v1), (2, jI v2), (3, jI v3), (4, jI v4)] d_12_middle_155 6 rfl (by decide) rfl ?_
                            refine jg_goto (tgt := 90) (pc := 158) X d_12_middle_158 (by decide) ?_
                            have r55 : jRng (v5 + 1) := by (unfold jRng; exact ⟨by (have z0 : jRng v5 := rv5; have z1 : jRng x32 := r34; unfold jRng at z0 z1; omega), by (have z0 : jRng v5 := rv5; have z1 : jRng x32 := r34; unfold jRng at z0 z1; omega)⟩)
                            refine jg_sub [2, 3, 4, 5, 6, 0] rfl ?_
                            exact ih90 _ r55 h
                          · refine jg_iload (pc := 152) X d_12_middle_152 0 rfl ?_
                            exact jg_ireturn (pc := 154) X hAe hlocks hr d_12_middle_154 ⟨(Nat.le_of_ble_eq_true rfl), (Nat.le_of_ble_eq_true rfl)⟩ rfl r40 hw h
              obtain ⟨N, h⟩ := h
              refine jg_sub [2, 3, 4, 5, 1, 0] rfl ?_
              exact jl90 _ r27 N _ (⟨by decide, by decide⟩ : jRng 0) h
            · refine jg_iload_n (pc := 53) X d_12_middle_53 3 rfl ?_
              refine jg_aload_n (pc := 54) X d_12_middle_54 0 rfl ?_
              refine jg_iload_n (pc := 55) X d_12_middle_55 1 rfl ?_
              refine jg_iload (pc := 56) X d_12_middle_56 4 rfl ?_
              refine jg_iload_n (pc := 58) X d_12_middle_58 2 rfl ?_
              refine jg_pcallVi (pc := 59) X (m_12_valueAt rv1 rv4 rv2 hw h) jM_12_valueAt kw_1843 (jl_345_12 hn) rfl rfl rfl rfl rfl (Nat.le_of_ble_eq_true rfl) d_12_middle_59 ⟨(Nat.le_of_ble_eq_true rfl), (Nat.le_of_ble_eq_true rfl)⟩ ⟨(Nat.le_of_ble_eq_true rfl), (Nat.le_of_ble_eq_true rfl)⟩ (fun x56 r58 h => ?_)
              refine jg_ldk (pc := 62) (-1000000) X kw_1617 (by decide) d_12_middle_62 ?_
              refine jg_icmp_ne (tgt := 71) (pc := 64) X d_12_middle_64 (by decide) r58 (⟨by decide, by decide⟩ : jRng (-1000000)) h (fun c60 h => ?_) (fun c60 h => ?_)
              · refine jg_iconst (pc := 67) X d_12_middle_67 ?_
                refine jg_goto (tgt := 72) (pc := 68) X d_12_middle_68 (by decide) ?_
                refine jg_iadd (pc := 72) X d_12_middle_72 ?_
                refine jg_istore_n (pc := 73) X [(3, jI (v3 + 0)), (0, jr Z 345), (1, jI v1), (2, jI v2), (4, jI v4)] d_12_middle_73 (by decide) rfl ?_
                refine jg_iinc (pc := 74) X [(4, jI (v4 + 1)), (3, jI (v3 + 0)), (0, jr Z 345), (1, jI v1), (2, jI v2)] d_12_middle_74 4 rfl (by decide) rfl ?_
                refine jg_goto (tgt := 40) (pc := 77) X d_12_middle_77 (by decide) ?_
                have r61 : jRng (v3 + 0) := by (unfold jRng; exact ⟨by (have z0 : jRng v3 := rv3; unfold jRng at z0; omega), by (have z0 : jRng v3 := rv3; unfold jRng at z0; omega)⟩)
                have r62 : jRng (v4 + 1) := by (unfold jRng; exact ⟨by (have z0 : jRng v4 := rv4; have z1 : jRng x21 := r23; unfold jRng at z0 z1; omega), by (have z0 : jRng v4 := rv4; have z1 : jRng x21 := r23; unfold jRng at z0 z1; omega)⟩)
                refine jg_sub [2, 3, 4, 1, 0] rfl ?_
                exact ih40 _ _ r61 r62 h
              · refine jg_iconst (pc := 71) X d_12_middle_71 ?_
                refine jg_iadd (pc := 72) X d_12_middle_72 ?_
                refine jg_istore_n (pc := 73) X [(3, jI (v3 + 1)), (0, jr Z 345), (1, jI v1), (2, jI v2), (4, jI v4)] d_12_middle_73 (by decide) rfl ?_
                refine jg_iinc (pc := 74) X [(4, jI (v4 + 1)), (3, jI (v3 + 1)), (0, jr Z 345), (1, jI v1), (2, jI v2)] d_12_middle_74 4 rfl (by decide) rfl ?_
                refine jg_goto (tgt := 40) (pc := 77) X d_12_middle_77 (by decide) ?_
                obtain ⟨r63, h⟩ := h
                have r64 : jRng (v4 + 1) := by (unfold jRng; exact ⟨by (have z0 : jRng v4 := rv4; have z1 : jRng x21 := r23; unfold jRng at z0 z1; omega), by (have z0 : jRng v4 := rv4; have z1 : jRng x21 := r23; unfold jRng at z0 z1; omega)⟩)
                refine jg_sub [2, 3, 4, 1, 0] rfl ?_
                exact ih40 _ _ r63 r64 h
        obtain ⟨N, h⟩ := h
        refine jg_sub [2, 3, 4, 1, 0] rfl ?_
        exact jl40 _ w15 N _ _ (⟨by decide, by decide⟩ : jRng 0) (⟨by decide, by decide⟩ : jRng 0) h
      · refine jg_iconst (pc := 33) X d_12_middle_33 ?_
        exact jg_ireturn (pc := 34) X hAe hlocks hr d_12_middle_34 ⟨(Nat.le_of_ble_eq_true rfl), (Nat.le_of_ble_eq_true rfl)⟩ rfl (⟨by decide, by decide⟩ : jRng 0) w15 h
    · refine jg_iconst (pc := 21) X d_12_middle_21 ?_
      refine jg_goto (tgt := 26) (pc := 22) X d_12_middle_22 (by decide) ?_
      refine jg_iconst (pc := 26) X d_12_middle_26 ?_
      refine jg_callVi (pc := 27) X (m_12_throwsIf (⟨by decide, by decide⟩ : jRng 1) (⟨by decide, by decide⟩ : jRng 1) w1 h) jM_12_throwsIf kw_1697 (jl_345_12 hn) rfl rfl rfl rfl rfl (Nat.le_of_ble_eq_true rfl) d_12_middle_27 ⟨(Nat.le_of_ble_eq_true rfl), (Nat.le_of_ble_eq_true rfl)⟩ ⟨(Nat.le_of_ble_eq_true rfl), (Nat.le_of_ble_eq_true rfl)⟩ (fun x65 C66 r67 w68 h => ?_)
      refine jg_if_eq (tgt := 35) (pc := 30) X d_12_middle_30 (by decide) r67 h (fun c69 h => ?_) (fun c69 h => ?_)
      · refine jg_iconst (pc := 35) X d_12_middle_35 ?_
        refine jg_istore_n (pc := 36) X [(3, jI 0), (0, jr Z 345), (1, jI v1), (2, jI v2)] d_12_middle_36 (by decide) rfl ?_
        refine jg_iconst (pc := 37) X d_12_middle_37 ?_
        refine jg_istore (pc := 38) X [(4, jI 0), (3, jI 0), (0, jr Z 345), (1, jI v1), (2, jI v2)] d_12_middle_38 (by decide) rfl ?_
        have jl40 : ∀ (C : jC) (hw : jWF n C) (N : Nat) (v3 : Int) (v4 : Int) (rv3 : jRng v3) (rv4 : jRng v4), jI2 (wp_12_middle_40 v1 v2 C post) N v3 v4 → jG p l e q_12_middle s m args below meth c 7 Z A (jws Z n C) 0 0 (MQ below (jQi Z n sz post) args s q_12_middle.cells q_12_middle.slots (jA Z n sz)) 40 [(0, jr Z 345), (1, jI v1), (2, jI v2), (3, jI v3), (4, jI v4)] [] := by
          intro C hw N
          have hn := hw0.2.2.1
          induction N with
          | zero => intro v3 v4 rv3 rv4 h; exact h.elim
          | succ N ih40 =>
            intro v3 v4 rv3 rv4 h
            have h : wp_12_middle_40 v1 v2 C post (jI2 (wp_12_middle_40 v1 v2 C post) N) v3 v4 := h
            generalize jI2 (wp_12_middle_40 v1 v2 C post) N = k40 at h ih40
            unfold wp_12_middle_40 at h
            refine jg_iload (pc := 40) X d_12_middle_40 4 rfl ?_
            refine jg_aload_n (pc := 42) X d_12_middle_42 0 rfl ?_
            refine jg_iload_n (pc := 43) X d_12_middle_43 1 rfl ?_
            refine jg_pcallSi (pc := 44) X (m_12_listOf rv1 hw h) jM_12_listOf kw_1686 rfl rfl (Nat.le_of_ble_eq_true rfl) d_12_middle_44 ⟨(Nat.le_of_ble_eq_true rfl), (Nat.le_of_ble_eq_true rfl)⟩ ⟨(Nat.le_of_ble_eq_true rfl), (Nat.le_of_ble_eq_true rfl)⟩ (fun x70 r72 h => ?_)
            refine jg_pcallVi (pc := 47) X (m_12_size r72 hw h) jM_12_size kw_1609 (jl_345_12 hn) rfl rfl rfl rfl rfl (Nat.le_of_ble_eq_true rfl) d_12_middle_47 ⟨(Nat.le_of_ble_eq_true rfl), (Nat.le_of_ble_eq_true rfl)⟩ ⟨(Nat.le_of_ble_eq_true rfl), (Nat.le_of_ble_eq_true rfl)⟩ (fun x74 r76 h => ?_)
            refine jg_icmp_ge (tgt := 80) (pc := 50) X d_12_middle_50 (by decide) rv4 r76 h (fun c78 h => ?_) (fun c78 h => ?_)
            · refine jg_iload_n (pc := 80) X d_12_middle_80 3 rfl ?_
              refine jg_iconst (pc := 81) X d_12_middle_81 ?_
              refine jg_isub (pc := 82) X d_12_middle_82 ?_
              refine jg_iconst (pc := 83) X d_12_middle_83 ?_
              obtain ⟨r79, h⟩ := h
              have r80 : jRng ((v3 - 1).tdiv 2) := jrng_tdiv r79 (by decide) (by decide)
              refine jg_idiv (pc := 84) X d_12_middle_84 r79 (by decide) (by decide) ?_
              refine jg_istore (pc := 85) X [(4, jI ((v3 - 1).tdiv 2)), (0, jr Z 345), (1, jI v1), (2, jI v2), (3, jI v3)] d_12_middle_85 (by decide) rfl ?_
              refine jg_iconst (pc := 87) X d_12_middle_87 ?_
              refine jg_istore (pc := 88) X [(5, jI 0), (4, jI ((v3 - 1).tdiv 2)), (0, jr Z 345), (1, jI v1), (2, jI v2), (3, jI v3)] d_12_middle_88 (by decide) rfl ?_
              have jl90 : ∀ (v4 : Int) (rv4 : jRng v4) (N : Nat) (v5 : Int) (rv5 : jRng v5), jI1 (wp_12_middle_90 v1 v2 v3 v4 C post) N v5 → jG p l e q_12_middle s m args below meth c 7 Z A (jws Z n C) 0 0 (MQ below (jQi Z n sz post) args s q_12_middle.cells q_12_middle.slots (jA Z n sz)) 90 [(0, jr Z 345), (1, jI v1), (2, jI v2), (3, jI v3), (4, jI v4), (5, jI v5)] [] := by
                intro v4 rv4 N
                have hn := hw0.2.2.1
                induction N with
                | zero => intro v5 rv5 h; exact h.elim
                | succ N ih90 =>
                  intro v5 rv5 h
                  have h : wp_12_middle_90 v1 v2 v3 v4 C post (jI1 (wp_12_middle_90 v1 v2 v3 v4 C post) N) v5 := h
                  generalize jI1 (wp_12_middle_90 v1 v2 v3 v4 C post) N = k90 at h ih90
                  unfold wp_12_middle_90 at h
                  refine jg_iload (pc := 90) X d_12_middle_90 5 rfl ?_
                  refine jg_aload_n (pc := 92) X d_12_middle_92 0 rfl ?_
                  refine jg_iload_n (pc := 93) X d_12_middle_93 1 rfl ?_
                  refine jg_pcallSi (pc := 94) X (m_12_listOf rv1 hw h) jM_12_listOf kw_1686 rfl rfl (Nat.le_of_ble_eq_true rfl) d_12_middle_94 ⟨(Nat.le_of_ble_eq_true rfl), (Nat.le_of_ble_eq_true rfl)⟩ ⟨(Nat.le_of_ble_eq_true rfl), (Nat.le_of_ble_eq_true rfl)⟩ (fun x81 r83 h => ?_)
                  refine jg_pcallVi (pc := 97) X (m_12_size r83 hw h) jM_12_size kw_1609 (jl_345_12 hn) rfl rfl rfl rfl rfl (Nat.le_of_ble_eq_true rfl) d_12_middle_97 ⟨(Nat.le_of_ble_eq_true rfl), (Nat.le_of_ble_eq_true rfl)⟩ ⟨(Nat.le_of_ble_eq_true rfl), (Nat.le_of_ble_eq_true rfl)⟩ (fun x85 r87 h => ?_)
                  refine jg_icmp_ge (tgt := 161) (pc := 100) X d_12_middle_100 (by decide) rv5 r87 h (fun c89 h => ?_) (fun c89 h => ?_)
                  · refine jg_ldk (pc := 161) (-1000000) X kw_1617 (by decide) d_12_middle_161 ?_
                    exact jg_ireturn (pc := 163) X hAe hlocks hr d_12_middle_163 ⟨(Nat.le_of_ble_eq_true rfl), (Nat.le_of_ble_eq_true rfl)⟩ rfl (⟨by decide, by decide⟩ : jRng (-1000000)) hw h
                  · refine jg_iload_n (pc := 103) X d_12_middle_103 3 rfl ?_
                    refine jg_if_le (tgt := 161) (pc := 104) X d_12_middle_104 (by decide) rv3 h (fun c90 h => ?_) (fun c90 h => ?_)
                    · refine jg_ldk (pc := 161) (-1000000) X kw_1617 (by decide) d_12_middle_161 ?_
                      exact jg_ireturn (pc := 163) X hAe hlocks hr d_12_middle_163 ⟨(Nat.le_of_ble_eq_true rfl), (Nat.le_of_ble_eq_true rfl)⟩ rfl (⟨by decide, by decide⟩ : jRng (-1000000)) hw h
                    · refine jg_aload_n (pc := 107) X d_12_middle_107 0 rfl ?_
                      refine jg_iload_n (pc := 108) X d_12_middle_108 1 rfl ?_
                      refine jg_iload (pc := 109) X d_12_middle_109 5 rfl ?_
                      refine jg_iload_n (pc := 111) X d_12_middle_111 2 rfl ?_
                      refine jg_pcallVi (pc := 112) X (m_12_valueAt rv1 rv5 rv2 hw h) jM_12_valueAt kw_1843 (jl_345_12 hn) rfl rfl rfl rfl rfl (Nat.le_of_ble_eq_true rfl) d_12_middle_112 ⟨(Nat.le_of_ble_eq_true rfl), (Nat.le_of_ble_eq_true rfl)⟩ ⟨(Nat.le_of_ble_eq_true rfl), (Nat.le_of_ble_eq_true rfl)⟩ (fun x91 r93 h => ?_)
                      refine jg_istore (pc := 115) X [(6, jI x91), (0, jr Z 345), (1, jI v1), (2, jI v2), (3, jI v3), (4, jI v4), (5, jI v5)] d_12_middle_115 (by decide) rfl ?_
                      refine jg_iload (pc := 117) X d_12_middle_117 0 rfl ?_
                      refine jg_ldk (pc := 119) (-1000000) X kw_1617 (by decide) d_12_middle_119 ?_
                      refine jg_icmp_eq (tgt := 155) (pc := 121) X d_12_middle_121 (by decide) r93 (⟨by decide, by decide⟩ : jRng (-1000000)) h (fun c95 h => ?_) (fun c95 h => ?_)
                      · refine jg_iinc (pc := 155) X [(5, jI (v5 + 1)), (6, jI x91), (0, jr Z 345), (1, jI v1), (2, jI v2), (3, jI v3), (4, jI v4)] d_12_middle_155 6 rfl (by decide) rfl ?_
                        refine jg_goto (tgt := 90) (pc := 158) X d_12_middle_158 (by decide) ?_
                        have r96 : jRng (v5 + 1) := by (unfold jRng; exact ⟨by (have z0 : jRng v5 := rv5; have z1 : jRng x85 := r87; unfold jRng at z0 z1; omega), by (have z0 : jRng v5 := rv5; have z1 : jRng x85 := r87; unfold jRng at z0 z1; omega)⟩)
                        refine jg_sub [2, 3, 4, 5, 6, 0] rfl ?_
                        exact ih90 _ r96 h
                      · refine jg_aload_n (pc := 124) X d_12_middle_124 1 rfl ?_
                        refine jg_iload_n (pc := 125) X d_12_middle_125 2 rfl ?_
                        refine jg_iload_n (pc := 126) X d_12_middle_126 3 rfl ?_
                        refine jg_iload (pc := 127) X d_12_middle_127 0 rfl ?_
                        refine jg_iconst (pc := 129) X d_12_middle_129 ?_
                        refine jg_pcallVi (pc := 130) X (m_12_upTo rv1 rv2 r93 (⟨by decide, by decide⟩ : jRng 0) hw h) jM_12_upTo kw_2024 (jl_345_12 hn) rfl rfl rfl rfl rfl (Nat.le_of_ble_eq_true rfl) d_12_middle_130 ⟨(Nat.le_of_ble_eq_true rfl), (Nat.le_of_ble_eq_true rfl)⟩ ⟨(Nat.le_of_ble_eq_true rfl), (Nat.le_of_ble_eq_true rfl)⟩ (fun x97 r99 h => ?_)
                        refine jg_iload (pc := 133) X d_12_middle_133 5 rfl ?_
                        refine jg_icmp_gt (tgt := 155) (pc := 135) X d_12_middle_135 (by decide) r99 rv4 h (fun c101 h => ?_) (fun c101 h => ?_)
                        · refine jg_iinc (pc := 155) X [(5, jI (v5 + 1)), (6, jI x91), (0, jr Z 345), (1, jI v1), (2, jI v2), (3, jI v3), (4, jI v4)] d_12_middle_155 6 rfl (by decide) rfl ?_
                          refine jg_goto (tgt := 90) (pc := 158) X d_12_middle_158 (by decide) ?_
                          have r102 : jRng (v5 + 1) := by (unfold jRng; exact ⟨by (have z0 : jRng v5 := rv5; have z1 : jRng x85 := r87; unfold jRng at z0 z1; omega), by (have z0 : jRng v5 := rv5; have z1 : jRng x85 := r87; unfold jRng at z0 z1; omega)⟩)
                          refine jg_sub [2, 3, 4, 5, 6, 0] rfl ?_
                          exact ih90 _ r102 h
                        · refine jg_aload_n (pc := 138) X d_12_middle_138 1 rfl ?_
                          refine jg_iload_n (pc := 139) X d_12_middle_139 2 rfl ?_
                          refine jg_iload_n (pc := 140) X d_12_middle_140 3 rfl ?_
                          refine jg_iload (pc := 141) X d_12_middle_141 0 rfl ?_
                          refine jg_iconst (pc := 143) X d_12_middle_143 ?_
                          refine jg_pcallVi (pc := 144) X (m_12_upTo rv1 rv2 r93 (⟨by decide, by decide⟩ : jRng 1) hw h) jM_12_upTo kw_2024 (jl_345_12 hn) rfl rfl rfl rfl rfl (Nat.le_of_ble_eq_true rfl) d_12_middle_144 ⟨(Nat.le_of_ble_eq_true rfl), (Nat.le_of_ble_eq_true rfl)⟩ ⟨(Nat.le_of_ble_eq_true rfl), (Nat.le_of_ble_eq_true rfl)⟩ (fun x103 r105 h => ?_)
                          refine jg_iload (pc := 147) X d_12_middle_147 5 rfl ?_
                          refine jg_icmp_le (tgt := 155) (pc := 149) X d_12_middle_149 (by decide) r105 rv4 h (fun c107 h => ?_) (fun c107 h => ?_)
                          · refine jg_iinc (pc := 155) X [(5, jI (v5 + 1)), (6, jI x91), (0, jr Z 345), (1, jI v1), (2, jI v2), (3, jI v3), (4, jI v4)] d_12_middle_155 6 rfl (by decide) rfl ?_
                            refine jg_goto (tgt := 90) (pc := 158) X d_12_middle_158 (by decide) ?_
                            have r108 : jRng (v5 + 1) := by (unfold jRng; exact ⟨by (have z0 : jRng v5 := rv5; have z1 : jRng x85 := r87; unfold jRng at z0 z1; omega), by (have z0 : jRng v5 := rv5; have z1 : jRng x85 := r87; unfold jRng at z0 z1; omega)⟩)
                            refine jg_sub [2, 3, 4, 5, 6, 0] rfl ?_
                            exact ih90 _ r108 h
                          · refine jg_iload (pc := 152) X d_12_middle_152 0 rfl ?_
                            exact jg_ireturn (pc := 154) X hAe hlocks hr d_12_middle_154 ⟨(Nat.le_of_ble_eq_true rfl), (Nat.le_of_ble_eq_true rfl)⟩ rfl r93 hw h
              obtain ⟨N, h⟩ := h
              refine jg_sub [2, 3, 4, 5, 1, 0] rfl ?_
              exact jl90 _ r80 N _ (⟨by decide, by decide⟩ : jRng 0) h
            · refine jg_iload_n (pc := 53) X d_12_middle_53 3 rfl ?_
              refine jg_aload_n (pc := 54) X d_12_middle_54 0 rfl ?_
              refine jg_iload_n (pc := 55) X d_12_middle_55 1 rfl ?_
              refine jg_iload (pc := 56) X d_12_middle_56 4 rfl ?_
              refine jg_iload_n (pc := 58) X d_12_middle_58 2 rfl ?_
              refine jg_pcallVi (pc := 59) X (m_12_valueAt rv1 rv4 rv2 hw h) jM_12_valueAt kw_1843 (jl_345_12 hn) rfl rfl rfl rfl rfl (Nat.le_of_ble_eq_true rfl) d_12_middle_59 ⟨(Nat.le_of_ble_eq_true rfl), (Nat.le_of_ble_eq_true rfl)⟩ ⟨(Nat.le_of_ble_eq_true rfl), (Nat.le_of_ble_eq_true rfl)⟩ (fun x109 r111 h => ?_)
              refine jg_ldk (pc := 62) (-1000000) X kw_1617 (by decide) d_12_middle_62 ?_
              refine jg_icmp_ne (tgt := 71) (pc := 64) X d_12_middle_64 (by decide) r111 (⟨by decide, by decide⟩ : jRng (-1000000)) h (fun c113 h => ?_) (fun c113 h => ?_)
              · refine jg_iconst (pc := 67) X d_12_middle_67 ?_
                refine jg_goto (tgt := 72) (pc := 68) X d_12_middle_68 (by decide) ?_
                refine jg_iadd (pc := 72) X d_12_middle_72 ?_
                refine jg_istore_n (pc := 73) X [(3, jI (v3 + 0)), (0, jr Z 345), (1, jI v1), (2, jI v2), (4, jI v4)] d_12_middle_73 (by decide) rfl ?_
                refine jg_iinc (pc := 74) X [(4, jI (v4 + 1)), (3, jI (v3 + 0)), (0, jr Z 345), (1, jI v1), (2, jI v2)] d_12_middle_74 4 rfl (by decide) rfl ?_
                refine jg_goto (tgt := 40) (pc := 77) X d_12_middle_77 (by decide) ?_
                have r114 : jRng (v3 + 0) := by (unfold jRng; exact ⟨by (have z0 : jRng v3 := rv3; unfold jRng at z0; omega), by (have z0 : jRng v3 := rv3; unfold jRng at z0; omega)⟩)
                have r115 : jRng (v4 + 1) := by (unfold jRng; exact ⟨by (have z0 : jRng v4 := rv4; have z1 : jRng x74 := r76; unfold jRng at z0 z1; omega), by (have z0 : jRng v4 := rv4; have z1 : jRng x74 := r76; unfold jRng at z0 z1; omega)⟩)
                refine jg_sub [2, 3, 4, 1, 0] rfl ?_
                exact ih40 _ _ r114 r115 h
              · refine jg_iconst (pc := 71) X d_12_middle_71 ?_
                refine jg_iadd (pc := 72) X d_12_middle_72 ?_
                refine jg_istore_n (pc := 73) X [(3, jI (v3 + 1)), (0, jr Z 345), (1, jI v1), (2, jI v2), (4, jI v4)] d_12_middle_73 (by decide) rfl ?_
                refine jg_iinc (pc := 74) X [(4, jI (v4 + 1)), (3, jI (v3 + 1)), (0, jr Z 345), (1, jI v1), (2, jI v2)] d_12_middle_74 4 rfl (by decide) rfl ?_
                refine jg_goto (tgt := 40) (pc := 77) X d_12_middle_77 (by decide) ?_
                obtain ⟨r116, h⟩ := h
                have r117 : jRng (v4 + 1) := by (unfold jRng; exact ⟨by (have z0 : jRng v4 := rv4; have z1 : jRng x74 := r76; unfold jRng at z0 z1; omega), by (have z0 : jRng v4 := rv4; have z1 : jRng x74 := r76; unfold jRng at z0 z1; omega)⟩)
                refine jg_sub [2, 3, 4, 1, 0] rfl ?_
                exact ih40 _ _ r116 r117 h
        obtain ⟨N, h⟩ := h
        refine jg_sub [2, 3, 4, 1, 0] rfl ?_
        exact jl40 _ w68 N _ _ (⟨by decide, by decide⟩ : jRng 0) (⟨by decide, by decide⟩ : jRng 0) h
      · refine jg_iconst (pc := 33) X d_12_middle_33 ?_
        exact jg_ireturn (pc := 34) X hAe hlocks hr d_12_middle_34 ⟨(Nat.le_of_ble_eq_true rfl), (Nat.le_of_ble_eq_true rfl)⟩ rfl (⟨by decide, by decide⟩ : jRng 0) w68 h
  · refine jg_iconst (pc := 21) X d_12_middle_21 ?_
    refine jg_goto (tgt := 26) (pc := 22) X d_12_middle_22 (by decide) ?_
    refine jg_iconst (pc := 26) X d_12_middle_26 ?_
    refine jg_callVi (pc := 27) X (m_12_throwsIf (⟨by decide, by decide⟩ : jRng 1) (⟨by decide, by decide⟩ : jRng 1) w1 h) jM_12_throwsIf kw_1697 (jl_345_12 hn) rfl rfl rfl rfl rfl (Nat.le_of_ble_eq_true rfl) d_12_middle_27 ⟨(Nat.le_of_ble_eq_true rfl), (Nat.le_of_ble_eq_true rfl)⟩ ⟨(Nat.le_of_ble_eq_true rfl), (Nat.le_of_ble_eq_true rfl)⟩ (fun x118 C119 r120 w121 h => ?_)
    refine jg_if_eq (tgt := 35) (pc := 30) X d_12_middle_30 (by decide) r120 h (fun c122 h => ?_) (fun c122 h => ?_)
    · refine jg_iconst (pc := 35) X d_12_middle_35 ?_
      refine jg_istore_n (pc := 36) X [(3, jI 0), (0, jr Z 345), (1, jI v1), (2, jI v2)] d_12_middle_36 (by decide) rfl ?_
      refine jg_iconst (pc := 37) X d_12_middle_37 ?_
      refine jg_istore (pc := 38) X [(4, jI 0), (3, jI 0), (0, jr Z 345), (1, jI v1), (2, jI v2)] d_12_middle_38 (by decide) rfl ?_
      have jl40 : ∀ (C : jC) (hw : jWF n C) (N : Nat) (v3 : Int) (v4 : Int) (rv3 : jRng v3) (rv4 : jRng v4), jI2 (wp_12_middle_40 v1 v2 C post) N v3 v4 → jG p l e q_12_middle s m args below meth c 7 Z A (jws Z n C) 0 0 (MQ below (jQi Z n sz post) args s q_12_middle.cells q_12_middle.slots (jA Z n sz)) 40 [(0, jr Z 345), (1, jI v1), (2, jI v2), (3, jI v3), (4, jI v4)] [] := by
        intro C hw N
        have hn := hw0.2.2.1
        induction N with
        | zero => intro v3 v4 rv3 rv4 h; exact h.elim
        | succ N ih40 =>
          intro v3 v4 rv3 rv4 h
          have h : wp_12_middle_40 v1 v2 C post (jI2 (wp_12_middle_40 v1 v2 C post) N) v3 v4 := h
          generalize jI2 (wp_12_middle_40 v1 v2 C post) N = k40 at h ih40
          unfold wp_12_middle_40 at h
          refine jg_iload (pc := 40) X d_12_middle_40 4 rfl ?_
          refine jg_aload_n (pc := 42) X d_12_middle_42 0 rfl ?_
          refine jg_iload_n (pc := 43) X d_12_middle_43 1 rfl ?_
          refine jg_pcallSi (pc := 44) X (m_12_listOf rv1 hw h) jM_12_listOf kw_1686 rfl rfl (Nat.le_of_ble_eq_true rfl) d_12_middle_44 ⟨(Nat.le_of_ble_eq_true rfl), (Nat.le_of_ble_eq_true rfl)⟩ ⟨(Nat.le_of_ble_eq_true rfl), (Nat.le_of_ble_eq_true rfl)⟩ (fun x123 r125 h => ?_)
          refine jg_pcallVi (pc := 47) X (m_12_size r125 hw h) jM_12_size kw_1609 (jl_345_12 hn) rfl rfl rfl rfl rfl (Nat.le_of_ble_eq_true rfl) d_12_middle_47 ⟨(Nat.le_of_ble_eq_true rfl), (Nat.le_of_ble_eq_true rfl)⟩ ⟨(Nat.le_of_ble_eq_true rfl), (Nat.le_of_ble_eq_true rfl)⟩ (fun x127 r129 h => ?_)
          refine jg_icmp_ge (tgt := 80) (pc := 50) X d_12_middle_50 (by decide) rv4 r129 h (fun c131 h => ?_) (fun c131 h => ?_)
          · refine jg_iload_n (pc := 80) X d_12_middle_80 3 rfl ?_
            refine jg_iconst (pc := 81) X d_12_middle_81 ?_
            refine jg_isub (pc := 82) X d_12_middle_82 ?_
            refine jg_iconst (pc := 83) X d_12_middle_83 ?_
            obtain ⟨r132, h⟩ := h
            have r133 : jRng ((v3 - 1).tdiv 2) := jrng_tdiv r132 (by decide) (by decide)
            refine jg_idiv (pc := 84) X d_12_middle_84 r132 (by decide) (by decide) ?_
            refine jg_istore (pc := 85) X [(4, jI ((v3 - 1).tdiv 2)), (0, jr Z 345), (1, jI v1), (2, jI v2), (3, jI v3)] d_12_middle_85 (by decide) rfl ?_
            refine jg_iconst (pc := 87) X d_12_middle_87 ?_
            refine jg_istore (pc := 88) X [(5, jI 0), (4, jI ((v3 - 1).tdiv 2)), (0, jr Z 345), (1, jI v1), (2, jI v2), (3, jI v3)] d_12_middle_88 (by decide) rfl ?_
            have jl90 : ∀ (v4 : Int) (rv4 : jRng v4) (N : Nat) (v5 : Int) (rv5 : jRng v5), jI1 (wp_12_middle_90 v1 v2 v3 v4 C post) N v5 → jG p l e q_12_middle s m args below meth c 7 Z A (jws Z n C) 0 0 (MQ below (jQi Z n sz post) args s q_12_middle.cells q_12_middle.slots (jA Z n sz)) 90 [(0, jr Z 345), (1, jI v1), (2, jI v2), (3, jI v3), (4, jI v4), (5, jI v5)] [] := by
              intro v4 rv4 N
              have hn := hw0.2.2.1
              induction N with
              | zero => intro v5 rv5 h; exact h.elim
              | succ N ih90 =>
                intro v5 rv5 h
                have h : wp_12_middle_90 v1 v2 v3 v4 C post (jI1 (wp_12_middle_90 v1 v2 v3 v4 C post) N) v5 := h
                generalize jI1 (wp_12_middle_90 v1 v2 v3 v4 C post) N = k90 at h ih90
                unfold wp_12_middle_90 at h
                refine jg_iload (pc := 90) X d_12_middle_90 5 rfl ?_
                refine jg_aload_n (pc := 92) X d_12_middle_92 0 rfl ?_
                refine jg_iload_n (pc := 93) X d_12_middle_93 1 rfl ?_
                refine jg_pcallSi (pc := 94) X (m_12_listOf rv1 hw h) jM_12_listOf kw_1686 rfl rfl (Nat.le_of_ble_eq_true rfl) d_12_middle_94 ⟨(Nat.le_of_ble_eq_true rfl), (Nat.le_of_ble_eq_true rfl)⟩ ⟨(Nat.le_of_ble_eq_true rfl), (Nat.le_of_ble_eq_true rfl)⟩ (fun x134 r136 h => ?_)
                refine jg_pcallVi (pc := 97) X (m_12_size r136 hw h) jM_12_size kw_1609 (jl_345_12 hn) rfl rfl rfl rfl rfl (Nat.le_of_ble_eq_true rfl) d_12_middle_97 ⟨(Nat.le_of_ble_eq_true rfl), (Nat.le_of_ble_eq_true rfl)⟩ ⟨(Nat.le_of_ble_eq_true rfl), (Nat.le_of_ble_eq_true rfl)⟩ (fun x138 r140 h => ?_)
                refine jg_icmp_ge (tgt := 161) (pc := 100) X d_12_middle_100 (by decide) rv5 r140 h (fun c142 h => ?_) (fun c142 h => ?_)
                · refine jg_ldk (pc := 161) (-1000000) X kw_1617 (by decide) d_12_middle_161 ?_
                  exact jg_ireturn (pc := 163) X hAe hlocks hr d_12_middle_163 ⟨(Nat.le_of_ble_eq_true rfl), (Nat.le_of_ble_eq_true rfl)⟩ rfl (⟨by decide, by decide⟩ : jRng (-1000000)) hw h
                · refine jg_iload_n (pc := 103) X d_12_middle_103 3 rfl ?_
                  refine jg_if_le (tgt := 161) (pc := 104) X d_12_middle_104 (by decide) rv3 h (fun c143 h => ?_) (fun c143 h => ?_)
                  · refine jg_ldk (pc := 161) (-1000000) X kw_1617 (by decide) d_12_middle_161 ?_
                    exact jg_ireturn (pc := 163) X hAe hlocks hr d_12_middle_163 ⟨(Nat.le_of_ble_eq_true rfl), (Nat.le_of_ble_eq_true rfl)⟩ rfl (⟨by decide, by decide⟩ : jRng (-1000000)) hw h
                  · refine jg_aload_n (pc := 107) X d_12_middle_107 0 rfl ?_
                    refine jg_iload_n (pc := 108) X d_12_middle_108 1 rfl ?_
                    refine jg_iload (pc := 109) X d_12_middle_109 5 rfl ?_
                    refine jg_iload_n (pc := 111) X d_12_middle_111 2 rfl ?_
                    refine jg_pcallVi (pc := 112) X (m_12_valueAt rv1 rv5 rv2 hw h) jM_12_valueAt kw_1843 (jl_345_12 hn) rfl rfl rfl rfl rfl (Nat.le_of_ble_eq_true rfl) d_12_middle_112 ⟨(Nat.le_of_ble_eq_true rfl), (Nat.le_of_ble_eq_true rfl)⟩ ⟨(Nat.le_of_ble_eq_true rfl), (Nat.le_of_ble_eq_true rfl)⟩ (fun x144 r146 h => ?_)
                    refine jg_istore (pc := 115) X [(6, jI x144), (0, jr Z 345), (1, jI v1), (2, jI v2), (3, jI v3), (4, jI v4), (5, jI v5)] d_12_middle_115 (by decide) rfl ?_
                    refine jg_iload (pc := 117) X d_12_middle_117 0 rfl ?_
                    refine jg_ldk (pc := 119) (-1000000) X kw_1617 (by decide) d_12_middle_119 ?_
                    refine jg_icmp_eq (tgt := 155) (pc := 121) X d_12_middle_121 (by decide) r146 (⟨by decide, by decide⟩ : jRng (-1000000)) h (fun c148 h => ?_) (fun c148 h => ?_)
                    · refine jg_iinc (pc := 155) X [(5, jI (v5 + 1)), (6, jI x144), (0, jr Z 345), (1, jI v1), (2, jI v2), (3, jI v3), (4, jI v4)] d_12_middle_155 6 rfl (by decide) rfl ?_
                      refine jg_goto (tgt := 90) (pc := 158) X d_12_middle_158 (by decide) ?_
                      have r149 : jRng (v5 + 1) := by (unfold jRng; exact ⟨by (have z0 : jRng v5 := rv5; have z1 : jRng x138 := r140; unfold jRng at z0 z1; omega), by (have z0 : jRng v5 := rv5; have z1 : jRng x138 := r140; unfold jRng at z0 z1; omega)⟩)
                      refine jg_sub [2, 3, 4, 5, 6, 0] rfl ?_
                      exact ih90 _ r149 h
                    · refine jg_aload_n (pc := 124) X d_12_middle_124 1 rfl ?_
                      refine jg_iload_n (pc := 125) X d_12_middle_125 2 rfl ?_
                      refine jg_iload_n (pc := 126) X d_12_middle_126 3 rfl ?_
                      refine jg_iload (pc := 127) X d_12_middle_127 0 rfl ?_
                      refine jg_iconst (pc := 129) X d_12_middle_129 ?_
                      refine jg_pcallVi (pc := 130) X (m_12_upTo rv1 rv2 r146 (⟨by decide, by decide⟩ : jRng 0) hw h) jM_12_upTo kw_2024 (jl_345_12 hn) rfl rfl rfl rfl rfl (Nat.le_of_ble_eq_true rfl) d_12_middle_130 ⟨(Nat.le_of_ble_eq_true rfl), (Nat.le_of_ble_eq_true rfl)⟩ ⟨(Nat.le_of_ble_eq_true rfl), (Nat.le_of_ble_eq_true rfl)⟩ (fun x150 r152 h => ?_)
                      refine jg_iload (pc := 133) X d_12_middle_133 5 rfl ?_
                      refine jg_icmp_gt (tgt := 155) (pc := 135) X d_12_middle_135 (by decide) r152 rv4 h (fun c154 h => ?_) (fun c154 h => ?_)
                      · refine jg_iinc (pc := 155) X [(5, jI (v5 + 1)), (6, jI x144), (0, jr Z 345), (1, jI v1), (2, jI v2), (3, jI v3), (4, jI v4)] d_12_middle_155 6 rfl (by decide) rfl ?_
                        refine jg_goto (tgt := 90) (pc := 158) X d_12_middle_158 (by decide) ?_
                        have r155 : jRng (v5 + 1) := by (unfold jRng; exact ⟨by (have z0 : jRng v5 := rv5; have z1 : jRng x138 := r140; unfold jRng at z0 z1; omega), by (have z0 : jRng v5 := rv5; have z1 : jRng x138 := r140; unfold jRng at z0 z1; omega)⟩)
                        refine jg_sub [2, 3, 4, 5, 6, 0] rfl ?_
                        exact ih90 _ r155 h
                      · refine jg_aload_n (pc := 138) X d_12_middle_138 1 rfl ?_
                        refine jg_iload_n (pc := 139) X d_12_middle_139 2 rfl ?_
                        refine jg_iload_n (pc := 140) X d_12_middle_140 3 rfl ?_
                        refine jg_iload (pc := 141) X d_12_middle_141 0 rfl ?_
                        refine jg_iconst (pc := 143) X d_12_middle_143 ?_
                        refine jg_pcallVi (pc := 144) X (m_12_upTo rv1 rv2 r146 (⟨by decide, by decide⟩ : jRng 1) hw h) jM_12_upTo kw_2024 (jl_345_12 hn) rfl rfl rfl rfl rfl (Nat.le_of_ble_eq_true rfl) d_12_middle_144 ⟨(Nat.le_of_ble_eq_true rfl), (Nat.le_of_ble_eq_true rfl)⟩ ⟨(Nat.le_of_ble_eq_true rfl), (Nat.le_of_ble_eq_true rfl)⟩ (fun x156 r158 h => ?_)
                        refine jg_iload (pc := 147) X d_12_middle_147 5 rfl ?_
                        refine jg_icmp_le (tgt := 155) (pc := 149) X d_12_middle_149 (by decide) r158 rv4 h (fun c160 h => ?_) (fun c160 h => ?_)
                        · refine jg_iinc (pc := 155) X [(5, jI (v5 + 1)), (6, jI x144), (0, jr Z 345), (1, jI v1), (2, jI v2), (3, jI v3), (4, jI v4)] d_12_middle_155 6 rfl (by decide) rfl ?_
                          refine jg_goto (tgt := 90) (pc := 158) X d_12_middle_158 (by decide) ?_
                          have r161 : jRng (v5 + 1) := by (unfold jRng; exact ⟨by (have z0 : jRng v5 := rv5; have z1 : jRng x138 := r140; unfold jRng at z0 z1; omega), by (have z0 : jRng v5 := rv5; have z1 : jRng x138 := r140; unfold jRng at z0 z1; omega)⟩)
                          refine jg_sub [2, 3, 4, 5, 6, 0] rfl ?_
                          exact ih90 _ r161 h
                        · refine jg_iload (pc := 152) X d_12_middle_152 0 rfl ?_
                          exact jg_ireturn (pc := 154) X hAe hlocks hr d_12_middle_154 ⟨(Nat.le_of_ble_eq_true rfl), (Nat.le_of_ble_eq_true rfl)⟩ rfl r146 hw h
            obtain ⟨N, h⟩ := h
            refine jg_sub [2, 3, 4, 5, 1, 0] rfl ?_
            exact jl90 _ r133 N _ (⟨by decide, by decide⟩ : jRng 0) h
          · refine jg_iload_n (pc := 53) X d_12_middle_53 3 rfl ?_
            refine jg_aload_n (pc := 54) X d_12_middle_54 0 rfl ?_
            refine jg_iload_n (pc := 55) X d_12_middle_55 1 rfl ?_
            refine jg_iload (pc := 56) X d_12_middle_56 4 rfl ?_
            refine jg_iload_n (pc := 58) X d_12_middle_58 2 rfl ?_
            refine jg_pcallVi (pc := 59) X (m_12_valueAt rv1 rv4 rv2 hw h) jM_12_valueAt kw_1843 (jl_345_12 hn) rfl rfl rfl rfl rfl (Nat.le_of_ble_eq_true rfl) d_12_middle_59 ⟨(Nat.le_of_ble_eq_true rfl), (Nat.le_of_ble_eq_true rfl)⟩ ⟨(Nat.le_of_ble_eq_true rfl), (Nat.le_of_ble_eq_true rfl)⟩ (fun x162 r164 h => ?_)
            refine jg_ldk (pc := 62) (-1000000) X kw_1617 (by decide) d_12_middle_62 ?_
            refine jg_icmp_ne (tgt := 71) (pc := 64) X d_12_middle_64 (by decide) r164 (⟨by decide, by decide⟩ : jRng (-1000000)) h (fun c166 h => ?_) (fun c166 h => ?_)
            · refine jg_iconst (pc := 67) X d_12_middle_67 ?_
              refine jg_goto (tgt := 72) (pc := 68) X d_12_middle_68 (by decide) ?_
              refine jg_iadd (pc := 72) X d_12_middle_72 ?_
              refine jg_istore_n (pc := 73) X [(3, jI (v3 + 0)), (0, jr Z 345), (1, jI v1), (2, jI v2), (4, jI v4)] d_12_middle_73 (by decide) rfl ?_
              refine jg_iinc (pc := 74) X [(4, jI (v4 + 1)), (3, jI (v3 + 0)), (0, jr Z 345), (1, jI v1), (2, jI v2)] d_12_middle_74 4 rfl (by decide) rfl ?_
              refine jg_goto (tgt := 40) (pc := 77) X d_12_middle_77 (by decide) ?_
              have r167 : jRng (v3 + 0) := by (unfold jRng; exact ⟨by (have z0 : jRng v3 := rv3; unfold jRng at z0; omega), by (have z0 : jRng v3 := rv3; unfold jRng at z0; omega)⟩)
              have r168 : jRng (v4 + 1) := by (unfold jRng; exact ⟨by (have z0 : jRng v4 := rv4; have z1 : jRng x127 := r129; unfold jRng at z0 z1; omega), by (have z0 : jRng v4 := rv4; have z1 : jRng x127 := r129; unfold jRng at z0 z1; omega)⟩)
              refine jg_sub [2, 3, 4, 1, 0] rfl ?_
              exact ih40 _ _ r167 r168 h
            · refine jg_iconst (pc := 71) X d_12_middle_71 ?_
              refine jg_iadd (pc := 72) X d_12_middle_72 ?_
              refine jg_istore_n (pc := 73) X [(3, jI (v3 + 1)), (0, jr Z 345), (1, jI v1), (2, jI v2), (4, jI v4)] d_12_middle_73 (by decide) rfl ?_
              refine jg_iinc (pc := 74) X [(4, jI (v4 + 1)), (3, jI (v3 + 1)), (0, jr Z 345), (1, jI v1), (2, jI v2)] d_12_middle_74 4 rfl (by decide) rfl ?_
              refine jg_goto (tgt := 40) (pc := 77) X d_12_middle_77 (by decide) ?_
              obtain ⟨r169, h⟩ := h
              have r170 : jRng (v4 + 1) := by (unfold jRng; exact ⟨by (have z0 : jRng v4 := rv4; have z1 : jRng x127 := r129; unfold jRng at z0 z1; omega), by (have z0 : jRng v4 := rv4; have z1 : jRng x127 := r129; unfold jRng at z0 z1; omega)⟩)
              refine jg_sub [2, 3, 4, 1, 0] rfl ?_
              exact ih40 _ _ r169 r170 h
      obtain ⟨N, h⟩ := h
      refine jg_sub [2, 3, 4, 1, 0] rfl ?_
      exact jl40 _ w121 N _ _ (⟨by decide, by decide⟩ : jRng 0) (⟨by decide, by decide⟩ : jRng 0) h
    · refine jg_iconst (pc := 33) X d_12_middle_33 ?_
      exact jg_ireturn (pc := 34) X hAe hlocks hr d_12_middle_34 ⟨(Nat.le_of_ble_eq_true rfl), (Nat.le_of_ble_eq_true rfl)⟩ rfl (⟨by decide, by decide⟩ : jRng 0) w121 h
set_option maxHeartbeats 4000000 in
set_option maxRecDepth 100000 in
theorem m_12_areTwins {l : Launch} {Z : jE} {n : Nat} {C : jC} {v1 : Int} {v2 : Int} {v3 : Int} {post : Int → Prop} (rv1 : jRng v1) (rv2 : jRng v2) (rv3 : jRng v3) (hw0 : jWF n C) (h : wp_12_areTwins v1 v2 v3 C post) : jCi l y_12_areTwins prog_14_method_125_code 6 (.boolean) q_12_areTwins Z n C [jr Z 345, jI v1, jI v2, jI v3] (fun x C9 => C9 = C ∧ post x) := by
  have hn := hw0.2.2.1
  unfold wp_12_areTwins at h
  refine jCi_of (lv0 := [(0, jr Z 345), (1, jI v1), (2, jI v2), (3, jI v3)]) (by decide) (Nat.le_of_ble_eq_true rfl) rfl ?_
  intro p e s m args below meth c A sz X hAe hr hlocks
  refine jg_iconst (pc := 0) X d_12_areTwins_0 ?_
  refine jg_istore (pc := 1) X [(4, jI 1), (0, jr Z 345), (1, jI v1), (2, jI v2), (3, jI v3)] d_12_areTwins_1 (by decide) rfl ?_
  refine jg_iconst (pc := 3) X d_12_areTwins_3 ?_
  refine jg_istore (pc := 4) X [(5, jI 0), (4, jI 1), (0, jr Z 345), (1, jI v1), (2, jI v2), (3, jI v3)] d_12_areTwins_4 (by decide) rfl ?_
  have hw : jWF n C := hw0
  have jl6 : ∀  (N : Nat) (v4 : Int) (v5 : Int) (rv4 : jRng v4) (rv5 : jRng v5), jI2 (wp_12_areTwins_6 v1 v2 v3 C post) N v4 v5 → jG p l e q_12_areTwins s m args below meth c 6 Z A (jws Z n C) 0 0 (MQ below (jQi Z n sz (fun x C9 => C9 = C ∧ post x)) args s q_12_areTwins.cells q_12_areTwins.slots (jA Z n sz)) 6 [(0, jr Z 345), (1, jI v1), (2, jI v2), (3, jI v3), (4, jI v4), (5, jI v5)] [] := by
    intro   N
    have hn := hw0.2.2.1
    induction N with
    | zero => intro v4 v5 rv4 rv5 h; exact h.elim
    | succ N ih6 =>
      intro v4 v5 rv4 rv5 h
      have h : wp_12_areTwins_6 v1 v2 v3 C post (jI2 (wp_12_areTwins_6 v1 v2 v3 C post) N) v4 v5 := h
      generalize jI2 (wp_12_areTwins_6 v1 v2 v3 C post) N = k6 at h ih6
      unfold wp_12_areTwins_6 at h
      refine jg_iload (pc := 6) X d_12_areTwins_6 5 rfl ?_
      refine jg_aload_n (pc := 8) X d_12_areTwins_8 0 rfl ?_
      refine jg_pcallVi (pc := 9) X (m_12_columns hw h) jM_12_columns kw_1590 (jl_345_12 hn) rfl rfl rfl rfl rfl (Nat.le_of_ble_eq_true rfl) d_12_areTwins_9 ⟨(Nat.le_of_ble_eq_true rfl), (Nat.le_of_ble_eq_true rfl)⟩ ⟨(Nat.le_of_ble_eq_true rfl), (Nat.le_of_ble_eq_true rfl)⟩ (fun x1 r3 h => ?_)
      refine jg_icmp_ge (tgt := 62) (pc := 12) X d_12_areTwins_12 (by decide) rv5 r3 h (fun c5 h => ?_) (fun c5 h => ?_)
      · refine jg_iload (pc := 62) X d_12_areTwins_62 4 rfl ?_
        obtain ⟨b6, h⟩ := h
        exact jg_ireturn (pc := 64) X hAe hlocks hr d_12_areTwins_64 ⟨(Nat.le_of_ble_eq_true rfl), (Nat.le_of_ble_eq_true rfl)⟩ (jnar_b b6) rv4 hw ⟨rfl, h⟩
      · refine jg_iload (pc := 15) X d_12_areTwins_15 4 rfl ?_
        refine jg_if_eq (tgt := 62) (pc := 17) X d_12_areTwins_17 (by decide) rv4 h (fun c7 h => ?_) (fun c7 h => ?_)
        · refine jg_iload (pc := 62) X d_12_areTwins_62 4 rfl ?_
          obtain ⟨b8, h⟩ := h
          exact jg_ireturn (pc := 64) X hAe hlocks hr d_12_areTwins_64 ⟨(Nat.le_of_ble_eq_true rfl), (Nat.le_of_ble_eq_true rfl)⟩ (jnar_b b8) rv4 hw ⟨rfl, h⟩
        · refine jg_aload_n (pc := 20) X d_12_areTwins_20 0 rfl ?_
          refine jg_iload_n (pc := 21) X d_12_areTwins_21 1 rfl ?_
          refine jg_iload (pc := 22) X d_12_areTwins_22 5 rfl ?_
          refine jg_pcallVi (pc := 24) X (m_12_isHidden rv1 rv5 hw h) jM_12_isHidden kw_1802 (jl_345_12 hn) rfl rfl rfl rfl rfl (Nat.le_of_ble_eq_true rfl) d_12_areTwins_24 ⟨(Nat.le_of_ble_eq_true rfl), (Nat.le_of_ble_eq_true rfl)⟩ ⟨(Nat.le_of_ble_eq_true rfl), (Nat.le_of_ble_eq_true rfl)⟩ (fun x9 r11 h => ?_)
          refine jg_if_ne (tgt := 49) (pc := 27) X d_12_areTwins_27 (by decide) r11 h (fun c13 h => ?_) (fun c13 h => ?_)
          · refine jg_aload_n (pc := 30) X d_12_areTwins_30 0 rfl ?_
            refine jg_iload_n (pc := 31) X d_12_areTwins_31 1 rfl ?_
            refine jg_iload_n (pc := 32) X d_12_areTwins_32 2 rfl ?_
            refine jg_iload (pc := 33) X d_12_areTwins_33 5 rfl ?_
            refine jg_pcallVi (pc := 35) X (m_12_valueAt rv1 rv2 rv5 hw h) jM_12_valueAt kw_1843 (jl_345_12 hn) rfl rfl rfl rfl rfl (Nat.le_of_ble_eq_true rfl) d_12_areTwins_35 ⟨(Nat.le_of_ble_eq_true rfl), (Nat.le_of_ble_eq_true rfl)⟩ ⟨(Nat.le_of_ble_eq_true rfl), (Nat.le_of_ble_eq_true rfl)⟩ (fun x14 r16 h => ?_)
            refine jg_aload_n (pc := 38) X d_12_areTwins_38 0 rfl ?_
            refine jg_iload_n (pc := 39) X d_12_areTwins_39 1 rfl ?_
            refine jg_iload_n (pc := 40) X d_12_areTwins_40 3 rfl ?_
            refine jg_iload (pc := 41) X d_12_areTwins_41 5 rfl ?_
            refine jg_pcallVi (pc := 43) X (m_12_valueAt rv1 rv3 rv5 hw h) jM_12_valueAt kw_1843 (jl_345_12 hn) rfl rfl rfl rfl rfl (Nat.le_of_ble_eq_true rfl) d_12_areTwins_43 ⟨(Nat.le_of_ble_eq_true rfl), (Nat.le_of_ble_eq_true rfl)⟩ ⟨(Nat.le_of_ble_eq_true rfl), (Nat.le_of_ble_eq_true rfl)⟩ (fun x18 r20 h => ?_)
            refine jg_icmp_ne (tgt := 53) (pc := 46) X d_12_areTwins_46 (by decide) r16 r20 h (fun c22 h => ?_) (fun c22 h => ?_)
            · refine jg_iconst (pc := 49) X d_12_areTwins_49 ?_
              refine jg_goto (tgt := 54) (pc := 50) X d_12_areTwins_50 (by decide) ?_
              refine jg_istore (pc := 54) X [(4, jI 1), (0, jr Z 345), (1, jI v1), (2, jI v2), (3, jI v3), (5, jI v5)] d_12_areTwins_54 (by decide) rfl ?_
              refine jg_iinc (pc := 56) X [(5, jI (v5 + 1)), (4, jI 1), (0, jr Z 345), (1, jI v1), (2, jI v2), (3, jI v3)] d_12_areTwins_56 5 rfl (by decide) rfl ?_
              refine jg_goto (tgt := 6) (pc := 59) X d_12_areTwins_59 (by decide) ?_
              have r23 : jRng (v5 + 1) := by (unfold jRng; exact ⟨by (have z0 : jRng v5 := rv5; have z1 : jRng x1 := r3; unfold jRng at z0 z1; omega), by (have z0 : jRng v5 := rv5; have z1 : jRng x1 := r3; unfold jRng at z0 z1; omega)⟩)
              refine jg_sub [2, 3, 4, 5, 1, 0] rfl ?_
              exact ih6 _ _ (⟨by decide, by decide⟩ : jRng 1) r23 h
            · refine jg_iconst (pc := 53) X d_12_areTwins_53 ?_
              refine jg_istore (pc := 54) X [(4, jI 0), (0, jr Z 345), (1, jI v1), (2, jI v2), (3, jI v3), (5, jI v5)] d_12_areTwins_54 (by decide) rfl ?_
              refine jg_iinc (pc := 56) X [(5, jI (v5 + 1)), (4, jI 0), (0, jr Z 345), (1, jI v1), (2, jI v2), (3, jI v3)] d_12_areTwins_56 5 rfl (by decide) rfl ?_
              refine jg_goto (tgt := 6) (pc := 59) X d_12_areTwins_59 (by decide) ?_
              have r24 : jRng (v5 + 1) := by (unfold jRng; exact ⟨by (have z0 : jRng v5 := rv5; have z1 : jRng x1 := r3; unfold jRng at z0 z1; omega), by (have z0 : jRng v5 := rv5; have z1 : jRng x1 := r3; unfold jRng at z0 z1; omega)⟩)
              refine jg_sub [2, 3, 4, 5, 1, 0] rfl ?_
              exact ih6 _ _ (⟨by decide, by decide⟩ : jRng 0) r24 h
          · refine jg_iconst (pc := 49) X d_12_areTwins_49 ?_
            refine jg_goto (tgt := 54) (pc := 50) X d_12_areTwins_50 (by decide) ?_
            refine jg_istore (pc := 54) X [(4, jI 1), (0, jr Z 345), (1, jI v1), (2, jI v2), (3, jI v3), (5, jI v5)] d_12_areTwins_54 (by decide) rfl ?_
            refine jg_iinc (pc := 56) X [(5, jI (v5 + 1)), (4, jI 1), (0, jr Z 345), (1, jI v1), (2, jI v2), (3, jI v3)] d_12_areTwins_56 5 rfl (by decide) rfl ?_
            refine jg_goto (tgt := 6) (pc := 59) X d_12_areTwins_59 (by decide) ?_
            have r25 : jRng (v5 + 1) := by (unfold jRng; exact ⟨by (have z0 : jRng v5 := rv5; have z1 : jRng x1 := r3; unfold jRng at z0 z1; omega), by (have z0 : jRng v5 := rv5; have z1 : jRng x1 := r3; unfold jRng at z0 z1; omega)⟩)
            refine jg_sub [2, 3, 4, 5, 1, 0] rfl ?_
            exact ih6 _ _ (⟨by decide, by decide⟩ : jRng 1) r25 h
  obtain ⟨N, h⟩ := h
  refine jg_sub [2, 3, 4, 5, 1, 0] rfl ?_
  exact jl6   N _ _ (⟨by decide, by decide⟩ : jRng 1) (⟨by decide, by decide⟩ : jRng 0) h
set_option maxHeartbeats 4000000 in
set_option maxRecDepth 100000 in
theorem m_12_twice {l : Launch} {Z : jE} {n : Nat} {C : jC} {v1 : Int} {post : Int → jC → Prop} (rv1 : jRng v1) (hw0 : jWF n C) (h : wp_12_twice v1 C post) : jCi l y_12_twice prog_14_method_126_code 5 (.int) q_12_twice Z n C [jr Z 345, jI v1] post := by
  have hn := hw0.2.2.1
  unfold wp_12_twice at h
  refine jCi_of (lv0 := [(0, jr Z 345), (1, jI v1)]) (by decide) (Nat.le_of_ble_eq_true rfl) rfl ?_
  intro p e s m args below meth c A sz X hAe hr hlocks
  refine jg_aload_n (pc := 0) X d_12_twice_0 0 rfl ?_
  refine jg_iconst (pc := 1) X d_12_twice_1 ?_
  refine jgp_12_0 (pc := 2) X (jl_345_12 hn) kw_1473 d_12_twice_2 ?_
  have w1 := jWF.u (k := 0) (v := 0) hw0 (jl_345_12 hn) (by decide) (⟨by decide, by decide⟩ : jRng 0)
  refine jg_aload_n (pc := 5) X d_12_twice_5 0 rfl ?_
  refine jg_iload_n (pc := 6) X d_12_twice_6 1 rfl ?_
  refine jg_pcallSi (pc := 7) X (m_12_noView rv1 w1 h) jM_12_noView kw_1705 rfl rfl (Nat.le_of_ble_eq_true rfl) d_12_twice_7 ⟨(Nat.le_of_ble_eq_true rfl), (Nat.le_of_ble_eq_true rfl)⟩ ⟨(Nat.le_of_ble_eq_true rfl), (Nat.le_of_ble_eq_true rfl)⟩ (fun x2 r4 h => ?_)
  refine jg_iconst (pc := 10) X d_12_twice_10 ?_
  refine jg_callVi (pc := 11) X (m_12_throwsIf r4 (⟨by decide, by decide⟩ : jRng 1) w1 h) jM_12_throwsIf kw_1697 (jl_345_12 hn) rfl rfl rfl rfl rfl (Nat.le_of_ble_eq_true rfl) d_12_twice_11 ⟨(Nat.le_of_ble_eq_true rfl), (Nat.le_of_ble_eq_true rfl)⟩ ⟨(Nat.le_of_ble_eq_true rfl), (Nat.le_of_ble_eq_true rfl)⟩ (fun x6 C7 r8 w9 h => ?_)
  refine jg_if_eq (tgt := 19) (pc := 14) X d_12_twice_14 (by decide) r8 h (fun c10 h => ?_) (fun c10 h => ?_)
  · refine jg_iconst (pc := 19) X d_12_twice_19 ?_
    refine jg_istore_n (pc := 20) X [(2, jI 0), (0, jr Z 345), (1, jI v1)] d_12_twice_20 (by decide) rfl ?_
    refine jg_iconst (pc := 21) X d_12_twice_21 ?_
    refine jg_istore_n (pc := 22) X [(3, jI 0), (2, jI 0), (0, jr Z 345), (1, jI v1)] d_12_twice_22 (by decide) rfl ?_
    have jl23 : ∀ (C : jC) (hw : jWF n C) (N : Nat) (v2 : Int) (v3 : Int) (rv2 : jRng v2) (rv3 : jRng v3), jI2 (wp_12_twice_23 v1 C post) N v2 v3 → jG p l e q_12_twice s m args below meth c 5 Z A (jws Z n C) 0 0 (MQ below (jQi Z n sz post) args s q_12_twice.cells q_12_twice.slots (jA Z n sz)) 23 [(0, jr Z 345), (1, jI v1), (2, jI v2), (3, jI v3)] [] := by
      intro C hw N
      have hn := hw0.2.2.1
      induction N with
      | zero => intro v2 v3 rv2 rv3 h; exact h.elim
      | succ N ih23 =>
        intro v2 v3 rv2 rv3 h
        have h : wp_12_twice_23 v1 C post (jI2 (wp_12_twice_23 v1 C post) N) v2 v3 := h
        generalize jI2 (wp_12_twice_23 v1 C post) N = k23 at h ih23
        unfold wp_12_twice_23 at h
        refine jg_iload_n (pc := 23) X d_12_twice_23 3 rfl ?_
        refine jg_aload_n (pc := 24) X d_12_twice_24 0 rfl ?_
        refine jg_iload_n (pc := 25) X d_12_twice_25 1 rfl ?_
        refine jg_pcallSi (pc := 26) X (m_12_listOf rv1 hw h) jM_12_listOf kw_1686 rfl rfl (Nat.le_of_ble_eq_true rfl) d_12_twice_26 ⟨(Nat.le_of_ble_eq_true rfl), (Nat.le_of_ble_eq_true rfl)⟩ ⟨(Nat.le_of_ble_eq_true rfl), (Nat.le_of_ble_eq_true rfl)⟩ (fun x11 r13 h => ?_)
        refine jg_pcallVi (pc := 29) X (m_12_size r13 hw h) jM_12_size kw_1609 (jl_345_12 hn) rfl rfl rfl rfl rfl (Nat.le_of_ble_eq_true rfl) d_12_twice_29 ⟨(Nat.le_of_ble_eq_true rfl), (Nat.le_of_ble_eq_true rfl)⟩ ⟨(Nat.le_of_ble_eq_true rfl), (Nat.le_of_ble_eq_true rfl)⟩ (fun x15 r17 h => ?_)
        refine jg_icmp_ge (tgt := 77) (pc := 32) X d_12_twice_32 (by decide) rv3 r17 h (fun c19 h => ?_) (fun c19 h => ?_)
        · refine jg_iload_n (pc := 77) X d_12_twice_77 2 rfl ?_
          exact jg_ireturn (pc := 78) X hAe hlocks hr d_12_twice_78 ⟨(Nat.le_of_ble_eq_true rfl), (Nat.le_of_ble_eq_true rfl)⟩ rfl rv2 hw h
        · refine jg_iconst (pc := 35) X d_12_twice_35 ?_
          refine jg_istore (pc := 36) X [(4, jI 0), (0, jr Z 345), (1, jI v1), (2, jI v2), (3, jI v3)] d_12_twice_36 (by decide) rfl ?_
          have jl38 : ∀  (N : Nat) (v2 : Int) (v4 : Int) (rv2 : jRng v2) (rv4 : jRng v4), jI2 (wp_12_twice_38 v1 v3 C post k23) N v2 v4 → jG p l e q_12_twice s m args below meth c 5 Z A (jws Z n C) 0 0 (MQ below (jQi Z n sz post) args s q_12_twice.cells q_12_twice.slots (jA Z n sz)) 38 [(0, jr Z 345), (1, jI v1), (3, jI v3), (2, jI v2), (4, jI v4)] [] := by
            intro   N
            have hn := hw0.2.2.1
            induction N with
            | zero => intro v2 v4 rv2 rv4 h; exact h.elim
            | succ N ih38 =>
              intro v2 v4 rv2 rv4 h
              have h : wp_12_twice_38 v1 v3 C post k23 (jI2 (wp_12_twice_38 v1 v3 C post k23) N) v2 v4 := h
              generalize jI2 (wp_12_twice_38 v1 v3 C post k23) N = k38 at h ih38
              unfold wp_12_twice_38 at h
              refine jg_iload (pc := 38) X d_12_twice_38 4 rfl ?_
              refine jg_iload_n (pc := 40) X d_12_twice_40 2 rfl ?_
              refine jg_icmp_ge (tgt := 71) (pc := 41) X d_12_twice_41 (by decide) rv4 rv3 h (fun c20 h => ?_) (fun c20 h => ?_)
              · refine jg_iinc (pc := 71) X [(3, jI (v3 + 1)), (0, jr Z 345), (1, jI v1), (2, jI v2), (4, jI v4)] d_12_twice_71 2 rfl (by decide) rfl ?_
                refine jg_goto (tgt := 23) (pc := 74) X d_12_twice_74 (by decide) ?_
                obtain ⟨r21, h⟩ := h
                refine jg_sub [1, 2, 3, 0] rfl ?_
                exact ih23 _ _ rv2 r21 h
              · refine jg_iload_n (pc := 44) X d_12_twice_44 3 rfl ?_
                refine jg_aload_n (pc := 45) X d_12_twice_45 0 rfl ?_
                refine jg_iload_n (pc := 46) X d_12_twice_46 1 rfl ?_
                refine jg_iload_n (pc := 47) X d_12_twice_47 2 rfl ?_
                refine jg_iload (pc := 48) X d_12_twice_48 4 rfl ?_
                refine jg_pcallVi (pc := 50) X (m_12_areTwins rv1 rv3 rv4 hw h) jM_12_areTwins kw_2032 (jl_345_12 hn) rfl rfl rfl rfl rfl (Nat.le_of_ble_eq_true rfl) d_12_twice_50 ⟨(Nat.le_of_ble_eq_true rfl), (Nat.le_of_ble_eq_true rfl)⟩ ⟨(Nat.le_of_ble_eq_true rfl), (Nat.le_of_ble_eq_true rfl)⟩ (fun x22 r24 h => ?_)
                refine jg_if_eq (tgt := 62) (pc := 53) X d_12_twice_53 (by decide) r24 h (fun c26 h => ?_) (fun c26 h => ?_)
                · refine jg_iconst (pc := 62) X d_12_twice_62 ?_
                  refine jg_ior (pc := 63) X d_12_twice_63 ?_
                  refine jg_istore_n (pc := 64) X [(2, jI (jOr v2 0)), (0, jr Z 345), (1, jI v1), (3, jI v3), (4, jI v4)] d_12_twice_64 (by decide) rfl ?_
                  refine jg_iinc (pc := 65) X [(4, jI (v4 + 1)), (2, jI (jOr v2 0)), (0, jr Z 345), (1, jI v1), (3, jI v3)] d_12_twice_65 4 rfl (by decide) rfl ?_
                  refine jg_goto (tgt := 38) (pc := 68) X d_12_twice_68 (by decide) ?_
                  have r27 : jRng (v4 + 1) := by (unfold jRng; exact ⟨by (have z0 : jRng v4 := rv4; have z1 : jRng v3 := rv3; unfold jRng at z0 z1; omega), by (have z0 : jRng v4 := rv4; have z1 : jRng v3 := rv3; unfold jRng at z0 z1; omega)⟩)
                  refine jg_sub [2, 3, 4, 1, 0] rfl ?_
                  exact ih38 _ _ (jOr_rng _ _) r27 h
                · refine jg_iconst (pc := 56) X d_12_twice_56 ?_
                  refine jg_iload_n (pc := 57) X d_12_twice_57 2 rfl ?_
                  refine jg_ishl (pc := 58) X d_12_twice_58 ?_
                  refine jg_goto (tgt := 63) (pc := 59) X d_12_twice_59 (by decide) ?_
                  refine jg_ior (pc := 63) X d_12_twice_63 ?_
                  refine jg_istore_n (pc := 64) X [(2, jI (jOr v2 (jShl 1 v3))), (0, jr Z 345), (1, jI v1), (3, jI v3), (4, jI v4)] d_12_twice_64 (by decide) rfl ?_
                  refine jg_iinc (pc := 65) X [(4, jI (v4 + 1)), (2, jI (jOr v2 (jShl 1 v3))), (0, jr Z 345), (1, jI v1), (3, jI v3)] d_12_twice_65 4 rfl (by decide) rfl ?_
                  refine jg_goto (tgt := 38) (pc := 68) X d_12_twice_68 (by decide) ?_
                  have r28 : jRng (v4 + 1) := by (unfold jRng; exact ⟨by (have z0 : jRng v4 := rv4; have z1 : jRng v3 := rv3; unfold jRng at z0 z1; omega), by (have z0 : jRng v4 := rv4; have z1 : jRng v3 := rv3; unfold jRng at z0 z1; omega)⟩)
                  refine jg_sub [2, 3, 4, 1, 0] rfl ?_
                  exact ih38 _ _ (jOr_rng _ _) r28 h
          obtain ⟨N, h⟩ := h
          refine jg_sub [1, 2, 4, 3, 0] rfl ?_
          exact jl38   N _ _ rv2 (⟨by decide, by decide⟩ : jRng 0) h
    obtain ⟨N, h⟩ := h
    refine jg_sub [2, 3, 1, 0] rfl ?_
    exact jl23 _ w9 N _ _ (⟨by decide, by decide⟩ : jRng 0) (⟨by decide, by decide⟩ : jRng 0) h
  · refine jg_iconst (pc := 17) X d_12_twice_17 ?_
    exact jg_ireturn (pc := 18) X hAe hlocks hr d_12_twice_18 ⟨(Nat.le_of_ble_eq_true rfl), (Nat.le_of_ble_eq_true rfl)⟩ rfl (⟨by decide, by decide⟩ : jRng 0) w9 h

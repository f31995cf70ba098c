set_option maxHeartbeats 4000000 in
set_option maxRecDepth 100000 in
theorem m_12_add {l : Launch} {Z : jE} {n : Nat} {C : jC} {v1 : Int} {v2 : Int} {post : Int → jC → Prop} (rv1 : jRng v1) (rv2 : jRng v2) (hw0 : jWF n C) (h : wp_12_add v1 v2 C post) : jCi l y_12_add prog_14_method_91_code 7 (.int) q_12_add Z n C [jr Z 345, jI v1, jI v2] post := by
  have hn := hw0.2.2.1
  unfold wp_12_add at h
  refine jCi_of (lv0 := [(0, jr Z 345), (1, jI v1), (2, jI v2)]) (by decide) (Nat.le_of_ble_eq_true rfl) rfl ?_
  intro p e s m args below meth c A sz X hAe hr hlocks
  have jb99 : ∀ (s0 : Int) (v1 : Int) (v2 : Int) (v3 : Int) (C : jC) (rs0 : jRng s0) (rv1 : jRng v1) (rv2 : jRng v2) (rv3 : jRng v3) (hw : jWF n C), wp_12_add_99 s0 v1 v2 v3 C post → jG p l e q_12_add s m args below meth c 7 Z A (jws Z n C) 0 0 (MQ below (jQi Z n sz post) args s q_12_add.cells q_12_add.slots (jA Z n sz)) 99 [(0, jr Z 345), (1, jI v1), (2, jI v2), (3, jI v3)] [jI s0] := by
    intro s0 v1 v2 v3 C rs0 rv1 rv2 rv3 hw h
    unfold wp_12_add_99 at h
    refine jg_istore (pc := 99) X [(4, jI s0), (0, jr Z 345), (1, jI v1), (2, jI v2), (3, jI v3)] d_12_add_99 (by decide) rfl ?_
    refine jg_aload_n (pc := 101) X d_12_add_101 1 rfl ?_
    refine jg_callVi (pc := 102) X (m_12_comes hw h) jM_12_comes kw_1613 (jl_345_12 hn) rfl rfl rfl rfl rfl (Nat.le_of_ble_eq_true rfl) d_12_add_102 ⟨(Nat.le_of_ble_eq_true rfl), (Nat.le_of_ble_eq_true rfl)⟩ ⟨(Nat.le_of_ble_eq_true rfl), (Nat.le_of_ble_eq_true rfl)⟩ (fun x1 C2 r3 w4 h => ?_)
    refine jg_istore (pc := 105) X [(5, jI x1), (4, jI s0), (0, jr Z 345), (1, jI v1), (2, jI v2), (3, jI v3)] d_12_add_105 (by decide) rfl ?_
    refine jg_aload_n (pc := 107) X d_12_add_107 2 rfl ?_
    refine jg_sipush (pc := 108) X d_12_add_108 rfl ?_
    refine jg_iload (pc := 111) X d_12_add_111 1 rfl ?_
    refine jg_iload (pc := 113) X d_12_add_113 0 rfl ?_
    refine jg_callVv (pc := 115) X (m_12_puts (⟨by decide, by decide⟩ : jRng 273) rs0 r3 w4 h) jM_12_puts kw_1649 (jl_345_12 hn) rfl rfl rfl rfl rfl (Nat.le_of_ble_eq_true rfl) d_12_add_115 ⟨(Nat.le_of_ble_eq_true rfl), (Nat.le_of_ble_eq_true rfl)⟩ ⟨(Nat.le_of_ble_eq_true rfl), (Nat.le_of_ble_eq_true rfl)⟩ (fun C6 w8 h => ?_)
    refine jg_aload_n (pc := 118) X d_12_add_118 2 rfl ?_
    refine jg_iload_n (pc := 119) X d_12_add_119 5 rfl ?_
    refine jg_iload_n (pc := 120) X d_12_add_120 4 rfl ?_
    refine jg_iconst (pc := 121) X d_12_add_121 ?_
    refine jg_iadd (pc := 122) X d_12_add_122 ?_
    refine jg_iload (pc := 123) X d_12_add_123 0 rfl ?_
    obtain ⟨r9, h⟩ := h
    refine jg_callVv (pc := 125) X (m_12_puts rv3 r9 r3 w8 h) jM_12_puts kw_1649 (jl_345_12 hn) rfl rfl rfl rfl rfl (Nat.le_of_ble_eq_true rfl) d_12_add_125 ⟨(Nat.le_of_ble_eq_true rfl), (Nat.le_of_ble_eq_true rfl)⟩ ⟨(Nat.le_of_ble_eq_true rfl), (Nat.le_of_ble_eq_true rfl)⟩ (fun C11 w13 h => ?_)
    refine jg_iconst (pc := 128) X d_12_add_128 ?_
    refine jg_istore (pc := 129) X [(6, jI 0), (5, jI x1), (4, jI s0), (0, jr Z 345), (1, jI v1), (2, jI v2), (3, jI v3)] d_12_add_129 (by decide) rfl ?_
    have jl131 : ∀ (v5 : Int) (rv5 : jRng v5) (N : Nat) (v6 : Int) (C : jC) (rv6 : jRng v6) (hw : jWF n C), jI2 (wp_12_add_131 v1 v5 post) N v6 C → jG p l e q_12_add s m args below meth c 7 Z A (jws Z n C) 0 0 (MQ below (jQi Z n sz post) args s q_12_add.cells q_12_add.slots (jA Z n sz)) 131 [(0, jr Z 345), (1, jI v1), (5, jI v5), (6, jI v6)] [] := by
      intro v5 rv5 N
      have hn := hw0.2.2.1
      induction N with
      | zero => intro v6 C rv6 hw h; exact h.elim
      | succ N ih131 =>
        intro v6 C rv6 hw h
        have h : wp_12_add_131 v1 v5 post (jI2 (wp_12_add_131 v1 v5 post) N) v6 C := h
        generalize jI2 (wp_12_add_131 v1 v5 post) N = k131 at h ih131
        unfold wp_12_add_131 at h
        refine jg_iload (pc := 131) X d_12_add_131 3 rfl ?_
        refine jg_iconst (pc := 133) X d_12_add_133 ?_
        refine jg_icmp_ge (tgt := 171) (pc := 134) X d_12_add_134 (by decide) rv6 (⟨by decide, by decide⟩ : jRng 4) h (fun c14 h => ?_) (fun c14 h => ?_)
        · refine jg_iload (pc := 171) X d_12_add_171 2 rfl ?_
          exact jg_ireturn (pc := 173) X hAe hlocks hr d_12_add_173 ⟨(Nat.le_of_ble_eq_true rfl), (Nat.le_of_ble_eq_true rfl)⟩ rfl rv5 hw h
        · refine jg_iload (pc := 137) X d_12_add_137 3 rfl ?_
          refine jg_iload_n (pc := 139) X d_12_add_139 1 rfl ?_
          refine jg_icmp_eq (tgt := 165) (pc := 140) X d_12_add_140 (by decide) rv6 rv1 h (fun c15 h => ?_) (fun c15 h => ?_)
          · refine jg_iinc (pc := 165) X [(6, jI (v6 + 1)), (0, jr Z 345), (1, jI v1), (5, jI v5)] d_12_add_165 3 rfl (by decide) rfl ?_
            refine jg_goto (tgt := 131) (pc := 168) X d_12_add_168 (by decide) ?_
            have r16 : jRng (v6 + 1) := by (unfold jRng; exact ⟨by (have z0 : jRng v6 := rv6; have z1 : jRng v1 := rv1; unfold jRng at z0 z1; omega), by (have z0 : jRng v6 := rv6; have z1 : jRng v1 := rv1; unfold jRng at z0 z1; omega)⟩)
            refine jg_sub [1, 2, 3, 0] rfl ?_
            exact ih131 _ _ r16 hw h
          · refine jg_aload_n (pc := 143) X d_12_add_143 0 rfl ?_
            refine jg_iload (pc := 144) X d_12_add_144 3 rfl ?_
            refine jg_iload (pc := 146) X d_12_add_146 2 rfl ?_
            refine jg_pcallVi (pc := 148) X (m_12_isFit rv6 rv5 hw h) jM_12_isFit kw_1653 (jl_345_12 hn) rfl rfl rfl rfl rfl (Nat.le_of_ble_eq_true rfl) d_12_add_148 ⟨(Nat.le_of_ble_eq_true rfl), (Nat.le_of_ble_eq_true rfl)⟩ ⟨(Nat.le_of_ble_eq_true rfl), (Nat.le_of_ble_eq_true rfl)⟩ (fun x17 r19 h => ?_)
            refine jg_if_eq (tgt := 165) (pc := 151) X d_12_add_151 (by decide) r19 h (fun c21 h => ?_) (fun c21 h => ?_)
            · refine jg_iinc (pc := 165) X [(6, jI (v6 + 1)), (0, jr Z 345), (1, jI v1), (5, jI v5)] d_12_add_165 3 rfl (by decide) rfl ?_
              refine jg_goto (tgt := 131) (pc := 168) X d_12_add_168 (by decide) ?_
              have r22 : jRng (v6 + 1) := by (unfold jRng; exact ⟨by (have z0 : jRng v6 := rv6; unfold jRng at z0; omega), by (have z0 : jRng v6 := rv6; unfold jRng at z0; omega)⟩)
              refine jg_sub [1, 2, 3, 0] rfl ?_
              exact ih131 _ _ r22 hw h
            · refine jg_aload_n (pc := 154) X d_12_add_154 0 rfl ?_
              refine jg_iload (pc := 155) X d_12_add_155 3 rfl ?_
              refine jg_pcallSi (pc := 157) X (m_12_listOf rv6 hw h) jM_12_listOf kw_1686 rfl rfl (Nat.le_of_ble_eq_true rfl) d_12_add_157 ⟨(Nat.le_of_ble_eq_true rfl), (Nat.le_of_ble_eq_true rfl)⟩ ⟨(Nat.le_of_ble_eq_true rfl), (Nat.le_of_ble_eq_true rfl)⟩ (fun x23 r25 h => ?_)
              refine jg_iload (pc := 160) X d_12_add_160 2 rfl ?_
              refine jg_callVv (pc := 162) X (m_12_putsLast r25 rv5 hw h) jM_12_putsLast kw_1645 (jl_345_12 hn) rfl rfl rfl rfl rfl (Nat.le_of_ble_eq_true rfl) d_12_add_162 ⟨(Nat.le_of_ble_eq_true rfl), (Nat.le_of_ble_eq_true rfl)⟩ ⟨(Nat.le_of_ble_eq_true rfl), (Nat.le_of_ble_eq_true rfl)⟩ (fun C28 w30 h => ?_)
              refine jg_iinc (pc := 165) X [(6, jI (v6 + 1)), (0, jr Z 345), (1, jI v1), (5, jI v5)] d_12_add_165 3 rfl (by decide) rfl ?_
              refine jg_goto (tgt := 131) (pc := 168) X d_12_add_168 (by decide) ?_
              have r31 : jRng (v6 + 1) := by (unfold jRng; exact ⟨by (have z0 : jRng v6 := rv6; unfold jRng at z0; omega), by (have z0 : jRng v6 := rv6; unfold jRng at z0; omega)⟩)
              refine jg_sub [1, 2, 3, 0] rfl ?_
              exact ih131 _ _ r31 w30 h
    obtain ⟨N, h⟩ := h
    refine jg_sub [3, 4, 1, 0] rfl ?_
    exact jl131 _ r3 N _ _ (⟨by decide, by decide⟩ : jRng 0) w13 h
  have jb61 : ∀ (s0 : Int) (v1 : Int) (v2 : Int) (C : jC) (rs0 : jRng s0) (rv1 : jRng v1) (rv2 : jRng v2) (hw : jWF n C), wp_12_add_61 s0 v1 v2 C post → jG p l e q_12_add s m args below meth c 7 Z A (jws Z n C) 0 0 (MQ below (jQi Z n sz post) args s q_12_add.cells q_12_add.slots (jA Z n sz)) 61 [(0, jr Z 345), (1, jI v1), (2, jI v2)] [jI s0, jr Z 345] := by
    intro s0 v1 v2 C rs0 rv1 rv2 hw h
    unfold wp_12_add_61 at h
    refine jg_iconst (pc := 61) X d_12_add_61 ?_
    refine jg_callVi (pc := 62) X (m_12_throwsIf rs0 (⟨by decide, by decide⟩ : jRng 2) hw h) jM_12_throwsIf kw_1697 (jl_345_12 hn) rfl rfl rfl rfl rfl (Nat.le_of_ble_eq_true rfl) d_12_add_62 ⟨(Nat.le_of_ble_eq_true rfl), (Nat.le_of_ble_eq_true rfl)⟩ ⟨(Nat.le_of_ble_eq_true rfl), (Nat.le_of_ble_eq_true rfl)⟩ (fun x32 C33 r34 w35 h => ?_)
    refine jg_if_eq (tgt := 70) (pc := 65) X d_12_add_65 (by decide) r34 h (fun c36 h => ?_) (fun c36 h => ?_)
    · refine jg_iload_n (pc := 70) X d_12_add_70 1 rfl ?_
      refine jg_pcallSi (pc := 71) X (m_12_listOf rv1 w35 h) jM_12_listOf kw_1686 rfl rfl (Nat.le_of_ble_eq_true rfl) d_12_add_71 ⟨(Nat.le_of_ble_eq_true rfl), (Nat.le_of_ble_eq_true rfl)⟩ ⟨(Nat.le_of_ble_eq_true rfl), (Nat.le_of_ble_eq_true rfl)⟩ (fun x37 r39 h => ?_)
      refine jg_istore_n (pc := 74) X [(3, jI x37), (0, jr Z 345), (1, jI v1), (2, jI v2)] d_12_add_74 (by decide) rfl ?_
      refine jg_iload_n (pc := 75) X d_12_add_75 3 rfl ?_
      refine jg_iconst (pc := 76) X d_12_add_76 ?_
      refine jg_icmp_ne (tgt := 84) (pc := 77) X d_12_add_77 (by decide) rv2 (⟨by decide, by decide⟩ : jRng (-1)) h (fun c41 h => ?_) (fun c41 h => ?_)
      · refine jg_iconst (pc := 80) X d_12_add_80 ?_
        refine jg_goto (tgt := 99) (pc := 81) X d_12_add_81 (by decide) ?_
        refine jg_sub [1, 2, 3, 0] rfl ?_
        exact jb99 _ _ _ _ _ (⟨by decide, by decide⟩ : jRng 0) rv1 rv2 r39 w35 h
      · refine jg_aload_n (pc := 84) X d_12_add_84 1 rfl ?_
        refine jg_sipush (pc := 85) X d_12_add_85 rfl ?_
        refine jg_aload_n (pc := 88) X d_12_add_88 1 rfl ?_
        refine jg_iload_n (pc := 89) X d_12_add_89 0 rfl ?_
        refine jg_iload_n (pc := 90) X d_12_add_90 3 rfl ?_
        refine jg_pcallVi (pc := 91) X (m_12_keyAt r39 rv2 w35 h) jM_12_keyAt kw_1766 (jl_345_12 hn) rfl rfl rfl rfl rfl (Nat.le_of_ble_eq_true rfl) d_12_add_91 ⟨(Nat.le_of_ble_eq_true rfl), (Nat.le_of_ble_eq_true rfl)⟩ ⟨(Nat.le_of_ble_eq_true rfl), (Nat.le_of_ble_eq_true rfl)⟩ (fun x42 r44 h => ?_)
        refine jg_pcallVi (pc := 94) X (m_12_placeIn (⟨by decide, by decide⟩ : jRng 273) r44 w35 h) jM_12_placeIn kw_1778 (jl_345_12 hn) rfl rfl rfl rfl rfl (Nat.le_of_ble_eq_true rfl) d_12_add_94 ⟨(Nat.le_of_ble_eq_true rfl), (Nat.le_of_ble_eq_true rfl)⟩ ⟨(Nat.le_of_ble_eq_true rfl), (Nat.le_of_ble_eq_true rfl)⟩ (fun x46 r48 h => ?_)
        refine jg_iconst (pc := 97) X d_12_add_97 ?_
        refine jg_iadd (pc := 98) X d_12_add_98 ?_
        obtain ⟨r50, h⟩ := h
        refine jg_sub [1, 2, 3, 0] rfl ?_
        exact jb99 _ _ _ _ _ r50 rv1 rv2 r39 w35 h
    · refine jg_iconst (pc := 68) X d_12_add_68 ?_
      exact jg_ireturn (pc := 69) X hAe hlocks hr d_12_add_69 ⟨(Nat.le_of_ble_eq_true rfl), (Nat.le_of_ble_eq_true rfl)⟩ rfl (⟨by decide, by decide⟩ : jRng 0) w35 h
  have jb32 : ∀ (s0 : Int) (v1 : Int) (v2 : Int) (C : jC) (rs0 : jRng s0) (rv1 : jRng v1) (rv2 : jRng v2) (hw : jWF n C), wp_12_add_32 s0 v1 v2 C post → jG p l e q_12_add s m args below meth c 7 Z A (jws Z n C) 0 0 (MQ below (jQi Z n sz post) args s q_12_add.cells q_12_add.slots (jA Z n sz)) 32 [(0, jr Z 345), (1, jI v1), (2, jI v2)] [jI s0, jr Z 345] := by
    intro s0 v1 v2 C rs0 rv1 rv2 hw h
    unfold wp_12_add_32 at h
    refine jg_iconst (pc := 32) X d_12_add_32 ?_
    refine jg_callVi (pc := 33) X (m_12_throwsIf rs0 (⟨by decide, by decide⟩ : jRng 1) hw h) jM_12_throwsIf kw_1697 (jl_345_12 hn) rfl rfl rfl rfl rfl (Nat.le_of_ble_eq_true rfl) d_12_add_33 ⟨(Nat.le_of_ble_eq_true rfl), (Nat.le_of_ble_eq_true rfl)⟩ ⟨(Nat.le_of_ble_eq_true rfl), (Nat.le_of_ble_eq_true rfl)⟩ (fun x51 C52 r53 w54 h => ?_)
    refine jg_if_ne (tgt := 68) (pc := 36) X d_12_add_36 (by decide) r53 h (fun c55 h => ?_) (fun c55 h => ?_)
    · refine jg_aload_n (pc := 39) X d_12_add_39 0 rfl ?_
      refine jg_aload_n (pc := 40) X d_12_add_40 0 rfl ?_
      refine jg_pcallVi (pc := 41) X (m_12_columns w54 h) jM_12_columns kw_1590 (jl_345_12 hn) rfl rfl rfl rfl rfl (Nat.le_of_ble_eq_true rfl) d_12_add_41 ⟨(Nat.le_of_ble_eq_true rfl), (Nat.le_of_ble_eq_true rfl)⟩ ⟨(Nat.le_of_ble_eq_true rfl), (Nat.le_of_ble_eq_true rfl)⟩ (fun x56 r58 h => ?_)
      refine jg_if_eq (tgt := 56) (pc := 44) X d_12_add_44 (by decide) r58 h (fun c60 h => ?_) (fun c60 h => ?_)
      · refine jg_iconst (pc := 56) X d_12_add_56 ?_
        refine jg_goto (tgt := 61) (pc := 57) X d_12_add_57 (by decide) ?_
        refine jg_sub [0, 1, 2] rfl ?_
        exact jb61 _ _ _ _ (⟨by decide, by decide⟩ : jRng 1) rv1 rv2 w54 h
      · refine jg_aload_n (pc := 47) X d_12_add_47 0 rfl ?_
        refine jg_pcallVi (pc := 48) X (m_12_rows w54 h) jM_12_rows kw_1605 (jl_345_12 hn) rfl rfl rfl rfl rfl (Nat.le_of_ble_eq_true rfl) d_12_add_48 ⟨(Nat.le_of_ble_eq_true rfl), (Nat.le_of_ble_eq_true rfl)⟩ ⟨(Nat.le_of_ble_eq_true rfl), (Nat.le_of_ble_eq_true rfl)⟩ (fun x61 r63 h => ?_)
        refine jg_bipush (pc := 51) X d_12_add_51 rfl ?_
        refine jg_icmp_ne (tgt := 60) (pc := 53) X d_12_add_53 (by decide) r63 (⟨by decide, by decide⟩ : jRng 24) h (fun c65 h => ?_) (fun c65 h => ?_)
        · refine jg_iconst (pc := 56) X d_12_add_56 ?_
          refine jg_goto (tgt := 61) (pc := 57) X d_12_add_57 (by decide) ?_
          refine jg_sub [0, 1, 2] rfl ?_
          exact jb61 _ _ _ _ (⟨by decide, by decide⟩ : jRng 1) rv1 rv2 w54 h
        · refine jg_iconst (pc := 60) X d_12_add_60 ?_
          refine jg_sub [0, 1, 2] rfl ?_
          exact jb61 _ _ _ _ (⟨by decide, by decide⟩ : jRng 0) rv1 rv2 w54 h
    · refine jg_iconst (pc := 68) X d_12_add_68 ?_
      exact jg_ireturn (pc := 69) X hAe hlocks hr d_12_add_69 ⟨(Nat.le_of_ble_eq_true rfl), (Nat.le_of_ble_eq_true rfl)⟩ rfl (⟨by decide, by decide⟩ : jRng 0) w54 h
  refine jg_aload_n (pc := 0) X d_12_add_0 0 rfl ?_
  refine jg_iconst (pc := 1) X d_12_add_1 ?_
  refine jgp_12_0 (pc := 2) X (jl_345_12 hn) kw_1473 d_12_add_2 ?_
  have w66 := jWF.u (k := 0) (v := 0) hw0 (jl_345_12 hn) (by decide) (⟨by decide, by decide⟩ : jRng 0)
  refine jg_aload_n (pc := 5) X d_12_add_5 0 rfl ?_
  refine jg_iload_n (pc := 6) X d_12_add_6 1 rfl ?_
  refine jg_pcallSi (pc := 7) X (m_12_noView rv1 w66 h) jM_12_noView kw_1705 rfl rfl (Nat.le_of_ble_eq_true rfl) d_12_add_7 ⟨(Nat.le_of_ble_eq_true rfl), (Nat.le_of_ble_eq_true rfl)⟩ ⟨(Nat.le_of_ble_eq_true rfl), (Nat.le_of_ble_eq_true rfl)⟩ (fun x67 r69 h => ?_)
  refine jg_if_ne (tgt := 27) (pc := 10) X d_12_add_10 (by decide) r69 h (fun c71 h => ?_) (fun c71 h => ?_)
  · refine jg_iload_n (pc := 13) X d_12_add_13 2 rfl ?_
    refine jg_iconst (pc := 14) X d_12_add_14 ?_
    refine jg_icmp_eq (tgt := 31) (pc := 15) X d_12_add_15 (by decide) rv2 (⟨by decide, by decide⟩ : jRng (-1)) h (fun c72 h => ?_) (fun c72 h => ?_)
    · refine jg_iconst (pc := 31) X d_12_add_31 ?_
      refine jg_sub [0, 1, 2] rfl ?_
      exact jb32 _ _ _ _ (⟨by decide, by decide⟩ : jRng 0) rv1 rv2 w66 h
    · refine jg_aload_n (pc := 18) X d_12_add_18 0 rfl ?_
      refine jg_iload_n (pc := 19) X d_12_add_19 1 rfl ?_
      refine jg_iload_n (pc := 20) X d_12_add_20 2 rfl ?_
      refine jg_pcallVi (pc := 21) X (m_12_noPlace rv1 rv2 w66 h) jM_12_noPlace kw_1794 (jl_345_12 hn) rfl rfl rfl rfl rfl (Nat.le_of_ble_eq_true rfl) d_12_add_21 ⟨(Nat.le_of_ble_eq_true rfl), (Nat.le_of_ble_eq_true rfl)⟩ ⟨(Nat.le_of_ble_eq_true rfl), (Nat.le_of_ble_eq_true rfl)⟩ (fun x73 r75 h => ?_)
      refine jg_if_eq (tgt := 31) (pc := 24) X d_12_add_24 (by decide) r75 h (fun c77 h => ?_) (fun c77 h => ?_)
      · refine jg_iconst (pc := 31) X d_12_add_31 ?_
        refine jg_sub [0, 1, 2] rfl ?_
        exact jb32 _ _ _ _ (⟨by decide, by decide⟩ : jRng 0) rv1 rv2 w66 h
      · refine jg_iconst (pc := 27) X d_12_add_27 ?_
        refine jg_goto (tgt := 32) (pc := 28) X d_12_add_28 (by decide) ?_
        refine jg_sub [0, 1, 2] rfl ?_
        exact jb32 _ _ _ _ (⟨by decide, by decide⟩ : jRng 1) rv1 rv2 w66 h
  · refine jg_iconst (pc := 27) X d_12_add_27 ?_
    refine jg_goto (tgt := 32) (pc := 28) X d_12_add_28 (by decide) ?_
    refine jg_sub [0, 1, 2] rfl ?_
    exact jb32 _ _ _ _ (⟨by decide, by decide⟩ : jRng 1) rv1 rv2 w66 h
set_option maxHeartbeats 4000000 in
set_option maxRecDepth 100000 in
theorem m_12_takes {l : Launch} {Z : jE} {n : Nat} {C : jC} {v1 : Int} {v2 : Int} {post : jC → Prop} (rv1 : jRng v1) (rv2 : jRng v2) (hw0 : jWF n C) (h : wp_12_takes v1 v2 C post) : jCv l y_12_takes prog_14_method_22_code 5 q_12_takes Z n C [jr Z 345, jI v1, jI v2] post := by
  have hn := hw0.2.2.1
  unfold wp_12_takes at h
  refine jCv_of (lv0 := [(0, jr Z 345), (1, jI v1), (2, jI v2)]) (by decide) (Nat.le_of_ble_eq_true rfl) rfl ?_
  intro p e s m args below meth c A sz X hAe hr hlocks
  refine jg_aload_n (pc := 0) X d_12_takes_0 0 rfl ?_
  refine jg_iload_n (pc := 1) X d_12_takes_1 1 rfl ?_
  refine jg_iload_n (pc := 2) X d_12_takes_2 2 rfl ?_
  refine jg_pcallVi (pc := 3) X (m_12_placeIn rv1 rv2 hw0 h) jM_12_placeIn kw_1778 (jl_345_12 hn) rfl rfl rfl rfl rfl (Nat.le_of_ble_eq_true rfl) d_12_takes_3 ⟨(Nat.le_of_ble_eq_true rfl), (Nat.le_of_ble_eq_true rfl)⟩ ⟨(Nat.le_of_ble_eq_true rfl), (Nat.le_of_ble_eq_true rfl)⟩ (fun x1 r3 h => ?_)
  refine jg_istore_n (pc := 6) X [(3, jI x1), (0, jr Z 345), (1, jI v1), (2, jI v2)] d_12_takes_6 (by decide) rfl ?_
  refine jg_iload_n (pc := 7) X d_12_takes_7 0 rfl ?_
  refine jg_iconst (pc := 8) X d_12_takes_8 ?_
  refine jg_icmp_ne (tgt := 13) (pc := 9) X d_12_takes_9 (by decide) r3 (⟨by decide, by decide⟩ : jRng (-1)) h (fun c5 h => ?_) (fun c5 h => ?_)
  · exact jg_return (pc := 12) X hAe hlocks hr d_12_takes_12 ⟨(Nat.le_of_ble_eq_true rfl), (Nat.le_of_ble_eq_true rfl)⟩ hw0 h
  · refine jg_iload_n (pc := 13) X d_12_takes_13 0 rfl ?_
    refine jg_istore (pc := 14) X [(4, jI x1), (3, jI x1), (0, jr Z 345), (1, jI v1), (2, jI v2)] d_12_takes_14 (by decide) rfl ?_
    have jl16 : ∀  (N : Nat) (v4 : Int) (C : jC) (rv4 : jRng v4) (hw : jWF n C), jI2 (wp_12_takes_16 v1 post) N v4 C → jG p l e q_12_takes s m args below meth c 5 Z A (jws Z n C) 0 0 (MQ below (jQv Z n sz post) args s q_12_takes.cells q_12_takes.slots (jA Z n sz)) 16 [(0, jr Z 345), (1, jI v1), (4, jI v4)] [] := by
      intro   N
      have hn := hw0.2.2.1
      induction N with
      | zero => intro v4 C rv4 hw h; exact h.elim
      | succ N ih16 =>
        intro v4 C rv4 hw h
        have h : wp_12_takes_16 v1 post (jI2 (wp_12_takes_16 v1 post) N) v4 C := h
        generalize jI2 (wp_12_takes_16 v1 post) N = k16 at h ih16
        unfold wp_12_takes_16 at h
        refine jg_iload (pc := 16) X d_12_takes_16 2 rfl ?_
        refine jg_iconst (pc := 18) X d_12_takes_18 ?_
        refine jg_iadd (pc := 19) X d_12_takes_19 ?_
        refine jg_aload_n (pc := 20) X d_12_takes_20 0 rfl ?_
        refine jg_iload_n (pc := 21) X d_12_takes_21 1 rfl ?_
        refine jg_pcallVi (pc := 22) X (m_12_size rv1 hw h) jM_12_size kw_1609 (jl_345_12 hn) rfl rfl rfl rfl rfl (Nat.le_of_ble_eq_true rfl) d_12_takes_22 ⟨(Nat.le_of_ble_eq_true rfl), (Nat.le_of_ble_eq_true rfl)⟩ ⟨(Nat.le_of_ble_eq_true rfl), (Nat.le_of_ble_eq_true rfl)⟩ (fun x6 r8 h => ?_)
        obtain ⟨r10, h⟩ := h
        refine jg_icmp_ge (tgt := 56) (pc := 25) X d_12_takes_25 (by decide) r10 r8 h (fun c11 h => ?_) (fun c11 h => ?_)
        · refine jg_aload_n (pc := 56) X d_12_takes_56 0 rfl ?_
          refine jgf_12_1 (pc := 57) X (jl_345_12 hn) kw_1474 d_12_takes_57 ?_
          refine jg_iload_n (pc := 60) X d_12_takes_60 1 rfl ?_
          refine jg_dup2 (pc := 61) X d_12_takes_61 rfl rfl ?_
          obtain ⟨b12, b13, h⟩ := h
          refine jg_iaload (len := 8954) (pc := 62) X d_12_takes_62 (jl_346_9954 hn) (fun _ => rfl) (by decide) b12 b13 ?_
          refine jg_iconst (pc := 63) X d_12_takes_63 ?_
          refine jg_isub (pc := 64) X d_12_takes_64 ?_
          obtain ⟨r16, h⟩ := h
          have b14 : 0 ≤ v1 := by (have z0 : jRng v1 := rv1; unfold jRng at z0; omega)
          have b15 : v1 < 8954 := by (have z0 : jRng v1 := rv1; unfold jRng at z0; omega)
          refine jg_iastore (len := 8954) (pc := 65) X d_12_takes_65 (jl_346_9954 hn) (fun _ => rfl) (by decide) b14 b15 ?_
          have w17 := jWF.u (k := v1) (v := ((C 346 v1) - 1)) hw (jl_346_9954 hn) (by decide) r16
          exact jg_return (pc := 66) X hAe hlocks hr d_12_takes_66 ⟨(Nat.le_of_ble_eq_true rfl), (Nat.le_of_ble_eq_true rfl)⟩ w17 h
        · refine jg_aload_n (pc := 28) X d_12_takes_28 0 rfl ?_
          refine jgf_12_1 (pc := 29) X (jl_345_12 hn) kw_1474 d_12_takes_29 ?_
          refine jg_iload_n (pc := 32) X d_12_takes_32 1 rfl ?_
          refine jg_iconst (pc := 33) X d_12_takes_33 ?_
          refine jg_iadd (pc := 34) X d_12_takes_34 ?_
          refine jg_iload (pc := 35) X d_12_takes_35 2 rfl ?_
          refine jg_iadd (pc := 37) X d_12_takes_37 ?_
          refine jg_aload_n (pc := 38) X d_12_takes_38 0 rfl ?_
          refine jgf_12_1 (pc := 39) X (jl_345_12 hn) kw_1474 d_12_takes_39 ?_
          refine jg_iload_n (pc := 42) X d_12_takes_42 1 rfl ?_
          refine jg_iconst (pc := 43) X d_12_takes_43 ?_
          refine jg_iadd (pc := 44) X d_12_takes_44 ?_
          refine jg_iload (pc := 45) X d_12_takes_45 2 rfl ?_
          refine jg_iadd (pc := 47) X d_12_takes_47 ?_
          obtain ⟨b18, b19, h⟩ := h
          refine jg_iaload (len := 8954) (pc := 48) X d_12_takes_48 (jl_346_9954 hn) (fun _ => rfl) (by decide) b18 b19 ?_
          obtain ⟨b20, b21, h⟩ := h
          refine jg_iastore (len := 8954) (pc := 49) X d_12_takes_49 (jl_346_9954 hn) (fun _ => rfl) (by decide) b20 b21 ?_
          have w22 := jWF.u (k := ((v1 + 1) + v4)) (v := (C 346 ((v1 + 2) + v4))) hw (jl_346_9954 hn) (by decide) (hw.1 _ _)
          refine jg_iinc (pc := 50) X [(4, jI (v4 + 1)), (0, jr Z 345), (1, jI v1)] d_12_takes_50 2 rfl (by decide) rfl ?_
          refine jg_goto (tgt := 16) (pc := 53) X d_12_takes_53 (by decide) ?_
          refine jg_sub [1, 2, 0] rfl ?_
          exact ih16 _ _ r10 w22 h
    obtain ⟨N, h⟩ := h
    refine jg_sub [2, 3, 0] rfl ?_
    exact jl16   N _ _ r3 hw0 h
set_option maxHeartbeats 4000000 in
set_option maxRecDepth 100000 in
theorem m_12_drop {l : Launch} {Z : jE} {n : Nat} {C : jC} {v1 : Int} {v2 : Int} {post : Int → jC → Prop} (rv1 : jRng v1) (rv2 : jRng v2) (hw0 : jWF n C) (h : wp_12_drop v1 v2 C post) : jCi l y_12_drop prog_14_method_92_code 5 (.int) q_12_drop Z n C [jr Z 345, jI v1, jI v2] post := by
  have hn := hw0.2.2.1
  unfold wp_12_drop at h
  refine jCi_of (lv0 := [(0, jr Z 345), (1, jI v1), (2, jI v2)]) (by decide) (Nat.le_of_ble_eq_true rfl) rfl ?_
  intro p e s m args below meth c A sz X hAe hr hlocks
  have jb27 : ∀ (s0 : Int) (v1 : Int) (v2 : Int) (C : jC) (rs0 : jRng s0) (rv1 : jRng v1) (rv2 : jRng v2) (hw : jWF n C), wp_12_drop_27 s0 v1 v2 C post → jG p l e q_12_drop s m args below meth c 5 Z A (jws Z n C) 0 0 (MQ below (jQi Z n sz post) args s q_12_drop.cells q_12_drop.slots (jA Z n sz)) 27 [(0, jr Z 345), (1, jI v1), (2, jI v2)] [jI s0, jr Z 345] := by
    intro s0 v1 v2 C rs0 rv1 rv2 hw h
    unfold wp_12_drop_27 at h
    refine jg_iconst (pc := 27) X d_12_drop_27 ?_
    refine jg_callVi (pc := 28) X (m_12_throwsIf rs0 (⟨by decide, by decide⟩ : jRng 1) hw h) jM_12_throwsIf kw_1697 (jl_345_12 hn) rfl rfl rfl rfl rfl (Nat.le_of_ble_eq_true rfl) d_12_drop_28 ⟨(Nat.le_of_ble_eq_true rfl), (Nat.le_of_ble_eq_true rfl)⟩ ⟨(Nat.le_of_ble_eq_true rfl), (Nat.le_of_ble_eq_true rfl)⟩ (fun x1 C2 r3 w4 h => ?_)
    refine jg_if_eq (tgt := 36) (pc := 31) X d_12_drop_31 (by decide) r3 h (fun c5 h => ?_) (fun c5 h => ?_)
    · refine jg_aload_n (pc := 36) X d_12_drop_36 0 rfl ?_
      refine jg_iload_n (pc := 37) X d_12_drop_37 1 rfl ?_
      refine jg_pcallSi (pc := 38) X (m_12_listOf rv1 w4 h) jM_12_listOf kw_1686 rfl rfl (Nat.le_of_ble_eq_true rfl) d_12_drop_38 ⟨(Nat.le_of_ble_eq_true rfl), (Nat.le_of_ble_eq_true rfl)⟩ ⟨(Nat.le_of_ble_eq_true rfl), (Nat.le_of_ble_eq_true rfl)⟩ (fun x6 r8 h => ?_)
      refine jg_iload_n (pc := 41) X d_12_drop_41 2 rfl ?_
      refine jg_pcallVi (pc := 42) X (m_12_keyAt r8 rv2 w4 h) jM_12_keyAt kw_1766 (jl_345_12 hn) rfl rfl rfl rfl rfl (Nat.le_of_ble_eq_true rfl) d_12_drop_42 ⟨(Nat.le_of_ble_eq_true rfl), (Nat.le_of_ble_eq_true rfl)⟩ ⟨(Nat.le_of_ble_eq_true rfl), (Nat.le_of_ble_eq_true rfl)⟩ (fun x10 r12 h => ?_)
      refine jg_istore_n (pc := 45) X [(3, jI x10), (0, jr Z 345), (1, jI v1), (2, jI v2)] d_12_drop_45 (by decide) rfl ?_
      refine jg_aload_n (pc := 46) X d_12_drop_46 1 rfl ?_
      refine jg_sipush (pc := 47) X d_12_drop_47 rfl ?_
      refine jg_iload_n (pc := 50) X d_12_drop_50 0 rfl ?_
      refine jg_callVv (pc := 51) X (m_12_takes (⟨by decide, by decide⟩ : jRng 273) r12 w4 h) jM_12_takes kw_1896 (jl_345_12 hn) rfl rfl rfl rfl rfl (Nat.le_of_ble_eq_true rfl) d_12_drop_51 ⟨(Nat.le_of_ble_eq_true rfl), (Nat.le_of_ble_eq_true rfl)⟩ ⟨(Nat.le_of_ble_eq_true rfl), (Nat.le_of_ble_eq_true rfl)⟩ (fun C15 w17 h => ?_)
      refine jg_iconst (pc := 54) X d_12_drop_54 ?_
      refine jg_istore (pc := 55) X [(4, jI 0), (3, jI x10), (0, jr Z 345), (1, jI v1), (2, jI v2)] d_12_drop_55 (by decide) rfl ?_
      have jl57 : ∀ (v3 : Int) (rv3 : jRng v3) (N : Nat) (v4 : Int) (C : jC) (rv4 : jRng v4) (hw : jWF n C), jI2 (wp_12_drop_57 v3 post) N v4 C → jG p l e q_12_drop s m args below meth c 5 Z A (jws Z n C) 0 0 (MQ below (jQi Z n sz post) args s q_12_drop.cells q_12_drop.slots (jA Z n sz)) 57 [(0, jr Z 345), (3, jI v3), (4, jI v4)] [] := by
        intro v3 rv3 N
        have hn := hw0.2.2.1
        induction N with
        | zero => intro v4 C rv4 hw h; exact h.elim
        | succ N ih57 =>
          intro v4 C rv4 hw h
          have h : wp_12_drop_57 v3 post (jI2 (wp_12_drop_57 v3 post) N) v4 C := h
          generalize jI2 (wp_12_drop_57 v3 post) N = k57 at h ih57
          unfold wp_12_drop_57 at h
          refine jg_iload (pc := 57) X d_12_drop_57 2 rfl ?_
          refine jg_iconst (pc := 59) X d_12_drop_59 ?_
          refine jg_icmp_ge (tgt := 79) (pc := 60) X d_12_drop_60 (by decide) rv4 (⟨by decide, by decide⟩ : jRng 4) h (fun c18 h => ?_) (fun c18 h => ?_)
          · refine jg_aload_n (pc := 79) X d_12_drop_79 0 rfl ?_
            refine jgf_12_1 (pc := 80) X (jl_345_12 hn) kw_1474 d_12_drop_80 ?_
            refine jg_aload_n (pc := 83) X d_12_drop_83 0 rfl ?_
            refine jg_iload_n (pc := 84) X d_12_drop_84 1 rfl ?_
            refine jg_pcallVi (pc := 85) X (m_12_rowOf rv3 hw h) jM_12_rowOf kw_1641 (jl_345_12 hn) rfl rfl rfl rfl rfl (Nat.le_of_ble_eq_true rfl) d_12_drop_85 ⟨(Nat.le_of_ble_eq_true rfl), (Nat.le_of_ble_eq_true rfl)⟩ ⟨(Nat.le_of_ble_eq_true rfl), (Nat.le_of_ble_eq_true rfl)⟩ (fun x19 r21 h => ?_)
            refine jg_iconst (pc := 88) X d_12_drop_88 ?_
            obtain ⟨b23, b24, h⟩ := h
            refine jg_iastore (len := 8954) (pc := 89) X d_12_drop_89 (jl_346_9954 hn) (fun _ => rfl) (by decide) b23 b24 ?_
            have w25 := jWF.u (k := x19) (v := (-1)) hw (jl_346_9954 hn) (by decide) (⟨by decide, by decide⟩ : jRng (-1))
            refine jg_iload_n (pc := 90) X d_12_drop_90 1 rfl ?_
            exact jg_ireturn (pc := 91) X hAe hlocks hr d_12_drop_91 ⟨(Nat.le_of_ble_eq_true rfl), (Nat.le_of_ble_eq_true rfl)⟩ rfl rv3 w25 h
          · refine jg_aload_n (pc := 63) X d_12_drop_63 0 rfl ?_
            refine jg_iload (pc := 64) X d_12_drop_64 2 rfl ?_
            refine jg_pcallSi (pc := 66) X (m_12_listOf rv4 hw h) jM_12_listOf kw_1686 rfl rfl (Nat.le_of_ble_eq_true rfl) d_12_drop_66 ⟨(Nat.le_of_ble_eq_true rfl), (Nat.le_of_ble_eq_true rfl)⟩ ⟨(Nat.le_of_ble_eq_true rfl), (Nat.le_of_ble_eq_true rfl)⟩ (fun x26 r28 h => ?_)
            refine jg_iload_n (pc := 69) X d_12_drop_69 1 rfl ?_
            refine jg_callVv (pc := 70) X (m_12_takes r28 rv3 hw h) jM_12_takes kw_1896 (jl_345_12 hn) rfl rfl rfl rfl rfl (Nat.le_of_ble_eq_true rfl) d_12_drop_70 ⟨(Nat.le_of_ble_eq_true rfl), (Nat.le_of_ble_eq_true rfl)⟩ ⟨(Nat.le_of_ble_eq_true rfl), (Nat.le_of_ble_eq_true rfl)⟩ (fun C31 w33 h => ?_)
            refine jg_iinc (pc := 73) X [(4, jI (v4 + 1)), (0, jr Z 345), (3, jI v3)] d_12_drop_73 2 rfl (by decide) rfl ?_
            refine jg_goto (tgt := 57) (pc := 76) X d_12_drop_76 (by decide) ?_
            have r34 : jRng (v4 + 1) := by (unfold jRng; exact ⟨by (have z0 : jRng v4 := rv4; unfold jRng at z0; omega), by (have z0 : jRng v4 := rv4; unfold jRng at z0; omega)⟩)
            refine jg_sub [1, 2, 0] rfl ?_
            exact ih57 _ _ r34 w33 h
      obtain ⟨N, h⟩ := h
      refine jg_sub [2, 1, 0] rfl ?_
      exact jl57 _ r12 N _ _ (⟨by decide, by decide⟩ : jRng 0) w17 h
    · refine jg_iconst (pc := 34) X d_12_drop_34 ?_
      exact jg_ireturn (pc := 35) X hAe hlocks hr d_12_drop_35 ⟨(Nat.le_of_ble_eq_true rfl), (Nat.le_of_ble_eq_true rfl)⟩ rfl (⟨by decide, by decide⟩ : jRng 0) w4 h
  refine jg_aload_n (pc := 0) X d_12_drop_0 0 rfl ?_
  refine jg_iconst (pc := 1) X d_12_drop_1 ?_
  refine jgp_12_0 (pc := 2) X (jl_345_12 hn) kw_1473 d_12_drop_2 ?_
  have w35 := jWF.u (k := 0) (v := 0) hw0 (jl_345_12 hn) (by decide) (⟨by decide, by decide⟩ : jRng 0)
  refine jg_aload_n (pc := 5) X d_12_drop_5 0 rfl ?_
  refine jg_iload_n (pc := 6) X d_12_drop_6 1 rfl ?_
  refine jg_pcallSi (pc := 7) X (m_12_noView rv1 w35 h) jM_12_noView kw_1705 rfl rfl (Nat.le_of_ble_eq_true rfl) d_12_drop_7 ⟨(Nat.le_of_ble_eq_true rfl), (Nat.le_of_ble_eq_true rfl)⟩ ⟨(Nat.le_of_ble_eq_true rfl), (Nat.le_of_ble_eq_true rfl)⟩ (fun x36 r38 h => ?_)
  refine jg_if_ne (tgt := 22) (pc := 10) X d_12_drop_10 (by decide) r38 h (fun c40 h => ?_) (fun c40 h => ?_)
  · refine jg_aload_n (pc := 13) X d_12_drop_13 0 rfl ?_
    refine jg_iload_n (pc := 14) X d_12_drop_14 1 rfl ?_
    refine jg_iload_n (pc := 15) X d_12_drop_15 2 rfl ?_
    refine jg_pcallVi (pc := 16) X (m_12_noPlace rv1 rv2 w35 h) jM_12_noPlace kw_1794 (jl_345_12 hn) rfl rfl rfl rfl rfl (Nat.le_of_ble_eq_true rfl) d_12_drop_16 ⟨(Nat.le_of_ble_eq_true rfl), (Nat.le_of_ble_eq_true rfl)⟩ ⟨(Nat.le_of_ble_eq_true rfl), (Nat.le_of_ble_eq_true rfl)⟩ (fun x41 r43 h => ?_)
    refine jg_if_eq (tgt := 26) (pc := 19) X d_12_drop_19 (by decide) r43 h (fun c45 h => ?_) (fun c45 h => ?_)
    · refine jg_iconst (pc := 26) X d_12_drop_26 ?_
      refine jg_sub [0, 1, 2] rfl ?_
      exact jb27 _ _ _ _ (⟨by decide, by decide⟩ : jRng 0) rv1 rv2 w35 h
    · refine jg_iconst (pc := 22) X d_12_drop_22 ?_
      refine jg_goto (tgt := 27) (pc := 23) X d_12_drop_23 (by decide) ?_
      refine jg_sub [0, 1, 2] rfl ?_
      exact jb27 _ _ _ _ (⟨by decide, by decide⟩ : jRng 1) rv1 rv2 w35 h
  · refine jg_iconst (pc := 22) X d_12_drop_22 ?_
    refine jg_goto (tgt := 27) (pc := 23) X d_12_drop_23 (by decide) ?_
    refine jg_sub [0, 1, 2] rfl ?_
    exact jb27 _ _ _ _ (⟨by decide, by decide⟩ : jRng 1) rv1 rv2 w35 h
set_option maxHeartbeats 4000000 in
set_option maxRecDepth 100000 in
theorem m_12_drag {l : Launch} {Z : jE} {n : Nat} {C : jC} {v1 : Int} {v2 : Int} {v3 : Int} {post : Int → jC → Prop} (rv1 : jRng v1) (rv2 : jRng v2) (rv3 : jRng v3) (hw0 : jWF n C) (h : wp_12_drag v1 v2 v3 C post) : jCi l y_12_drag prog_14_method_93_code 6 (.int) q_12_drag Z n C [jr Z 345, jI v1, jI v2, jI v3] post := by
  have hn := hw0.2.2.1
  unfold wp_12_drag at h
  refine jCi_of (lv0 := [(0, jr Z 345), (1, jI v1), (2, jI v2), (3, jI v3)]) (by decide) (Nat.le_of_ble_eq_true rfl) rfl ?_
  intro p e s m args below meth c A sz X hAe hr hlocks
  have jb54 : ∀ (s0 : Int) (v1 : Int) (v2 : Int) (v3 : Int) (C : jC) (rs0 : jRng s0) (rv1 : jRng v1) (rv2 : jRng v2) (rv3 : jRng v3) (hw : jWF n C), wp_12_drag_54 s0 v1 v2 v3 C post → jG p l e q_12_drag s m args below meth c 6 Z A (jws Z n C) 0 0 (MQ below (jQi Z n sz post) args s q_12_drag.cells q_12_drag.slots (jA Z n sz)) 54 [(0, jr Z 345), (1, jI v1), (2, jI v2), (3, jI v3)] [jI s0, jr Z 345] := by
    intro s0 v1 v2 v3 C rs0 rv1 rv2 rv3 hw h
    unfold wp_12_drag_54 at h
    refine jg_iconst (pc := 54) X d_12_drag_54 ?_
    refine jg_callVi (pc := 55) X (m_12_throwsIf rs0 (⟨by decide, by decide⟩ : jRng 2) hw h) jM_12_throwsIf kw_1697 (jl_345_12 hn) rfl rfl rfl rfl rfl (Nat.le_of_ble_eq_true rfl) d_12_drag_55 ⟨(Nat.le_of_ble_eq_true rfl), (Nat.le_of_ble_eq_true rfl)⟩ ⟨(Nat.le_of_ble_eq_true rfl), (Nat.le_of_ble_eq_true rfl)⟩ (fun x1 C2 r3 w4 h => ?_)
    refine jg_if_eq (tgt := 63) (pc := 58) X d_12_drag_58 (by decide) r3 h (fun c5 h => ?_) (fun c5 h => ?_)
    · refine jg_iload_n (pc := 63) X d_12_drag_63 1 rfl ?_
      refine jg_pcallSi (pc := 64) X (m_12_listOf rv1 w4 h) jM_12_listOf kw_1686 rfl rfl (Nat.le_of_ble_eq_true rfl) d_12_drag_64 ⟨(Nat.le_of_ble_eq_true rfl), (Nat.le_of_ble_eq_true rfl)⟩ ⟨(Nat.le_of_ble_eq_true rfl), (Nat.le_of_ble_eq_true rfl)⟩ (fun x6 r8 h => ?_)
      refine jg_istore (pc := 67) X [(4, jI x6), (0, jr Z 345), (1, jI v1), (2, jI v2), (3, jI v3)] d_12_drag_67 (by decide) rfl ?_
      refine jg_aload_n (pc := 69) X d_12_drag_69 1 rfl ?_
      refine jg_iload (pc := 70) X d_12_drag_70 0 rfl ?_
      refine jg_iload_n (pc := 72) X d_12_drag_72 3 rfl ?_
      refine jg_pcallVi (pc := 73) X (m_12_keyAt r8 rv2 w4 h) jM_12_keyAt kw_1766 (jl_345_12 hn) rfl rfl rfl rfl rfl (Nat.le_of_ble_eq_true rfl) d_12_drag_73 ⟨(Nat.le_of_ble_eq_true rfl), (Nat.le_of_ble_eq_true rfl)⟩ ⟨(Nat.le_of_ble_eq_true rfl), (Nat.le_of_ble_eq_true rfl)⟩ (fun x10 r12 h => ?_)
      refine jg_istore (pc := 76) X [(5, jI x10), (4, jI x6), (0, jr Z 345), (1, jI v1), (2, jI v2), (3, jI v3)] d_12_drag_76 (by decide) rfl ?_
      refine jg_aload_n (pc := 78) X d_12_drag_78 2 rfl ?_
      refine jg_iload (pc := 79) X d_12_drag_79 1 rfl ?_
      refine jg_iload (pc := 81) X d_12_drag_81 0 rfl ?_
      refine jg_callVv (pc := 83) X (m_12_takes r8 r12 w4 h) jM_12_takes kw_1896 (jl_345_12 hn) rfl rfl rfl rfl rfl (Nat.le_of_ble_eq_true rfl) d_12_drag_83 ⟨(Nat.le_of_ble_eq_true rfl), (Nat.le_of_ble_eq_true rfl)⟩ ⟨(Nat.le_of_ble_eq_true rfl), (Nat.le_of_ble_eq_true rfl)⟩ (fun C15 w17 h => ?_)
      refine jg_aload_n (pc := 86) X d_12_drag_86 2 rfl ?_
      refine jg_iload (pc := 87) X d_12_drag_87 1 rfl ?_
      refine jg_iload_n (pc := 89) X d_12_drag_89 5 rfl ?_
      refine jg_iload (pc := 90) X d_12_drag_90 0 rfl ?_
      refine jg_callVv (pc := 92) X (m_12_puts r8 rv3 r12 w17 h) jM_12_puts kw_1649 (jl_345_12 hn) rfl rfl rfl rfl rfl (Nat.le_of_ble_eq_true rfl) d_12_drag_92 ⟨(Nat.le_of_ble_eq_true rfl), (Nat.le_of_ble_eq_true rfl)⟩ ⟨(Nat.le_of_ble_eq_true rfl), (Nat.le_of_ble_eq_true rfl)⟩ (fun C19 w21 h => ?_)
      refine jg_aload_n (pc := 95) X d_12_drag_95 2 rfl ?_
      refine jg_sipush (pc := 96) X d_12_drag_96 rfl ?_
      refine jg_iload (pc := 99) X d_12_drag_99 0 rfl ?_
      refine jg_callVv (pc := 101) X (m_12_takes (⟨by decide, by decide⟩ : jRng 273) r12 w21 h) jM_12_takes kw_1896 (jl_345_12 hn) rfl rfl rfl rfl rfl (Nat.le_of_ble_eq_true rfl) d_12_drag_101 ⟨(Nat.le_of_ble_eq_true rfl), (Nat.le_of_ble_eq_true rfl)⟩ ⟨(Nat.le_of_ble_eq_true rfl), (Nat.le_of_ble_eq_true rfl)⟩ (fun C23 w25 h => ?_)
      refine jg_aload_n (pc := 104) X d_12_drag_104 2 rfl ?_
      refine jg_sipush (pc := 105) X d_12_drag_105 rfl ?_
      refine jg_iload_n (pc := 108) X d_12_drag_108 5 rfl ?_
      refine jg_if_le (tgt := 133) (pc := 109) X d_12_drag_109 (by decide) rv3 h (fun c26 h => ?_) (fun c26 h => ?_)
      · refine jg_aload_n (pc := 133) X d_12_drag_133 2 rfl ?_
        refine jg_sipush (pc := 134) X d_12_drag_134 rfl ?_
        refine jg_aload_n (pc := 137) X d_12_drag_137 2 rfl ?_
        refine jg_iload (pc := 138) X d_12_drag_138 1 rfl ?_
        refine jg_iconst (pc := 140) X d_12_drag_140 ?_
        refine jg_pcallVi (pc := 141) X (m_12_keyAt r8 (⟨by decide, by decide⟩ : jRng 1) w25 h) jM_12_keyAt kw_1766 (jl_345_12 hn) rfl rfl rfl rfl rfl (Nat.le_of_ble_eq_true rfl) d_12_drag_141 ⟨(Nat.le_of_ble_eq_true rfl), (Nat.le_of_ble_eq_true rfl)⟩ ⟨(Nat.le_of_ble_eq_true rfl), (Nat.le_of_ble_eq_true rfl)⟩ (fun x27 r29 h => ?_)
        refine jg_pcallVi (pc := 144) X (m_12_placeIn (⟨by decide, by decide⟩ : jRng 273) r29 w25 h) jM_12_placeIn kw_1778 (jl_345_12 hn) rfl rfl rfl rfl rfl (Nat.le_of_ble_eq_true rfl) d_12_drag_144 ⟨(Nat.le_of_ble_eq_true rfl), (Nat.le_of_ble_eq_true rfl)⟩ ⟨(Nat.le_of_ble_eq_true rfl), (Nat.le_of_ble_eq_true rfl)⟩ (fun x31 r33 h => ?_)
        refine jg_iload (pc := 147) X d_12_drag_147 0 rfl ?_
        refine jg_callVv (pc := 149) X (m_12_puts (⟨by decide, by decide⟩ : jRng 273) r33 r12 w25 h) jM_12_puts kw_1649 (jl_345_12 hn) rfl rfl rfl rfl rfl (Nat.le_of_ble_eq_true rfl) d_12_drag_149 ⟨(Nat.le_of_ble_eq_true rfl), (Nat.le_of_ble_eq_true rfl)⟩ ⟨(Nat.le_of_ble_eq_true rfl), (Nat.le_of_ble_eq_true rfl)⟩ (fun C36 w38 h => ?_)
        refine jg_iload (pc := 152) X d_12_drag_152 0 rfl ?_
        exact jg_ireturn (pc := 154) X hAe hlocks hr d_12_drag_154 ⟨(Nat.le_of_ble_eq_true rfl), (Nat.le_of_ble_eq_true rfl)⟩ rfl r12 w38 h
      · refine jg_aload_n (pc := 112) X d_12_drag_112 2 rfl ?_
        refine jg_sipush (pc := 113) X d_12_drag_113 rfl ?_
        refine jg_aload_n (pc := 116) X d_12_drag_116 2 rfl ?_
        refine jg_iload (pc := 117) X d_12_drag_117 1 rfl ?_
        refine jg_iload_n (pc := 119) X d_12_drag_119 5 rfl ?_
        refine jg_iconst (pc := 120) X d_12_drag_120 ?_
        refine jg_isub (pc := 121) X d_12_drag_121 ?_
        have r39 : jRng (v3 - 1) := by (unfold jRng; exact ⟨by (have z0 : jRng v3 := rv3; unfold jRng at z0; omega), by (have z0 : jRng v3 := rv3; unfold jRng at z0; omega)⟩)
        refine jg_pcallVi (pc := 122) X (m_12_keyAt r8 r39 w25 h) jM_12_keyAt kw_1766 (jl_345_12 hn) rfl rfl rfl rfl rfl (Nat.le_of_ble_eq_true rfl) d_12_drag_122 ⟨(Nat.le_of_ble_eq_true rfl), (Nat.le_of_ble_eq_true rfl)⟩ ⟨(Nat.le_of_ble_eq_true rfl), (Nat.le_of_ble_eq_true rfl)⟩ (fun x40 r42 h => ?_)
        refine jg_pcallVi (pc := 125) X (m_12_placeIn (⟨by decide, by decide⟩ : jRng 273) r42 w25 h) jM_12_placeIn kw_1778 (jl_345_12 hn) rfl rfl rfl rfl rfl (Nat.le_of_ble_eq_true rfl) d_12_drag_125 ⟨(Nat.le_of_ble_eq_true rfl), (Nat.le_of_ble_eq_true rfl)⟩ ⟨(Nat.le_of_ble_eq_true rfl), (Nat.le_of_ble_eq_true rfl)⟩ (fun x44 r46 h => ?_)
        refine jg_iconst (pc := 128) X d_12_drag_128 ?_
        refine jg_iadd (pc := 129) X d_12_drag_129 ?_
        refine jg_goto (tgt := 147) (pc := 130) X d_12_drag_130 (by decide) ?_
        refine jg_iload (pc := 147) X d_12_drag_147 0 rfl ?_
        obtain ⟨r48, h⟩ := h
        refine jg_callVv (pc := 149) X (m_12_puts (⟨by decide, by decide⟩ : jRng 273) r48 r12 w25 h) jM_12_puts kw_1649 (jl_345_12 hn) rfl rfl rfl rfl rfl (Nat.le_of_ble_eq_true rfl) d_12_drag_149 ⟨(Nat.le_of_ble_eq_true rfl), (Nat.le_of_ble_eq_true rfl)⟩ ⟨(Nat.le_of_ble_eq_true rfl), (Nat.le_of_ble_eq_true rfl)⟩ (fun C50 w52 h => ?_)
        refine jg_iload (pc := 152) X d_12_drag_152 0 rfl ?_
        exact jg_ireturn (pc := 154) X hAe hlocks hr d_12_drag_154 ⟨(Nat.le_of_ble_eq_true rfl), (Nat.le_of_ble_eq_true rfl)⟩ rfl r12 w52 h
    · refine jg_iconst (pc := 61) X d_12_drag_61 ?_
      exact jg_ireturn (pc := 62) X hAe hlocks hr d_12_drag_62 ⟨(Nat.le_of_ble_eq_true rfl), (Nat.le_of_ble_eq_true rfl)⟩ rfl (⟨by decide, by decide⟩ : jRng 0) w4 h
  have jb31 : ∀ (v1 : Int) (v2 : Int) (v3 : Int) (C : jC) (rv1 : jRng v1) (rv2 : jRng v2) (rv3 : jRng v3) (hw : jWF n C), wp_12_drag_31 v1 v2 v3 C post → jG p l e q_12_drag s m args below meth c 6 Z A (jws Z n C) 0 0 (MQ below (jQi Z n sz post) args s q_12_drag.cells q_12_drag.slots (jA Z n sz)) 31 [(0, jr Z 345), (1, jI v1), (2, jI v2), (3, jI v3)] [jr Z 345] := by
    intro v1 v2 v3 C rv1 rv2 rv3 hw h
    unfold wp_12_drag_31 at h
    refine jg_iconst (pc := 31) X d_12_drag_31 ?_
    refine jg_goto (tgt := 36) (pc := 32) X d_12_drag_32 (by decide) ?_
    refine jg_iconst (pc := 36) X d_12_drag_36 ?_
    refine jg_callVi (pc := 37) X (m_12_throwsIf (⟨by decide, by decide⟩ : jRng 1) (⟨by decide, by decide⟩ : jRng 1) hw h) jM_12_throwsIf kw_1697 (jl_345_12 hn) rfl rfl rfl rfl rfl (Nat.le_of_ble_eq_true rfl) d_12_drag_37 ⟨(Nat.le_of_ble_eq_true rfl), (Nat.le_of_ble_eq_true rfl)⟩ ⟨(Nat.le_of_ble_eq_true rfl), (Nat.le_of_ble_eq_true rfl)⟩ (fun x53 C54 r55 w56 h => ?_)
    refine jg_if_ne (tgt := 61) (pc := 40) X d_12_drag_40 (by decide) r55 h (fun c57 h => ?_) (fun c57 h => ?_)
    · refine jg_aload_n (pc := 43) X d_12_drag_43 0 rfl ?_
      refine jg_iload_n (pc := 44) X d_12_drag_44 2 rfl ?_
      refine jg_iload_n (pc := 45) X d_12_drag_45 3 rfl ?_
      refine jg_icmp_ne (tgt := 53) (pc := 46) X d_12_drag_46 (by decide) rv2 rv3 h (fun c58 h => ?_) (fun c58 h => ?_)
      · refine jg_iconst (pc := 49) X d_12_drag_49 ?_
        refine jg_goto (tgt := 54) (pc := 50) X d_12_drag_50 (by decide) ?_
        refine jg_sub [0, 1, 2, 3] rfl ?_
        exact jb54 _ _ _ _ _ (⟨by decide, by decide⟩ : jRng 1) rv1 rv2 rv3 w56 h
      · refine jg_iconst (pc := 53) X d_12_drag_53 ?_
        refine jg_sub [0, 1, 2, 3] rfl ?_
        exact jb54 _ _ _ _ _ (⟨by decide, by decide⟩ : jRng 0) rv1 rv2 rv3 w56 h
    · refine jg_iconst (pc := 61) X d_12_drag_61 ?_
      exact jg_ireturn (pc := 62) X hAe hlocks hr d_12_drag_62 ⟨(Nat.le_of_ble_eq_true rfl), (Nat.le_of_ble_eq_true rfl)⟩ rfl (⟨by decide, by decide⟩ : jRng 0) w56 h
  refine jg_aload_n (pc := 0) X d_12_drag_0 0 rfl ?_
  refine jg_iconst (pc := 1) X d_12_drag_1 ?_
  refine jgp_12_0 (pc := 2) X (jl_345_12 hn) kw_1473 d_12_drag_2 ?_
  have w59 := jWF.u (k := 0) (v := 0) hw0 (jl_345_12 hn) (by decide) (⟨by decide, by decide⟩ : jRng 0)
  refine jg_aload_n (pc := 5) X d_12_drag_5 0 rfl ?_
  refine jg_iload_n (pc := 6) X d_12_drag_6 1 rfl ?_
  refine jg_pcallSi (pc := 7) X (m_12_noView rv1 w59 h) jM_12_noView kw_1705 rfl rfl (Nat.le_of_ble_eq_true rfl) d_12_drag_7 ⟨(Nat.le_of_ble_eq_true rfl), (Nat.le_of_ble_eq_true rfl)⟩ ⟨(Nat.le_of_ble_eq_true rfl), (Nat.le_of_ble_eq_true rfl)⟩ (fun x60 r62 h => ?_)
  refine jg_if_ne (tgt := 31) (pc := 10) X d_12_drag_10 (by decide) r62 h (fun c64 h => ?_) (fun c64 h => ?_)
  · refine jg_aload_n (pc := 13) X d_12_drag_13 0 rfl ?_
    refine jg_iload_n (pc := 14) X d_12_drag_14 1 rfl ?_
    refine jg_iload_n (pc := 15) X d_12_drag_15 2 rfl ?_
    refine jg_pcallVi (pc := 16) X (m_12_noPlace rv1 rv2 w59 h) jM_12_noPlace kw_1794 (jl_345_12 hn) rfl rfl rfl rfl rfl (Nat.le_of_ble_eq_true rfl) d_12_drag_16 ⟨(Nat.le_of_ble_eq_true rfl), (Nat.le_of_ble_eq_true rfl)⟩ ⟨(Nat.le_of_ble_eq_true rfl), (Nat.le_of_ble_eq_true rfl)⟩ (fun x65 r67 h => ?_)
    refine jg_if_ne (tgt := 31) (pc := 19) X d_12_drag_19 (by decide) r67 h (fun c69 h => ?_) (fun c69 h => ?_)
    · refine jg_aload_n (pc := 22) X d_12_drag_22 0 rfl ?_
      refine jg_iload_n (pc := 23) X d_12_drag_23 1 rfl ?_
      refine jg_iload_n (pc := 24) X d_12_drag_24 3 rfl ?_
      refine jg_pcallVi (pc := 25) X (m_12_noPlace rv1 rv3 w59 h) jM_12_noPlace kw_1794 (jl_345_12 hn) rfl rfl rfl rfl rfl (Nat.le_of_ble_eq_true rfl) d_12_drag_25 ⟨(Nat.le_of_ble_eq_true rfl), (Nat.le_of_ble_eq_true rfl)⟩ ⟨(Nat.le_of_ble_eq_true rfl), (Nat.le_of_ble_eq_true rfl)⟩ (fun x70 r72 h => ?_)
      refine jg_if_eq (tgt := 35) (pc := 28) X d_12_drag_28 (by decide) r72 h (fun c74 h => ?_) (fun c74 h => ?_)
      · refine jg_iconst (pc := 35) X d_12_drag_35 ?_
        refine jg_iconst (pc := 36) X d_12_drag_36 ?_
        refine jg_callVi (pc := 37) X (m_12_throwsIf (⟨by decide, by decide⟩ : jRng 0) (⟨by decide, by decide⟩ : jRng 1) w59 h) jM_12_throwsIf kw_1697 (jl_345_12 hn) rfl rfl rfl rfl rfl (Nat.le_of_ble_eq_true rfl) d_12_drag_37 ⟨(Nat.le_of_ble_eq_true rfl), (Nat.le_of_ble_eq_true rfl)⟩ ⟨(Nat.le_of_ble_eq_true rfl), (Nat.le_of_ble_eq_true rfl)⟩ (fun x75 C76 r77 w78 h => ?_)
        refine jg_if_ne (tgt := 61) (pc := 40) X d_12_drag_40 (by decide) r77 h (fun c79 h => ?_) (fun c79 h => ?_)
        · refine jg_aload_n (pc := 43) X d_12_drag_43 0 rfl ?_
          refine jg_iload_n (pc := 44) X d_12_drag_44 2 rfl ?_
          refine jg_iload_n (pc := 45) X d_12_drag_45 3 rfl ?_
          refine jg_icmp_ne (tgt := 53) (pc := 46) X d_12_drag_46 (by decide) rv2 rv3 h (fun c80 h => ?_) (fun c80 h => ?_)
          · refine jg_iconst (pc := 49) X d_12_drag_49 ?_
            refine jg_goto (tgt := 54) (pc := 50) X d_12_drag_50 (by decide) ?_
            refine jg_sub [0, 1, 2, 3] rfl ?_
            exact jb54 _ _ _ _ _ (⟨by decide, by decide⟩ : jRng 1) rv1 rv2 rv3 w78 h
          · refine jg_iconst (pc := 53) X d_12_drag_53 ?_
            refine jg_sub [0, 1, 2, 3] rfl ?_
            exact jb54 _ _ _ _ _ (⟨by decide, by decide⟩ : jRng 0) rv1 rv2 rv3 w78 h
        · refine jg_iconst (pc := 61) X d_12_drag_61 ?_
          exact jg_ireturn (pc := 62) X hAe hlocks hr d_12_drag_62 ⟨(Nat.le_of_ble_eq_true rfl), (Nat.le_of_ble_eq_true rfl)⟩ rfl (⟨by decide, by decide⟩ : jRng 0) w78 h
      · refine jg_sub [0, 1, 2, 3] rfl ?_
        exact jb31 _ _ _ _ rv1 rv2 rv3 w59 h
    · refine jg_sub [0, 1, 2, 3] rfl ?_
      exact jb31 _ _ _ _ rv1 rv2 rv3 w59 h
  · refine jg_sub [0, 1, 2, 3] rfl ?_
    exact jb31 _ _ _ _ rv1 rv2 rv3 w59 h
set_option maxHeartbeats 4000000 in
set_option maxRecDepth 100000 in
theorem m_12_kind {l : Launch} {Z : jE} {n : Nat} {C : jC} {v1 : Int} {post : Int → jC → Prop} (rv1 : jRng v1) (hw0 : jWF n C) (h : wp_12_kind v1 C post) : jCi l y_12_kind prog_14_method_94_code 2 (.int) q_12_kind Z n C [jr Z 345, jI v1] post := by
  have hn := hw0.2.2.1
  unfold wp_12_kind at h
  refine jCi_of (lv0 := [(0, jr Z 345), (1, jI v1)]) (by decide) (Nat.le_of_ble_eq_true rfl) rfl ?_
  intro p e s m args below meth c A sz X hAe hr hlocks
  refine jg_aload_n (pc := 0) X d_12_kind_0 0 rfl ?_
  refine jg_iconst (pc := 1) X d_12_kind_1 ?_
  refine jgp_12_0 (pc := 2) X (jl_345_12 hn) kw_1473 d_12_kind_2 ?_
  have w1 := jWF.u (k := 0) (v := 0) hw0 (jl_345_12 hn) (by decide) (⟨by decide, by decide⟩ : jRng 0)
  refine jg_aload_n (pc := 5) X d_12_kind_5 0 rfl ?_
  refine jg_aload_n (pc := 6) X d_12_kind_6 0 rfl ?_
  refine jg_iload_n (pc := 7) X d_12_kind_7 1 rfl ?_
  refine jg_pcallVi (pc := 8) X (m_12_noColumn rv1 w1 h) jM_12_noColumn kw_1798 (jl_345_12 hn) rfl rfl rfl rfl rfl (Nat.le_of_ble_eq_true rfl) d_12_kind_8 ⟨(Nat.le_of_ble_eq_true rfl), (Nat.le_of_ble_eq_true rfl)⟩ ⟨(Nat.le_of_ble_eq_true rfl), (Nat.le_of_ble_eq_true rfl)⟩ (fun x2 r4 h => ?_)
  refine jg_iconst (pc := 11) X d_12_kind_11 ?_
  refine jg_callVi (pc := 12) X (m_12_throwsIf r4 (⟨by decide, by decide⟩ : jRng 1) w1 h) jM_12_throwsIf kw_1697 (jl_345_12 hn) rfl rfl rfl rfl rfl (Nat.le_of_ble_eq_true rfl) d_12_kind_12 ⟨(Nat.le_of_ble_eq_true rfl), (Nat.le_of_ble_eq_true rfl)⟩ ⟨(Nat.le_of_ble_eq_true rfl), (Nat.le_of_ble_eq_true rfl)⟩ (fun x6 C7 r8 w9 h => ?_)
  refine jg_if_eq (tgt := 22) (pc := 15) X d_12_kind_15 (by decide) r8 h (fun c10 h => ?_) (fun c10 h => ?_)
  · refine jg_aload_n (pc := 22) X d_12_kind_22 0 rfl ?_
    refine jgf_12_1 (pc := 23) X (jl_345_12 hn) kw_1474 d_12_kind_23 ?_
    refine jg_iconst (pc := 26) X d_12_kind_26 ?_
    refine jg_iload_n (pc := 27) X d_12_kind_27 1 rfl ?_
    refine jg_iadd (pc := 28) X d_12_kind_28 ?_
    obtain ⟨b11, b12, h⟩ := h
    refine jg_iaload (len := 8954) (pc := 29) X d_12_kind_29 (jl_346_9954 hn) (fun _ => rfl) (by decide) b11 b12 ?_
    exact jg_ireturn (pc := 30) X hAe hlocks hr d_12_kind_30 ⟨(Nat.le_of_ble_eq_true rfl), (Nat.le_of_ble_eq_true rfl)⟩ rfl (w9.1 _ _) w9 h
  · refine jg_iconst (pc := 18) X d_12_kind_18 ?_
    refine jg_goto (tgt := 30) (pc := 19) X d_12_kind_19 (by decide) ?_
    exact jg_ireturn (pc := 30) X hAe hlocks hr d_12_kind_30 ⟨(Nat.le_of_ble_eq_true rfl), (Nat.le_of_ble_eq_true rfl)⟩ rfl (⟨by decide, by decide⟩ : jRng 0) w9 h
set_option maxHeartbeats 4000000 in
set_option maxRecDepth 100000 in
theorem m_12_cell {l : Launch} {Z : jE} {n : Nat} {C : jC} {v1 : Int} {v2 : Int} {post : Int → jC → Prop} (rv1 : jRng v1) (rv2 : jRng v2) (hw0 : jWF n C) (h : wp_12_cell v1 v2 C post) : jCi l y_12_cell prog_14_method_95_code 3 (.int) q_12_cell Z n C [jr Z 345, jI v1, jI v2] post := by
  have hn := hw0.2.2.1
  unfold wp_12_cell at h
  refine jCi_of (lv0 := [(0, jr Z 345), (1, jI v1), (2, jI v2)]) (by decide) (Nat.le_of_ble_eq_true rfl) rfl ?_
  intro p e s m args below meth c A sz X hAe hr hlocks
  refine jg_aload_n (pc := 0) X d_12_cell_0 0 rfl ?_
  refine jg_iconst (pc := 1) X d_12_cell_1 ?_
  refine jgp_12_0 (pc := 2) X (jl_345_12 hn) kw_1473 d_12_cell_2 ?_
  have w1 := jWF.u (k := 0) (v := 0) hw0 (jl_345_12 hn) (by decide) (⟨by decide, by decide⟩ : jRng 0)
  refine jg_aload_n (pc := 5) X d_12_cell_5 0 rfl ?_
  refine jg_aload_n (pc := 6) X d_12_cell_6 0 rfl ?_
  refine jg_iload_n (pc := 7) X d_12_cell_7 1 rfl ?_
  refine jg_pcallVi (pc := 8) X (m_12_rowOf rv1 w1 h) jM_12_rowOf kw_1641 (jl_345_12 hn) rfl rfl rfl rfl rfl (Nat.le_of_ble_eq_true rfl) d_12_cell_8 ⟨(Nat.le_of_ble_eq_true rfl), (Nat.le_of_ble_eq_true rfl)⟩ ⟨(Nat.le_of_ble_eq_true rfl), (Nat.le_of_ble_eq_true rfl)⟩ (fun x2 r4 h => ?_)
  refine jg_iconst (pc := 11) X d_12_cell_11 ?_
  refine jg_icmp_eq (tgt := 23) (pc := 12) X d_12_cell_12 (by decide) r4 (⟨by decide, by decide⟩ : jRng (-1)) h (fun c6 h => ?_) (fun c6 h => ?_)
  · refine jg_iconst (pc := 23) X d_12_cell_23 ?_
    refine jg_goto (tgt := 28) (pc := 24) X d_12_cell_24 (by decide) ?_
    refine jg_iconst (pc := 28) X d_12_cell_28 ?_
    refine jg_callVi (pc := 29) X (m_12_throwsIf (⟨by decide, by decide⟩ : jRng 1) (⟨by decide, by decide⟩ : jRng 1) w1 h) jM_12_throwsIf kw_1697 (jl_345_12 hn) rfl rfl rfl rfl rfl (Nat.le_of_ble_eq_true rfl) d_12_cell_29 ⟨(Nat.le_of_ble_eq_true rfl), (Nat.le_of_ble_eq_true rfl)⟩ ⟨(Nat.le_of_ble_eq_true rfl), (Nat.le_of_ble_eq_true rfl)⟩ (fun x7 C8 r9 w10 h => ?_)
    refine jg_if_eq (tgt := 39) (pc := 32) X d_12_cell_32 (by decide) r9 h (fun c11 h => ?_) (fun c11 h => ?_)
    · refine jg_aload_n (pc := 39) X d_12_cell_39 0 rfl ?_
      refine jg_iload_n (pc := 40) X d_12_cell_40 1 rfl ?_
      refine jg_iload_n (pc := 41) X d_12_cell_41 2 rfl ?_
      refine jg_pcallVi (pc := 42) X (m_12_cellOf rv1 rv2 w10 h) jM_12_cellOf kw_1671 (jl_345_12 hn) rfl rfl rfl rfl rfl (Nat.le_of_ble_eq_true rfl) d_12_cell_42 ⟨(Nat.le_of_ble_eq_true rfl), (Nat.le_of_ble_eq_true rfl)⟩ ⟨(Nat.le_of_ble_eq_true rfl), (Nat.le_of_ble_eq_true rfl)⟩ (fun x12 r14 h => ?_)
      exact jg_ireturn (pc := 45) X hAe hlocks hr d_12_cell_45 ⟨(Nat.le_of_ble_eq_true rfl), (Nat.le_of_ble_eq_true rfl)⟩ rfl r14 w10 h
    · refine jg_iconst (pc := 35) X d_12_cell_35 ?_
      refine jg_goto (tgt := 45) (pc := 36) X d_12_cell_36 (by decide) ?_
      exact jg_ireturn (pc := 45) X hAe hlocks hr d_12_cell_45 ⟨(Nat.le_of_ble_eq_true rfl), (Nat.le_of_ble_eq_true rfl)⟩ rfl (⟨by decide, by decide⟩ : jRng 0) w10 h
  · refine jg_aload_n (pc := 15) X d_12_cell_15 0 rfl ?_
    refine jg_iload_n (pc := 16) X d_12_cell_16 2 rfl ?_
    refine jg_pcallVi (pc := 17) X (m_12_noColumn rv2 w1 h) jM_12_noColumn kw_1798 (jl_345_12 hn) rfl rfl rfl rfl rfl (Nat.le_of_ble_eq_true rfl) d_12_cell_17 ⟨(Nat.le_of_ble_eq_true rfl), (Nat.le_of_ble_eq_true rfl)⟩ ⟨(Nat.le_of_ble_eq_true rfl), (Nat.le_of_ble_eq_true rfl)⟩ (fun x16 r18 h => ?_)
    refine jg_if_eq (tgt := 27) (pc := 20) X d_12_cell_20 (by decide) r18 h (fun c20 h => ?_) (fun c20 h => ?_)
    · refine jg_iconst (pc := 27) X d_12_cell_27 ?_
      refine jg_iconst (pc := 28) X d_12_cell_28 ?_
      refine jg_callVi (pc := 29) X (m_12_throwsIf (⟨by decide, by decide⟩ : jRng 0) (⟨by decide, by decide⟩ : jRng 1) w1 h) jM_12_throwsIf kw_1697 (jl_345_12 hn) rfl rfl rfl rfl rfl (Nat.le_of_ble_eq_true rfl) d_12_cell_29 ⟨(Nat.le_of_ble_eq_true rfl), (Nat.le_of_ble_eq_true rfl)⟩ ⟨(Nat.le_of_ble_eq_true rfl), (Nat.le_of_ble_eq_true rfl)⟩ (fun x21 C22 r23 w24 h => ?_)
      refine jg_if_eq (tgt := 39) (pc := 32) X d_12_cell_32 (by decide) r23 h (fun c25 h => ?_) (fun c25 h => ?_)
      · refine jg_aload_n (pc := 39) X d_12_cell_39 0 rfl ?_
        refine jg_iload_n (pc := 40) X d_12_cell_40 1 rfl ?_
        refine jg_iload_n (pc := 41) X d_12_cell_41 2 rfl ?_
        refine jg_pcallVi (pc := 42) X (m_12_cellOf rv1 rv2 w24 h) jM_12_cellOf kw_1671 (jl_345_12 hn) rfl rfl rfl rfl rfl (Nat.le_of_ble_eq_true rfl) d_12_cell_42 ⟨(Nat.le_of_ble_eq_true rfl), (Nat.le_of_ble_eq_true rfl)⟩ ⟨(Nat.le_of_ble_eq_true rfl), (Nat.le_of_ble_eq_true rfl)⟩ (fun x26 r28 h => ?_)
        exact jg_ireturn (pc := 45) X hAe hlocks hr d_12_cell_45 ⟨(Nat.le_of_ble_eq_true rfl), (Nat.le_of_ble_eq_true rfl)⟩ rfl r28 w24 h
      · refine jg_iconst (pc := 35) X d_12_cell_35 ?_
        refine jg_goto (tgt := 45) (pc := 36) X d_12_cell_36 (by decide) ?_
        exact jg_ireturn (pc := 45) X hAe hlocks hr d_12_cell_45 ⟨(Nat.le_of_ble_eq_true rfl), (Nat.le_of_ble_eq_true rfl)⟩ rfl (⟨by decide, by decide⟩ : jRng 0) w24 h
    · refine jg_iconst (pc := 23) X d_12_cell_23 ?_
      refine jg_goto (tgt := 28) (pc := 24) X d_12_cell_24 (by decide) ?_
      refine jg_iconst (pc := 28) X d_12_cell_28 ?_
      refine jg_callVi (pc := 29) X (m_12_throwsIf (⟨by decide, by decide⟩ : jRng 1) (⟨by decide, by decide⟩ : jRng 1) w1 h) jM_12_throwsIf kw_1697 (jl_345_12 hn) rfl rfl rfl rfl rfl (Nat.le_of_ble_eq_true rfl) d_12_cell_29 ⟨(Nat.le_of_ble_eq_true rfl), (Nat.le_of_ble_eq_true rfl)⟩ ⟨(Nat.le_of_ble_eq_true rfl), (Nat.le_of_ble_eq_true rfl)⟩ (fun x30 C31 r32 w33 h => ?_)
      refine jg_if_eq (tgt := 39) (pc := 32) X d_12_cell_32 (by decide) r32 h (fun c34 h => ?_) (fun c34 h => ?_)
      · refine jg_aload_n (pc := 39) X d_12_cell_39 0 rfl ?_
        refine jg_iload_n (pc := 40) X d_12_cell_40 1 rfl ?_
        refine jg_iload_n (pc := 41) X d_12_cell_41 2 rfl ?_
        refine jg_pcallVi (pc := 42) X (m_12_cellOf rv1 rv2 w33 h) jM_12_cellOf kw_1671 (jl_345_12 hn) rfl rfl rfl rfl rfl (Nat.le_of_ble_eq_true rfl) d_12_cell_42 ⟨(Nat.le_of_ble_eq_true rfl), (Nat.le_of_ble_eq_true rfl)⟩ ⟨(Nat.le_of_ble_eq_true rfl), (Nat.le_of_ble_eq_true rfl)⟩ (fun x35 r37 h => ?_)
        exact jg_ireturn (pc := 45) X hAe hlocks hr d_12_cell_45 ⟨(Nat.le_of_ble_eq_true rfl), (Nat.le_of_ble_eq_true rfl)⟩ rfl r37 w33 h
      · refine jg_iconst (pc := 35) X d_12_cell_35 ?_
        refine jg_goto (tgt := 45) (pc := 36) X d_12_cell_36 (by decide) ?_
        exact jg_ireturn (pc := 45) X hAe hlocks hr d_12_cell_45 ⟨(Nat.le_of_ble_eq_true rfl), (Nat.le_of_ble_eq_true rfl)⟩ rfl (⟨by decide, by decide⟩ : jRng 0) w33 h
set_option maxHeartbeats 4000000 in
set_option maxRecDepth 100000 in
theorem m_12_order {l : Launch} {Z : jE} {n : Nat} {C : jC} {v1 : Int} {post : Int → jC → Prop} (rv1 : jRng v1) (hw0 : jWF n C) (h : wp_12_order v1 C post) : jCi l y_12_order prog_14_method_96_code 2 (.int) q_12_order Z n C [jr Z 345, jI v1] post := by
  have hn := hw0.2.2.1
  unfold wp_12_order at h
  refine jCi_of (lv0 := [(0, jr Z 345), (1, jI v1)]) (by decide) (Nat.le_of_ble_eq_true rfl) rfl ?_
  intro p e s m args below meth c A sz X hAe hr hlocks
  refine jg_aload_n (pc := 0) X d_12_order_0 0 rfl ?_
  refine jg_iconst (pc := 1) X d_12_order_1 ?_
  refine jgp_12_0 (pc := 2) X (jl_345_12 hn) kw_1473 d_12_order_2 ?_
  have w1 := jWF.u (k := 0) (v := 0) hw0 (jl_345_12 hn) (by decide) (⟨by decide, by decide⟩ : jRng 0)
  refine jg_iload_n (pc := 5) X d_12_order_5 1 rfl ?_
  refine jg_iconst (pc := 6) X d_12_order_6 ?_
  refine jg_aload_n (pc := 7) X d_12_order_7 0 rfl ?_
  refine jg_pcallVi (pc := 8) X (m_12_rows w1 h) jM_12_rows kw_1605 (jl_345_12 hn) rfl rfl rfl rfl rfl (Nat.le_of_ble_eq_true rfl) d_12_order_8 ⟨(Nat.le_of_ble_eq_true rfl), (Nat.le_of_ble_eq_true rfl)⟩ ⟨(Nat.le_of_ble_eq_true rfl), (Nat.le_of_ble_eq_true rfl)⟩ (fun x2 r4 h => ?_)
  refine jg_iconst (pc := 11) X d_12_order_11 ?_
  refine jg_isub (pc := 12) X d_12_order_12 ?_
  obtain ⟨r6, h⟩ := h
  refine jg_pcallSi (pc := 13) X (m_12_in rv1 (⟨by decide, by decide⟩ : jRng 0) r6 w1 h) jM_12_in kw_1638 rfl rfl (Nat.le_of_ble_eq_true rfl) d_12_order_13 ⟨(Nat.le_of_ble_eq_true rfl), (Nat.le_of_ble_eq_true rfl)⟩ ⟨(Nat.le_of_ble_eq_true rfl), (Nat.le_of_ble_eq_true rfl)⟩ (fun x7 r9 h => ?_)
  refine jg_if_eq (tgt := 30) (pc := 16) X d_12_order_16 (by decide) r9 h (fun c11 h => ?_) (fun c11 h => ?_)
  · refine jg_iconst (pc := 30) X d_12_order_30 ?_
    exact jg_ireturn (pc := 31) X hAe hlocks hr d_12_order_31 ⟨(Nat.le_of_ble_eq_true rfl), (Nat.le_of_ble_eq_true rfl)⟩ rfl (⟨by decide, by decide⟩ : jRng (-1)) w1 h
  · refine jg_aload_n (pc := 19) X d_12_order_19 0 rfl ?_
    refine jg_sipush (pc := 20) X d_12_order_20 rfl ?_
    refine jg_iload_n (pc := 23) X d_12_order_23 1 rfl ?_
    refine jg_pcallVi (pc := 24) X (m_12_keyAt (⟨by decide, by decide⟩ : jRng 273) rv1 w1 h) jM_12_keyAt kw_1766 (jl_345_12 hn) rfl rfl rfl rfl rfl (Nat.le_of_ble_eq_true rfl) d_12_order_24 ⟨(Nat.le_of_ble_eq_true rfl), (Nat.le_of_ble_eq_true rfl)⟩ ⟨(Nat.le_of_ble_eq_true rfl), (Nat.le_of_ble_eq_true rfl)⟩ (fun x12 r14 h => ?_)
    refine jg_goto (tgt := 31) (pc := 27) X d_12_order_27 (by decide) ?_
    exact jg_ireturn (pc := 31) X hAe hlocks hr d_12_order_31 ⟨(Nat.le_of_ble_eq_true rfl), (Nat.le_of_ble_eq_true rfl)⟩ rfl r14 w1 h
set_option maxHeartbeats 4000000 in
set_option maxRecDepth 100000 in
theorem m_12_row {l : Launch} {Z : jE} {n : Nat} {C : jC} {v1 : Int} {v2 : Int} {post : Int → jC → Prop} (rv1 : jRng v1) (rv2 : jRng v2) (hw0 : jWF n C) (h : wp_12_row v1 v2 C post) : jCi l y_12_row prog_14_method_97_code 3 (.int) q_12_row Z n C [jr Z 345, jI v1, jI v2] post := by
  have hn := hw0.2.2.1
  unfold wp_12_row at h
  refine jCi_of (lv0 := [(0, jr Z 345), (1, jI v1), (2, jI v2)]) (by decide) (Nat.le_of_ble_eq_true rfl) rfl ?_
  intro p e s m args below meth c A sz X hAe hr hlocks
  refine jg_aload_n (pc := 0) X d_12_row_0 0 rfl ?_
  refine jg_iconst (pc := 1) X d_12_row_1 ?_
  refine jgp_12_0 (pc := 2) X (jl_345_12 hn) kw_1473 d_12_row_2 ?_
  have w1 := jWF.u (k := 0) (v := 0) hw0 (jl_345_12 hn) (by decide) (⟨by decide, by decide⟩ : jRng 0)
  refine jg_aload_n (pc := 5) X d_12_row_5 0 rfl ?_
  refine jg_iload_n (pc := 6) X d_12_row_6 1 rfl ?_
  refine jg_pcallSi (pc := 7) X (m_12_noView rv1 w1 h) jM_12_noView kw_1705 rfl rfl (Nat.le_of_ble_eq_true rfl) d_12_row_7 ⟨(Nat.le_of_ble_eq_true rfl), (Nat.le_of_ble_eq_true rfl)⟩ ⟨(Nat.le_of_ble_eq_true rfl), (Nat.le_of_ble_eq_true rfl)⟩ (fun x2 r4 h => ?_)
  refine jg_iconst (pc := 10) X d_12_row_10 ?_
  refine jg_callVi (pc := 11) X (m_12_throwsIf r4 (⟨by decide, by decide⟩ : jRng 1) w1 h) jM_12_throwsIf kw_1697 (jl_345_12 hn) rfl rfl rfl rfl rfl (Nat.le_of_ble_eq_true rfl) d_12_row_11 ⟨(Nat.le_of_ble_eq_true rfl), (Nat.le_of_ble_eq_true rfl)⟩ ⟨(Nat.le_of_ble_eq_true rfl), (Nat.le_of_ble_eq_true rfl)⟩ (fun x6 C7 r8 w9 h => ?_)
  refine jg_if_eq (tgt := 19) (pc := 14) X d_12_row_14 (by decide) r8 h (fun c10 h => ?_) (fun c10 h => ?_)
  · refine jg_aload_n (pc := 19) X d_12_row_19 0 rfl ?_
    refine jg_iload_n (pc := 20) X d_12_row_20 1 rfl ?_
    refine jg_iload_n (pc := 21) X d_12_row_21 2 rfl ?_
    refine jg_pcallVi (pc := 22) X (m_12_noPlace rv1 rv2 w9 h) jM_12_noPlace kw_1794 (jl_345_12 hn) rfl rfl rfl rfl rfl (Nat.le_of_ble_eq_true rfl) d_12_row_22 ⟨(Nat.le_of_ble_eq_true rfl), (Nat.le_of_ble_eq_true rfl)⟩ ⟨(Nat.le_of_ble_eq_true rfl), (Nat.le_of_ble_eq_true rfl)⟩ (fun x11 r13 h => ?_)
    refine jg_if_eq (tgt := 32) (pc := 25) X d_12_row_25 (by decide) r13 h (fun c15 h => ?_) (fun c15 h => ?_)
    · refine jg_aload_n (pc := 32) X d_12_row_32 0 rfl ?_
      refine jg_iload_n (pc := 33) X d_12_row_33 1 rfl ?_
      refine jg_pcallSi (pc := 34) X (m_12_listOf rv1 w9 h) jM_12_listOf kw_1686 rfl rfl (Nat.le_of_ble_eq_true rfl) d_12_row_34 ⟨(Nat.le_of_ble_eq_true rfl), (Nat.le_of_ble_eq_true rfl)⟩ ⟨(Nat.le_of_ble_eq_true rfl), (Nat.le_of_ble_eq_true rfl)⟩ (fun x16 r18 h => ?_)
      refine jg_iload_n (pc := 37) X d_12_row_37 2 rfl ?_
      refine jg_pcallVi (pc := 38) X (m_12_keyAt r18 rv2 w9 h) jM_12_keyAt kw_1766 (jl_345_12 hn) rfl rfl rfl rfl rfl (Nat.le_of_ble_eq_true rfl) d_12_row_38 ⟨(Nat.le_of_ble_eq_true rfl), (Nat.le_of_ble_eq_true rfl)⟩ ⟨(Nat.le_of_ble_eq_true rfl), (Nat.le_of_ble_eq_true rfl)⟩ (fun x20 r22 h => ?_)
      exact jg_ireturn (pc := 41) X hAe hlocks hr d_12_row_41 ⟨(Nat.le_of_ble_eq_true rfl), (Nat.le_of_ble_eq_true rfl)⟩ rfl r22 w9 h
    · refine jg_iconst (pc := 28) X d_12_row_28 ?_
      refine jg_goto (tgt := 41) (pc := 29) X d_12_row_29 (by decide) ?_
      exact jg_ireturn (pc := 41) X hAe hlocks hr d_12_row_41 ⟨(Nat.le_of_ble_eq_true rfl), (Nat.le_of_ble_eq_true rfl)⟩ rfl (⟨by decide, by decide⟩ : jRng (-1)) w9 h
  · refine jg_iconst (pc := 17) X d_12_row_17 ?_
    exact jg_ireturn (pc := 18) X hAe hlocks hr d_12_row_18 ⟨(Nat.le_of_ble_eq_true rfl), (Nat.le_of_ble_eq_true rfl)⟩ rfl (⟨by decide, by decide⟩ : jRng 0) w9 h
set_option maxHeartbeats 4000000 in
set_option maxRecDepth 100000 in
theorem m_12_noKey {l : Launch} {Z : jE} {n : Nat} {C : jC} {v1 : Int} {v2 : Int} {post : Int → jC → Prop} (rv1 : jRng v1) (rv2 : jRng v2) (hw0 : jWF n C) (h : wp_12_noKey v1 v2 C post) : jCi l y_12_noKey prog_14_method_98_code 3 (.boolean) q_12_noKey Z n C [jr Z 345, jI v1, jI v2] post := by
  have hn := hw0.2.2.1
  unfold wp_12_noKey at h
  refine jCi_of (lv0 := [(0, jr Z 345), (1, jI v1), (2, jI v2)]) (by decide) (Nat.le_of_ble_eq_true rfl) rfl ?_
  intro p e s m args below meth c A sz X hAe hr hlocks
  refine jg_aload_n (pc := 0) X d_12_noKey_0 0 rfl ?_
  refine jg_iconst (pc := 1) X d_12_noKey_1 ?_
  refine jgp_12_0 (pc := 2) X (jl_345_12 hn) kw_1473 d_12_noKey_2 ?_
  have w1 := jWF.u (k := 0) (v := 0) hw0 (jl_345_12 hn) (by decide) (⟨by decide, by decide⟩ : jRng 0)
  refine jg_aload_n (pc := 5) X d_12_noKey_5 0 rfl ?_
  refine jg_iload_n (pc := 6) X d_12_noKey_6 1 rfl ?_
  refine jg_pcallSi (pc := 7) X (m_12_noView rv1 w1 h) jM_12_noView kw_1705 rfl rfl (Nat.le_of_ble_eq_true rfl) d_12_noKey_7 ⟨(Nat.le_of_ble_eq_true rfl), (Nat.le_of_ble_eq_true rfl)⟩ ⟨(Nat.le_of_ble_eq_true rfl), (Nat.le_of_ble_eq_true rfl)⟩ (fun x2 r4 h => ?_)
  refine jg_if_ne (tgt := 22) (pc := 10) X d_12_noKey_10 (by decide) r4 h (fun c6 h => ?_) (fun c6 h => ?_)
  · refine jg_aload_n (pc := 13) X d_12_noKey_13 0 rfl ?_
    refine jg_iload_n (pc := 14) X d_12_noKey_14 2 rfl ?_
    refine jg_pcallVi (pc := 15) X (m_12_rowOf rv2 w1 h) jM_12_rowOf kw_1641 (jl_345_12 hn) rfl rfl rfl rfl rfl (Nat.le_of_ble_eq_true rfl) d_12_noKey_15 ⟨(Nat.le_of_ble_eq_true rfl), (Nat.le_of_ble_eq_true rfl)⟩ ⟨(Nat.le_of_ble_eq_true rfl), (Nat.le_of_ble_eq_true rfl)⟩ (fun x7 r9 h => ?_)
    refine jg_iconst (pc := 18) X d_12_noKey_18 ?_
    refine jg_icmp_ne (tgt := 26) (pc := 19) X d_12_noKey_19 (by decide) r9 (⟨by decide, by decide⟩ : jRng (-1)) h (fun c11 h => ?_) (fun c11 h => ?_)
    · refine jg_iconst (pc := 22) X d_12_noKey_22 ?_
      refine jg_goto (tgt := 27) (pc := 23) X d_12_noKey_23 (by decide) ?_
      refine jg_iconst (pc := 27) X d_12_noKey_27 ?_
      refine jg_callVi (pc := 28) X (m_12_throwsIf (⟨by decide, by decide⟩ : jRng 1) (⟨by decide, by decide⟩ : jRng 1) w1 h) jM_12_throwsIf kw_1697 (jl_345_12 hn) rfl rfl rfl rfl rfl (Nat.le_of_ble_eq_true rfl) d_12_noKey_28 ⟨(Nat.le_of_ble_eq_true rfl), (Nat.le_of_ble_eq_true rfl)⟩ ⟨(Nat.le_of_ble_eq_true rfl), (Nat.le_of_ble_eq_true rfl)⟩ (fun x12 C13 r14 w15 h => ?_)
      obtain ⟨b16, h⟩ := h
      exact jg_ireturn (pc := 31) X hAe hlocks hr d_12_noKey_31 ⟨(Nat.le_of_ble_eq_true rfl), (Nat.le_of_ble_eq_true rfl)⟩ (jnar_b b16) r14 w15 h
    · refine jg_iconst (pc := 26) X d_12_noKey_26 ?_
      refine jg_iconst (pc := 27) X d_12_noKey_27 ?_
      refine jg_callVi (pc := 28) X (m_12_throwsIf (⟨by decide, by decide⟩ : jRng 0) (⟨by decide, by decide⟩ : jRng 1) w1 h) jM_12_throwsIf kw_1697 (jl_345_12 hn) rfl rfl rfl rfl rfl (Nat.le_of_ble_eq_true rfl) d_12_noKey_28 ⟨(Nat.le_of_ble_eq_true rfl), (Nat.le_of_ble_eq_true rfl)⟩ ⟨(Nat.le_of_ble_eq_true rfl), (Nat.le_of_ble_eq_true rfl)⟩ (fun x17 C18 r19 w20 h => ?_)
      obtain ⟨b21, h⟩ := h
      exact jg_ireturn (pc := 31) X hAe hlocks hr d_12_noKey_31 ⟨(Nat.le_of_ble_eq_true rfl), (Nat.le_of_ble_eq_true rfl)⟩ (jnar_b b21) r19 w20 h
  · refine jg_iconst (pc := 22) X d_12_noKey_22 ?_
    refine jg_goto (tgt := 27) (pc := 23) X d_12_noKey_23 (by decide) ?_
    refine jg_iconst (pc := 27) X d_12_noKey_27 ?_
    refine jg_callVi (pc := 28) X (m_12_throwsIf (⟨by decide, by decide⟩ : jRng 1) (⟨by decide, by decide⟩ : jRng 1) w1 h) jM_12_throwsIf kw_1697 (jl_345_12 hn) rfl rfl rfl rfl rfl (Nat.le_of_ble_eq_true rfl) d_12_noKey_28 ⟨(Nat.le_of_ble_eq_true rfl), (Nat.le_of_ble_eq_true rfl)⟩ ⟨(Nat.le_of_ble_eq_true rfl), (Nat.le_of_ble_eq_true rfl)⟩ (fun x22 C23 r24 w25 h => ?_)
    obtain ⟨b26, h⟩ := h
    exact jg_ireturn (pc := 31) X hAe hlocks hr d_12_noKey_31 ⟨(Nat.le_of_ble_eq_true rfl), (Nat.le_of_ble_eq_true rfl)⟩ (jnar_b b26) r24 w25 h
set_option maxHeartbeats 4000000 in
set_option maxRecDepth 100000 in
theorem m_12_place {l : Launch} {Z : jE} {n : Nat} {C : jC} {v1 : Int} {v2 : Int} {post : Int → jC → Prop} (rv1 : jRng v1) (rv2 : jRng v2) (hw0 : jWF n C) (h : wp_12_place v1 v2 C post) : jCi l y_12_place prog_14_method_99_code 3 (.int) q_12_place Z n C [jr Z 345, jI v1, jI v2] post := by
  have hn := hw0.2.2.1
  unfold wp_12_place at h
  refine jCi_of (lv0 := [(0, jr Z 345), (1, jI v1), (2, jI v2)]) (by decide) (Nat.le_of_ble_eq_true rfl) rfl ?_
  intro p e s m args below meth c A sz X hAe hr hlocks
  refine jg_aload_n (pc := 0) X d_12_place_0 0 rfl ?_
  refine jg_iload_n (pc := 1) X d_12_place_1 1 rfl ?_
  refine jg_iload_n (pc := 2) X d_12_place_2 2 rfl ?_
  refine jg_callVi (pc := 3) X (m_12_noKey rv1 rv2 hw0 h) jM_12_noKey kw_1924 (jl_345_12 hn) rfl rfl rfl rfl rfl (Nat.le_of_ble_eq_true rfl) d_12_place_3 ⟨(Nat.le_of_ble_eq_true rfl), (Nat.le_of_ble_eq_true rfl)⟩ ⟨(Nat.le_of_ble_eq_true rfl), (Nat.le_of_ble_eq_true rfl)⟩ (fun x1 C2 r3 w4 h => ?_)
  refine jg_if_eq (tgt := 13) (pc := 6) X d_12_place_6 (by decide) r3 h (fun c5 h => ?_) (fun c5 h => ?_)
  · refine jg_aload_n (pc := 13) X d_12_place_13 0 rfl ?_
    refine jg_iload_n (pc := 14) X d_12_place_14 1 rfl ?_
    refine jg_pcallSi (pc := 15) X (m_12_listOf rv1 w4 h) jM_12_listOf kw_1686 rfl rfl (Nat.le_of_ble_eq_true rfl) d_12_place_15 ⟨(Nat.le_of_ble_eq_true rfl), (Nat.le_of_ble_eq_true rfl)⟩ ⟨(Nat.le_of_ble_eq_true rfl), (Nat.le_of_ble_eq_true rfl)⟩ (fun x6 r8 h => ?_)
    refine jg_iload_n (pc := 18) X d_12_place_18 2 rfl ?_
    refine jg_pcallVi (pc := 19) X (m_12_placeIn r8 rv2 w4 h) jM_12_placeIn kw_1778 (jl_345_12 hn) rfl rfl rfl rfl rfl (Nat.le_of_ble_eq_true rfl) d_12_place_19 ⟨(Nat.le_of_ble_eq_true rfl), (Nat.le_of_ble_eq_true rfl)⟩ ⟨(Nat.le_of_ble_eq_true rfl), (Nat.le_of_ble_eq_true rfl)⟩ (fun x10 r12 h => ?_)
    exact jg_ireturn (pc := 22) X hAe hlocks hr d_12_place_22 ⟨(Nat.le_of_ble_eq_true rfl), (Nat.le_of_ble_eq_true rfl)⟩ rfl r12 w4 h
  · refine jg_iconst (pc := 9) X d_12_place_9 ?_
    refine jg_goto (tgt := 22) (pc := 10) X d_12_place_10 (by decide) ?_
    exact jg_ireturn (pc := 22) X hAe hlocks hr d_12_place_22 ⟨(Nat.le_of_ble_eq_true rfl), (Nat.le_of_ble_eq_true rfl)⟩ rfl (⟨by decide, by decide⟩ : jRng 0) w4 h
set_option maxHeartbeats 4000000 in
set_option maxRecDepth 100000 in
theorem m_12_about {l : Launch} {Z : jE} {n : Nat} {C : jC} {v1 : Int} {v2 : Int} {post : Int → jC → Prop} (rv1 : jRng v1) (rv2 : jRng v2) (hw0 : jWF n C) (h : wp_12_about v1 v2 C post) : jCi l y_12_about prog_14_method_100_code 5 (.int) q_12_about Z n C [jr Z 345, jI v1, jI v2] post := by
  have hn := hw0.2.2.1
  unfold wp_12_about at h
  refine jCi_of (lv0 := [(0, jr Z 345), (1, jI v1), (2, jI v2)]) (by decide) (Nat.le_of_ble_eq_true rfl) rfl ?_
  intro p e s m args below meth c A sz X hAe hr hlocks
  have jb32 : ∀ (s0 : Int) (v1 : Int) (v2 : Int) (C : jC) (rs0 : jRng s0) (rv1 : jRng v1) (rv2 : jRng v2) (hw : jWF n C), wp_12_about_32 s0 v1 v2 C post → jG p l e q_12_about s m args below meth c 5 Z A (jws Z n C) 0 0 (MQ below (jQi Z n sz post) args s q_12_about.cells q_12_about.slots (jA Z n sz)) 32 [(0, jr Z 345), (1, jI v1), (2, jI v2)] [jI s0, jr Z 345] := by
    intro s0 v1 v2 C rs0 rv1 rv2 hw h
    unfold wp_12_about_32 at h
    refine jg_iconst (pc := 32) X d_12_about_32 ?_
    refine jg_callVi (pc := 33) X (m_12_throwsIf rs0 (⟨by decide, by decide⟩ : jRng 2) hw h) jM_12_throwsIf kw_1697 (jl_345_12 hn) rfl rfl rfl rfl rfl (Nat.le_of_ble_eq_true rfl) d_12_about_33 ⟨(Nat.le_of_ble_eq_true rfl), (Nat.le_of_ble_eq_true rfl)⟩ ⟨(Nat.le_of_ble_eq_true rfl), (Nat.le_of_ble_eq_true rfl)⟩ (fun x1 C2 r3 w4 h => ?_)
    refine jg_if_eq (tgt := 41) (pc := 36) X d_12_about_36 (by decide) r3 h (fun c5 h => ?_) (fun c5 h => ?_)
    · refine jg_iload_n (pc := 41) X d_12_about_41 2 rfl ?_
      by_cases c12 : v2 = 0
      · rw [if_pos c12] at h
        refine jg_tswIn (tgt := 72) (pc := 42) X d_12_about_42 rv2 (by omega) (by omega) (by rw [c12]; rfl) (by decide) ?_
        refine jg_aload_n (pc := 72) X d_12_about_72 0 rfl ?_
        refine jg_iload_n (pc := 73) X d_12_about_73 1 rfl ?_
        refine jg_pcallSi (pc := 74) X (m_12_listOf rv1 w4 h) jM_12_listOf kw_1686 rfl rfl (Nat.le_of_ble_eq_true rfl) d_12_about_74 ⟨(Nat.le_of_ble_eq_true rfl), (Nat.le_of_ble_eq_true rfl)⟩ ⟨(Nat.le_of_ble_eq_true rfl), (Nat.le_of_ble_eq_true rfl)⟩ (fun x38 r40 h => ?_)
        refine jg_pcallVi (pc := 77) X (m_12_size r40 w4 h) jM_12_size kw_1609 (jl_345_12 hn) rfl rfl rfl rfl rfl (Nat.le_of_ble_eq_true rfl) d_12_about_77 ⟨(Nat.le_of_ble_eq_true rfl), (Nat.le_of_ble_eq_true rfl)⟩ ⟨(Nat.le_of_ble_eq_true rfl), (Nat.le_of_ble_eq_true rfl)⟩ (fun x42 r44 h => ?_)
        exact jg_ireturn (pc := 80) X hAe hlocks hr d_12_about_80 ⟨(Nat.le_of_ble_eq_true rfl), (Nat.le_of_ble_eq_true rfl)⟩ rfl r44 w4 h
      · rw [if_neg c12] at h
        by_cases c13 : v2 = 1
        · rw [if_pos c13] at h
          refine jg_tswIn (tgt := 81) (pc := 42) X d_12_about_42 rv2 (by omega) (by omega) (by rw [c13]; rfl) (by decide) ?_
          refine jg_aload_n (pc := 81) X d_12_about_81 0 rfl ?_
          refine jgf_12_1 (pc := 82) X (jl_345_12 hn) kw_1474 d_12_about_82 ?_
          refine jg_iload_n (pc := 85) X d_12_about_85 1 rfl ?_
          refine jg_bipush (pc := 86) X d_12_about_86 rfl ?_
          refine jg_pcallSi (pc := 88) X (m_12_viewAt rv1 (⟨by decide, by decide⟩ : jRng 25) w4 h) jM_12_viewAt kw_1668 rfl rfl (Nat.le_of_ble_eq_true rfl) d_12_about_88 ⟨(Nat.le_of_ble_eq_true rfl), (Nat.le_of_ble_eq_true rfl)⟩ ⟨(Nat.le_of_ble_eq_true rfl), (Nat.le_of_ble_eq_true rfl)⟩ (fun x32 r34 h => ?_)
          obtain ⟨b36, b37, h⟩ := h
          refine jg_iaload (len := 8954) (pc := 91) X d_12_about_91 (jl_346_9954 hn) (fun _ => rfl) (by decide) b36 b37 ?_
          exact jg_ireturn (pc := 92) X hAe hlocks hr d_12_about_92 ⟨(Nat.le_of_ble_eq_true rfl), (Nat.le_of_ble_eq_true rfl)⟩ rfl (w4.1 _ _) w4 h
        · rw [if_neg c13] at h
          by_cases c14 : v2 = 2
          · rw [if_pos c14] at h
            refine jg_tswIn (tgt := 93) (pc := 42) X d_12_about_42 rv2 (by omega) (by omega) (by rw [c14]; rfl) (by decide) ?_
            refine jg_aload_n (pc := 93) X d_12_about_93 0 rfl ?_
            refine jgf_12_1 (pc := 94) X (jl_345_12 hn) kw_1474 d_12_about_94 ?_
            refine jg_iload_n (pc := 97) X d_12_about_97 1 rfl ?_
            refine jg_bipush (pc := 98) X d_12_about_98 rfl ?_
            refine jg_pcallSi (pc := 100) X (m_12_viewAt rv1 (⟨by decide, by decide⟩ : jRng 29) w4 h) jM_12_viewAt kw_1668 rfl rfl (Nat.le_of_ble_eq_true rfl) d_12_about_100 ⟨(Nat.le_of_ble_eq_true rfl), (Nat.le_of_ble_eq_true rfl)⟩ ⟨(Nat.le_of_ble_eq_true rfl), (Nat.le_of_ble_eq_true rfl)⟩ (fun x26 r28 h => ?_)
            obtain ⟨b30, b31, h⟩ := h
            refine jg_iaload (len := 8954) (pc := 103) X d_12_about_103 (jl_346_9954 hn) (fun _ => rfl) (by decide) b30 b31 ?_
            exact jg_ireturn (pc := 104) X hAe hlocks hr d_12_about_104 ⟨(Nat.le_of_ble_eq_true rfl), (Nat.le_of_ble_eq_true rfl)⟩ rfl (w4.1 _ _) w4 h
          · rw [if_neg c14] at h
            by_cases c15 : v2 = 3
            · rw [if_pos c15] at h
              refine jg_tswIn (tgt := 105) (pc := 42) X d_12_about_42 rv2 (by omega) (by omega) (by rw [c15]; rfl) (by decide) ?_
              refine jg_iconst (pc := 105) X d_12_about_105 ?_
              refine jg_istore_n (pc := 106) X [(3, jI 0), (0, jr Z 345), (1, jI v1), (2, jI v2)] d_12_about_106 (by decide) rfl ?_
              refine jg_iconst (pc := 107) X d_12_about_107 ?_
              refine jg_istore (pc := 108) X [(4, jI 0), (3, jI 0), (0, jr Z 345), (1, jI v1), (2, jI v2)] d_12_about_108 (by decide) rfl ?_
              have jl110 : ∀ (C : jC) (hw : jWF n C) (N : Nat) (v3 : Int) (v4 : Int) (rv3 : jRng v3) (rv4 : jRng v4), jI2 (wp_12_about_110 v1 C post) N v3 v4 → jG p l e q_12_about s m args below meth c 5 Z A (jws Z n C) 0 0 (MQ below (jQi Z n sz post) args s q_12_about.cells q_12_about.slots (jA Z n sz)) 110 [(0, jr Z 345), (1, jI v1), (3, jI v3), (4, jI v4)] [] := by
                intro C hw N
                have hn := hw0.2.2.1
                induction N with
                | zero => intro v3 v4 rv3 rv4 h; exact h.elim
                | succ N ih110 =>
                  intro v3 v4 rv3 rv4 h
                  have h : wp_12_about_110 v1 C post (jI2 (wp_12_about_110 v1 C post) N) v3 v4 := h
                  generalize jI2 (wp_12_about_110 v1 C post) N = k110 at h ih110
                  unfold wp_12_about_110 at h
                  refine jg_iload (pc := 110) X d_12_about_110 3 rfl ?_
                  refine jg_iconst (pc := 112) X d_12_about_112 ?_
                  refine jg_icmp_ge (tgt := 147) (pc := 113) X d_12_about_113 (by decide) rv4 (⟨by decide, by decide⟩ : jRng 5) h (fun c16 h => ?_) (fun c16 h => ?_)
                  · refine jg_iload_n (pc := 147) X d_12_about_147 2 rfl ?_
                    exact jg_ireturn (pc := 148) X hAe hlocks hr d_12_about_148 ⟨(Nat.le_of_ble_eq_true rfl), (Nat.le_of_ble_eq_true rfl)⟩ rfl rv3 hw h
                  · refine jg_iload_n (pc := 116) X d_12_about_116 2 rfl ?_
                    refine jg_aload_n (pc := 117) X d_12_about_117 0 rfl ?_
                    refine jgf_12_1 (pc := 118) X (jl_345_12 hn) kw_1474 d_12_about_118 ?_
                    refine jg_iload_n (pc := 121) X d_12_about_121 1 rfl ?_
                    refine jg_iload (pc := 122) X d_12_about_122 3 rfl ?_
                    refine jg_pcallSi (pc := 124) X (m_12_filterAt rv1 rv4 hw h) jM_12_filterAt kw_1665 rfl rfl (Nat.le_of_ble_eq_true rfl) d_12_about_124 ⟨(Nat.le_of_ble_eq_true rfl), (Nat.le_of_ble_eq_true rfl)⟩ ⟨(Nat.le_of_ble_eq_true rfl), (Nat.le_of_ble_eq_true rfl)⟩ (fun x17 r19 h => ?_)
                    obtain ⟨b21, b22, h⟩ := h
                    refine jg_iaload (len := 8954) (pc := 127) X d_12_about_127 (jl_346_9954 hn) (fun _ => rfl) (by decide) b21 b22 ?_
                    refine jg_if_le (tgt := 138) (pc := 128) X d_12_about_128 (by decide) (hw.1 _ _) h (fun c23 h => ?_) (fun c23 h => ?_)
                    · have c23 : (C 346 x17) ≤ 0 := c23
                      refine jg_iconst (pc := 138) X d_12_about_138 ?_
                      refine jg_ior (pc := 139) X d_12_about_139 ?_
                      refine jg_istore_n (pc := 140) X [(3, jI (jOr v3 0)), (0, jr Z 345), (1, jI v1), (4, jI v4)] d_12_about_140 (by decide) rfl ?_
                      refine jg_iinc (pc := 141) X [(4, jI (v4 + 1)), (3, jI (jOr v3 0)), (0, jr Z 345), (1, jI v1)] d_12_about_141 3 rfl (by decide) rfl ?_
                      refine jg_goto (tgt := 110) (pc := 144) X d_12_about_144 (by decide) ?_
                      have r24 : jRng (v4 + 1) := by (unfold jRng; exact ⟨by (have z0 : jRng v4 := rv4; unfold jRng at z0; omega), by (have z0 : jRng v4 := rv4; unfold jRng at z0; omega)⟩)
                      refine jg_sub [2, 3, 1, 0] rfl ?_
                      exact ih110 _ _ (jOr_rng _ _) r24 h
                    · have c23 : ¬ ((C 346 x17) ≤ 0) := c23
                      refine jg_iconst (pc := 131) X d_12_about_131 ?_
                      refine jg_iload (pc := 132) X d_12_about_132 3 rfl ?_
                      refine jg_ishl (pc := 134) X d_12_about_134 ?_
                      refine jg_goto (tgt := 139) (pc := 135) X d_12_about_135 (by decide) ?_
                      refine jg_ior (pc := 139) X d_12_about_139 ?_
                      refine jg_istore_n (pc := 140) X [(3, jI (jOr v3 (jShl 1 v4))), (0, jr Z 345), (1, jI v1), (4, jI v4)] d_12_about_140 (by decide) rfl ?_
                      refine jg_iinc (pc := 141) X [(4, jI (v4 + 1)), (3, jI (jOr v3 (jShl 1 v4))), (0, jr Z 345), (1, jI v1)] d_12_about_141 3 rfl (by decide) rfl ?_
                      refine jg_goto (tgt := 110) (pc := 144) X d_12_about_144 (by decide) ?_
                      have r25 : jRng (v4 + 1) := by (unfold jRng; exact ⟨by (have z0 : jRng v4 := rv4; unfold jRng at z0; omega), by (have z0 : jRng v4 := rv4; unfold jRng at z0; omega)⟩)
                      refine jg_sub [2, 3, 1, 0] rfl ?_
                      exact ih110 _ _ (jOr_rng _ _) r25 h
              obtain ⟨N, h⟩ := h
              refine jg_sub [2, 3, 1, 0] rfl ?_
              exact jl110 _ w4 N _ _ (⟨by decide, by decide⟩ : jRng 0) (⟨by decide, by decide⟩ : jRng 0) h
            · rw [if_neg c15] at h
              refine jg_tswOut (tgt := 149) (pc := 42) X d_12_about_42 rv2 (by omega) (by decide) ?_
              refine jg_aload_n (pc := 149) X d_12_about_149 0 rfl ?_
              refine jgf_12_1 (pc := 150) X (jl_345_12 hn) kw_1474 d_12_about_150 ?_
              refine jg_iload_n (pc := 153) X d_12_about_153 1 rfl ?_
              refine jg_sipush (pc := 154) X d_12_about_154 rfl ?_
              refine jg_pcallSi (pc := 157) X (m_12_viewAt rv1 (⟨by decide, by decide⟩ : jRng 185) w4 h) jM_12_viewAt kw_1668 rfl rfl (Nat.le_of_ble_eq_true rfl) d_12_about_157 ⟨(Nat.le_of_ble_eq_true rfl), (Nat.le_of_ble_eq_true rfl)⟩ ⟨(Nat.le_of_ble_eq_true rfl), (Nat.le_of_ble_eq_true rfl)⟩ (fun x6 r8 h => ?_)
              obtain ⟨b10, b11, h⟩ := h
              refine jg_iaload (len := 8954) (pc := 160) X d_12_about_160 (jl_346_9954 hn) (fun _ => rfl) (by decide) b10 b11 ?_
              exact jg_ireturn (pc := 161) X hAe hlocks hr d_12_about_161 ⟨(Nat.le_of_ble_eq_true rfl), (Nat.le_of_ble_eq_true rfl)⟩ rfl (w4.1 _ _) w4 h
    · refine jg_iconst (pc := 39) X d_12_about_39 ?_
      exact jg_ireturn (pc := 40) X hAe hlocks hr d_12_about_40 ⟨(Nat.le_of_ble_eq_true rfl), (Nat.le_of_ble_eq_true rfl)⟩ rfl (⟨by decide, by decide⟩ : jRng 0) w4 h
  refine jg_aload_n (pc := 0) X d_12_about_0 0 rfl ?_
  refine jg_iconst (pc := 1) X d_12_about_1 ?_
  refine jgp_12_0 (pc := 2) X (jl_345_12 hn) kw_1473 d_12_about_2 ?_
  have w46 := jWF.u (k := 0) (v := 0) hw0 (jl_345_12 hn) (by decide) (⟨by decide, by decide⟩ : jRng 0)
  refine jg_aload_n (pc := 5) X d_12_about_5 0 rfl ?_
  refine jg_iload_n (pc := 6) X d_12_about_6 1 rfl ?_
  refine jg_pcallSi (pc := 7) X (m_12_noView rv1 w46 h) jM_12_noView kw_1705 rfl rfl (Nat.le_of_ble_eq_true rfl) d_12_about_7 ⟨(Nat.le_of_ble_eq_true rfl), (Nat.le_of_ble_eq_true rfl)⟩ ⟨(Nat.le_of_ble_eq_true rfl), (Nat.le_of_ble_eq_true rfl)⟩ (fun x47 r49 h => ?_)
  refine jg_iconst (pc := 10) X d_12_about_10 ?_
  refine jg_callVi (pc := 11) X (m_12_throwsIf r49 (⟨by decide, by decide⟩ : jRng 1) w46 h) jM_12_throwsIf kw_1697 (jl_345_12 hn) rfl rfl rfl rfl rfl (Nat.le_of_ble_eq_true rfl) d_12_about_11 ⟨(Nat.le_of_ble_eq_true rfl), (Nat.le_of_ble_eq_true rfl)⟩ ⟨(Nat.le_of_ble_eq_true rfl), (Nat.le_of_ble_eq_true rfl)⟩ (fun x51 C52 r53 w54 h => ?_)
  refine jg_if_ne (tgt := 39) (pc := 14) X d_12_about_14 (by decide) r53 h (fun c55 h => ?_) (fun c55 h => ?_)
  · refine jg_aload_n (pc := 17) X d_12_about_17 0 rfl ?_
    refine jg_iload_n (pc := 18) X d_12_about_18 2 rfl ?_
    refine jg_iconst (pc := 19) X d_12_about_19 ?_
    refine jg_iconst (pc := 20) X d_12_about_20 ?_
    refine jg_pcallSi (pc := 21) X (m_12_in rv2 (⟨by decide, by decide⟩ : jRng 0) (⟨by decide, by decide⟩ : jRng 4) w54 h) jM_12_in kw_1638 rfl rfl (Nat.le_of_ble_eq_true rfl) d_12_about_21 ⟨(Nat.le_of_ble_eq_true rfl), (Nat.le_of_ble_eq_true rfl)⟩ ⟨(Nat.le_of_ble_eq_true rfl), (Nat.le_of_ble_eq_true rfl)⟩ (fun x56 r58 h => ?_)
    refine jg_if_ne (tgt := 31) (pc := 24) X d_12_about_24 (by decide) r58 h (fun c60 h => ?_) (fun c60 h => ?_)
    · refine jg_iconst (pc := 27) X d_12_about_27 ?_
      refine jg_goto (tgt := 32) (pc := 28) X d_12_about_28 (by decide) ?_
      refine jg_sub [0, 1, 2] rfl ?_
      exact jb32 _ _ _ _ (⟨by decide, by decide⟩ : jRng 1) rv1 rv2 w54 h
    · refine jg_iconst (pc := 31) X d_12_about_31 ?_
      refine jg_sub [0, 1, 2] rfl ?_
      exact jb32 _ _ _ _ (⟨by decide, by decide⟩ : jRng 0) rv1 rv2 w54 h
  · refine jg_iconst (pc := 39) X d_12_about_39 ?_
    exact jg_ireturn (pc := 40) X hAe hlocks hr d_12_about_40 ⟨(Nat.le_of_ble_eq_true rfl), (Nat.le_of_ble_eq_true rfl)⟩ rfl (⟨by decide, by decide⟩ : jRng 0) w54 h
set_option maxHeartbeats 4000000 in
set_option maxRecDepth 100000 in
theorem m_12_sorts {l : Launch} {Z : jE} {n : Nat} {C : jC} {v1 : Int} {v2 : Int} {post : Int → jC → Prop} (rv1 : jRng v1) (rv2 : jRng v2) (hw0 : jWF n C) (h : wp_12_sorts v1 v2 C post) : jCi l y_12_sorts prog_14_method_101_code 3 (.int) q_12_sorts Z n C [jr Z 345, jI v1, jI v2] post := by
  have hn := hw0.2.2.1
  unfold wp_12_sorts at h
  refine jCi_of (lv0 := [(0, jr Z 345), (1, jI v1), (2, jI v2)]) (by decide) (Nat.le_of_ble_eq_true rfl) rfl ?_
  intro p e s m args below meth c A sz X hAe hr hlocks
  refine jg_aload_n (pc := 0) X d_12_sorts_0 0 rfl ?_
  refine jg_iconst (pc := 1) X d_12_sorts_1 ?_
  refine jgp_12_0 (pc := 2) X (jl_345_12 hn) kw_1473 d_12_sorts_2 ?_
  have w1 := jWF.u (k := 0) (v := 0) hw0 (jl_345_12 hn) (by decide) (⟨by decide, by decide⟩ : jRng 0)
  refine jg_aload_n (pc := 5) X d_12_sorts_5 0 rfl ?_
  refine jg_iload_n (pc := 6) X d_12_sorts_6 1 rfl ?_
  refine jg_pcallSi (pc := 7) X (m_12_noView rv1 w1 h) jM_12_noView kw_1705 rfl rfl (Nat.le_of_ble_eq_true rfl) d_12_sorts_7 ⟨(Nat.le_of_ble_eq_true rfl), (Nat.le_of_ble_eq_true rfl)⟩ ⟨(Nat.le_of_ble_eq_true rfl), (Nat.le_of_ble_eq_true rfl)⟩ (fun x2 r4 h => ?_)
  refine jg_iconst (pc := 10) X d_12_sorts_10 ?_
  refine jg_callVi (pc := 11) X (m_12_throwsIf r4 (⟨by decide, by decide⟩ : jRng 1) w1 h) jM_12_throwsIf kw_1697 (jl_345_12 hn) rfl rfl rfl rfl rfl (Nat.le_of_ble_eq_true rfl) d_12_sorts_11 ⟨(Nat.le_of_ble_eq_true rfl), (Nat.le_of_ble_eq_true rfl)⟩ ⟨(Nat.le_of_ble_eq_true rfl), (Nat.le_of_ble_eq_true rfl)⟩ (fun x6 C7 r8 w9 h => ?_)
  refine jg_if_eq (tgt := 19) (pc := 14) X d_12_sorts_14 (by decide) r8 h (fun c10 h => ?_) (fun c10 h => ?_)
  · refine jg_iload_n (pc := 19) X d_12_sorts_19 2 rfl ?_
    refine jg_iconst (pc := 20) X d_12_sorts_20 ?_
    refine jg_aload_n (pc := 21) X d_12_sorts_21 0 rfl ?_
    refine jgf_12_1 (pc := 22) X (jl_345_12 hn) kw_1474 d_12_sorts_22 ?_
    refine jg_iload_n (pc := 25) X d_12_sorts_25 1 rfl ?_
    refine jg_bipush (pc := 26) X d_12_sorts_26 rfl ?_
    refine jg_pcallSi (pc := 28) X (m_12_viewAt rv1 (⟨by decide, by decide⟩ : jRng 25) w9 h) jM_12_viewAt kw_1668 rfl rfl (Nat.le_of_ble_eq_true rfl) d_12_sorts_28 ⟨(Nat.le_of_ble_eq_true rfl), (Nat.le_of_ble_eq_true rfl)⟩ ⟨(Nat.le_of_ble_eq_true rfl), (Nat.le_of_ble_eq_true rfl)⟩ (fun x11 r13 h => ?_)
    obtain ⟨b15, b16, h⟩ := h
    refine jg_iaload (len := 8954) (pc := 31) X d_12_sorts_31 (jl_346_9954 hn) (fun _ => rfl) (by decide) b15 b16 ?_
    refine jg_iconst (pc := 32) X d_12_sorts_32 ?_
    refine jg_isub (pc := 33) X d_12_sorts_33 ?_
    obtain ⟨r17, h⟩ := h
    refine jg_pcallSi (pc := 34) X (m_12_in rv2 (⟨by decide, by decide⟩ : jRng 0) r17 w9 h) jM_12_in kw_1638 rfl rfl (Nat.le_of_ble_eq_true rfl) d_12_sorts_34 ⟨(Nat.le_of_ble_eq_true rfl), (Nat.le_of_ble_eq_true rfl)⟩ ⟨(Nat.le_of_ble_eq_true rfl), (Nat.le_of_ble_eq_true rfl)⟩ (fun x18 r20 h => ?_)
    refine jg_if_eq (tgt := 56) (pc := 37) X d_12_sorts_37 (by decide) r20 h (fun c22 h => ?_) (fun c22 h => ?_)
    · refine jg_iconst (pc := 56) X d_12_sorts_56 ?_
      exact jg_ireturn (pc := 57) X hAe hlocks hr d_12_sorts_57 ⟨(Nat.le_of_ble_eq_true rfl), (Nat.le_of_ble_eq_true rfl)⟩ rfl (⟨by decide, by decide⟩ : jRng (-1)) w9 h
    · refine jg_aload_n (pc := 40) X d_12_sorts_40 0 rfl ?_
      refine jgf_12_1 (pc := 41) X (jl_345_12 hn) kw_1474 d_12_sorts_41 ?_
      refine jg_iload_n (pc := 44) X d_12_sorts_44 1 rfl ?_
      refine jg_bipush (pc := 45) X d_12_sorts_45 rfl ?_
      refine jg_iload_n (pc := 47) X d_12_sorts_47 2 rfl ?_
      refine jg_iadd (pc := 48) X d_12_sorts_48 ?_
      obtain ⟨r23, h⟩ := h
      refine jg_pcallSi (pc := 49) X (m_12_viewAt rv1 r23 w9 h) jM_12_viewAt kw_1668 rfl rfl (Nat.le_of_ble_eq_true rfl) d_12_sorts_49 ⟨(Nat.le_of_ble_eq_true rfl), (Nat.le_of_ble_eq_true rfl)⟩ ⟨(Nat.le_of_ble_eq_true rfl), (Nat.le_of_ble_eq_true rfl)⟩ (fun x24 r26 h => ?_)
      obtain ⟨b28, b29, h⟩ := h
      refine jg_iaload (len := 8954) (pc := 52) X d_12_sorts_52 (jl_346_9954 hn) (fun _ => rfl) (by decide) b28 b29 ?_
      refine jg_goto (tgt := 57) (pc := 53) X d_12_sorts_53 (by decide) ?_
      exact jg_ireturn (pc := 57) X hAe hlocks hr d_12_sorts_57 ⟨(Nat.le_of_ble_eq_true rfl), (Nat.le_of_ble_eq_true rfl)⟩ rfl (w9.1 _ _) w9 h
  · refine jg_iconst (pc := 17) X d_12_sorts_17 ?_
    exact jg_ireturn (pc := 18) X hAe hlocks hr d_12_sorts_18 ⟨(Nat.le_of_ble_eq_true rfl), (Nat.le_of_ble_eq_true rfl)⟩ rfl (⟨by decide, by decide⟩ : jRng 0) w9 h
set_option maxHeartbeats 4000000 in
set_option maxRecDepth 100000 in
theorem m_12_fits {l : Launch} {Z : jE} {n : Nat} {C : jC} {v1 : Int} {v2 : Int} {post : Int → jC → Prop} (rv1 : jRng v1) (rv2 : jRng v2) (hw0 : jWF n C) (h : wp_12_fits v1 v2 C post) : jCi l y_12_fits prog_14_method_102_code 3 (.boolean) q_12_fits Z n C [jr Z 345, jI v1, jI v2] post := by
  have hn := hw0.2.2.1
  unfold wp_12_fits at h
  refine jCi_of (lv0 := [(0, jr Z 345), (1, jI v1), (2, jI v2)]) (by decide) (Nat.le_of_ble_eq_true rfl) rfl ?_
  intro p e s m args below meth c A sz X hAe hr hlocks
  refine jg_aload_n (pc := 0) X d_12_fits_0 0 rfl ?_
  refine jg_iload_n (pc := 1) X d_12_fits_1 1 rfl ?_
  refine jg_iload_n (pc := 2) X d_12_fits_2 2 rfl ?_
  refine jg_callVi (pc := 3) X (m_12_noKey rv1 rv2 hw0 h) jM_12_noKey kw_1924 (jl_345_12 hn) rfl rfl rfl rfl rfl (Nat.le_of_ble_eq_true rfl) d_12_fits_3 ⟨(Nat.le_of_ble_eq_true rfl), (Nat.le_of_ble_eq_true rfl)⟩ ⟨(Nat.le_of_ble_eq_true rfl), (Nat.le_of_ble_eq_true rfl)⟩ (fun x1 C2 r3 w4 h => ?_)
  refine jg_if_ne (tgt := 22) (pc := 6) X d_12_fits_6 (by decide) r3 h (fun c5 h => ?_) (fun c5 h => ?_)
  · refine jg_aload_n (pc := 9) X d_12_fits_9 0 rfl ?_
    refine jg_iload_n (pc := 10) X d_12_fits_10 1 rfl ?_
    refine jg_iload_n (pc := 11) X d_12_fits_11 2 rfl ?_
    refine jg_pcallVi (pc := 12) X (m_12_isFit rv1 rv2 w4 h) jM_12_isFit kw_1653 (jl_345_12 hn) rfl rfl rfl rfl rfl (Nat.le_of_ble_eq_true rfl) d_12_fits_12 ⟨(Nat.le_of_ble_eq_true rfl), (Nat.le_of_ble_eq_true rfl)⟩ ⟨(Nat.le_of_ble_eq_true rfl), (Nat.le_of_ble_eq_true rfl)⟩ (fun x6 r8 h => ?_)
    refine jg_if_eq (tgt := 22) (pc := 15) X d_12_fits_15 (by decide) r8 h (fun c10 h => ?_) (fun c10 h => ?_)
    · refine jg_iconst (pc := 22) X d_12_fits_22 ?_
      exact jg_ireturn (pc := 23) X hAe hlocks hr d_12_fits_23 ⟨(Nat.le_of_ble_eq_true rfl), (Nat.le_of_ble_eq_true rfl)⟩ rfl (⟨by decide, by decide⟩ : jRng 0) w4 h
    · refine jg_iconst (pc := 18) X d_12_fits_18 ?_
      refine jg_goto (tgt := 23) (pc := 19) X d_12_fits_19 (by decide) ?_
      exact jg_ireturn (pc := 23) X hAe hlocks hr d_12_fits_23 ⟨(Nat.le_of_ble_eq_true rfl), (Nat.le_of_ble_eq_true rfl)⟩ rfl (⟨by decide, by decide⟩ : jRng 1) w4 h
  · refine jg_iconst (pc := 22) X d_12_fits_22 ?_
    exact jg_ireturn (pc := 23) X hAe hlocks hr d_12_fits_23 ⟨(Nat.le_of_ble_eq_true rfl), (Nat.le_of_ble_eq_true rfl)⟩ rfl (⟨by decide, by decide⟩ : jRng 0) w4 h
set_option maxHeartbeats 4000000 in
set_option maxRecDepth 100000 in
theorem m_12_why {l : Launch} {Z : jE} {n : Nat} {C : jC} {v1 : Int} {v2 : Int} {post : Int → jC → Prop} (rv1 : jRng v1) (rv2 : jRng v2) (hw0 : jWF n C) (h : wp_12_why v1 v2 C post) : jCi l y_12_why prog_14_method_103_code 3 (.int) q_12_why Z n C [jr Z 345, jI v1, jI v2] post := by
  have hn := hw0.2.2.1
  unfold wp_12_why at h
  refine jCi_of (lv0 := [(0, jr Z 345), (1, jI v1), (2, jI v2)]) (by decide) (Nat.le_of_ble_eq_true rfl) rfl ?_
  intro p e s m args below meth c A sz X hAe hr hlocks
  refine jg_aload_n (pc := 0) X d_12_why_0 0 rfl ?_
  refine jg_iload_n (pc := 1) X d_12_why_1 1 rfl ?_
  refine jg_iload_n (pc := 2) X d_12_why_2 2 rfl ?_
  refine jg_callVi (pc := 3) X (m_12_noKey rv1 rv2 hw0 h) jM_12_noKey kw_1924 (jl_345_12 hn) rfl rfl rfl rfl rfl (Nat.le_of_ble_eq_true rfl) d_12_why_3 ⟨(Nat.le_of_ble_eq_true rfl), (Nat.le_of_ble_eq_true rfl)⟩ ⟨(Nat.le_of_ble_eq_true rfl), (Nat.le_of_ble_eq_true rfl)⟩ (fun x1 C2 r3 w4 h => ?_)
  refine jg_if_eq (tgt := 13) (pc := 6) X d_12_why_6 (by decide) r3 h (fun c5 h => ?_) (fun c5 h => ?_)
  · refine jg_aload_n (pc := 13) X d_12_why_13 0 rfl ?_
    refine jg_iload_n (pc := 14) X d_12_why_14 1 rfl ?_
    refine jg_iload_n (pc := 15) X d_12_why_15 2 rfl ?_
    refine jg_pcallVi (pc := 16) X (m_12_whyNot rv1 rv2 w4 h) jM_12_whyNot kw_1657 (jl_345_12 hn) rfl rfl rfl rfl rfl (Nat.le_of_ble_eq_true rfl) d_12_why_16 ⟨(Nat.le_of_ble_eq_true rfl), (Nat.le_of_ble_eq_true rfl)⟩ ⟨(Nat.le_of_ble_eq_true rfl), (Nat.le_of_ble_eq_true rfl)⟩ (fun x6 r8 h => ?_)
    exact jg_ireturn (pc := 19) X hAe hlocks hr d_12_why_19 ⟨(Nat.le_of_ble_eq_true rfl), (Nat.le_of_ble_eq_true rfl)⟩ rfl r8 w4 h
  · refine jg_iconst (pc := 9) X d_12_why_9 ?_
    refine jg_goto (tgt := 19) (pc := 10) X d_12_why_10 (by decide) ?_
    exact jg_ireturn (pc := 19) X hAe hlocks hr d_12_why_19 ⟨(Nat.le_of_ble_eq_true rfl), (Nat.le_of_ble_eq_true rfl)⟩ rfl (⟨by decide, by decide⟩ : jRng 0) w4 h
set_option maxHeartbeats 4000000 in
set_option maxRecDepth 100000 in
theorem m_12_stale {l : Launch} {Z : jE} {n : Nat} {C : jC} {v1 : Int} {post : Int → jC → Prop} (rv1 : jRng v1) (hw0 : jWF n C) (h : wp_12_stale v1 C post) : jCi l y_12_stale prog_14_method_104_code 4 (.int) q_12_stale Z n C [jr Z 345, jI v1] post := by
  have hn := hw0.2.2.1
  unfold wp_12_stale at h
  refine jCi_of (lv0 := [(0, jr Z 345), (1, jI v1)]) (by decide) (Nat.le_of_ble_eq_true rfl) rfl ?_
  intro p e s m args below meth c A sz X hAe hr hlocks
  refine jg_aload_n (pc := 0) X d_12_stale_0 0 rfl ?_
  refine jg_iconst (pc := 1) X d_12_stale_1 ?_
  refine jgp_12_0 (pc := 2) X (jl_345_12 hn) kw_1473 d_12_stale_2 ?_
  have w1 := jWF.u (k := 0) (v := 0) hw0 (jl_345_12 hn) (by decide) (⟨by decide, by decide⟩ : jRng 0)
  refine jg_aload_n (pc := 5) X d_12_stale_5 0 rfl ?_
  refine jg_iload_n (pc := 6) X d_12_stale_6 1 rfl ?_
  refine jg_pcallSi (pc := 7) X (m_12_noView rv1 w1 h) jM_12_noView kw_1705 rfl rfl (Nat.le_of_ble_eq_true rfl) d_12_stale_7 ⟨(Nat.le_of_ble_eq_true rfl), (Nat.le_of_ble_eq_true rfl)⟩ ⟨(Nat.le_of_ble_eq_true rfl), (Nat.le_of_ble_eq_true rfl)⟩ (fun x2 r4 h => ?_)
  refine jg_iconst (pc := 10) X d_12_stale_10 ?_
  refine jg_callVi (pc := 11) X (m_12_throwsIf r4 (⟨by decide, by decide⟩ : jRng 1) w1 h) jM_12_throwsIf kw_1697 (jl_345_12 hn) rfl rfl rfl rfl rfl (Nat.le_of_ble_eq_true rfl) d_12_stale_11 ⟨(Nat.le_of_ble_eq_true rfl), (Nat.le_of_ble_eq_true rfl)⟩ ⟨(Nat.le_of_ble_eq_true rfl), (Nat.le_of_ble_eq_true rfl)⟩ (fun x6 C7 r8 w9 h => ?_)
  refine jg_if_eq (tgt := 19) (pc := 14) X d_12_stale_14 (by decide) r8 h (fun c10 h => ?_) (fun c10 h => ?_)
  · refine jg_iconst (pc := 19) X d_12_stale_19 ?_
    refine jg_istore_n (pc := 20) X [(2, jI 0), (0, jr Z 345), (1, jI v1)] d_12_stale_20 (by decide) rfl ?_
    refine jg_iconst (pc := 21) X d_12_stale_21 ?_
    refine jg_istore_n (pc := 22) X [(3, jI 0), (2, jI 0), (0, jr Z 345), (1, jI v1)] d_12_stale_22 (by decide) rfl ?_
    have jl23 : ∀ (C : jC) (hw : jWF n C) (N : Nat) (v2 : Int) (v3 : Int) (rv2 : jRng v2) (rv3 : jRng v3), jI2 (wp_12_stale_23 v1 C post) N v2 v3 → jG p l e q_12_stale s m args below meth c 4 Z A (jws Z n C) 0 0 (MQ below (jQi Z n sz post) args s q_12_stale.cells q_12_stale.slots (jA Z n sz)) 23 [(0, jr Z 345), (1, jI v1), (2, jI v2), (3, jI v3)] [] := by
      intro C hw N
      have hn := hw0.2.2.1
      induction N with
      | zero => intro v2 v3 rv2 rv3 h; exact h.elim
      | succ N ih23 =>
        intro v2 v3 rv2 rv3 h
        have h : wp_12_stale_23 v1 C post (jI2 (wp_12_stale_23 v1 C post) N) v2 v3 := h
        generalize jI2 (wp_12_stale_23 v1 C post) N = k23 at h ih23
        unfold wp_12_stale_23 at h
        refine jg_iload_n (pc := 23) X d_12_stale_23 3 rfl ?_
        refine jg_aload_n (pc := 24) X d_12_stale_24 0 rfl ?_
        refine jg_iload_n (pc := 25) X d_12_stale_25 1 rfl ?_
        refine jg_pcallSi (pc := 26) X (m_12_listOf rv1 hw h) jM_12_listOf kw_1686 rfl rfl (Nat.le_of_ble_eq_true rfl) d_12_stale_26 ⟨(Nat.le_of_ble_eq_true rfl), (Nat.le_of_ble_eq_true rfl)⟩ ⟨(Nat.le_of_ble_eq_true rfl), (Nat.le_of_ble_eq_true rfl)⟩ (fun x11 r13 h => ?_)
        refine jg_pcallVi (pc := 29) X (m_12_size r13 hw h) jM_12_size kw_1609 (jl_345_12 hn) rfl rfl rfl rfl rfl (Nat.le_of_ble_eq_true rfl) d_12_stale_29 ⟨(Nat.le_of_ble_eq_true rfl), (Nat.le_of_ble_eq_true rfl)⟩ ⟨(Nat.le_of_ble_eq_true rfl), (Nat.le_of_ble_eq_true rfl)⟩ (fun x15 r17 h => ?_)
        refine jg_icmp_ge (tgt := 68) (pc := 32) X d_12_stale_32 (by decide) rv3 r17 h (fun c19 h => ?_) (fun c19 h => ?_)
        · refine jg_iload_n (pc := 68) X d_12_stale_68 2 rfl ?_
          exact jg_ireturn (pc := 69) X hAe hlocks hr d_12_stale_69 ⟨(Nat.le_of_ble_eq_true rfl), (Nat.le_of_ble_eq_true rfl)⟩ rfl rv2 hw h
        · refine jg_iload_n (pc := 35) X d_12_stale_35 2 rfl ?_
          refine jg_aload_n (pc := 36) X d_12_stale_36 0 rfl ?_
          refine jg_iload_n (pc := 37) X d_12_stale_37 1 rfl ?_
          refine jg_aload_n (pc := 38) X d_12_stale_38 0 rfl ?_
          refine jg_iload_n (pc := 39) X d_12_stale_39 1 rfl ?_
          refine jg_pcallSi (pc := 40) X (m_12_listOf rv1 hw h) jM_12_listOf kw_1686 rfl rfl (Nat.le_of_ble_eq_true rfl) d_12_stale_40 ⟨(Nat.le_of_ble_eq_true rfl), (Nat.le_of_ble_eq_true rfl)⟩ ⟨(Nat.le_of_ble_eq_true rfl), (Nat.le_of_ble_eq_true rfl)⟩ (fun x20 r22 h => ?_)
          refine jg_iload_n (pc := 43) X d_12_stale_43 3 rfl ?_
          refine jg_pcallVi (pc := 44) X (m_12_keyAt r22 rv3 hw h) jM_12_keyAt kw_1766 (jl_345_12 hn) rfl rfl rfl rfl rfl (Nat.le_of_ble_eq_true rfl) d_12_stale_44 ⟨(Nat.le_of_ble_eq_true rfl), (Nat.le_of_ble_eq_true rfl)⟩ ⟨(Nat.le_of_ble_eq_true rfl), (Nat.le_of_ble_eq_true rfl)⟩ (fun x24 r26 h => ?_)
          refine jg_pcallVi (pc := 47) X (m_12_isFit rv1 r26 hw h) jM_12_isFit kw_1653 (jl_345_12 hn) rfl rfl rfl rfl rfl (Nat.le_of_ble_eq_true rfl) d_12_stale_47 ⟨(Nat.le_of_ble_eq_true rfl), (Nat.le_of_ble_eq_true rfl)⟩ ⟨(Nat.le_of_ble_eq_true rfl), (Nat.le_of_ble_eq_true rfl)⟩ (fun x28 r30 h => ?_)
          refine jg_if_eq (tgt := 57) (pc := 50) X d_12_stale_50 (by decide) r30 h (fun c32 h => ?_) (fun c32 h => ?_)
          · refine jg_iconst (pc := 57) X d_12_stale_57 ?_
            refine jg_iload_n (pc := 58) X d_12_stale_58 3 rfl ?_
            refine jg_ishl (pc := 59) X d_12_stale_59 ?_
            refine jg_ior (pc := 60) X d_12_stale_60 ?_
            refine jg_istore_n (pc := 61) X [(2, jI (jOr v2 (jShl 1 v3))), (0, jr Z 345), (1, jI v1), (3, jI v3)] d_12_stale_61 (by decide) rfl ?_
            refine jg_iinc (pc := 62) X [(3, jI (v3 + 1)), (2, jI (jOr v2 (jShl 1 v3))), (0, jr Z 345), (1, jI v1)] d_12_stale_62 3 rfl (by decide) rfl ?_
            refine jg_goto (tgt := 23) (pc := 65) X d_12_stale_65 (by decide) ?_
            have r33 : jRng (v3 + 1) := by (unfold jRng; exact ⟨by (have z0 : jRng v3 := rv3; have z1 : jRng x15 := r17; unfold jRng at z0 z1; omega), by (have z0 : jRng v3 := rv3; have z1 : jRng x15 := r17; unfold jRng at z0 z1; omega)⟩)
            refine jg_sub [2, 3, 1, 0] rfl ?_
            exact ih23 _ _ (jOr_rng _ _) r33 h
          · refine jg_iconst (pc := 53) X d_12_stale_53 ?_
            refine jg_goto (tgt := 60) (pc := 54) X d_12_stale_54 (by decide) ?_
            refine jg_ior (pc := 60) X d_12_stale_60 ?_
            refine jg_istore_n (pc := 61) X [(2, jI (jOr v2 0)), (0, jr Z 345), (1, jI v1), (3, jI v3)] d_12_stale_61 (by decide) rfl ?_
            refine jg_iinc (pc := 62) X [(3, jI (v3 + 1)), (2, jI (jOr v2 0)), (0, jr Z 345), (1, jI v1)] d_12_stale_62 3 rfl (by decide) rfl ?_
            refine jg_goto (tgt := 23) (pc := 65) X d_12_stale_65 (by decide) ?_
            have r34 : jRng (v3 + 1) := by (unfold jRng; exact ⟨by (have z0 : jRng v3 := rv3; have z1 : jRng x15 := r17; unfold jRng at z0 z1; omega), by (have z0 : jRng v3 := rv3; have z1 : jRng x15 := r17; unfold jRng at z0 z1; omega)⟩)
            refine jg_sub [2, 3, 1, 0] rfl ?_
            exact ih23 _ _ (jOr_rng _ _) r34 h
    obtain ⟨N, h⟩ := h
    refine jg_sub [2, 3, 1, 0] rfl ?_
    exact jl23 _ w9 N _ _ (⟨by decide, by decide⟩ : jRng 0) (⟨by decide, by decide⟩ : jRng 0) h
  · refine jg_iconst (pc := 17) X d_12_stale_17 ?_
    exact jg_ireturn (pc := 18) X hAe hlocks hr d_12_stale_18 ⟨(Nat.le_of_ble_eq_true rfl), (Nat.le_of_ble_eq_true rfl)⟩ rfl (⟨by decide, by decide⟩ : jRng 0) w9 h
set_option maxHeartbeats 4000000 in
set_option maxRecDepth 100000 in
theorem m_12_pending {l : Launch} {Z : jE} {n : Nat} {C : jC} {v1 : Int} {post : Int → jC → Prop} (rv1 : jRng v1) (hw0 : jWF n C) (h : wp_12_pending v1 C post) : jCi l y_12_pending prog_14_method_105_code 4 (.int) q_12_pending Z n C [jr Z 345, jI v1] post := by
  have hn := hw0.2.2.1
  unfold wp_12_pending at h
  refine jCi_of (lv0 := [(0, jr Z 345), (1, jI v1)]) (by decide) (Nat.le_of_ble_eq_true rfl) rfl ?_
  intro p e s m args below meth c A sz X hAe hr hlocks
  refine jg_aload_n (pc := 0) X d_12_pending_0 0 rfl ?_
  refine jg_iconst (pc := 1) X d_12_pending_1 ?_
  refine jgp_12_0 (pc := 2) X (jl_345_12 hn) kw_1473 d_12_pending_2 ?_
  have w1 := jWF.u (k := 0) (v := 0) hw0 (jl_345_12 hn) (by decide) (⟨by decide, by decide⟩ : jRng 0)
  refine jg_aload_n (pc := 5) X d_12_pending_5 0 rfl ?_
  refine jg_iload_n (pc := 6) X d_12_pending_6 1 rfl ?_
  refine jg_pcallSi (pc := 7) X (m_12_noView rv1 w1 h) jM_12_noView kw_1705 rfl rfl (Nat.le_of_ble_eq_true rfl) d_12_pending_7 ⟨(Nat.le_of_ble_eq_true rfl), (Nat.le_of_ble_eq_true rfl)⟩ ⟨(Nat.le_of_ble_eq_true rfl), (Nat.le_of_ble_eq_true rfl)⟩ (fun x2 r4 h => ?_)
  refine jg_iconst (pc := 10) X d_12_pending_10 ?_
  refine jg_callVi (pc := 11) X (m_12_throwsIf r4 (⟨by decide, by decide⟩ : jRng 1) w1 h) jM_12_throwsIf kw_1697 (jl_345_12 hn) rfl rfl rfl rfl rfl (Nat.le_of_ble_eq_true rfl) d_12_pending_11 ⟨(Nat.le_of_ble_eq_true rfl), (Nat.le_of_ble_eq_true rfl)⟩ ⟨(Nat.le_of_ble_eq_true rfl), (Nat.le_of_ble_eq_true rfl)⟩ (fun x6 C7 r8 w9 h => ?_)
  refine jg_if_eq (tgt := 19) (pc := 14) X d_12_pending_14 (by decide) r8 h (fun c10 h => ?_) (fun c10 h => ?_)
  · refine jg_iconst (pc := 19) X d_12_pending_19 ?_
    refine jg_istore_n (pc := 20) X [(2, jI 0), (0, jr Z 345), (1, jI v1)] d_12_pending_20 (by decide) rfl ?_
    refine jg_iconst (pc := 21) X d_12_pending_21 ?_
    refine jg_istore_n (pc := 22) X [(3, jI 0), (2, jI 0), (0, jr Z 345), (1, jI v1)] d_12_pending_22 (by decide) rfl ?_
    have jl23 : ∀ (C : jC) (hw : jWF n C) (N : Nat) (v2 : Int) (v3 : Int) (rv2 : jRng v2) (rv3 : jRng v3), jI2 (wp_12_pending_23 v1 C post) N v2 v3 → jG p l e q_12_pending s m args below meth c 4 Z A (jws Z n C) 0 0 (MQ below (jQi Z n sz post) args s q_12_pending.cells q_12_pending.slots (jA Z n sz)) 23 [(0, jr Z 345), (1, jI v1), (2, jI v2), (3, jI v3)] [] := by
      intro C hw N
      have hn := hw0.2.2.1
      induction N with
      | zero => intro v2 v3 rv2 rv3 h; exact h.elim
      | succ N ih23 =>
        intro v2 v3 rv2 rv3 h
        have h : wp_12_pending_23 v1 C post (jI2 (wp_12_pending_23 v1 C post) N) v2 v3 := h
        generalize jI2 (wp_12_pending_23 v1 C post) N = k23 at h ih23
        unfold wp_12_pending_23 at h
        refine jg_iload_n (pc := 23) X d_12_pending_23 3 rfl ?_
        refine jg_aload_n (pc := 24) X d_12_pending_24 0 rfl ?_
        refine jg_pcallVi (pc := 25) X (m_12_rows hw h) jM_12_rows kw_1605 (jl_345_12 hn) rfl rfl rfl rfl rfl (Nat.le_of_ble_eq_true rfl) d_12_pending_25 ⟨(Nat.le_of_ble_eq_true rfl), (Nat.le_of_ble_eq_true rfl)⟩ ⟨(Nat.le_of_ble_eq_true rfl), (Nat.le_of_ble_eq_true rfl)⟩ (fun x11 r13 h => ?_)
        refine jg_icmp_ge (tgt := 83) (pc := 28) X d_12_pending_28 (by decide) rv3 r13 h (fun c15 h => ?_) (fun c15 h => ?_)
        · refine jg_iload_n (pc := 83) X d_12_pending_83 2 rfl ?_
          exact jg_ireturn (pc := 84) X hAe hlocks hr d_12_pending_84 ⟨(Nat.le_of_ble_eq_true rfl), (Nat.le_of_ble_eq_true rfl)⟩ rfl rv2 hw h
        · refine jg_iload_n (pc := 31) X d_12_pending_31 2 rfl ?_
          refine jg_aload_n (pc := 32) X d_12_pending_32 0 rfl ?_
          refine jg_iload_n (pc := 33) X d_12_pending_33 1 rfl ?_
          refine jg_aload_n (pc := 34) X d_12_pending_34 0 rfl ?_
          refine jg_sipush (pc := 35) X d_12_pending_35 rfl ?_
          refine jg_iload_n (pc := 38) X d_12_pending_38 3 rfl ?_
          refine jg_pcallVi (pc := 39) X (m_12_keyAt (⟨by decide, by decide⟩ : jRng 273) rv3 hw h) jM_12_keyAt kw_1766 (jl_345_12 hn) rfl rfl rfl rfl rfl (Nat.le_of_ble_eq_true rfl) d_12_pending_39 ⟨(Nat.le_of_ble_eq_true rfl), (Nat.le_of_ble_eq_true rfl)⟩ ⟨(Nat.le_of_ble_eq_true rfl), (Nat.le_of_ble_eq_true rfl)⟩ (fun x16 r18 h => ?_)
          refine jg_pcallVi (pc := 42) X (m_12_isFit rv1 r18 hw h) jM_12_isFit kw_1653 (jl_345_12 hn) rfl rfl rfl rfl rfl (Nat.le_of_ble_eq_true rfl) d_12_pending_42 ⟨(Nat.le_of_ble_eq_true rfl), (Nat.le_of_ble_eq_true rfl)⟩ ⟨(Nat.le_of_ble_eq_true rfl), (Nat.le_of_ble_eq_true rfl)⟩ (fun x20 r22 h => ?_)
          refine jg_if_eq (tgt := 74) (pc := 45) X d_12_pending_45 (by decide) r22 h (fun c24 h => ?_) (fun c24 h => ?_)
          · refine jg_iconst (pc := 74) X d_12_pending_74 ?_
            refine jg_ior (pc := 75) X d_12_pending_75 ?_
            refine jg_istore_n (pc := 76) X [(2, jI (jOr v2 0)), (0, jr Z 345), (1, jI v1), (3, jI v3)] d_12_pending_76 (by decide) rfl ?_
            refine jg_iinc (pc := 77) X [(3, jI (v3 + 1)), (2, jI (jOr v2 0)), (0, jr Z 345), (1, jI v1)] d_12_pending_77 3 rfl (by decide) rfl ?_
            refine jg_goto (tgt := 23) (pc := 80) X d_12_pending_80 (by decide) ?_
            have r25 : jRng (v3 + 1) := by (unfold jRng; exact ⟨by (have z0 : jRng v3 := rv3; have z1 : jRng x11 := r13; unfold jRng at z0 z1; omega), by (have z0 : jRng v3 := rv3; have z1 : jRng x11 := r13; unfold jRng at z0 z1; omega)⟩)
            refine jg_sub [2, 3, 1, 0] rfl ?_
            exact ih23 _ _ (jOr_rng _ _) r25 h
          · refine jg_aload_n (pc := 48) X d_12_pending_48 0 rfl ?_
            refine jg_iload_n (pc := 49) X d_12_pending_49 1 rfl ?_
            refine jg_pcallSi (pc := 50) X (m_12_listOf rv1 hw h) jM_12_listOf kw_1686 rfl rfl (Nat.le_of_ble_eq_true rfl) d_12_pending_50 ⟨(Nat.le_of_ble_eq_true rfl), (Nat.le_of_ble_eq_true rfl)⟩ ⟨(Nat.le_of_ble_eq_true rfl), (Nat.le_of_ble_eq_true rfl)⟩ (fun x26 r28 h => ?_)
            refine jg_aload_n (pc := 53) X d_12_pending_53 0 rfl ?_
            refine jg_sipush (pc := 54) X d_12_pending_54 rfl ?_
            refine jg_iload_n (pc := 57) X d_12_pending_57 3 rfl ?_
            refine jg_pcallVi (pc := 58) X (m_12_keyAt (⟨by decide, by decide⟩ : jRng 273) rv3 hw h) jM_12_keyAt kw_1766 (jl_345_12 hn) rfl rfl rfl rfl rfl (Nat.le_of_ble_eq_true rfl) d_12_pending_58 ⟨(Nat.le_of_ble_eq_true rfl), (Nat.le_of_ble_eq_true rfl)⟩ ⟨(Nat.le_of_ble_eq_true rfl), (Nat.le_of_ble_eq_true rfl)⟩ (fun x30 r32 h => ?_)
            refine jg_pcallVi (pc := 61) X (m_12_placeIn r28 r32 hw h) jM_12_placeIn kw_1778 (jl_345_12 hn) rfl rfl rfl rfl rfl (Nat.le_of_ble_eq_true rfl) d_12_pending_61 ⟨(Nat.le_of_ble_eq_true rfl), (Nat.le_of_ble_eq_true rfl)⟩ ⟨(Nat.le_of_ble_eq_true rfl), (Nat.le_of_ble_eq_true rfl)⟩ (fun x34 r36 h => ?_)
            refine jg_iconst (pc := 64) X d_12_pending_64 ?_
            refine jg_icmp_ne (tgt := 74) (pc := 65) X d_12_pending_65 (by decide) r36 (⟨by decide, by decide⟩ : jRng (-1)) h (fun c38 h => ?_) (fun c38 h => ?_)
            · refine jg_iconst (pc := 68) X d_12_pending_68 ?_
              refine jg_iload_n (pc := 69) X d_12_pending_69 3 rfl ?_
              refine jg_ishl (pc := 70) X d_12_pending_70 ?_
              refine jg_goto (tgt := 75) (pc := 71) X d_12_pending_71 (by decide) ?_
              refine jg_ior (pc := 75) X d_12_pending_75 ?_
              refine jg_istore_n (pc := 76) X [(2, jI (jOr v2 (jShl 1 v3))), (0, jr Z 345), (1, jI v1), (3, jI v3)] d_12_pending_76 (by decide) rfl ?_
              refine jg_iinc (pc := 77) X [(3, jI (v3 + 1)), (2, jI (jOr v2 (jShl 1 v3))), (0, jr Z 345), (1, jI v1)] d_12_pending_77 3 rfl (by decide) rfl ?_
              refine jg_goto (tgt := 23) (pc := 80) X d_12_pending_80 (by decide) ?_
              have r39 : jRng (v3 + 1) := by (unfold jRng; exact ⟨by (have z0 : jRng v3 := rv3; have z1 : jRng x11 := r13; unfold jRng at z0 z1; omega), by (have z0 : jRng v3 := rv3; have z1 : jRng x11 := r13; unfold jRng at z0 z1; omega)⟩)
              refine jg_sub [2, 3, 1, 0] rfl ?_
              exact ih23 _ _ (jOr_rng _ _) r39 h
            · refine jg_iconst (pc := 74) X d_12_pending_74 ?_
              refine jg_ior (pc := 75) X d_12_pending_75 ?_
              refine jg_istore_n (pc := 76) X [(2, jI (jOr v2 0)), (0, jr Z 345), (1, jI v1), (3, jI v3)] d_12_pending_76 (by decide) rfl ?_
              refine jg_iinc (pc := 77) X [(3, jI (v3 + 1)), (2, jI (jOr v2 0)), (0, jr Z 345), (1, jI v1)] d_12_pending_77 3 rfl (by decide) rfl ?_
              refine jg_goto (tgt := 23) (pc := 80) X d_12_pending_80 (by decide) ?_
              have r40 : jRng (v3 + 1) := by (unfold jRng; exact ⟨by (have z0 : jRng v3 := rv3; have z1 : jRng x11 := r13; unfold jRng at z0 z1; omega), by (have z0 : jRng v3 := rv3; have z1 : jRng x11 := r13; unfold jRng at z0 z1; omega)⟩)
              refine jg_sub [2, 3, 1, 0] rfl ?_
              exact ih23 _ _ (jOr_rng _ _) r40 h
    obtain ⟨N, h⟩ := h
    refine jg_sub [2, 3, 1, 0] rfl ?_
    exact jl23 _ w9 N _ _ (⟨by decide, by decide⟩ : jRng 0) (⟨by decide, by decide⟩ : jRng 0) h
  · refine jg_iconst (pc := 17) X d_12_pending_17 ?_
    exact jg_ireturn (pc := 18) X hAe hlocks hr d_12_pending_18 ⟨(Nat.le_of_ble_eq_true rfl), (Nat.le_of_ble_eq_true rfl)⟩ rfl (⟨by decide, by decide⟩ : jRng 0) w9 h
set_option maxHeartbeats 4000000 in
set_option maxRecDepth 100000 in
theorem m_12_rankOf {l : Launch} {Z : jE} {n : Nat} {C : jC} {v1 : Int} {v2 : Int} {post : Int → Prop} (rv1 : jRng v1) (rv2 : jRng v2) (hw0 : jWF n C) (h : wp_12_rankOf v1 v2 C post) : jCi l y_12_rankOf prog_14_method_66_code 4 (.int) q_12_rankOf Z n C [jr Z 345, jI v1, jI v2] (fun x C9 => C9 = C ∧ post x) := by
  have hn := hw0.2.2.1
  unfold wp_12_rankOf at h
  refine jCi_of (lv0 := [(0, jr Z 345), (1, jI v1), (2, jI v2)]) (by decide) (Nat.le_of_ble_eq_true rfl) rfl ?_
  intro p e s m args below meth c A sz X hAe hr hlocks
  refine jg_iconst (pc := 0) X d_12_rankOf_0 ?_
  refine jg_istore_n (pc := 1) X [(3, jI 0), (0, jr Z 345), (1, jI v1), (2, jI v2)] d_12_rankOf_1 (by decide) rfl ?_
  have hw : jWF n C := hw0
  have jl2 : ∀  (N : Nat) (v3 : Int) (rv3 : jRng v3), jI1 (wp_12_rankOf_2 v1 v2 C post) N v3 → jG p l e q_12_rankOf s m args below meth c 4 Z A (jws Z n C) 0 0 (MQ below (jQi Z n sz (fun x C9 => C9 = C ∧ post x)) args s q_12_rankOf.cells q_12_rankOf.slots (jA Z n sz)) 2 [(0, jr Z 345), (1, jI v1), (2, jI v2), (3, jI v3)] [] := by
    intro   N
    have hn := hw0.2.2.1
    induction N with
    | zero => intro v3 rv3 h; exact h.elim
    | succ N ih2 =>
      intro v3 rv3 h
      have h : wp_12_rankOf_2 v1 v2 C post (jI1 (wp_12_rankOf_2 v1 v2 C post) N) v3 := h
      generalize jI1 (wp_12_rankOf_2 v1 v2 C post) N = k2 at h ih2
      unfold wp_12_rankOf_2 at h
      refine jg_iload_n (pc := 2) X d_12_rankOf_2 3 rfl ?_
      refine jg_iload_n (pc := 3) X d_12_rankOf_3 1 rfl ?_
      refine jg_icmp_ge (tgt := 23) (pc := 4) X d_12_rankOf_4 (by decide) rv3 rv1 h (fun c1 h => ?_) (fun c1 h => ?_)
      · refine jg_iload_n (pc := 23) X d_12_rankOf_23 3 rfl ?_
        refine jg_iload_n (pc := 24) X d_12_rankOf_24 1 rfl ?_
        refine jg_icmp_ge (tgt := 32) (pc := 25) X d_12_rankOf_25 (by decide) rv3 rv1 h (fun c2 h => ?_) (fun c2 h => ?_)
        · refine jg_iconst (pc := 32) X d_12_rankOf_32 ?_
          exact jg_ireturn (pc := 33) X hAe hlocks hr d_12_rankOf_33 ⟨(Nat.le_of_ble_eq_true rfl), (Nat.le_of_ble_eq_true rfl)⟩ rfl (⟨by decide, by decide⟩ : jRng (-1)) hw ⟨rfl, h⟩
        · refine jg_iload_n (pc := 28) X d_12_rankOf_28 3 rfl ?_
          refine jg_goto (tgt := 33) (pc := 29) X d_12_rankOf_29 (by decide) ?_
          exact jg_ireturn (pc := 33) X hAe hlocks hr d_12_rankOf_33 ⟨(Nat.le_of_ble_eq_true rfl), (Nat.le_of_ble_eq_true rfl)⟩ rfl rv3 hw ⟨rfl, h⟩
      · refine jg_aload_n (pc := 7) X d_12_rankOf_7 0 rfl ?_
        refine jgf_12_13 (pc := 8) X (jl_345_12 hn) kw_1486 d_12_rankOf_8 ?_
        refine jg_iload_n (pc := 11) X d_12_rankOf_11 3 rfl ?_
        obtain ⟨b3, b4, h⟩ := h
        refine jg_iaload (len := 25) (pc := 12) X d_12_rankOf_12 (jl_351_1025 hn) (fun _ => rfl) (by decide) b3 b4 ?_
        refine jg_iload_n (pc := 13) X d_12_rankOf_13 2 rfl ?_
        refine jg_icmp_eq (tgt := 23) (pc := 14) X d_12_rankOf_14 (by decide) (hw.1 _ _) rv2 h (fun c5 h => ?_) (fun c5 h => ?_)
        · have c5 : (C 351 v3) = v2 := c5
          refine jg_iload_n (pc := 23) X d_12_rankOf_23 3 rfl ?_
          refine jg_iload_n (pc := 24) X d_12_rankOf_24 1 rfl ?_
          refine jg_icmp_ge (tgt := 32) (pc := 25) X d_12_rankOf_25 (by decide) rv3 rv1 h (fun c6 h => ?_) (fun c6 h => ?_)
          · refine jg_iconst (pc := 32) X d_12_rankOf_32 ?_
            exact jg_ireturn (pc := 33) X hAe hlocks hr d_12_rankOf_33 ⟨(Nat.le_of_ble_eq_true rfl), (Nat.le_of_ble_eq_true rfl)⟩ rfl (⟨by decide, by decide⟩ : jRng (-1)) hw ⟨rfl, h⟩
          · refine jg_iload_n (pc := 28) X d_12_rankOf_28 3 rfl ?_
            refine jg_goto (tgt := 33) (pc := 29) X d_12_rankOf_29 (by decide) ?_
            exact jg_ireturn (pc := 33) X hAe hlocks hr d_12_rankOf_33 ⟨(Nat.le_of_ble_eq_true rfl), (Nat.le_of_ble_eq_true rfl)⟩ rfl rv3 hw ⟨rfl, h⟩
        · have c5 : ¬ ((C 351 v3) = v2) := c5
          refine jg_iinc (pc := 17) X [(3, jI (v3 + 1)), (0, jr Z 345), (1, jI v1), (2, jI v2)] d_12_rankOf_17 3 rfl (by decide) rfl ?_
          refine jg_goto (tgt := 2) (pc := 20) X d_12_rankOf_20 (by decide) ?_
          have r7 : jRng (v3 + 1) := by (unfold jRng; exact ⟨by (have z0 : jRng v3 := rv3; have z1 : jRng v1 := rv1; unfold jRng at z0 z1; omega), by (have z0 : jRng v3 := rv3; have z1 : jRng v1 := rv1; unfold jRng at z0 z1; omega)⟩)
          refine jg_sub [1, 2, 3, 0] rfl ?_
          exact ih2 _ r7 h
  obtain ⟨N, h⟩ := h
  refine jg_sub [1, 2, 3, 0] rfl ?_
  exact jl2   N _ (⟨by decide, by decide⟩ : jRng 0) h
set_option maxHeartbeats 4000000 in
set_option maxRecDepth 100000 in
theorem m_12_rank {l : Launch} {Z : jE} {n : Nat} {C : jC} {v1 : Int} {v2 : Int} {post : Int → jC → Prop} (rv1 : jRng v1) (rv2 : jRng v2) (hw0 : jWF n C) (h : wp_12_rank v1 v2 C post) : jCi l y_12_rank prog_14_method_106_code 3 (.int) q_12_rank Z n C [jr Z 345, jI v1, jI v2] post := by
  have hn := hw0.2.2.1
  unfold wp_12_rank at h
  refine jCi_of (lv0 := [(0, jr Z 345), (1, jI v1), (2, jI v2)]) (by decide) (Nat.le_of_ble_eq_true rfl) rfl ?_
  intro p e s m args below meth c A sz X hAe hr hlocks
  refine jg_aload_n (pc := 0) X d_12_rank_0 0 rfl ?_
  refine jg_iload_n (pc := 1) X d_12_rank_1 1 rfl ?_
  refine jg_iload_n (pc := 2) X d_12_rank_2 2 rfl ?_
  refine jg_callVi (pc := 3) X (m_12_noKey rv1 rv2 hw0 h) jM_12_noKey kw_1924 (jl_345_12 hn) rfl rfl rfl rfl rfl (Nat.le_of_ble_eq_true rfl) d_12_rank_3 ⟨(Nat.le_of_ble_eq_true rfl), (Nat.le_of_ble_eq_true rfl)⟩ ⟨(Nat.le_of_ble_eq_true rfl), (Nat.le_of_ble_eq_true rfl)⟩ (fun x1 C2 r3 w4 h => ?_)
  refine jg_if_eq (tgt := 13) (pc := 6) X d_12_rank_6 (by decide) r3 h (fun c5 h => ?_) (fun c5 h => ?_)
  · refine jg_aload_n (pc := 13) X d_12_rank_13 0 rfl ?_
    refine jg_aload_n (pc := 14) X d_12_rank_14 0 rfl ?_
    refine jg_iload_n (pc := 15) X d_12_rank_15 1 rfl ?_
    refine jg_callVi (pc := 16) X (m_12_laysFresh rv1 w4 h) jM_12_laysFresh kw_1762 (jl_345_12 hn) rfl rfl rfl rfl rfl (Nat.le_of_ble_eq_true rfl) d_12_rank_16 ⟨(Nat.le_of_ble_eq_true rfl), (Nat.le_of_ble_eq_true rfl)⟩ ⟨(Nat.le_of_ble_eq_true rfl), (Nat.le_of_ble_eq_true rfl)⟩ (fun x6 C7 r8 w9 h => ?_)
    refine jg_iload_n (pc := 19) X d_12_rank_19 2 rfl ?_
    refine jg_pcallVi (pc := 20) X (m_12_rankOf r8 rv2 w9 h) jM_12_rankOf kw_1956 (jl_345_12 hn) rfl rfl rfl rfl rfl (Nat.le_of_ble_eq_true rfl) d_12_rank_20 ⟨(Nat.le_of_ble_eq_true rfl), (Nat.le_of_ble_eq_true rfl)⟩ ⟨(Nat.le_of_ble_eq_true rfl), (Nat.le_of_ble_eq_true rfl)⟩ (fun x10 r12 h => ?_)
    exact jg_ireturn (pc := 23) X hAe hlocks hr d_12_rank_23 ⟨(Nat.le_of_ble_eq_true rfl), (Nat.le_of_ble_eq_true rfl)⟩ rfl r12 w9 h
  · refine jg_iconst (pc := 9) X d_12_rank_9 ?_
    refine jg_goto (tgt := 23) (pc := 10) X d_12_rank_10 (by decide) ?_
    exact jg_ireturn (pc := 23) X hAe hlocks hr d_12_rank_23 ⟨(Nat.le_of_ble_eq_true rfl), (Nat.le_of_ble_eq_true rfl)⟩ rfl (⟨by decide, by decide⟩ : jRng 0) w4 h
set_option maxHeartbeats 4000000 in
set_option maxRecDepth 100000 in
theorem m_12_moves {l : Launch} {Z : jE} {n : Nat} {C : jC} {v1 : Int} {post : Int → jC → Prop} (rv1 : jRng v1) (hw0 : jWF n C) (h : wp_12_moves v1 C post) : jCi l y_12_moves prog_14_method_107_code 9 (.int) q_12_moves Z n C [jr Z 345, jI v1] post := by
  have hn := hw0.2.2.1
  unfold wp_12_moves at h
  refine jCi_of (lv0 := [(0, jr Z 345), (1, jI v1)]) (by decide) (Nat.le_of_ble_eq_true rfl) rfl ?_
  intro p e s m args below meth c A sz X hAe hr hlocks
  refine jg_aload_n (pc := 0) X d_12_moves_0 0 rfl ?_
  refine jg_iconst (pc := 1) X d_12_moves_1 ?_
  refine jgp_12_0 (pc := 2) X (jl_345_12 hn) kw_1473 d_12_moves_2 ?_
  have w1 := jWF.u (k := 0) (v := 0) hw0 (jl_345_12 hn) (by decide) (⟨by decide, by decide⟩ : jRng 0)
  refine jg_aload_n (pc := 5) X d_12_moves_5 0 rfl ?_
  refine jg_iload_n (pc := 6) X d_12_moves_6 1 rfl ?_
  refine jg_pcallSi (pc := 7) X (m_12_noView rv1 w1 h) jM_12_noView kw_1705 rfl rfl (Nat.le_of_ble_eq_true rfl) d_12_moves_7 ⟨(Nat.le_of_ble_eq_true rfl), (Nat.le_of_ble_eq_true rfl)⟩ ⟨(Nat.le_of_ble_eq_true rfl), (Nat.le_of_ble_eq_true rfl)⟩ (fun x2 r4 h => ?_)
  refine jg_iconst (pc := 10) X d_12_moves_10 ?_
  refine jg_callVi (pc := 11) X (m_12_throwsIf r4 (⟨by decide, by decide⟩ : jRng 1) w1 h) jM_12_throwsIf kw_1697 (jl_345_12 hn) rfl rfl rfl rfl rfl (Nat.le_of_ble_eq_true rfl) d_12_moves_11 ⟨(Nat.le_of_ble_eq_true rfl), (Nat.le_of_ble_eq_true rfl)⟩ ⟨(Nat.le_of_ble_eq_true rfl), (Nat.le_of_ble_eq_true rfl)⟩ (fun x6 C7 r8 w9 h => ?_)
  refine jg_if_eq (tgt := 19) (pc := 14) X d_12_moves_14 (by decide) r8 h (fun c10 h => ?_) (fun c10 h => ?_)
  · refine jg_iload_n (pc := 19) X d_12_moves_19 1 rfl ?_
    refine jg_pcallSi (pc := 20) X (m_12_listOf rv1 w9 h) jM_12_listOf kw_1686 rfl rfl (Nat.le_of_ble_eq_true rfl) d_12_moves_20 ⟨(Nat.le_of_ble_eq_true rfl), (Nat.le_of_ble_eq_true rfl)⟩ ⟨(Nat.le_of_ble_eq_true rfl), (Nat.le_of_ble_eq_true rfl)⟩ (fun x11 r13 h => ?_)
    refine jg_istore_n (pc := 23) X [(2, jI x11), (0, jr Z 345), (1, jI v1)] d_12_moves_23 (by decide) rfl ?_
    refine jg_aload_n (pc := 24) X d_12_moves_24 1 rfl ?_
    refine jg_iload_n (pc := 25) X d_12_moves_25 2 rfl ?_
    refine jg_callVi (pc := 26) X (m_12_laysFresh rv1 w9 h) jM_12_laysFresh kw_1762 (jl_345_12 hn) rfl rfl rfl rfl rfl (Nat.le_of_ble_eq_true rfl) d_12_moves_26 ⟨(Nat.le_of_ble_eq_true rfl), (Nat.le_of_ble_eq_true rfl)⟩ ⟨(Nat.le_of_ble_eq_true rfl), (Nat.le_of_ble_eq_true rfl)⟩ (fun x15 C16 r17 w18 h => ?_)
    refine jg_istore_n (pc := 29) X [(3, jI x15), (2, jI x11), (0, jr Z 345), (1, jI v1)] d_12_moves_29 (by decide) rfl ?_
    refine jg_iconst (pc := 30) X d_12_moves_30 ?_
    refine jg_istore (pc := 31) X [(4, jI 0), (3, jI x15), (2, jI x11), (0, jr Z 345), (1, jI v1)] d_12_moves_31 (by decide) rfl ?_
    refine jg_iconst (pc := 33) X d_12_moves_33 ?_
    refine jg_istore (pc := 34) X [(5, jI 0), (4, jI 0), (3, jI x15), (2, jI x11), (0, jr Z 345), (1, jI v1)] d_12_moves_34 (by decide) rfl ?_
    refine jg_iconst (pc := 36) X d_12_moves_36 ?_
    refine jg_istore (pc := 37) X [(6, jI 0), (5, jI 0), (4, jI 0), (3, jI x15), (2, jI x11), (0, jr Z 345), (1, jI v1)] d_12_moves_37 (by decide) rfl ?_
    have jl39 : ∀ (v2 : Int) (v3 : Int) (rv2 : jRng v2) (rv3 : jRng v3) (N : Nat) (v4 : Int) (v5 : Int) (v6 : Int) (C : jC) (rv4 : jRng v4) (rv5 : jRng v5) (rv6 : jRng v6) (hw : jWF n C), jI4 (wp_12_moves_39 v2 v3 post) N v4 v5 v6 C → jG p l e q_12_moves s m args below meth c 9 Z A (jws Z n C) 0 0 (MQ below (jQi Z n sz post) args s q_12_moves.cells q_12_moves.slots (jA Z n sz)) 39 [(0, jr Z 345), (2, jI v2), (3, jI v3), (4, jI v4), (5, jI v5), (6, jI v6)] [] := by
      intro v2 v3 rv2 rv3 N
      have hn := hw0.2.2.1
      induction N with
      | zero => intro v4 v5 v6 C rv4 rv5 rv6 hw h; exact h.elim
      | succ N ih39 =>
        intro v4 v5 v6 C rv4 rv5 rv6 hw h
        have h : wp_12_moves_39 v2 v3 post (jI4 (wp_12_moves_39 v2 v3 post) N) v4 v5 v6 C := h
        generalize jI4 (wp_12_moves_39 v2 v3 post) N = k39 at h ih39
        unfold wp_12_moves_39 at h
        refine jg_iload (pc := 39) X d_12_moves_39 5 rfl ?_
        refine jg_aload_n (pc := 41) X d_12_moves_41 0 rfl ?_
        refine jg_iload_n (pc := 42) X d_12_moves_42 1 rfl ?_
        refine jg_pcallVi (pc := 43) X (m_12_size rv2 hw h) jM_12_size kw_1609 (jl_345_12 hn) rfl rfl rfl rfl rfl (Nat.le_of_ble_eq_true rfl) d_12_moves_43 ⟨(Nat.le_of_ble_eq_true rfl), (Nat.le_of_ble_eq_true rfl)⟩ ⟨(Nat.le_of_ble_eq_true rfl), (Nat.le_of_ble_eq_true rfl)⟩ (fun x19 r21 h => ?_)
        refine jg_icmp_ge (tgt := 178) (pc := 46) X d_12_moves_46 (by decide) rv6 r21 h (fun c23 h => ?_) (fun c23 h => ?_)
        · refine jg_iload (pc := 178) X d_12_moves_178 3 rfl ?_
          refine jg_iload (pc := 180) X d_12_moves_180 4 rfl ?_
          refine jg_isub (pc := 182) X d_12_moves_182 ?_
          obtain ⟨r24, h⟩ := h
          exact jg_ireturn (pc := 183) X hAe hlocks hr d_12_moves_183 ⟨(Nat.le_of_ble_eq_true rfl), (Nat.le_of_ble_eq_true rfl)⟩ rfl r24 hw h
        · refine jg_aload_n (pc := 49) X d_12_moves_49 0 rfl ?_
          refine jg_iload_n (pc := 50) X d_12_moves_50 2 rfl ?_
          refine jg_aload_n (pc := 51) X d_12_moves_51 0 rfl ?_
          refine jg_iload_n (pc := 52) X d_12_moves_52 1 rfl ?_
          refine jg_iload (pc := 53) X d_12_moves_53 5 rfl ?_
          refine jg_pcallVi (pc := 55) X (m_12_keyAt rv2 rv6 hw h) jM_12_keyAt kw_1766 (jl_345_12 hn) rfl rfl rfl rfl rfl (Nat.le_of_ble_eq_true rfl) d_12_moves_55 ⟨(Nat.le_of_ble_eq_true rfl), (Nat.le_of_ble_eq_true rfl)⟩ ⟨(Nat.le_of_ble_eq_true rfl), (Nat.le_of_ble_eq_true rfl)⟩ (fun x25 r27 h => ?_)
          refine jg_pcallVi (pc := 58) X (m_12_rankOf rv3 r27 hw h) jM_12_rankOf kw_1956 (jl_345_12 hn) rfl rfl rfl rfl rfl (Nat.le_of_ble_eq_true rfl) d_12_moves_58 ⟨(Nat.le_of_ble_eq_true rfl), (Nat.le_of_ble_eq_true rfl)⟩ ⟨(Nat.le_of_ble_eq_true rfl), (Nat.le_of_ble_eq_true rfl)⟩ (fun x29 r31 h => ?_)
          refine jg_istore (pc := 61) X [(7, jI x29), (0, jr Z 345), (2, jI v2), (3, jI v3), (4, jI v4), (5, jI v5), (6, jI v6)] d_12_moves_61 (by decide) rfl ?_
          refine jg_aload_n (pc := 63) X d_12_moves_63 1 rfl ?_
          refine jgf_12_17 (pc := 64) X (jl_345_12 hn) kw_1490 d_12_moves_64 ?_
          refine jg_iload (pc := 67) X d_12_moves_67 6 rfl ?_
          refine jg_iconst (pc := 69) X d_12_moves_69 ?_
          obtain ⟨b33, b34, h⟩ := h
          refine jg_iastore (len := 24) (pc := 70) X d_12_moves_70 (jl_354_1024 hn) (fun _ => rfl) (by decide) b33 b34 ?_
          have w35 := jWF.u (k := v6) (v := 0) hw (jl_354_1024 hn) (by decide) (⟨by decide, by decide⟩ : jRng 0)
          refine jg_iload (pc := 71) X d_12_moves_71 0 rfl ?_
          refine jg_iconst (pc := 73) X d_12_moves_73 ?_
          refine jg_icmp_ne (tgt := 80) (pc := 74) X d_12_moves_74 (by decide) r31 (⟨by decide, by decide⟩ : jRng (-1)) h (fun c36 h => ?_) (fun c36 h => ?_)
          · refine jg_goto (tgt := 172) (pc := 77) X d_12_moves_77 (by decide) ?_
            refine jg_iinc (pc := 172) X [(6, jI (v6 + 1)), (7, jI x29), (0, jr Z 345), (2, jI v2), (3, jI v3), (4, jI v4), (5, jI v5)] d_12_moves_172 6 rfl (by decide) rfl ?_
            refine jg_goto (tgt := 39) (pc := 175) X d_12_moves_175 (by decide) ?_
            have r37 : jRng (v6 + 1) := by (unfold jRng; exact ⟨by (have z0 : jRng v6 := rv6; have z1 : jRng x19 := r21; unfold jRng at z0 z1; omega), by (have z0 : jRng v6 := rv6; have z1 : jRng x19 := r21; unfold jRng at z0 z1; omega)⟩)
            refine jg_sub [2, 3, 4, 5, 6, 0] rfl ?_
            exact ih39 _ _ _ _ rv4 rv5 r37 w35 h
          · refine jg_iinc (pc := 80) X [(4, jI (v4 + 1)), (7, jI x29), (0, jr Z 345), (2, jI v2), (3, jI v3), (5, jI v5), (6, jI v6)] d_12_moves_80 4 rfl (by decide) rfl ?_
            refine jg_iconst (pc := 83) X d_12_moves_83 ?_
            refine jg_istore (pc := 84) X [(8, jI 0), (4, jI (v4 + 1)), (7, jI x29), (0, jr Z 345), (2, jI v2), (3, jI v3), (5, jI v5), (6, jI v6)] d_12_moves_84 (by decide) rfl ?_
            obtain ⟨r38, h⟩ := h
            have jl86 : ∀ (v4 : Int) (v7 : Int) (rv4 : jRng v4) (rv7 : jRng v7) (N : Nat) (v8 : Int) (C : jC) (rv8 : jRng v8) (hw : jWF n C), jI2 (wp_12_moves_86 v2 v3 v4 v5 v6 v7 post k39) N v8 C → jG p l e q_12_moves s m args below meth c 9 Z A (jws Z n C) 0 0 (MQ below (jQi Z n sz post) args s q_12_moves.cells q_12_moves.slots (jA Z n sz)) 86 [(0, jr Z 345), (2, jI v2), (3, jI v3), (4, jI v4), (5, jI v5), (6, jI v6), (7, jI v7), (8, jI v8)] [] := by
              intro v4 v7 rv4 rv7 N
              have hn := hw0.2.2.1
              induction N with
              | zero => intro v8 C rv8 hw h; exact h.elim
              | succ N ih86 =>
                intro v8 C rv8 hw h
                have h : wp_12_moves_86 v2 v3 v4 v5 v6 v7 post k39 (jI2 (wp_12_moves_86 v2 v3 v4 v5 v6 v7 post k39) N) v8 C := h
                generalize jI2 (wp_12_moves_86 v2 v3 v4 v5 v6 v7 post k39) N = k86 at h ih86
                unfold wp_12_moves_86 at h
                refine jg_iload (pc := 86) X d_12_moves_86 7 rfl ?_
                refine jg_iload (pc := 88) X d_12_moves_88 5 rfl ?_
                refine jg_icmp_ge (tgt := 147) (pc := 90) X d_12_moves_90 (by decide) rv8 rv6 h (fun c39 h => ?_) (fun c39 h => ?_)
                · refine jg_aload_n (pc := 147) X d_12_moves_147 0 rfl ?_
                  refine jgf_12_17 (pc := 148) X (jl_345_12 hn) kw_1490 d_12_moves_148 ?_
                  refine jg_iload (pc := 151) X d_12_moves_151 5 rfl ?_
                  refine jg_dup2 (pc := 153) X d_12_moves_153 rfl rfl ?_
                  obtain ⟨b40, b41, h⟩ := h
                  refine jg_iaload (len := 24) (pc := 154) X d_12_moves_154 (jl_354_1024 hn) (fun _ => rfl) (by decide) b40 b41 ?_
                  refine jg_iconst (pc := 155) X d_12_moves_155 ?_
                  refine jg_iadd (pc := 156) X d_12_moves_156 ?_
                  obtain ⟨r44, h⟩ := h
                  have b42 : 0 ≤ v6 := by (have z0 : jRng v6 := rv6; have z1 : jRng v8 := rv8; unfold jRng at z0 z1; omega)
                  have b43 : v6 < 24 := by (have z0 : jRng v6 := rv6; have z1 : jRng v8 := rv8; unfold jRng at z0 z1; omega)
                  refine jg_iastore (len := 24) (pc := 157) X d_12_moves_157 (jl_354_1024 hn) (fun _ => rfl) (by decide) b42 b43 ?_
                  have w45 := jWF.u (k := v6) (v := ((C 354 v6) + 1)) hw (jl_354_1024 hn) (by decide) r44
                  refine jg_iload (pc := 158) X d_12_moves_158 4 rfl ?_
                  refine jg_aload_n (pc := 160) X d_12_moves_160 0 rfl ?_
                  refine jgf_12_17 (pc := 161) X (jl_345_12 hn) kw_1490 d_12_moves_161 ?_
                  refine jg_iload (pc := 164) X d_12_moves_164 5 rfl ?_
                  have b46 : 0 ≤ v6 := by (have z0 : jRng v6 := rv6; have z1 : jRng v8 := rv8; unfold jRng at z0 z1; omega)
                  have b47 : v6 < 24 := by (have z0 : jRng v6 := rv6; have z1 : jRng v8 := rv8; unfold jRng at z0 z1; omega)
                  refine jg_iaload (len := 24) (pc := 166) X d_12_moves_166 (jl_354_1024 hn) (fun _ => rfl) (by decide) b46 b47 ?_
                  have r48 : jRng (max v5 ((jU C 354 v6 ((C 354 v6) + 1)) 354 v6)) := jrng_max rv5 (w45.1 _ _)
                  refine jg_max (pc := 167) X kw_1867 d_12_moves_167 kw_max1 kw_ma kw_max2 ⟨(Nat.le_of_ble_eq_true rfl), (Nat.le_of_ble_eq_true rfl), (Nat.le_of_ble_eq_true rfl), (Nat.le_of_ble_eq_true rfl)⟩ rv5 (w45.1 _ _) ?_
                  refine jg_istore (pc := 170) X [(5, jI (max v5 ((jU C 354 v6 ((C 354 v6) + 1)) 354 v6))), (0, jr Z 345), (2, jI v2), (3, jI v3), (4, jI v4), (6, jI v6), (7, jI v7), (8, jI v8)] d_12_moves_170 (by decide) rfl ?_
                  refine jg_iinc (pc := 172) X [(6, jI (v6 + 1)), (5, jI (max v5 ((jU C 354 v6 ((C 354 v6) + 1)) 354 v6))), (0, jr Z 345), (2, jI v2), (3, jI v3), (4, jI v4), (7, jI v7), (8, jI v8)] d_12_moves_172 5 rfl (by decide) rfl ?_
                  refine jg_goto (tgt := 39) (pc := 175) X d_12_moves_175 (by decide) ?_
                  have r49 : jRng (v6 + 1) := by (unfold jRng; exact ⟨by (have z0 : jRng v6 := rv6; have z1 : jRng v8 := rv8; unfold jRng at z0 z1; omega), by (have z0 : jRng v6 := rv6; have z1 : jRng v8 := rv8; unfold jRng at z0 z1; omega)⟩)
                  refine jg_sub [2, 3, 4, 5, 1, 0] rfl ?_
                  exact ih39 _ _ _ _ rv4 r48 r49 w45 h
                · refine jg_aload_n (pc := 93) X d_12_moves_93 0 rfl ?_
                  refine jgf_12_17 (pc := 94) X (jl_345_12 hn) kw_1490 d_12_moves_94 ?_
                  refine jg_iload (pc := 97) X d_12_moves_97 7 rfl ?_
                  obtain ⟨b50, b51, h⟩ := h
                  refine jg_iaload (len := 24) (pc := 99) X d_12_moves_99 (jl_354_1024 hn) (fun _ => rfl) (by decide) b50 b51 ?_
                  refine jg_aload_n (pc := 100) X d_12_moves_100 0 rfl ?_
                  refine jgf_12_17 (pc := 101) X (jl_345_12 hn) kw_1490 d_12_moves_101 ?_
                  refine jg_iload (pc := 104) X d_12_moves_104 5 rfl ?_
                  obtain ⟨b53, h⟩ := h
                  have b52 : 0 ≤ v6 := by (have z0 : jRng v6 := rv6; have z1 : jRng v8 := rv8; unfold jRng at z0 z1; omega)
                  refine jg_iaload (len := 24) (pc := 106) X d_12_moves_106 (jl_354_1024 hn) (fun _ => rfl) (by decide) b52 b53 ?_
                  refine jg_icmp_le (tgt := 141) (pc := 107) X d_12_moves_107 (by decide) (hw.1 _ _) (hw.1 _ _) h (fun c54 h => ?_) (fun c54 h => ?_)
                  · have c54 : (C 354 v8) ≤ (C 354 v6) := c54
                    refine jg_iinc (pc := 141) X [(8, jI (v8 + 1)), (0, jr Z 345), (2, jI v2), (3, jI v3), (4, jI v4), (5, jI v5), (6, jI v6), (7, jI v7)] d_12_moves_141 7 rfl (by decide) rfl ?_
                    refine jg_goto (tgt := 86) (pc := 144) X d_12_moves_144 (by decide) ?_
                    have r55 : jRng (v8 + 1) := by (unfold jRng; exact ⟨by (have z0 : jRng v8 := rv8; have z1 : jRng v6 := rv6; unfold jRng at z0 z1; omega), by (have z0 : jRng v8 := rv8; have z1 : jRng v6 := rv6; unfold jRng at z0 z1; omega)⟩)
                    refine jg_sub [1, 2, 3, 4, 5, 6, 7, 0] rfl ?_
                    exact ih86 _ _ r55 hw h
                  · have c54 : ¬ ((C 354 v8) ≤ (C 354 v6)) := c54
                    refine jg_aload_n (pc := 110) X d_12_moves_110 0 rfl ?_
                    refine jg_iload_n (pc := 111) X d_12_moves_111 2 rfl ?_
                    refine jg_aload_n (pc := 112) X d_12_moves_112 0 rfl ?_
                    refine jg_iload_n (pc := 113) X d_12_moves_113 1 rfl ?_
                    refine jg_iload (pc := 114) X d_12_moves_114 7 rfl ?_
                    refine jg_pcallVi (pc := 116) X (m_12_keyAt rv2 rv8 hw h) jM_12_keyAt kw_1766 (jl_345_12 hn) rfl rfl rfl rfl rfl (Nat.le_of_ble_eq_true rfl) d_12_moves_116 ⟨(Nat.le_of_ble_eq_true rfl), (Nat.le_of_ble_eq_true rfl)⟩ ⟨(Nat.le_of_ble_eq_true rfl), (Nat.le_of_ble_eq_true rfl)⟩ (fun x56 r58 h => ?_)
                    refine jg_pcallVi (pc := 119) X (m_12_rankOf rv3 r58 hw h) jM_12_rankOf kw_1956 (jl_345_12 hn) rfl rfl rfl rfl rfl (Nat.le_of_ble_eq_true rfl) d_12_moves_119 ⟨(Nat.le_of_ble_eq_true rfl), (Nat.le_of_ble_eq_true rfl)⟩ ⟨(Nat.le_of_ble_eq_true rfl), (Nat.le_of_ble_eq_true rfl)⟩ (fun x60 r62 h => ?_)
                    refine jg_iload (pc := 122) X d_12_moves_122 6 rfl ?_
                    refine jg_icmp_ge (tgt := 141) (pc := 124) X d_12_moves_124 (by decide) r62 rv7 h (fun c64 h => ?_) (fun c64 h => ?_)
                    · refine jg_iinc (pc := 141) X [(8, jI (v8 + 1)), (0, jr Z 345), (2, jI v2), (3, jI v3), (4, jI v4), (5, jI v5), (6, jI v6), (7, jI v7)] d_12_moves_141 7 rfl (by decide) rfl ?_
                      refine jg_goto (tgt := 86) (pc := 144) X d_12_moves_144 (by decide) ?_
                      have r65 : jRng (v8 + 1) := by (unfold jRng; exact ⟨by (have z0 : jRng v8 := rv8; have z1 : jRng v6 := rv6; unfold jRng at z0 z1; omega), by (have z0 : jRng v8 := rv8; have z1 : jRng v6 := rv6; unfold jRng at z0 z1; omega)⟩)
                      refine jg_sub [1, 2, 3, 4, 5, 6, 7, 0] rfl ?_
                      exact ih86 _ _ r65 hw h
                    · refine jg_aload_n (pc := 127) X d_12_moves_127 0 rfl ?_
                      refine jgf_12_17 (pc := 128) X (jl_345_12 hn) kw_1490 d_12_moves_128 ?_
                      refine jg_iload (pc := 131) X d_12_moves_131 5 rfl ?_
                      refine jg_aload_n (pc := 133) X d_12_moves_133 0 rfl ?_
                      refine jgf_12_17 (pc := 134) X (jl_345_12 hn) kw_1490 d_12_moves_134 ?_
                      refine jg_iload (pc := 137) X d_12_moves_137 7 rfl ?_
                      have b66 : 0 ≤ v8 := by (have z0 : jRng v8 := rv8; have z1 : jRng v6 := rv6; unfold jRng at z0 z1; omega)
                      have b67 : v8 < 24 := by (have z0 : jRng v8 := rv8; have z1 : jRng v6 := rv6; unfold jRng at z0 z1; omega)
                      refine jg_iaload (len := 24) (pc := 139) X d_12_moves_139 (jl_354_1024 hn) (fun _ => rfl) (by decide) b66 b67 ?_
                      have b68 : 0 ≤ v6 := by (have z0 : jRng v6 := rv6; have z1 : jRng v8 := rv8; unfold jRng at z0 z1; omega)
                      have b69 : v6 < 24 := by (have z0 : jRng v6 := rv6; have z1 : jRng v8 := rv8; unfold jRng at z0 z1; omega)
                      refine jg_iastore (len := 24) (pc := 140) X d_12_moves_140 (jl_354_1024 hn) (fun _ => rfl) (by decide) b68 b69 ?_
                      have w70 := jWF.u (k := v6) (v := (C 354 v8)) hw (jl_354_1024 hn) (by decide) (hw.1 _ _)
                      refine jg_iinc (pc := 141) X [(8, jI (v8 + 1)), (0, jr Z 345), (2, jI v2), (3, jI v3), (4, jI v4), (5, jI v5), (6, jI v6), (7, jI v7)] d_12_moves_141 7 rfl (by decide) rfl ?_
                      refine jg_goto (tgt := 86) (pc := 144) X d_12_moves_144 (by decide) ?_
                      have r71 : jRng (v8 + 1) := by (unfold jRng; exact ⟨by (have z0 : jRng v8 := rv8; have z1 : jRng v6 := rv6; unfold jRng at z0 z1; omega), by (have z0 : jRng v8 := rv8; have z1 : jRng v6 := rv6; unfold jRng at z0 z1; omega)⟩)
                      refine jg_sub [1, 2, 3, 4, 5, 6, 7, 0] rfl ?_
                      exact ih86 _ _ r71 w70 h
            obtain ⟨N, h⟩ := h
            refine jg_sub [3, 4, 5, 1, 6, 7, 2, 0] rfl ?_
            exact jl86 _ _ r38 r31 N _ _ (⟨by decide, by decide⟩ : jRng 0) w35 h
    obtain ⟨N, h⟩ := h
    refine jg_sub [5, 4, 3, 2, 1, 0] rfl ?_
    exact jl39 _ _ r13 r17 N _ _ _ _ (⟨by decide, by decide⟩ : jRng 0) (⟨by decide, by decide⟩ : jRng 0) (⟨by decide, by decide⟩ : jRng 0) w18 h
  · refine jg_iconst (pc := 17) X d_12_moves_17 ?_
    exact jg_ireturn (pc := 18) X hAe hlocks hr d_12_moves_18 ⟨(Nat.le_of_ble_eq_true rfl), (Nat.le_of_ble_eq_true rfl)⟩ rfl (⟨by decide, by decide⟩ : jRng 0) w9 h
set_option maxHeartbeats 4000000 in
set_option maxRecDepth 100000 in
theorem m_12_unlike {l : Launch} {Z : jE} {n : Nat} {C : jC} {v1 : Int} {v2 : Int} {post : Int → jC → Prop} (rv1 : jRng v1) (rv2 : jRng v2) (hw0 : jWF n C) (h : wp_12_unlike v1 v2 C post) : jCi l y_12_unlike prog_14_method_108_code 9 (.int) q_12_unlike Z n C [jr Z 345, jI v1, jI v2] post := by
  have hn := hw0.2.2.1
  unfold wp_12_unlike at h
  refine jCi_of (lv0 := [(0, jr Z 345), (1, jI v1), (2, jI v2)]) (by decide) (Nat.le_of_ble_eq_true rfl) rfl ?_
  intro p e s m args below meth c A sz X hAe hr hlocks
  have jb25 : ∀ (s0 : Int) (v1 : Int) (v2 : Int) (C : jC) (rs0 : jRng s0) (rv1 : jRng v1) (rv2 : jRng v2) (hw : jWF n C), wp_12_unlike_25 s0 v1 v2 C post → jG p l e q_12_unlike s m args below meth c 9 Z A (jws Z n C) 0 0 (MQ below (jQi Z n sz post) args s q_12_unlike.cells q_12_unlike.slots (jA Z n sz)) 25 [(0, jr Z 345), (1, jI v1), (2, jI v2)] [jI s0, jr Z 345] := by
    intro s0 v1 v2 C rs0 rv1 rv2 hw h
    unfold wp_12_unlike_25 at h
    refine jg_iconst (pc := 25) X d_12_unlike_25 ?_
    refine jg_callVi (pc := 26) X (m_12_throwsIf rs0 (⟨by decide, by decide⟩ : jRng 1) hw h) jM_12_throwsIf kw_1697 (jl_345_12 hn) rfl rfl rfl rfl rfl (Nat.le_of_ble_eq_true rfl) d_12_unlike_26 ⟨(Nat.le_of_ble_eq_true rfl), (Nat.le_of_ble_eq_true rfl)⟩ ⟨(Nat.le_of_ble_eq_true rfl), (Nat.le_of_ble_eq_true rfl)⟩ (fun x1 C2 r3 w4 h => ?_)
    refine jg_if_ne (tgt := 50) (pc := 29) X d_12_unlike_29 (by decide) r3 h (fun c5 h => ?_) (fun c5 h => ?_)
    · refine jg_aload_n (pc := 32) X d_12_unlike_32 0 rfl ?_
      refine jg_iload_n (pc := 33) X d_12_unlike_33 1 rfl ?_
      refine jg_iload_n (pc := 34) X d_12_unlike_34 2 rfl ?_
      refine jg_icmp_ne (tgt := 42) (pc := 35) X d_12_unlike_35 (by decide) rv1 rv2 h (fun c6 h => ?_) (fun c6 h => ?_)
      · refine jg_iconst (pc := 38) X d_12_unlike_38 ?_
        refine jg_goto (tgt := 43) (pc := 39) X d_12_unlike_39 (by decide) ?_
        refine jg_iconst (pc := 43) X d_12_unlike_43 ?_
        refine jg_callVi (pc := 44) X (m_12_throwsIf (⟨by decide, by decide⟩ : jRng 1) (⟨by decide, by decide⟩ : jRng 2) w4 h) jM_12_throwsIf kw_1697 (jl_345_12 hn) rfl rfl rfl rfl rfl (Nat.le_of_ble_eq_true rfl) d_12_unlike_44 ⟨(Nat.le_of_ble_eq_true rfl), (Nat.le_of_ble_eq_true rfl)⟩ ⟨(Nat.le_of_ble_eq_true rfl), (Nat.le_of_ble_eq_true rfl)⟩ (fun x7 C8 r9 w10 h => ?_)
        refine jg_if_eq (tgt := 52) (pc := 47) X d_12_unlike_47 (by decide) r9 h (fun c11 h => ?_) (fun c11 h => ?_)
        · refine jg_iload_n (pc := 52) X d_12_unlike_52 1 rfl ?_
          refine jg_pcallSi (pc := 53) X (m_12_listOf rv1 w10 h) jM_12_listOf kw_1686 rfl rfl (Nat.le_of_ble_eq_true rfl) d_12_unlike_53 ⟨(Nat.le_of_ble_eq_true rfl), (Nat.le_of_ble_eq_true rfl)⟩ ⟨(Nat.le_of_ble_eq_true rfl), (Nat.le_of_ble_eq_true rfl)⟩ (fun x12 r14 h => ?_)
          refine jg_istore_n (pc := 56) X [(3, jI x12), (0, jr Z 345), (1, jI v1), (2, jI v2)] d_12_unlike_56 (by decide) rfl ?_
          refine jg_iconst (pc := 57) X d_12_unlike_57 ?_
          refine jg_istore (pc := 58) X [(4, jI 0), (3, jI x12), (0, jr Z 345), (1, jI v1), (2, jI v2)] d_12_unlike_58 (by decide) rfl ?_
          refine jg_iconst (pc := 60) X d_12_unlike_60 ?_
          refine jg_istore (pc := 61) X [(5, jI 0), (4, jI 0), (3, jI x12), (0, jr Z 345), (1, jI v1), (2, jI v2)] d_12_unlike_61 (by decide) rfl ?_
          have jl63 : ∀ (v3 : Int) (C : jC) (rv3 : jRng v3) (hw : jWF n C) (N : Nat) (v4 : Int) (v5 : Int) (rv4 : jRng v4) (rv5 : jRng v5), jI2 (wp_12_unlike_63 v2 v3 C post) N v4 v5 → jG p l e q_12_unlike s m args below meth c 9 Z A (jws Z n C) 0 0 (MQ below (jQi Z n sz post) args s q_12_unlike.cells q_12_unlike.slots (jA Z n sz)) 63 [(0, jr Z 345), (2, jI v2), (3, jI v3), (4, jI v4), (5, jI v5)] [] := by
            intro v3 C rv3 hw N
            have hn := hw0.2.2.1
            induction N with
            | zero => intro v4 v5 rv4 rv5 h; exact h.elim
            | succ N ih63 =>
              intro v4 v5 rv4 rv5 h
              have h : wp_12_unlike_63 v2 v3 C post (jI2 (wp_12_unlike_63 v2 v3 C post) N) v4 v5 := h
              generalize jI2 (wp_12_unlike_63 v2 v3 C post) N = k63 at h ih63
              unfold wp_12_unlike_63 at h
              refine jg_iload (pc := 63) X d_12_unlike_63 4 rfl ?_
              refine jg_aload_n (pc := 65) X d_12_unlike_65 0 rfl ?_
              refine jg_iload_n (pc := 66) X d_12_unlike_66 2 rfl ?_
              refine jg_pcallVi (pc := 67) X (m_12_size rv3 hw h) jM_12_size kw_1609 (jl_345_12 hn) rfl rfl rfl rfl rfl (Nat.le_of_ble_eq_true rfl) d_12_unlike_67 ⟨(Nat.le_of_ble_eq_true rfl), (Nat.le_of_ble_eq_true rfl)⟩ ⟨(Nat.le_of_ble_eq_true rfl), (Nat.le_of_ble_eq_true rfl)⟩ (fun x16 r18 h => ?_)
              refine jg_icmp_ge (tgt := 164) (pc := 70) X d_12_unlike_70 (by decide) rv5 r18 h (fun c20 h => ?_) (fun c20 h => ?_)
              · refine jg_iload (pc := 164) X d_12_unlike_164 3 rfl ?_
                exact jg_ireturn (pc := 166) X hAe hlocks hr d_12_unlike_166 ⟨(Nat.le_of_ble_eq_true rfl), (Nat.le_of_ble_eq_true rfl)⟩ rfl rv4 hw h
              · refine jg_iload (pc := 73) X d_12_unlike_73 4 rfl ?_
                refine jg_iconst (pc := 75) X d_12_unlike_75 ?_
                refine jg_iadd (pc := 76) X d_12_unlike_76 ?_
                refine jg_istore (pc := 77) X [(6, jI (v5 + 1)), (0, jr Z 345), (2, jI v2), (3, jI v3), (4, jI v4), (5, jI v5)] d_12_unlike_77 (by decide) rfl ?_
                have r21 : jRng (v5 + 1) := by (unfold jRng; exact ⟨by (have z0 : jRng v5 := rv5; have z1 : jRng x16 := r18; unfold jRng at z0 z1; omega), by (have z0 : jRng v5 := rv5; have z1 : jRng x16 := r18; unfold jRng at z0 z1; omega)⟩)
                have jl79 : ∀  (N : Nat) (v4 : Int) (v6 : Int) (rv4 : jRng v4) (rv6 : jRng v6), jI2 (wp_12_unlike_79 v2 v3 v5 C post k63) N v4 v6 → jG p l e q_12_unlike s m args below meth c 9 Z A (jws Z n C) 0 0 (MQ below (jQi Z n sz post) args s q_12_unlike.cells q_12_unlike.slots (jA Z n sz)) 79 [(0, jr Z 345), (2, jI v2), (3, jI v3), (5, jI v5), (4, jI v4), (6, jI v6)] [] := by
                  intro   N
                  have hn := hw0.2.2.1
                  induction N with
                  | zero => intro v4 v6 rv4 rv6 h; exact h.elim
                  | succ N ih79 =>
                    intro v4 v6 rv4 rv6 h
                    have h : wp_12_unlike_79 v2 v3 v5 C post k63 (jI2 (wp_12_unlike_79 v2 v3 v5 C post k63) N) v4 v6 := h
                    generalize jI2 (wp_12_unlike_79 v2 v3 v5 C post k63) N = k79 at h ih79
                    unfold wp_12_unlike_79 at h
                    refine jg_iload (pc := 79) X d_12_unlike_79 5 rfl ?_
                    refine jg_aload_n (pc := 81) X d_12_unlike_81 0 rfl ?_
                    refine jg_iload_n (pc := 82) X d_12_unlike_82 2 rfl ?_
                    refine jg_pcallVi (pc := 83) X (m_12_size rv3 hw h) jM_12_size kw_1609 (jl_345_12 hn) rfl rfl rfl rfl rfl (Nat.le_of_ble_eq_true rfl) d_12_unlike_83 ⟨(Nat.le_of_ble_eq_true rfl), (Nat.le_of_ble_eq_true rfl)⟩ ⟨(Nat.le_of_ble_eq_true rfl), (Nat.le_of_ble_eq_true rfl)⟩ (fun x22 r24 h => ?_)
                    refine jg_icmp_ge (tgt := 158) (pc := 86) X d_12_unlike_86 (by decide) rv6 r24 h (fun c26 h => ?_) (fun c26 h => ?_)
                    · refine jg_iinc (pc := 158) X [(5, jI (v5 + 1)), (0, jr Z 345), (2, jI v2), (3, jI v3), (4, jI v4), (6, jI v6)] d_12_unlike_158 3 rfl (by decide) rfl ?_
                      refine jg_goto (tgt := 63) (pc := 161) X d_12_unlike_161 (by decide) ?_
                      obtain ⟨r27, h⟩ := h
                      refine jg_sub [1, 2, 3, 4, 0] rfl ?_
                      exact ih63 _ _ rv4 r27 h
                    · refine jg_aload_n (pc := 89) X d_12_unlike_89 0 rfl ?_
                      refine jg_iload_n (pc := 90) X d_12_unlike_90 1 rfl ?_
                      refine jg_pcallSi (pc := 91) X (m_12_listOf rv2 hw h) jM_12_listOf kw_1686 rfl rfl (Nat.le_of_ble_eq_true rfl) d_12_unlike_91 ⟨(Nat.le_of_ble_eq_true rfl), (Nat.le_of_ble_eq_true rfl)⟩ ⟨(Nat.le_of_ble_eq_true rfl), (Nat.le_of_ble_eq_true rfl)⟩ (fun x28 r30 h => ?_)
                      refine jg_aload_n (pc := 94) X d_12_unlike_94 0 rfl ?_
                      refine jg_iload_n (pc := 95) X d_12_unlike_95 2 rfl ?_
                      refine jg_iload (pc := 96) X d_12_unlike_96 3 rfl ?_
                      refine jg_pcallVi (pc := 98) X (m_12_keyAt rv3 rv5 hw h) jM_12_keyAt kw_1766 (jl_345_12 hn) rfl rfl rfl rfl rfl (Nat.le_of_ble_eq_true rfl) d_12_unlike_98 ⟨(Nat.le_of_ble_eq_true rfl), (Nat.le_of_ble_eq_true rfl)⟩ ⟨(Nat.le_of_ble_eq_true rfl), (Nat.le_of_ble_eq_true rfl)⟩ (fun x32 r34 h => ?_)
                      refine jg_pcallVi (pc := 101) X (m_12_placeIn r30 r34 hw h) jM_12_placeIn kw_1778 (jl_345_12 hn) rfl rfl rfl rfl rfl (Nat.le_of_ble_eq_true rfl) d_12_unlike_101 ⟨(Nat.le_of_ble_eq_true rfl), (Nat.le_of_ble_eq_true rfl)⟩ ⟨(Nat.le_of_ble_eq_true rfl), (Nat.le_of_ble_eq_true rfl)⟩ (fun x36 r38 h => ?_)
                      refine jg_istore (pc := 104) X [(7, jI x36), (0, jr Z 345), (2, jI v2), (3, jI v3), (5, jI v5), (4, jI v4), (6, jI v6)] d_12_unlike_104 (by decide) rfl ?_
                      refine jg_aload_n (pc := 106) X d_12_unlike_106 1 rfl ?_
                      refine jg_iload_n (pc := 107) X d_12_unlike_107 2 rfl ?_
                      refine jg_pcallSi (pc := 108) X (m_12_listOf rv2 hw h) jM_12_listOf kw_1686 rfl rfl (Nat.le_of_ble_eq_true rfl) d_12_unlike_108 ⟨(Nat.le_of_ble_eq_true rfl), (Nat.le_of_ble_eq_true rfl)⟩ ⟨(Nat.le_of_ble_eq_true rfl), (Nat.le_of_ble_eq_true rfl)⟩ (fun x40 r42 h => ?_)
                      refine jg_aload_n (pc := 111) X d_12_unlike_111 1 rfl ?_
                      refine jg_iload_n (pc := 112) X d_12_unlike_112 3 rfl ?_
                      refine jg_iload (pc := 113) X d_12_unlike_113 6 rfl ?_
                      refine jg_pcallVi (pc := 115) X (m_12_keyAt rv3 rv6 hw h) jM_12_keyAt kw_1766 (jl_345_12 hn) rfl rfl rfl rfl rfl (Nat.le_of_ble_eq_true rfl) d_12_unlike_115 ⟨(Nat.le_of_ble_eq_true rfl), (Nat.le_of_ble_eq_true rfl)⟩ ⟨(Nat.le_of_ble_eq_true rfl), (Nat.le_of_ble_eq_true rfl)⟩ (fun x44 r46 h => ?_)
                      refine jg_pcallVi (pc := 118) X (m_12_placeIn r42 r46 hw h) jM_12_placeIn kw_1778 (jl_345_12 hn) rfl rfl rfl rfl rfl (Nat.le_of_ble_eq_true rfl) d_12_unlike_118 ⟨(Nat.le_of_ble_eq_true rfl), (Nat.le_of_ble_eq_true rfl)⟩ ⟨(Nat.le_of_ble_eq_true rfl), (Nat.le_of_ble_eq_true rfl)⟩ (fun x48 r50 h => ?_)
                      refine jg_istore (pc := 121) X [(8, jI x48), (7, jI x36), (0, jr Z 345), (2, jI v2), (3, jI v3), (5, jI v5), (4, jI v4), (6, jI v6)] d_12_unlike_121 (by decide) rfl ?_
                      refine jg_iload (pc := 123) X d_12_unlike_123 6 rfl ?_
                      refine jg_iload (pc := 125) X d_12_unlike_125 1 rfl ?_
                      refine jg_iconst (pc := 127) X d_12_unlike_127 ?_
                      refine jg_icmp_eq (tgt := 148) (pc := 128) X d_12_unlike_128 (by decide) r38 (⟨by decide, by decide⟩ : jRng (-1)) h (fun c52 h => ?_) (fun c52 h => ?_)
                      · refine jg_iconst (pc := 148) X d_12_unlike_148 ?_
                        refine jg_iadd (pc := 149) X d_12_unlike_149 ?_
                        refine jg_istore (pc := 150) X [(4, jI (v4 + 0)), (8, jI x48), (7, jI x36), (0, jr Z 345), (2, jI v2), (3, jI v3), (5, jI v5), (6, jI v6)] d_12_unlike_150 (by decide) rfl ?_
                        refine jg_iinc (pc := 152) X [(6, jI (v6 + 1)), (4, jI (v4 + 0)), (8, jI x48), (7, jI x36), (0, jr Z 345), (2, jI v2), (3, jI v3), (5, jI v5)] d_12_unlike_152 7 rfl (by decide) rfl ?_
                        refine jg_goto (tgt := 79) (pc := 155) X d_12_unlike_155 (by decide) ?_
                        have r53 : jRng (v4 + 0) := by (unfold jRng; exact ⟨by (have z0 : jRng v4 := rv4; unfold jRng at z0; omega), by (have z0 : jRng v4 := rv4; unfold jRng at z0; omega)⟩)
                        have r54 : jRng (v6 + 1) := by (unfold jRng; exact ⟨by (have z0 : jRng v6 := rv6; have z1 : jRng x22 := r24; unfold jRng at z0 z1; omega), by (have z0 : jRng v6 := rv6; have z1 : jRng x22 := r24; unfold jRng at z0 z1; omega)⟩)
                        refine jg_sub [4, 5, 6, 7, 1, 0] rfl ?_
                        exact ih79 _ _ r53 r54 h
                      · refine jg_iload (pc := 131) X d_12_unlike_131 0 rfl ?_
                        refine jg_iconst (pc := 133) X d_12_unlike_133 ?_
                        refine jg_icmp_eq (tgt := 148) (pc := 134) X d_12_unlike_134 (by decide) r50 (⟨by decide, by decide⟩ : jRng (-1)) h (fun c55 h => ?_) (fun c55 h => ?_)
                        · refine jg_iconst (pc := 148) X d_12_unlike_148 ?_
                          refine jg_iadd (pc := 149) X d_12_unlike_149 ?_
                          refine jg_istore (pc := 150) X [(4, jI (v4 + 0)), (8, jI x48), (7, jI x36), (0, jr Z 345), (2, jI v2), (3, jI v3), (5, jI v5), (6, jI v6)] d_12_unlike_150 (by decide) rfl ?_
                          refine jg_iinc (pc := 152) X [(6, jI (v6 + 1)), (4, jI (v4 + 0)), (8, jI x48), (7, jI x36), (0, jr Z 345), (2, jI v2), (3, jI v3), (5, jI v5)] d_12_unlike_152 7 rfl (by decide) rfl ?_
                          refine jg_goto (tgt := 79) (pc := 155) X d_12_unlike_155 (by decide) ?_
                          have r56 : jRng (v4 + 0) := by (unfold jRng; exact ⟨by (have z0 : jRng v4 := rv4; unfold jRng at z0; omega), by (have z0 : jRng v4 := rv4; unfold jRng at z0; omega)⟩)
                          have r57 : jRng (v6 + 1) := by (unfold jRng; exact ⟨by (have z0 : jRng v6 := rv6; have z1 : jRng x22 := r24; unfold jRng at z0 z1; omega), by (have z0 : jRng v6 := rv6; have z1 : jRng x22 := r24; unfold jRng at z0 z1; omega)⟩)
                          refine jg_sub [4, 5, 6, 7, 1, 0] rfl ?_
                          exact ih79 _ _ r56 r57 h
                        · refine jg_iload (pc := 137) X d_12_unlike_137 1 rfl ?_
                          refine jg_iload (pc := 139) X d_12_unlike_139 0 rfl ?_
                          refine jg_icmp_le (tgt := 148) (pc := 141) X d_12_unlike_141 (by decide) r38 r50 h (fun c58 h => ?_) (fun c58 h => ?_)
                          · refine jg_iconst (pc := 148) X d_12_unlike_148 ?_
                            refine jg_iadd (pc := 149) X d_12_unlike_149 ?_
                            refine jg_istore (pc := 150) X [(4, jI (v4 + 0)), (8, jI x48), (7, jI x36), (0, jr Z 345), (2, jI v2), (3, jI v3), (5, jI v5), (6, jI v6)] d_12_unlike_150 (by decide) rfl ?_
                            refine jg_iinc (pc := 152) X [(6, jI (v6 + 1)), (4, jI (v4 + 0)), (8, jI x48), (7, jI x36), (0, jr Z 345), (2, jI v2), (3, jI v3), (5, jI v5)] d_12_unlike_152 7 rfl (by decide) rfl ?_
                            refine jg_goto (tgt := 79) (pc := 155) X d_12_unlike_155 (by decide) ?_
                            have r59 : jRng (v4 + 0) := by (unfold jRng; exact ⟨by (have z0 : jRng v4 := rv4; unfold jRng at z0; omega), by (have z0 : jRng v4 := rv4; unfold jRng at z0; omega)⟩)
                            have r60 : jRng (v6 + 1) := by (unfold jRng; exact ⟨by (have z0 : jRng v6 := rv6; have z1 : jRng x22 := r24; unfold jRng at z0 z1; omega), by (have z0 : jRng v6 := rv6; have z1 : jRng x22 := r24; unfold jRng at z0 z1; omega)⟩)
                            refine jg_sub [4, 5, 6, 7, 1, 0] rfl ?_
                            exact ih79 _ _ r59 r60 h
                          · refine jg_iconst (pc := 144) X d_12_unlike_144 ?_
                            refine jg_goto (tgt := 149) (pc := 145) X d_12_unlike_145 (by decide) ?_
                            refine jg_iadd (pc := 149) X d_12_unlike_149 ?_
                            refine jg_istore (pc := 150) X [(4, jI (v4 + 1)), (8, jI x48), (7, jI x36), (0, jr Z 345), (2, jI v2), (3, jI v3), (5, jI v5), (6, jI v6)] d_12_unlike_150 (by decide) rfl ?_
                            refine jg_iinc (pc := 152) X [(6, jI (v6 + 1)), (4, jI (v4 + 1)), (8, jI x48), (7, jI x36), (0, jr Z 345), (2, jI v2), (3, jI v3), (5, jI v5)] d_12_unlike_152 7 rfl (by decide) rfl ?_
                            refine jg_goto (tgt := 79) (pc := 155) X d_12_unlike_155 (by decide) ?_
                            obtain ⟨r61, h⟩ := h
                            have r62 : jRng (v6 + 1) := by (unfold jRng; exact ⟨by (have z0 : jRng v6 := rv6; have z1 : jRng x22 := r24; unfold jRng at z0 z1; omega), by (have z0 : jRng v6 := rv6; have z1 : jRng x22 := r24; unfold jRng at z0 z1; omega)⟩)
                            refine jg_sub [4, 5, 6, 7, 1, 0] rfl ?_
                            exact ih79 _ _ r61 r62 h
                obtain ⟨N, h⟩ := h
                refine jg_sub [1, 2, 3, 5, 4, 0] rfl ?_
                exact jl79   N _ _ rv4 r21 h
          obtain ⟨N, h⟩ := h
          refine jg_sub [3, 5, 2, 1, 0] rfl ?_
          exact jl63 _ _ r14 w10 N _ _ (⟨by decide, by decide⟩ : jRng 0) (⟨by decide, by decide⟩ : jRng 0) h
        · refine jg_iconst (pc := 50) X d_12_unlike_50 ?_
          exact jg_ireturn (pc := 51) X hAe hlocks hr d_12_unlike_51 ⟨(Nat.le_of_ble_eq_true rfl), (Nat.le_of_ble_eq_true rfl)⟩ rfl (⟨by decide, by decide⟩ : jRng 0) w10 h
      · refine jg_iconst (pc := 42) X d_12_unlike_42 ?_
        refine jg_iconst (pc := 43) X d_12_unlike_43 ?_
        refine jg_callVi (pc := 44) X (m_12_throwsIf (⟨by decide, by decide⟩ : jRng 0) (⟨by decide, by decide⟩ : jRng 2) w4 h) jM_12_throwsIf kw_1697 (jl_345_12 hn) rfl rfl rfl rfl rfl (Nat.le_of_ble_eq_true rfl) d_12_unlike_44 ⟨(Nat.le_of_ble_eq_true rfl), (Nat.le_of_ble_eq_true rfl)⟩ ⟨(Nat.le_of_ble_eq_true rfl), (Nat.le_of_ble_eq_true rfl)⟩ (fun x63 C64 r65 w66 h => ?_)
        refine jg_if_eq (tgt := 52) (pc := 47) X d_12_unlike_47 (by decide) r65 h (fun c67 h => ?_) (fun c67 h => ?_)
        · refine jg_iload_n (pc := 52) X d_12_unlike_52 1 rfl ?_
          refine jg_pcallSi (pc := 53) X (m_12_listOf rv1 w66 h) jM_12_listOf kw_1686 rfl rfl (Nat.le_of_ble_eq_true rfl) d_12_unlike_53 ⟨(Nat.le_of_ble_eq_true rfl), (Nat.le_of_ble_eq_true rfl)⟩ ⟨(Nat.le_of_ble_eq_true rfl), (Nat.le_of_ble_eq_true rfl)⟩ (fun x68 r70 h => ?_)
          refine jg_istore_n (pc := 56) X [(3, jI x68), (0, jr Z 345), (1, jI v1), (2, jI v2)] d_12_unlike_56 (by decide) rfl ?_
          refine jg_iconst (pc := 57) X d_12_unlike_57 ?_
          refine jg_istore (pc := 58) X [(4, jI 0), (3, jI x68), (0, jr Z 345), (1, jI v1), (2, jI v2)] d_12_unlike_58 (by decide) rfl ?_
          refine jg_iconst (pc := 60) X d_12_unlike_60 ?_
          refine jg_istore (pc := 61) X [(5, jI 0), (4, jI 0), (3, jI x68), (0, jr Z 345), (1, jI v1), (2, jI v2)] d_12_unlike_61 (by decide) rfl ?_
          have jl63 : ∀ (v3 : Int) (C : jC) (rv3 : jRng v3) (hw : jWF n C) (N : Nat) (v4 : Int) (v5 : Int) (rv4 : jRng v4) (rv5 : jRng v5), jI2 (wp_12_unlike_63 v2 v3 C post) N v4 v5 → jG p l e q_12_unlike s m args below meth c 9 Z A (jws Z n C) 0 0 (MQ below (jQi Z n sz post) args s q_12_unlike.cells q_12_unlike.slots (jA Z n sz)) 63 [(0, jr Z 345), (2, jI v2), (3, jI v3), (4, jI v4), (5, jI v5)] [] := by
            intro v3 C rv3 hw N
            have hn := hw0.2.2.1
            induction N with
            | zero => intro v4 v5 rv4 rv5 h; exact h.elim
            | succ N ih63 =>
              intro v4 v5 rv4 rv5 h
              have h : wp_12_unlike_63 v2 v3 C post (jI2 (wp_12_unlike_63 v2 v3 C post) N) v4 v5 := h
              generalize jI2 (wp_12_unlike_63 v2 v3 C post) N = k63 at h ih63
              unfold wp_12_unlike_63 at h
              refine jg_iload (pc := 63) X d_12_unlike_63 4 rfl ?_
              refine jg_aload_n (pc := 65) X d_12_unlike_65 0 rfl ?_
              refine jg_iload_n (pc := 66) X d_12_unlike_66 2 rfl ?_
              refine jg_pcallVi (pc := 67) X (m_12_size rv3 hw h) jM_12_size kw_1609 (jl_345_12 hn) rfl rfl rfl rfl rfl (Nat.le_of_ble_eq_true rfl) d_12_unlike_67 ⟨(Nat.le_of_ble_eq_true rfl), (Nat.le_of_ble_eq_true rfl)⟩ ⟨(Nat.le_of_ble_eq_true rfl), (Nat.le_of_ble_eq_true rfl)⟩ (fun x72 r74 h => ?_)
              refine jg_icmp_ge (tgt := 164) (pc := 70) X d_12_unlike_70 (by decide) rv5 r74 h (fun c76 h => ?_) (fun c76 h => ?_)
              · refine jg_iload (pc := 164) X d_12_unlike_164 3 rfl ?_
                exact jg_ireturn (pc := 166) X hAe hlocks hr d_12_unlike_166 ⟨(Nat.le_of_ble_eq_true rfl), (Nat.le_of_ble_eq_true rfl)⟩ rfl rv4 hw h
              · refine jg_iload (pc := 73) X d_12_unlike_73 4 rfl ?_
                refine jg_iconst (pc := 75) X d_12_unlike_75 ?_
                refine jg_iadd (pc := 76) X d_12_unlike_76 ?_
                refine jg_istore (pc := 77) X [(6, jI (v5 + 1)), (0, jr Z 345), (2, jI v2), (3, jI v3), (4, jI v4), (5, jI v5)] d_12_unlike_77 (by decide) rfl ?_
                have r77 : jRng (v5 + 1) := by (unfold jRng; exact ⟨by (have z0 : jRng v5 := rv5; have z1 : jRng x72 := r74; unfold jRng at z0 z1; omega), by (have z0 : jRng v5 := rv5; have z1 : jRng x72 := r74; unfold jRng at z0 z1; omega)⟩)
                have jl79 : ∀  (N : Nat) (v4 : Int) (v6 : Int) (rv4 : jRng v4) (rv6 : jRng v6), jI2 (wp_12_unlike_79 v2 v3 v5 C post k63) N v4 v6 → jG p l e q_12_unlike s m args below meth c 9 Z A (jws Z n C) 0 0 (MQ below (jQi Z n sz post) args s q_12_unlike.cells q_12_unlike.slots (jA Z n sz)) 79 [(0, jr Z 345), (2, jI v2), (3, jI v3), (5, jI v5), (4, jI v4), (6, jI v6)] [] := by
                  intro   N
                  have hn := hw0.2.2.1
                  induction N with
                  | zero => intro v4 v6 rv4 rv6 h; exact h.elim
                  | succ N ih79 =>
                    intro v4 v6 rv4 rv6 h
                    have h : wp_12_unlike_79 v2 v3 v5 C post k63 (jI2 (wp_12_unlike_79 v2 v3 v5 C post k63) N) v4 v6 := h
                    generalize jI2 (wp_12_unlike_79 v2 v3 v5 C post k63) N = k79 at h ih79
                    unfold wp_12_unlike_79 at h
                    refine jg_iload (pc := 79) X d_12_unlike_79 5 rfl ?_
                    refine jg_aload_n (pc := 81) X d_12_unlike_81 0 rfl ?_
                    refine jg_iload_n (pc := 82) X d_12_unlike_82 2 rfl ?_
                    refine jg_pcallVi (pc := 83) X (m_12_size rv3 hw h) jM_12_size kw_1609 (jl_345_12 hn) rfl rfl rfl rfl rfl (Nat.le_of_ble_eq_true rfl) d_12_unlike_83 ⟨(Nat.le_of_ble_eq_true rfl), (Nat.le_of_ble_eq_true rfl)⟩ ⟨(Nat.le_of_ble_eq_true rfl), (Nat.le_of_ble_eq_true rfl)⟩ (fun x78 r80 h => ?_)
                    refine jg_icmp_ge (tgt := 158) (pc := 86) X d_12_unlike_86 (by decide) rv6 r80 h (fun c82 h => ?_) (fun c82 h => ?_)
                    · refine jg_iinc (pc := 158) X [(5, jI (v5 + 1)), (0, jr Z 345), (2, jI v2), (3, jI v3), (4, jI v4), (6, jI v6)] d_12_unlike_158 3 rfl (by decide) rfl ?_
                      refine jg_goto (tgt := 63) (pc := 161) X d_12_unlike_161 (by decide) ?_
                      obtain ⟨r83, h⟩ := h
                      refine jg_sub [1, 2, 3, 4, 0] rfl ?_
                      exact ih63 _ _ rv4 r83 h
                    · refine jg_aload_n (pc := 89) X d_12_unlike_89 0 rfl ?_
                      refine jg_iload_n (pc := 90) X d_12_unlike_90 1 rfl ?_
                      refine jg_pcallSi (pc := 91) X (m_12_listOf rv2 hw h) jM_12_listOf kw_1686 rfl rfl (Nat.le_of_ble_eq_true rfl) d_12_unlike_91 ⟨(Nat.le_of_ble_eq_true rfl), (Nat.le_of_ble_eq_true rfl)⟩ ⟨(Nat.le_of_ble_eq_true rfl), (Nat.le_of_ble_eq_true rfl)⟩ (fun x84 r86 h => ?_)
                      refine jg_aload_n (pc := 94) X d_12_unlike_94 0 rfl ?_
                      refine jg_iload_n (pc := 95) X d_12_unlike_95 2 rfl ?_
                      refine jg_iload (pc := 96) X d_12_unlike_96 3 rfl ?_
                      refine jg_pcallVi (pc := 98) X (m_12_keyAt rv3 rv5 hw h) jM_12_keyAt kw_1766 (jl_345_12 hn) rfl rfl rfl rfl rfl (Nat.le_of_ble_eq_true rfl) d_12_unlike_98 ⟨(Nat.le_of_ble_eq_true rfl), (Nat.le_of_ble_eq_true rfl)⟩ ⟨(Nat.le_of_ble_eq_true rfl), (Nat.le_of_ble_eq_true rfl)⟩ (fun x88 r90 h => ?_)
                      refine jg_pcallVi (pc := 101) X (m_12_placeIn r86 r90 hw h) jM_12_placeIn kw_1778 (jl_345_12 hn) rfl rfl rfl rfl rfl (Nat.le_of_ble_eq_true rfl) d_12_unlike_101 ⟨(Nat.le_of_ble_eq_true rfl), (Nat.le_of_ble_eq_true rfl)⟩ ⟨(Nat.le_of_ble_eq_true rfl), (Nat.le_of_ble_eq_true rfl)⟩ (fun x92 r94 h => ?_)
                      refine jg_istore (pc := 104) X [(7, jI x92), (0, jr Z 345), (2, jI v2), (3, jI v3), (5, jI v5), (4, jI v4), (6, jI v6)] d_12_unlike_104 (by decide) rfl ?_
                      refine jg_aload_n (pc := 106) X d_12_unlike_106 1 rfl ?_
                      refine jg_iload_n (pc := 107) X d_12_unlike_107 2 rfl ?_
                      refine jg_pcallSi (pc := 108) X (m_12_listOf rv2 hw h) jM_12_listOf kw_1686 rfl rfl (Nat.le_of_ble_eq_true rfl) d_12_unlike_108 ⟨(Nat.le_of_ble_eq_true rfl), (Nat.le_of_ble_eq_true rfl)⟩ ⟨(Nat.le_of_ble_eq_true rfl), (Nat.le_of_ble_eq_true rfl)⟩ (fun x96 r98 h => ?_)
                      refine jg_aload_n (pc := 111) X d_12_unlike_111 1 rfl ?_
                      refine jg_iload_n (pc := 112) X d_12_unlike_112 3 rfl ?_
                      refine jg_iload (pc := 113) X d_12_unlike_113 6 rfl ?_
                      refine jg_pcallVi (pc := 115) X (m_12_keyAt rv3 rv6 hw h) jM_12_keyAt kw_1766 (jl_345_12 hn) rfl rfl rfl rfl rfl (Nat.le_of_ble_eq_true rfl) d_12_unlike_115 ⟨(Nat.le_of_ble_eq_true rfl), (Nat.le_of_ble_eq_true rfl)⟩ ⟨(Nat.le_of_ble_eq_true rfl), (Nat.le_of_ble_eq_true rfl)⟩ (fun x100 r102 h => ?_)
                      refine jg_pcallVi (pc := 118) X (m_12_placeIn r98 r102 hw h) jM_12_placeIn kw_1778 (jl_345_12 hn) rfl rfl rfl rfl rfl (Nat.le_of_ble_eq_true rfl) d_12_unlike_118 ⟨(Nat.le_of_ble_eq_true rfl), (Nat.le_of_ble_eq_true rfl)⟩ ⟨(Nat.le_of_ble_eq_true rfl), (Nat.le_of_ble_eq_true rfl)⟩ (fun x104 r106 h => ?_)
                      refine jg_istore (pc := 121) X [(8, jI x104), (7, jI x92), (0, jr Z 345), (2, jI v2), (3, jI v3), (5, jI v5), (4, jI v4), (6, jI v6)] d_12_unlike_121 (by decide) rfl ?_
                      refine jg_iload (pc := 123) X d_12_unlike_123 6 rfl ?_
                      refine jg_iload (pc := 125) X d_12_unlike_125 1 rfl ?_
                      refine jg_iconst (pc := 127) X d_12_unlike_127 ?_
                      refine jg_icmp_eq (tgt := 148) (pc := 128) X d_12_unlike_128 (by decide) r94 (⟨by decide, by decide⟩ : jRng (-1)) h (fun c108 h => ?_) (fun c108 h => ?_)
                      · refine jg_iconst (pc := 148) X d_12_unlike_148 ?_
                        refine jg_iadd (pc := 149) X d_12_unlike_149 ?_
                        refine jg_istore (pc := 150) X [(4, jI (v4 + 0)), (8, jI x104), (7, jI x92), (0, jr Z 345), (2, jI v2), (3, jI v3), (5, jI v5), (6, jI v6)] d_12_unlike_150 (by decide) rfl ?_
                        refine jg_iinc (pc := 152) X [(6, jI (v6 + 1)), (4, jI (v4 + 0)), (8, jI x104), (7, jI x92), (0, jr Z 345), (2, jI v2), (3, jI v3), (5, jI v5)] d_12_unlike_152 7 rfl (by decide) rfl ?_
                        refine jg_goto (tgt := 79) (pc := 155) X d_12_unlike_155 (by decide) ?_
                        have r109 : jRng (v4 + 0) := by (unfold jRng; exact ⟨by (have z0 : jRng v4 := rv4; unfold jRng at z0; omega), by (have z0 : jRng v4 := rv4; unfold jRng at z0; omega)⟩)
                        have r110 : jRng (v6 + 1) := by (unfold jRng; exact ⟨by (have z0 : jRng v6 := rv6; have z1 : jRng x78 := r80; unfold jRng at z0 z1; omega), by (have z0 : jRng v6 := rv6; have z1 : jRng x78 := r80; unfold jRng at z0 z1; omega)⟩)
                        refine jg_sub [4, 5, 6, 7, 1, 0] rfl ?_
                        exact ih79 _ _ r109 r110 h
                      · refine jg_iload (pc := 131) X d_12_unlike_131 0 rfl ?_
                        refine jg_iconst (pc := 133) X d_12_unlike_133 ?_
                        refine jg_icmp_eq (tgt := 148) (pc := 134) X d_12_unlike_134 (by decide) r106 (⟨by decide, by decide⟩ : jRng (-1)) h (fun c111 h => ?_) (fun c111 h => ?_)
                        · refine jg_iconst (pc := 148) X d_12_unlike_148 ?_
                          refine jg_iadd (pc := 149) X d_12_unlike_149 ?_
                          refine jg_istore (pc := 150) X [(4, jI (v4 + 0)), (8, jI x104), (7, jI x92), (0, jr Z 345), (2, jI v2), (3, jI v3), (5, jI v5), (6, jI v6)] d_12_unlike_150 (by decide) rfl ?_
                          refine jg_iinc (pc := 152) X [(6, jI (v6 + 1)), (4, jI (v4 + 0)), (8, jI x104), (7, jI x92), (0, jr Z 345), (2, jI v2), (3, jI v3), (5, jI v5)] d_12_unlike_152 7 rfl (by decide) rfl ?_
                          refine jg_goto (tgt := 79) (pc := 155) X d_12_unlike_155 (by decide) ?_
                          have r112 : jRng (v4 + 0) := by (unfold jRng; exact ⟨by (have z0 : jRng v4 := rv4; unfold jRng at z0; omega), by (have z0 : jRng v4 := rv4; unfold jRng at z0; omega)⟩)
                          have r113 : jRng (v6 + 1) := by (unfold jRng; exact ⟨by (have z0 : jRng v6 := rv6; have z1 : jRng x78 := r80; unfold jRng at z0 z1; omega), by (have z0 : jRng v6 := rv6; have z1 : jRng x78 := r80; unfold jRng at z0 z1; omega)⟩)
                          refine jg_sub [4, 5, 6, 7, 1, 0] rfl ?_
                          exact ih79 _ _ r112 r113 h
                        · refine jg_iload (pc := 137) X d_12_unlike_137 1 rfl ?_
                          refine jg_iload (pc := 139) X d_12_unlike_139 0 rfl ?_
                          refine jg_icmp_le (tgt := 148) (pc := 141) X d_12_unlike_141 (by decide) r94 r106 h (fun c114 h => ?_) (fun c114 h => ?_)
                          · refine jg_iconst (pc := 148) X d_12_unlike_148 ?_
                            refine jg_iadd (pc := 149) X d_12_unlike_149 ?_
                            refine jg_istore (pc := 150) X [(4, jI (v4 + 0)), (8, jI x104), (7, jI x92), (0, jr Z 345), (2, jI v2), (3, jI v3), (5, jI v5), (6, jI v6)] d_12_unlike_150 (by decide) rfl ?_
                            refine jg_iinc (pc := 152) X [(6, jI (v6 + 1)), (4, jI (v4 + 0)), (8, jI x104), (7, jI x92), (0, jr Z 345), (2, jI v2), (3, jI v3), (5, jI v5)] d_12_unlike_152 7 rfl (by decide) rfl ?_
                            refine jg_goto (tgt := 79) (pc := 155) X d_12_unlike_155 (by decide) ?_
                            have r115 : jRng (v4 + 0) := by (unfold jRng; exact ⟨by (have z0 : jRng v4 := rv4; unfold jRng at z0; omega), by (have z0 : jRng v4 := rv4; unfold jRng at z0; omega)⟩)
                            have r116 : jRng (v6 + 1) := by (unfold jRng; exact ⟨by (have z0 : jRng v6 := rv6; have z1 : jRng x78 := r80; unfold jRng at z0 z1; omega), by (have z0 : jRng v6 := rv6; have z1 : jRng x78 := r80; unfold jRng at z0 z1; omega)⟩)
                            refine jg_sub [4, 5, 6, 7, 1, 0] rfl ?_
                            exact ih79 _ _ r115 r116 h
                          · refine jg_iconst (pc := 144) X d_12_unlike_144 ?_
                            refine jg_goto (tgt := 149) (pc := 145) X d_12_unlike_145 (by decide) ?_
                            refine jg_iadd (pc := 149) X d_12_unlike_149 ?_
                            refine jg_istore (pc := 150) X [(4, jI (v4 + 1)), (8, jI x104), (7, jI x92), (0, jr Z 345), (2, jI v2), (3, jI v3), (5, jI v5), (6, jI v6)] d_12_unlike_150 (by decide) rfl ?_
                            refine jg_iinc (pc := 152) X [(6, jI (v6 + 1)), (4, jI (v4 + 1)), (8, jI x104), (7, jI x92), (0, jr Z 345), (2, jI v2), (3, jI v3), (5, jI v5)] d_12_unlike_152 7 rfl (by decide) rfl ?_
                            refine jg_goto (tgt := 79) (pc := 155) X d_12_unlike_155 (by decide) ?_
                            obtain ⟨r117, h⟩ := h
                            have r118 : jRng (v6 + 1) := by (unfold jRng; exact ⟨by (have z0 : jRng v6 := rv6; have z1 : jRng x78 := r80; unfold jRng at z0 z1; omega), by (have z0 : jRng v6 := rv6; have z1 : jRng x78 := r80; unfold jRng at z0 z1; omega)⟩)
                            refine jg_sub [4, 5, 6, 7, 1, 0] rfl ?_
                            exact ih79 _ _ r117 r118 h
                obtain ⟨N, h⟩ := h
                refine jg_sub [1, 2, 3, 5, 4, 0] rfl ?_
                exact jl79   N _ _ rv4 r77 h
          obtain ⟨N, h⟩ := h
          refine jg_sub [3, 5, 2, 1, 0] rfl ?_
          exact jl63 _ _ r70 w66 N _ _ (⟨by decide, by decide⟩ : jRng 0) (⟨by decide, by decide⟩ : jRng 0) h
        · refine jg_iconst (pc := 50) X d_12_unlike_50 ?_
          exact jg_ireturn (pc := 51) X hAe hlocks hr d_12_unlike_51 ⟨(Nat.le_of_ble_eq_true rfl), (Nat.le_of_ble_eq_true rfl)⟩ rfl (⟨by decide, by decide⟩ : jRng 0) w66 h
    · refine jg_iconst (pc := 50) X d_12_unlike_50 ?_
      exact jg_ireturn (pc := 51) X hAe hlocks hr d_12_unlike_51 ⟨(Nat.le_of_ble_eq_true rfl), (Nat.le_of_ble_eq_true rfl)⟩ rfl (⟨by decide, by decide⟩ : jRng 0) w4 h
  refine jg_aload_n (pc := 0) X d_12_unlike_0 0 rfl ?_
  refine jg_iconst (pc := 1) X d_12_unlike_1 ?_
  refine jgp_12_0 (pc := 2) X (jl_345_12 hn) kw_1473 d_12_unlike_2 ?_
  have w119 := jWF.u (k := 0) (v := 0) hw0 (jl_345_12 hn) (by decide) (⟨by decide, by decide⟩ : jRng 0)
  refine jg_aload_n (pc := 5) X d_12_unlike_5 0 rfl ?_
  refine jg_iload_n (pc := 6) X d_12_unlike_6 1 rfl ?_
  refine jg_pcallSi (pc := 7) X (m_12_noView rv1 w119 h) jM_12_noView kw_1705 rfl rfl (Nat.le_of_ble_eq_true rfl) d_12_unlike_7 ⟨(Nat.le_of_ble_eq_true rfl), (Nat.le_of_ble_eq_true rfl)⟩ ⟨(Nat.le_of_ble_eq_true rfl), (Nat.le_of_ble_eq_true rfl)⟩ (fun x120 r122 h => ?_)
  refine jg_if_ne (tgt := 20) (pc := 10) X d_12_unlike_10 (by decide) r122 h (fun c124 h => ?_) (fun c124 h => ?_)
  · refine jg_iload_n (pc := 13) X d_12_unlike_13 2 rfl ?_
    refine jg_pcallSi (pc := 14) X (m_12_noView rv2 w119 h) jM_12_noView kw_1705 rfl rfl (Nat.le_of_ble_eq_true rfl) d_12_unlike_14 ⟨(Nat.le_of_ble_eq_true rfl), (Nat.le_of_ble_eq_true rfl)⟩ ⟨(Nat.le_of_ble_eq_true rfl), (Nat.le_of_ble_eq_true rfl)⟩ (fun x125 r127 h => ?_)
    refine jg_if_eq (tgt := 24) (pc := 17) X d_12_unlike_17 (by decide) r127 h (fun c129 h => ?_) (fun c129 h => ?_)
    · refine jg_iconst (pc := 24) X d_12_unlike_24 ?_
      refine jg_sub [0, 1, 2] rfl ?_
      exact jb25 _ _ _ _ (⟨by decide, by decide⟩ : jRng 0) rv1 rv2 w119 h
    · refine jg_iconst (pc := 20) X d_12_unlike_20 ?_
      refine jg_goto (tgt := 25) (pc := 21) X d_12_unlike_21 (by decide) ?_
      refine jg_sub [0, 1, 2] rfl ?_
      exact jb25 _ _ _ _ (⟨by decide, by decide⟩ : jRng 1) rv1 rv2 w119 h
  · refine jg_iconst (pc := 20) X d_12_unlike_20 ?_
    refine jg_goto (tgt := 25) (pc := 21) X d_12_unlike_21 (by decide) ?_
    refine jg_sub [0, 1, 2] rfl ?_
    exact jb25 _ _ _ _ (⟨by decide, by decide⟩ : jRng 1) rv1 rv2 w119 h
set_option maxHeartbeats 4000000 in
set_option maxRecDepth 100000 in
theorem m_12_byTried {l : Launch} {Z : jE} {n : Nat} {C : jC} {v1 : Int} {v2 : Int} {v3 : Int} {post : Int → Prop} (rv1 : jRng v1) (rv2 : jRng v2) (rv3 : jRng v3) (hw0 : jWF n C) (h : wp_12_byTried v1 v2 v3 C post) : jCi l y_12_byTried prog_14_method_110_code 6 (.int) q_12_byTried Z n C [jr Z 345, jI v1, jI v2, jI v3] (fun x C9 => C9 = C ∧ post x) := by
  have hn := hw0.2.2.1
  unfold wp_12_byTried at h
  refine jCi_of (lv0 := [(0, jr Z 345), (1, jI v1), (2, jI v2), (3, jI v3)]) (by decide) (Nat.le_of_ble_eq_true rfl) rfl ?_
  intro p e s m args below meth c A sz X hAe hr hlocks
  have jb38 : ∀ (v2 : Int) (v3 : Int) (v4 : Int) (rv2 : jRng v2) (rv3 : jRng v3) (rv4 : jRng v4), wp_12_byTried_38 v2 v3 v4 C post → jG p l e q_12_byTried s m args below meth c 6 Z A (jws Z n C) 0 0 (MQ below (jQi Z n sz (fun x C9 => C9 = C ∧ post x)) args s q_12_byTried.cells q_12_byTried.slots (jA Z n sz)) 38 [(0, jr Z 345), (2, jI v2), (3, jI v3), (4, jI v4)] [] := by
    intro v2 v3 v4 rv2 rv3 rv4 h
    unfold wp_12_byTried_38 at h
    refine jg_iload (pc := 38) X d_12_byTried_38 3 rfl ?_
    refine jg_if_eq (tgt := 48) (pc := 40) X d_12_byTried_40 (by decide) rv4 h (fun c1 h => ?_) (fun c1 h => ?_)
    · refine jg_aload_n (pc := 48) X d_12_byTried_48 0 rfl ?_
      refine jg_sipush (pc := 49) X d_12_byTried_49 rfl ?_
      refine jg_iload_n (pc := 52) X d_12_byTried_52 1 rfl ?_
      refine jg_pcallVi (pc := 53) X (m_12_placeIn (⟨by decide, by decide⟩ : jRng 273) rv2 hw0 h) jM_12_placeIn kw_1778 (jl_345_12 hn) rfl rfl rfl rfl rfl (Nat.le_of_ble_eq_true rfl) d_12_byTried_53 ⟨(Nat.le_of_ble_eq_true rfl), (Nat.le_of_ble_eq_true rfl)⟩ ⟨(Nat.le_of_ble_eq_true rfl), (Nat.le_of_ble_eq_true rfl)⟩ (fun x2 r4 h => ?_)
      refine jg_aload_n (pc := 56) X d_12_byTried_56 0 rfl ?_
      refine jg_sipush (pc := 57) X d_12_byTried_57 rfl ?_
      refine jg_iload_n (pc := 60) X d_12_byTried_60 2 rfl ?_
      refine jg_pcallVi (pc := 61) X (m_12_placeIn (⟨by decide, by decide⟩ : jRng 273) rv3 hw0 h) jM_12_placeIn kw_1778 (jl_345_12 hn) rfl rfl rfl rfl rfl (Nat.le_of_ble_eq_true rfl) d_12_byTried_61 ⟨(Nat.le_of_ble_eq_true rfl), (Nat.le_of_ble_eq_true rfl)⟩ ⟨(Nat.le_of_ble_eq_true rfl), (Nat.le_of_ble_eq_true rfl)⟩ (fun x6 r8 h => ?_)
      refine jg_icmp_le (tgt := 71) (pc := 64) X d_12_byTried_64 (by decide) r4 r8 h (fun c10 h => ?_) (fun c10 h => ?_)
      · refine jg_iconst (pc := 71) X d_12_byTried_71 ?_
        exact jg_ireturn (pc := 72) X hAe hlocks hr d_12_byTried_72 ⟨(Nat.le_of_ble_eq_true rfl), (Nat.le_of_ble_eq_true rfl)⟩ rfl (⟨by decide, by decide⟩ : jRng (-1)) hw0 ⟨rfl, h⟩
      · refine jg_iconst (pc := 67) X d_12_byTried_67 ?_
        refine jg_goto (tgt := 72) (pc := 68) X d_12_byTried_68 (by decide) ?_
        exact jg_ireturn (pc := 72) X hAe hlocks hr d_12_byTried_72 ⟨(Nat.le_of_ble_eq_true rfl), (Nat.le_of_ble_eq_true rfl)⟩ rfl (⟨by decide, by decide⟩ : jRng 1) hw0 ⟨rfl, h⟩
    · refine jg_iload (pc := 43) X d_12_byTried_43 3 rfl ?_
      refine jg_goto (tgt := 72) (pc := 45) X d_12_byTried_45 (by decide) ?_
      exact jg_ireturn (pc := 72) X hAe hlocks hr d_12_byTried_72 ⟨(Nat.le_of_ble_eq_true rfl), (Nat.le_of_ble_eq_true rfl)⟩ rfl rv4 hw0 ⟨rfl, h⟩
  refine jg_iconst (pc := 0) X d_12_byTried_0 ?_
  refine jg_istore (pc := 1) X [(4, jI 0), (0, jr Z 345), (1, jI v1), (2, jI v2), (3, jI v3)] d_12_byTried_1 (by decide) rfl ?_
  refine jg_iconst (pc := 3) X d_12_byTried_3 ?_
  refine jg_istore (pc := 4) X [(5, jI 0), (4, jI 0), (0, jr Z 345), (1, jI v1), (2, jI v2), (3, jI v3)] d_12_byTried_4 (by decide) rfl ?_
  have hw : jWF n C := hw0
  have jl6 : ∀  (N : Nat) (v4 : Int) (v5 : Int) (rv4 : jRng v4) (rv5 : jRng v5), jI2 (wp_12_byTried_6 v1 v2 v3 C post) N v4 v5 → jG p l e q_12_byTried s m args below meth c 6 Z A (jws Z n C) 0 0 (MQ below (jQi Z n sz (fun x C9 => C9 = C ∧ post x)) args s q_12_byTried.cells q_12_byTried.slots (jA Z n sz)) 6 [(0, jr Z 345), (1, jI v1), (2, jI v2), (3, jI v3), (4, jI v4), (5, jI v5)] [] := by
    intro   N
    have hn := hw0.2.2.1
    induction N with
    | zero => intro v4 v5 rv4 rv5 h; exact h.elim
    | succ N ih6 =>
      intro v4 v5 rv4 rv5 h
      have h : wp_12_byTried_6 v1 v2 v3 C post (jI2 (wp_12_byTried_6 v1 v2 v3 C post) N) v4 v5 := h
      generalize jI2 (wp_12_byTried_6 v1 v2 v3 C post) N = k6 at h ih6
      unfold wp_12_byTried_6 at h
      refine jg_iload (pc := 6) X d_12_byTried_6 5 rfl ?_
      refine jg_iload_n (pc := 8) X d_12_byTried_8 1 rfl ?_
      refine jg_icmp_ge (tgt := 38) (pc := 9) X d_12_byTried_9 (by decide) rv5 rv1 h (fun c11 h => ?_) (fun c11 h => ?_)
      · refine jg_sub [0, 2, 3, 4] rfl ?_
        exact jb38 _ _ _ rv2 rv3 rv4 h
      · refine jg_iload (pc := 12) X d_12_byTried_12 4 rfl ?_
        refine jg_if_ne (tgt := 38) (pc := 14) X d_12_byTried_14 (by decide) rv4 h (fun c12 h => ?_) (fun c12 h => ?_)
        · refine jg_aload_n (pc := 17) X d_12_byTried_17 0 rfl ?_
          refine jg_aload_n (pc := 18) X d_12_byTried_18 0 rfl ?_
          refine jgf_12_18 (pc := 19) X (jl_345_12 hn) kw_1491 d_12_byTried_19 ?_
          refine jg_iload (pc := 22) X d_12_byTried_22 5 rfl ?_
          obtain ⟨b13, b14, h⟩ := h
          refine jg_iaload (len := 2) (pc := 24) X d_12_byTried_24 (jl_355_1002 hn) (fun _ => rfl) (by decide) b13 b14 ?_
          refine jg_iload_n (pc := 25) X d_12_byTried_25 2 rfl ?_
          refine jg_iload_n (pc := 26) X d_12_byTried_26 3 rfl ?_
          refine jg_pcallVi (pc := 27) X (m_12_bySort (hw.1 _ _) rv2 rv3 hw h) jM_12_bySort kw_1774 (jl_345_12 hn) rfl rfl rfl rfl rfl (Nat.le_of_ble_eq_true rfl) d_12_byTried_27 ⟨(Nat.le_of_ble_eq_true rfl), (Nat.le_of_ble_eq_true rfl)⟩ ⟨(Nat.le_of_ble_eq_true rfl), (Nat.le_of_ble_eq_true rfl)⟩ (fun x15 r17 h => ?_)
          refine jg_istore (pc := 30) X [(4, jI x15), (0, jr Z 345), (1, jI v1), (2, jI v2), (3, jI v3), (5, jI v5)] d_12_byTried_30 (by decide) rfl ?_
          refine jg_iinc (pc := 32) X [(5, jI (v5 + 1)), (4, jI x15), (0, jr Z 345), (1, jI v1), (2, jI v2), (3, jI v3)] d_12_byTried_32 5 rfl (by decide) rfl ?_
          refine jg_goto (tgt := 6) (pc := 35) X d_12_byTried_35 (by decide) ?_
          have r19 : jRng (v5 + 1) := by (unfold jRng; exact ⟨by (have z0 : jRng v5 := rv5; have z1 : jRng v1 := rv1; unfold jRng at z0 z1; omega), by (have z0 : jRng v5 := rv5; have z1 : jRng v1 := rv1; unfold jRng at z0 z1; omega)⟩)
          refine jg_sub [2, 3, 4, 5, 1, 0] rfl ?_
          exact ih6 _ _ r17 r19 h
        · refine jg_sub [0, 2, 3, 4] rfl ?_
          exact jb38 _ _ _ rv2 rv3 rv4 h
  obtain ⟨N, h⟩ := h
  refine jg_sub [2, 3, 4, 5, 1, 0] rfl ?_
  exact jl6   N _ _ (⟨by decide, by decide⟩ : jRng 0) (⟨by decide, by decide⟩ : jRng 0) h
set_option maxHeartbeats 4000000 in
set_option maxRecDepth 100000 in
theorem m_12_isSorted {l : Launch} {Z : jE} {n : Nat} {C : jC} {v1 : Int} {v2 : Int} {post : Int → Prop} (rv1 : jRng v1) (rv2 : jRng v2) (hw0 : jWF n C) (h : wp_12_isSorted v1 v2 C post) : jCi l y_12_isSorted prog_14_method_109_code 5 (.boolean) q_12_isSorted Z n C [jr Z 345, jI v1, jI v2] (fun x C9 => C9 = C ∧ post x) := by
  have hn := hw0.2.2.1
  unfold wp_12_isSorted at h
  refine jCi_of (lv0 := [(0, jr Z 345), (1, jI v1), (2, jI v2)]) (by decide) (Nat.le_of_ble_eq_true rfl) rfl ?_
  intro p e s m args below meth c A sz X hAe hr hlocks
  refine jg_iconst (pc := 0) X d_12_isSorted_0 ?_
  refine jg_istore_n (pc := 1) X [(3, jI 1), (0, jr Z 345), (1, jI v1), (2, jI v2)] d_12_isSorted_1 (by decide) rfl ?_
  refine jg_iconst (pc := 2) X d_12_isSorted_2 ?_
  refine jg_istore (pc := 3) X [(4, jI 0), (3, jI 1), (0, jr Z 345), (1, jI v1), (2, jI v2)] d_12_isSorted_3 (by decide) rfl ?_
  have hw : jWF n C := hw0
  have jl5 : ∀  (N : Nat) (v3 : Int) (v4 : Int) (rv3 : jRng v3) (rv4 : jRng v4), jI2 (wp_12_isSorted_5 v1 v2 C post) N v3 v4 → jG p l e q_12_isSorted s m args below meth c 5 Z A (jws Z n C) 0 0 (MQ below (jQi Z n sz (fun x C9 => C9 = C ∧ post x)) args s q_12_isSorted.cells q_12_isSorted.slots (jA Z n sz)) 5 [(0, jr Z 345), (1, jI v1), (2, jI v2), (3, jI v3), (4, jI v4)] [] := by
    intro   N
    have hn := hw0.2.2.1
    induction N with
    | zero => intro v3 v4 rv3 rv4 h; exact h.elim
    | succ N ih5 =>
      intro v3 v4 rv3 rv4 h
      have h : wp_12_isSorted_5 v1 v2 C post (jI2 (wp_12_isSorted_5 v1 v2 C post) N) v3 v4 := h
      generalize jI2 (wp_12_isSorted_5 v1 v2 C post) N = k5 at h ih5
      unfold wp_12_isSorted_5 at h
      refine jg_iload (pc := 5) X d_12_isSorted_5 4 rfl ?_
      refine jg_iconst (pc := 7) X d_12_isSorted_7 ?_
      refine jg_iadd (pc := 8) X d_12_isSorted_8 ?_
      refine jg_aload_n (pc := 9) X d_12_isSorted_9 0 rfl ?_
      refine jg_iload_n (pc := 10) X d_12_isSorted_10 1 rfl ?_
      refine jg_pcallVi (pc := 11) X (m_12_size rv1 hw h) jM_12_size kw_1609 (jl_345_12 hn) rfl rfl rfl rfl rfl (Nat.le_of_ble_eq_true rfl) d_12_isSorted_11 ⟨(Nat.le_of_ble_eq_true rfl), (Nat.le_of_ble_eq_true rfl)⟩ ⟨(Nat.le_of_ble_eq_true rfl), (Nat.le_of_ble_eq_true rfl)⟩ (fun x1 r3 h => ?_)
      obtain ⟨r5, h⟩ := h
      refine jg_icmp_ge (tgt := 57) (pc := 14) X d_12_isSorted_14 (by decide) r5 r3 h (fun c6 h => ?_) (fun c6 h => ?_)
      · refine jg_iload_n (pc := 57) X d_12_isSorted_57 3 rfl ?_
        obtain ⟨b7, h⟩ := h
        exact jg_ireturn (pc := 58) X hAe hlocks hr d_12_isSorted_58 ⟨(Nat.le_of_ble_eq_true rfl), (Nat.le_of_ble_eq_true rfl)⟩ (jnar_b b7) rv3 hw ⟨rfl, h⟩
      · refine jg_iload_n (pc := 17) X d_12_isSorted_17 3 rfl ?_
        refine jg_if_eq (tgt := 57) (pc := 18) X d_12_isSorted_18 (by decide) rv3 h (fun c8 h => ?_) (fun c8 h => ?_)
        · refine jg_iload_n (pc := 57) X d_12_isSorted_57 3 rfl ?_
          obtain ⟨b9, h⟩ := h
          exact jg_ireturn (pc := 58) X hAe hlocks hr d_12_isSorted_58 ⟨(Nat.le_of_ble_eq_true rfl), (Nat.le_of_ble_eq_true rfl)⟩ (jnar_b b9) rv3 hw ⟨rfl, h⟩
        · refine jg_aload_n (pc := 21) X d_12_isSorted_21 0 rfl ?_
          refine jg_iload_n (pc := 22) X d_12_isSorted_22 2 rfl ?_
          refine jg_aload_n (pc := 23) X d_12_isSorted_23 0 rfl ?_
          refine jg_iload_n (pc := 24) X d_12_isSorted_24 1 rfl ?_
          refine jg_iload (pc := 25) X d_12_isSorted_25 4 rfl ?_
          refine jg_pcallVi (pc := 27) X (m_12_keyAt rv1 rv4 hw h) jM_12_keyAt kw_1766 (jl_345_12 hn) rfl rfl rfl rfl rfl (Nat.le_of_ble_eq_true rfl) d_12_isSorted_27 ⟨(Nat.le_of_ble_eq_true rfl), (Nat.le_of_ble_eq_true rfl)⟩ ⟨(Nat.le_of_ble_eq_true rfl), (Nat.le_of_ble_eq_true rfl)⟩ (fun x10 r12 h => ?_)
          refine jg_aload_n (pc := 30) X d_12_isSorted_30 0 rfl ?_
          refine jg_iload_n (pc := 31) X d_12_isSorted_31 1 rfl ?_
          refine jg_iload (pc := 32) X d_12_isSorted_32 4 rfl ?_
          refine jg_iconst (pc := 34) X d_12_isSorted_34 ?_
          refine jg_iadd (pc := 35) X d_12_isSorted_35 ?_
          refine jg_pcallVi (pc := 36) X (m_12_keyAt rv1 r5 hw h) jM_12_keyAt kw_1766 (jl_345_12 hn) rfl rfl rfl rfl rfl (Nat.le_of_ble_eq_true rfl) d_12_isSorted_36 ⟨(Nat.le_of_ble_eq_true rfl), (Nat.le_of_ble_eq_true rfl)⟩ ⟨(Nat.le_of_ble_eq_true rfl), (Nat.le_of_ble_eq_true rfl)⟩ (fun x14 r16 h => ?_)
          refine jg_pcallVi (pc := 39) X (m_12_byTried rv2 r12 r16 hw h) jM_12_byTried kw_1980 (jl_345_12 hn) rfl rfl rfl rfl rfl (Nat.le_of_ble_eq_true rfl) d_12_isSorted_39 ⟨(Nat.le_of_ble_eq_true rfl), (Nat.le_of_ble_eq_true rfl)⟩ ⟨(Nat.le_of_ble_eq_true rfl), (Nat.le_of_ble_eq_true rfl)⟩ (fun x18 r20 h => ?_)
          refine jg_if_ge (tgt := 49) (pc := 42) X d_12_isSorted_42 (by decide) r20 h (fun c22 h => ?_) (fun c22 h => ?_)
          · refine jg_iconst (pc := 49) X d_12_isSorted_49 ?_
            refine jg_istore_n (pc := 50) X [(3, jI 0), (0, jr Z 345), (1, jI v1), (2, jI v2), (4, jI v4)] d_12_isSorted_50 (by decide) rfl ?_
            refine jg_iinc (pc := 51) X [(4, jI (v4 + 1)), (3, jI 0), (0, jr Z 345), (1, jI v1), (2, jI v2)] d_12_isSorted_51 4 rfl (by decide) rfl ?_
            refine jg_goto (tgt := 5) (pc := 54) X d_12_isSorted_54 (by decide) ?_
            refine jg_sub [2, 3, 4, 1, 0] rfl ?_
            exact ih5 _ _ (⟨by decide, by decide⟩ : jRng 0) r5 h
          · refine jg_iconst (pc := 45) X d_12_isSorted_45 ?_
            refine jg_goto (tgt := 50) (pc := 46) X d_12_isSorted_46 (by decide) ?_
            refine jg_istore_n (pc := 50) X [(3, jI 1), (0, jr Z 345), (1, jI v1), (2, jI v2), (4, jI v4)] d_12_isSorted_50 (by decide) rfl ?_
            refine jg_iinc (pc := 51) X [(4, jI (v4 + 1)), (3, jI 1), (0, jr Z 345), (1, jI v1), (2, jI v2)] d_12_isSorted_51 4 rfl (by decide) rfl ?_
            refine jg_goto (tgt := 5) (pc := 54) X d_12_isSorted_54 (by decide) ?_
            refine jg_sub [2, 3, 4, 1, 0] rfl ?_
            exact ih5 _ _ (⟨by decide, by decide⟩ : jRng 1) r5 h
  obtain ⟨N, h⟩ := h
  refine jg_sub [2, 3, 4, 1, 0] rfl ?_
  exact jl5   N _ _ (⟨by decide, by decide⟩ : jRng 1) (⟨by decide, by decide⟩ : jRng 0) h
set_option maxHeartbeats 4000000 in
set_option maxRecDepth 100000 in
theorem m_12_sortsTelling {l : Launch} {Z : jE} {n : Nat} {C : jC} {v1 : Int} {post : Int → jC → Prop} (rv1 : jRng v1) (hw0 : jWF n C) (h : wp_12_sortsTelling v1 C post) : jCi l y_12_sortsTelling prog_14_method_111_code 5 (.int) q_12_sortsTelling Z n C [jr Z 345, jI v1] post := by
  have hn := hw0.2.2.1
  unfold wp_12_sortsTelling at h
  refine jCi_of (lv0 := [(0, jr Z 345), (1, jI v1)]) (by decide) (Nat.le_of_ble_eq_true rfl) rfl ?_
  intro p e s m args below meth c A sz X hAe hr hlocks
  refine jg_aload_n (pc := 0) X d_12_sortsTelling_0 0 rfl ?_
  refine jg_iload_n (pc := 1) X d_12_sortsTelling_1 1 rfl ?_
  refine jg_iconst (pc := 2) X d_12_sortsTelling_2 ?_
  refine jg_pcallVi (pc := 3) X (m_12_isSorted rv1 (⟨by decide, by decide⟩ : jRng 0) hw0 h) jM_12_isSorted kw_1976 (jl_345_12 hn) rfl rfl rfl rfl rfl (Nat.le_of_ble_eq_true rfl) d_12_sortsTelling_3 ⟨(Nat.le_of_ble_eq_true rfl), (Nat.le_of_ble_eq_true rfl)⟩ ⟨(Nat.le_of_ble_eq_true rfl), (Nat.le_of_ble_eq_true rfl)⟩ (fun x1 r3 h => ?_)
  refine jg_if_eq (tgt := 11) (pc := 6) X d_12_sortsTelling_6 (by decide) r3 h (fun c5 h => ?_) (fun c5 h => ?_)
  · refine jg_iconst (pc := 11) X d_12_sortsTelling_11 ?_
    refine jg_aload_n (pc := 12) X d_12_sortsTelling_12 0 rfl ?_
    refine jg_pcallVi (pc := 13) X (m_12_columns hw0 h) jM_12_columns kw_1590 (jl_345_12 hn) rfl rfl rfl rfl rfl (Nat.le_of_ble_eq_true rfl) d_12_sortsTelling_13 ⟨(Nat.le_of_ble_eq_true rfl), (Nat.le_of_ble_eq_true rfl)⟩ ⟨(Nat.le_of_ble_eq_true rfl), (Nat.le_of_ble_eq_true rfl)⟩ (fun x6 r8 h => ?_)
    refine jg_imul (pc := 16) X d_12_sortsTelling_16 ?_
    refine jg_istore_n (pc := 17) X [(2, jI (2 * x6)), (0, jr Z 345), (1, jI v1)] d_12_sortsTelling_17 (by decide) rfl ?_
    refine jg_iconst (pc := 18) X d_12_sortsTelling_18 ?_
    refine jg_istore_n (pc := 19) X [(3, jI 0), (2, jI (2 * x6)), (0, jr Z 345), (1, jI v1)] d_12_sortsTelling_19 (by decide) rfl ?_
    obtain ⟨r10, h⟩ := h
    have jl20 : ∀ (v2 : Int) (rv2 : jRng v2) (N : Nat) (v3 : Int) (C : jC) (rv3 : jRng v3) (hw : jWF n C), jI2 (wp_12_sortsTelling_20 v1 v2 post) N v3 C → jG p l e q_12_sortsTelling s m args below meth c 5 Z A (jws Z n C) 0 0 (MQ below (jQi Z n sz post) args s q_12_sortsTelling.cells q_12_sortsTelling.slots (jA Z n sz)) 20 [(0, jr Z 345), (1, jI v1), (2, jI v2), (3, jI v3)] [] := by
      intro v2 rv2 N
      have hn := hw0.2.2.1
      induction N with
      | zero => intro v3 C rv3 hw h; exact h.elim
      | succ N ih20 =>
        intro v3 C rv3 hw h
        have h : wp_12_sortsTelling_20 v1 v2 post (jI2 (wp_12_sortsTelling_20 v1 v2 post) N) v3 C := h
        generalize jI2 (wp_12_sortsTelling_20 v1 v2 post) N = k20 at h ih20
        unfold wp_12_sortsTelling_20 at h
        refine jg_iload_n (pc := 20) X d_12_sortsTelling_20 3 rfl ?_
        refine jg_iload_n (pc := 21) X d_12_sortsTelling_21 2 rfl ?_
        refine jg_icmp_ge (tgt := 49) (pc := 22) X d_12_sortsTelling_22 (by decide) rv3 rv2 h (fun c11 h => ?_) (fun c11 h => ?_)
        · refine jg_iconst (pc := 49) X d_12_sortsTelling_49 ?_
          refine jg_istore_n (pc := 50) X [(3, jI 0), (0, jr Z 345), (1, jI v1), (2, jI v2)] d_12_sortsTelling_50 (by decide) rfl ?_
          have jl51 : ∀  (N : Nat) (v3 : Int) (C : jC) (rv3 : jRng v3) (hw : jWF n C), jI2 (wp_12_sortsTelling_51 v1 v2 post) N v3 C → jG p l e q_12_sortsTelling s m args below meth c 5 Z A (jws Z n C) 0 0 (MQ below (jQi Z n sz post) args s q_12_sortsTelling.cells q_12_sortsTelling.slots (jA Z n sz)) 51 [(0, jr Z 345), (1, jI v1), (2, jI v2), (3, jI v3)] [] := by
            intro   N
            have hn := hw0.2.2.1
            induction N with
            | zero => intro v3 C rv3 hw h; exact h.elim
            | succ N ih51 =>
              intro v3 C rv3 hw h
              have h : wp_12_sortsTelling_51 v1 v2 post (jI2 (wp_12_sortsTelling_51 v1 v2 post) N) v3 C := h
              generalize jI2 (wp_12_sortsTelling_51 v1 v2 post) N = k51 at h ih51
              unfold wp_12_sortsTelling_51 at h
              refine jg_iload_n (pc := 51) X d_12_sortsTelling_51 3 rfl ?_
              refine jg_iload_n (pc := 52) X d_12_sortsTelling_52 2 rfl ?_
              refine jg_icmp_ge (tgt := 113) (pc := 53) X d_12_sortsTelling_53 (by decide) rv3 rv2 h (fun c12 h => ?_) (fun c12 h => ?_)
              · refine jg_iconst (pc := 113) X d_12_sortsTelling_113 ?_
                exact jg_ireturn (pc := 114) X hAe hlocks hr d_12_sortsTelling_114 ⟨(Nat.le_of_ble_eq_true rfl), (Nat.le_of_ble_eq_true rfl)⟩ rfl (⟨by decide, by decide⟩ : jRng (-1)) hw h
              · refine jg_iconst (pc := 56) X d_12_sortsTelling_56 ?_
                refine jg_istore (pc := 57) X [(4, jI 0), (0, jr Z 345), (1, jI v1), (2, jI v2), (3, jI v3)] d_12_sortsTelling_57 (by decide) rfl ?_
                have jl59 : ∀  (N : Nat) (v4 : Int) (C : jC) (rv4 : jRng v4) (hw : jWF n C), jI2 (wp_12_sortsTelling_59 v1 v2 v3 post k51) N v4 C → jG p l e q_12_sortsTelling s m args below meth c 5 Z A (jws Z n C) 0 0 (MQ below (jQi Z n sz post) args s q_12_sortsTelling.cells q_12_sortsTelling.slots (jA Z n sz)) 59 [(0, jr Z 345), (1, jI v1), (2, jI v2), (3, jI v3), (4, jI v4)] [] := by
                  intro   N
                  have hn := hw0.2.2.1
                  induction N with
                  | zero => intro v4 C rv4 hw h; exact h.elim
                  | succ N ih59 =>
                    intro v4 C rv4 hw h
                    have h : wp_12_sortsTelling_59 v1 v2 v3 post k51 (jI2 (wp_12_sortsTelling_59 v1 v2 v3 post k51) N) v4 C := h
                    generalize jI2 (wp_12_sortsTelling_59 v1 v2 v3 post k51) N = k59 at h ih59
                    unfold wp_12_sortsTelling_59 at h
                    refine jg_iload (pc := 59) X d_12_sortsTelling_59 4 rfl ?_
                    refine jg_iload_n (pc := 61) X d_12_sortsTelling_61 2 rfl ?_
                    refine jg_icmp_ge (tgt := 107) (pc := 62) X d_12_sortsTelling_62 (by decide) rv4 rv2 h (fun c13 h => ?_) (fun c13 h => ?_)
                    · refine jg_iinc (pc := 107) X [(3, jI (v3 + 1)), (0, jr Z 345), (1, jI v1), (2, jI v2), (4, jI v4)] d_12_sortsTelling_107 3 rfl (by decide) rfl ?_
                      refine jg_goto (tgt := 51) (pc := 110) X d_12_sortsTelling_110 (by decide) ?_
                      obtain ⟨r14, h⟩ := h
                      refine jg_sub [1, 2, 3, 0] rfl ?_
                      exact ih51 _ _ r14 hw h
                    · refine jg_aload_n (pc := 65) X d_12_sortsTelling_65 0 rfl ?_
                      refine jgf_12_18 (pc := 66) X (jl_345_12 hn) kw_1491 d_12_sortsTelling_66 ?_
                      refine jg_iconst (pc := 69) X d_12_sortsTelling_69 ?_
                      refine jg_iload_n (pc := 70) X d_12_sortsTelling_70 3 rfl ?_
                      refine jg_iastore (len := 2) (pc := 71) X d_12_sortsTelling_71 (jl_355_1002 hn) (fun _ => rfl) (by decide) (by decide) (by decide) ?_
                      have w17 := jWF.u (k := 0) (v := v3) hw (jl_355_1002 hn) (by decide) rv3
                      refine jg_aload_n (pc := 72) X d_12_sortsTelling_72 0 rfl ?_
                      refine jgf_12_18 (pc := 73) X (jl_345_12 hn) kw_1491 d_12_sortsTelling_73 ?_
                      refine jg_iconst (pc := 76) X d_12_sortsTelling_76 ?_
                      refine jg_iload (pc := 77) X d_12_sortsTelling_77 4 rfl ?_
                      refine jg_iastore (len := 2) (pc := 79) X d_12_sortsTelling_79 (jl_355_1002 hn) (fun _ => rfl) (by decide) (by decide) (by decide) ?_
                      have w20 := jWF.u (k := 1) (v := v4) w17 (jl_355_1002 hn) (by decide) rv4
                      refine jg_iload_n (pc := 80) X d_12_sortsTelling_80 3 rfl ?_
                      refine jg_iconst (pc := 81) X d_12_sortsTelling_81 ?_
                      have r21 : jRng (v3.tdiv 2) := jrng_tdiv rv3 (by decide) (by decide)
                      refine jg_idiv (pc := 82) X d_12_sortsTelling_82 rv3 (by decide) (by decide) ?_
                      refine jg_iload (pc := 83) X d_12_sortsTelling_83 4 rfl ?_
                      refine jg_iconst (pc := 85) X d_12_sortsTelling_85 ?_
                      have r22 : jRng (v4.tdiv 2) := jrng_tdiv rv4 (by decide) (by decide)
                      refine jg_idiv (pc := 86) X d_12_sortsTelling_86 rv4 (by decide) (by decide) ?_
                      refine jg_icmp_eq (tgt := 101) (pc := 87) X d_12_sortsTelling_87 (by decide) r21 r22 h (fun c23 h => ?_) (fun c23 h => ?_)
                      · refine jg_iinc (pc := 101) X [(4, jI (v4 + 1)), (0, jr Z 345), (1, jI v1), (2, jI v2), (3, jI v3)] d_12_sortsTelling_101 4 rfl (by decide) rfl ?_
                        refine jg_goto (tgt := 59) (pc := 104) X d_12_sortsTelling_104 (by decide) ?_
                        have r24 : jRng (v4 + 1) := by (unfold jRng; exact ⟨by (have z0 : jRng v4 := rv4; have z1 : jRng v2 := rv2; unfold jRng at z0 z1; omega), by (have z0 : jRng v4 := rv4; have z1 : jRng v2 := rv2; unfold jRng at z0 z1; omega)⟩)
                        refine jg_sub [1, 2, 3, 4, 0] rfl ?_
                        exact ih59 _ _ r24 w20 h
                      · refine jg_aload_n (pc := 90) X d_12_sortsTelling_90 0 rfl ?_
                        refine jg_iload_n (pc := 91) X d_12_sortsTelling_91 1 rfl ?_
                        refine jg_iconst (pc := 92) X d_12_sortsTelling_92 ?_
                        refine jg_pcallVi (pc := 93) X (m_12_isSorted rv1 (⟨by decide, by decide⟩ : jRng 2) w20 h) jM_12_isSorted kw_1976 (jl_345_12 hn) rfl rfl rfl rfl rfl (Nat.le_of_ble_eq_true rfl) d_12_sortsTelling_93 ⟨(Nat.le_of_ble_eq_true rfl), (Nat.le_of_ble_eq_true rfl)⟩ ⟨(Nat.le_of_ble_eq_true rfl), (Nat.le_of_ble_eq_true rfl)⟩ (fun x25 r27 h => ?_)
                        refine jg_if_eq (tgt := 101) (pc := 96) X d_12_sortsTelling_96 (by decide) r27 h (fun c29 h => ?_) (fun c29 h => ?_)
                        · refine jg_iinc (pc := 101) X [(4, jI (v4 + 1)), (0, jr Z 345), (1, jI v1), (2, jI v2), (3, jI v3)] d_12_sortsTelling_101 4 rfl (by decide) rfl ?_
                          refine jg_goto (tgt := 59) (pc := 104) X d_12_sortsTelling_104 (by decide) ?_
                          have r30 : jRng (v4 + 1) := by (unfold jRng; exact ⟨by (have z0 : jRng v4 := rv4; have z1 : jRng v2 := rv2; unfold jRng at z0 z1; omega), by (have z0 : jRng v4 := rv4; have z1 : jRng v2 := rv2; unfold jRng at z0 z1; omega)⟩)
                          refine jg_sub [1, 2, 3, 4, 0] rfl ?_
                          exact ih59 _ _ r30 w20 h
                        · refine jg_iconst (pc := 99) X d_12_sortsTelling_99 ?_
                          exact jg_ireturn (pc := 100) X hAe hlocks hr d_12_sortsTelling_100 ⟨(Nat.le_of_ble_eq_true rfl), (Nat.le_of_ble_eq_true rfl)⟩ rfl (⟨by decide, by decide⟩ : jRng 2) w20 h
                obtain ⟨N, h⟩ := h
                refine jg_sub [1, 2, 3, 4, 0] rfl ?_
                exact jl59   N _ _ (⟨by decide, by decide⟩ : jRng 0) hw h
          obtain ⟨N, h⟩ := h
          refine jg_sub [1, 2, 3, 0] rfl ?_
          exact jl51   N _ _ (⟨by decide, by decide⟩ : jRng 0) hw h
        · refine jg_aload_n (pc := 25) X d_12_sortsTelling_25 0 rfl ?_
          refine jgf_12_18 (pc := 26) X (jl_345_12 hn) kw_1491 d_12_sortsTelling_26 ?_
          refine jg_iconst (pc := 29) X d_12_sortsTelling_29 ?_
          refine jg_iload_n (pc := 30) X d_12_sortsTelling_30 3 rfl ?_
          refine jg_iastore (len := 2) (pc := 31) X d_12_sortsTelling_31 (jl_355_1002 hn) (fun _ => rfl) (by decide) (by decide) (by decide) ?_
          have w33 := jWF.u (k := 0) (v := v3) hw (jl_355_1002 hn) (by decide) rv3
          refine jg_aload_n (pc := 32) X d_12_sortsTelling_32 0 rfl ?_
          refine jg_iload_n (pc := 33) X d_12_sortsTelling_33 1 rfl ?_
          refine jg_iconst (pc := 34) X d_12_sortsTelling_34 ?_
          refine jg_pcallVi (pc := 35) X (m_12_isSorted rv1 (⟨by decide, by decide⟩ : jRng 1) w33 h) jM_12_isSorted kw_1976 (jl_345_12 hn) rfl rfl rfl rfl rfl (Nat.le_of_ble_eq_true rfl) d_12_sortsTelling_35 ⟨(Nat.le_of_ble_eq_true rfl), (Nat.le_of_ble_eq_true rfl)⟩ ⟨(Nat.le_of_ble_eq_true rfl), (Nat.le_of_ble_eq_true rfl)⟩ (fun x34 r36 h => ?_)
          refine jg_if_eq (tgt := 43) (pc := 38) X d_12_sortsTelling_38 (by decide) r36 h (fun c38 h => ?_) (fun c38 h => ?_)
          · refine jg_iinc (pc := 43) X [(3, jI (v3 + 1)), (0, jr Z 345), (1, jI v1), (2, jI v2)] d_12_sortsTelling_43 3 rfl (by decide) rfl ?_
            refine jg_goto (tgt := 20) (pc := 46) X d_12_sortsTelling_46 (by decide) ?_
            have r39 : jRng (v3 + 1) := by (unfold jRng; exact ⟨by (have z0 : jRng v3 := rv3; have z1 : jRng v2 := rv2; unfold jRng at z0 z1; omega), by (have z0 : jRng v3 := rv3; have z1 : jRng v2 := rv2; unfold jRng at z0 z1; omega)⟩)
            refine jg_sub [1, 2, 3, 0] rfl ?_
            exact ih20 _ _ r39 w33 h
          · refine jg_iconst (pc := 41) X d_12_sortsTelling_41 ?_
            exact jg_ireturn (pc := 42) X hAe hlocks hr d_12_sortsTelling_42 ⟨(Nat.le_of_ble_eq_true rfl), (Nat.le_of_ble_eq_true rfl)⟩ rfl (⟨by decide, by decide⟩ : jRng 1) w33 h
    obtain ⟨N, h⟩ := h
    refine jg_sub [2, 3, 1, 0] rfl ?_
    exact jl20 _ r10 N _ _ (⟨by decide, by decide⟩ : jRng 0) hw0 h
  · refine jg_iconst (pc := 9) X d_12_sortsTelling_9 ?_
    exact jg_ireturn (pc := 10) X hAe hlocks hr d_12_sortsTelling_10 ⟨(Nat.le_of_ble_eq_true rfl), (Nat.le_of_ble_eq_true rfl)⟩ rfl (⟨by decide, by decide⟩ : jRng 0) hw0 h

set_option maxHeartbeats 4000000 in
set_option maxRecDepth 100000 in
theorem m_12_find {l : Launch} {Z : jE} {n : Nat} {C : jC} {v1 : Int} {v2 : Int} {v3 : Int} {v4 : Int} {post : Int → jC → Prop} (rv1 : jRng v1) (rv2 : jRng v2) (rv3 : jRng v3) (rv4 : jRng v4) (hw0 : jWF n C) (h : wp_12_find v1 v2 v3 v4 C post) : jCi l y_12_find prog_14_method_127_code 5 (.int) q_12_find Z n C [jr Z 345, jI v1, jI v2, jI v3, jI v4] post := by
  have hn := hw0.2.2.1
  unfold wp_12_find at h
  refine jCi_of (lv0 := [(0, jr Z 345), (1, jI v1), (2, jI v2), (3, jI v3), (4, jI v4)]) (by decide) (Nat.le_of_ble_eq_true rfl) rfl ?_
  intro p e s m args below meth c A sz X hAe hr hlocks
  have jb26 : ∀ (s0 : Int) (v1 : Int) (v2 : Int) (v3 : Int) (v4 : Int) (C : jC) (rs0 : jRng s0) (rv1 : jRng v1) (rv2 : jRng v2) (rv3 : jRng v3) (rv4 : jRng v4) (hw : jWF n C), wp_12_find_26 s0 v1 v2 v3 v4 C post → jG p l e q_12_find s m args below meth c 5 Z A (jws Z n C) 0 0 (MQ below (jQi Z n sz post) args s q_12_find.cells q_12_find.slots (jA Z n sz)) 26 [(0, jr Z 345), (1, jI v1), (2, jI v2), (3, jI v3), (4, jI v4)] [jI s0, jr Z 345] := by
    intro s0 v1 v2 v3 v4 C rs0 rv1 rv2 rv3 rv4 hw h
    unfold wp_12_find_26 at h
    refine jg_iconst (pc := 26) X d_12_find_26 ?_
    refine jg_callVi (pc := 27) X (m_12_throwsIf rs0 (⟨by decide, by decide⟩ : jRng 1) hw h) jM_12_throwsIf kw_1697 (jl_345_12 hn) rfl rfl rfl rfl rfl (Nat.le_of_ble_eq_true rfl) d_12_find_27 ⟨(Nat.le_of_ble_eq_true rfl), (Nat.le_of_ble_eq_true rfl)⟩ ⟨(Nat.le_of_ble_eq_true rfl), (Nat.le_of_ble_eq_true rfl)⟩ (fun x1 C2 r3 w4 h => ?_)
    refine jg_if_ne (tgt := 66) (pc := 30) X d_12_find_30 (by decide) r3 h (fun c5 h => ?_) (fun c5 h => ?_)
    · refine jg_aload_n (pc := 33) X d_12_find_33 0 rfl ?_
      refine jg_iload (pc := 34) X d_12_find_34 4 rfl ?_
      refine jg_if_lt (tgt := 54) (pc := 36) X d_12_find_36 (by decide) rv4 h (fun c6 h => ?_) (fun c6 h => ?_)
      · refine jg_iconst (pc := 54) X d_12_find_54 ?_
        refine jg_goto (tgt := 59) (pc := 55) X d_12_find_55 (by decide) ?_
        refine jg_iconst (pc := 59) X d_12_find_59 ?_
        refine jg_callVi (pc := 60) X (m_12_throwsIf (⟨by decide, by decide⟩ : jRng 1) (⟨by decide, by decide⟩ : jRng 2) w4 h) jM_12_throwsIf kw_1697 (jl_345_12 hn) rfl rfl rfl rfl rfl (Nat.le_of_ble_eq_true rfl) d_12_find_60 ⟨(Nat.le_of_ble_eq_true rfl), (Nat.le_of_ble_eq_true rfl)⟩ ⟨(Nat.le_of_ble_eq_true rfl), (Nat.le_of_ble_eq_true rfl)⟩ (fun x7 C8 r9 w10 h => ?_)
        refine jg_if_eq (tgt := 68) (pc := 63) X d_12_find_63 (by decide) r9 h (fun c11 h => ?_) (fun c11 h => ?_)
        · refine jg_aload_n (pc := 68) X d_12_find_68 0 rfl ?_
          refine jg_iload_n (pc := 69) X d_12_find_69 1 rfl ?_
          refine jg_iload_n (pc := 70) X d_12_find_70 2 rfl ?_
          refine jg_iload_n (pc := 71) X d_12_find_71 3 rfl ?_
          refine jg_iload (pc := 72) X d_12_find_72 4 rfl ?_
          refine jg_pcallVi (pc := 74) X (m_12_firstPlace rv1 rv2 rv3 rv4 w10 h) jM_12_firstPlace kw_1996 (jl_345_12 hn) rfl rfl rfl rfl rfl (Nat.le_of_ble_eq_true rfl) d_12_find_74 ⟨(Nat.le_of_ble_eq_true rfl), (Nat.le_of_ble_eq_true rfl)⟩ ⟨(Nat.le_of_ble_eq_true rfl), (Nat.le_of_ble_eq_true rfl)⟩ (fun x12 r14 h => ?_)
          exact jg_ireturn (pc := 77) X hAe hlocks hr d_12_find_77 ⟨(Nat.le_of_ble_eq_true rfl), (Nat.le_of_ble_eq_true rfl)⟩ rfl r14 w10 h
        · refine jg_iconst (pc := 66) X d_12_find_66 ?_
          exact jg_ireturn (pc := 67) X hAe hlocks hr d_12_find_67 ⟨(Nat.le_of_ble_eq_true rfl), (Nat.le_of_ble_eq_true rfl)⟩ rfl (⟨by decide, by decide⟩ : jRng 0) w10 h
      · refine jg_iload_n (pc := 39) X d_12_find_39 3 rfl ?_
        refine jg_ldk (pc := 40) (-1000000) X kw_1617 (by decide) d_12_find_40 ?_
        refine jg_icmp_eq (tgt := 58) (pc := 42) X d_12_find_42 (by decide) rv3 (⟨by decide, by decide⟩ : jRng (-1000000)) h (fun c16 h => ?_) (fun c16 h => ?_)
        · refine jg_iconst (pc := 58) X d_12_find_58 ?_
          refine jg_iconst (pc := 59) X d_12_find_59 ?_
          refine jg_callVi (pc := 60) X (m_12_throwsIf (⟨by decide, by decide⟩ : jRng 0) (⟨by decide, by decide⟩ : jRng 2) w4 h) jM_12_throwsIf kw_1697 (jl_345_12 hn) rfl rfl rfl rfl rfl (Nat.le_of_ble_eq_true rfl) d_12_find_60 ⟨(Nat.le_of_ble_eq_true rfl), (Nat.le_of_ble_eq_true rfl)⟩ ⟨(Nat.le_of_ble_eq_true rfl), (Nat.le_of_ble_eq_true rfl)⟩ (fun x17 C18 r19 w20 h => ?_)
          refine jg_if_eq (tgt := 68) (pc := 63) X d_12_find_63 (by decide) r19 h (fun c21 h => ?_) (fun c21 h => ?_)
          · refine jg_aload_n (pc := 68) X d_12_find_68 0 rfl ?_
            refine jg_iload_n (pc := 69) X d_12_find_69 1 rfl ?_
            refine jg_iload_n (pc := 70) X d_12_find_70 2 rfl ?_
            refine jg_iload_n (pc := 71) X d_12_find_71 3 rfl ?_
            refine jg_iload (pc := 72) X d_12_find_72 4 rfl ?_
            refine jg_pcallVi (pc := 74) X (m_12_firstPlace rv1 rv2 rv3 rv4 w20 h) jM_12_firstPlace kw_1996 (jl_345_12 hn) rfl rfl rfl rfl rfl (Nat.le_of_ble_eq_true rfl) d_12_find_74 ⟨(Nat.le_of_ble_eq_true rfl), (Nat.le_of_ble_eq_true rfl)⟩ ⟨(Nat.le_of_ble_eq_true rfl), (Nat.le_of_ble_eq_true rfl)⟩ (fun x22 r24 h => ?_)
            exact jg_ireturn (pc := 77) X hAe hlocks hr d_12_find_77 ⟨(Nat.le_of_ble_eq_true rfl), (Nat.le_of_ble_eq_true rfl)⟩ rfl r24 w20 h
          · refine jg_iconst (pc := 66) X d_12_find_66 ?_
            exact jg_ireturn (pc := 67) X hAe hlocks hr d_12_find_67 ⟨(Nat.le_of_ble_eq_true rfl), (Nat.le_of_ble_eq_true rfl)⟩ rfl (⟨by decide, by decide⟩ : jRng 0) w20 h
        · refine jg_aload_n (pc := 45) X d_12_find_45 0 rfl ?_
          refine jg_iload_n (pc := 46) X d_12_find_46 2 rfl ?_
          refine jg_iload_n (pc := 47) X d_12_find_47 3 rfl ?_
          refine jg_pcallVi (pc := 48) X (m_12_isValue rv2 rv3 w4 h) jM_12_isValue kw_1806 (jl_345_12 hn) rfl rfl rfl rfl rfl (Nat.le_of_ble_eq_true rfl) d_12_find_48 ⟨(Nat.le_of_ble_eq_true rfl), (Nat.le_of_ble_eq_true rfl)⟩ ⟨(Nat.le_of_ble_eq_true rfl), (Nat.le_of_ble_eq_true rfl)⟩ (fun x26 r28 h => ?_)
          refine jg_if_ne (tgt := 58) (pc := 51) X d_12_find_51 (by decide) r28 h (fun c30 h => ?_) (fun c30 h => ?_)
          · refine jg_iconst (pc := 54) X d_12_find_54 ?_
            refine jg_goto (tgt := 59) (pc := 55) X d_12_find_55 (by decide) ?_
            refine jg_iconst (pc := 59) X d_12_find_59 ?_
            refine jg_callVi (pc := 60) X (m_12_throwsIf (⟨by decide, by decide⟩ : jRng 1) (⟨by decide, by decide⟩ : jRng 2) w4 h) jM_12_throwsIf kw_1697 (jl_345_12 hn) rfl rfl rfl rfl rfl (Nat.le_of_ble_eq_true rfl) d_12_find_60 ⟨(Nat.le_of_ble_eq_true rfl), (Nat.le_of_ble_eq_true rfl)⟩ ⟨(Nat.le_of_ble_eq_true rfl), (Nat.le_of_ble_eq_true rfl)⟩ (fun x31 C32 r33 w34 h => ?_)
            refine jg_if_eq (tgt := 68) (pc := 63) X d_12_find_63 (by decide) r33 h (fun c35 h => ?_) (fun c35 h => ?_)
            · refine jg_aload_n (pc := 68) X d_12_find_68 0 rfl ?_
              refine jg_iload_n (pc := 69) X d_12_find_69 1 rfl ?_
              refine jg_iload_n (pc := 70) X d_12_find_70 2 rfl ?_
              refine jg_iload_n (pc := 71) X d_12_find_71 3 rfl ?_
              refine jg_iload (pc := 72) X d_12_find_72 4 rfl ?_
              refine jg_pcallVi (pc := 74) X (m_12_firstPlace rv1 rv2 rv3 rv4 w34 h) jM_12_firstPlace kw_1996 (jl_345_12 hn) rfl rfl rfl rfl rfl (Nat.le_of_ble_eq_true rfl) d_12_find_74 ⟨(Nat.le_of_ble_eq_true rfl), (Nat.le_of_ble_eq_true rfl)⟩ ⟨(Nat.le_of_ble_eq_true rfl), (Nat.le_of_ble_eq_true rfl)⟩ (fun x36 r38 h => ?_)
              exact jg_ireturn (pc := 77) X hAe hlocks hr d_12_find_77 ⟨(Nat.le_of_ble_eq_true rfl), (Nat.le_of_ble_eq_true rfl)⟩ rfl r38 w34 h
            · refine jg_iconst (pc := 66) X d_12_find_66 ?_
              exact jg_ireturn (pc := 67) X hAe hlocks hr d_12_find_67 ⟨(Nat.le_of_ble_eq_true rfl), (Nat.le_of_ble_eq_true rfl)⟩ rfl (⟨by decide, by decide⟩ : jRng 0) w34 h
          · refine jg_iconst (pc := 58) X d_12_find_58 ?_
            refine jg_iconst (pc := 59) X d_12_find_59 ?_
            refine jg_callVi (pc := 60) X (m_12_throwsIf (⟨by decide, by decide⟩ : jRng 0) (⟨by decide, by decide⟩ : jRng 2) w4 h) jM_12_throwsIf kw_1697 (jl_345_12 hn) rfl rfl rfl rfl rfl (Nat.le_of_ble_eq_true rfl) d_12_find_60 ⟨(Nat.le_of_ble_eq_true rfl), (Nat.le_of_ble_eq_true rfl)⟩ ⟨(Nat.le_of_ble_eq_true rfl), (Nat.le_of_ble_eq_true rfl)⟩ (fun x40 C41 r42 w43 h => ?_)
            refine jg_if_eq (tgt := 68) (pc := 63) X d_12_find_63 (by decide) r42 h (fun c44 h => ?_) (fun c44 h => ?_)
            · refine jg_aload_n (pc := 68) X d_12_find_68 0 rfl ?_
              refine jg_iload_n (pc := 69) X d_12_find_69 1 rfl ?_
              refine jg_iload_n (pc := 70) X d_12_find_70 2 rfl ?_
              refine jg_iload_n (pc := 71) X d_12_find_71 3 rfl ?_
              refine jg_iload (pc := 72) X d_12_find_72 4 rfl ?_
              refine jg_pcallVi (pc := 74) X (m_12_firstPlace rv1 rv2 rv3 rv4 w43 h) jM_12_firstPlace kw_1996 (jl_345_12 hn) rfl rfl rfl rfl rfl (Nat.le_of_ble_eq_true rfl) d_12_find_74 ⟨(Nat.le_of_ble_eq_true rfl), (Nat.le_of_ble_eq_true rfl)⟩ ⟨(Nat.le_of_ble_eq_true rfl), (Nat.le_of_ble_eq_true rfl)⟩ (fun x45 r47 h => ?_)
              exact jg_ireturn (pc := 77) X hAe hlocks hr d_12_find_77 ⟨(Nat.le_of_ble_eq_true rfl), (Nat.le_of_ble_eq_true rfl)⟩ rfl r47 w43 h
            · refine jg_iconst (pc := 66) X d_12_find_66 ?_
              exact jg_ireturn (pc := 67) X hAe hlocks hr d_12_find_67 ⟨(Nat.le_of_ble_eq_true rfl), (Nat.le_of_ble_eq_true rfl)⟩ rfl (⟨by decide, by decide⟩ : jRng 0) w43 h
    · refine jg_iconst (pc := 66) X d_12_find_66 ?_
      exact jg_ireturn (pc := 67) X hAe hlocks hr d_12_find_67 ⟨(Nat.le_of_ble_eq_true rfl), (Nat.le_of_ble_eq_true rfl)⟩ rfl (⟨by decide, by decide⟩ : jRng 0) w4 h
  refine jg_aload_n (pc := 0) X d_12_find_0 0 rfl ?_
  refine jg_iconst (pc := 1) X d_12_find_1 ?_
  refine jgp_12_0 (pc := 2) X (jl_345_12 hn) kw_1473 d_12_find_2 ?_
  have w49 := jWF.u (k := 0) (v := 0) hw0 (jl_345_12 hn) (by decide) (⟨by decide, by decide⟩ : jRng 0)
  refine jg_aload_n (pc := 5) X d_12_find_5 0 rfl ?_
  refine jg_iload_n (pc := 6) X d_12_find_6 1 rfl ?_
  refine jg_pcallSi (pc := 7) X (m_12_noView rv1 w49 h) jM_12_noView kw_1705 rfl rfl (Nat.le_of_ble_eq_true rfl) d_12_find_7 ⟨(Nat.le_of_ble_eq_true rfl), (Nat.le_of_ble_eq_true rfl)⟩ ⟨(Nat.le_of_ble_eq_true rfl), (Nat.le_of_ble_eq_true rfl)⟩ (fun x50 r52 h => ?_)
  refine jg_if_ne (tgt := 21) (pc := 10) X d_12_find_10 (by decide) r52 h (fun c54 h => ?_) (fun c54 h => ?_)
  · refine jg_aload_n (pc := 13) X d_12_find_13 0 rfl ?_
    refine jg_iload_n (pc := 14) X d_12_find_14 2 rfl ?_
    refine jg_pcallVi (pc := 15) X (m_12_noColumn rv2 w49 h) jM_12_noColumn kw_1798 (jl_345_12 hn) rfl rfl rfl rfl rfl (Nat.le_of_ble_eq_true rfl) d_12_find_15 ⟨(Nat.le_of_ble_eq_true rfl), (Nat.le_of_ble_eq_true rfl)⟩ ⟨(Nat.le_of_ble_eq_true rfl), (Nat.le_of_ble_eq_true rfl)⟩ (fun x55 r57 h => ?_)
    refine jg_if_eq (tgt := 25) (pc := 18) X d_12_find_18 (by decide) r57 h (fun c59 h => ?_) (fun c59 h => ?_)
    · refine jg_iconst (pc := 25) X d_12_find_25 ?_
      refine jg_sub [0, 1, 2, 3, 4] rfl ?_
      exact jb26 _ _ _ _ _ _ (⟨by decide, by decide⟩ : jRng 0) rv1 rv2 rv3 rv4 w49 h
    · refine jg_iconst (pc := 21) X d_12_find_21 ?_
      refine jg_goto (tgt := 26) (pc := 22) X d_12_find_22 (by decide) ?_
      refine jg_sub [0, 1, 2, 3, 4] rfl ?_
      exact jb26 _ _ _ _ _ _ (⟨by decide, by decide⟩ : jRng 1) rv1 rv2 rv3 rv4 w49 h
  · refine jg_iconst (pc := 21) X d_12_find_21 ?_
    refine jg_goto (tgt := 26) (pc := 22) X d_12_find_22 (by decide) ?_
    refine jg_sub [0, 1, 2, 3, 4] rfl ?_
    exact jb26 _ _ _ _ _ _ (⟨by decide, by decide⟩ : jRng 1) rv1 rv2 rv3 rv4 w49 h
set_option maxHeartbeats 4000000 in
set_option maxRecDepth 100000 in
theorem m_12_log {l : Launch} {Z : jE} {n : Nat} {C : jC} {v1 : Int} {v2 : Int} {post : Int → jC → Prop} (rv1 : jRng v1) (rv2 : jRng v2) (hw0 : jWF n C) (h : wp_12_log v1 v2 C post) : jCi l y_12_log prog_14_method_128_code 3 (.int) q_12_log Z n C [jr Z 345, jI v1, jI v2] post := by
  have hn := hw0.2.2.1
  unfold wp_12_log at h
  refine jCi_of (lv0 := [(0, jr Z 345), (1, jI v1), (2, jI v2)]) (by decide) (Nat.le_of_ble_eq_true rfl) rfl ?_
  intro p e s m args below meth c A sz X hAe hr hlocks
  have jb20 : ∀ (s0 : Int) (v1 : Int) (v2 : Int) (C : jC) (rs0 : jRng s0) (rv1 : jRng v1) (rv2 : jRng v2) (hw : jWF n C), wp_12_log_20 s0 v1 v2 C post → jG p l e q_12_log s m args below meth c 3 Z A (jws Z n C) 0 0 (MQ below (jQi Z n sz post) args s q_12_log.cells q_12_log.slots (jA Z n sz)) 20 [(0, jr Z 345), (1, jI v1), (2, jI v2)] [jI s0, jr Z 345] := by
    intro s0 v1 v2 C rs0 rv1 rv2 hw h
    unfold wp_12_log_20 at h
    refine jg_iconst (pc := 20) X d_12_log_20 ?_
    refine jg_callVi (pc := 21) X (m_12_throwsIf rs0 (⟨by decide, by decide⟩ : jRng 1) hw h) jM_12_throwsIf kw_1697 (jl_345_12 hn) rfl rfl rfl rfl rfl (Nat.le_of_ble_eq_true rfl) d_12_log_21 ⟨(Nat.le_of_ble_eq_true rfl), (Nat.le_of_ble_eq_true rfl)⟩ ⟨(Nat.le_of_ble_eq_true rfl), (Nat.le_of_ble_eq_true rfl)⟩ (fun x1 C2 r3 w4 h => ?_)
    refine jg_if_eq (tgt := 29) (pc := 24) X d_12_log_24 (by decide) r3 h (fun c5 h => ?_) (fun c5 h => ?_)
    · refine jg_iload_n (pc := 29) X d_12_log_29 1 rfl ?_
      refine jg_iconst (pc := 30) X d_12_log_30 ?_
      refine jg_aload_n (pc := 31) X d_12_log_31 0 rfl ?_
      refine jgf_12_1 (pc := 32) X (jl_345_12 hn) kw_1474 d_12_log_32 ?_
      refine jg_iconst (pc := 35) X d_12_log_35 ?_
      refine jg_iaload (len := 8954) (pc := 36) X d_12_log_36 (jl_346_9954 hn) (fun _ => rfl) (by decide) (by decide) (by decide) ?_
      refine jg_iconst (pc := 37) X d_12_log_37 ?_
      refine jg_isub (pc := 38) X d_12_log_38 ?_
      obtain ⟨r8, h⟩ := h
      refine jg_pcallSi (pc := 39) X (m_12_in rv1 (⟨by decide, by decide⟩ : jRng 0) r8 w4 h) jM_12_in kw_1638 rfl rfl (Nat.le_of_ble_eq_true rfl) d_12_log_39 ⟨(Nat.le_of_ble_eq_true rfl), (Nat.le_of_ble_eq_true rfl)⟩ ⟨(Nat.le_of_ble_eq_true rfl), (Nat.le_of_ble_eq_true rfl)⟩ (fun x9 r11 h => ?_)
      refine jg_if_eq (tgt := 62) (pc := 42) X d_12_log_42 (by decide) r11 h (fun c13 h => ?_) (fun c13 h => ?_)
      · refine jg_iconst (pc := 62) X d_12_log_62 ?_
        exact jg_ireturn (pc := 63) X hAe hlocks hr d_12_log_63 ⟨(Nat.le_of_ble_eq_true rfl), (Nat.le_of_ble_eq_true rfl)⟩ rfl (⟨by decide, by decide⟩ : jRng (-1)) w4 h
      · refine jg_aload_n (pc := 45) X d_12_log_45 0 rfl ?_
        refine jgf_12_1 (pc := 46) X (jl_345_12 hn) kw_1474 d_12_log_46 ?_
        refine jg_sipush (pc := 49) X d_12_log_49 rfl ?_
        refine jg_iconst (pc := 52) X d_12_log_52 ?_
        refine jg_iload_n (pc := 53) X d_12_log_53 1 rfl ?_
        refine jg_imul (pc := 54) X d_12_log_54 ?_
        refine jg_iadd (pc := 55) X d_12_log_55 ?_
        refine jg_iload_n (pc := 56) X d_12_log_56 2 rfl ?_
        refine jg_iadd (pc := 57) X d_12_log_57 ?_
        obtain ⟨b14, b15, h⟩ := h
        refine jg_iaload (len := 8954) (pc := 58) X d_12_log_58 (jl_346_9954 hn) (fun _ => rfl) (by decide) b14 b15 ?_
        refine jg_goto (tgt := 63) (pc := 59) X d_12_log_59 (by decide) ?_
        exact jg_ireturn (pc := 63) X hAe hlocks hr d_12_log_63 ⟨(Nat.le_of_ble_eq_true rfl), (Nat.le_of_ble_eq_true rfl)⟩ rfl (w4.1 _ _) w4 h
    · refine jg_iconst (pc := 27) X d_12_log_27 ?_
      exact jg_ireturn (pc := 28) X hAe hlocks hr d_12_log_28 ⟨(Nat.le_of_ble_eq_true rfl), (Nat.le_of_ble_eq_true rfl)⟩ rfl (⟨by decide, by decide⟩ : jRng 0) w4 h
  refine jg_aload_n (pc := 0) X d_12_log_0 0 rfl ?_
  refine jg_iconst (pc := 1) X d_12_log_1 ?_
  refine jgp_12_0 (pc := 2) X (jl_345_12 hn) kw_1473 d_12_log_2 ?_
  have w16 := jWF.u (k := 0) (v := 0) hw0 (jl_345_12 hn) (by decide) (⟨by decide, by decide⟩ : jRng 0)
  refine jg_aload_n (pc := 5) X d_12_log_5 0 rfl ?_
  refine jg_iload_n (pc := 6) X d_12_log_6 2 rfl ?_
  refine jg_iconst (pc := 7) X d_12_log_7 ?_
  refine jg_iconst (pc := 8) X d_12_log_8 ?_
  refine jg_pcallSi (pc := 9) X (m_12_in rv2 (⟨by decide, by decide⟩ : jRng 0) (⟨by decide, by decide⟩ : jRng 4) w16 h) jM_12_in kw_1638 rfl rfl (Nat.le_of_ble_eq_true rfl) d_12_log_9 ⟨(Nat.le_of_ble_eq_true rfl), (Nat.le_of_ble_eq_true rfl)⟩ ⟨(Nat.le_of_ble_eq_true rfl), (Nat.le_of_ble_eq_true rfl)⟩ (fun x17 r19 h => ?_)
  refine jg_if_ne (tgt := 19) (pc := 12) X d_12_log_12 (by decide) r19 h (fun c21 h => ?_) (fun c21 h => ?_)
  · refine jg_iconst (pc := 15) X d_12_log_15 ?_
    refine jg_goto (tgt := 20) (pc := 16) X d_12_log_16 (by decide) ?_
    refine jg_sub [0, 1, 2] rfl ?_
    exact jb20 _ _ _ _ (⟨by decide, by decide⟩ : jRng 1) rv1 rv2 w16 h
  · refine jg_iconst (pc := 19) X d_12_log_19 ?_
    refine jg_sub [0, 1, 2] rfl ?_
    exact jb20 _ _ _ _ (⟨by decide, by decide⟩ : jRng 0) rv1 rv2 w16 h
set_option maxHeartbeats 4000000 in
set_option maxRecDepth 100000 in
theorem m_12_count {l : Launch} {Z : jE} {n : Nat} {C : jC} {v1 : Int} {post : Int → jC → Prop} (rv1 : jRng v1) (hw0 : jWF n C) (h : wp_12_count v1 C post) : jCi l y_12_count prog_14_method_129_code 2 (.int) q_12_count Z n C [jr Z 345, jI v1] post := by
  have hn := hw0.2.2.1
  unfold wp_12_count at h
  refine jCi_of (lv0 := [(0, jr Z 345), (1, jI v1)]) (by decide) (Nat.le_of_ble_eq_true rfl) rfl ?_
  intro p e s m args below meth c A sz X hAe hr hlocks
  refine jg_aload_n (pc := 0) X d_12_count_0 0 rfl ?_
  refine jg_iconst (pc := 1) X d_12_count_1 ?_
  refine jgp_12_0 (pc := 2) X (jl_345_12 hn) kw_1473 d_12_count_2 ?_
  have w1 := jWF.u (k := 0) (v := 0) hw0 (jl_345_12 hn) (by decide) (⟨by decide, by decide⟩ : jRng 0)
  refine jg_iload_n (pc := 5) X d_12_count_5 1 rfl ?_
  by_cases c2 : v1 = 0
  · rw [if_pos c2] at h
    refine jg_tswIn (tgt := 40) (pc := 6) X d_12_count_6 rv1 (by omega) (by omega) (by rw [c2]; rfl) (by decide) ?_
    refine jg_aload_n (pc := 40) X d_12_count_40 0 rfl ?_
    refine jg_pcallVi (pc := 41) X (m_12_columns w1 h) jM_12_columns kw_1590 (jl_345_12 hn) rfl rfl rfl rfl rfl (Nat.le_of_ble_eq_true rfl) d_12_count_41 ⟨(Nat.le_of_ble_eq_true rfl), (Nat.le_of_ble_eq_true rfl)⟩ ⟨(Nat.le_of_ble_eq_true rfl), (Nat.le_of_ble_eq_true rfl)⟩ (fun x17 r19 h => ?_)
    exact jg_ireturn (pc := 44) X hAe hlocks hr d_12_count_44 ⟨(Nat.le_of_ble_eq_true rfl), (Nat.le_of_ble_eq_true rfl)⟩ rfl r19 w1 h
  · rw [if_neg c2] at h
    by_cases c3 : v1 = 1
    · rw [if_pos c3] at h
      refine jg_tswIn (tgt := 45) (pc := 6) X d_12_count_6 rv1 (by omega) (by omega) (by rw [c3]; rfl) (by decide) ?_
      refine jg_aload_n (pc := 45) X d_12_count_45 0 rfl ?_
      refine jg_pcallVi (pc := 46) X (m_12_rows w1 h) jM_12_rows kw_1605 (jl_345_12 hn) rfl rfl rfl rfl rfl (Nat.le_of_ble_eq_true rfl) d_12_count_46 ⟨(Nat.le_of_ble_eq_true rfl), (Nat.le_of_ble_eq_true rfl)⟩ ⟨(Nat.le_of_ble_eq_true rfl), (Nat.le_of_ble_eq_true rfl)⟩ (fun x13 r15 h => ?_)
      exact jg_ireturn (pc := 49) X hAe hlocks hr d_12_count_49 ⟨(Nat.le_of_ble_eq_true rfl), (Nat.le_of_ble_eq_true rfl)⟩ rfl r15 w1 h
    · rw [if_neg c3] at h
      by_cases c4 : v1 = 2
      · rw [if_pos c4] at h
        refine jg_tswIn (tgt := 50) (pc := 6) X d_12_count_6 rv1 (by omega) (by omega) (by rw [c4]; rfl) (by decide) ?_
        refine jg_aload_n (pc := 50) X d_12_count_50 0 rfl ?_
        refine jgf_12_1 (pc := 51) X (jl_345_12 hn) kw_1474 d_12_count_51 ?_
        refine jg_iconst (pc := 54) X d_12_count_54 ?_
        refine jg_iaload (len := 8954) (pc := 55) X d_12_count_55 (jl_346_9954 hn) (fun _ => rfl) (by decide) (by decide) (by decide) ?_
        exact jg_ireturn (pc := 56) X hAe hlocks hr d_12_count_56 ⟨(Nat.le_of_ble_eq_true rfl), (Nat.le_of_ble_eq_true rfl)⟩ rfl (w1.1 _ _) w1 h
      · rw [if_neg c4] at h
        by_cases c5 : v1 = 3
        · rw [if_pos c5] at h
          refine jg_tswIn (tgt := 57) (pc := 6) X d_12_count_6 rv1 (by omega) (by omega) (by rw [c5]; rfl) (by decide) ?_
          refine jg_aload_n (pc := 57) X d_12_count_57 0 rfl ?_
          refine jgf_12_1 (pc := 58) X (jl_345_12 hn) kw_1474 d_12_count_58 ?_
          refine jg_iconst (pc := 61) X d_12_count_61 ?_
          refine jg_iaload (len := 8954) (pc := 62) X d_12_count_62 (jl_346_9954 hn) (fun _ => rfl) (by decide) (by decide) (by decide) ?_
          exact jg_ireturn (pc := 63) X hAe hlocks hr d_12_count_63 ⟨(Nat.le_of_ble_eq_true rfl), (Nat.le_of_ble_eq_true rfl)⟩ rfl (w1.1 _ _) w1 h
        · rw [if_neg c5] at h
          by_cases c6 : v1 = 4
          · rw [if_pos c6] at h
            refine jg_tswIn (tgt := 64) (pc := 6) X d_12_count_6 rv1 (by omega) (by omega) (by rw [c6]; rfl) (by decide) ?_
            refine jg_aload_n (pc := 64) X d_12_count_64 0 rfl ?_
            refine jgf_12_1 (pc := 65) X (jl_345_12 hn) kw_1474 d_12_count_65 ?_
            refine jg_iconst (pc := 68) X d_12_count_68 ?_
            refine jg_iaload (len := 8954) (pc := 69) X d_12_count_69 (jl_346_9954 hn) (fun _ => rfl) (by decide) (by decide) (by decide) ?_
            exact jg_ireturn (pc := 70) X hAe hlocks hr d_12_count_70 ⟨(Nat.le_of_ble_eq_true rfl), (Nat.le_of_ble_eq_true rfl)⟩ rfl (w1.1 _ _) w1 h
          · rw [if_neg c6] at h
            refine jg_tswOut (tgt := 71) (pc := 6) X d_12_count_6 rv1 (by omega) (by decide) ?_
            refine jg_iconst (pc := 71) X d_12_count_71 ?_
            exact jg_ireturn (pc := 72) X hAe hlocks hr d_12_count_72 ⟨(Nat.le_of_ble_eq_true rfl), (Nat.le_of_ble_eq_true rfl)⟩ rfl (⟨by decide, by decide⟩ : jRng (-1)) w1 h

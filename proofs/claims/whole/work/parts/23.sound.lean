set_option maxHeartbeats 4000000 in
set_option maxRecDepth 100000 in
theorem m_9_readGrid {l : Launch} {Z : jE} {n : Nat} {C : jC} {v2 : Int} {v3 : Int} {post : Int → jC → Prop} (tv2 : jT n v2 2) (rv3 : jRng v3) (hw0 : jWF n C) (h : wp_9_readGrid v2 v3 C post) : jCi l y_9_readGrid prog_11_method_23_code 5 (.boolean) q_9_readGrid Z n C [jr Z 3, jr Z 1, jr Z v2, jI v3] post := by
  have hn := hw0.2.2.1
  unfold wp_9_readGrid at h
  refine jCi_of (lv0 := [(0, jr Z 3), (1, jr Z 1), (2, jr Z v2), (3, jI v3)]) (by decide) (Nat.le_of_ble_eq_true rfl) rfl ?_
  intro p e s m args below meth c A sz X hAe hr hlocks
  refine jg_aload_n (pc := 0) X d_9_readGrid_0 0 rfl ?_
  refine jg_callVv (pc := 1) X (m_9_beginRow hw0 h) jM_9_beginRow kw_568 (jl_3_9 hn) rfl rfl rfl rfl rfl (Nat.le_of_ble_eq_true rfl) d_9_readGrid_1 ⟨(Nat.le_of_ble_eq_true rfl), (Nat.le_of_ble_eq_true rfl)⟩ ⟨(Nat.le_of_ble_eq_true rfl), (Nat.le_of_ble_eq_true rfl)⟩ (fun C2 w4 h => ?_)
  refine jg_iload_n (pc := 4) X d_9_readGrid_4 3 rfl ?_
  refine jg_istore (pc := 5) X [(4, jI v3), (0, jr Z 3), (1, jr Z 1), (2, jr Z v2), (3, jI v3)] d_9_readGrid_5 (by decide) rfl ?_
  have jl7 : ∀  (N : Nat) (v4 : Int) (C : jC) (rv4 : jRng v4) (hw : jWF n C), jI2 (wp_9_readGrid_7 v2 post) N v4 C → jG p l e q_9_readGrid s m args below meth c 5 Z A (jws Z n C) 0 0 (MQ below (jQi Z n sz post) args s q_9_readGrid.cells q_9_readGrid.slots (jA Z n sz)) 7 [(0, jr Z 3), (1, jr Z 1), (2, jr Z v2), (4, jI v4)] [] := by
    intro   N
    have hn := hw0.2.2.1
    induction N with
    | zero => intro v4 C rv4 hw h; exact h.elim
    | succ N ih7 =>
      intro v4 C rv4 hw h
      have h : wp_9_readGrid_7 v2 post (jI2 (wp_9_readGrid_7 v2 post) N) v4 C := h
      generalize jI2 (wp_9_readGrid_7 v2 post) N = k7 at h ih7
      unfold wp_9_readGrid_7 at h
      refine jg_iload (pc := 7) X d_9_readGrid_7 3 rfl ?_
      refine jg_aload_n (pc := 9) X d_9_readGrid_9 0 rfl ?_
      refine jgf_9_0 (pc := 10) X (jl_3_9 hn) kw_125 d_9_readGrid_10 ?_
      refine jg_icmp_ge (tgt := 78) (pc := 13) X d_9_readGrid_13 (by decide) rv4 (hw.1 _ _) h (fun c5 h => ?_) (fun c5 h => ?_)
      · have c5 : (C 3 0) ≤ v4 := c5
        refine jg_aload_n (pc := 78) X d_9_readGrid_78 1 rfl ?_
        refine jg_callVv (pc := 79) X (m_5_skipBlanks hw h) jM_5_skipBlanks kw_491 (jl_1_5 hn) rfl rfl rfl rfl rfl (Nat.le_of_ble_eq_true rfl) d_9_readGrid_79 ⟨(Nat.le_of_ble_eq_true rfl), (Nat.le_of_ble_eq_true rfl)⟩ ⟨(Nat.le_of_ble_eq_true rfl), (Nat.le_of_ble_eq_true rfl)⟩ (fun C7 w9 h => ?_)
        refine jg_aload_n (pc := 82) X d_9_readGrid_82 1 rfl ?_
        refine jg_callVi (pc := 83) X (m_5_failHere w9 h) jM_5_failHere kw_555 (jl_1_5 hn) rfl rfl rfl rfl rfl (Nat.le_of_ble_eq_true rfl) d_9_readGrid_83 ⟨(Nat.le_of_ble_eq_true rfl), (Nat.le_of_ble_eq_true rfl)⟩ ⟨(Nat.le_of_ble_eq_true rfl), (Nat.le_of_ble_eq_true rfl)⟩ (fun x10 C11 r12 w13 h => ?_)
        obtain ⟨b14, h⟩ := h
        exact jg_ireturn (pc := 86) X hAe hlocks hr d_9_readGrid_86 ⟨(Nat.le_of_ble_eq_true rfl), (Nat.le_of_ble_eq_true rfl)⟩ (jnar_b b14) r12 w13 h
      · have c5 : ¬ ((C 3 0) ≤ v4) := c5
        refine jg_aload_n (pc := 16) X d_9_readGrid_16 2 rfl ?_
        refine jg_iload (pc := 17) X d_9_readGrid_17 3 rfl ?_
        refine jg_pcallVi (pc := 19) X (m_2_hides tv2 rv4 hw h) jM_2_hides kw_871 tv2 rfl rfl rfl rfl rfl (Nat.le_of_ble_eq_true rfl) d_9_readGrid_19 ⟨(Nat.le_of_ble_eq_true rfl), (Nat.le_of_ble_eq_true rfl)⟩ ⟨(Nat.le_of_ble_eq_true rfl), (Nat.le_of_ble_eq_true rfl)⟩ (fun x15 r17 h => ?_)
        refine jg_if_eq (tgt := 28) (pc := 22) X d_9_readGrid_22 (by decide) r17 h (fun c19 h => ?_) (fun c19 h => ?_)
        · refine jg_aload_n (pc := 28) X d_9_readGrid_28 1 rfl ?_
          refine jg_aload_n (pc := 29) X d_9_readGrid_29 0 rfl ?_
          refine jg_iload (pc := 30) X d_9_readGrid_30 3 rfl ?_
          refine jg_pcallVi (pc := 32) X (m_9_kindAsked rv4 hw h) jM_9_kindAsked kw_572 (jl_3_9 hn) rfl rfl rfl rfl rfl (Nat.le_of_ble_eq_true rfl) d_9_readGrid_32 ⟨(Nat.le_of_ble_eq_true rfl), (Nat.le_of_ble_eq_true rfl)⟩ ⟨(Nat.le_of_ble_eq_true rfl), (Nat.le_of_ble_eq_true rfl)⟩ (fun x20 r22 h => ?_)
          refine jg_callVi (pc := 35) X (m_5_takeCell r22 hw h) jM_5_takeCell kw_576 (jl_1_5 hn) rfl rfl rfl rfl rfl (Nat.le_of_ble_eq_true rfl) d_9_readGrid_35 ⟨(Nat.le_of_ble_eq_true rfl), (Nat.le_of_ble_eq_true rfl)⟩ ⟨(Nat.le_of_ble_eq_true rfl), (Nat.le_of_ble_eq_true rfl)⟩ (fun x24 C25 r26 w27 h => ?_)
          refine jg_if_ne (tgt := 43) (pc := 38) X d_9_readGrid_38 (by decide) r26 h (fun c28 h => ?_) (fun c28 h => ?_)
          · refine jg_iconst (pc := 41) X d_9_readGrid_41 ?_
            exact jg_ireturn (pc := 42) X hAe hlocks hr d_9_readGrid_42 ⟨(Nat.le_of_ble_eq_true rfl), (Nat.le_of_ble_eq_true rfl)⟩ rfl (⟨by decide, by decide⟩ : jRng 0) w27 h
          · refine jg_aload_n (pc := 43) X d_9_readGrid_43 0 rfl ?_
            refine jg_aload_n (pc := 44) X d_9_readGrid_44 1 rfl ?_
            refine jgfN_5_5 (pc := 45) X (jl_1_5 hn) kn_50 d_9_readGrid_45 ?_
            refine jg_callVv (pc := 48) X (m_9_takeValue (w27.1 _ _) w27 h) jM_9_takeValue kw_607 (jl_3_9 hn) rfl rfl rfl rfl rfl (Nat.le_of_ble_eq_true rfl) d_9_readGrid_48 ⟨(Nat.le_of_ble_eq_true rfl), (Nat.le_of_ble_eq_true rfl)⟩ ⟨(Nat.le_of_ble_eq_true rfl), (Nat.le_of_ble_eq_true rfl)⟩ (fun C30 w32 h => ?_)
            refine jg_aload_n (pc := 51) X d_9_readGrid_51 1 rfl ?_
            refine jg_bipush (pc := 52) X d_9_readGrid_52 rfl ?_
            refine jg_callVi (pc := 54) X (m_5_takeSign (⟨by decide, by decide⟩ : jRng 44) w32 h) jM_5_takeSign kw_611 (jl_1_5 hn) rfl rfl rfl rfl rfl (Nat.le_of_ble_eq_true rfl) d_9_readGrid_54 ⟨(Nat.le_of_ble_eq_true rfl), (Nat.le_of_ble_eq_true rfl)⟩ ⟨(Nat.le_of_ble_eq_true rfl), (Nat.le_of_ble_eq_true rfl)⟩ (fun x33 C34 r35 w36 h => ?_)
            refine jg_if_ne (tgt := 72) (pc := 57) X d_9_readGrid_57 (by decide) r35 h (fun c37 h => ?_) (fun c37 h => ?_)
            · refine jg_aload_n (pc := 60) X d_9_readGrid_60 0 rfl ?_
              refine jg_dup (pc := 61) X d_9_readGrid_61 rfl ?_
              refine jgf_9_2 (pc := 62) X (jl_3_9 hn) kw_128 d_9_readGrid_62 ?_
              refine jg_iconst (pc := 65) X d_9_readGrid_65 ?_
              refine jg_iadd (pc := 66) X d_9_readGrid_66 ?_
              obtain ⟨r38, h⟩ := h
              refine jgp_9_2 (pc := 67) X (jl_3_9 hn) kw_128 d_9_readGrid_67 ?_
              have w39 := jWF.u (k := 2) (v := ((C34 3 2) + 1)) w36 (jl_3_9 hn) (by decide) r38
              refine jg_iconst (pc := 70) X d_9_readGrid_70 ?_
              exact jg_ireturn (pc := 71) X hAe hlocks hr d_9_readGrid_71 ⟨(Nat.le_of_ble_eq_true rfl), (Nat.le_of_ble_eq_true rfl)⟩ rfl (⟨by decide, by decide⟩ : jRng 1) w39 h
            · refine jg_iinc (pc := 72) X [(4, jI (v4 + 1)), (0, jr Z 3), (1, jr Z 1), (2, jr Z v2)] d_9_readGrid_72 3 rfl (by decide) rfl ?_
              refine jg_goto (tgt := 7) (pc := 75) X d_9_readGrid_75 (by decide) ?_
              have r40 : jRng (v4 + 1) := by (unfold jRng; exact ⟨by (have z0 : jRng v4 := rv4; have z1 : jRng (C 3 0) := (hw.1 _ _); unfold jRng at z0 z1; omega), by (have z0 : jRng v4 := rv4; have z1 : jRng (C 3 0) := (hw.1 _ _); unfold jRng at z0 z1; omega)⟩)
              refine jg_sub [1, 2, 3, 0] rfl ?_
              exact ih7 _ _ r40 w36 h
        · refine jg_goto (tgt := 72) (pc := 25) X d_9_readGrid_25 (by decide) ?_
          refine jg_iinc (pc := 72) X [(4, jI (v4 + 1)), (0, jr Z 3), (1, jr Z 1), (2, jr Z v2)] d_9_readGrid_72 3 rfl (by decide) rfl ?_
          refine jg_goto (tgt := 7) (pc := 75) X d_9_readGrid_75 (by decide) ?_
          have r41 : jRng (v4 + 1) := by (unfold jRng; exact ⟨by (have z0 : jRng v4 := rv4; have z1 : jRng (C 3 0) := (hw.1 _ _); unfold jRng at z0 z1; omega), by (have z0 : jRng v4 := rv4; have z1 : jRng (C 3 0) := (hw.1 _ _); unfold jRng at z0 z1; omega)⟩)
          refine jg_sub [1, 2, 3, 0] rfl ?_
          exact ih7 _ _ r41 hw h
  obtain ⟨N, h⟩ := h
  refine jg_sub [1, 2, 3, 0] rfl ?_
  exact jl7   N _ _ rv3 w4 h
set_option maxHeartbeats 4000000 in
set_option maxRecDepth 100000 in
theorem m_9_readGrids {l : Launch} {Z : jE} {n : Nat} {C : jC} {v2 : Int} {v3 : Int} {v4 : Int} {post : Int → jC → Prop} (tv2 : jT n v2 7) (tv3 : jT n v3 2) (rv4 : jRng v4) (hw0 : jWF n C) (h : wp_9_readGrids v2 v3 v4 C post) : jCi l y_9_readGrids prog_11_method_22_code 6 (.boolean) q_9_readGrids Z n C [jr Z 3, jr Z 1, jr Z v2, jr Z v3, jI v4] post := by
  have hn := hw0.2.2.1
  unfold wp_9_readGrids at h
  refine jCi_of (lv0 := [(0, jr Z 3), (1, jr Z 1), (2, jr Z v2), (3, jr Z v3), (4, jI v4)]) (by decide) (Nat.le_of_ble_eq_true rfl) rfl ?_
  intro p e s m args below meth c A sz X hAe hr hlocks
  refine jg_aload_n (pc := 0) X d_9_readGrids_0 0 rfl ?_
  refine jg_aload_n (pc := 1) X d_9_readGrids_1 2 rfl ?_
  refine jg_callVv (pc := 2) X (m_9_knowColumns tv2 hw0 h) jM_9_knowColumns kw_473 (jl_3_9 hn) rfl rfl rfl rfl rfl (Nat.le_of_ble_eq_true rfl) d_9_readGrids_2 ⟨(Nat.le_of_ble_eq_true rfl), (Nat.le_of_ble_eq_true rfl)⟩ ⟨(Nat.le_of_ble_eq_true rfl), (Nat.le_of_ble_eq_true rfl)⟩ (fun C2 w4 h => ?_)
  refine jg_iconst (pc := 5) X d_9_readGrids_5 ?_
  refine jg_istore (pc := 6) X [(5, jI 0), (0, jr Z 3), (1, jr Z 1), (2, jr Z v2), (3, jr Z v3), (4, jI v4)] d_9_readGrids_6 (by decide) rfl ?_
  have jl8 : ∀  (N : Nat) (v5 : Int) (C : jC) (rv5 : jRng v5) (hw : jWF n C), jI2 (wp_9_readGrids_8 v3 v4 post) N v5 C → jG p l e q_9_readGrids s m args below meth c 6 Z A (jws Z n C) 0 0 (MQ below (jQi Z n sz post) args s q_9_readGrids.cells q_9_readGrids.slots (jA Z n sz)) 8 [(0, jr Z 3), (1, jr Z 1), (3, jr Z v3), (4, jI v4), (5, jI v5)] [] := by
    intro   N
    have hn := hw0.2.2.1
    induction N with
    | zero => intro v5 C rv5 hw h; exact h.elim
    | succ N ih8 =>
      intro v5 C rv5 hw h
      have h : wp_9_readGrids_8 v3 v4 post (jI2 (wp_9_readGrids_8 v3 v4 post) N) v5 C := h
      generalize jI2 (wp_9_readGrids_8 v3 v4 post) N = k8 at h ih8
      unfold wp_9_readGrids_8 at h
      refine jg_iload (pc := 8) X d_9_readGrids_8 4 rfl ?_
      refine jg_bipush (pc := 10) X d_9_readGrids_10 rfl ?_
      refine jg_icmp_ge (tgt := 57) (pc := 12) X d_9_readGrids_12 (by decide) rv5 (⟨by decide, by decide⟩ : jRng 12) h (fun c5 h => ?_) (fun c5 h => ?_)
      · refine jg_aload_n (pc := 57) X d_9_readGrids_57 1 rfl ?_
        refine jg_callVv (pc := 58) X (m_5_skipBlanks hw h) jM_5_skipBlanks kw_491 (jl_1_5 hn) rfl rfl rfl rfl rfl (Nat.le_of_ble_eq_true rfl) d_9_readGrids_58 ⟨(Nat.le_of_ble_eq_true rfl), (Nat.le_of_ble_eq_true rfl)⟩ ⟨(Nat.le_of_ble_eq_true rfl), (Nat.le_of_ble_eq_true rfl)⟩ (fun C7 w9 h => ?_)
        refine jg_aload_n (pc := 61) X d_9_readGrids_61 1 rfl ?_
        refine jg_callVi (pc := 62) X (m_5_failHere w9 h) jM_5_failHere kw_555 (jl_1_5 hn) rfl rfl rfl rfl rfl (Nat.le_of_ble_eq_true rfl) d_9_readGrids_62 ⟨(Nat.le_of_ble_eq_true rfl), (Nat.le_of_ble_eq_true rfl)⟩ ⟨(Nat.le_of_ble_eq_true rfl), (Nat.le_of_ble_eq_true rfl)⟩ (fun x10 C11 r12 w13 h => ?_)
        obtain ⟨b14, h⟩ := h
        exact jg_ireturn (pc := 65) X hAe hlocks hr d_9_readGrids_65 ⟨(Nat.le_of_ble_eq_true rfl), (Nat.le_of_ble_eq_true rfl)⟩ (jnar_b b14) r12 w13 h
      · refine jg_aload_n (pc := 15) X d_9_readGrids_15 0 rfl ?_
        refine jg_aload_n (pc := 16) X d_9_readGrids_16 1 rfl ?_
        refine jg_aload_n (pc := 17) X d_9_readGrids_17 2 rfl ?_
        refine jg_iload (pc := 18) X d_9_readGrids_18 3 rfl ?_
        refine jg_callVi (pc := 20) X (m_9_readGrid tv3 rv4 hw h) jM_9_readGrid kw_1102 (jl_3_9 hn) rfl rfl rfl rfl rfl (Nat.le_of_ble_eq_true rfl) d_9_readGrids_20 ⟨(Nat.le_of_ble_eq_true rfl), (Nat.le_of_ble_eq_true rfl)⟩ ⟨(Nat.le_of_ble_eq_true rfl), (Nat.le_of_ble_eq_true rfl)⟩ (fun x15 C16 r17 w18 h => ?_)
        refine jg_if_ne (tgt := 28) (pc := 23) X d_9_readGrids_23 (by decide) r17 h (fun c19 h => ?_) (fun c19 h => ?_)
        · refine jg_iconst (pc := 26) X d_9_readGrids_26 ?_
          exact jg_ireturn (pc := 27) X hAe hlocks hr d_9_readGrids_27 ⟨(Nat.le_of_ble_eq_true rfl), (Nat.le_of_ble_eq_true rfl)⟩ rfl (⟨by decide, by decide⟩ : jRng 0) w18 h
        · refine jg_aload_n (pc := 28) X d_9_readGrids_28 1 rfl ?_
          refine jg_callVi (pc := 29) X (m_5_isOver w18 h) jM_5_isOver kw_478 (jl_1_5 hn) rfl rfl rfl rfl rfl (Nat.le_of_ble_eq_true rfl) d_9_readGrids_29 ⟨(Nat.le_of_ble_eq_true rfl), (Nat.le_of_ble_eq_true rfl)⟩ ⟨(Nat.le_of_ble_eq_true rfl), (Nat.le_of_ble_eq_true rfl)⟩ (fun x20 C21 r22 w23 h => ?_)
          refine jg_if_eq (tgt := 37) (pc := 32) X d_9_readGrids_32 (by decide) r22 h (fun c24 h => ?_) (fun c24 h => ?_)
          · refine jg_aload_n (pc := 37) X d_9_readGrids_37 1 rfl ?_
            refine jg_bipush (pc := 38) X d_9_readGrids_38 rfl ?_
            refine jg_callVi (pc := 40) X (m_5_takeSign (⟨by decide, by decide⟩ : jRng 59) w23 h) jM_5_takeSign kw_611 (jl_1_5 hn) rfl rfl rfl rfl rfl (Nat.le_of_ble_eq_true rfl) d_9_readGrids_40 ⟨(Nat.le_of_ble_eq_true rfl), (Nat.le_of_ble_eq_true rfl)⟩ ⟨(Nat.le_of_ble_eq_true rfl), (Nat.le_of_ble_eq_true rfl)⟩ (fun x25 C26 r27 w28 h => ?_)
            refine jg_if_ne (tgt := 51) (pc := 43) X d_9_readGrids_43 (by decide) r27 h (fun c29 h => ?_) (fun c29 h => ?_)
            · refine jg_aload_n (pc := 46) X d_9_readGrids_46 1 rfl ?_
              refine jg_callVi (pc := 47) X (m_5_failHere w28 h) jM_5_failHere kw_555 (jl_1_5 hn) rfl rfl rfl rfl rfl (Nat.le_of_ble_eq_true rfl) d_9_readGrids_47 ⟨(Nat.le_of_ble_eq_true rfl), (Nat.le_of_ble_eq_true rfl)⟩ ⟨(Nat.le_of_ble_eq_true rfl), (Nat.le_of_ble_eq_true rfl)⟩ (fun x30 C31 r32 w33 h => ?_)
              obtain ⟨b34, h⟩ := h
              exact jg_ireturn (pc := 50) X hAe hlocks hr d_9_readGrids_50 ⟨(Nat.le_of_ble_eq_true rfl), (Nat.le_of_ble_eq_true rfl)⟩ (jnar_b b34) r32 w33 h
            · refine jg_iinc (pc := 51) X [(5, jI (v5 + 1)), (0, jr Z 3), (1, jr Z 1), (3, jr Z v3), (4, jI v4)] d_9_readGrids_51 4 rfl (by decide) rfl ?_
              refine jg_goto (tgt := 8) (pc := 54) X d_9_readGrids_54 (by decide) ?_
              have r35 : jRng (v5 + 1) := by (unfold jRng; exact ⟨by (have z0 : jRng v5 := rv5; unfold jRng at z0; omega), by (have z0 : jRng v5 := rv5; unfold jRng at z0; omega)⟩)
              refine jg_sub [1, 2, 3, 4, 0] rfl ?_
              exact ih8 _ _ r35 w28 h
          · refine jg_iconst (pc := 35) X d_9_readGrids_35 ?_
            exact jg_ireturn (pc := 36) X hAe hlocks hr d_9_readGrids_36 ⟨(Nat.le_of_ble_eq_true rfl), (Nat.le_of_ble_eq_true rfl)⟩ rfl (⟨by decide, by decide⟩ : jRng 1) w23 h
  obtain ⟨N, h⟩ := h
  refine jg_sub [1, 2, 4, 5, 0] rfl ?_
  exact jl8   N _ _ (⟨by decide, by decide⟩ : jRng 0) w4 h
set_option maxHeartbeats 4000000 in
set_option maxRecDepth 100000 in
theorem m_8_pasteGrid {l : Launch} {Z : jE} {n : Nat} {C : jC} {v0 : Int} {v2 : Int} {v3 : Int} {v4 : Int} {v5 : Int} {post : jC → Prop} (tv0 : jT n v0 8) (rv2 : jRng v2) (rv3 : jRng v3) (rv4 : jRng v4) (rv5 : jRng v5) (hw0 : jWF n C) (h : wp_8_pasteGrid v0 v2 v3 v4 v5 C post) : jCv l y_8_pasteGrid prog_10_method_10_code 8 q_8_pasteGrid Z n C [jr Z v0, jr Z 3, jI v2, jI v3, jI v4, jI v5] post := by
  have hn := hw0.2.2.1
  unfold wp_8_pasteGrid at h
  refine jCv_of (lv0 := [(0, jr Z v0), (1, jr Z 3), (2, jI v2), (3, jI v3), (4, jI v4), (5, jI v5)]) (by decide) (Nat.le_of_ble_eq_true rfl) rfl ?_
  intro p e s m args below meth c A sz X hAe hr hlocks
  refine jg_iload (pc := 0) X d_8_pasteGrid_0 5 rfl ?_
  refine jg_istore (pc := 2) X [(6, jI v5), (0, jr Z v0), (1, jr Z 3), (2, jI v2), (3, jI v3), (4, jI v4), (5, jI v5)] d_8_pasteGrid_2 (by decide) rfl ?_
  refine jg_iconst (pc := 4) X d_8_pasteGrid_4 ?_
  refine jg_istore (pc := 5) X [(7, jI 0), (6, jI v5), (0, jr Z v0), (1, jr Z 3), (2, jI v2), (3, jI v3), (4, jI v4), (5, jI v5)] d_8_pasteGrid_5 (by decide) rfl ?_
  have jl7 : ∀  (N : Nat) (v6 : Int) (v7 : Int) (C : jC) (rv6 : jRng v6) (rv7 : jRng v7) (hw : jWF n C), jI3 (wp_8_pasteGrid_7 v0 v2 v3 v4 post) N v6 v7 C → jG p l e q_8_pasteGrid s m args below meth c 8 Z A (jws Z n C) 0 0 (MQ below (jQv Z n sz post) args s q_8_pasteGrid.cells q_8_pasteGrid.slots (jA Z n sz)) 7 [(0, jr Z v0), (1, jr Z 3), (2, jI v2), (3, jI v3), (4, jI v4), (6, jI v6), (7, jI v7)] [] := by
    intro   N
    have hn := hw0.2.2.1
    induction N with
    | zero => intro v6 v7 C rv6 rv7 hw h; exact h.elim
    | succ N ih7 =>
      intro v6 v7 C rv6 rv7 hw h
      have h : wp_8_pasteGrid_7 v0 v2 v3 v4 post (jI3 (wp_8_pasteGrid_7 v0 v2 v3 v4 post) N) v6 v7 C := h
      generalize jI3 (wp_8_pasteGrid_7 v0 v2 v3 v4 post) N = k7 at h ih7
      unfold wp_8_pasteGrid_7 at h
      refine jg_iload (pc := 7) X d_8_pasteGrid_7 6 rfl ?_
      refine jg_aload_n (pc := 9) X d_8_pasteGrid_9 1 rfl ?_
      refine jg_iload_n (pc := 10) X d_8_pasteGrid_10 2 rfl ?_
      refine jg_pcallVi (pc := 11) X (m_9_widthOf rv2 hw h) jM_9_widthOf kw_720 (jl_3_9 hn) rfl rfl rfl rfl rfl (Nat.le_of_ble_eq_true rfl) d_8_pasteGrid_11 ⟨(Nat.le_of_ble_eq_true rfl), (Nat.le_of_ble_eq_true rfl)⟩ ⟨(Nat.le_of_ble_eq_true rfl), (Nat.le_of_ble_eq_true rfl)⟩ (fun x1 r3 h => ?_)
      refine jg_icmp_ge (tgt := 71) (pc := 14) X d_8_pasteGrid_14 (by decide) rv7 r3 h (fun c5 h => ?_) (fun c5 h => ?_)
      · exact jg_return (pc := 71) X hAe hlocks hr d_8_pasteGrid_71 ⟨(Nat.le_of_ble_eq_true rfl), (Nat.le_of_ble_eq_true rfl)⟩ hw h
      · have jl17 : ∀  (N : Nat) (v6 : Int) (rv6 : jRng v6), jI1 (wp_8_pasteGrid_17 v0 v2 v3 v4 v7 C post k7) N v6 → jG p l e q_8_pasteGrid s m args below meth c 8 Z A (jws Z n C) 0 0 (MQ below (jQv Z n sz post) args s q_8_pasteGrid.cells q_8_pasteGrid.slots (jA Z n sz)) 17 [(0, jr Z v0), (1, jr Z 3), (2, jI v2), (3, jI v3), (4, jI v4), (7, jI v7), (6, jI v6)] [] := by
          intro   N
          have hn := hw0.2.2.1
          induction N with
          | zero => intro v6 rv6 h; exact h.elim
          | succ N ih17 =>
            intro v6 rv6 h
            have h : wp_8_pasteGrid_17 v0 v2 v3 v4 v7 C post k7 (jI1 (wp_8_pasteGrid_17 v0 v2 v3 v4 v7 C post k7) N) v6 := h
            generalize jI1 (wp_8_pasteGrid_17 v0 v2 v3 v4 v7 C post k7) N = k17 at h ih17
            unfold wp_8_pasteGrid_17 at h
            refine jg_iload (pc := 17) X d_8_pasteGrid_17 6 rfl ?_
            refine jg_iconst (pc := 19) X d_8_pasteGrid_19 ?_
            refine jg_icmp_ge (tgt := 46) (pc := 20) X d_8_pasteGrid_20 (by decide) rv6 (⟨by decide, by decide⟩ : jRng 5) h (fun c6 h => ?_) (fun c6 h => ?_)
            · refine jg_aload_n (pc := 46) X d_8_pasteGrid_46 0 rfl ?_
              refine jg_iload_n (pc := 47) X d_8_pasteGrid_47 3 rfl ?_
              refine jg_iload (pc := 48) X d_8_pasteGrid_48 4 rfl ?_
              refine jg_iload (pc := 50) X d_8_pasteGrid_50 6 rfl ?_
              refine jg_aload_n (pc := 52) X d_8_pasteGrid_52 1 rfl ?_
              refine jg_iload_n (pc := 53) X d_8_pasteGrid_53 2 rfl ?_
              refine jg_iload (pc := 54) X d_8_pasteGrid_54 5 rfl ?_
              refine jg_pcallVi (pc := 56) X (m_9_toldAt rv2 rv7 hw h) jM_9_toldAt kw_724 (jl_3_9 hn) rfl rfl rfl rfl rfl (Nat.le_of_ble_eq_true rfl) d_8_pasteGrid_56 ⟨(Nat.le_of_ble_eq_true rfl), (Nat.le_of_ble_eq_true rfl)⟩ ⟨(Nat.le_of_ble_eq_true rfl), (Nat.le_of_ble_eq_true rfl)⟩ (fun x7 r9 h => ?_)
              refine jg_callVv (pc := 59) X (m_8_changeCell tv0 rv3 rv4 rv6 r9 hw h) jM_8_changeCell kw_1119 tv0 rfl rfl rfl rfl rfl (Nat.le_of_ble_eq_true rfl) d_8_pasteGrid_59 ⟨(Nat.le_of_ble_eq_true rfl), (Nat.le_of_ble_eq_true rfl)⟩ ⟨(Nat.le_of_ble_eq_true rfl), (Nat.le_of_ble_eq_true rfl)⟩ (fun C12 w14 h => ?_)
              refine jg_iinc (pc := 62) X [(6, jI (v6 + 1)), (0, jr Z v0), (1, jr Z 3), (2, jI v2), (3, jI v3), (4, jI v4), (7, jI v7)] d_8_pasteGrid_62 6 rfl (by decide) rfl ?_
              refine jg_iinc (pc := 65) X [(7, jI (v7 + 1)), (6, jI (v6 + 1)), (0, jr Z v0), (1, jr Z 3), (2, jI v2), (3, jI v3), (4, jI v4)] d_8_pasteGrid_65 6 rfl (by decide) rfl ?_
              refine jg_goto (tgt := 7) (pc := 68) X d_8_pasteGrid_68 (by decide) ?_
              obtain ⟨r15, r16, h⟩ := h
              refine jg_sub [2, 3, 4, 5, 6, 1, 0] rfl ?_
              exact ih7 _ _ _ r15 r16 w14 h
            · refine jg_aload_n (pc := 23) X d_8_pasteGrid_23 0 rfl ?_
              refine jgf_8_1 (pc := 24) X tv0 kw_291 d_8_pasteGrid_24 ?_
              refine jg_iload_n (pc := 27) X d_8_pasteGrid_27 3 rfl ?_
              obtain ⟨b17, b18, h⟩ := h
              refine jg_aaloadV (pc := 28) X d_8_pasteGrid_28 (jc_st_1 hn tv0) b17 b18 ?_
              refine jgfN_10_0 (pc := 29) X (jc_va hn (jc_st_1 hn tv0) b17 b18) kn_270 d_8_pasteGrid_29 ?_
              refine jg_iload (pc := 32) X d_8_pasteGrid_32 6 rfl ?_
              refine jg_pcallVi (pc := 34) X (m_2_hides (jc_vi_0 hn (jc_va hn (jc_st_1 hn tv0) b17 b18)) rv6 hw h) jM_2_hides kw_1118 (jc_vi_0 hn (jc_va hn (jc_st_1 hn tv0) b17 b18)) rfl rfl rfl rfl rfl (Nat.le_of_ble_eq_true rfl) d_8_pasteGrid_34 ⟨(Nat.le_of_ble_eq_true rfl), (Nat.le_of_ble_eq_true rfl)⟩ ⟨(Nat.le_of_ble_eq_true rfl), (Nat.le_of_ble_eq_true rfl)⟩ (fun x19 r21 h => ?_)
              refine jg_if_eq (tgt := 46) (pc := 37) X d_8_pasteGrid_37 (by decide) r21 h (fun c23 h => ?_) (fun c23 h => ?_)
              · refine jg_aload_n (pc := 46) X d_8_pasteGrid_46 0 rfl ?_
                refine jg_iload_n (pc := 47) X d_8_pasteGrid_47 3 rfl ?_
                refine jg_iload (pc := 48) X d_8_pasteGrid_48 4 rfl ?_
                refine jg_iload (pc := 50) X d_8_pasteGrid_50 6 rfl ?_
                refine jg_aload_n (pc := 52) X d_8_pasteGrid_52 1 rfl ?_
                refine jg_iload_n (pc := 53) X d_8_pasteGrid_53 2 rfl ?_
                refine jg_iload (pc := 54) X d_8_pasteGrid_54 5 rfl ?_
                refine jg_pcallVi (pc := 56) X (m_9_toldAt rv2 rv7 hw h) jM_9_toldAt kw_724 (jl_3_9 hn) rfl rfl rfl rfl rfl (Nat.le_of_ble_eq_true rfl) d_8_pasteGrid_56 ⟨(Nat.le_of_ble_eq_true rfl), (Nat.le_of_ble_eq_true rfl)⟩ ⟨(Nat.le_of_ble_eq_true rfl), (Nat.le_of_ble_eq_true rfl)⟩ (fun x24 r26 h => ?_)
                refine jg_callVv (pc := 59) X (m_8_changeCell tv0 rv3 rv4 rv6 r26 hw h) jM_8_changeCell kw_1119 tv0 rfl rfl rfl rfl rfl (Nat.le_of_ble_eq_true rfl) d_8_pasteGrid_59 ⟨(Nat.le_of_ble_eq_true rfl), (Nat.le_of_ble_eq_true rfl)⟩ ⟨(Nat.le_of_ble_eq_true rfl), (Nat.le_of_ble_eq_true rfl)⟩ (fun C29 w31 h => ?_)
                refine jg_iinc (pc := 62) X [(6, jI (v6 + 1)), (0, jr Z v0), (1, jr Z 3), (2, jI v2), (3, jI v3), (4, jI v4), (7, jI v7)] d_8_pasteGrid_62 6 rfl (by decide) rfl ?_
                refine jg_iinc (pc := 65) X [(7, jI (v7 + 1)), (6, jI (v6 + 1)), (0, jr Z v0), (1, jr Z 3), (2, jI v2), (3, jI v3), (4, jI v4)] d_8_pasteGrid_65 6 rfl (by decide) rfl ?_
                refine jg_goto (tgt := 7) (pc := 68) X d_8_pasteGrid_68 (by decide) ?_
                obtain ⟨r33, h⟩ := h
                have r32 : jRng (v6 + 1) := by (unfold jRng; exact ⟨by (have z0 : jRng v6 := rv6; unfold jRng at z0; omega), by (have z0 : jRng v6 := rv6; unfold jRng at z0; omega)⟩)
                refine jg_sub [2, 3, 4, 5, 6, 1, 0] rfl ?_
                exact ih7 _ _ _ r32 r33 w31 h
              · refine jg_iinc (pc := 40) X [(6, jI (v6 + 1)), (0, jr Z v0), (1, jr Z 3), (2, jI v2), (3, jI v3), (4, jI v4), (7, jI v7)] d_8_pasteGrid_40 6 rfl (by decide) rfl ?_
                refine jg_goto (tgt := 17) (pc := 43) X d_8_pasteGrid_43 (by decide) ?_
                have r34 : jRng (v6 + 1) := by (unfold jRng; exact ⟨by (have z0 : jRng v6 := rv6; unfold jRng at z0; omega), by (have z0 : jRng v6 := rv6; unfold jRng at z0; omega)⟩)
                refine jg_sub [1, 2, 3, 4, 5, 6, 0] rfl ?_
                exact ih17 _ r34 h
        obtain ⟨N, h⟩ := h
        refine jg_sub [0, 1, 2, 3, 4, 6, 5] rfl ?_
        exact jl17   N _ rv6 h
  obtain ⟨N, h⟩ := h
  refine jg_sub [2, 3, 4, 5, 6, 1, 0] rfl ?_
  exact jl7   N _ _ _ rv5 (⟨by decide, by decide⟩ : jRng 0) hw0 h
set_option maxHeartbeats 4000000 in
set_option maxRecDepth 100000 in
theorem m_8_pasteGrids {l : Launch} {Z : jE} {n : Nat} {C : jC} {v0 : Int} {v2 : Int} {v3 : Int} {v4 : Int} {post : Int → jC → Prop} (tv0 : jT n v0 8) (rv2 : jRng v2) (rv3 : jRng v3) (rv4 : jRng v4) (hw0 : jWF n C) (h : wp_8_pasteGrids v0 v2 v3 v4 C post) : jCi l y_8_pasteGrids prog_10_method_9_code 9 (.int) q_8_pasteGrids Z n C [jr Z v0, jr Z 3, jI v2, jI v3, jI v4] post := by
  have hn := hw0.2.2.1
  unfold wp_8_pasteGrids at h
  refine jCi_of (lv0 := [(0, jr Z v0), (1, jr Z 3), (2, jI v2), (3, jI v3), (4, jI v4)]) (by decide) (Nat.le_of_ble_eq_true rfl) rfl ?_
  intro p e s m args below meth c A sz X hAe hr hlocks
  refine jg_iload_n (pc := 0) X d_8_pasteGrids_0 2 rfl ?_
  refine jg_if_lt (tgt := 9) (pc := 1) X d_8_pasteGrids_1 (by decide) rv2 h (fun c1 h => ?_) (fun c1 h => ?_)
  · refine jg_iconst (pc := 9) X d_8_pasteGrids_9 ?_
    exact jg_ireturn (pc := 10) X hAe hlocks hr d_8_pasteGrids_10 ⟨(Nat.le_of_ble_eq_true rfl), (Nat.le_of_ble_eq_true rfl)⟩ rfl (⟨by decide, by decide⟩ : jRng 0) hw0 h
  · refine jg_iload_n (pc := 4) X d_8_pasteGrids_4 2 rfl ?_
    refine jg_iconst (pc := 5) X d_8_pasteGrids_5 ?_
    refine jg_icmp_lt (tgt := 11) (pc := 6) X d_8_pasteGrids_6 (by decide) rv2 (⟨by decide, by decide⟩ : jRng 4) h (fun c2 h => ?_) (fun c2 h => ?_)
    · refine jg_aload_n (pc := 11) X d_8_pasteGrids_11 0 rfl ?_
      refine jgf_8_1 (pc := 12) X tv0 kw_291 d_8_pasteGrids_12 ?_
      refine jg_iload_n (pc := 15) X d_8_pasteGrids_15 2 rfl ?_
      have b3 : 0 ≤ v2 := by (have z0 : jRng v2 := rv2; unfold jRng at z0; omega)
      have b4 : v2 < 4 := by (have z0 : jRng v2 := rv2; unfold jRng at z0; omega)
      refine jg_aaloadV (pc := 16) X d_8_pasteGrids_16 (jc_st_1 hn tv0) b3 b4 ?_
      refine jgfN_10_1 (pc := 17) X (jc_va hn (jc_st_1 hn tv0) b3 b4) kn_274 d_8_pasteGrids_17 ?_
      refine jg_astore (pc := 20) X [(5, jr Z ((((v0 + 8) + 8) + (72 * v2)) + 29)), (0, jr Z v0), (1, jr Z 3), (2, jI v2), (3, jI v3), (4, jI v4)] d_8_pasteGrids_20 (by decide) rfl ?_
      refine jg_aload (pc := 22) X d_8_pasteGrids_22 0 rfl ?_
      refine jg_pcallVi (pc := 24) X (m_6_length (jc_vi_1 hn (jc_va hn (jc_st_1 hn tv0) b3 b4)) hw0 h) jM_6_length kw_884 (jc_vi_1 hn (jc_va hn (jc_st_1 hn tv0) b3 b4)) rfl rfl rfl rfl rfl (Nat.le_of_ble_eq_true rfl) d_8_pasteGrids_24 ⟨(Nat.le_of_ble_eq_true rfl), (Nat.le_of_ble_eq_true rfl)⟩ ⟨(Nat.le_of_ble_eq_true rfl), (Nat.le_of_ble_eq_true rfl)⟩ (fun x5 r7 h => ?_)
      refine jg_istore (pc := 27) X [(6, jI x5), (5, jr Z ((((v0 + 8) + 8) + (72 * v2)) + 29)), (0, jr Z v0), (1, jr Z 3), (2, jI v2), (3, jI v3), (4, jI v4)] d_8_pasteGrids_27 (by decide) rfl ?_
      refine jg_aload_n (pc := 29) X d_8_pasteGrids_29 2 rfl ?_
      refine jg_callVv (pc := 30) X (m_8_beginEdit tv0 hw0 h) jM_8_beginEdit kw_1113 tv0 rfl rfl rfl rfl rfl (Nat.le_of_ble_eq_true rfl) d_8_pasteGrids_30 ⟨(Nat.le_of_ble_eq_true rfl), (Nat.le_of_ble_eq_true rfl)⟩ ⟨(Nat.le_of_ble_eq_true rfl), (Nat.le_of_ble_eq_true rfl)⟩ (fun C10 w12 h => ?_)
      refine jg_iconst (pc := 33) X d_8_pasteGrids_33 ?_
      refine jg_istore (pc := 34) X [(7, jI 0), (6, jI x5), (5, jr Z ((((v0 + 8) + 8) + (72 * v2)) + 29)), (0, jr Z v0), (1, jr Z 3), (2, jI v2), (3, jI v3), (4, jI v4)] d_8_pasteGrids_34 (by decide) rfl ?_
      have jl36 : ∀ (v5 : Int) (v6 : Int) (tv5 : jT n v5 6) (rv6 : jRng v6) (N : Nat) (v7 : Int) (C : jC) (rv7 : jRng v7) (hw : jWF n C), jI2 (wp_8_pasteGrids_36 v0 v2 v3 v4 v5 v6 post) N v7 C → jG p l e q_8_pasteGrids s m args below meth c 9 Z A (jws Z n C) 0 0 (MQ below (jQi Z n sz post) args s q_8_pasteGrids.cells q_8_pasteGrids.slots (jA Z n sz)) 36 [(0, jr Z v0), (1, jr Z 3), (2, jI v2), (3, jI v3), (4, jI v4), (5, jr Z v5), (6, jI v6), (7, jI v7)] [] := by
        intro v5 v6 tv5 rv6 N
        have hn := hw0.2.2.1
        induction N with
        | zero => intro v7 C rv7 hw h; exact h.elim
        | succ N ih36 =>
          intro v7 C rv7 hw h
          have h : wp_8_pasteGrids_36 v0 v2 v3 v4 v5 v6 post (jI2 (wp_8_pasteGrids_36 v0 v2 v3 v4 v5 v6 post) N) v7 C := h
          generalize jI2 (wp_8_pasteGrids_36 v0 v2 v3 v4 v5 v6 post) N = k36 at h ih36
          unfold wp_8_pasteGrids_36 at h
          refine jg_iload (pc := 36) X d_8_pasteGrids_36 7 rfl ?_
          refine jg_aload_n (pc := 38) X d_8_pasteGrids_38 1 rfl ?_
          refine jgfN_9_2 (pc := 39) X (jl_3_9 hn) kn_129 d_8_pasteGrids_39 ?_
          refine jg_icmp_ge (tgt := 110) (pc := 42) X d_8_pasteGrids_42 (by decide) rv7 (hw.1 _ _) h (fun c13 h => ?_) (fun c13 h => ?_)
          · have c13 : (C 3 2) ≤ v7 := c13
            refine jg_iload (pc := 110) X d_8_pasteGrids_110 6 rfl ?_
            refine jg_istore (pc := 112) X [(7, jI v6), (0, jr Z v0), (1, jr Z 3), (2, jI v2), (3, jI v3), (4, jI v4), (5, jr Z v5), (6, jI v6)] d_8_pasteGrids_112 (by decide) rfl ?_
            have jl114 : ∀  (N : Nat) (v7 : Int) (C : jC) (rv7 : jRng v7) (hw : jWF n C), jI2 (wp_8_pasteGrids_114 v0 v2 v5 post) N v7 C → jG p l e q_8_pasteGrids s m args below meth c 9 Z A (jws Z n C) 0 0 (MQ below (jQi Z n sz post) args s q_8_pasteGrids.cells q_8_pasteGrids.slots (jA Z n sz)) 114 [(0, jr Z v0), (2, jI v2), (5, jr Z v5), (7, jI v7)] [] := by
              intro   N
              have hn := hw0.2.2.1
              induction N with
              | zero => intro v7 C rv7 hw h; exact h.elim
              | succ N ih114 =>
                intro v7 C rv7 hw h
                have h : wp_8_pasteGrids_114 v0 v2 v5 post (jI2 (wp_8_pasteGrids_114 v0 v2 v5 post) N) v7 C := h
                generalize jI2 (wp_8_pasteGrids_114 v0 v2 v5 post) N = k114 at h ih114
                unfold wp_8_pasteGrids_114 at h
                refine jg_iload (pc := 114) X d_8_pasteGrids_114 3 rfl ?_
                refine jg_aload (pc := 116) X d_8_pasteGrids_116 2 rfl ?_
                refine jg_pcallVi (pc := 118) X (m_6_length tv5 hw h) jM_6_length kw_884 tv5 rfl rfl rfl rfl rfl (Nat.le_of_ble_eq_true rfl) d_8_pasteGrids_118 ⟨(Nat.le_of_ble_eq_true rfl), (Nat.le_of_ble_eq_true rfl)⟩ ⟨(Nat.le_of_ble_eq_true rfl), (Nat.le_of_ble_eq_true rfl)⟩ (fun x14 r16 h => ?_)
                refine jg_icmp_ge (tgt := 142) (pc := 121) X d_8_pasteGrids_121 (by decide) rv7 r16 h (fun c18 h => ?_) (fun c18 h => ?_)
                · refine jg_aload_n (pc := 142) X d_8_pasteGrids_142 0 rfl ?_
                  refine jg_iload_n (pc := 143) X d_8_pasteGrids_143 1 rfl ?_
                  refine jg_callVi (pc := 144) X (m_8_finishEdit tv0 rv2 hw h) jM_8_finishEdit kw_1120 tv0 rfl rfl rfl rfl rfl (Nat.le_of_ble_eq_true rfl) d_8_pasteGrids_144 ⟨(Nat.le_of_ble_eq_true rfl), (Nat.le_of_ble_eq_true rfl)⟩ ⟨(Nat.le_of_ble_eq_true rfl), (Nat.le_of_ble_eq_true rfl)⟩ (fun x19 C20 r21 w22 h => ?_)
                  exact jg_ireturn (pc := 147) X hAe hlocks hr d_8_pasteGrids_147 ⟨(Nat.le_of_ble_eq_true rfl), (Nat.le_of_ble_eq_true rfl)⟩ rfl r21 w22 h
                · refine jg_aload_n (pc := 124) X d_8_pasteGrids_124 0 rfl ?_
                  refine jg_aload (pc := 125) X d_8_pasteGrids_125 2 rfl ?_
                  refine jg_iload (pc := 127) X d_8_pasteGrids_127 3 rfl ?_
                  refine jg_pcallVi (pc := 129) X (m_6_at tv5 rv7 hw h) jM_6_at kw_885 tv5 rfl rfl rfl rfl rfl (Nat.le_of_ble_eq_true rfl) d_8_pasteGrids_129 ⟨(Nat.le_of_ble_eq_true rfl), (Nat.le_of_ble_eq_true rfl)⟩ ⟨(Nat.le_of_ble_eq_true rfl), (Nat.le_of_ble_eq_true rfl)⟩ (fun x23 r25 h => ?_)
                  refine jg_iload_n (pc := 132) X d_8_pasteGrids_132 1 rfl ?_
                  refine jg_callVv (pc := 133) X (m_8_joinOthers tv0 r25 rv2 hw h) jM_8_joinOthers kw_739 tv0 rfl rfl rfl rfl rfl (Nat.le_of_ble_eq_true rfl) d_8_pasteGrids_133 ⟨(Nat.le_of_ble_eq_true rfl), (Nat.le_of_ble_eq_true rfl)⟩ ⟨(Nat.le_of_ble_eq_true rfl), (Nat.le_of_ble_eq_true rfl)⟩ (fun C28 w30 h => ?_)
                  refine jg_iinc (pc := 136) X [(7, jI (v7 + 1)), (0, jr Z v0), (2, jI v2), (5, jr Z v5)] d_8_pasteGrids_136 3 rfl (by decide) rfl ?_
                  refine jg_goto (tgt := 114) (pc := 139) X d_8_pasteGrids_139 (by decide) ?_
                  have r31 : jRng (v7 + 1) := by (unfold jRng; exact ⟨by (have z0 : jRng v7 := rv7; have z1 : jRng x14 := r16; unfold jRng at z0 z1; omega), by (have z0 : jRng v7 := rv7; have z1 : jRng x14 := r16; unfold jRng at z0 z1; omega)⟩)
                  refine jg_sub [1, 2, 3, 0] rfl ?_
                  exact ih114 _ _ r31 w30 h
            obtain ⟨N, h⟩ := h
            refine jg_sub [1, 3, 6, 0] rfl ?_
            exact jl114   N _ _ rv6 hw h
          · have c13 : ¬ ((C 3 2) ≤ v7) := c13
            refine jg_iload_n (pc := 45) X d_8_pasteGrids_45 3 rfl ?_
            refine jg_iload (pc := 46) X d_8_pasteGrids_46 7 rfl ?_
            refine jg_iadd (pc := 48) X d_8_pasteGrids_48 ?_
            refine jg_aload (pc := 49) X d_8_pasteGrids_49 5 rfl ?_
            refine jg_pcallVi (pc := 51) X (m_6_length tv5 hw h) jM_6_length kw_884 tv5 rfl rfl rfl rfl rfl (Nat.le_of_ble_eq_true rfl) d_8_pasteGrids_51 ⟨(Nat.le_of_ble_eq_true rfl), (Nat.le_of_ble_eq_true rfl)⟩ ⟨(Nat.le_of_ble_eq_true rfl), (Nat.le_of_ble_eq_true rfl)⟩ (fun x32 r34 h => ?_)
            obtain ⟨r36, h⟩ := h
            refine jg_icmp_lt (tgt := 85) (pc := 54) X d_8_pasteGrids_54 (by decide) r36 r34 h (fun c37 h => ?_) (fun c37 h => ?_)
            · refine jg_aload_n (pc := 85) X d_8_pasteGrids_85 0 rfl ?_
              refine jg_aload_n (pc := 86) X d_8_pasteGrids_86 1 rfl ?_
              refine jg_iload (pc := 87) X d_8_pasteGrids_87 7 rfl ?_
              refine jg_iload_n (pc := 89) X d_8_pasteGrids_89 2 rfl ?_
              refine jg_aload (pc := 90) X d_8_pasteGrids_90 5 rfl ?_
              refine jg_iload_n (pc := 92) X d_8_pasteGrids_92 3 rfl ?_
              refine jg_iload (pc := 93) X d_8_pasteGrids_93 7 rfl ?_
              refine jg_iadd (pc := 95) X d_8_pasteGrids_95 ?_
              refine jg_pcallVi (pc := 96) X (m_6_at tv5 r36 hw h) jM_6_at kw_885 tv5 rfl rfl rfl rfl rfl (Nat.le_of_ble_eq_true rfl) d_8_pasteGrids_96 ⟨(Nat.le_of_ble_eq_true rfl), (Nat.le_of_ble_eq_true rfl)⟩ ⟨(Nat.le_of_ble_eq_true rfl), (Nat.le_of_ble_eq_true rfl)⟩ (fun x38 r40 h => ?_)
              refine jg_iload (pc := 99) X d_8_pasteGrids_99 4 rfl ?_
              refine jg_callVv (pc := 101) X (m_8_pasteGrid tv0 rv7 rv2 r40 rv4 hw h) jM_8_pasteGrid kw_1114 tv0 rfl rfl rfl rfl rfl (Nat.le_of_ble_eq_true rfl) d_8_pasteGrids_101 ⟨(Nat.le_of_ble_eq_true rfl), (Nat.le_of_ble_eq_true rfl)⟩ ⟨(Nat.le_of_ble_eq_true rfl), (Nat.le_of_ble_eq_true rfl)⟩ (fun C43 w45 h => ?_)
              refine jg_iinc (pc := 104) X [(7, jI (v7 + 1)), (0, jr Z v0), (1, jr Z 3), (2, jI v2), (3, jI v3), (4, jI v4), (5, jr Z v5), (6, jI v6)] d_8_pasteGrids_104 7 rfl (by decide) rfl ?_
              refine jg_goto (tgt := 36) (pc := 107) X d_8_pasteGrids_107 (by decide) ?_
              have r46 : jRng (v7 + 1) := by (unfold jRng; exact ⟨by (have z0 : jRng v7 := rv7; have z1 : jRng (C 3 2) := (hw.1 _ _); unfold jRng at z0 z1; omega), by (have z0 : jRng v7 := rv7; have z1 : jRng (C 3 2) := (hw.1 _ _); unfold jRng at z0 z1; omega)⟩)
              refine jg_sub [1, 2, 3, 4, 5, 6, 7, 0] rfl ?_
              exact ih36 _ _ r46 w45 h
            · refine jg_aload_n (pc := 57) X d_8_pasteGrids_57 0 rfl ?_
              refine jgf_8_0 (pc := 58) X tv0 kw_288 d_8_pasteGrids_58 ?_
              refine jg_callVi (pc := 61) X (m_7_seatNewRow (jc_st_0 hn tv0) hw h) jM_7_seatNewRow kw_698 (jc_st_0 hn tv0) rfl rfl rfl rfl rfl (Nat.le_of_ble_eq_true rfl) d_8_pasteGrids_61 ⟨(Nat.le_of_ble_eq_true rfl), (Nat.le_of_ble_eq_true rfl)⟩ ⟨(Nat.le_of_ble_eq_true rfl), (Nat.le_of_ble_eq_true rfl)⟩ (fun x47 C48 r49 w50 h => ?_)
              refine jg_istore (pc := 64) X [(8, jI x47), (0, jr Z v0), (1, jr Z 3), (2, jI v2), (3, jI v3), (4, jI v4), (5, jr Z v5), (6, jI v6), (7, jI v7)] d_8_pasteGrids_64 (by decide) rfl ?_
              refine jg_aload_n (pc := 66) X d_8_pasteGrids_66 1 rfl ?_
              refine jgf_8_0 (pc := 67) X tv0 kw_288 d_8_pasteGrids_67 ?_
              refine jgfN_7_5 (pc := 70) X (jc_st_0 hn tv0) kn_185 d_8_pasteGrids_70 ?_
              refine jg_iload (pc := 73) X d_8_pasteGrids_73 0 rfl ?_
              refine jg_callVv (pc := 75) X (m_6_putLast (jc_sh_5 hn (jc_st_0 hn tv0)) r49 w50 h) jM_6_putLast kw_731 (jc_sh_5 hn (jc_st_0 hn tv0)) rfl rfl rfl rfl rfl (Nat.le_of_ble_eq_true rfl) d_8_pasteGrids_75 ⟨(Nat.le_of_ble_eq_true rfl), (Nat.le_of_ble_eq_true rfl)⟩ ⟨(Nat.le_of_ble_eq_true rfl), (Nat.le_of_ble_eq_true rfl)⟩ (fun C52 w54 h => ?_)
              refine jg_aload (pc := 78) X d_8_pasteGrids_78 6 rfl ?_
              refine jg_iload (pc := 80) X d_8_pasteGrids_80 0 rfl ?_
              refine jg_callVv (pc := 82) X (m_6_putLast tv5 r49 w54 h) jM_6_putLast kw_731 tv5 rfl rfl rfl rfl rfl (Nat.le_of_ble_eq_true rfl) d_8_pasteGrids_82 ⟨(Nat.le_of_ble_eq_true rfl), (Nat.le_of_ble_eq_true rfl)⟩ ⟨(Nat.le_of_ble_eq_true rfl), (Nat.le_of_ble_eq_true rfl)⟩ (fun C56 w58 h => ?_)
              refine jg_aload_n (pc := 85) X d_8_pasteGrids_85 1 rfl ?_
              refine jg_aload_n (pc := 86) X d_8_pasteGrids_86 2 rfl ?_
              refine jg_iload (pc := 87) X d_8_pasteGrids_87 8 rfl ?_
              refine jg_iload_n (pc := 89) X d_8_pasteGrids_89 3 rfl ?_
              refine jg_aload (pc := 90) X d_8_pasteGrids_90 6 rfl ?_
              refine jg_iload_n (pc := 92) X d_8_pasteGrids_92 4 rfl ?_
              refine jg_iload (pc := 93) X d_8_pasteGrids_93 8 rfl ?_
              refine jg_iadd (pc := 95) X d_8_pasteGrids_95 ?_
              refine jg_pcallVi (pc := 96) X (m_6_at tv5 r36 w58 h) jM_6_at kw_885 tv5 rfl rfl rfl rfl rfl (Nat.le_of_ble_eq_true rfl) d_8_pasteGrids_96 ⟨(Nat.le_of_ble_eq_true rfl), (Nat.le_of_ble_eq_true rfl)⟩ ⟨(Nat.le_of_ble_eq_true rfl), (Nat.le_of_ble_eq_true rfl)⟩ (fun x59 r61 h => ?_)
              refine jg_iload (pc := 99) X d_8_pasteGrids_99 5 rfl ?_
              refine jg_callVv (pc := 101) X (m_8_pasteGrid tv0 rv7 rv2 r61 rv4 w58 h) jM_8_pasteGrid kw_1114 tv0 rfl rfl rfl rfl rfl (Nat.le_of_ble_eq_true rfl) d_8_pasteGrids_101 ⟨(Nat.le_of_ble_eq_true rfl), (Nat.le_of_ble_eq_true rfl)⟩ ⟨(Nat.le_of_ble_eq_true rfl), (Nat.le_of_ble_eq_true rfl)⟩ (fun C64 w66 h => ?_)
              refine jg_iinc (pc := 104) X [(7, jI (v7 + 1)), (8, jI x47), (0, jr Z v0), (1, jr Z 3), (2, jI v2), (3, jI v3), (4, jI v4), (5, jr Z v5), (6, jI v6)] d_8_pasteGrids_104 8 rfl (by decide) rfl ?_
              refine jg_goto (tgt := 36) (pc := 107) X d_8_pasteGrids_107 (by decide) ?_
              have r67 : jRng (v7 + 1) := by (unfold jRng; exact ⟨by (have z0 : jRng v7 := rv7; have z1 : jRng (C 3 2) := (hw.1 _ _); unfold jRng at z0 z1; omega), by (have z0 : jRng v7 := rv7; have z1 : jRng (C 3 2) := (hw.1 _ _); unfold jRng at z0 z1; omega)⟩)
              refine jg_sub [2, 3, 4, 5, 6, 7, 8, 0] rfl ?_
              exact ih36 _ _ r67 w66 h
      obtain ⟨N, h⟩ := h
      refine jg_sub [3, 4, 5, 6, 7, 2, 1, 0] rfl ?_
      exact jl36 _ _ (jc_vi_1 hn (jc_va hn (jc_st_1 hn tv0) b3 b4)) r7 N _ _ (⟨by decide, by decide⟩ : jRng 0) w12 h
    · refine jg_iconst (pc := 9) X d_8_pasteGrids_9 ?_
      exact jg_ireturn (pc := 10) X hAe hlocks hr d_8_pasteGrids_10 ⟨(Nat.le_of_ble_eq_true rfl), (Nat.le_of_ble_eq_true rfl)⟩ rfl (⟨by decide, by decide⟩ : jRng 0) hw0 h
set_option maxHeartbeats 4000000 in
set_option maxRecDepth 100000 in
theorem m_11_paste {l : Launch} {Z : jE} {n : Nat} {C : jC} {v1 : Int} {v2 : Int} {v3 : Int} {ex : String → jC → Prop} {post : Int → jC → Prop} (rv1 : jRng v1) (rv2 : jRng v2) (rv3 : jRng v3) (hw0 : jWF n C) (h : wp_11_paste v1 v2 v3 C ex post) : jXi l y_11_paste prog_1_method_19_code 6 (.int) q_11_paste Z n C [jr Z 0, jI v1, jI v2, jI v3] ex post := by
  have hn := hw0.2.2.1
  unfold wp_11_paste at h
  refine jXi_of (lv0 := [(0, jr Z 0), (1, jI v1), (2, jI v2), (3, jI v3)]) (by decide) (Nat.le_of_ble_eq_true rfl) rfl ?_
  intro p e s m args below meth c A sz X hAe hr hlocks htab
  refine jg_aload_n (pc := 0) X d_11_paste_0 0 rfl ?_
  refine jgf_11_0 (pc := 1) X (jl_0_11 hn) kw_336 d_11_paste_1 ?_
  refine jg_callVv (pc := 4) X (m_5_useUp hw0 h) jM_5_useUp kw_771 (jl_1_5 hn) rfl rfl rfl rfl rfl (Nat.le_of_ble_eq_true rfl) d_11_paste_4 ⟨(Nat.le_of_ble_eq_true rfl), (Nat.le_of_ble_eq_true rfl)⟩ ⟨(Nat.le_of_ble_eq_true rfl), (Nat.le_of_ble_eq_true rfl)⟩ (fun C2 w4 h => ?_)
  refine jg_aload_n (pc := 7) X d_11_paste_7 0 rfl ?_
  refine jg_iload_n (pc := 8) X d_11_paste_8 1 rfl ?_
  refine jg_pxcallVr (pc := 9) X hAe htab hlocks (m_11_viewNumbered rv1 w4 h) jM_11_viewNumbered kw_772 (jl_0_11 hn) rfl rfl rfl rfl rfl (Nat.le_of_ble_eq_true rfl) d_11_paste_9 ⟨(Nat.le_of_ble_eq_true rfl), (Nat.le_of_ble_eq_true rfl)⟩ ⟨(Nat.le_of_ble_eq_true rfl), (Nat.le_of_ble_eq_true rfl)⟩ ⟨(Nat.le_of_ble_eq_true rfl), (Nat.le_of_ble_eq_true rfl)⟩ (fun x5 h => ?_)
  obtain ⟨t9, h⟩ := h
  refine jg_eqst (congrArg (· :: _) (jn_pos t9.1)) ?_
  refine jg_astore (pc := 12) X [(4, jr Z x5), (0, jr Z 0), (1, jI v1), (2, jI v2), (3, jI v3)] d_11_paste_12 (by decide) rfl ?_
  refine jg_aload_n (pc := 14) X d_11_paste_14 1 rfl ?_
  refine jg_aload (pc := 15) X d_11_paste_15 0 rfl ?_
  refine jg_iload_n (pc := 17) X d_11_paste_17 3 rfl ?_
  refine jg_pxcallVi (pc := 18) X hAe htab hlocks (m_11_seatAtPlace t9 rv2 w4 h) jM_11_seatAtPlace kw_989 (jl_0_11 hn) rfl rfl rfl rfl rfl (Nat.le_of_ble_eq_true rfl) d_11_paste_18 ⟨(Nat.le_of_ble_eq_true rfl), (Nat.le_of_ble_eq_true rfl)⟩ ⟨(Nat.le_of_ble_eq_true rfl), (Nat.le_of_ble_eq_true rfl)⟩ ⟨(Nat.le_of_ble_eq_true rfl), (Nat.le_of_ble_eq_true rfl)⟩ (fun x10 r12 h => ?_)
  refine jg_pop (pc := 21) X d_11_paste_21 rfl ?_
  refine jg_aload_n (pc := 22) X d_11_paste_22 1 rfl ?_
  refine jg_iload_n (pc := 23) X d_11_paste_23 4 rfl ?_
  refine jg_pxcallVv (pc := 24) X hAe htab hlocks (m_11_needColumn rv3 w4 h) jM_11_needColumn kw_904 (jl_0_11 hn) rfl rfl rfl rfl rfl (Nat.le_of_ble_eq_true rfl) d_11_paste_24 ⟨(Nat.le_of_ble_eq_true rfl), (Nat.le_of_ble_eq_true rfl)⟩ ⟨(Nat.le_of_ble_eq_true rfl), (Nat.le_of_ble_eq_true rfl)⟩ ⟨(Nat.le_of_ble_eq_true rfl), (Nat.le_of_ble_eq_true rfl)⟩ (fun h => ?_)
  refine jg_aload_n (pc := 27) X d_11_paste_27 1 rfl ?_
  refine jg_aload (pc := 28) X d_11_paste_28 0 rfl ?_
  refine jg_iload_n (pc := 30) X d_11_paste_30 4 rfl ?_
  refine jg_pxcallVv (pc := 31) X hAe htab hlocks (m_11_needShown t9 rv3 w4 h) jM_11_needShown kw_993 (jl_0_11 hn) rfl rfl rfl rfl rfl (Nat.le_of_ble_eq_true rfl) d_11_paste_31 ⟨(Nat.le_of_ble_eq_true rfl), (Nat.le_of_ble_eq_true rfl)⟩ ⟨(Nat.le_of_ble_eq_true rfl), (Nat.le_of_ble_eq_true rfl)⟩ ⟨(Nat.le_of_ble_eq_true rfl), (Nat.le_of_ble_eq_true rfl)⟩ (fun h => ?_)
  refine jg_aload_n (pc := 34) X d_11_paste_34 1 rfl ?_
  refine jgf_11_0 (pc := 35) X (jl_0_11 hn) kw_336 d_11_paste_35 ?_
  refine jg_callVv (pc := 38) X (m_5_openUsedText w4 h) jM_5_openUsedText kw_791 (jl_1_5 hn) rfl rfl rfl rfl rfl (Nat.le_of_ble_eq_true rfl) d_11_paste_38 ⟨(Nat.le_of_ble_eq_true rfl), (Nat.le_of_ble_eq_true rfl)⟩ ⟨(Nat.le_of_ble_eq_true rfl), (Nat.le_of_ble_eq_true rfl)⟩ (fun C23 w25 h => ?_)
  refine jg_aload_n (pc := 41) X d_11_paste_41 1 rfl ?_
  refine jgf_11_1 (pc := 42) X (jl_0_11 hn) kw_337 d_11_paste_42 ?_
  refine jg_aload_n (pc := 45) X d_11_paste_45 1 rfl ?_
  refine jgf_11_0 (pc := 46) X (jl_0_11 hn) kw_336 d_11_paste_46 ?_
  refine jg_aload_n (pc := 49) X d_11_paste_49 1 rfl ?_
  refine jgf_11_2 (pc := 50) X (jl_0_11 hn) kw_338 d_11_paste_50 ?_
  refine jgfN_8_0 (pc := 53) X (jl_35_8 hn) kn_290 d_11_paste_53 ?_
  refine jg_aload (pc := 56) X d_11_paste_56 0 rfl ?_
  refine jgfN_10_0 (pc := 58) X t9 kn_271 d_11_paste_58 ?_
  refine jg_iload_n (pc := 61) X d_11_paste_61 4 rfl ?_
  refine jg_callVi (pc := 62) X (m_9_readGrids (jl_36_7 hn) (jc_vi_0 hn t9) rv3 w25 h) jM_9_readGrids kw_1098 (jl_3_9 hn) rfl rfl rfl rfl rfl (Nat.le_of_ble_eq_true rfl) d_11_paste_62 ⟨(Nat.le_of_ble_eq_true rfl), (Nat.le_of_ble_eq_true rfl)⟩ ⟨(Nat.le_of_ble_eq_true rfl), (Nat.le_of_ble_eq_true rfl)⟩ (fun x26 C27 r28 w29 h => ?_)
  refine jg_if_ne (tgt := 76) (pc := 65) X d_11_paste_65 (by decide) r28 h (fun c30 h => ?_) (fun c30 h => ?_)
  · exact jg_throw (pc := 68) X hAe htab hlocks (by decide) kw_612 kw_22 th_58 tg_58 d_11_paste_68 d_11_paste_71 d_11_paste_72 d_11_paste_75 ⟨(Nat.le_of_ble_eq_true rfl), (Nat.le_of_ble_eq_true rfl), (Nat.le_of_ble_eq_true rfl), (Nat.le_of_ble_eq_true rfl)⟩ ⟨(Nat.le_of_ble_eq_true rfl), (Nat.le_of_ble_eq_true rfl)⟩ w29 h
  · refine jg_iconst (pc := 76) X d_11_paste_76 ?_
    refine jg_iload_n (pc := 77) X d_11_paste_77 3 rfl ?_
    refine jg_aload_n (pc := 78) X d_11_paste_78 1 rfl ?_
    refine jgf_11_1 (pc := 79) X (jl_0_11 hn) kw_337 d_11_paste_79 ?_
    refine jgfN_9_2 (pc := 82) X (jl_3_9 hn) kn_130 d_11_paste_82 ?_
    refine jg_iadd (pc := 85) X d_11_paste_85 ?_
    refine jg_aload (pc := 86) X d_11_paste_86 0 rfl ?_
    refine jgfN_10_1 (pc := 88) X t9 kn_275 d_11_paste_88 ?_
    refine jg_pcallVi (pc := 91) X (m_6_length (jc_vi_1 hn t9) w29 h) jM_6_length kw_896 (jc_vi_1 hn t9) rfl rfl rfl rfl rfl (Nat.le_of_ble_eq_true rfl) d_11_paste_91 ⟨(Nat.le_of_ble_eq_true rfl), (Nat.le_of_ble_eq_true rfl)⟩ ⟨(Nat.le_of_ble_eq_true rfl), (Nat.le_of_ble_eq_true rfl)⟩ (fun x31 r33 h => ?_)
    refine jg_isub (pc := 94) X d_11_paste_94 ?_
    obtain ⟨r35, h⟩ := h
    have r36 : jRng (max 0 ((v2 + (C27 3 2)) - x31)) := jrng_max (⟨by decide, by decide⟩ : jRng 0) r35
    refine jg_max (pc := 95) X kw_1106 d_11_paste_95 kw_max1 kw_ma kw_max2 ⟨(Nat.le_of_ble_eq_true rfl), (Nat.le_of_ble_eq_true rfl), (Nat.le_of_ble_eq_true rfl), (Nat.le_of_ble_eq_true rfl)⟩ (⟨by decide, by decide⟩ : jRng 0) r35 ?_
    refine jg_istore (pc := 98) X [(5, jI (max 0 ((v2 + (C27 3 2)) - x31))), (4, jr Z x5), (0, jr Z 0), (1, jI v1), (2, jI v2), (3, jI v3)] d_11_paste_98 (by decide) rfl ?_
    refine jg_aload_n (pc := 100) X d_11_paste_100 2 rfl ?_
    refine jgf_11_2 (pc := 101) X (jl_0_11 hn) kw_338 d_11_paste_101 ?_
    refine jgfN_8_0 (pc := 104) X (jl_35_8 hn) kn_290 d_11_paste_104 ?_
    refine jg_pcallVi (pc := 107) X (m_7_rowsNow (jl_36_7 hn) w29 h) jM_7_rowsNow kw_440 (jl_36_7 hn) rfl rfl rfl rfl rfl (Nat.le_of_ble_eq_true rfl) d_11_paste_107 ⟨(Nat.le_of_ble_eq_true rfl), (Nat.le_of_ble_eq_true rfl)⟩ ⟨(Nat.le_of_ble_eq_true rfl), (Nat.le_of_ble_eq_true rfl)⟩ (fun x37 r39 h => ?_)
    refine jg_iload (pc := 110) X d_11_paste_110 0 rfl ?_
    refine jg_iadd (pc := 112) X d_11_paste_112 ?_
    refine jg_bipush (pc := 113) X d_11_paste_113 rfl ?_
    obtain ⟨r41, h⟩ := h
    refine jg_icmp_le (tgt := 126) (pc := 115) X d_11_paste_115 (by decide) r41 (⟨by decide, by decide⟩ : jRng 24) h (fun c42 h => ?_) (fun c42 h => ?_)
    · have c42 : (x37 + (max 0 ((v2 + (C27 3 2)) - x31))) ≤ 24 := c42
      refine jg_aload_n (pc := 126) X d_11_paste_126 2 rfl ?_
      refine jgf_11_2 (pc := 127) X (jl_0_11 hn) kw_338 d_11_paste_127 ?_
      refine jg_aload_n (pc := 130) X d_11_paste_130 2 rfl ?_
      refine jgf_11_1 (pc := 131) X (jl_0_11 hn) kw_337 d_11_paste_131 ?_
      refine jg_iload_n (pc := 134) X d_11_paste_134 3 rfl ?_
      refine jg_iload_n (pc := 135) X d_11_paste_135 4 rfl ?_
      refine jg_iload_n (pc := 136) X d_11_paste_136 5 rfl ?_
      refine jg_callVi (pc := 137) X (m_8_pasteGrids (jl_35_8 hn) rv1 rv2 rv3 w29 h) jM_8_pasteGrids kw_1109 (jl_35_8 hn) rfl rfl rfl rfl rfl (Nat.le_of_ble_eq_true rfl) d_11_paste_137 ⟨(Nat.le_of_ble_eq_true rfl), (Nat.le_of_ble_eq_true rfl)⟩ ⟨(Nat.le_of_ble_eq_true rfl), (Nat.le_of_ble_eq_true rfl)⟩ (fun x43 C44 r45 w46 h => ?_)
      refine jg_ret_x ?_
      exact jg_ireturn (pc := 140) X hAe hlocks hr d_11_paste_140 ⟨(Nat.le_of_ble_eq_true rfl), (Nat.le_of_ble_eq_true rfl)⟩ rfl r45 w46 h
    · have c42 : ¬ ((x37 + (max 0 ((v2 + (C27 3 2)) - x31))) ≤ 24) := c42
      exact jg_throw (pc := 118) X hAe htab hlocks (by decide) kw_678 kw_23 th_65 tg_65 d_11_paste_118 d_11_paste_121 d_11_paste_122 d_11_paste_125 ⟨(Nat.le_of_ble_eq_true rfl), (Nat.le_of_ble_eq_true rfl), (Nat.le_of_ble_eq_true rfl), (Nat.le_of_ble_eq_true rfl)⟩ ⟨(Nat.le_of_ble_eq_true rfl), (Nat.le_of_ble_eq_true rfl)⟩ w29 h
set_option maxHeartbeats 4000000 in
set_option maxRecDepth 100000 in
theorem m_11_add {l : Launch} {Z : jE} {n : Nat} {C : jC} {v1 : Int} {v2 : Int} {ex : String → jC → Prop} {post : Int → jC → Prop} (rv1 : jRng v1) (rv2 : jRng v2) (hw0 : jWF n C) (h : wp_11_add v1 v2 C ex post) : jXi l y_11_add prog_1_method_20_code 6 (.int) q_11_add Z n C [jr Z 0, jI v1, jI v2] ex post := by
  have hn := hw0.2.2.1
  unfold wp_11_add at h
  refine jXi_of (lv0 := [(0, jr Z 0), (1, jI v1), (2, jI v2)]) (by decide) (Nat.le_of_ble_eq_true rfl) rfl ?_
  intro p e s m args below meth c A sz X hAe hr hlocks htab
  have jb21 : ∀ (s0 : Int) (v1 : Int) (v2 : Int) (v3 : Int) (C : jC) (rs0 : jRng s0) (rv1 : jRng v1) (rv2 : jRng v2) (tv3 : jT n v3 10) (hw : jWF n C), wp_11_add_21 s0 v1 v2 v3 C ex post → jG p l e q_11_add s m args below meth c 6 Z A (jws Z n C) 2 12 (vx_MQ below (jQi Z n sz post) (jXC Z n sz ex) args s q_11_add.cells q_11_add.slots (jA Z n sz)) 21 [(0, jr Z 0), (1, jI v1), (2, jI v2), (3, jr Z v3)] [jI s0] := by
    intro s0 v1 v2 v3 C rs0 rv1 rv2 tv3 hw h
    unfold wp_11_add_21 at h
    refine jg_istore (pc := 21) X [(4, jI s0), (0, jr Z 0), (1, jI v1), (2, jI v2), (3, jr Z v3)] d_11_add_21 (by decide) rfl ?_
    refine jg_aload_n (pc := 23) X d_11_add_23 1 rfl ?_
    refine jgf_11_2 (pc := 24) X (jl_0_11 hn) kw_338 d_11_add_24 ?_
    refine jgfN_8_0 (pc := 27) X (jl_35_8 hn) kn_290 d_11_add_27 ?_
    refine jg_pcallVi (pc := 30) X (m_7_rowsNow (jl_36_7 hn) hw h) jM_7_rowsNow kw_440 (jl_36_7 hn) rfl rfl rfl rfl rfl (Nat.le_of_ble_eq_true rfl) d_11_add_30 ⟨(Nat.le_of_ble_eq_true rfl), (Nat.le_of_ble_eq_true rfl)⟩ ⟨(Nat.le_of_ble_eq_true rfl), (Nat.le_of_ble_eq_true rfl)⟩ (fun x1 r3 h => ?_)
    refine jg_bipush (pc := 33) X d_11_add_33 rfl ?_
    refine jg_icmp_ge (tgt := 51) (pc := 35) X d_11_add_35 (by decide) r3 (⟨by decide, by decide⟩ : jRng 24) h (fun c5 h => ?_) (fun c5 h => ?_)
    · exact jg_throw (pc := 51) X hAe htab hlocks (by decide) kw_678 kw_23 th_65 tg_65 d_11_add_51 d_11_add_54 d_11_add_55 d_11_add_58 ⟨(Nat.le_of_ble_eq_true rfl), (Nat.le_of_ble_eq_true rfl), (Nat.le_of_ble_eq_true rfl), (Nat.le_of_ble_eq_true rfl)⟩ ⟨(Nat.le_of_ble_eq_true rfl), (Nat.le_of_ble_eq_true rfl)⟩ hw h
    · refine jg_aload_n (pc := 38) X d_11_add_38 1 rfl ?_
      refine jgf_11_2 (pc := 39) X (jl_0_11 hn) kw_338 d_11_add_39 ?_
      refine jgfN_8_0 (pc := 42) X (jl_35_8 hn) kn_290 d_11_add_42 ?_
      refine jgfN_7_0 (pc := 45) X (jl_36_7 hn) kn_177 d_11_add_45 ?_
      refine jg_if_ne (tgt := 59) (pc := 48) X d_11_add_48 (by decide) (hw.1 _ _) h (fun c6 h => ?_) (fun c6 h => ?_)
      · have c6 : (C 36 0) = 0 := c6
        exact jg_throw (pc := 51) X hAe htab hlocks (by decide) kw_678 kw_23 th_65 tg_65 d_11_add_51 d_11_add_54 d_11_add_55 d_11_add_58 ⟨(Nat.le_of_ble_eq_true rfl), (Nat.le_of_ble_eq_true rfl), (Nat.le_of_ble_eq_true rfl), (Nat.le_of_ble_eq_true rfl)⟩ ⟨(Nat.le_of_ble_eq_true rfl), (Nat.le_of_ble_eq_true rfl)⟩ hw h
      · have c6 : ¬ ((C 36 0) = 0) := c6
        refine jg_aload_n (pc := 59) X d_11_add_59 1 rfl ?_
        refine jgf_11_2 (pc := 60) X (jl_0_11 hn) kw_338 d_11_add_60 ?_
        refine jgfN_8_0 (pc := 63) X (jl_35_8 hn) kn_290 d_11_add_63 ?_
        refine jg_callVi (pc := 66) X (m_7_seatNewRow (jl_36_7 hn) hw h) jM_7_seatNewRow kw_1128 (jl_36_7 hn) rfl rfl rfl rfl rfl (Nat.le_of_ble_eq_true rfl) d_11_add_66 ⟨(Nat.le_of_ble_eq_true rfl), (Nat.le_of_ble_eq_true rfl)⟩ ⟨(Nat.le_of_ble_eq_true rfl), (Nat.le_of_ble_eq_true rfl)⟩ (fun x7 C8 r9 w10 h => ?_)
        refine jg_istore (pc := 69) X [(5, jI x7), (4, jI s0), (0, jr Z 0), (1, jI v1), (2, jI v2), (3, jr Z v3)] d_11_add_69 (by decide) rfl ?_
        refine jg_aload_n (pc := 71) X d_11_add_71 2 rfl ?_
        refine jgf_11_2 (pc := 72) X (jl_0_11 hn) kw_338 d_11_add_72 ?_
        refine jgfN_8_0 (pc := 75) X (jl_35_8 hn) kn_290 d_11_add_75 ?_
        refine jgfN_7_5 (pc := 78) X (jl_36_7 hn) kn_187 d_11_add_78 ?_
        refine jg_aload_n (pc := 81) X d_11_add_81 2 rfl ?_
        refine jgf_11_2 (pc := 82) X (jl_0_11 hn) kw_338 d_11_add_82 ?_
        refine jgfN_8_0 (pc := 85) X (jl_35_8 hn) kn_290 d_11_add_85 ?_
        refine jgfN_7_5 (pc := 88) X (jl_36_7 hn) kn_187 d_11_add_88 ?_
        refine jg_iload (pc := 91) X d_11_add_91 1 rfl ?_
        refine jg_pcallVi (pc := 93) X (m_6_placeOf (jl_41_6 hn) rs0 w10 h) jM_6_placeOf kw_945 (jl_41_6 hn) rfl rfl rfl rfl rfl (Nat.le_of_ble_eq_true rfl) d_11_add_93 ⟨(Nat.le_of_ble_eq_true rfl), (Nat.le_of_ble_eq_true rfl)⟩ ⟨(Nat.le_of_ble_eq_true rfl), (Nat.le_of_ble_eq_true rfl)⟩ (fun x11 r13 h => ?_)
        refine jg_iconst (pc := 96) X d_11_add_96 ?_
        refine jg_iadd (pc := 97) X d_11_add_97 ?_
        refine jg_iload (pc := 98) X d_11_add_98 0 rfl ?_
        obtain ⟨r15, h⟩ := h
        refine jg_callVv (pc := 100) X (m_6_putAt (jl_41_6 hn) r15 r9 w10 h) jM_6_putAt kw_1129 (jl_41_6 hn) rfl rfl rfl rfl rfl (Nat.le_of_ble_eq_true rfl) d_11_add_100 ⟨(Nat.le_of_ble_eq_true rfl), (Nat.le_of_ble_eq_true rfl)⟩ ⟨(Nat.le_of_ble_eq_true rfl), (Nat.le_of_ble_eq_true rfl)⟩ (fun C17 w19 h => ?_)
        refine jg_aload_n (pc := 103) X d_11_add_103 5 rfl ?_
        refine jgfN_10_1 (pc := 104) X tv3 kn_275 d_11_add_104 ?_
        refine jg_iload_n (pc := 107) X d_11_add_107 4 rfl ?_
        refine jg_iconst (pc := 108) X d_11_add_108 ?_
        refine jg_iadd (pc := 109) X d_11_add_109 ?_
        refine jg_iload (pc := 110) X d_11_add_110 0 rfl ?_
        obtain ⟨r20, h⟩ := h
        refine jg_callVv (pc := 112) X (m_6_putAt (jc_vi_1 hn tv3) r20 r9 w19 h) jM_6_putAt kw_1129 (jc_vi_1 hn tv3) rfl rfl rfl rfl rfl (Nat.le_of_ble_eq_true rfl) d_11_add_112 ⟨(Nat.le_of_ble_eq_true rfl), (Nat.le_of_ble_eq_true rfl)⟩ ⟨(Nat.le_of_ble_eq_true rfl), (Nat.le_of_ble_eq_true rfl)⟩ (fun C22 w24 h => ?_)
        refine jg_aload_n (pc := 115) X d_11_add_115 2 rfl ?_
        refine jgf_11_2 (pc := 116) X (jl_0_11 hn) kw_338 d_11_add_116 ?_
        refine jg_iload (pc := 119) X d_11_add_119 0 rfl ?_
        refine jg_iload_n (pc := 121) X d_11_add_121 3 rfl ?_
        refine jg_callVv (pc := 122) X (m_8_joinOthers (jl_35_8 hn) r9 rv1 w24 h) jM_8_joinOthers kw_1130 (jl_35_8 hn) rfl rfl rfl rfl rfl (Nat.le_of_ble_eq_true rfl) d_11_add_122 ⟨(Nat.le_of_ble_eq_true rfl), (Nat.le_of_ble_eq_true rfl)⟩ ⟨(Nat.le_of_ble_eq_true rfl), (Nat.le_of_ble_eq_true rfl)⟩ (fun C26 w28 h => ?_)
        refine jg_aload_n (pc := 125) X d_11_add_125 2 rfl ?_
        refine jgf_11_2 (pc := 126) X (jl_0_11 hn) kw_338 d_11_add_126 ?_
        refine jgfN_8_0 (pc := 129) X (jl_35_8 hn) kn_290 d_11_add_129 ?_
        refine jg_iload (pc := 132) X d_11_add_132 0 rfl ?_
        refine jg_pcallVi (pc := 134) X (m_7_keyAt (jl_36_7 hn) r9 w28 h) jM_7_keyAt kw_376 (jl_36_7 hn) rfl rfl rfl rfl rfl (Nat.le_of_ble_eq_true rfl) d_11_add_134 ⟨(Nat.le_of_ble_eq_true rfl), (Nat.le_of_ble_eq_true rfl)⟩ ⟨(Nat.le_of_ble_eq_true rfl), (Nat.le_of_ble_eq_true rfl)⟩ (fun x29 r31 h => ?_)
        refine jg_ret_x ?_
        exact jg_ireturn (pc := 137) X hAe hlocks hr d_11_add_137 ⟨(Nat.le_of_ble_eq_true rfl), (Nat.le_of_ble_eq_true rfl)⟩ rfl r31 w28 h
  refine jg_aload_n (pc := 0) X d_11_add_0 0 rfl ?_
  refine jg_iload_n (pc := 1) X d_11_add_1 1 rfl ?_
  refine jg_pxcallVr (pc := 2) X hAe htab hlocks (m_11_viewNumbered rv1 hw0 h) jM_11_viewNumbered kw_772 (jl_0_11 hn) rfl rfl rfl rfl rfl (Nat.le_of_ble_eq_true rfl) d_11_add_2 ⟨(Nat.le_of_ble_eq_true rfl), (Nat.le_of_ble_eq_true rfl)⟩ ⟨(Nat.le_of_ble_eq_true rfl), (Nat.le_of_ble_eq_true rfl)⟩ ⟨(Nat.le_of_ble_eq_true rfl), (Nat.le_of_ble_eq_true rfl)⟩ (fun x33 h => ?_)
  obtain ⟨t37, h⟩ := h
  refine jg_eqst (congrArg (· :: _) (jn_pos t37.1)) ?_
  refine jg_astore_n (pc := 5) X [(3, jr Z x33), (0, jr Z 0), (1, jI v1), (2, jI v2)] d_11_add_5 (by decide) rfl ?_
  refine jg_iload_n (pc := 6) X d_11_add_6 3 rfl ?_
  refine jg_iconst (pc := 7) X d_11_add_7 ?_
  refine jg_icmp_ne (tgt := 15) (pc := 8) X d_11_add_8 (by decide) rv2 (⟨by decide, by decide⟩ : jRng (-1)) h (fun c38 h => ?_) (fun c38 h => ?_)
  · refine jg_iconst (pc := 11) X d_11_add_11 ?_
    refine jg_goto (tgt := 21) (pc := 12) X d_11_add_12 (by decide) ?_
    refine jg_widen (cells2 := 2) (slots2 := 12) (Nat.le_of_ble_eq_true rfl) (Nat.le_of_ble_eq_true rfl) ?_
    refine jg_sub [1, 2, 3, 0] rfl ?_
    exact jb21 _ _ _ _ _ (⟨by decide, by decide⟩ : jRng (-1)) rv1 rv2 t37 hw0 h
  · refine jg_aload_n (pc := 15) X d_11_add_15 1 rfl ?_
    refine jg_aload_n (pc := 16) X d_11_add_16 0 rfl ?_
    refine jg_iload_n (pc := 17) X d_11_add_17 3 rfl ?_
    refine jg_pxcallVi (pc := 18) X hAe htab hlocks (m_11_seatAtPlace t37 rv2 hw0 h) jM_11_seatAtPlace kw_989 (jl_0_11 hn) rfl rfl rfl rfl rfl (Nat.le_of_ble_eq_true rfl) d_11_add_18 ⟨(Nat.le_of_ble_eq_true rfl), (Nat.le_of_ble_eq_true rfl)⟩ ⟨(Nat.le_of_ble_eq_true rfl), (Nat.le_of_ble_eq_true rfl)⟩ ⟨(Nat.le_of_ble_eq_true rfl), (Nat.le_of_ble_eq_true rfl)⟩ (fun x39 r41 h => ?_)
    refine jg_sub [1, 2, 3, 0] rfl ?_
    exact jb21 _ _ _ _ _ r41 rv1 rv2 t37 hw0 h
set_option maxHeartbeats 4000000 in
set_option maxRecDepth 100000 in
theorem m_6_takeOut {l : Launch} {Z : jE} {n : Nat} {C : jC} {v0 : Int} {v1 : Int} {post : jC → Prop} (tv0 : jT n v0 6) (rv1 : jRng v1) (hw0 : jWF n C) (h : wp_6_takeOut v0 v1 C post) : jCv l y_6_takeOut prog_8_method_8_code 4 q_6_takeOut Z n C [jr Z v0, jI v1] post := by
  have hn := hw0.2.2.1
  unfold wp_6_takeOut at h
  refine jCv_of (lv0 := [(0, jr Z v0), (1, jI v1)]) (by decide) (Nat.le_of_ble_eq_true rfl) rfl ?_
  intro p e s m args below meth c A sz X hAe hr hlocks
  refine jg_aload_n (pc := 0) X d_6_takeOut_0 0 rfl ?_
  refine jg_iload_n (pc := 1) X d_6_takeOut_1 1 rfl ?_
  refine jg_pcallVi (pc := 2) X (m_6_placeOf tv0 rv1 hw0 h) jM_6_placeOf kw_706 tv0 rfl rfl rfl rfl rfl (Nat.le_of_ble_eq_true rfl) d_6_takeOut_2 ⟨(Nat.le_of_ble_eq_true rfl), (Nat.le_of_ble_eq_true rfl)⟩ ⟨(Nat.le_of_ble_eq_true rfl), (Nat.le_of_ble_eq_true rfl)⟩ (fun x1 r3 h => ?_)
  refine jg_istore_n (pc := 5) X [(2, jI x1), (0, jr Z v0), (1, jI v1)] d_6_takeOut_5 (by decide) rfl ?_
  refine jg_iload_n (pc := 6) X d_6_takeOut_6 0 rfl ?_
  refine jg_iconst (pc := 7) X d_6_takeOut_7 ?_
  refine jg_icmp_ne (tgt := 12) (pc := 8) X d_6_takeOut_8 (by decide) r3 (⟨by decide, by decide⟩ : jRng (-1)) h (fun c5 h => ?_) (fun c5 h => ?_)
  · exact jg_return (pc := 11) X hAe hlocks hr d_6_takeOut_11 ⟨(Nat.le_of_ble_eq_true rfl), (Nat.le_of_ble_eq_true rfl)⟩ hw0 h
  · refine jg_aload_n (pc := 12) X d_6_takeOut_12 1 rfl ?_
    refine jg_dup (pc := 13) X d_6_takeOut_13 rfl ?_
    refine jgf_6_1 (pc := 14) X tv0 kw_167 d_6_takeOut_14 ?_
    refine jg_iconst (pc := 17) X d_6_takeOut_17 ?_
    refine jg_isub (pc := 18) X d_6_takeOut_18 ?_
    obtain ⟨r6, h⟩ := h
    refine jgp_6_1 (pc := 19) X tv0 kw_167 d_6_takeOut_19 ?_
    have w7 := jWF.u (k := 1) (v := ((C v0 1) - 1)) hw0 tv0 (by decide) r6
    refine jg_iload_n (pc := 22) X d_6_takeOut_22 0 rfl ?_
    refine jg_istore_n (pc := 23) X [(3, jI x1), (2, jI x1), (0, jr Z v0), (1, jI v1)] d_6_takeOut_23 (by decide) rfl ?_
    have jl24 : ∀  (N : Nat) (v3 : Int) (C : jC) (rv3 : jRng v3) (hw : jWF n C), jI2 (wp_6_takeOut_24 v0 post) N v3 C → jG p l e q_6_takeOut s m args below meth c 4 Z A (jws Z n C) 0 0 (MQ below (jQv Z n sz post) args s q_6_takeOut.cells q_6_takeOut.slots (jA Z n sz)) 24 [(0, jr Z v0), (3, jI v3)] [] := by
      intro   N
      have hn := hw0.2.2.1
      induction N with
      | zero => intro v3 C rv3 hw h; exact h.elim
      | succ N ih24 =>
        intro v3 C rv3 hw h
        have h : wp_6_takeOut_24 v0 post (jI2 (wp_6_takeOut_24 v0 post) N) v3 C := h
        generalize jI2 (wp_6_takeOut_24 v0 post) N = k24 at h ih24
        unfold wp_6_takeOut_24 at h
        refine jg_iload_n (pc := 24) X d_6_takeOut_24 1 rfl ?_
        refine jg_aload_n (pc := 25) X d_6_takeOut_25 0 rfl ?_
        refine jgf_6_1 (pc := 26) X tv0 kw_167 d_6_takeOut_26 ?_
        refine jg_icmp_ge (tgt := 60) (pc := 29) X d_6_takeOut_29 (by decide) rv3 (hw.1 _ _) h (fun c8 h => ?_) (fun c8 h => ?_)
        · have c8 : (C v0 1) ≤ v3 := c8
          exact jg_return (pc := 60) X hAe hlocks hr d_6_takeOut_60 ⟨(Nat.le_of_ble_eq_true rfl), (Nat.le_of_ble_eq_true rfl)⟩ hw h
        · have c8 : ¬ ((C v0 1) ≤ v3) := c8
          refine jg_iload_n (pc := 32) X d_6_takeOut_32 1 rfl ?_
          refine jg_iconst (pc := 33) X d_6_takeOut_33 ?_
          refine jg_iadd (pc := 34) X d_6_takeOut_34 ?_
          refine jg_bipush (pc := 35) X d_6_takeOut_35 rfl ?_
          have r9 : jRng (v3 + 1) := by (unfold jRng; exact ⟨by (have z0 : jRng v3 := rv3; have z1 : jRng (C v0 1) := (hw.1 _ _); unfold jRng at z0 z1; omega), by (have z0 : jRng v3 := rv3; have z1 : jRng (C v0 1) := (hw.1 _ _); unfold jRng at z0 z1; omega)⟩)
          refine jg_icmp_ge (tgt := 60) (pc := 37) X d_6_takeOut_37 (by decide) r9 (⟨by decide, by decide⟩ : jRng 24) h (fun c10 h => ?_) (fun c10 h => ?_)
          · exact jg_return (pc := 60) X hAe hlocks hr d_6_takeOut_60 ⟨(Nat.le_of_ble_eq_true rfl), (Nat.le_of_ble_eq_true rfl)⟩ hw h
          · refine jg_aload_n (pc := 40) X d_6_takeOut_40 0 rfl ?_
            refine jgf_6_0 (pc := 41) X tv0 kw_166 d_6_takeOut_41 ?_
            refine jg_iload_n (pc := 44) X d_6_takeOut_44 1 rfl ?_
            refine jg_aload_n (pc := 45) X d_6_takeOut_45 0 rfl ?_
            refine jgf_6_0 (pc := 46) X tv0 kw_166 d_6_takeOut_46 ?_
            refine jg_iload_n (pc := 49) X d_6_takeOut_49 1 rfl ?_
            refine jg_iconst (pc := 50) X d_6_takeOut_50 ?_
            refine jg_iadd (pc := 51) X d_6_takeOut_51 ?_
            obtain ⟨b11, h⟩ := h
            have b12 : (v3 + 1) < 24 := by (have z0 : jRng (v3 + 1) := r9; have z1 : jRng v3 := rv3; have z2 : jRng (C v0 1) := (hw.1 _ _); unfold jRng at z0 z1 z2; omega)
            refine jg_iaload (len := 24) (pc := 52) X d_6_takeOut_52 (jc_ro_0 hn tv0) (fun _ => rfl) (by decide) b11 b12 ?_
            obtain ⟨b13, b14, h⟩ := h
            refine jg_iastore (len := 24) (pc := 53) X d_6_takeOut_53 (jc_ro_0 hn tv0) (fun _ => rfl) (by decide) b13 b14 ?_
            have w15 := jWF.u (k := v3) (v := (C (v0 + 1) (v3 + 1))) hw (jc_ro_0 hn tv0) (by decide) (hw.1 _ _)
            refine jg_iinc (pc := 54) X [(3, jI (v3 + 1)), (0, jr Z v0)] d_6_takeOut_54 1 rfl (by decide) rfl ?_
            refine jg_goto (tgt := 24) (pc := 57) X d_6_takeOut_57 (by decide) ?_
            refine jg_sub [1, 0] rfl ?_
            exact ih24 _ _ r9 w15 h
    obtain ⟨N, h⟩ := h
    refine jg_sub [2, 0] rfl ?_
    exact jl24   N _ _ r3 w7 h
set_option maxHeartbeats 4000000 in
set_option maxRecDepth 100000 in
theorem m_8_removeRow {l : Launch} {Z : jE} {n : Nat} {C : jC} {v0 : Int} {v1 : Int} {post : jC → Prop} (tv0 : jT n v0 8) (rv1 : jRng v1) (hw0 : jWF n C) (h : wp_8_removeRow v0 v1 C post) : jCv l y_8_removeRow prog_10_method_4_code 3 q_8_removeRow Z n C [jr Z v0, jI v1] post := by
  have hn := hw0.2.2.1
  unfold wp_8_removeRow at h
  refine jCv_of (lv0 := [(0, jr Z v0), (1, jI v1)]) (by decide) (Nat.le_of_ble_eq_true rfl) rfl ?_
  intro p e s m args below meth c A sz X hAe hr hlocks
  refine jg_aload_n (pc := 0) X d_8_removeRow_0 0 rfl ?_
  refine jgf_8_0 (pc := 1) X tv0 kw_288 d_8_removeRow_1 ?_
  refine jgfN_7_5 (pc := 4) X (jc_st_0 hn tv0) kn_185 d_8_removeRow_4 ?_
  refine jg_iload_n (pc := 7) X d_8_removeRow_7 1 rfl ?_
  refine jg_callVv (pc := 8) X (m_6_takeOut (jc_sh_5 hn (jc_st_0 hn tv0)) rv1 hw0 h) jM_6_takeOut kw_1142 (jc_sh_5 hn (jc_st_0 hn tv0)) rfl rfl rfl rfl rfl (Nat.le_of_ble_eq_true rfl) d_8_removeRow_8 ⟨(Nat.le_of_ble_eq_true rfl), (Nat.le_of_ble_eq_true rfl)⟩ ⟨(Nat.le_of_ble_eq_true rfl), (Nat.le_of_ble_eq_true rfl)⟩ (fun C2 w4 h => ?_)
  refine jg_iconst (pc := 11) X d_8_removeRow_11 ?_
  refine jg_istore_n (pc := 12) X [(2, jI 0), (0, jr Z v0), (1, jI v1)] d_8_removeRow_12 (by decide) rfl ?_
  have jl13 : ∀  (N : Nat) (v2 : Int) (C : jC) (rv2 : jRng v2) (hw : jWF n C), jI2 (wp_8_removeRow_13 v0 v1 post) N v2 C → jG p l e q_8_removeRow s m args below meth c 3 Z A (jws Z n C) 0 0 (MQ below (jQv Z n sz post) args s q_8_removeRow.cells q_8_removeRow.slots (jA Z n sz)) 13 [(0, jr Z v0), (1, jI v1), (2, jI v2)] [] := by
    intro   N
    have hn := hw0.2.2.1
    induction N with
    | zero => intro v2 C rv2 hw h; exact h.elim
    | succ N ih13 =>
      intro v2 C rv2 hw h
      have h : wp_8_removeRow_13 v0 v1 post (jI2 (wp_8_removeRow_13 v0 v1 post) N) v2 C := h
      generalize jI2 (wp_8_removeRow_13 v0 v1 post) N = k13 at h ih13
      unfold wp_8_removeRow_13 at h
      refine jg_iload_n (pc := 13) X d_8_removeRow_13 2 rfl ?_
      refine jg_iconst (pc := 14) X d_8_removeRow_14 ?_
      refine jg_icmp_ge (tgt := 37) (pc := 15) X d_8_removeRow_15 (by decide) rv2 (⟨by decide, by decide⟩ : jRng 4) h (fun c5 h => ?_) (fun c5 h => ?_)
      · exact jg_return (pc := 37) X hAe hlocks hr d_8_removeRow_37 ⟨(Nat.le_of_ble_eq_true rfl), (Nat.le_of_ble_eq_true rfl)⟩ hw h
      · refine jg_aload_n (pc := 18) X d_8_removeRow_18 0 rfl ?_
        refine jgf_8_1 (pc := 19) X tv0 kw_291 d_8_removeRow_19 ?_
        refine jg_iload_n (pc := 22) X d_8_removeRow_22 2 rfl ?_
        obtain ⟨b6, h⟩ := h
        have b7 : v2 < 4 := by (have z0 : jRng v2 := rv2; unfold jRng at z0; omega)
        refine jg_aaloadV (pc := 23) X d_8_removeRow_23 (jc_st_1 hn tv0) b6 b7 ?_
        refine jgfN_10_1 (pc := 24) X (jc_va hn (jc_st_1 hn tv0) b6 b7) kn_274 d_8_removeRow_24 ?_
        refine jg_iload_n (pc := 27) X d_8_removeRow_27 1 rfl ?_
        refine jg_callVv (pc := 28) X (m_6_takeOut (jc_vi_1 hn (jc_va hn (jc_st_1 hn tv0) b6 b7)) rv1 hw h) jM_6_takeOut kw_1142 (jc_vi_1 hn (jc_va hn (jc_st_1 hn tv0) b6 b7)) rfl rfl rfl rfl rfl (Nat.le_of_ble_eq_true rfl) d_8_removeRow_28 ⟨(Nat.le_of_ble_eq_true rfl), (Nat.le_of_ble_eq_true rfl)⟩ ⟨(Nat.le_of_ble_eq_true rfl), (Nat.le_of_ble_eq_true rfl)⟩ (fun C9 w11 h => ?_)
        refine jg_iinc (pc := 31) X [(2, jI (v2 + 1)), (0, jr Z v0), (1, jI v1)] d_8_removeRow_31 2 rfl (by decide) rfl ?_
        refine jg_goto (tgt := 13) (pc := 34) X d_8_removeRow_34 (by decide) ?_
        have r12 : jRng (v2 + 1) := by (unfold jRng; exact ⟨by (have z0 : jRng v2 := rv2; unfold jRng at z0; omega), by (have z0 : jRng v2 := rv2; unfold jRng at z0; omega)⟩)
        refine jg_sub [1, 2, 0] rfl ?_
        exact ih13 _ _ r12 w11 h
  obtain ⟨N, h⟩ := h
  refine jg_sub [1, 2, 0] rfl ?_
  exact jl13   N _ _ (⟨by decide, by decide⟩ : jRng 0) w4 h
set_option maxHeartbeats 4000000 in
set_option maxRecDepth 100000 in
theorem m_11_drop {l : Launch} {Z : jE} {n : Nat} {C : jC} {v1 : Int} {v2 : Int} {ex : String → jC → Prop} {post : Int → jC → Prop} (rv1 : jRng v1) (rv2 : jRng v2) (hw0 : jWF n C) (h : wp_11_drop v1 v2 C ex post) : jXi l y_11_drop prog_1_method_21_code 5 (.int) q_11_drop Z n C [jr Z 0, jI v1, jI v2] ex post := by
  have hn := hw0.2.2.1
  unfold wp_11_drop at h
  refine jXi_of (lv0 := [(0, jr Z 0), (1, jI v1), (2, jI v2)]) (by decide) (Nat.le_of_ble_eq_true rfl) rfl ?_
  intro p e s m args below meth c A sz X hAe hr hlocks htab
  refine jg_aload_n (pc := 0) X d_11_drop_0 0 rfl ?_
  refine jg_aload_n (pc := 1) X d_11_drop_1 0 rfl ?_
  refine jg_iload_n (pc := 2) X d_11_drop_2 1 rfl ?_
  refine jg_pxcallVr (pc := 3) X hAe htab hlocks (m_11_viewNumbered rv1 hw0 h) jM_11_viewNumbered kw_772 (jl_0_11 hn) rfl rfl rfl rfl rfl (Nat.le_of_ble_eq_true rfl) d_11_drop_3 ⟨(Nat.le_of_ble_eq_true rfl), (Nat.le_of_ble_eq_true rfl)⟩ ⟨(Nat.le_of_ble_eq_true rfl), (Nat.le_of_ble_eq_true rfl)⟩ ⟨(Nat.le_of_ble_eq_true rfl), (Nat.le_of_ble_eq_true rfl)⟩ (fun x1 h => ?_)
  obtain ⟨t5, h⟩ := h
  refine jg_eqst (congrArg (· :: _) (jn_pos t5.1)) ?_
  refine jg_iload_n (pc := 6) X d_11_drop_6 2 rfl ?_
  refine jg_pxcallVi (pc := 7) X hAe htab hlocks (m_11_seatAtPlace t5 rv2 hw0 h) jM_11_seatAtPlace kw_989 (jl_0_11 hn) rfl rfl rfl rfl rfl (Nat.le_of_ble_eq_true rfl) d_11_drop_7 ⟨(Nat.le_of_ble_eq_true rfl), (Nat.le_of_ble_eq_true rfl)⟩ ⟨(Nat.le_of_ble_eq_true rfl), (Nat.le_of_ble_eq_true rfl)⟩ ⟨(Nat.le_of_ble_eq_true rfl), (Nat.le_of_ble_eq_true rfl)⟩ (fun x6 r8 h => ?_)
  refine jg_istore_n (pc := 10) X [(3, jI x6), (0, jr Z 0), (1, jI v1), (2, jI v2)] d_11_drop_10 (by decide) rfl ?_
  refine jg_aload_n (pc := 11) X d_11_drop_11 1 rfl ?_
  refine jgf_11_2 (pc := 12) X (jl_0_11 hn) kw_338 d_11_drop_12 ?_
  refine jgfN_8_0 (pc := 15) X (jl_35_8 hn) kn_290 d_11_drop_15 ?_
  refine jg_iload_n (pc := 18) X d_11_drop_18 0 rfl ?_
  refine jg_pcallVi (pc := 19) X (m_7_keyAt (jl_36_7 hn) r8 hw0 h) jM_7_keyAt kw_376 (jl_36_7 hn) rfl rfl rfl rfl rfl (Nat.le_of_ble_eq_true rfl) d_11_drop_19 ⟨(Nat.le_of_ble_eq_true rfl), (Nat.le_of_ble_eq_true rfl)⟩ ⟨(Nat.le_of_ble_eq_true rfl), (Nat.le_of_ble_eq_true rfl)⟩ (fun x10 r12 h => ?_)
  refine jg_istore (pc := 22) X [(4, jI x10), (3, jI x6), (0, jr Z 0), (1, jI v1), (2, jI v2)] d_11_drop_22 (by decide) rfl ?_
  refine jg_aload_n (pc := 24) X d_11_drop_24 2 rfl ?_
  refine jgf_11_2 (pc := 25) X (jl_0_11 hn) kw_338 d_11_drop_25 ?_
  refine jg_iload_n (pc := 28) X d_11_drop_28 1 rfl ?_
  refine jg_callVv (pc := 29) X (m_8_removeRow (jl_35_8 hn) r8 hw0 h) jM_8_removeRow kw_1138 (jl_35_8 hn) rfl rfl rfl rfl rfl (Nat.le_of_ble_eq_true rfl) d_11_drop_29 ⟨(Nat.le_of_ble_eq_true rfl), (Nat.le_of_ble_eq_true rfl)⟩ ⟨(Nat.le_of_ble_eq_true rfl), (Nat.le_of_ble_eq_true rfl)⟩ (fun C15 w17 h => ?_)
  refine jg_iload (pc := 32) X d_11_drop_32 0 rfl ?_
  refine jg_ret_x ?_
  exact jg_ireturn (pc := 34) X hAe hlocks hr d_11_drop_34 ⟨(Nat.le_of_ble_eq_true rfl), (Nat.le_of_ble_eq_true rfl)⟩ rfl r12 w17 h
set_option maxHeartbeats 4000000 in
set_option maxRecDepth 100000 in
theorem m_7_followList {l : Launch} {Z : jE} {n : Nat} {C : jC} {v0 : Int} {v1 : Int} {v2 : Int} {post : jC → Prop} (tv0 : jT n v0 7) (tv1 : jT n v1 6) (rv2 : jRng v2) (hw0 : jWF n C) (h : wp_7_followList v0 v1 v2 C post) : jCv l y_7_followList prog_9_method_15_code 4 q_7_followList Z n C [jr Z v0, jr Z v1, jI v2] post := by
  have hn := hw0.2.2.1
  unfold wp_7_followList at h
  refine jCv_of (lv0 := [(0, jr Z v0), (1, jr Z v1), (2, jI v2)]) (by decide) (Nat.le_of_ble_eq_true rfl) rfl ?_
  intro p e s m args below meth c A sz X hAe hr hlocks
  refine jg_aload_n (pc := 0) X d_7_followList_0 1 rfl ?_
  refine jg_iload_n (pc := 1) X d_7_followList_1 2 rfl ?_
  refine jg_pcallVi (pc := 2) X (m_6_at tv1 rv2 hw0 h) jM_6_at kw_928 tv1 rfl rfl rfl rfl rfl (Nat.le_of_ble_eq_true rfl) d_7_followList_2 ⟨(Nat.le_of_ble_eq_true rfl), (Nat.le_of_ble_eq_true rfl)⟩ ⟨(Nat.le_of_ble_eq_true rfl), (Nat.le_of_ble_eq_true rfl)⟩ (fun x1 r3 h => ?_)
  refine jg_istore_n (pc := 5) X [(3, jI x1), (0, jr Z v0), (1, jr Z v1), (2, jI v2)] d_7_followList_5 (by decide) rfl ?_
  refine jg_aload_n (pc := 6) X d_7_followList_6 1 rfl ?_
  refine jgf_7_5 (pc := 7) X tv0 kw_184 d_7_followList_7 ?_
  refine jg_iload_n (pc := 10) X d_7_followList_10 0 rfl ?_
  refine jg_callVv (pc := 11) X (m_6_takeOut (jc_sh_5 hn tv0) r3 hw0 h) jM_6_takeOut kw_1158 (jc_sh_5 hn tv0) rfl rfl rfl rfl rfl (Nat.le_of_ble_eq_true rfl) d_7_followList_11 ⟨(Nat.le_of_ble_eq_true rfl), (Nat.le_of_ble_eq_true rfl)⟩ ⟨(Nat.le_of_ble_eq_true rfl), (Nat.le_of_ble_eq_true rfl)⟩ (fun C6 w8 h => ?_)
  refine jg_iload_n (pc := 14) X d_7_followList_14 3 rfl ?_
  refine jg_if_le (tgt := 45) (pc := 15) X d_7_followList_15 (by decide) rv2 h (fun c9 h => ?_) (fun c9 h => ?_)
  · refine jg_aload_n (pc := 45) X d_7_followList_45 1 rfl ?_
    refine jgf_7_5 (pc := 46) X tv0 kw_184 d_7_followList_46 ?_
    refine jg_iconst (pc := 49) X d_7_followList_49 ?_
    refine jg_aload_n (pc := 50) X d_7_followList_50 1 rfl ?_
    refine jgf_7_5 (pc := 51) X tv0 kw_184 d_7_followList_51 ?_
    refine jg_aload_n (pc := 54) X d_7_followList_54 2 rfl ?_
    refine jg_iload_n (pc := 55) X d_7_followList_55 3 rfl ?_
    refine jg_iconst (pc := 56) X d_7_followList_56 ?_
    refine jg_iadd (pc := 57) X d_7_followList_57 ?_
    have r10 : jRng (v2 + 1) := by (unfold jRng; exact ⟨by (have z0 : jRng v2 := rv2; unfold jRng at z0; omega), by (have z0 : jRng v2 := rv2; unfold jRng at z0; omega)⟩)
    refine jg_pcallVi (pc := 58) X (m_6_at tv1 r10 w8 h) jM_6_at kw_928 tv1 rfl rfl rfl rfl rfl (Nat.le_of_ble_eq_true rfl) d_7_followList_58 ⟨(Nat.le_of_ble_eq_true rfl), (Nat.le_of_ble_eq_true rfl)⟩ ⟨(Nat.le_of_ble_eq_true rfl), (Nat.le_of_ble_eq_true rfl)⟩ (fun x11 r13 h => ?_)
    refine jg_pcallVi (pc := 61) X (m_6_placeOf (jc_sh_5 hn tv0) r13 w8 h) jM_6_placeOf kw_1159 (jc_sh_5 hn tv0) rfl rfl rfl rfl rfl (Nat.le_of_ble_eq_true rfl) d_7_followList_61 ⟨(Nat.le_of_ble_eq_true rfl), (Nat.le_of_ble_eq_true rfl)⟩ ⟨(Nat.le_of_ble_eq_true rfl), (Nat.le_of_ble_eq_true rfl)⟩ (fun x15 r17 h => ?_)
    have r19 : jRng (max 0 x15) := jrng_max (⟨by decide, by decide⟩ : jRng 0) r17
    refine jg_max (pc := 64) X kw_1161 d_7_followList_64 kw_max1 kw_ma kw_max2 ⟨(Nat.le_of_ble_eq_true rfl), (Nat.le_of_ble_eq_true rfl), (Nat.le_of_ble_eq_true rfl), (Nat.le_of_ble_eq_true rfl)⟩ (⟨by decide, by decide⟩ : jRng 0) r17 ?_
    refine jg_iload_n (pc := 67) X d_7_followList_67 0 rfl ?_
    refine jg_callVv (pc := 68) X (m_6_putAt (jc_sh_5 hn tv0) r19 r3 w8 h) jM_6_putAt kw_1160 (jc_sh_5 hn tv0) rfl rfl rfl rfl rfl (Nat.le_of_ble_eq_true rfl) d_7_followList_68 ⟨(Nat.le_of_ble_eq_true rfl), (Nat.le_of_ble_eq_true rfl)⟩ ⟨(Nat.le_of_ble_eq_true rfl), (Nat.le_of_ble_eq_true rfl)⟩ (fun C21 w23 h => ?_)
    exact jg_return (pc := 71) X hAe hlocks hr d_7_followList_71 ⟨(Nat.le_of_ble_eq_true rfl), (Nat.le_of_ble_eq_true rfl)⟩ w23 h
  · refine jg_aload_n (pc := 18) X d_7_followList_18 1 rfl ?_
    refine jgf_7_5 (pc := 19) X tv0 kw_184 d_7_followList_19 ?_
    refine jg_aload_n (pc := 22) X d_7_followList_22 1 rfl ?_
    refine jgf_7_5 (pc := 23) X tv0 kw_184 d_7_followList_23 ?_
    refine jg_aload_n (pc := 26) X d_7_followList_26 2 rfl ?_
    refine jg_iload_n (pc := 27) X d_7_followList_27 3 rfl ?_
    refine jg_iconst (pc := 28) X d_7_followList_28 ?_
    refine jg_isub (pc := 29) X d_7_followList_29 ?_
    have r24 : jRng (v2 - 1) := by (unfold jRng; exact ⟨by (have z0 : jRng v2 := rv2; unfold jRng at z0; omega), by (have z0 : jRng v2 := rv2; unfold jRng at z0; omega)⟩)
    refine jg_pcallVi (pc := 30) X (m_6_at tv1 r24 w8 h) jM_6_at kw_928 tv1 rfl rfl rfl rfl rfl (Nat.le_of_ble_eq_true rfl) d_7_followList_30 ⟨(Nat.le_of_ble_eq_true rfl), (Nat.le_of_ble_eq_true rfl)⟩ ⟨(Nat.le_of_ble_eq_true rfl), (Nat.le_of_ble_eq_true rfl)⟩ (fun x25 r27 h => ?_)
    refine jg_pcallVi (pc := 33) X (m_6_placeOf (jc_sh_5 hn tv0) r27 w8 h) jM_6_placeOf kw_1159 (jc_sh_5 hn tv0) rfl rfl rfl rfl rfl (Nat.le_of_ble_eq_true rfl) d_7_followList_33 ⟨(Nat.le_of_ble_eq_true rfl), (Nat.le_of_ble_eq_true rfl)⟩ ⟨(Nat.le_of_ble_eq_true rfl), (Nat.le_of_ble_eq_true rfl)⟩ (fun x29 r31 h => ?_)
    refine jg_iconst (pc := 36) X d_7_followList_36 ?_
    refine jg_iadd (pc := 37) X d_7_followList_37 ?_
    refine jg_iload_n (pc := 38) X d_7_followList_38 0 rfl ?_
    obtain ⟨r33, h⟩ := h
    refine jg_callVv (pc := 39) X (m_6_putAt (jc_sh_5 hn tv0) r33 r3 w8 h) jM_6_putAt kw_1160 (jc_sh_5 hn tv0) rfl rfl rfl rfl rfl (Nat.le_of_ble_eq_true rfl) d_7_followList_39 ⟨(Nat.le_of_ble_eq_true rfl), (Nat.le_of_ble_eq_true rfl)⟩ ⟨(Nat.le_of_ble_eq_true rfl), (Nat.le_of_ble_eq_true rfl)⟩ (fun C35 w37 h => ?_)
    refine jg_goto (tgt := 71) (pc := 42) X d_7_followList_42 (by decide) ?_
    exact jg_return (pc := 71) X hAe hlocks hr d_7_followList_71 ⟨(Nat.le_of_ble_eq_true rfl), (Nat.le_of_ble_eq_true rfl)⟩ w37 h
set_option maxHeartbeats 4000000 in
set_option maxRecDepth 100000 in
theorem m_11_drag {l : Launch} {Z : jE} {n : Nat} {C : jC} {v1 : Int} {v2 : Int} {v3 : Int} {ex : String → jC → Prop} {post : Int → jC → Prop} (rv1 : jRng v1) (rv2 : jRng v2) (rv3 : jRng v3) (hw0 : jWF n C) (h : wp_11_drag v1 v2 v3 C ex post) : jXi l y_11_drag prog_1_method_22_code 6 (.int) q_11_drag Z n C [jr Z 0, jI v1, jI v2, jI v3] ex post := by
  have hn := hw0.2.2.1
  unfold wp_11_drag at h
  refine jXi_of (lv0 := [(0, jr Z 0), (1, jI v1), (2, jI v2), (3, jI v3)]) (by decide) (Nat.le_of_ble_eq_true rfl) rfl ?_
  intro p e s m args below meth c A sz X hAe hr hlocks htab
  refine jg_aload_n (pc := 0) X d_11_drag_0 0 rfl ?_
  refine jg_iload_n (pc := 1) X d_11_drag_1 1 rfl ?_
  refine jg_pxcallVr (pc := 2) X hAe htab hlocks (m_11_viewNumbered rv1 hw0 h) jM_11_viewNumbered kw_772 (jl_0_11 hn) rfl rfl rfl rfl rfl (Nat.le_of_ble_eq_true rfl) d_11_drag_2 ⟨(Nat.le_of_ble_eq_true rfl), (Nat.le_of_ble_eq_true rfl)⟩ ⟨(Nat.le_of_ble_eq_true rfl), (Nat.le_of_ble_eq_true rfl)⟩ ⟨(Nat.le_of_ble_eq_true rfl), (Nat.le_of_ble_eq_true rfl)⟩ (fun x1 h => ?_)
  obtain ⟨t5, h⟩ := h
  refine jg_eqst (congrArg (· :: _) (jn_pos t5.1)) ?_
  refine jg_astore (pc := 5) X [(4, jr Z x1), (0, jr Z 0), (1, jI v1), (2, jI v2), (3, jI v3)] d_11_drag_5 (by decide) rfl ?_
  refine jg_aload_n (pc := 7) X d_11_drag_7 1 rfl ?_
  refine jg_aload (pc := 8) X d_11_drag_8 0 rfl ?_
  refine jg_iload_n (pc := 10) X d_11_drag_10 3 rfl ?_
  refine jg_pxcallVi (pc := 11) X hAe htab hlocks (m_11_seatAtPlace t5 rv2 hw0 h) jM_11_seatAtPlace kw_989 (jl_0_11 hn) rfl rfl rfl rfl rfl (Nat.le_of_ble_eq_true rfl) d_11_drag_11 ⟨(Nat.le_of_ble_eq_true rfl), (Nat.le_of_ble_eq_true rfl)⟩ ⟨(Nat.le_of_ble_eq_true rfl), (Nat.le_of_ble_eq_true rfl)⟩ ⟨(Nat.le_of_ble_eq_true rfl), (Nat.le_of_ble_eq_true rfl)⟩ (fun x6 r8 h => ?_)
  refine jg_istore (pc := 14) X [(5, jI x6), (4, jr Z x1), (0, jr Z 0), (1, jI v1), (2, jI v2), (3, jI v3)] d_11_drag_14 (by decide) rfl ?_
  refine jg_aload_n (pc := 16) X d_11_drag_16 2 rfl ?_
  refine jg_aload (pc := 17) X d_11_drag_17 1 rfl ?_
  refine jg_iload_n (pc := 19) X d_11_drag_19 5 rfl ?_
  refine jg_pxcallVi (pc := 20) X hAe htab hlocks (m_11_seatAtPlace t5 rv3 hw0 h) jM_11_seatAtPlace kw_989 (jl_0_11 hn) rfl rfl rfl rfl rfl (Nat.le_of_ble_eq_true rfl) d_11_drag_20 ⟨(Nat.le_of_ble_eq_true rfl), (Nat.le_of_ble_eq_true rfl)⟩ ⟨(Nat.le_of_ble_eq_true rfl), (Nat.le_of_ble_eq_true rfl)⟩ ⟨(Nat.le_of_ble_eq_true rfl), (Nat.le_of_ble_eq_true rfl)⟩ (fun x10 r12 h => ?_)
  refine jg_pop (pc := 23) X d_11_drag_23 rfl ?_
  refine jg_iload_n (pc := 24) X d_11_drag_24 4 rfl ?_
  refine jg_iload_n (pc := 25) X d_11_drag_25 5 rfl ?_
  refine jg_icmp_ne (tgt := 37) (pc := 26) X d_11_drag_26 (by decide) rv2 rv3 h (fun c14 h => ?_) (fun c14 h => ?_)
  · exact jg_throw (pc := 29) X hAe htab hlocks (by decide) kw_612 kw_22 th_58 tg_58 d_11_drag_29 d_11_drag_32 d_11_drag_33 d_11_drag_36 ⟨(Nat.le_of_ble_eq_true rfl), (Nat.le_of_ble_eq_true rfl), (Nat.le_of_ble_eq_true rfl), (Nat.le_of_ble_eq_true rfl)⟩ ⟨(Nat.le_of_ble_eq_true rfl), (Nat.le_of_ble_eq_true rfl)⟩ hw0 h
  · refine jg_aload (pc := 37) X d_11_drag_37 1 rfl ?_
    refine jgfN_10_1 (pc := 39) X t5 kn_275 d_11_drag_39 ?_
    refine jg_iload (pc := 42) X d_11_drag_42 0 rfl ?_
    refine jg_callVv (pc := 44) X (m_6_takeOut (jc_vi_1 hn t5) r8 hw0 h) jM_6_takeOut kw_1153 (jc_vi_1 hn t5) rfl rfl rfl rfl rfl (Nat.le_of_ble_eq_true rfl) d_11_drag_44 ⟨(Nat.le_of_ble_eq_true rfl), (Nat.le_of_ble_eq_true rfl)⟩ ⟨(Nat.le_of_ble_eq_true rfl), (Nat.le_of_ble_eq_true rfl)⟩ (fun C16 w18 h => ?_)
    refine jg_aload (pc := 47) X d_11_drag_47 1 rfl ?_
    refine jgfN_10_1 (pc := 49) X t5 kn_275 d_11_drag_49 ?_
    refine jg_iload_n (pc := 52) X d_11_drag_52 5 rfl ?_
    refine jg_iload (pc := 53) X d_11_drag_53 0 rfl ?_
    refine jg_callVv (pc := 55) X (m_6_putAt (jc_vi_1 hn t5) rv3 r8 w18 h) jM_6_putAt kw_1129 (jc_vi_1 hn t5) rfl rfl rfl rfl rfl (Nat.le_of_ble_eq_true rfl) d_11_drag_55 ⟨(Nat.le_of_ble_eq_true rfl), (Nat.le_of_ble_eq_true rfl)⟩ ⟨(Nat.le_of_ble_eq_true rfl), (Nat.le_of_ble_eq_true rfl)⟩ (fun C20 w22 h => ?_)
    refine jg_aload_n (pc := 58) X d_11_drag_58 2 rfl ?_
    refine jgf_11_2 (pc := 59) X (jl_0_11 hn) kw_338 d_11_drag_59 ?_
    refine jgfN_8_0 (pc := 62) X (jl_35_8 hn) kn_290 d_11_drag_62 ?_
    refine jg_aload (pc := 65) X d_11_drag_65 1 rfl ?_
    refine jgfN_10_1 (pc := 67) X t5 kn_275 d_11_drag_67 ?_
    refine jg_iload_n (pc := 70) X d_11_drag_70 5 rfl ?_
    refine jg_callVv (pc := 71) X (m_7_followList (jl_36_7 hn) (jc_vi_1 hn t5) rv3 w22 h) jM_7_followList kw_1154 (jl_36_7 hn) rfl rfl rfl rfl rfl (Nat.le_of_ble_eq_true rfl) d_11_drag_71 ⟨(Nat.le_of_ble_eq_true rfl), (Nat.le_of_ble_eq_true rfl)⟩ ⟨(Nat.le_of_ble_eq_true rfl), (Nat.le_of_ble_eq_true rfl)⟩ (fun C24 w26 h => ?_)
    refine jg_aload_n (pc := 74) X d_11_drag_74 2 rfl ?_
    refine jgf_11_2 (pc := 75) X (jl_0_11 hn) kw_338 d_11_drag_75 ?_
    refine jgfN_8_0 (pc := 78) X (jl_35_8 hn) kn_290 d_11_drag_78 ?_
    refine jg_iload (pc := 81) X d_11_drag_81 0 rfl ?_
    refine jg_pcallVi (pc := 83) X (m_7_keyAt (jl_36_7 hn) r8 w26 h) jM_7_keyAt kw_376 (jl_36_7 hn) rfl rfl rfl rfl rfl (Nat.le_of_ble_eq_true rfl) d_11_drag_83 ⟨(Nat.le_of_ble_eq_true rfl), (Nat.le_of_ble_eq_true rfl)⟩ ⟨(Nat.le_of_ble_eq_true rfl), (Nat.le_of_ble_eq_true rfl)⟩ (fun x27 r29 h => ?_)
    refine jg_ret_x ?_
    exact jg_ireturn (pc := 86) X hAe hlocks hr d_11_drag_86 ⟨(Nat.le_of_ble_eq_true rfl), (Nat.le_of_ble_eq_true rfl)⟩ rfl r29 w26 h
set_option maxHeartbeats 4000000 in
set_option maxRecDepth 100000 in
theorem m_4_takeFresh {l : Launch} {Z : jE} {n : Nat} {C : jC} {v1 : Int} {v2 : Int} {post : Int → jC → Prop} (tv1 : jT n v1 8) (tv2 : jT n v2 10) (hw0 : jWF n C) (h : wp_4_takeFresh v1 v2 C post) : jCi l y_4_takeFresh prog_6_method_2_code 5 (.int) q_4_takeFresh Z n C [jr Z 339, jr Z v1, jr Z v2] post := by
  have hn := hw0.2.2.1
  unfold wp_4_takeFresh at h
  refine jCi_of (lv0 := [(0, jr Z 339), (1, jr Z v1), (2, jr Z v2)]) (by decide) (Nat.le_of_ble_eq_true rfl) rfl ?_
  intro p e s m args below meth c A sz X hAe hr hlocks
  refine jg_aload_n (pc := 0) X d_4_takeFresh_0 1 rfl ?_
  refine jg_aload_n (pc := 1) X d_4_takeFresh_1 2 rfl ?_
  refine jgfN_10_0 (pc := 2) X tv2 kn_269 d_4_takeFresh_2 ?_
  refine jg_aload_n (pc := 5) X d_4_takeFresh_5 0 rfl ?_
  refine jgf_4_0 (pc := 6) X (jl_339_4 hn) kw_313 d_4_takeFresh_6 ?_
  refine jg_callVv (pc := 9) X (m_8_freshInto tv1 (jc_vi_0 hn tv2) (jl_340_6 hn) hw0 h) jM_8_freshInto kw_1173 tv1 rfl rfl rfl rfl rfl (Nat.le_of_ble_eq_true rfl) d_4_takeFresh_9 ⟨(Nat.le_of_ble_eq_true rfl), (Nat.le_of_ble_eq_true rfl)⟩ ⟨(Nat.le_of_ble_eq_true rfl), (Nat.le_of_ble_eq_true rfl)⟩ (fun C2 w4 h => ?_)
  refine jg_iconst (pc := 12) X d_4_takeFresh_12 ?_
  refine jg_istore_n (pc := 13) X [(3, jI 0), (0, jr Z 339), (1, jr Z v1), (2, jr Z v2)] d_4_takeFresh_13 (by decide) rfl ?_
  refine jg_iconst (pc := 14) X d_4_takeFresh_14 ?_
  refine jg_istore (pc := 15) X [(4, jI 0), (3, jI 0), (0, jr Z 339), (1, jr Z v1), (2, jr Z v2)] d_4_takeFresh_15 (by decide) rfl ?_
  have jl17 : ∀ (C : jC) (hw : jWF n C) (N : Nat) (v3 : Int) (v4 : Int) (rv3 : jRng v3) (rv4 : jRng v4), jI2 (wp_4_takeFresh_17 v2 C post) N v3 v4 → jG p l e q_4_takeFresh s m args below meth c 5 Z A (jws Z n C) 0 0 (MQ below (jQi Z n sz post) args s q_4_takeFresh.cells q_4_takeFresh.slots (jA Z n sz)) 17 [(0, jr Z 339), (2, jr Z v2), (3, jI v3), (4, jI v4)] [] := by
    intro C hw N
    have hn := hw0.2.2.1
    induction N with
    | zero => intro v3 v4 rv3 rv4 h; exact h.elim
    | succ N ih17 =>
      intro v3 v4 rv3 rv4 h
      have h : wp_4_takeFresh_17 v2 C post (jI2 (wp_4_takeFresh_17 v2 C post) N) v3 v4 := h
      generalize jI2 (wp_4_takeFresh_17 v2 C post) N = k17 at h ih17
      unfold wp_4_takeFresh_17 at h
      refine jg_iload (pc := 17) X d_4_takeFresh_17 3 rfl ?_
      refine jg_aload_n (pc := 19) X d_4_takeFresh_19 0 rfl ?_
      refine jgf_4_0 (pc := 20) X (jl_339_4 hn) kw_313 d_4_takeFresh_20 ?_
      refine jg_pcallVi (pc := 23) X (m_6_length (jl_340_6 hn) hw h) jM_6_length kw_1174 (jl_340_6 hn) rfl rfl rfl rfl rfl (Nat.le_of_ble_eq_true rfl) d_4_takeFresh_23 ⟨(Nat.le_of_ble_eq_true rfl), (Nat.le_of_ble_eq_true rfl)⟩ ⟨(Nat.le_of_ble_eq_true rfl), (Nat.le_of_ble_eq_true rfl)⟩ (fun x5 r7 h => ?_)
      refine jg_icmp_ge (tgt := 57) (pc := 26) X d_4_takeFresh_26 (by decide) rv4 r7 h (fun c9 h => ?_) (fun c9 h => ?_)
      · refine jg_aload_n (pc := 57) X d_4_takeFresh_57 0 rfl ?_
        refine jgf_4_0 (pc := 58) X (jl_339_4 hn) kw_313 d_4_takeFresh_58 ?_
        refine jg_pcallVi (pc := 61) X (m_6_length (jl_340_6 hn) hw h) jM_6_length kw_1174 (jl_340_6 hn) rfl rfl rfl rfl rfl (Nat.le_of_ble_eq_true rfl) d_4_takeFresh_61 ⟨(Nat.le_of_ble_eq_true rfl), (Nat.le_of_ble_eq_true rfl)⟩ ⟨(Nat.le_of_ble_eq_true rfl), (Nat.le_of_ble_eq_true rfl)⟩ (fun x10 r12 h => ?_)
        refine jg_aload_n (pc := 64) X d_4_takeFresh_64 1 rfl ?_
        refine jgfN_10_1 (pc := 65) X tv2 kn_273 d_4_takeFresh_65 ?_
        refine jg_pcallVi (pc := 68) X (m_6_length (jc_vi_1 hn tv2) hw h) jM_6_length kw_1174 (jc_vi_1 hn tv2) rfl rfl rfl rfl rfl (Nat.le_of_ble_eq_true rfl) d_4_takeFresh_68 ⟨(Nat.le_of_ble_eq_true rfl), (Nat.le_of_ble_eq_true rfl)⟩ ⟨(Nat.le_of_ble_eq_true rfl), (Nat.le_of_ble_eq_true rfl)⟩ (fun x14 r16 h => ?_)
        refine jg_iadd (pc := 71) X d_4_takeFresh_71 ?_
        refine jg_iconst (pc := 72) X d_4_takeFresh_72 ?_
        refine jg_iload_n (pc := 73) X d_4_takeFresh_73 2 rfl ?_
        refine jg_imul (pc := 74) X d_4_takeFresh_74 ?_
        refine jg_isub (pc := 75) X d_4_takeFresh_75 ?_
        refine jg_istore (pc := 76) X [(4, jI ((x10 + x14) - (2 * v3))), (0, jr Z 339), (2, jr Z v2), (3, jI v3)] d_4_takeFresh_76 (by decide) rfl ?_
        refine jg_aload_n (pc := 78) X d_4_takeFresh_78 2 rfl ?_
        refine jgfN_10_1 (pc := 79) X tv2 kn_273 d_4_takeFresh_79 ?_
        refine jg_aload_n (pc := 82) X d_4_takeFresh_82 1 rfl ?_
        refine jgf_4_0 (pc := 83) X (jl_339_4 hn) kw_313 d_4_takeFresh_83 ?_
        refine jg_callVv (pc := 86) X (m_6_copyFrom (jc_vi_1 hn tv2) (jl_340_6 hn) hw h) jM_6_copyFrom kw_1177 (jc_vi_1 hn tv2) rfl rfl rfl rfl rfl (Nat.le_of_ble_eq_true rfl) d_4_takeFresh_86 ⟨(Nat.le_of_ble_eq_true rfl), (Nat.le_of_ble_eq_true rfl)⟩ ⟨(Nat.le_of_ble_eq_true rfl), (Nat.le_of_ble_eq_true rfl)⟩ (fun C19 w21 h => ?_)
        refine jg_iload (pc := 89) X d_4_takeFresh_89 0 rfl ?_
        obtain ⟨r22, h⟩ := h
        exact jg_ireturn (pc := 91) X hAe hlocks hr d_4_takeFresh_91 ⟨(Nat.le_of_ble_eq_true rfl), (Nat.le_of_ble_eq_true rfl)⟩ rfl r22 w21 h
      · refine jg_aload_n (pc := 29) X d_4_takeFresh_29 1 rfl ?_
        refine jgfN_10_1 (pc := 30) X tv2 kn_273 d_4_takeFresh_30 ?_
        refine jg_aload_n (pc := 33) X d_4_takeFresh_33 0 rfl ?_
        refine jgf_4_0 (pc := 34) X (jl_339_4 hn) kw_313 d_4_takeFresh_34 ?_
        refine jg_iload (pc := 37) X d_4_takeFresh_37 3 rfl ?_
        refine jg_pcallVi (pc := 39) X (m_6_at (jl_340_6 hn) rv4 hw h) jM_6_at kw_1175 (jl_340_6 hn) rfl rfl rfl rfl rfl (Nat.le_of_ble_eq_true rfl) d_4_takeFresh_39 ⟨(Nat.le_of_ble_eq_true rfl), (Nat.le_of_ble_eq_true rfl)⟩ ⟨(Nat.le_of_ble_eq_true rfl), (Nat.le_of_ble_eq_true rfl)⟩ (fun x23 r25 h => ?_)
        refine jg_pcallVi (pc := 42) X (m_6_holds (jc_vi_1 hn tv2) r25 hw h) jM_6_holds kw_1176 (jc_vi_1 hn tv2) rfl rfl rfl rfl rfl (Nat.le_of_ble_eq_true rfl) d_4_takeFresh_42 ⟨(Nat.le_of_ble_eq_true rfl), (Nat.le_of_ble_eq_true rfl)⟩ ⟨(Nat.le_of_ble_eq_true rfl), (Nat.le_of_ble_eq_true rfl)⟩ (fun x27 r29 h => ?_)
        refine jg_if_eq (tgt := 51) (pc := 45) X d_4_takeFresh_45 (by decide) r29 h (fun c31 h => ?_) (fun c31 h => ?_)
        · refine jg_iinc (pc := 51) X [(4, jI (v4 + 1)), (0, jr Z 339), (2, jr Z v2), (3, jI v3)] d_4_takeFresh_51 3 rfl (by decide) rfl ?_
          refine jg_goto (tgt := 17) (pc := 54) X d_4_takeFresh_54 (by decide) ?_
          have r32 : jRng (v4 + 1) := by (unfold jRng; exact ⟨by (have z0 : jRng v4 := rv4; have z1 : jRng x5 := r7; unfold jRng at z0 z1; omega), by (have z0 : jRng v4 := rv4; have z1 : jRng x5 := r7; unfold jRng at z0 z1; omega)⟩)
          refine jg_sub [1, 2, 3, 0] rfl ?_
          exact ih17 _ _ rv3 r32 h
        · refine jg_iinc (pc := 48) X [(3, jI (v3 + 1)), (0, jr Z 339), (2, jr Z v2), (4, jI v4)] d_4_takeFresh_48 2 rfl (by decide) rfl ?_
          refine jg_iinc (pc := 51) X [(4, jI (v4 + 1)), (3, jI (v3 + 1)), (0, jr Z 339), (2, jr Z v2)] d_4_takeFresh_51 3 rfl (by decide) rfl ?_
          refine jg_goto (tgt := 17) (pc := 54) X d_4_takeFresh_54 (by decide) ?_
          obtain ⟨r33, h⟩ := h
          have r34 : jRng (v4 + 1) := by (unfold jRng; exact ⟨by (have z0 : jRng v4 := rv4; have z1 : jRng x5 := r7; unfold jRng at z0 z1; omega), by (have z0 : jRng v4 := rv4; have z1 : jRng x5 := r7; unfold jRng at z0 z1; omega)⟩)
          refine jg_sub [2, 3, 1, 0] rfl ?_
          exact ih17 _ _ r33 r34 h
  obtain ⟨N, h⟩ := h
  refine jg_sub [2, 4, 1, 0] rfl ?_
  exact jl17 _ w4 N _ _ (⟨by decide, by decide⟩ : jRng 0) (⟨by decide, by decide⟩ : jRng 0) h
set_option maxHeartbeats 4000000 in
set_option maxRecDepth 100000 in
theorem m_11_refresh {l : Launch} {Z : jE} {n : Nat} {C : jC} {v1 : Int} {ex : String → jC → Prop} {post : Int → jC → Prop} (rv1 : jRng v1) (hw0 : jWF n C) (h : wp_11_refresh v1 C ex post) : jXi l y_11_refresh prog_1_method_23_code 2 (.int) q_11_refresh Z n C [jr Z 0, jI v1] ex post := by
  have hn := hw0.2.2.1
  unfold wp_11_refresh at h
  refine jXi_of (lv0 := [(0, jr Z 0), (1, jI v1)]) (by decide) (Nat.le_of_ble_eq_true rfl) rfl ?_
  intro p e s m args below meth c A sz X hAe hr hlocks htab
  refine jg_aload_n (pc := 0) X d_11_refresh_0 0 rfl ?_
  refine jgf_11_3 (pc := 1) X (jl_0_11 hn) kw_339 d_11_refresh_1 ?_
  refine jg_aload_n (pc := 4) X d_11_refresh_4 0 rfl ?_
  refine jgf_11_2 (pc := 5) X (jl_0_11 hn) kw_338 d_11_refresh_5 ?_
  refine jg_aload_n (pc := 8) X d_11_refresh_8 0 rfl ?_
  refine jg_iload_n (pc := 9) X d_11_refresh_9 1 rfl ?_
  refine jg_pxcallVr (pc := 10) X hAe htab hlocks (m_11_viewNumbered rv1 hw0 h) jM_11_viewNumbered kw_772 (jl_0_11 hn) rfl rfl rfl rfl rfl (Nat.le_of_ble_eq_true rfl) d_11_refresh_10 ⟨(Nat.le_of_ble_eq_true rfl), (Nat.le_of_ble_eq_true rfl)⟩ ⟨(Nat.le_of_ble_eq_true rfl), (Nat.le_of_ble_eq_true rfl)⟩ ⟨(Nat.le_of_ble_eq_true rfl), (Nat.le_of_ble_eq_true rfl)⟩ (fun x1 h => ?_)
  obtain ⟨t5, h⟩ := h
  refine jg_eqst (congrArg (· :: _) (jn_pos t5.1)) ?_
  refine jg_callVi (pc := 13) X (m_4_takeFresh (jl_35_8 hn) t5 hw0 h) jM_4_takeFresh kw_1169 (jl_339_4 hn) rfl rfl rfl rfl rfl (Nat.le_of_ble_eq_true rfl) d_11_refresh_13 ⟨(Nat.le_of_ble_eq_true rfl), (Nat.le_of_ble_eq_true rfl)⟩ ⟨(Nat.le_of_ble_eq_true rfl), (Nat.le_of_ble_eq_true rfl)⟩ (fun x6 C7 r8 w9 h => ?_)
  refine jg_ret_x ?_
  exact jg_ireturn (pc := 16) X hAe hlocks hr d_11_refresh_16 ⟨(Nat.le_of_ble_eq_true rfl), (Nat.le_of_ble_eq_true rfl)⟩ rfl r8 w9 h
set_option maxHeartbeats 4000000 in
set_option maxRecDepth 100000 in
theorem m_10_latestEdit {l : Launch} {Z : jE} {n : Nat} {C : jC} {v0 : Int} {post : Int → Prop} (tv0 : jT n v0 10) (hw0 : jWF n C) (h : wp_10_latestEdit v0 C post) : jCr l y_10_latestEdit prog_12_method_2_code 1 ((.object "PrivateViews$Edit")) q_10_latestEdit Z n C [jr Z v0] (fun x C9 => C9 = C ∧ (x < 0 ∨ jT n x 0) ∧ post x) := by
  have hn := hw0.2.2.1
  unfold wp_10_latestEdit at h
  refine jCr_of (lv0 := [(0, jr Z v0)]) (by decide) (Nat.le_of_ble_eq_true rfl) rfl ?_
  intro p e s m args below meth c A sz X hAe hr hlocks
  refine jg_aload_n (pc := 0) X d_10_latestEdit_0 0 rfl ?_
  refine jgf_10_3 (pc := 1) X tv0 kw_277 d_10_latestEdit_1 ?_
  refine jg_if_le (tgt := 30) (pc := 4) X d_10_latestEdit_4 (by decide) (hw0.1 _ _) h (fun c1 h => ?_) (fun c1 h => ?_)
  · have c1 : (C v0 3) ≤ 0 := c1
    refine jg_null (pc := 30) X d_10_latestEdit_30 ?_
    exact jg_areturn (pc := 31) X hAe hlocks hr (Or.inl ⟨_, rfl⟩) d_10_latestEdit_31 ⟨(Nat.le_of_ble_eq_true rfl), (Nat.le_of_ble_eq_true rfl)⟩ hw0 ⟨rfl, (Or.inl (by decide)), h⟩
  · have c1 : ¬ ((C v0 3) ≤ 0) := c1
    refine jg_aload_n (pc := 7) X d_10_latestEdit_7 0 rfl ?_
    refine jgf_10_3 (pc := 8) X tv0 kw_277 d_10_latestEdit_8 ?_
    refine jg_bipush (pc := 11) X d_10_latestEdit_11 rfl ?_
    refine jg_icmp_gt (tgt := 30) (pc := 13) X d_10_latestEdit_13 (by decide) (hw0.1 _ _) (⟨by decide, by decide⟩ : jRng 8) h (fun c2 h => ?_) (fun c2 h => ?_)
    · have c2 : 8 < (C v0 3) := c2
      refine jg_null (pc := 30) X d_10_latestEdit_30 ?_
      exact jg_areturn (pc := 31) X hAe hlocks hr (Or.inl ⟨_, rfl⟩) d_10_latestEdit_31 ⟨(Nat.le_of_ble_eq_true rfl), (Nat.le_of_ble_eq_true rfl)⟩ hw0 ⟨rfl, (Or.inl (by decide)), h⟩
    · have c2 : ¬ (8 < (C v0 3)) := c2
      refine jg_aload_n (pc := 16) X d_10_latestEdit_16 0 rfl ?_
      refine jgf_10_2 (pc := 17) X tv0 kw_276 d_10_latestEdit_17 ?_
      refine jg_aload_n (pc := 20) X d_10_latestEdit_20 0 rfl ?_
      refine jgf_10_3 (pc := 21) X tv0 kw_277 d_10_latestEdit_21 ?_
      refine jg_iconst (pc := 24) X d_10_latestEdit_24 ?_
      refine jg_isub (pc := 25) X d_10_latestEdit_25 ?_
      have b3 : 0 ≤ ((C v0 3) - 1) := by (have z0 : jRng (C v0 3) := (hw0.1 _ _); unfold jRng at z0; omega)
      have b4 : ((C v0 3) - 1) < 8 := by (have z0 : jRng (C v0 3) := (hw0.1 _ _); unfold jRng at z0; omega)
      refine jg_aaloadE (pc := 26) X d_10_latestEdit_26 (jc_vi_2 hn tv0) b3 b4 ?_
      refine jg_goto (tgt := 31) (pc := 27) X d_10_latestEdit_27 (by decide) ?_
      refine jg_eqst (congrArg (· :: _) (jn_pos (hw0.2.1 _ (jc_vi_2 hn tv0) _ b3 b4).1).symm) ?_
      exact jg_areturn (pc := 31) X hAe hlocks hr (Or.inl ⟨_, rfl⟩) d_10_latestEdit_31 ⟨(Nat.le_of_ble_eq_true rfl), (Nat.le_of_ble_eq_true rfl)⟩ hw0 ⟨rfl, (Or.inr (hw0.2.1 _ (jc_vi_2 hn tv0) _ b3 b4)), h⟩
set_option maxHeartbeats 4000000 in
set_option maxRecDepth 100000 in
theorem m_0_firstBarred {l : Launch} {Z : jE} {n : Nat} {C : jC} {v0 : Int} {v1 : Int} {post : Int → Prop} (tv0 : jT n v0 0) (tv1 : jT n v1 7) (hw0 : jWF n C) (h : wp_0_firstBarred v0 v1 C post) : jCi l y_0_firstBarred prog_2_method_3_code 4 (.int) q_0_firstBarred Z n C [jr Z v0, jr Z v1] (fun x C9 => C9 = C ∧ post x) := by
  have hn := hw0.2.2.1
  unfold wp_0_firstBarred at h
  refine jCi_of (lv0 := [(0, jr Z v0), (1, jr Z v1)]) (by decide) (Nat.le_of_ble_eq_true rfl) rfl ?_
  intro p e s m args below meth c A sz X hAe hr hlocks
  refine jg_iconst (pc := 0) X d_0_firstBarred_0 ?_
  refine jg_istore_n (pc := 1) X [(2, jI 0), (0, jr Z v0), (1, jr Z v1)] d_0_firstBarred_1 (by decide) rfl ?_
  have hw : jWF n C := hw0
  have jl2 : ∀  (N : Nat) (v2 : Int) (rv2 : jRng v2), jI1 (wp_0_firstBarred_2 v0 v1 C post) N v2 → jG p l e q_0_firstBarred s m args below meth c 4 Z A (jws Z n C) 0 0 (MQ below (jQi Z n sz (fun x C9 => C9 = C ∧ post x)) args s q_0_firstBarred.cells q_0_firstBarred.slots (jA Z n sz)) 2 [(0, jr Z v0), (1, jr Z v1), (2, jI v2)] [] := by
    intro   N
    have hn := hw0.2.2.1
    induction N with
    | zero => intro v2 rv2 h; exact h.elim
    | succ N ih2 =>
      intro v2 rv2 h
      have h : wp_0_firstBarred_2 v0 v1 C post (jI1 (wp_0_firstBarred_2 v0 v1 C post) N) v2 := h
      generalize jI1 (wp_0_firstBarred_2 v0 v1 C post) N = k2 at h ih2
      unfold wp_0_firstBarred_2 at h
      refine jg_iload_n (pc := 2) X d_0_firstBarred_2 2 rfl ?_
      refine jg_aload_n (pc := 3) X d_0_firstBarred_3 0 rfl ?_
      refine jgf_0_0 (pc := 4) X tv0 kw_235 d_0_firstBarred_4 ?_
      refine jg_icmp_ge (tgt := 65) (pc := 7) X d_0_firstBarred_7 (by decide) rv2 (hw.1 _ _) h (fun c1 h => ?_) (fun c1 h => ?_)
      · have c1 : (C v0 0) ≤ v2 := c1
        refine jg_iconst (pc := 65) X d_0_firstBarred_65 ?_
        exact jg_ireturn (pc := 66) X hAe hlocks hr d_0_firstBarred_66 ⟨(Nat.le_of_ble_eq_true rfl), (Nat.le_of_ble_eq_true rfl)⟩ rfl (⟨by decide, by decide⟩ : jRng (-1)) hw ⟨rfl, h⟩
      · have c1 : ¬ ((C v0 0) ≤ v2) := c1
        refine jg_iload_n (pc := 10) X d_0_firstBarred_10 2 rfl ?_
        refine jg_bipush (pc := 11) X d_0_firstBarred_11 rfl ?_
        refine jg_icmp_ge (tgt := 65) (pc := 13) X d_0_firstBarred_13 (by decide) rv2 (⟨by decide, by decide⟩ : jRng 60) h (fun c2 h => ?_) (fun c2 h => ?_)
        · refine jg_iconst (pc := 65) X d_0_firstBarred_65 ?_
          exact jg_ireturn (pc := 66) X hAe hlocks hr d_0_firstBarred_66 ⟨(Nat.le_of_ble_eq_true rfl), (Nat.le_of_ble_eq_true rfl)⟩ rfl (⟨by decide, by decide⟩ : jRng (-1)) hw ⟨rfl, h⟩
        · refine jg_aload_n (pc := 16) X d_0_firstBarred_16 1 rfl ?_
          refine jg_aload_n (pc := 17) X d_0_firstBarred_17 0 rfl ?_
          refine jgf_0_1 (pc := 18) X tv0 kw_237 d_0_firstBarred_18 ?_
          refine jg_iload_n (pc := 21) X d_0_firstBarred_21 2 rfl ?_
          obtain ⟨b3, h⟩ := h
          have b4 : v2 < 60 := by (have z0 : jRng v2 := rv2; have z1 : jRng (C v0 0) := (hw.1 _ _); unfold jRng at z0 z1; omega)
          refine jg_iaload (len := 60) (pc := 22) X d_0_firstBarred_22 (jc_ed_1 hn tv0) (fun _ => rfl) (by decide) b3 b4 ?_
          refine jg_pcallVi (pc := 23) X (m_7_seatOf tv1 (hw.1 _ _) hw h) jM_7_seatOf kw_1193 tv1 rfl rfl rfl rfl rfl (Nat.le_of_ble_eq_true rfl) d_0_firstBarred_23 ⟨(Nat.le_of_ble_eq_true rfl), (Nat.le_of_ble_eq_true rfl)⟩ ⟨(Nat.le_of_ble_eq_true rfl), (Nat.le_of_ble_eq_true rfl)⟩ (fun x5 r7 h => ?_)
          refine jg_istore_n (pc := 26) X [(3, jI x5), (0, jr Z v0), (1, jr Z v1), (2, jI v2)] d_0_firstBarred_26 (by decide) rfl ?_
          refine jg_iload_n (pc := 27) X d_0_firstBarred_27 0 rfl ?_
          refine jg_iconst (pc := 28) X d_0_firstBarred_28 ?_
          refine jg_icmp_eq (tgt := 52) (pc := 29) X d_0_firstBarred_29 (by decide) r7 (⟨by decide, by decide⟩ : jRng (-1)) h (fun c9 h => ?_) (fun c9 h => ?_)
          · refine jg_aload_n (pc := 52) X d_0_firstBarred_52 1 rfl ?_
            refine jgf_0_1 (pc := 53) X tv0 kw_237 d_0_firstBarred_53 ?_
            refine jg_iload_n (pc := 56) X d_0_firstBarred_56 3 rfl ?_
            have b10 : 0 ≤ v2 := by (have z0 : jRng v2 := rv2; have z1 : jRng (C v0 0) := (hw.1 _ _); unfold jRng at z0 z1; omega)
            have b11 : v2 < 60 := by (have z0 : jRng v2 := rv2; have z1 : jRng (C v0 0) := (hw.1 _ _); unfold jRng at z0 z1; omega)
            refine jg_iaload (len := 60) (pc := 57) X d_0_firstBarred_57 (jc_ed_1 hn tv0) (fun _ => rfl) (by decide) b10 b11 ?_
            exact jg_ireturn (pc := 58) X hAe hlocks hr d_0_firstBarred_58 ⟨(Nat.le_of_ble_eq_true rfl), (Nat.le_of_ble_eq_true rfl)⟩ rfl (hw.1 _ _) hw ⟨rfl, h⟩
          · refine jg_aload_n (pc := 32) X d_0_firstBarred_32 2 rfl ?_
            refine jg_iload_n (pc := 33) X d_0_firstBarred_33 0 rfl ?_
            refine jg_aload_n (pc := 34) X d_0_firstBarred_34 1 rfl ?_
            refine jgf_0_2 (pc := 35) X tv0 kw_239 d_0_firstBarred_35 ?_
            refine jg_iload_n (pc := 38) X d_0_firstBarred_38 3 rfl ?_
            have b12 : 0 ≤ v2 := by (have z0 : jRng v2 := rv2; have z1 : jRng (C v0 0) := (hw.1 _ _); unfold jRng at z0 z1; omega)
            have b13 : v2 < 60 := by (have z0 : jRng v2 := rv2; have z1 : jRng (C v0 0) := (hw.1 _ _); unfold jRng at z0 z1; omega)
            refine jg_iaload (len := 60) (pc := 39) X d_0_firstBarred_39 (jc_ed_2 hn tv0) (fun _ => rfl) (by decide) b12 b13 ?_
            refine jg_pcallVi (pc := 40) X (m_7_valueAt tv1 r7 (hw.1 _ _) hw h) jM_7_valueAt kw_1194 tv1 rfl rfl rfl rfl rfl (Nat.le_of_ble_eq_true rfl) d_0_firstBarred_40 ⟨(Nat.le_of_ble_eq_true rfl), (Nat.le_of_ble_eq_true rfl)⟩ ⟨(Nat.le_of_ble_eq_true rfl), (Nat.le_of_ble_eq_true rfl)⟩ (fun x14 r16 h => ?_)
            refine jg_aload_n (pc := 43) X d_0_firstBarred_43 1 rfl ?_
            refine jgf_0_4 (pc := 44) X tv0 kw_243 d_0_firstBarred_44 ?_
            refine jg_iload_n (pc := 47) X d_0_firstBarred_47 3 rfl ?_
            have b18 : 0 ≤ v2 := by (have z0 : jRng v2 := rv2; have z1 : jRng (C v0 0) := (hw.1 _ _); unfold jRng at z0 z1; omega)
            have b19 : v2 < 60 := by (have z0 : jRng v2 := rv2; have z1 : jRng (C v0 0) := (hw.1 _ _); unfold jRng at z0 z1; omega)
            refine jg_iaload (len := 60) (pc := 48) X d_0_firstBarred_48 (jc_ed_4 hn tv0) (fun _ => rfl) (by decide) b18 b19 ?_
            refine jg_icmp_eq (tgt := 59) (pc := 49) X d_0_firstBarred_49 (by decide) r16 (hw.1 _ _) h (fun c20 h => ?_) (fun c20 h => ?_)
            · have c20 : x14 = (C (v0 + 4) v2) := c20
              refine jg_iinc (pc := 59) X [(2, jI (v2 + 1)), (3, jI x5), (0, jr Z v0), (1, jr Z v1)] d_0_firstBarred_59 3 rfl (by decide) rfl ?_
              refine jg_goto (tgt := 2) (pc := 62) X d_0_firstBarred_62 (by decide) ?_
              have r21 : jRng (v2 + 1) := by (unfold jRng; exact ⟨by (have z0 : jRng v2 := rv2; have z1 : jRng (C v0 0) := (hw.1 _ _); unfold jRng at z0 z1; omega), by (have z0 : jRng v2 := rv2; have z1 : jRng (C v0 0) := (hw.1 _ _); unfold jRng at z0 z1; omega)⟩)
              refine jg_sub [2, 3, 0] rfl ?_
              exact ih2 _ r21 h
            · have c20 : ¬ (x14 = (C (v0 + 4) v2)) := c20
              refine jg_aload_n (pc := 52) X d_0_firstBarred_52 1 rfl ?_
              refine jgf_0_1 (pc := 53) X tv0 kw_237 d_0_firstBarred_53 ?_
              refine jg_iload_n (pc := 56) X d_0_firstBarred_56 3 rfl ?_
              have b22 : 0 ≤ v2 := by (have z0 : jRng v2 := rv2; have z1 : jRng (C v0 0) := (hw.1 _ _); unfold jRng at z0 z1; omega)
              have b23 : v2 < 60 := by (have z0 : jRng v2 := rv2; have z1 : jRng (C v0 0) := (hw.1 _ _); unfold jRng at z0 z1; omega)
              refine jg_iaload (len := 60) (pc := 57) X d_0_firstBarred_57 (jc_ed_1 hn tv0) (fun _ => rfl) (by decide) b22 b23 ?_
              exact jg_ireturn (pc := 58) X hAe hlocks hr d_0_firstBarred_58 ⟨(Nat.le_of_ble_eq_true rfl), (Nat.le_of_ble_eq_true rfl)⟩ rfl (hw.1 _ _) hw ⟨rfl, h⟩
  obtain ⟨N, h⟩ := h
  refine jg_sub [1, 2, 0] rfl ?_
  exact jl2   N _ (⟨by decide, by decide⟩ : jRng 0) h
set_option maxHeartbeats 4000000 in
set_option maxRecDepth 100000 in
theorem m_10_forgetLatest {l : Launch} {Z : jE} {n : Nat} {C : jC} {v0 : Int} {post : jC → Prop} (tv0 : jT n v0 10) (hw0 : jWF n C) (h : wp_10_forgetLatest v0 C post) : jCv l y_10_forgetLatest prog_12_method_5_code 1 q_10_forgetLatest Z n C [jr Z v0] post := by
  have hn := hw0.2.2.1
  unfold wp_10_forgetLatest at h
  refine jCv_of (lv0 := [(0, jr Z v0)]) (by decide) (Nat.le_of_ble_eq_true rfl) rfl ?_
  intro p e s m args below meth c A sz X hAe hr hlocks
  refine jg_aload_n (pc := 0) X d_10_forgetLatest_0 0 rfl ?_
  refine jg_iconst (pc := 1) X d_10_forgetLatest_1 ?_
  refine jg_aload_n (pc := 2) X d_10_forgetLatest_2 0 rfl ?_
  refine jgf_10_3 (pc := 3) X tv0 kw_277 d_10_forgetLatest_3 ?_
  refine jg_iconst (pc := 6) X d_10_forgetLatest_6 ?_
  refine jg_isub (pc := 7) X d_10_forgetLatest_7 ?_
  obtain ⟨r1, h⟩ := h
  have r2 : jRng (max 0 ((C v0 3) - 1)) := jrng_max (⟨by decide, by decide⟩ : jRng 0) r1
  refine jg_max (pc := 8) X kw_1204 d_10_forgetLatest_8 kw_max1 kw_ma kw_max2 ⟨(Nat.le_of_ble_eq_true rfl), (Nat.le_of_ble_eq_true rfl), (Nat.le_of_ble_eq_true rfl), (Nat.le_of_ble_eq_true rfl)⟩ (⟨by decide, by decide⟩ : jRng 0) r1 ?_
  refine jgp_10_3 (pc := 11) X tv0 kw_277 d_10_forgetLatest_11 ?_
  have w3 := jWF.u (k := 3) (v := (max 0 ((C v0 3) - 1))) hw0 tv0 (by decide) r2
  exact jg_return (pc := 14) X hAe hlocks hr d_10_forgetLatest_14 ⟨(Nat.le_of_ble_eq_true rfl), (Nat.le_of_ble_eq_true rfl)⟩ w3 h
set_option maxHeartbeats 4000000 in
set_option maxRecDepth 100000 in
theorem m_8_takeBack {l : Launch} {Z : jE} {n : Nat} {C : jC} {v0 : Int} {v1 : Int} {v2 : Int} {post : Int → jC → Prop} (tv0 : jT n v0 8) (rv1 : jRng v1) (tv2 : jT n v2 0) (hw0 : jWF n C) (h : wp_8_takeBack v0 v1 v2 C post) : jCi l y_8_takeBack prog_10_method_11_code 6 (.int) q_8_takeBack Z n C [jr Z v0, jI v1, jr Z v2] post := by
  have hn := hw0.2.2.1
  unfold wp_8_takeBack at h
  refine jCi_of (lv0 := [(0, jr Z v0), (1, jI v1), (2, jr Z v2)]) (by decide) (Nat.le_of_ble_eq_true rfl) rfl ?_
  intro p e s m args below meth c A sz X hAe hr hlocks
  have jb87 : ∀ (v0 : Int) (v1 : Int) (v2 : Int) (C : jC) (tv0 : jT n v0 8) (rv1 : jRng v1) (tv2 : jT n v2 0) (hw : jWF n C), wp_8_takeBack_87 v0 v1 v2 C post → jG p l e q_8_takeBack s m args below meth c 6 Z A (jws Z n C) 0 0 (MQ below (jQi Z n sz post) args s q_8_takeBack.cells q_8_takeBack.slots (jA Z n sz)) 87 [(0, jr Z v0), (1, jI v1), (2, jr Z v2)] [] := by
    intro v0 v1 v2 C tv0 rv1 tv2 hw h
    unfold wp_8_takeBack_87 at h
    refine jg_iload_n (pc := 87) X d_8_takeBack_87 1 rfl ?_
    refine jg_if_lt (tgt := 105) (pc := 88) X d_8_takeBack_88 (by decide) rv1 h (fun c1 h => ?_) (fun c1 h => ?_)
    · refine jg_aload_n (pc := 105) X d_8_takeBack_105 2 rfl ?_
      refine jgfN_0_0 (pc := 106) X tv2 kn_236 d_8_takeBack_106 ?_
      exact jg_ireturn (pc := 109) X hAe hlocks hr d_8_takeBack_109 ⟨(Nat.le_of_ble_eq_true rfl), (Nat.le_of_ble_eq_true rfl)⟩ rfl (hw.1 _ _) hw h
    · refine jg_iload_n (pc := 91) X d_8_takeBack_91 1 rfl ?_
      refine jg_iconst (pc := 92) X d_8_takeBack_92 ?_
      refine jg_icmp_ge (tgt := 105) (pc := 93) X d_8_takeBack_93 (by decide) rv1 (⟨by decide, by decide⟩ : jRng 4) h (fun c2 h => ?_) (fun c2 h => ?_)
      · refine jg_aload_n (pc := 105) X d_8_takeBack_105 2 rfl ?_
        refine jgfN_0_0 (pc := 106) X tv2 kn_236 d_8_takeBack_106 ?_
        exact jg_ireturn (pc := 109) X hAe hlocks hr d_8_takeBack_109 ⟨(Nat.le_of_ble_eq_true rfl), (Nat.le_of_ble_eq_true rfl)⟩ rfl (hw.1 _ _) hw h
      · refine jg_aload_n (pc := 96) X d_8_takeBack_96 0 rfl ?_
        refine jgf_8_1 (pc := 97) X tv0 kw_291 d_8_takeBack_97 ?_
        refine jg_iload_n (pc := 100) X d_8_takeBack_100 1 rfl ?_
        have b3 : 0 ≤ v1 := by (have z0 : jRng v1 := rv1; unfold jRng at z0; omega)
        have b4 : v1 < 4 := by (have z0 : jRng v1 := rv1; unfold jRng at z0; omega)
        refine jg_aaloadV (pc := 101) X d_8_takeBack_101 (jc_st_1 hn tv0) b3 b4 ?_
        refine jg_callVv (pc := 102) X (m_10_forgetLatest (jc_va hn (jc_st_1 hn tv0) b3 b4) hw h) jM_10_forgetLatest kw_1200 (jc_va hn (jc_st_1 hn tv0) b3 b4) rfl rfl rfl rfl rfl (Nat.le_of_ble_eq_true rfl) d_8_takeBack_102 ⟨(Nat.le_of_ble_eq_true rfl), (Nat.le_of_ble_eq_true rfl)⟩ ⟨(Nat.le_of_ble_eq_true rfl), (Nat.le_of_ble_eq_true rfl)⟩ (fun C6 w8 h => ?_)
        refine jg_aload_n (pc := 105) X d_8_takeBack_105 2 rfl ?_
        refine jgfN_0_0 (pc := 106) X tv2 kn_236 d_8_takeBack_106 ?_
        exact jg_ireturn (pc := 109) X hAe hlocks hr d_8_takeBack_109 ⟨(Nat.le_of_ble_eq_true rfl), (Nat.le_of_ble_eq_true rfl)⟩ rfl (w8.1 _ _) w8 h
  refine jg_iconst (pc := 0) X d_8_takeBack_0 ?_
  refine jg_istore_n (pc := 1) X [(3, jI 0), (0, jr Z v0), (1, jI v1), (2, jr Z v2)] d_8_takeBack_1 (by decide) rfl ?_
  have jl2 : ∀  (N : Nat) (v3 : Int) (C : jC) (rv3 : jRng v3) (hw : jWF n C), jI2 (wp_8_takeBack_2 v0 v1 v2 post) N v3 C → jG p l e q_8_takeBack s m args below meth c 6 Z A (jws Z n C) 0 0 (MQ below (jQi Z n sz post) args s q_8_takeBack.cells q_8_takeBack.slots (jA Z n sz)) 2 [(0, jr Z v0), (1, jI v1), (2, jr Z v2), (3, jI v3)] [] := by
    intro   N
    have hn := hw0.2.2.1
    induction N with
    | zero => intro v3 C rv3 hw h; exact h.elim
    | succ N ih2 =>
      intro v3 C rv3 hw h
      have h : wp_8_takeBack_2 v0 v1 v2 post (jI2 (wp_8_takeBack_2 v0 v1 v2 post) N) v3 C := h
      generalize jI2 (wp_8_takeBack_2 v0 v1 v2 post) N = k2 at h ih2
      unfold wp_8_takeBack_2 at h
      refine jg_iload_n (pc := 2) X d_8_takeBack_2 3 rfl ?_
      refine jg_aload_n (pc := 3) X d_8_takeBack_3 2 rfl ?_
      refine jgfN_0_0 (pc := 4) X tv2 kn_236 d_8_takeBack_4 ?_
      refine jg_icmp_ge (tgt := 87) (pc := 7) X d_8_takeBack_7 (by decide) rv3 (hw.1 _ _) h (fun c9 h => ?_) (fun c9 h => ?_)
      · have c9 : (C v2 0) ≤ v3 := c9
        refine jg_sub [0, 1, 2] rfl ?_
        exact jb87 _ _ _ _ tv0 rv1 tv2 hw h
      · have c9 : ¬ ((C v2 0) ≤ v3) := c9
        refine jg_iload_n (pc := 10) X d_8_takeBack_10 3 rfl ?_
        refine jg_bipush (pc := 11) X d_8_takeBack_11 rfl ?_
        refine jg_icmp_ge (tgt := 87) (pc := 13) X d_8_takeBack_13 (by decide) rv3 (⟨by decide, by decide⟩ : jRng 60) h (fun c10 h => ?_) (fun c10 h => ?_)
        · refine jg_sub [0, 1, 2] rfl ?_
          exact jb87 _ _ _ _ tv0 rv1 tv2 hw h
        · refine jg_aload_n (pc := 16) X d_8_takeBack_16 2 rfl ?_
          refine jgfN_0_1 (pc := 17) X tv2 kn_238 d_8_takeBack_17 ?_
          refine jg_iload_n (pc := 20) X d_8_takeBack_20 3 rfl ?_
          obtain ⟨b11, h⟩ := h
          have b12 : v3 < 60 := by (have z0 : jRng v3 := rv3; have z1 : jRng (C v2 0) := (hw.1 _ _); unfold jRng at z0 z1; omega)
          refine jg_iaload (len := 60) (pc := 21) X d_8_takeBack_21 (jc_ed_1 hn tv2) (fun _ => rfl) (by decide) b11 b12 ?_
          refine jg_istore (pc := 22) X [(4, jI (C (v2 + 1) v3)), (0, jr Z v0), (1, jI v1), (2, jr Z v2), (3, jI v3)] d_8_takeBack_22 (by decide) rfl ?_
          refine jg_aload_n (pc := 24) X d_8_takeBack_24 3 rfl ?_
          refine jgfN_0_2 (pc := 25) X tv2 kn_240 d_8_takeBack_25 ?_
          refine jg_iload_n (pc := 28) X d_8_takeBack_28 4 rfl ?_
          have b13 : 0 ≤ v3 := by (have z0 : jRng v3 := rv3; have z1 : jRng (C v2 0) := (hw.1 _ _); unfold jRng at z0 z1; omega)
          have b14 : v3 < 60 := by (have z0 : jRng v3 := rv3; have z1 : jRng (C v2 0) := (hw.1 _ _); unfold jRng at z0 z1; omega)
          refine jg_iaload (len := 60) (pc := 29) X d_8_takeBack_29 (jc_ed_2 hn tv2) (fun _ => rfl) (by decide) b13 b14 ?_
          refine jg_istore (pc := 30) X [(5, jI (C (v2 + 2) v3)), (4, jI (C (v2 + 1) v3)), (0, jr Z v0), (1, jI v1), (2, jr Z v2), (3, jI v3)] d_8_takeBack_30 (by decide) rfl ?_
          refine jg_aload_n (pc := 32) X d_8_takeBack_32 2 rfl ?_
          refine jgf_8_0 (pc := 33) X tv0 kw_288 d_8_takeBack_33 ?_
          refine jg_aload_n (pc := 36) X d_8_takeBack_36 2 rfl ?_
          refine jgf_8_0 (pc := 37) X tv0 kw_288 d_8_takeBack_37 ?_
          refine jg_iload (pc := 40) X d_8_takeBack_40 1 rfl ?_
          refine jg_pcallVi (pc := 42) X (m_7_seatOf (jc_st_0 hn tv0) (hw.1 _ _) hw h) jM_7_seatOf kw_1199 (jc_st_0 hn tv0) rfl rfl rfl rfl rfl (Nat.le_of_ble_eq_true rfl) d_8_takeBack_42 ⟨(Nat.le_of_ble_eq_true rfl), (Nat.le_of_ble_eq_true rfl)⟩ ⟨(Nat.le_of_ble_eq_true rfl), (Nat.le_of_ble_eq_true rfl)⟩ (fun x15 r17 h => ?_)
          refine jg_iload (pc := 45) X d_8_takeBack_45 0 rfl ?_
          refine jg_aload_n (pc := 47) X d_8_takeBack_47 4 rfl ?_
          refine jgfN_0_3 (pc := 48) X tv2 kn_242 d_8_takeBack_48 ?_
          refine jg_iload_n (pc := 51) X d_8_takeBack_51 5 rfl ?_
          have b19 : 0 ≤ v3 := by (have z0 : jRng v3 := rv3; have z1 : jRng (C v2 0) := (hw.1 _ _); unfold jRng at z0 z1; omega)
          have b20 : v3 < 60 := by (have z0 : jRng v3 := rv3; have z1 : jRng (C v2 0) := (hw.1 _ _); unfold jRng at z0 z1; omega)
          refine jg_iaload (len := 60) (pc := 52) X d_8_takeBack_52 (jc_ed_3 hn tv2) (fun _ => rfl) (by decide) b19 b20 ?_
          refine jg_iload_n (pc := 53) X d_8_takeBack_53 3 rfl ?_
          refine jg_callVv (pc := 54) X (m_7_write (jc_st_0 hn tv0) r17 (hw.1 _ _) (hw.1 _ _) rv1 hw h) jM_7_write kw_730 (jc_st_0 hn tv0) rfl rfl rfl rfl rfl (Nat.le_of_ble_eq_true rfl) d_8_takeBack_54 ⟨(Nat.le_of_ble_eq_true rfl), (Nat.le_of_ble_eq_true rfl)⟩ ⟨(Nat.le_of_ble_eq_true rfl), (Nat.le_of_ble_eq_true rfl)⟩ (fun C22 w24 h => ?_)
          refine jg_aload_n (pc := 57) X d_8_takeBack_57 2 rfl ?_
          refine jgf_8_2 (pc := 58) X tv0 kw_293 d_8_takeBack_58 ?_
          refine jg_iload_n (pc := 61) X d_8_takeBack_61 3 rfl ?_
          refine jg_iload (pc := 62) X d_8_takeBack_62 1 rfl ?_
          refine jg_iload (pc := 64) X d_8_takeBack_64 0 rfl ?_
          refine jg_aload_n (pc := 66) X d_8_takeBack_66 4 rfl ?_
          refine jgfN_0_4 (pc := 67) X tv2 kn_244 d_8_takeBack_67 ?_
          refine jg_iload_n (pc := 70) X d_8_takeBack_70 5 rfl ?_
          have b25 : 0 ≤ v3 := by (have z0 : jRng v3 := rv3; have z1 : jRng (C v2 0) := (hw.1 _ _); unfold jRng at z0 z1; omega)
          have b26 : v3 < 60 := by (have z0 : jRng v3 := rv3; have z1 : jRng (C v2 0) := (hw.1 _ _); unfold jRng at z0 z1; omega)
          refine jg_iaload (len := 60) (pc := 71) X d_8_takeBack_71 (jc_ed_4 hn tv2) (fun _ => rfl) (by decide) b25 b26 ?_
          refine jg_aload_n (pc := 72) X d_8_takeBack_72 4 rfl ?_
          refine jgfN_0_3 (pc := 73) X tv2 kn_242 d_8_takeBack_73 ?_
          refine jg_iload_n (pc := 76) X d_8_takeBack_76 5 rfl ?_
          have b27 : 0 ≤ v3 := by (have z0 : jRng v3 := rv3; have z1 : jRng (C v2 0) := (hw.1 _ _); unfold jRng at z0 z1; omega)
          have b28 : v3 < 60 := by (have z0 : jRng v3 := rv3; have z1 : jRng (C v2 0) := (hw.1 _ _); unfold jRng at z0 z1; omega)
          refine jg_iaload (len := 60) (pc := 77) X d_8_takeBack_77 (jc_ed_3 hn tv2) (fun _ => rfl) (by decide) b27 b28 ?_
          refine jg_callVv (pc := 78) X (m_3_takeChange (jc_st_2 hn tv0) rv1 (hw.1 _ _) (hw.1 _ _) (w24.1 _ _) (w24.1 _ _) w24 h) jM_3_takeChange kw_1040 (jc_st_2 hn tv0) rfl rfl rfl rfl rfl (Nat.le_of_ble_eq_true rfl) d_8_takeBack_78 ⟨(Nat.le_of_ble_eq_true rfl), (Nat.le_of_ble_eq_true rfl)⟩ ⟨(Nat.le_of_ble_eq_true rfl), (Nat.le_of_ble_eq_true rfl)⟩ (fun C30 w32 h => ?_)
          refine jg_iinc (pc := 81) X [(3, jI (v3 + 1)), (5, jI (C (v2 + 2) v3)), (4, jI (C (v2 + 1) v3)), (0, jr Z v0), (1, jI v1), (2, jr Z v2)] d_8_takeBack_81 5 rfl (by decide) rfl ?_
          refine jg_goto (tgt := 2) (pc := 84) X d_8_takeBack_84 (by decide) ?_
          have r33 : jRng (v3 + 1) := by (unfold jRng; exact ⟨by (have z0 : jRng v3 := rv3; have z1 : jRng (C v2 0) := (hw.1 _ _); unfold jRng at z0 z1; omega), by (have z0 : jRng v3 := rv3; have z1 : jRng (C v2 0) := (hw.1 _ _); unfold jRng at z0 z1; omega)⟩)
          refine jg_sub [3, 4, 5, 0] rfl ?_
          exact ih2 _ _ r33 w32 h
  obtain ⟨N, h⟩ := h
  refine jg_sub [1, 2, 3, 0] rfl ?_
  exact jl2   N _ _ (⟨by decide, by decide⟩ : jRng 0) hw0 h
set_option maxHeartbeats 4000000 in
set_option maxRecDepth 100000 in
theorem m_11_undo {l : Launch} {Z : jE} {n : Nat} {C : jC} {v1 : Int} {ex : String → jC → Prop} {post : Int → jC → Prop} (rv1 : jRng v1) (hw0 : jWF n C) (h : wp_11_undo v1 C ex post) : jXi l y_11_undo prog_1_method_24_code 4 (.int) q_11_undo Z n C [jr Z 0, jI v1] ex post := by
  have hn := hw0.2.2.1
  unfold wp_11_undo at h
  refine jXi_of (lv0 := [(0, jr Z 0), (1, jI v1)]) (by decide) (Nat.le_of_ble_eq_true rfl) rfl ?_
  intro p e s m args below meth c A sz X hAe hr hlocks htab
  refine jg_aload_n (pc := 0) X d_11_undo_0 0 rfl ?_
  refine jg_iload_n (pc := 1) X d_11_undo_1 1 rfl ?_
  refine jg_pxcallVr (pc := 2) X hAe htab hlocks (m_11_viewNumbered rv1 hw0 h) jM_11_viewNumbered kw_772 (jl_0_11 hn) rfl rfl rfl rfl rfl (Nat.le_of_ble_eq_true rfl) d_11_undo_2 ⟨(Nat.le_of_ble_eq_true rfl), (Nat.le_of_ble_eq_true rfl)⟩ ⟨(Nat.le_of_ble_eq_true rfl), (Nat.le_of_ble_eq_true rfl)⟩ ⟨(Nat.le_of_ble_eq_true rfl), (Nat.le_of_ble_eq_true rfl)⟩ (fun x1 h => ?_)
  obtain ⟨t5, h⟩ := h
  refine jg_eqst (congrArg (· :: _) (jn_pos t5.1)) ?_
  refine jg_astore_n (pc := 5) X [(2, jr Z x1), (0, jr Z 0), (1, jI v1)] d_11_undo_5 (by decide) rfl ?_
  refine jg_aload_n (pc := 6) X d_11_undo_6 0 rfl ?_
  refine jg_pcallVr (pc := 7) X (m_10_latestEdit t5 hw0 h) jM_10_latestEdit kw_1185 t5 rfl rfl rfl rfl rfl (Nat.le_of_ble_eq_true rfl) d_11_undo_7 ⟨(Nat.le_of_ble_eq_true rfl), (Nat.le_of_ble_eq_true rfl)⟩ ⟨(Nat.le_of_ble_eq_true rfl), (Nat.le_of_ble_eq_true rfl)⟩ (fun x6 h => ?_)
  obtain ⟨t10, h⟩ := h
  refine jg_qstore_n (pc := 10) X [(3, jn Z x6), (2, jr Z x1), (0, jr Z 0), (1, jI v1)] d_11_undo_10 (by decide) rfl ?_
  refine jg_qload_n (pc := 11) X d_11_undo_11 0 rfl ?_
  refine jg_ifnull (tgt := 30) (pc := 12) X d_11_undo_12 (by decide) h (fun c11 h => ?_) (fun c11 h => ?_)
  · exact jg_throw (pc := 30) X hAe htab hlocks (by decide) kw_998 kw_26 th_245 tg_245 d_11_undo_30 d_11_undo_33 d_11_undo_34 d_11_undo_37 ⟨(Nat.le_of_ble_eq_true rfl), (Nat.le_of_ble_eq_true rfl), (Nat.le_of_ble_eq_true rfl), (Nat.le_of_ble_eq_true rfl)⟩ ⟨(Nat.le_of_ble_eq_true rfl), (Nat.le_of_ble_eq_true rfl)⟩ hw0 h
  · refine jg_eqlv (lv2 := [(3, jr Z x6), (2, jr Z x1), (0, jr Z 0), (1, jI v1)]) (by rw [jn_pos c11]) ?_
    refine jg_aload_n (pc := 15) X d_11_undo_15 0 rfl ?_
    refine jg_aload_n (pc := 16) X d_11_undo_16 2 rfl ?_
    refine jgf_11_2 (pc := 17) X (jl_0_11 hn) kw_338 d_11_undo_17 ?_
    refine jgfN_8_0 (pc := 20) X (jl_35_8 hn) kn_290 d_11_undo_20 ?_
    refine jg_pcallVi (pc := 23) X (m_0_firstBarred (Or.resolve_left t10 (Int.not_lt.mpr c11)) (jl_36_7 hn) hw0 h) jM_0_firstBarred kw_1189 (Or.resolve_left t10 (Int.not_lt.mpr c11)) rfl rfl rfl rfl rfl (Nat.le_of_ble_eq_true rfl) d_11_undo_23 ⟨(Nat.le_of_ble_eq_true rfl), (Nat.le_of_ble_eq_true rfl)⟩ ⟨(Nat.le_of_ble_eq_true rfl), (Nat.le_of_ble_eq_true rfl)⟩ (fun x12 r14 h => ?_)
    refine jg_iconst (pc := 26) X d_11_undo_26 ?_
    refine jg_icmp_eq (tgt := 38) (pc := 27) X d_11_undo_27 (by decide) r14 (⟨by decide, by decide⟩ : jRng (-1)) h (fun c16 h => ?_) (fun c16 h => ?_)
    · refine jg_aload_n (pc := 38) X d_11_undo_38 2 rfl ?_
      refine jgf_11_2 (pc := 39) X (jl_0_11 hn) kw_338 d_11_undo_39 ?_
      refine jg_iload_n (pc := 42) X d_11_undo_42 3 rfl ?_
      refine jg_aload_n (pc := 43) X d_11_undo_43 0 rfl ?_
      refine jg_callVi (pc := 44) X (m_8_takeBack (jl_35_8 hn) rv1 (Or.resolve_left t10 (Int.not_lt.mpr c11)) hw0 h) jM_8_takeBack kw_1195 (jl_35_8 hn) rfl rfl rfl rfl rfl (Nat.le_of_ble_eq_true rfl) d_11_undo_44 ⟨(Nat.le_of_ble_eq_true rfl), (Nat.le_of_ble_eq_true rfl)⟩ ⟨(Nat.le_of_ble_eq_true rfl), (Nat.le_of_ble_eq_true rfl)⟩ (fun x17 C18 r19 w20 h => ?_)
      refine jg_ret_x ?_
      exact jg_ireturn (pc := 47) X hAe hlocks hr d_11_undo_47 ⟨(Nat.le_of_ble_eq_true rfl), (Nat.le_of_ble_eq_true rfl)⟩ rfl r19 w20 h
    · exact jg_throw (pc := 30) X hAe htab hlocks (by decide) kw_998 kw_26 th_245 tg_245 d_11_undo_30 d_11_undo_33 d_11_undo_34 d_11_undo_37 ⟨(Nat.le_of_ble_eq_true rfl), (Nat.le_of_ble_eq_true rfl), (Nat.le_of_ble_eq_true rfl), (Nat.le_of_ble_eq_true rfl)⟩ ⟨(Nat.le_of_ble_eq_true rfl), (Nat.le_of_ble_eq_true rfl)⟩ hw0 h
set_option maxHeartbeats 4000000 in
set_option maxRecDepth 100000 in
theorem m_2_suits {l : Launch} {Z : jE} {n : Nat} {C : jC} {v0 : Int} {v1 : Int} {v2 : Int} {post : Int → Prop} (tv0 : jT n v0 2) (tv1 : jT n v1 7) (rv2 : jRng v2) (hw0 : jWF n C) (h : wp_2_suits v0 v1 v2 C post) : jCi l y_2_suits prog_4_method_10_code 3 (.boolean) q_2_suits Z n C [jr Z v0, jr Z v1, jI v2] (fun x C9 => C9 = C ∧ post x) := by
  have hn := hw0.2.2.1
  unfold wp_2_suits at h
  refine jCi_of (lv0 := [(0, jr Z v0), (1, jr Z v1), (2, jI v2)]) (by decide) (Nat.le_of_ble_eq_true rfl) rfl ?_
  intro p e s m args below meth c A sz X hAe hr hlocks
  refine jg_aload_n (pc := 0) X d_2_suits_0 0 rfl ?_
  refine jg_aload_n (pc := 1) X d_2_suits_1 1 rfl ?_
  refine jg_iload_n (pc := 2) X d_2_suits_2 2 rfl ?_
  refine jg_pcallVi (pc := 3) X (m_2_firstUnlike tv0 tv1 rv2 hw0 h) jM_2_firstUnlike kw_1216 tv0 rfl rfl rfl rfl rfl (Nat.le_of_ble_eq_true rfl) d_2_suits_3 ⟨(Nat.le_of_ble_eq_true rfl), (Nat.le_of_ble_eq_true rfl)⟩ ⟨(Nat.le_of_ble_eq_true rfl), (Nat.le_of_ble_eq_true rfl)⟩ (fun x1 r3 h => ?_)
  refine jg_iconst (pc := 6) X d_2_suits_6 ?_
  refine jg_icmp_ne (tgt := 14) (pc := 7) X d_2_suits_7 (by decide) r3 (⟨by decide, by decide⟩ : jRng (-1)) h (fun c5 h => ?_) (fun c5 h => ?_)
  · refine jg_iconst (pc := 10) X d_2_suits_10 ?_
    refine jg_goto (tgt := 15) (pc := 11) X d_2_suits_11 (by decide) ?_
    exact jg_ireturn (pc := 15) X hAe hlocks hr d_2_suits_15 ⟨(Nat.le_of_ble_eq_true rfl), (Nat.le_of_ble_eq_true rfl)⟩ rfl (⟨by decide, by decide⟩ : jRng 1) hw0 ⟨rfl, h⟩
  · refine jg_iconst (pc := 14) X d_2_suits_14 ?_
    exact jg_ireturn (pc := 15) X hAe hlocks hr d_2_suits_15 ⟨(Nat.le_of_ble_eq_true rfl), (Nat.le_of_ble_eq_true rfl)⟩ rfl (⟨by decide, by decide⟩ : jRng 0) hw0 ⟨rfl, h⟩
set_option maxHeartbeats 4000000 in
set_option maxRecDepth 100000 in
theorem m_11_fits {l : Launch} {Z : jE} {n : Nat} {C : jC} {v1 : Int} {v2 : Int} {ex : String → jC → Prop} {post : Int → Prop} (rv1 : jRng v1) (rv2 : jRng v2) (hw0 : jWF n C) (h : wp_11_fits v1 v2 C ex post) : jXi l y_11_fits prog_1_method_25_code 4 (.boolean) q_11_fits Z n C [jr Z 0, jI v1, jI v2] ex (fun x C9 => C9 = C ∧ post x) := by
  have hn := hw0.2.2.1
  unfold wp_11_fits at h
  refine jXi_of (lv0 := [(0, jr Z 0), (1, jI v1), (2, jI v2)]) (by decide) (Nat.le_of_ble_eq_true rfl) rfl ?_
  intro p e s m args below meth c A sz X hAe hr hlocks htab
  refine jg_aload_n (pc := 0) X d_11_fits_0 0 rfl ?_
  refine jg_iload_n (pc := 1) X d_11_fits_1 1 rfl ?_
  refine jg_pxcallVr (pc := 2) X hAe htab hlocks (m_11_viewNumbered rv1 hw0 h) jM_11_viewNumbered kw_772 (jl_0_11 hn) rfl rfl rfl rfl rfl (Nat.le_of_ble_eq_true rfl) d_11_fits_2 ⟨(Nat.le_of_ble_eq_true rfl), (Nat.le_of_ble_eq_true rfl)⟩ ⟨(Nat.le_of_ble_eq_true rfl), (Nat.le_of_ble_eq_true rfl)⟩ ⟨(Nat.le_of_ble_eq_true rfl), (Nat.le_of_ble_eq_true rfl)⟩ (fun x1 h => ?_)
  obtain ⟨t5, h⟩ := h
  refine jg_eqst (congrArg (· :: _) (jn_pos t5.1)) ?_
  refine jg_astore_n (pc := 5) X [(3, jr Z x1), (0, jr Z 0), (1, jI v1), (2, jI v2)] d_11_fits_5 (by decide) rfl ?_
  refine jg_aload_n (pc := 6) X d_11_fits_6 0 rfl ?_
  refine jgfN_10_0 (pc := 7) X t5 kn_271 d_11_fits_7 ?_
  refine jg_aload_n (pc := 10) X d_11_fits_10 1 rfl ?_
  refine jgf_11_2 (pc := 11) X (jl_0_11 hn) kw_338 d_11_fits_11 ?_
  refine jgfN_8_0 (pc := 14) X (jl_35_8 hn) kn_290 d_11_fits_14 ?_
  refine jg_aload_n (pc := 17) X d_11_fits_17 1 rfl ?_
  refine jg_iload_n (pc := 18) X d_11_fits_18 3 rfl ?_
  refine jg_pxcallVi (pc := 19) X hAe htab hlocks (m_11_seatOfKey rv2 hw0 h) jM_11_seatOfKey kw_920 (jl_0_11 hn) rfl rfl rfl rfl rfl (Nat.le_of_ble_eq_true rfl) d_11_fits_19 ⟨(Nat.le_of_ble_eq_true rfl), (Nat.le_of_ble_eq_true rfl)⟩ ⟨(Nat.le_of_ble_eq_true rfl), (Nat.le_of_ble_eq_true rfl)⟩ ⟨(Nat.le_of_ble_eq_true rfl), (Nat.le_of_ble_eq_true rfl)⟩ (fun x6 r8 h => ?_)
  refine jg_pcallVi (pc := 22) X (m_2_suits (jc_vi_0 hn t5) (jl_36_7 hn) r8 hw0 h) jM_2_suits kw_1212 (jc_vi_0 hn t5) rfl rfl rfl rfl rfl (Nat.le_of_ble_eq_true rfl) d_11_fits_22 ⟨(Nat.le_of_ble_eq_true rfl), (Nat.le_of_ble_eq_true rfl)⟩ ⟨(Nat.le_of_ble_eq_true rfl), (Nat.le_of_ble_eq_true rfl)⟩ (fun x10 r12 h => ?_)
  refine jg_ret_x ?_
  obtain ⟨b14, h⟩ := h
  exact jg_ireturn (pc := 25) X hAe hlocks hr d_11_fits_25 ⟨(Nat.le_of_ble_eq_true rfl), (Nat.le_of_ble_eq_true rfl)⟩ (jnar_b b14) r12 hw0 ⟨rfl, h⟩
set_option maxHeartbeats 4000000 in
set_option maxRecDepth 100000 in
theorem m_11_why {l : Launch} {Z : jE} {n : Nat} {C : jC} {v1 : Int} {v2 : Int} {ex : String → jC → Prop} {post : Int → Prop} (rv1 : jRng v1) (rv2 : jRng v2) (hw0 : jWF n C) (h : wp_11_why v1 v2 C ex post) : jXi l y_11_why prog_1_method_26_code 4 (.int) q_11_why Z n C [jr Z 0, jI v1, jI v2] ex (fun x C9 => C9 = C ∧ post x) := by
  have hn := hw0.2.2.1
  unfold wp_11_why at h
  refine jXi_of (lv0 := [(0, jr Z 0), (1, jI v1), (2, jI v2)]) (by decide) (Nat.le_of_ble_eq_true rfl) rfl ?_
  intro p e s m args below meth c A sz X hAe hr hlocks htab
  refine jg_aload_n (pc := 0) X d_11_why_0 0 rfl ?_
  refine jg_iload_n (pc := 1) X d_11_why_1 1 rfl ?_
  refine jg_pxcallVr (pc := 2) X hAe htab hlocks (m_11_viewNumbered rv1 hw0 h) jM_11_viewNumbered kw_772 (jl_0_11 hn) rfl rfl rfl rfl rfl (Nat.le_of_ble_eq_true rfl) d_11_why_2 ⟨(Nat.le_of_ble_eq_true rfl), (Nat.le_of_ble_eq_true rfl)⟩ ⟨(Nat.le_of_ble_eq_true rfl), (Nat.le_of_ble_eq_true rfl)⟩ ⟨(Nat.le_of_ble_eq_true rfl), (Nat.le_of_ble_eq_true rfl)⟩ (fun x1 h => ?_)
  obtain ⟨t5, h⟩ := h
  refine jg_eqst (congrArg (· :: _) (jn_pos t5.1)) ?_
  refine jg_astore_n (pc := 5) X [(3, jr Z x1), (0, jr Z 0), (1, jI v1), (2, jI v2)] d_11_why_5 (by decide) rfl ?_
  refine jg_aload_n (pc := 6) X d_11_why_6 0 rfl ?_
  refine jgfN_10_0 (pc := 7) X t5 kn_271 d_11_why_7 ?_
  refine jg_aload_n (pc := 10) X d_11_why_10 1 rfl ?_
  refine jgf_11_2 (pc := 11) X (jl_0_11 hn) kw_338 d_11_why_11 ?_
  refine jgfN_8_0 (pc := 14) X (jl_35_8 hn) kn_290 d_11_why_14 ?_
  refine jg_aload_n (pc := 17) X d_11_why_17 1 rfl ?_
  refine jg_iload_n (pc := 18) X d_11_why_18 3 rfl ?_
  refine jg_pxcallVi (pc := 19) X hAe htab hlocks (m_11_seatOfKey rv2 hw0 h) jM_11_seatOfKey kw_920 (jl_0_11 hn) rfl rfl rfl rfl rfl (Nat.le_of_ble_eq_true rfl) d_11_why_19 ⟨(Nat.le_of_ble_eq_true rfl), (Nat.le_of_ble_eq_true rfl)⟩ ⟨(Nat.le_of_ble_eq_true rfl), (Nat.le_of_ble_eq_true rfl)⟩ ⟨(Nat.le_of_ble_eq_true rfl), (Nat.le_of_ble_eq_true rfl)⟩ (fun x6 r8 h => ?_)
  refine jg_pcallVi (pc := 22) X (m_2_firstUnlike (jc_vi_0 hn t5) (jl_36_7 hn) r8 hw0 h) jM_2_firstUnlike kw_1224 (jc_vi_0 hn t5) rfl rfl rfl rfl rfl (Nat.le_of_ble_eq_true rfl) d_11_why_22 ⟨(Nat.le_of_ble_eq_true rfl), (Nat.le_of_ble_eq_true rfl)⟩ ⟨(Nat.le_of_ble_eq_true rfl), (Nat.le_of_ble_eq_true rfl)⟩ (fun x10 r12 h => ?_)
  refine jg_ret_x ?_
  exact jg_ireturn (pc := 25) X hAe hlocks hr d_11_why_25 ⟨(Nat.le_of_ble_eq_true rfl), (Nat.le_of_ble_eq_true rfl)⟩ rfl r12 hw0 ⟨rfl, h⟩
set_option maxHeartbeats 4000000 in
set_option maxRecDepth 100000 in
theorem m_4_staleBits {l : Launch} {Z : jE} {n : Nat} {C : jC} {v1 : Int} {v2 : Int} {post : Int → Prop} (tv1 : jT n v1 8) (tv2 : jT n v2 10) (hw0 : jWF n C) (h : wp_4_staleBits v1 v2 C post) : jCi l y_4_staleBits prog_6_method_3_code 5 (.int) q_4_staleBits Z n C [jr Z 339, jr Z v1, jr Z v2] (fun x C9 => C9 = C ∧ post x) := by
  have hn := hw0.2.2.1
  unfold wp_4_staleBits at h
  refine jCi_of (lv0 := [(0, jr Z 339), (1, jr Z v1), (2, jr Z v2)]) (by decide) (Nat.le_of_ble_eq_true rfl) rfl ?_
  intro p e s m args below meth c A sz X hAe hr hlocks
  refine jg_iconst (pc := 0) X d_4_staleBits_0 ?_
  refine jg_istore_n (pc := 1) X [(3, jI 0), (0, jr Z 339), (1, jr Z v1), (2, jr Z v2)] d_4_staleBits_1 (by decide) rfl ?_
  refine jg_iconst (pc := 2) X d_4_staleBits_2 ?_
  refine jg_istore (pc := 3) X [(4, jI 0), (3, jI 0), (0, jr Z 339), (1, jr Z v1), (2, jr Z v2)] d_4_staleBits_3 (by decide) rfl ?_
  have hw : jWF n C := hw0
  have jl5 : ∀  (N : Nat) (v3 : Int) (v4 : Int) (rv3 : jRng v3) (rv4 : jRng v4), jI2 (wp_4_staleBits_5 v1 v2 C post) N v3 v4 → jG p l e q_4_staleBits s m args below meth c 5 Z A (jws Z n C) 0 0 (MQ below (jQi Z n sz (fun x C9 => C9 = C ∧ post x)) args s q_4_staleBits.cells q_4_staleBits.slots (jA Z n sz)) 5 [(1, jr Z v1), (2, jr Z v2), (3, jI v3), (4, jI v4)] [] := by
    intro   N
    have hn := hw0.2.2.1
    induction N with
    | zero => intro v3 v4 rv3 rv4 h; exact h.elim
    | succ N ih5 =>
      intro v3 v4 rv3 rv4 h
      have h : wp_4_staleBits_5 v1 v2 C post (jI2 (wp_4_staleBits_5 v1 v2 C post) N) v3 v4 := h
      generalize jI2 (wp_4_staleBits_5 v1 v2 C post) N = k5 at h ih5
      unfold wp_4_staleBits_5 at h
      refine jg_iload (pc := 5) X d_4_staleBits_5 3 rfl ?_
      refine jg_aload_n (pc := 7) X d_4_staleBits_7 1 rfl ?_
      refine jgfN_10_1 (pc := 8) X tv2 kn_273 d_4_staleBits_8 ?_
      refine jg_pcallVi (pc := 11) X (m_6_length (jc_vi_1 hn tv2) hw h) jM_6_length kw_1174 (jc_vi_1 hn tv2) rfl rfl rfl rfl rfl (Nat.le_of_ble_eq_true rfl) d_4_staleBits_11 ⟨(Nat.le_of_ble_eq_true rfl), (Nat.le_of_ble_eq_true rfl)⟩ ⟨(Nat.le_of_ble_eq_true rfl), (Nat.le_of_ble_eq_true rfl)⟩ (fun x1 r3 h => ?_)
      refine jg_icmp_ge (tgt := 53) (pc := 14) X d_4_staleBits_14 (by decide) rv4 r3 h (fun c5 h => ?_) (fun c5 h => ?_)
      · refine jg_iload_n (pc := 53) X d_4_staleBits_53 2 rfl ?_
        exact jg_ireturn (pc := 54) X hAe hlocks hr d_4_staleBits_54 ⟨(Nat.le_of_ble_eq_true rfl), (Nat.le_of_ble_eq_true rfl)⟩ rfl rv3 hw ⟨rfl, h⟩
      · refine jg_aload_n (pc := 17) X d_4_staleBits_17 1 rfl ?_
        refine jgfN_10_0 (pc := 18) X tv2 kn_269 d_4_staleBits_18 ?_
        refine jg_aload_n (pc := 21) X d_4_staleBits_21 0 rfl ?_
        refine jgfN_8_0 (pc := 22) X tv1 kn_289 d_4_staleBits_22 ?_
        refine jg_aload_n (pc := 25) X d_4_staleBits_25 1 rfl ?_
        refine jgfN_10_1 (pc := 26) X tv2 kn_273 d_4_staleBits_26 ?_
        refine jg_iload (pc := 29) X d_4_staleBits_29 3 rfl ?_
        refine jg_pcallVi (pc := 31) X (m_6_at (jc_vi_1 hn tv2) rv4 hw h) jM_6_at kw_1175 (jc_vi_1 hn tv2) rfl rfl rfl rfl rfl (Nat.le_of_ble_eq_true rfl) d_4_staleBits_31 ⟨(Nat.le_of_ble_eq_true rfl), (Nat.le_of_ble_eq_true rfl)⟩ ⟨(Nat.le_of_ble_eq_true rfl), (Nat.le_of_ble_eq_true rfl)⟩ (fun x6 r8 h => ?_)
        refine jg_pcallVi (pc := 34) X (m_2_suits (jc_vi_0 hn tv2) (jc_st_0 hn tv1) r8 hw h) jM_2_suits kw_1236 (jc_vi_0 hn tv2) rfl rfl rfl rfl rfl (Nat.le_of_ble_eq_true rfl) d_4_staleBits_34 ⟨(Nat.le_of_ble_eq_true rfl), (Nat.le_of_ble_eq_true rfl)⟩ ⟨(Nat.le_of_ble_eq_true rfl), (Nat.le_of_ble_eq_true rfl)⟩ (fun x10 r12 h => ?_)
        refine jg_if_ne (tgt := 47) (pc := 37) X d_4_staleBits_37 (by decide) r12 h (fun c14 h => ?_) (fun c14 h => ?_)
        · refine jg_iload_n (pc := 40) X d_4_staleBits_40 2 rfl ?_
          refine jg_iconst (pc := 41) X d_4_staleBits_41 ?_
          refine jg_iload (pc := 42) X d_4_staleBits_42 3 rfl ?_
          refine jg_ishl (pc := 44) X d_4_staleBits_44 ?_
          refine jg_ior (pc := 45) X d_4_staleBits_45 ?_
          refine jg_istore_n (pc := 46) X [(3, jI (jOr v3 (jShl 1 v4))), (1, jr Z v1), (2, jr Z v2), (4, jI v4)] d_4_staleBits_46 (by decide) rfl ?_
          refine jg_iinc (pc := 47) X [(4, jI (v4 + 1)), (3, jI (jOr v3 (jShl 1 v4))), (1, jr Z v1), (2, jr Z v2)] d_4_staleBits_47 3 rfl (by decide) rfl ?_
          refine jg_goto (tgt := 5) (pc := 50) X d_4_staleBits_50 (by decide) ?_
          have r15 : jRng (v4 + 1) := by (unfold jRng; exact ⟨by (have z0 : jRng v4 := rv4; have z1 : jRng x1 := r3; unfold jRng at z0 z1; omega), by (have z0 : jRng v4 := rv4; have z1 : jRng x1 := r3; unfold jRng at z0 z1; omega)⟩)
          refine jg_sub [2, 3, 1, 0] rfl ?_
          exact ih5 _ _ (jOr_rng _ _) r15 h
        · refine jg_iinc (pc := 47) X [(4, jI (v4 + 1)), (1, jr Z v1), (2, jr Z v2), (3, jI v3)] d_4_staleBits_47 3 rfl (by decide) rfl ?_
          refine jg_goto (tgt := 5) (pc := 50) X d_4_staleBits_50 (by decide) ?_
          have r16 : jRng (v4 + 1) := by (unfold jRng; exact ⟨by (have z0 : jRng v4 := rv4; have z1 : jRng x1 := r3; unfold jRng at z0 z1; omega), by (have z0 : jRng v4 := rv4; have z1 : jRng x1 := r3; unfold jRng at z0 z1; omega)⟩)
          refine jg_sub [1, 2, 3, 0] rfl ?_
          exact ih5 _ _ rv3 r16 h
  obtain ⟨N, h⟩ := h
  refine jg_sub [3, 4, 1, 0] rfl ?_
  exact jl5   N _ _ (⟨by decide, by decide⟩ : jRng 0) (⟨by decide, by decide⟩ : jRng 0) h
set_option maxHeartbeats 4000000 in
set_option maxRecDepth 100000 in
theorem m_11_stale {l : Launch} {Z : jE} {n : Nat} {C : jC} {v1 : Int} {ex : String → jC → Prop} {post : Int → Prop} (rv1 : jRng v1) (hw0 : jWF n C) (h : wp_11_stale v1 C ex post) : jXi l y_11_stale prog_1_method_27_code 2 (.int) q_11_stale Z n C [jr Z 0, jI v1] ex (fun x C9 => C9 = C ∧ post x) := by
  have hn := hw0.2.2.1
  unfold wp_11_stale at h
  refine jXi_of (lv0 := [(0, jr Z 0), (1, jI v1)]) (by decide) (Nat.le_of_ble_eq_true rfl) rfl ?_
  intro p e s m args below meth c A sz X hAe hr hlocks htab
  refine jg_aload_n (pc := 0) X d_11_stale_0 0 rfl ?_
  refine jgf_11_3 (pc := 1) X (jl_0_11 hn) kw_339 d_11_stale_1 ?_
  refine jg_aload_n (pc := 4) X d_11_stale_4 0 rfl ?_
  refine jgf_11_2 (pc := 5) X (jl_0_11 hn) kw_338 d_11_stale_5 ?_
  refine jg_aload_n (pc := 8) X d_11_stale_8 0 rfl ?_
  refine jg_iload_n (pc := 9) X d_11_stale_9 1 rfl ?_
  refine jg_pxcallVr (pc := 10) X hAe htab hlocks (m_11_viewNumbered rv1 hw0 h) jM_11_viewNumbered kw_772 (jl_0_11 hn) rfl rfl rfl rfl rfl (Nat.le_of_ble_eq_true rfl) d_11_stale_10 ⟨(Nat.le_of_ble_eq_true rfl), (Nat.le_of_ble_eq_true rfl)⟩ ⟨(Nat.le_of_ble_eq_true rfl), (Nat.le_of_ble_eq_true rfl)⟩ ⟨(Nat.le_of_ble_eq_true rfl), (Nat.le_of_ble_eq_true rfl)⟩ (fun x1 h => ?_)
  obtain ⟨t5, h⟩ := h
  refine jg_eqst (congrArg (· :: _) (jn_pos t5.1)) ?_
  refine jg_pcallVi (pc := 13) X (m_4_staleBits (jl_35_8 hn) t5 hw0 h) jM_4_staleBits kw_1232 (jl_339_4 hn) rfl rfl rfl rfl rfl (Nat.le_of_ble_eq_true rfl) d_11_stale_13 ⟨(Nat.le_of_ble_eq_true rfl), (Nat.le_of_ble_eq_true rfl)⟩ ⟨(Nat.le_of_ble_eq_true rfl), (Nat.le_of_ble_eq_true rfl)⟩ (fun x6 r8 h => ?_)
  refine jg_ret_x ?_
  exact jg_ireturn (pc := 16) X hAe hlocks hr d_11_stale_16 ⟨(Nat.le_of_ble_eq_true rfl), (Nat.le_of_ble_eq_true rfl)⟩ rfl r8 hw0 ⟨rfl, h⟩
set_option maxHeartbeats 4000000 in
set_option maxRecDepth 100000 in
theorem m_4_pendingBits {l : Launch} {Z : jE} {n : Nat} {C : jC} {v1 : Int} {v2 : Int} {post : Int → Prop} (tv1 : jT n v1 8) (tv2 : jT n v2 10) (hw0 : jWF n C) (h : wp_4_pendingBits v1 v2 C post) : jCi l y_4_pendingBits prog_6_method_4_code 7 (.int) q_4_pendingBits Z n C [jr Z 339, jr Z v1, jr Z v2] (fun x C9 => C9 = C ∧ post x) := by
  have hn := hw0.2.2.1
  unfold wp_4_pendingBits at h
  refine jCi_of (lv0 := [(0, jr Z 339), (1, jr Z v1), (2, jr Z v2)]) (by decide) (Nat.le_of_ble_eq_true rfl) rfl ?_
  intro p e s m args below meth c A sz X hAe hr hlocks
  refine jg_iconst (pc := 0) X d_4_pendingBits_0 ?_
  refine jg_istore_n (pc := 1) X [(3, jI 0), (0, jr Z 339), (1, jr Z v1), (2, jr Z v2)] d_4_pendingBits_1 (by decide) rfl ?_
  refine jg_aload_n (pc := 2) X d_4_pendingBits_2 2 rfl ?_
  refine jgfN_8_0 (pc := 3) X tv1 kn_289 d_4_pendingBits_3 ?_
  refine jgfN_7_5 (pc := 6) X (jc_st_0 hn tv1) kn_186 d_4_pendingBits_6 ?_
  refine jg_astore (pc := 9) X [(4, jr Z ((v1 + 1) + 5)), (3, jI 0), (0, jr Z 339), (1, jr Z v1), (2, jr Z v2)] d_4_pendingBits_9 (by decide) rfl ?_
  refine jg_iconst (pc := 11) X d_4_pendingBits_11 ?_
  refine jg_istore (pc := 12) X [(5, jI 0), (4, jr Z ((v1 + 1) + 5)), (3, jI 0), (0, jr Z 339), (1, jr Z v1), (2, jr Z v2)] d_4_pendingBits_12 (by decide) rfl ?_
  have hw : jWF n C := hw0
  have jl14 : ∀ (v4 : Int) (tv4 : jT n v4 6) (N : Nat) (v3 : Int) (v5 : Int) (rv3 : jRng v3) (rv5 : jRng v5), jI2 (wp_4_pendingBits_14 v1 v2 v4 C post) N v3 v5 → jG p l e q_4_pendingBits s m args below meth c 7 Z A (jws Z n C) 0 0 (MQ below (jQi Z n sz (fun x C9 => C9 = C ∧ post x)) args s q_4_pendingBits.cells q_4_pendingBits.slots (jA Z n sz)) 14 [(1, jr Z v1), (2, jr Z v2), (4, jr Z v4), (3, jI v3), (5, jI v5)] [] := by
    intro v4 tv4 N
    have hn := hw0.2.2.1
    induction N with
    | zero => intro v3 v5 rv3 rv5 h; exact h.elim
    | succ N ih14 =>
      intro v3 v5 rv3 rv5 h
      have h : wp_4_pendingBits_14 v1 v2 v4 C post (jI2 (wp_4_pendingBits_14 v1 v2 v4 C post) N) v3 v5 := h
      generalize jI2 (wp_4_pendingBits_14 v1 v2 v4 C post) N = k14 at h ih14
      unfold wp_4_pendingBits_14 at h
      refine jg_iload (pc := 14) X d_4_pendingBits_14 4 rfl ?_
      refine jg_aload (pc := 16) X d_4_pendingBits_16 2 rfl ?_
      refine jg_pcallVi (pc := 18) X (m_6_length tv4 hw h) jM_6_length kw_1174 tv4 rfl rfl rfl rfl rfl (Nat.le_of_ble_eq_true rfl) d_4_pendingBits_18 ⟨(Nat.le_of_ble_eq_true rfl), (Nat.le_of_ble_eq_true rfl)⟩ ⟨(Nat.le_of_ble_eq_true rfl), (Nat.le_of_ble_eq_true rfl)⟩ (fun x1 r3 h => ?_)
      refine jg_icmp_ge (tgt := 74) (pc := 21) X d_4_pendingBits_21 (by decide) rv5 r3 h (fun c5 h => ?_) (fun c5 h => ?_)
      · refine jg_iload_n (pc := 74) X d_4_pendingBits_74 3 rfl ?_
        exact jg_ireturn (pc := 75) X hAe hlocks hr d_4_pendingBits_75 ⟨(Nat.le_of_ble_eq_true rfl), (Nat.le_of_ble_eq_true rfl)⟩ rfl rv3 hw ⟨rfl, h⟩
      · refine jg_aload (pc := 24) X d_4_pendingBits_24 2 rfl ?_
        refine jg_iload (pc := 26) X d_4_pendingBits_26 4 rfl ?_
        refine jg_pcallVi (pc := 28) X (m_6_at tv4 rv5 hw h) jM_6_at kw_1175 tv4 rfl rfl rfl rfl rfl (Nat.le_of_ble_eq_true rfl) d_4_pendingBits_28 ⟨(Nat.le_of_ble_eq_true rfl), (Nat.le_of_ble_eq_true rfl)⟩ ⟨(Nat.le_of_ble_eq_true rfl), (Nat.le_of_ble_eq_true rfl)⟩ (fun x6 r8 h => ?_)
        refine jg_istore (pc := 31) X [(6, jI x6), (1, jr Z v1), (2, jr Z v2), (4, jr Z v4), (3, jI v3), (5, jI v5)] d_4_pendingBits_31 (by decide) rfl ?_
        refine jg_aload_n (pc := 33) X d_4_pendingBits_33 2 rfl ?_
        refine jgfN_10_1 (pc := 34) X tv2 kn_273 d_4_pendingBits_34 ?_
        refine jg_iload (pc := 37) X d_4_pendingBits_37 0 rfl ?_
        refine jg_pcallVi (pc := 39) X (m_6_holds (jc_vi_1 hn tv2) r8 hw h) jM_6_holds kw_1176 (jc_vi_1 hn tv2) rfl rfl rfl rfl rfl (Nat.le_of_ble_eq_true rfl) d_4_pendingBits_39 ⟨(Nat.le_of_ble_eq_true rfl), (Nat.le_of_ble_eq_true rfl)⟩ ⟨(Nat.le_of_ble_eq_true rfl), (Nat.le_of_ble_eq_true rfl)⟩ (fun x10 r12 h => ?_)
        refine jg_if_ne (tgt := 68) (pc := 42) X d_4_pendingBits_42 (by decide) r12 h (fun c14 h => ?_) (fun c14 h => ?_)
        · refine jg_aload_n (pc := 45) X d_4_pendingBits_45 2 rfl ?_
          refine jgfN_10_0 (pc := 46) X tv2 kn_269 d_4_pendingBits_46 ?_
          refine jg_aload_n (pc := 49) X d_4_pendingBits_49 1 rfl ?_
          refine jgfN_8_0 (pc := 50) X tv1 kn_289 d_4_pendingBits_50 ?_
          refine jg_iload (pc := 53) X d_4_pendingBits_53 0 rfl ?_
          refine jg_pcallVi (pc := 55) X (m_2_suits (jc_vi_0 hn tv2) (jc_st_0 hn tv1) r8 hw h) jM_2_suits kw_1236 (jc_vi_0 hn tv2) rfl rfl rfl rfl rfl (Nat.le_of_ble_eq_true rfl) d_4_pendingBits_55 ⟨(Nat.le_of_ble_eq_true rfl), (Nat.le_of_ble_eq_true rfl)⟩ ⟨(Nat.le_of_ble_eq_true rfl), (Nat.le_of_ble_eq_true rfl)⟩ (fun x15 r17 h => ?_)
          refine jg_if_eq (tgt := 68) (pc := 58) X d_4_pendingBits_58 (by decide) r17 h (fun c19 h => ?_) (fun c19 h => ?_)
          · refine jg_iinc (pc := 68) X [(5, jI (v5 + 1)), (6, jI x6), (1, jr Z v1), (2, jr Z v2), (4, jr Z v4), (3, jI v3)] d_4_pendingBits_68 5 rfl (by decide) rfl ?_
            refine jg_goto (tgt := 14) (pc := 71) X d_4_pendingBits_71 (by decide) ?_
            have r20 : jRng (v5 + 1) := by (unfold jRng; exact ⟨by (have z0 : jRng v5 := rv5; have z1 : jRng x1 := r3; unfold jRng at z0 z1; omega), by (have z0 : jRng v5 := rv5; have z1 : jRng x1 := r3; unfold jRng at z0 z1; omega)⟩)
            refine jg_sub [2, 3, 4, 5, 0] rfl ?_
            exact ih14 _ _ rv3 r20 h
          · refine jg_iload_n (pc := 61) X d_4_pendingBits_61 4 rfl ?_
            refine jg_iconst (pc := 62) X d_4_pendingBits_62 ?_
            refine jg_iload (pc := 63) X d_4_pendingBits_63 5 rfl ?_
            refine jg_ishl (pc := 65) X d_4_pendingBits_65 ?_
            refine jg_ior (pc := 66) X d_4_pendingBits_66 ?_
            refine jg_istore_n (pc := 67) X [(3, jI (jOr v3 (jShl 1 v5))), (6, jI x6), (1, jr Z v1), (2, jr Z v2), (4, jr Z v4), (5, jI v5)] d_4_pendingBits_67 (by decide) rfl ?_
            refine jg_iinc (pc := 68) X [(5, jI (v5 + 1)), (3, jI (jOr v3 (jShl 1 v5))), (6, jI x6), (1, jr Z v1), (2, jr Z v2), (4, jr Z v4)] d_4_pendingBits_68 5 rfl (by decide) rfl ?_
            refine jg_goto (tgt := 14) (pc := 71) X d_4_pendingBits_71 (by decide) ?_
            have r21 : jRng (v5 + 1) := by (unfold jRng; exact ⟨by (have z0 : jRng v5 := rv5; have z1 : jRng x1 := r3; unfold jRng at z0 z1; omega), by (have z0 : jRng v5 := rv5; have z1 : jRng x1 := r3; unfold jRng at z0 z1; omega)⟩)
            refine jg_sub [3, 4, 5, 1, 0] rfl ?_
            exact ih14 _ _ (jOr_rng _ _) r21 h
        · refine jg_iinc (pc := 68) X [(5, jI (v5 + 1)), (6, jI x6), (1, jr Z v1), (2, jr Z v2), (4, jr Z v4), (3, jI v3)] d_4_pendingBits_68 5 rfl (by decide) rfl ?_
          refine jg_goto (tgt := 14) (pc := 71) X d_4_pendingBits_71 (by decide) ?_
          have r22 : jRng (v5 + 1) := by (unfold jRng; exact ⟨by (have z0 : jRng v5 := rv5; have z1 : jRng x1 := r3; unfold jRng at z0 z1; omega), by (have z0 : jRng v5 := rv5; have z1 : jRng x1 := r3; unfold jRng at z0 z1; omega)⟩)
          refine jg_sub [2, 3, 4, 5, 0] rfl ?_
          exact ih14 _ _ rv3 r22 h
  obtain ⟨N, h⟩ := h
  refine jg_sub [4, 5, 1, 2, 0] rfl ?_
  exact jl14 _ (jc_sh_5 hn (jc_st_0 hn tv1)) N _ _ (⟨by decide, by decide⟩ : jRng 0) (⟨by decide, by decide⟩ : jRng 0) h
set_option maxHeartbeats 4000000 in
set_option maxRecDepth 100000 in
theorem m_11_pending {l : Launch} {Z : jE} {n : Nat} {C : jC} {v1 : Int} {ex : String → jC → Prop} {post : Int → Prop} (rv1 : jRng v1) (hw0 : jWF n C) (h : wp_11_pending v1 C ex post) : jXi l y_11_pending prog_1_method_28_code 2 (.int) q_11_pending Z n C [jr Z 0, jI v1] ex (fun x C9 => C9 = C ∧ post x) := by
  have hn := hw0.2.2.1
  unfold wp_11_pending at h
  refine jXi_of (lv0 := [(0, jr Z 0), (1, jI v1)]) (by decide) (Nat.le_of_ble_eq_true rfl) rfl ?_
  intro p e s m args below meth c A sz X hAe hr hlocks htab
  refine jg_aload_n (pc := 0) X d_11_pending_0 0 rfl ?_
  refine jgf_11_3 (pc := 1) X (jl_0_11 hn) kw_339 d_11_pending_1 ?_
  refine jg_aload_n (pc := 4) X d_11_pending_4 0 rfl ?_
  refine jgf_11_2 (pc := 5) X (jl_0_11 hn) kw_338 d_11_pending_5 ?_
  refine jg_aload_n (pc := 8) X d_11_pending_8 0 rfl ?_
  refine jg_iload_n (pc := 9) X d_11_pending_9 1 rfl ?_
  refine jg_pxcallVr (pc := 10) X hAe htab hlocks (m_11_viewNumbered rv1 hw0 h) jM_11_viewNumbered kw_772 (jl_0_11 hn) rfl rfl rfl rfl rfl (Nat.le_of_ble_eq_true rfl) d_11_pending_10 ⟨(Nat.le_of_ble_eq_true rfl), (Nat.le_of_ble_eq_true rfl)⟩ ⟨(Nat.le_of_ble_eq_true rfl), (Nat.le_of_ble_eq_true rfl)⟩ ⟨(Nat.le_of_ble_eq_true rfl), (Nat.le_of_ble_eq_true rfl)⟩ (fun x1 h => ?_)
  obtain ⟨t5, h⟩ := h
  refine jg_eqst (congrArg (· :: _) (jn_pos t5.1)) ?_
  refine jg_pcallVi (pc := 13) X (m_4_pendingBits (jl_35_8 hn) t5 hw0 h) jM_4_pendingBits kw_1244 (jl_339_4 hn) rfl rfl rfl rfl rfl (Nat.le_of_ble_eq_true rfl) d_11_pending_13 ⟨(Nat.le_of_ble_eq_true rfl), (Nat.le_of_ble_eq_true rfl)⟩ ⟨(Nat.le_of_ble_eq_true rfl), (Nat.le_of_ble_eq_true rfl)⟩ (fun x6 r8 h => ?_)
  refine jg_ret_x ?_
  exact jg_ireturn (pc := 16) X hAe hlocks hr d_11_pending_16 ⟨(Nat.le_of_ble_eq_true rfl), (Nat.le_of_ble_eq_true rfl)⟩ rfl r8 hw0 ⟨rfl, h⟩
set_option maxHeartbeats 4000000 in
set_option maxRecDepth 100000 in
theorem m_4_freshPlace {l : Launch} {Z : jE} {n : Nat} {C : jC} {v1 : Int} {v2 : Int} {v3 : Int} {post : Int → jC → Prop} (tv1 : jT n v1 8) (tv2 : jT n v2 10) (rv3 : jRng v3) (hw0 : jWF n C) (h : wp_4_freshPlace v1 v2 v3 C post) : jCi l y_4_freshPlace prog_6_method_5_code 4 (.int) q_4_freshPlace Z n C [jr Z 339, jr Z v1, jr Z v2, jI v3] post := by
  have hn := hw0.2.2.1
  unfold wp_4_freshPlace at h
  refine jCi_of (lv0 := [(0, jr Z 339), (1, jr Z v1), (2, jr Z v2), (3, jI v3)]) (by decide) (Nat.le_of_ble_eq_true rfl) rfl ?_
  intro p e s m args below meth c A sz X hAe hr hlocks
  refine jg_aload_n (pc := 0) X d_4_freshPlace_0 1 rfl ?_
  refine jg_aload_n (pc := 1) X d_4_freshPlace_1 2 rfl ?_
  refine jgfN_10_0 (pc := 2) X tv2 kn_269 d_4_freshPlace_2 ?_
  refine jg_aload_n (pc := 5) X d_4_freshPlace_5 0 rfl ?_
  refine jgf_4_0 (pc := 6) X (jl_339_4 hn) kw_313 d_4_freshPlace_6 ?_
  refine jg_callVv (pc := 9) X (m_8_freshInto tv1 (jc_vi_0 hn tv2) (jl_340_6 hn) hw0 h) jM_8_freshInto kw_1173 tv1 rfl rfl rfl rfl rfl (Nat.le_of_ble_eq_true rfl) d_4_freshPlace_9 ⟨(Nat.le_of_ble_eq_true rfl), (Nat.le_of_ble_eq_true rfl)⟩ ⟨(Nat.le_of_ble_eq_true rfl), (Nat.le_of_ble_eq_true rfl)⟩ (fun C2 w4 h => ?_)
  refine jg_aload_n (pc := 12) X d_4_freshPlace_12 0 rfl ?_
  refine jgf_4_0 (pc := 13) X (jl_339_4 hn) kw_313 d_4_freshPlace_13 ?_
  refine jg_iload_n (pc := 16) X d_4_freshPlace_16 3 rfl ?_
  refine jg_pcallVi (pc := 17) X (m_6_placeOf (jl_340_6 hn) rv3 w4 h) jM_6_placeOf kw_1259 (jl_340_6 hn) rfl rfl rfl rfl rfl (Nat.le_of_ble_eq_true rfl) d_4_freshPlace_17 ⟨(Nat.le_of_ble_eq_true rfl), (Nat.le_of_ble_eq_true rfl)⟩ ⟨(Nat.le_of_ble_eq_true rfl), (Nat.le_of_ble_eq_true rfl)⟩ (fun x5 r7 h => ?_)
  exact jg_ireturn (pc := 20) X hAe hlocks hr d_4_freshPlace_20 ⟨(Nat.le_of_ble_eq_true rfl), (Nat.le_of_ble_eq_true rfl)⟩ rfl r7 w4 h
set_option maxHeartbeats 4000000 in
set_option maxRecDepth 100000 in
theorem m_11_rank {l : Launch} {Z : jE} {n : Nat} {C : jC} {v1 : Int} {v2 : Int} {ex : String → jC → Prop} {post : Int → jC → Prop} (rv1 : jRng v1) (rv2 : jRng v2) (hw0 : jWF n C) (h : wp_11_rank v1 v2 C ex post) : jXi l y_11_rank prog_1_method_29_code 4 (.int) q_11_rank Z n C [jr Z 0, jI v1, jI v2] ex post := by
  have hn := hw0.2.2.1
  unfold wp_11_rank at h
  refine jXi_of (lv0 := [(0, jr Z 0), (1, jI v1), (2, jI v2)]) (by decide) (Nat.le_of_ble_eq_true rfl) rfl ?_
  intro p e s m args below meth c A sz X hAe hr hlocks htab
  refine jg_aload_n (pc := 0) X d_11_rank_0 0 rfl ?_
  refine jg_iload_n (pc := 1) X d_11_rank_1 1 rfl ?_
  refine jg_pxcallVr (pc := 2) X hAe htab hlocks (m_11_viewNumbered rv1 hw0 h) jM_11_viewNumbered kw_772 (jl_0_11 hn) rfl rfl rfl rfl rfl (Nat.le_of_ble_eq_true rfl) d_11_rank_2 ⟨(Nat.le_of_ble_eq_true rfl), (Nat.le_of_ble_eq_true rfl)⟩ ⟨(Nat.le_of_ble_eq_true rfl), (Nat.le_of_ble_eq_true rfl)⟩ ⟨(Nat.le_of_ble_eq_true rfl), (Nat.le_of_ble_eq_true rfl)⟩ (fun x1 h => ?_)
  obtain ⟨t5, h⟩ := h
  refine jg_eqst (congrArg (· :: _) (jn_pos t5.1)) ?_
  refine jg_astore_n (pc := 5) X [(3, jr Z x1), (0, jr Z 0), (1, jI v1), (2, jI v2)] d_11_rank_5 (by decide) rfl ?_
  refine jg_aload_n (pc := 6) X d_11_rank_6 1 rfl ?_
  refine jgf_11_3 (pc := 7) X (jl_0_11 hn) kw_339 d_11_rank_7 ?_
  refine jg_aload_n (pc := 10) X d_11_rank_10 1 rfl ?_
  refine jgf_11_2 (pc := 11) X (jl_0_11 hn) kw_338 d_11_rank_11 ?_
  refine jg_aload_n (pc := 14) X d_11_rank_14 0 rfl ?_
  refine jg_aload_n (pc := 15) X d_11_rank_15 1 rfl ?_
  refine jg_iload_n (pc := 16) X d_11_rank_16 3 rfl ?_
  refine jg_pxcallVi (pc := 17) X hAe htab hlocks (m_11_seatOfKey rv2 hw0 h) jM_11_seatOfKey kw_920 (jl_0_11 hn) rfl rfl rfl rfl rfl (Nat.le_of_ble_eq_true rfl) d_11_rank_17 ⟨(Nat.le_of_ble_eq_true rfl), (Nat.le_of_ble_eq_true rfl)⟩ ⟨(Nat.le_of_ble_eq_true rfl), (Nat.le_of_ble_eq_true rfl)⟩ ⟨(Nat.le_of_ble_eq_true rfl), (Nat.le_of_ble_eq_true rfl)⟩ (fun x6 r8 h => ?_)
  refine jg_callVi (pc := 20) X (m_4_freshPlace (jl_35_8 hn) t5 r8 hw0 h) jM_4_freshPlace kw_1255 (jl_339_4 hn) rfl rfl rfl rfl rfl (Nat.le_of_ble_eq_true rfl) d_11_rank_20 ⟨(Nat.le_of_ble_eq_true rfl), (Nat.le_of_ble_eq_true rfl)⟩ ⟨(Nat.le_of_ble_eq_true rfl), (Nat.le_of_ble_eq_true rfl)⟩ (fun x10 C11 r12 w13 h => ?_)
  refine jg_ret_x ?_
  exact jg_ireturn (pc := 23) X hAe hlocks hr d_11_rank_23 ⟨(Nat.le_of_ble_eq_true rfl), (Nat.le_of_ble_eq_true rfl)⟩ rfl r12 w13 h
set_option maxHeartbeats 4000000 in
set_option maxRecDepth 100000 in
theorem m_4_longestBelow {l : Launch} {Z : jE} {n : Nat} {C : jC} {v1 : Int} {post : Int → Prop} (rv1 : jRng v1) (hw0 : jWF n C) (h : wp_4_longestBelow v1 C post) : jCi l y_4_longestBelow prog_6_method_7_code 4 (.int) q_4_longestBelow Z n C [jr Z 339, jI v1] (fun x C9 => C9 = C ∧ post x) := by
  have hn := hw0.2.2.1
  unfold wp_4_longestBelow at h
  refine jCi_of (lv0 := [(0, jr Z 339), (1, jI v1)]) (by decide) (Nat.le_of_ble_eq_true rfl) rfl ?_
  intro p e s m args below meth c A sz X hAe hr hlocks
  refine jg_iconst (pc := 0) X d_4_longestBelow_0 ?_
  refine jg_istore_n (pc := 1) X [(2, jI 0), (0, jr Z 339), (1, jI v1)] d_4_longestBelow_1 (by decide) rfl ?_
  refine jg_iconst (pc := 2) X d_4_longestBelow_2 ?_
  refine jg_istore_n (pc := 3) X [(3, jI 0), (2, jI 0), (0, jr Z 339), (1, jI v1)] d_4_longestBelow_3 (by decide) rfl ?_
  have hw : jWF n C := hw0
  have jl4 : ∀  (N : Nat) (v2 : Int) (v3 : Int) (rv2 : jRng v2) (rv3 : jRng v3), jI2 (wp_4_longestBelow_4 v1 C post) N v2 v3 → jG p l e q_4_longestBelow s m args below meth c 4 Z A (jws Z n C) 0 0 (MQ below (jQi Z n sz (fun x C9 => C9 = C ∧ post x)) args s q_4_longestBelow.cells q_4_longestBelow.slots (jA Z n sz)) 4 [(0, jr Z 339), (1, jI v1), (2, jI v2), (3, jI v3)] [] := by
    intro   N
    have hn := hw0.2.2.1
    induction N with
    | zero => intro v2 v3 rv2 rv3 h; exact h.elim
    | succ N ih4 =>
      intro v2 v3 rv2 rv3 h
      have h : wp_4_longestBelow_4 v1 C post (jI2 (wp_4_longestBelow_4 v1 C post) N) v2 v3 := h
      generalize jI2 (wp_4_longestBelow_4 v1 C post) N = k4 at h ih4
      unfold wp_4_longestBelow_4 at h
      refine jg_iload_n (pc := 4) X d_4_longestBelow_4 3 rfl ?_
      refine jg_iload_n (pc := 5) X d_4_longestBelow_5 1 rfl ?_
      refine jg_icmp_ge (tgt := 47) (pc := 6) X d_4_longestBelow_6 (by decide) rv3 rv1 h (fun c1 h => ?_) (fun c1 h => ?_)
      · refine jg_iload_n (pc := 47) X d_4_longestBelow_47 2 rfl ?_
        exact jg_ireturn (pc := 48) X hAe hlocks hr d_4_longestBelow_48 ⟨(Nat.le_of_ble_eq_true rfl), (Nat.le_of_ble_eq_true rfl)⟩ rfl rv2 hw ⟨rfl, h⟩
      · refine jg_iload_n (pc := 9) X d_4_longestBelow_9 1 rfl ?_
        refine jg_bipush (pc := 10) X d_4_longestBelow_10 rfl ?_
        refine jg_icmp_ge (tgt := 47) (pc := 12) X d_4_longestBelow_12 (by decide) rv1 (⟨by decide, by decide⟩ : jRng 24) h (fun c2 h => ?_) (fun c2 h => ?_)
        · refine jg_iload_n (pc := 47) X d_4_longestBelow_47 2 rfl ?_
          exact jg_ireturn (pc := 48) X hAe hlocks hr d_4_longestBelow_48 ⟨(Nat.le_of_ble_eq_true rfl), (Nat.le_of_ble_eq_true rfl)⟩ rfl rv2 hw ⟨rfl, h⟩
        · refine jg_aload_n (pc := 15) X d_4_longestBelow_15 0 rfl ?_
          refine jgf_4_1 (pc := 16) X (jl_339_4 hn) kw_314 d_4_longestBelow_16 ?_
          refine jg_iload_n (pc := 19) X d_4_longestBelow_19 3 rfl ?_
          obtain ⟨b3, h⟩ := h
          have b4 : v3 < 24 := by (have z0 : jRng v3 := rv3; have z1 : jRng v1 := rv1; unfold jRng at z0 z1; omega)
          refine jg_iaload (len := 24) (pc := 20) X d_4_longestBelow_20 (jl_342_1024 hn) (fun _ => rfl) (by decide) b3 b4 ?_
          refine jg_aload_n (pc := 21) X d_4_longestBelow_21 0 rfl ?_
          refine jgf_4_1 (pc := 22) X (jl_339_4 hn) kw_314 d_4_longestBelow_22 ?_
          refine jg_iload_n (pc := 25) X d_4_longestBelow_25 1 rfl ?_
          have b5 : 0 ≤ v1 := by (have z0 : jRng v1 := rv1; have z1 : jRng v3 := rv3; unfold jRng at z0 z1; omega)
          have b6 : v1 < 24 := by (have z0 : jRng v1 := rv1; have z1 : jRng v3 := rv3; unfold jRng at z0 z1; omega)
          refine jg_iaload (len := 24) (pc := 26) X d_4_longestBelow_26 (jl_342_1024 hn) (fun _ => rfl) (by decide) b5 b6 ?_
          refine jg_icmp_ge (tgt := 41) (pc := 27) X d_4_longestBelow_27 (by decide) (hw.1 _ _) (hw.1 _ _) h (fun c7 h => ?_) (fun c7 h => ?_)
          · have c7 : (C 342 v1) ≤ (C 342 v3) := c7
            refine jg_iinc (pc := 41) X [(3, jI (v3 + 1)), (0, jr Z 339), (1, jI v1), (2, jI v2)] d_4_longestBelow_41 3 rfl (by decide) rfl ?_
            refine jg_goto (tgt := 4) (pc := 44) X d_4_longestBelow_44 (by decide) ?_
            have r8 : jRng (v3 + 1) := by (unfold jRng; exact ⟨by (have z0 : jRng v3 := rv3; have z1 : jRng v1 := rv1; unfold jRng at z0 z1; omega), by (have z0 : jRng v3 := rv3; have z1 : jRng v1 := rv1; unfold jRng at z0 z1; omega)⟩)
            refine jg_sub [1, 2, 3, 0] rfl ?_
            exact ih4 _ _ rv2 r8 h
          · have c7 : ¬ ((C 342 v1) ≤ (C 342 v3)) := c7
            refine jg_iload_n (pc := 30) X d_4_longestBelow_30 2 rfl ?_
            refine jg_aload_n (pc := 31) X d_4_longestBelow_31 0 rfl ?_
            refine jgf_4_2 (pc := 32) X (jl_339_4 hn) kw_315 d_4_longestBelow_32 ?_
            refine jg_iload_n (pc := 35) X d_4_longestBelow_35 3 rfl ?_
            have b9 : 0 ≤ v3 := by (have z0 : jRng v3 := rv3; have z1 : jRng v1 := rv1; unfold jRng at z0 z1; omega)
            have b10 : v3 < 24 := by (have z0 : jRng v3 := rv3; have z1 : jRng v1 := rv1; unfold jRng at z0 z1; omega)
            refine jg_iaload (len := 24) (pc := 36) X d_4_longestBelow_36 (jl_343_1024 hn) (fun _ => rfl) (by decide) b9 b10 ?_
            have r11 : jRng (max v2 (C 343 v3)) := jrng_max rv2 (hw.1 _ _)
            refine jg_max (pc := 37) X kw_1275 d_4_longestBelow_37 kw_max1 kw_ma kw_max2 ⟨(Nat.le_of_ble_eq_true rfl), (Nat.le_of_ble_eq_true rfl), (Nat.le_of_ble_eq_true rfl), (Nat.le_of_ble_eq_true rfl)⟩ rv2 (hw.1 _ _) ?_
            refine jg_istore_n (pc := 40) X [(2, jI (max v2 (C 343 v3))), (0, jr Z 339), (1, jI v1), (3, jI v3)] d_4_longestBelow_40 (by decide) rfl ?_
            refine jg_iinc (pc := 41) X [(3, jI (v3 + 1)), (2, jI (max v2 (C 343 v3))), (0, jr Z 339), (1, jI v1)] d_4_longestBelow_41 3 rfl (by decide) rfl ?_
            refine jg_goto (tgt := 4) (pc := 44) X d_4_longestBelow_44 (by decide) ?_
            have r12 : jRng (v3 + 1) := by (unfold jRng; exact ⟨by (have z0 : jRng v3 := rv3; have z1 : jRng v1 := rv1; unfold jRng at z0 z1; omega), by (have z0 : jRng v3 := rv3; have z1 : jRng v1 := rv1; unfold jRng at z0 z1; omega)⟩)
            refine jg_sub [2, 3, 1, 0] rfl ?_
            exact ih4 _ _ r11 r12 h
  obtain ⟨N, h⟩ := h
  refine jg_sub [2, 3, 1, 0] rfl ?_
  exact jl4   N _ _ (⟨by decide, by decide⟩ : jRng 0) (⟨by decide, by decide⟩ : jRng 0) h
set_option maxHeartbeats 4000000 in
set_option maxRecDepth 100000 in
theorem m_4_fewestMoves {l : Launch} {Z : jE} {n : Nat} {C : jC} {v1 : Int} {v2 : Int} {post : Int → jC → Prop} (tv1 : jT n v1 8) (tv2 : jT n v2 10) (hw0 : jWF n C) (h : wp_4_fewestMoves v1 v2 C post) : jCi l y_4_fewestMoves prog_6_method_6_code 7 (.int) q_4_fewestMoves Z n C [jr Z 339, jr Z v1, jr Z v2] post := by
  have hn := hw0.2.2.1
  unfold wp_4_fewestMoves at h
  refine jCi_of (lv0 := [(0, jr Z 339), (1, jr Z v1), (2, jr Z v2)]) (by decide) (Nat.le_of_ble_eq_true rfl) rfl ?_
  intro p e s m args below meth c A sz X hAe hr hlocks
  refine jg_aload_n (pc := 0) X d_4_fewestMoves_0 1 rfl ?_
  refine jg_aload_n (pc := 1) X d_4_fewestMoves_1 2 rfl ?_
  refine jgfN_10_0 (pc := 2) X tv2 kn_269 d_4_fewestMoves_2 ?_
  refine jg_aload_n (pc := 5) X d_4_fewestMoves_5 0 rfl ?_
  refine jgf_4_0 (pc := 6) X (jl_339_4 hn) kw_313 d_4_fewestMoves_6 ?_
  refine jg_callVv (pc := 9) X (m_8_freshInto tv1 (jc_vi_0 hn tv2) (jl_340_6 hn) hw0 h) jM_8_freshInto kw_1173 tv1 rfl rfl rfl rfl rfl (Nat.le_of_ble_eq_true rfl) d_4_fewestMoves_9 ⟨(Nat.le_of_ble_eq_true rfl), (Nat.le_of_ble_eq_true rfl)⟩ ⟨(Nat.le_of_ble_eq_true rfl), (Nat.le_of_ble_eq_true rfl)⟩ (fun C2 w4 h => ?_)
  refine jg_iconst (pc := 12) X d_4_fewestMoves_12 ?_
  refine jg_istore_n (pc := 13) X [(3, jI 0), (0, jr Z 339), (1, jr Z v1), (2, jr Z v2)] d_4_fewestMoves_13 (by decide) rfl ?_
  refine jg_iconst (pc := 14) X d_4_fewestMoves_14 ?_
  refine jg_istore (pc := 15) X [(4, jI 0), (3, jI 0), (0, jr Z 339), (1, jr Z v1), (2, jr Z v2)] d_4_fewestMoves_15 (by decide) rfl ?_
  refine jg_iconst (pc := 17) X d_4_fewestMoves_17 ?_
  refine jg_istore (pc := 18) X [(5, jI 0), (4, jI 0), (3, jI 0), (0, jr Z 339), (1, jr Z v1), (2, jr Z v2)] d_4_fewestMoves_18 (by decide) rfl ?_
  have jl20 : ∀  (N : Nat) (v3 : Int) (v4 : Int) (v5 : Int) (C : jC) (rv3 : jRng v3) (rv4 : jRng v4) (rv5 : jRng v5) (hw : jWF n C), jI4 (wp_4_fewestMoves_20 v2 post) N v3 v4 v5 C → jG p l e q_4_fewestMoves s m args below meth c 7 Z A (jws Z n C) 0 0 (MQ below (jQi Z n sz post) args s q_4_fewestMoves.cells q_4_fewestMoves.slots (jA Z n sz)) 20 [(0, jr Z 339), (2, jr Z v2), (3, jI v3), (4, jI v4), (5, jI v5)] [] := by
    intro   N
    have hn := hw0.2.2.1
    induction N with
    | zero => intro v3 v4 v5 C rv3 rv4 rv5 hw h; exact h.elim
    | succ N ih20 =>
      intro v3 v4 v5 C rv3 rv4 rv5 hw h
      have h : wp_4_fewestMoves_20 v2 post (jI4 (wp_4_fewestMoves_20 v2 post) N) v3 v4 v5 C := h
      generalize jI4 (wp_4_fewestMoves_20 v2 post) N = k20 at h ih20
      unfold wp_4_fewestMoves_20 at h
      refine jg_iload (pc := 20) X d_4_fewestMoves_20 4 rfl ?_
      refine jg_aload_n (pc := 22) X d_4_fewestMoves_22 1 rfl ?_
      refine jgfN_10_1 (pc := 23) X tv2 kn_273 d_4_fewestMoves_23 ?_
      refine jg_pcallVi (pc := 26) X (m_6_length (jc_vi_1 hn tv2) hw h) jM_6_length kw_1174 (jc_vi_1 hn tv2) rfl rfl rfl rfl rfl (Nat.le_of_ble_eq_true rfl) d_4_fewestMoves_26 ⟨(Nat.le_of_ble_eq_true rfl), (Nat.le_of_ble_eq_true rfl)⟩ ⟨(Nat.le_of_ble_eq_true rfl), (Nat.le_of_ble_eq_true rfl)⟩ (fun x5 r7 h => ?_)
      refine jg_icmp_ge (tgt := 105) (pc := 29) X d_4_fewestMoves_29 (by decide) rv5 r7 h (fun c9 h => ?_) (fun c9 h => ?_)
      · refine jg_iload_n (pc := 105) X d_4_fewestMoves_105 2 rfl ?_
        refine jg_iload (pc := 106) X d_4_fewestMoves_106 3 rfl ?_
        refine jg_isub (pc := 108) X d_4_fewestMoves_108 ?_
        obtain ⟨r10, h⟩ := h
        exact jg_ireturn (pc := 109) X hAe hlocks hr d_4_fewestMoves_109 ⟨(Nat.le_of_ble_eq_true rfl), (Nat.le_of_ble_eq_true rfl)⟩ rfl r10 hw h
      · refine jg_aload_n (pc := 32) X d_4_fewestMoves_32 0 rfl ?_
        refine jgf_4_0 (pc := 33) X (jl_339_4 hn) kw_313 d_4_fewestMoves_33 ?_
        refine jg_aload_n (pc := 36) X d_4_fewestMoves_36 1 rfl ?_
        refine jgfN_10_1 (pc := 37) X tv2 kn_273 d_4_fewestMoves_37 ?_
        refine jg_iload (pc := 40) X d_4_fewestMoves_40 4 rfl ?_
        refine jg_pcallVi (pc := 42) X (m_6_at (jc_vi_1 hn tv2) rv5 hw h) jM_6_at kw_1175 (jc_vi_1 hn tv2) rfl rfl rfl rfl rfl (Nat.le_of_ble_eq_true rfl) d_4_fewestMoves_42 ⟨(Nat.le_of_ble_eq_true rfl), (Nat.le_of_ble_eq_true rfl)⟩ ⟨(Nat.le_of_ble_eq_true rfl), (Nat.le_of_ble_eq_true rfl)⟩ (fun x11 r13 h => ?_)
        refine jg_pcallVi (pc := 45) X (m_6_placeOf (jl_340_6 hn) r13 hw h) jM_6_placeOf kw_1259 (jl_340_6 hn) rfl rfl rfl rfl rfl (Nat.le_of_ble_eq_true rfl) d_4_fewestMoves_45 ⟨(Nat.le_of_ble_eq_true rfl), (Nat.le_of_ble_eq_true rfl)⟩ ⟨(Nat.le_of_ble_eq_true rfl), (Nat.le_of_ble_eq_true rfl)⟩ (fun x15 r17 h => ?_)
        refine jg_istore (pc := 48) X [(6, jI x15), (0, jr Z 339), (2, jr Z v2), (3, jI v3), (4, jI v4), (5, jI v5)] d_4_fewestMoves_48 (by decide) rfl ?_
        refine jg_iload (pc := 50) X d_4_fewestMoves_50 0 rfl ?_
        refine jg_iconst (pc := 52) X d_4_fewestMoves_52 ?_
        refine jg_icmp_eq (tgt := 99) (pc := 53) X d_4_fewestMoves_53 (by decide) r17 (⟨by decide, by decide⟩ : jRng (-1)) h (fun c19 h => ?_) (fun c19 h => ?_)
        · refine jg_iinc (pc := 99) X [(5, jI (v5 + 1)), (6, jI x15), (0, jr Z 339), (2, jr Z v2), (3, jI v3), (4, jI v4)] d_4_fewestMoves_99 5 rfl (by decide) rfl ?_
          refine jg_goto (tgt := 20) (pc := 102) X d_4_fewestMoves_102 (by decide) ?_
          have r20 : jRng (v5 + 1) := by (unfold jRng; exact ⟨by (have z0 : jRng v5 := rv5; have z1 : jRng x5 := r7; unfold jRng at z0 z1; omega), by (have z0 : jRng v5 := rv5; have z1 : jRng x5 := r7; unfold jRng at z0 z1; omega)⟩)
          refine jg_sub [2, 3, 4, 5, 0] rfl ?_
          exact ih20 _ _ _ _ rv3 rv4 r20 hw h
        · refine jg_iload_n (pc := 56) X d_4_fewestMoves_56 3 rfl ?_
          refine jg_bipush (pc := 57) X d_4_fewestMoves_57 rfl ?_
          refine jg_icmp_ge (tgt := 99) (pc := 59) X d_4_fewestMoves_59 (by decide) rv3 (⟨by decide, by decide⟩ : jRng 24) h (fun c21 h => ?_) (fun c21 h => ?_)
          · refine jg_iinc (pc := 99) X [(5, jI (v5 + 1)), (6, jI x15), (0, jr Z 339), (2, jr Z v2), (3, jI v3), (4, jI v4)] d_4_fewestMoves_99 5 rfl (by decide) rfl ?_
            refine jg_goto (tgt := 20) (pc := 102) X d_4_fewestMoves_102 (by decide) ?_
            have r22 : jRng (v5 + 1) := by (unfold jRng; exact ⟨by (have z0 : jRng v5 := rv5; have z1 : jRng x5 := r7; unfold jRng at z0 z1; omega), by (have z0 : jRng v5 := rv5; have z1 : jRng x5 := r7; unfold jRng at z0 z1; omega)⟩)
            refine jg_sub [2, 3, 4, 5, 0] rfl ?_
            exact ih20 _ _ _ _ rv3 rv4 r22 hw h
          · refine jg_aload_n (pc := 62) X d_4_fewestMoves_62 1 rfl ?_
            refine jgf_4_1 (pc := 63) X (jl_339_4 hn) kw_314 d_4_fewestMoves_63 ?_
            refine jg_iload_n (pc := 66) X d_4_fewestMoves_66 3 rfl ?_
            refine jg_iload (pc := 67) X d_4_fewestMoves_67 0 rfl ?_
            obtain ⟨b23, h⟩ := h
            have b24 : v3 < 24 := by (have z0 : jRng v3 := rv3; unfold jRng at z0; omega)
            refine jg_iastore (len := 24) (pc := 69) X d_4_fewestMoves_69 (jl_342_1024 hn) (fun _ => rfl) (by decide) b23 b24 ?_
            have w25 := jWF.u (k := v3) (v := x15) hw (jl_342_1024 hn) (by decide) r17
            refine jg_aload_n (pc := 70) X d_4_fewestMoves_70 1 rfl ?_
            refine jgf_4_2 (pc := 71) X (jl_339_4 hn) kw_315 d_4_fewestMoves_71 ?_
            refine jg_iload_n (pc := 74) X d_4_fewestMoves_74 3 rfl ?_
            refine jg_iconst (pc := 75) X d_4_fewestMoves_75 ?_
            refine jg_aload_n (pc := 76) X d_4_fewestMoves_76 1 rfl ?_
            refine jg_iload_n (pc := 77) X d_4_fewestMoves_77 3 rfl ?_
            refine jg_pcallVi (pc := 78) X (m_4_longestBelow rv3 w25 h) jM_4_longestBelow kw_1271 (jl_339_4 hn) rfl rfl rfl rfl rfl (Nat.le_of_ble_eq_true rfl) d_4_fewestMoves_78 ⟨(Nat.le_of_ble_eq_true rfl), (Nat.le_of_ble_eq_true rfl)⟩ ⟨(Nat.le_of_ble_eq_true rfl), (Nat.le_of_ble_eq_true rfl)⟩ (fun x26 r28 h => ?_)
            refine jg_iadd (pc := 81) X d_4_fewestMoves_81 ?_
            obtain ⟨r32, h⟩ := h
            have b30 : 0 ≤ v3 := by (have z0 : jRng v3 := rv3; unfold jRng at z0; omega)
            have b31 : v3 < 24 := by (have z0 : jRng v3 := rv3; unfold jRng at z0; omega)
            refine jg_iastore (len := 24) (pc := 82) X d_4_fewestMoves_82 (jl_343_1024 hn) (fun _ => rfl) (by decide) b30 b31 ?_
            have w33 := jWF.u (k := v3) (v := (1 + x26)) w25 (jl_343_1024 hn) (by decide) r32
            refine jg_iload (pc := 83) X d_4_fewestMoves_83 4 rfl ?_
            refine jg_aload_n (pc := 85) X d_4_fewestMoves_85 1 rfl ?_
            refine jgf_4_2 (pc := 86) X (jl_339_4 hn) kw_315 d_4_fewestMoves_86 ?_
            refine jg_iload_n (pc := 89) X d_4_fewestMoves_89 3 rfl ?_
            have b34 : 0 ≤ v3 := by (have z0 : jRng v3 := rv3; unfold jRng at z0; omega)
            have b35 : v3 < 24 := by (have z0 : jRng v3 := rv3; unfold jRng at z0; omega)
            refine jg_iaload (len := 24) (pc := 90) X d_4_fewestMoves_90 (jl_343_1024 hn) (fun _ => rfl) (by decide) b34 b35 ?_
            have r36 : jRng (max v4 ((jU (jU C 342 v3 x15) 343 v3 (1 + x26)) 343 v3)) := jrng_max rv4 (w33.1 _ _)
            refine jg_max (pc := 91) X kw_1275 d_4_fewestMoves_91 kw_max1 kw_ma kw_max2 ⟨(Nat.le_of_ble_eq_true rfl), (Nat.le_of_ble_eq_true rfl), (Nat.le_of_ble_eq_true rfl), (Nat.le_of_ble_eq_true rfl)⟩ rv4 (w33.1 _ _) ?_
            refine jg_istore (pc := 94) X [(4, jI (max v4 ((jU (jU C 342 v3 x15) 343 v3 (1 + x26)) 343 v3))), (6, jI x15), (0, jr Z 339), (2, jr Z v2), (3, jI v3), (5, jI v5)] d_4_fewestMoves_94 (by decide) rfl ?_
            refine jg_iinc (pc := 96) X [(3, jI (v3 + 1)), (4, jI (max v4 ((jU (jU C 342 v3 x15) 343 v3 (1 + x26)) 343 v3))), (6, jI x15), (0, jr Z 339), (2, jr Z v2), (5, jI v5)] d_4_fewestMoves_96 4 rfl (by decide) rfl ?_
            refine jg_iinc (pc := 99) X [(5, jI (v5 + 1)), (3, jI (v3 + 1)), (4, jI (max v4 ((jU (jU C 342 v3 x15) 343 v3 (1 + x26)) 343 v3))), (6, jI x15), (0, jr Z 339), (2, jr Z v2)] d_4_fewestMoves_99 5 rfl (by decide) rfl ?_
            refine jg_goto (tgt := 20) (pc := 102) X d_4_fewestMoves_102 (by decide) ?_
            have r37 : jRng (v3 + 1) := by (unfold jRng; exact ⟨by (have z0 : jRng v3 := rv3; unfold jRng at z0; omega), by (have z0 : jRng v3 := rv3; unfold jRng at z0; omega)⟩)
            have r38 : jRng (v5 + 1) := by (unfold jRng; exact ⟨by (have z0 : jRng v5 := rv5; have z1 : jRng x5 := r7; unfold jRng at z0 z1; omega), by (have z0 : jRng v5 := rv5; have z1 : jRng x5 := r7; unfold jRng at z0 z1; omega)⟩)
            refine jg_sub [4, 5, 1, 2, 0] rfl ?_
            exact ih20 _ _ _ _ r37 r36 r38 w33 h
  obtain ⟨N, h⟩ := h
  refine jg_sub [3, 5, 2, 1, 0] rfl ?_
  exact jl20   N _ _ _ _ (⟨by decide, by decide⟩ : jRng 0) (⟨by decide, by decide⟩ : jRng 0) (⟨by decide, by decide⟩ : jRng 0) w4 h
set_option maxHeartbeats 4000000 in
set_option maxRecDepth 100000 in
theorem m_11_moves {l : Launch} {Z : jE} {n : Nat} {C : jC} {v1 : Int} {ex : String → jC → Prop} {post : Int → jC → Prop} (rv1 : jRng v1) (hw0 : jWF n C) (h : wp_11_moves v1 C ex post) : jXi l y_11_moves prog_1_method_30_code 2 (.int) q_11_moves Z n C [jr Z 0, jI v1] ex post := by
  have hn := hw0.2.2.1
  unfold wp_11_moves at h
  refine jXi_of (lv0 := [(0, jr Z 0), (1, jI v1)]) (by decide) (Nat.le_of_ble_eq_true rfl) rfl ?_
  intro p e s m args below meth c A sz X hAe hr hlocks htab
  refine jg_aload_n (pc := 0) X d_11_moves_0 0 rfl ?_
  refine jgf_11_3 (pc := 1) X (jl_0_11 hn) kw_339 d_11_moves_1 ?_
  refine jg_aload_n (pc := 4) X d_11_moves_4 0 rfl ?_
  refine jgf_11_2 (pc := 5) X (jl_0_11 hn) kw_338 d_11_moves_5 ?_
  refine jg_aload_n (pc := 8) X d_11_moves_8 0 rfl ?_
  refine jg_iload_n (pc := 9) X d_11_moves_9 1 rfl ?_
  refine jg_pxcallVr (pc := 10) X hAe htab hlocks (m_11_viewNumbered rv1 hw0 h) jM_11_viewNumbered kw_772 (jl_0_11 hn) rfl rfl rfl rfl rfl (Nat.le_of_ble_eq_true rfl) d_11_moves_10 ⟨(Nat.le_of_ble_eq_true rfl), (Nat.le_of_ble_eq_true rfl)⟩ ⟨(Nat.le_of_ble_eq_true rfl), (Nat.le_of_ble_eq_true rfl)⟩ ⟨(Nat.le_of_ble_eq_true rfl), (Nat.le_of_ble_eq_true rfl)⟩ (fun x1 h => ?_)
  obtain ⟨t5, h⟩ := h
  refine jg_eqst (congrArg (· :: _) (jn_pos t5.1)) ?_
  refine jg_callVi (pc := 13) X (m_4_fewestMoves (jl_35_8 hn) t5 hw0 h) jM_4_fewestMoves kw_1267 (jl_339_4 hn) rfl rfl rfl rfl rfl (Nat.le_of_ble_eq_true rfl) d_11_moves_13 ⟨(Nat.le_of_ble_eq_true rfl), (Nat.le_of_ble_eq_true rfl)⟩ ⟨(Nat.le_of_ble_eq_true rfl), (Nat.le_of_ble_eq_true rfl)⟩ (fun x6 C7 r8 w9 h => ?_)
  refine jg_ret_x ?_
  exact jg_ireturn (pc := 16) X hAe hlocks hr d_11_moves_16 ⟨(Nat.le_of_ble_eq_true rfl), (Nat.le_of_ble_eq_true rfl)⟩ rfl r8 w9 h
set_option maxHeartbeats 4000000 in
set_option maxRecDepth 100000 in
theorem m_4_pairsTurned {l : Launch} {Z : jE} {n : Nat} {C : jC} {v1 : Int} {v2 : Int} {post : Int → Prop} (tv1 : jT n v1 6) (tv2 : jT n v2 6) (hw0 : jWF n C) (h : wp_4_pairsTurned v1 v2 C post) : jCi l y_4_pairsTurned prog_6_method_8_code 8 (.int) q_4_pairsTurned Z n C [jr Z 339, jr Z v1, jr Z v2] (fun x C9 => C9 = C ∧ post x) := by
  have hn := hw0.2.2.1
  unfold wp_4_pairsTurned at h
  refine jCi_of (lv0 := [(0, jr Z 339), (1, jr Z v1), (2, jr Z v2)]) (by decide) (Nat.le_of_ble_eq_true rfl) rfl ?_
  intro p e s m args below meth c A sz X hAe hr hlocks
  refine jg_iconst (pc := 0) X d_4_pairsTurned_0 ?_
  refine jg_istore_n (pc := 1) X [(3, jI 0), (0, jr Z 339), (1, jr Z v1), (2, jr Z v2)] d_4_pairsTurned_1 (by decide) rfl ?_
  refine jg_iconst (pc := 2) X d_4_pairsTurned_2 ?_
  refine jg_istore (pc := 3) X [(4, jI 0), (3, jI 0), (0, jr Z 339), (1, jr Z v1), (2, jr Z v2)] d_4_pairsTurned_3 (by decide) rfl ?_
  have hw : jWF n C := hw0
  have jl5 : ∀  (N : Nat) (v3 : Int) (v4 : Int) (rv3 : jRng v3) (rv4 : jRng v4), jI2 (wp_4_pairsTurned_5 v1 v2 C post) N v3 v4 → jG p l e q_4_pairsTurned s m args below meth c 8 Z A (jws Z n C) 0 0 (MQ below (jQi Z n sz (fun x C9 => C9 = C ∧ post x)) args s q_4_pairsTurned.cells q_4_pairsTurned.slots (jA Z n sz)) 5 [(1, jr Z v1), (2, jr Z v2), (3, jI v3), (4, jI v4)] [] := by
    intro   N
    have hn := hw0.2.2.1
    induction N with
    | zero => intro v3 v4 rv3 rv4 h; exact h.elim
    | succ N ih5 =>
      intro v3 v4 rv3 rv4 h
      have h : wp_4_pairsTurned_5 v1 v2 C post (jI2 (wp_4_pairsTurned_5 v1 v2 C post) N) v3 v4 := h
      generalize jI2 (wp_4_pairsTurned_5 v1 v2 C post) N = k5 at h ih5
      unfold wp_4_pairsTurned_5 at h
      refine jg_iload (pc := 5) X d_4_pairsTurned_5 3 rfl ?_
      refine jg_aload_n (pc := 7) X d_4_pairsTurned_7 0 rfl ?_
      refine jg_pcallVi (pc := 8) X (m_6_length tv1 hw h) jM_6_length kw_1174 tv1 rfl rfl rfl rfl rfl (Nat.le_of_ble_eq_true rfl) d_4_pairsTurned_8 ⟨(Nat.le_of_ble_eq_true rfl), (Nat.le_of_ble_eq_true rfl)⟩ ⟨(Nat.le_of_ble_eq_true rfl), (Nat.le_of_ble_eq_true rfl)⟩ (fun x1 r3 h => ?_)
      refine jg_icmp_ge (tgt := 87) (pc := 11) X d_4_pairsTurned_11 (by decide) rv4 r3 h (fun c5 h => ?_) (fun c5 h => ?_)
      · refine jg_iload_n (pc := 87) X d_4_pairsTurned_87 2 rfl ?_
        exact jg_ireturn (pc := 88) X hAe hlocks hr d_4_pairsTurned_88 ⟨(Nat.le_of_ble_eq_true rfl), (Nat.le_of_ble_eq_true rfl)⟩ rfl rv3 hw ⟨rfl, h⟩
      · refine jg_aload_n (pc := 14) X d_4_pairsTurned_14 1 rfl ?_
        refine jg_aload_n (pc := 15) X d_4_pairsTurned_15 0 rfl ?_
        refine jg_iload (pc := 16) X d_4_pairsTurned_16 3 rfl ?_
        refine jg_pcallVi (pc := 18) X (m_6_at tv1 rv4 hw h) jM_6_at kw_1175 tv1 rfl rfl rfl rfl rfl (Nat.le_of_ble_eq_true rfl) d_4_pairsTurned_18 ⟨(Nat.le_of_ble_eq_true rfl), (Nat.le_of_ble_eq_true rfl)⟩ ⟨(Nat.le_of_ble_eq_true rfl), (Nat.le_of_ble_eq_true rfl)⟩ (fun x6 r8 h => ?_)
        refine jg_pcallVi (pc := 21) X (m_6_placeOf tv2 r8 hw h) jM_6_placeOf kw_1259 tv2 rfl rfl rfl rfl rfl (Nat.le_of_ble_eq_true rfl) d_4_pairsTurned_21 ⟨(Nat.le_of_ble_eq_true rfl), (Nat.le_of_ble_eq_true rfl)⟩ ⟨(Nat.le_of_ble_eq_true rfl), (Nat.le_of_ble_eq_true rfl)⟩ (fun x10 r12 h => ?_)
        refine jg_istore (pc := 24) X [(5, jI x10), (1, jr Z v1), (2, jr Z v2), (3, jI v3), (4, jI v4)] d_4_pairsTurned_24 (by decide) rfl ?_
        refine jg_iload (pc := 26) X d_4_pairsTurned_26 4 rfl ?_
        refine jg_iconst (pc := 28) X d_4_pairsTurned_28 ?_
        refine jg_iadd (pc := 29) X d_4_pairsTurned_29 ?_
        refine jg_istore (pc := 30) X [(6, jI (v4 + 1)), (5, jI x10), (1, jr Z v1), (2, jr Z v2), (3, jI v3), (4, jI v4)] d_4_pairsTurned_30 (by decide) rfl ?_
        have r14 : jRng (v4 + 1) := by (unfold jRng; exact ⟨by (have z0 : jRng v4 := rv4; have z1 : jRng x1 := r3; unfold jRng at z0 z1; omega), by (have z0 : jRng v4 := rv4; have z1 : jRng x1 := r3; unfold jRng at z0 z1; omega)⟩)
        have jl32 : ∀ (v5 : Int) (rv5 : jRng v5) (N : Nat) (v3 : Int) (v6 : Int) (rv3 : jRng v3) (rv6 : jRng v6), jI2 (wp_4_pairsTurned_32 v1 v2 v4 v5 C post k5) N v3 v6 → jG p l e q_4_pairsTurned s m args below meth c 8 Z A (jws Z n C) 0 0 (MQ below (jQi Z n sz (fun x C9 => C9 = C ∧ post x)) args s q_4_pairsTurned.cells q_4_pairsTurned.slots (jA Z n sz)) 32 [(1, jr Z v1), (2, jr Z v2), (4, jI v4), (5, jI v5), (3, jI v3), (6, jI v6)] [] := by
          intro v5 rv5 N
          have hn := hw0.2.2.1
          induction N with
          | zero => intro v3 v6 rv3 rv6 h; exact h.elim
          | succ N ih32 =>
            intro v3 v6 rv3 rv6 h
            have h : wp_4_pairsTurned_32 v1 v2 v4 v5 C post k5 (jI2 (wp_4_pairsTurned_32 v1 v2 v4 v5 C post k5) N) v3 v6 := h
            generalize jI2 (wp_4_pairsTurned_32 v1 v2 v4 v5 C post k5) N = k32 at h ih32
            unfold wp_4_pairsTurned_32 at h
            refine jg_iload (pc := 32) X d_4_pairsTurned_32 3 rfl ?_
            refine jg_iconst (pc := 34) X d_4_pairsTurned_34 ?_
            refine jg_icmp_eq (tgt := 81) (pc := 35) X d_4_pairsTurned_35 (by decide) rv5 (⟨by decide, by decide⟩ : jRng (-1)) h (fun c15 h => ?_) (fun c15 h => ?_)
            · refine jg_iinc (pc := 81) X [(4, jI (v4 + 1)), (1, jr Z v1), (2, jr Z v2), (5, jI v5), (3, jI v3), (6, jI v6)] d_4_pairsTurned_81 2 rfl (by decide) rfl ?_
              refine jg_goto (tgt := 5) (pc := 84) X d_4_pairsTurned_84 (by decide) ?_
              obtain ⟨r16, h⟩ := h
              refine jg_sub [1, 2, 4, 0] rfl ?_
              exact ih5 _ _ rv3 r16 h
            · refine jg_iload (pc := 38) X d_4_pairsTurned_38 5 rfl ?_
              refine jg_aload_n (pc := 40) X d_4_pairsTurned_40 0 rfl ?_
              refine jg_pcallVi (pc := 41) X (m_6_length tv1 hw h) jM_6_length kw_1174 tv1 rfl rfl rfl rfl rfl (Nat.le_of_ble_eq_true rfl) d_4_pairsTurned_41 ⟨(Nat.le_of_ble_eq_true rfl), (Nat.le_of_ble_eq_true rfl)⟩ ⟨(Nat.le_of_ble_eq_true rfl), (Nat.le_of_ble_eq_true rfl)⟩ (fun x17 r19 h => ?_)
              refine jg_icmp_ge (tgt := 81) (pc := 44) X d_4_pairsTurned_44 (by decide) rv6 r19 h (fun c21 h => ?_) (fun c21 h => ?_)
              · refine jg_iinc (pc := 81) X [(4, jI (v4 + 1)), (1, jr Z v1), (2, jr Z v2), (5, jI v5), (3, jI v3), (6, jI v6)] d_4_pairsTurned_81 2 rfl (by decide) rfl ?_
                refine jg_goto (tgt := 5) (pc := 84) X d_4_pairsTurned_84 (by decide) ?_
                obtain ⟨r22, h⟩ := h
                refine jg_sub [1, 2, 4, 0] rfl ?_
                exact ih5 _ _ rv3 r22 h
              · refine jg_aload_n (pc := 47) X d_4_pairsTurned_47 1 rfl ?_
                refine jg_aload_n (pc := 48) X d_4_pairsTurned_48 0 rfl ?_
                refine jg_iload (pc := 49) X d_4_pairsTurned_49 5 rfl ?_
                refine jg_pcallVi (pc := 51) X (m_6_at tv1 rv6 hw h) jM_6_at kw_1175 tv1 rfl rfl rfl rfl rfl (Nat.le_of_ble_eq_true rfl) d_4_pairsTurned_51 ⟨(Nat.le_of_ble_eq_true rfl), (Nat.le_of_ble_eq_true rfl)⟩ ⟨(Nat.le_of_ble_eq_true rfl), (Nat.le_of_ble_eq_true rfl)⟩ (fun x23 r25 h => ?_)
                refine jg_pcallVi (pc := 54) X (m_6_placeOf tv2 r25 hw h) jM_6_placeOf kw_1259 tv2 rfl rfl rfl rfl rfl (Nat.le_of_ble_eq_true rfl) d_4_pairsTurned_54 ⟨(Nat.le_of_ble_eq_true rfl), (Nat.le_of_ble_eq_true rfl)⟩ ⟨(Nat.le_of_ble_eq_true rfl), (Nat.le_of_ble_eq_true rfl)⟩ (fun x27 r29 h => ?_)
                refine jg_istore (pc := 57) X [(7, jI x27), (1, jr Z v1), (2, jr Z v2), (4, jI v4), (5, jI v5), (3, jI v3), (6, jI v6)] d_4_pairsTurned_57 (by decide) rfl ?_
                refine jg_iload (pc := 59) X d_4_pairsTurned_59 0 rfl ?_
                refine jg_iconst (pc := 61) X d_4_pairsTurned_61 ?_
                refine jg_icmp_eq (tgt := 75) (pc := 62) X d_4_pairsTurned_62 (by decide) r29 (⟨by decide, by decide⟩ : jRng (-1)) h (fun c31 h => ?_) (fun c31 h => ?_)
                · refine jg_iinc (pc := 75) X [(6, jI (v6 + 1)), (7, jI x27), (1, jr Z v1), (2, jr Z v2), (4, jI v4), (5, jI v5), (3, jI v3)] d_4_pairsTurned_75 6 rfl (by decide) rfl ?_
                  refine jg_goto (tgt := 32) (pc := 78) X d_4_pairsTurned_78 (by decide) ?_
                  have r32 : jRng (v6 + 1) := by (unfold jRng; exact ⟨by (have z0 : jRng v6 := rv6; have z1 : jRng x17 := r19; unfold jRng at z0 z1; omega), by (have z0 : jRng v6 := rv6; have z1 : jRng x17 := r19; unfold jRng at z0 z1; omega)⟩)
                  refine jg_sub [2, 3, 4, 5, 6, 0] rfl ?_
                  exact ih32 _ _ rv3 r32 h
                · refine jg_iload (pc := 65) X d_4_pairsTurned_65 0 rfl ?_
                  refine jg_iload (pc := 67) X d_4_pairsTurned_67 4 rfl ?_
                  refine jg_icmp_ge (tgt := 75) (pc := 69) X d_4_pairsTurned_69 (by decide) r29 rv5 h (fun c33 h => ?_) (fun c33 h => ?_)
                  · refine jg_iinc (pc := 75) X [(6, jI (v6 + 1)), (7, jI x27), (1, jr Z v1), (2, jr Z v2), (4, jI v4), (5, jI v5), (3, jI v3)] d_4_pairsTurned_75 6 rfl (by decide) rfl ?_
                    refine jg_goto (tgt := 32) (pc := 78) X d_4_pairsTurned_78 (by decide) ?_
                    have r34 : jRng (v6 + 1) := by (unfold jRng; exact ⟨by (have z0 : jRng v6 := rv6; have z1 : jRng x17 := r19; unfold jRng at z0 z1; omega), by (have z0 : jRng v6 := rv6; have z1 : jRng x17 := r19; unfold jRng at z0 z1; omega)⟩)
                    refine jg_sub [2, 3, 4, 5, 6, 0] rfl ?_
                    exact ih32 _ _ rv3 r34 h
                  · refine jg_iinc (pc := 72) X [(3, jI (v3 + 1)), (7, jI x27), (1, jr Z v1), (2, jr Z v2), (4, jI v4), (5, jI v5), (6, jI v6)] d_4_pairsTurned_72 5 rfl (by decide) rfl ?_
                    refine jg_iinc (pc := 75) X [(6, jI (v6 + 1)), (3, jI (v3 + 1)), (7, jI x27), (1, jr Z v1), (2, jr Z v2), (4, jI v4), (5, jI v5)] d_4_pairsTurned_75 6 rfl (by decide) rfl ?_
                    refine jg_goto (tgt := 32) (pc := 78) X d_4_pairsTurned_78 (by decide) ?_
                    obtain ⟨r35, h⟩ := h
                    have r36 : jRng (v6 + 1) := by (unfold jRng; exact ⟨by (have z0 : jRng v6 := rv6; have z1 : jRng x17 := r19; unfold jRng at z0 z1; omega), by (have z0 : jRng v6 := rv6; have z1 : jRng x17 := r19; unfold jRng at z0 z1; omega)⟩)
                    refine jg_sub [3, 4, 5, 6, 1, 0] rfl ?_
                    exact ih32 _ _ r35 r36 h
        obtain ⟨N, h⟩ := h
        refine jg_sub [2, 3, 5, 1, 4, 0] rfl ?_
        exact jl32 _ r12 N _ _ rv3 r14 h
  obtain ⟨N, h⟩ := h
  refine jg_sub [3, 4, 1, 0] rfl ?_
  exact jl5   N _ _ (⟨by decide, by decide⟩ : jRng 0) (⟨by decide, by decide⟩ : jRng 0) h
set_option maxHeartbeats 4000000 in
set_option maxRecDepth 100000 in
theorem m_11_unlike {l : Launch} {Z : jE} {n : Nat} {C : jC} {v1 : Int} {v2 : Int} {ex : String → jC → Prop} {post : Int → Prop} (rv1 : jRng v1) (rv2 : jRng v2) (hw0 : jWF n C) (h : wp_11_unlike v1 v2 C ex post) : jXi l y_11_unlike prog_1_method_31_code 5 (.int) q_11_unlike Z n C [jr Z 0, jI v1, jI v2] ex (fun x C9 => C9 = C ∧ post x) := by
  have hn := hw0.2.2.1
  unfold wp_11_unlike at h
  refine jXi_of (lv0 := [(0, jr Z 0), (1, jI v1), (2, jI v2)]) (by decide) (Nat.le_of_ble_eq_true rfl) rfl ?_
  intro p e s m args below meth c A sz X hAe hr hlocks htab
  refine jg_aload_n (pc := 0) X d_11_unlike_0 0 rfl ?_
  refine jg_iload_n (pc := 1) X d_11_unlike_1 1 rfl ?_
  refine jg_pxcallVr (pc := 2) X hAe htab hlocks (m_11_viewNumbered rv1 hw0 h) jM_11_viewNumbered kw_772 (jl_0_11 hn) rfl rfl rfl rfl rfl (Nat.le_of_ble_eq_true rfl) d_11_unlike_2 ⟨(Nat.le_of_ble_eq_true rfl), (Nat.le_of_ble_eq_true rfl)⟩ ⟨(Nat.le_of_ble_eq_true rfl), (Nat.le_of_ble_eq_true rfl)⟩ ⟨(Nat.le_of_ble_eq_true rfl), (Nat.le_of_ble_eq_true rfl)⟩ (fun x1 h => ?_)
  obtain ⟨t5, h⟩ := h
  refine jg_eqst (congrArg (· :: _) (jn_pos t5.1)) ?_
  refine jg_astore_n (pc := 5) X [(3, jr Z x1), (0, jr Z 0), (1, jI v1), (2, jI v2)] d_11_unlike_5 (by decide) rfl ?_
  refine jg_aload_n (pc := 6) X d_11_unlike_6 1 rfl ?_
  refine jg_iload_n (pc := 7) X d_11_unlike_7 3 rfl ?_
  refine jg_pxcallVr (pc := 8) X hAe htab hlocks (m_11_viewNumbered rv2 hw0 h) jM_11_viewNumbered kw_772 (jl_0_11 hn) rfl rfl rfl rfl rfl (Nat.le_of_ble_eq_true rfl) d_11_unlike_8 ⟨(Nat.le_of_ble_eq_true rfl), (Nat.le_of_ble_eq_true rfl)⟩ ⟨(Nat.le_of_ble_eq_true rfl), (Nat.le_of_ble_eq_true rfl)⟩ ⟨(Nat.le_of_ble_eq_true rfl), (Nat.le_of_ble_eq_true rfl)⟩ (fun x6 h => ?_)
  obtain ⟨t10, h⟩ := h
  refine jg_eqst (congrArg (· :: _) (jn_pos t10.1)) ?_
  refine jg_astore (pc := 11) X [(4, jr Z x6), (3, jr Z x1), (0, jr Z 0), (1, jI v1), (2, jI v2)] d_11_unlike_11 (by decide) rfl ?_
  refine jg_iload_n (pc := 13) X d_11_unlike_13 3 rfl ?_
  refine jg_iload_n (pc := 14) X d_11_unlike_14 4 rfl ?_
  refine jg_icmp_ne (tgt := 26) (pc := 15) X d_11_unlike_15 (by decide) rv1 rv2 h (fun c11 h => ?_) (fun c11 h => ?_)
  · exact jg_throw (pc := 18) X hAe htab hlocks (by decide) kw_612 kw_22 th_58 tg_58 d_11_unlike_18 d_11_unlike_21 d_11_unlike_22 d_11_unlike_25 ⟨(Nat.le_of_ble_eq_true rfl), (Nat.le_of_ble_eq_true rfl), (Nat.le_of_ble_eq_true rfl), (Nat.le_of_ble_eq_true rfl)⟩ ⟨(Nat.le_of_ble_eq_true rfl), (Nat.le_of_ble_eq_true rfl)⟩ hw0 h
  · refine jg_aload_n (pc := 26) X d_11_unlike_26 2 rfl ?_
    refine jgf_11_3 (pc := 27) X (jl_0_11 hn) kw_339 d_11_unlike_27 ?_
    refine jg_aload_n (pc := 30) X d_11_unlike_30 1 rfl ?_
    refine jgfN_10_1 (pc := 31) X t5 kn_275 d_11_unlike_31 ?_
    refine jg_aload (pc := 34) X d_11_unlike_34 0 rfl ?_
    refine jgfN_10_1 (pc := 36) X t10 kn_275 d_11_unlike_36 ?_
    refine jg_pcallVi (pc := 39) X (m_4_pairsTurned (jc_vi_1 hn t5) (jc_vi_1 hn t10) hw0 h) jM_4_pairsTurned kw_1283 (jl_339_4 hn) rfl rfl rfl rfl rfl (Nat.le_of_ble_eq_true rfl) d_11_unlike_39 ⟨(Nat.le_of_ble_eq_true rfl), (Nat.le_of_ble_eq_true rfl)⟩ ⟨(Nat.le_of_ble_eq_true rfl), (Nat.le_of_ble_eq_true rfl)⟩ (fun x12 r14 h => ?_)
    refine jg_ret_x ?_
    exact jg_ireturn (pc := 42) X hAe hlocks hr d_11_unlike_42 ⟨(Nat.le_of_ble_eq_true rfl), (Nat.le_of_ble_eq_true rfl)⟩ rfl r14 hw0 ⟨rfl, h⟩
set_option maxHeartbeats 4000000 in
set_option maxRecDepth 100000 in
theorem m_4_isTold {l : Launch} {Z : jE} {n : Nat} {C : jC} {v1 : Int} {v2 : Int} {v3 : Int} {v4 : Int} {post : Int → Prop} (tv1 : jT n v1 7) (tv2 : jT n v2 6) (rv3 : jRng v3) (rv4 : jRng v4) (hw0 : jWF n C) (h : wp_4_isTold v1 v2 v3 v4 C post) : jCi l y_4_isTold prog_6_method_13_code 9 (.boolean) q_4_isTold Z n C [jr Z 339, jr Z v1, jr Z v2, jI v3, jI v4] (fun x C9 => C9 = C ∧ post x) := by
  have hn := hw0.2.2.1
  unfold wp_4_isTold at h
  refine jCi_of (lv0 := [(0, jr Z 339), (1, jr Z v1), (2, jr Z v2), (3, jI v3), (4, jI v4)]) (by decide) (Nat.le_of_ble_eq_true rfl) rfl ?_
  intro p e s m args below meth c A sz X hAe hr hlocks
  refine jg_iconst (pc := 0) X d_4_isTold_0 ?_
  refine jg_istore (pc := 1) X [(5, jI 1), (0, jr Z 339), (1, jr Z v1), (2, jr Z v2), (3, jI v3), (4, jI v4)] d_4_isTold_1 (by decide) rfl ?_
  have hw : jWF n C := hw0
  have jl3 : ∀  (N : Nat) (v5 : Int) (rv5 : jRng v5), jI1 (wp_4_isTold_3 v1 v2 v3 v4 C post) N v5 → jG p l e q_4_isTold s m args below meth c 9 Z A (jws Z n C) 0 0 (MQ below (jQi Z n sz (fun x C9 => C9 = C ∧ post x)) args s q_4_isTold.cells q_4_isTold.slots (jA Z n sz)) 3 [(0, jr Z 339), (1, jr Z v1), (2, jr Z v2), (3, jI v3), (4, jI v4), (5, jI v5)] [] := by
    intro   N
    have hn := hw0.2.2.1
    induction N with
    | zero => intro v5 rv5 h; exact h.elim
    | succ N ih3 =>
      intro v5 rv5 h
      have h : wp_4_isTold_3 v1 v2 v3 v4 C post (jI1 (wp_4_isTold_3 v1 v2 v3 v4 C post) N) v5 := h
      generalize jI1 (wp_4_isTold_3 v1 v2 v3 v4 C post) N = k3 at h ih3
      unfold wp_4_isTold_3 at h
      have jb80 : ∀ (v5 : Int) (v8 : Int) (rv5 : jRng v5) (rv8 : jRng v8), wp_4_isTold_80 v1 v2 v3 v4 v5 v8 C post k3 → jG p l e q_4_isTold s m args below meth c 9 Z A (jws Z n C) 0 0 (MQ below (jQi Z n sz (fun x C9 => C9 = C ∧ post x)) args s q_4_isTold.cells q_4_isTold.slots (jA Z n sz)) 80 [(0, jr Z 339), (1, jr Z v1), (2, jr Z v2), (3, jI v3), (4, jI v4), (5, jI v5), (8, jI v8)] [] := by
        intro v5 v8 rv5 rv8 h
        unfold wp_4_isTold_80 at h
        refine jg_iload (pc := 80) X d_4_isTold_80 6 rfl ?_
        refine jg_if_ne (tgt := 104) (pc := 82) X d_4_isTold_82 (by decide) rv8 h (fun c1 h => ?_) (fun c1 h => ?_)
        · refine jg_aload_n (pc := 85) X d_4_isTold_85 0 rfl ?_
          refine jgf_4_1 (pc := 86) X (jl_339_4 hn) kw_314 d_4_isTold_86 ?_
          refine jg_iload (pc := 89) X d_4_isTold_89 5 rfl ?_
          refine jg_iconst (pc := 91) X d_4_isTold_91 ?_
          refine jg_isub (pc := 92) X d_4_isTold_92 ?_
          obtain ⟨b2, b3, h⟩ := h
          refine jg_iaload (len := 24) (pc := 93) X d_4_isTold_93 (jl_342_1024 hn) (fun _ => rfl) (by decide) b2 b3 ?_
          refine jg_aload_n (pc := 94) X d_4_isTold_94 0 rfl ?_
          refine jgf_4_1 (pc := 95) X (jl_339_4 hn) kw_314 d_4_isTold_95 ?_
          refine jg_iload (pc := 98) X d_4_isTold_98 5 rfl ?_
          obtain ⟨b4, b5, h⟩ := h
          refine jg_iaload (len := 24) (pc := 100) X d_4_isTold_100 (jl_342_1024 hn) (fun _ => rfl) (by decide) b4 b5 ?_
          refine jg_isub (pc := 101) X d_4_isTold_101 ?_
          refine jg_istore (pc := 102) X [(8, jI ((C 342 (v5 - 1)) - (C 342 v5))), (0, jr Z 339), (1, jr Z v1), (2, jr Z v2), (3, jI v3), (4, jI v4), (5, jI v5)] d_4_isTold_102 (by decide) rfl ?_
          refine jg_iload (pc := 104) X d_4_isTold_104 0 rfl ?_
          obtain ⟨r6, h⟩ := h
          refine jg_if_le (tgt := 111) (pc := 106) X d_4_isTold_106 (by decide) r6 h (fun c7 h => ?_) (fun c7 h => ?_)
          · have c7 : ((C 342 (v5 - 1)) - (C 342 v5)) ≤ 0 := c7
            refine jg_iinc (pc := 111) X [(5, jI (v5 + 1)), (8, jI ((C 342 (v5 - 1)) - (C 342 v5))), (0, jr Z 339), (1, jr Z v1), (2, jr Z v2), (3, jI v3), (4, jI v4)] d_4_isTold_111 6 rfl (by decide) rfl ?_
            refine jg_goto (tgt := 3) (pc := 114) X d_4_isTold_114 (by decide) ?_
            have r8 : jRng (v5 + 1) := by (unfold jRng; exact ⟨by (have z0 : jRng v5 := rv5; unfold jRng at z0; omega), by (have z0 : jRng v5 := rv5; unfold jRng at z0; omega)⟩)
            refine jg_sub [2, 3, 4, 5, 6, 0] rfl ?_
            exact ih3 _ r8 h
          · have c7 : ¬ (((C 342 (v5 - 1)) - (C 342 v5)) ≤ 0) := c7
            refine jg_iconst (pc := 109) X d_4_isTold_109 ?_
            exact jg_ireturn (pc := 110) X hAe hlocks hr d_4_isTold_110 ⟨(Nat.le_of_ble_eq_true rfl), (Nat.le_of_ble_eq_true rfl)⟩ rfl (⟨by decide, by decide⟩ : jRng 0) hw ⟨rfl, h⟩
        · refine jg_iload (pc := 104) X d_4_isTold_104 6 rfl ?_
          refine jg_if_le (tgt := 111) (pc := 106) X d_4_isTold_106 (by decide) rv8 h (fun c9 h => ?_) (fun c9 h => ?_)
          · refine jg_iinc (pc := 111) X [(5, jI (v5 + 1)), (0, jr Z 339), (1, jr Z v1), (2, jr Z v2), (3, jI v3), (4, jI v4), (8, jI v8)] d_4_isTold_111 5 rfl (by decide) rfl ?_
            refine jg_goto (tgt := 3) (pc := 114) X d_4_isTold_114 (by decide) ?_
            obtain ⟨r10, h⟩ := h
            refine jg_sub [1, 2, 3, 4, 5, 0] rfl ?_
            exact ih3 _ r10 h
          · refine jg_iconst (pc := 109) X d_4_isTold_109 ?_
            exact jg_ireturn (pc := 110) X hAe hlocks hr d_4_isTold_110 ⟨(Nat.le_of_ble_eq_true rfl), (Nat.le_of_ble_eq_true rfl)⟩ rfl (⟨by decide, by decide⟩ : jRng 0) hw ⟨rfl, h⟩
      have jb55 : ∀ (s0 : Int) (v5 : Int) (v6 : Int) (v7 : Int) (rs0 : jRng s0) (rv5 : jRng v5) (rv6 : jRng v6) (rv7 : jRng v7), wp_4_isTold_55 s0 v1 v2 v3 v4 v5 v6 v7 C post k3 → jG p l e q_4_isTold s m args below meth c 9 Z A (jws Z n C) 0 0 (MQ below (jQi Z n sz (fun x C9 => C9 = C ∧ post x)) args s q_4_isTold.cells q_4_isTold.slots (jA Z n sz)) 55 [(0, jr Z 339), (1, jr Z v1), (2, jr Z v2), (3, jI v3), (4, jI v4), (5, jI v5), (6, jI v6), (7, jI v7)] [jI s0] := by
        intro s0 v5 v6 v7 rs0 rv5 rv6 rv7 h
        unfold wp_4_isTold_55 at h
        refine jg_istore (pc := 55) X [(8, jI s0), (0, jr Z 339), (1, jr Z v1), (2, jr Z v2), (3, jI v3), (4, jI v4), (5, jI v5), (6, jI v6), (7, jI v7)] d_4_isTold_55 (by decide) rfl ?_
        refine jg_iload (pc := 57) X d_4_isTold_57 0 rfl ?_
        refine jg_if_ne (tgt := 80) (pc := 59) X d_4_isTold_59 (by decide) rs0 h (fun c11 h => ?_) (fun c11 h => ?_)
        · refine jg_iload (pc := 62) X d_4_isTold_62 5 rfl ?_
          refine jg_iconst (pc := 64) X d_4_isTold_64 ?_
          refine jg_icmp_eq (tgt := 80) (pc := 65) X d_4_isTold_65 (by decide) rv4 (⟨by decide, by decide⟩ : jRng (-1)) h (fun c12 h => ?_) (fun c12 h => ?_)
          · refine jg_sub [1, 2, 3, 4, 5, 6, 0] rfl ?_
            exact jb80 _ _ rv5 rs0 h
          · refine jg_aload_n (pc := 68) X d_4_isTold_68 2 rfl ?_
            refine jg_iload (pc := 69) X d_4_isTold_69 5 rfl ?_
            refine jg_iload (pc := 71) X d_4_isTold_71 7 rfl ?_
            refine jg_iload (pc := 73) X d_4_isTold_73 8 rfl ?_
            refine jg_pcallVi (pc := 75) X (m_7_compareBy tv1 rv4 rv6 rv7 hw h) jM_7_compareBy kw_1302 tv1 rfl rfl rfl rfl rfl (Nat.le_of_ble_eq_true rfl) d_4_isTold_75 ⟨(Nat.le_of_ble_eq_true rfl), (Nat.le_of_ble_eq_true rfl)⟩ ⟨(Nat.le_of_ble_eq_true rfl), (Nat.le_of_ble_eq_true rfl)⟩ (fun x13 r15 h => ?_)
            refine jg_istore (pc := 78) X [(8, jI x13), (0, jr Z 339), (1, jr Z v1), (2, jr Z v2), (3, jI v3), (4, jI v4), (5, jI v5), (6, jI v6), (7, jI v7)] d_4_isTold_78 (by decide) rfl ?_
            refine jg_sub [1, 2, 3, 4, 5, 6, 0] rfl ?_
            exact jb80 _ _ rv5 r15 h
        · refine jg_sub [1, 2, 3, 4, 5, 6, 0] rfl ?_
          exact jb80 _ _ rv5 rs0 h
      refine jg_iload (pc := 3) X d_4_isTold_3 5 rfl ?_
      refine jg_aload_n (pc := 5) X d_4_isTold_5 2 rfl ?_
      refine jg_pcallVi (pc := 6) X (m_6_length tv2 hw h) jM_6_length kw_1174 tv2 rfl rfl rfl rfl rfl (Nat.le_of_ble_eq_true rfl) d_4_isTold_6 ⟨(Nat.le_of_ble_eq_true rfl), (Nat.le_of_ble_eq_true rfl)⟩ ⟨(Nat.le_of_ble_eq_true rfl), (Nat.le_of_ble_eq_true rfl)⟩ (fun x17 r19 h => ?_)
      refine jg_icmp_ge (tgt := 117) (pc := 9) X d_4_isTold_9 (by decide) rv5 r19 h (fun c21 h => ?_) (fun c21 h => ?_)
      · refine jg_iconst (pc := 117) X d_4_isTold_117 ?_
        exact jg_ireturn (pc := 118) X hAe hlocks hr d_4_isTold_118 ⟨(Nat.le_of_ble_eq_true rfl), (Nat.le_of_ble_eq_true rfl)⟩ rfl (⟨by decide, by decide⟩ : jRng 1) hw ⟨rfl, h⟩
      · refine jg_iload (pc := 12) X d_4_isTold_12 5 rfl ?_
        refine jg_bipush (pc := 14) X d_4_isTold_14 rfl ?_
        refine jg_icmp_ge (tgt := 117) (pc := 16) X d_4_isTold_16 (by decide) rv5 (⟨by decide, by decide⟩ : jRng 24) h (fun c22 h => ?_) (fun c22 h => ?_)
        · refine jg_iconst (pc := 117) X d_4_isTold_117 ?_
          exact jg_ireturn (pc := 118) X hAe hlocks hr d_4_isTold_118 ⟨(Nat.le_of_ble_eq_true rfl), (Nat.le_of_ble_eq_true rfl)⟩ rfl (⟨by decide, by decide⟩ : jRng 1) hw ⟨rfl, h⟩
        · refine jg_aload_n (pc := 19) X d_4_isTold_19 2 rfl ?_
          refine jg_iload (pc := 20) X d_4_isTold_20 5 rfl ?_
          refine jg_iconst (pc := 22) X d_4_isTold_22 ?_
          refine jg_isub (pc := 23) X d_4_isTold_23 ?_
          obtain ⟨r23, h⟩ := h
          refine jg_pcallVi (pc := 24) X (m_6_at tv2 r23 hw h) jM_6_at kw_1175 tv2 rfl rfl rfl rfl rfl (Nat.le_of_ble_eq_true rfl) d_4_isTold_24 ⟨(Nat.le_of_ble_eq_true rfl), (Nat.le_of_ble_eq_true rfl)⟩ ⟨(Nat.le_of_ble_eq_true rfl), (Nat.le_of_ble_eq_true rfl)⟩ (fun x24 r26 h => ?_)
          refine jg_istore (pc := 27) X [(6, jI x24), (0, jr Z 339), (1, jr Z v1), (2, jr Z v2), (3, jI v3), (4, jI v4), (5, jI v5)] d_4_isTold_27 (by decide) rfl ?_
          refine jg_aload_n (pc := 29) X d_4_isTold_29 3 rfl ?_
          refine jg_iload (pc := 30) X d_4_isTold_30 6 rfl ?_
          refine jg_pcallVi (pc := 32) X (m_6_at tv2 rv5 hw h) jM_6_at kw_1175 tv2 rfl rfl rfl rfl rfl (Nat.le_of_ble_eq_true rfl) d_4_isTold_32 ⟨(Nat.le_of_ble_eq_true rfl), (Nat.le_of_ble_eq_true rfl)⟩ ⟨(Nat.le_of_ble_eq_true rfl), (Nat.le_of_ble_eq_true rfl)⟩ (fun x28 r30 h => ?_)
          refine jg_istore (pc := 35) X [(7, jI x28), (6, jI x24), (0, jr Z 339), (1, jr Z v1), (2, jr Z v2), (3, jI v3), (4, jI v4), (5, jI v5)] d_4_isTold_35 (by decide) rfl ?_
          refine jg_iload_n (pc := 37) X d_4_isTold_37 5 rfl ?_
          refine jg_iconst (pc := 38) X d_4_isTold_38 ?_
          refine jg_icmp_ne (tgt := 46) (pc := 39) X d_4_isTold_39 (by decide) rv3 (⟨by decide, by decide⟩ : jRng (-1)) h (fun c32 h => ?_) (fun c32 h => ?_)
          · refine jg_iconst (pc := 42) X d_4_isTold_42 ?_
            refine jg_goto (tgt := 55) (pc := 43) X d_4_isTold_43 (by decide) ?_
            refine jg_sub [2, 3, 4, 5, 6, 7, 1, 0] rfl ?_
            exact jb55 _ _ _ _ (⟨by decide, by decide⟩ : jRng 0) rv5 r26 r30 h
          · refine jg_aload_n (pc := 46) X d_4_isTold_46 3 rfl ?_
            refine jg_iload_n (pc := 47) X d_4_isTold_47 5 rfl ?_
            refine jg_iload (pc := 48) X d_4_isTold_48 1 rfl ?_
            refine jg_iload (pc := 50) X d_4_isTold_50 0 rfl ?_
            refine jg_pcallVi (pc := 52) X (m_7_compareBy tv1 rv3 r26 r30 hw h) jM_7_compareBy kw_1302 tv1 rfl rfl rfl rfl rfl (Nat.le_of_ble_eq_true rfl) d_4_isTold_52 ⟨(Nat.le_of_ble_eq_true rfl), (Nat.le_of_ble_eq_true rfl)⟩ ⟨(Nat.le_of_ble_eq_true rfl), (Nat.le_of_ble_eq_true rfl)⟩ (fun x33 r35 h => ?_)
            refine jg_sub [2, 3, 4, 5, 6, 7, 1, 0] rfl ?_
            exact jb55 _ _ _ _ r35 rv5 r26 r30 h
  obtain ⟨N, h⟩ := h
  refine jg_sub [1, 2, 3, 4, 5, 0] rfl ?_
  exact jl3   N _ (⟨by decide, by decide⟩ : jRng 1) h

set_option maxHeartbeats 4000000 in
set_option maxRecDepth 100000 in
theorem m_9_readSheet {l : Launch} {Z : jE} {n : Nat} {C : jC} {v2 : Int} {post : Int → jC → Prop} (tv2 : jT n v2 7) (hw0 : jWF n C) (h : wp_9_readSheet v2 C post) : jCi l y_9_readSheet prog_11_method_8_code 4 (.boolean) q_9_readSheet Z n C [jr Z 3, jr Z 1, jr Z v2] post := by
  have hn := hw0.2.2.1
  unfold wp_9_readSheet at h
  refine jCi_of (lv0 := [(0, jr Z 3), (1, jr Z 1), (2, jr Z v2)]) (by decide) (Nat.le_of_ble_eq_true rfl) rfl ?_
  intro p e s m args below meth c A sz X hAe hr hlocks
  refine jg_aload_n (pc := 0) X d_9_readSheet_0 0 rfl ?_
  refine jg_aload_n (pc := 1) X d_9_readSheet_1 2 rfl ?_
  refine jg_callVv (pc := 2) X (m_9_knowColumns tv2 hw0 h) jM_9_knowColumns kw_473 (jl_3_9 hn) rfl rfl rfl rfl rfl (Nat.le_of_ble_eq_true rfl) d_9_readSheet_2 ⟨(Nat.le_of_ble_eq_true rfl), (Nat.le_of_ble_eq_true rfl)⟩ ⟨(Nat.le_of_ble_eq_true rfl), (Nat.le_of_ble_eq_true rfl)⟩ (fun C2 w4 h => ?_)
  refine jg_aload_n (pc := 5) X d_9_readSheet_5 1 rfl ?_
  refine jg_callVi (pc := 6) X (m_5_isOver w4 h) jM_5_isOver kw_478 (jl_1_5 hn) rfl rfl rfl rfl rfl (Nat.le_of_ble_eq_true rfl) d_9_readSheet_6 ⟨(Nat.le_of_ble_eq_true rfl), (Nat.le_of_ble_eq_true rfl)⟩ ⟨(Nat.le_of_ble_eq_true rfl), (Nat.le_of_ble_eq_true rfl)⟩ (fun x5 C6 r7 w8 h => ?_)
  refine jg_if_eq (tgt := 14) (pc := 9) X d_9_readSheet_9 (by decide) r7 h (fun c9 h => ?_) (fun c9 h => ?_)
  · refine jg_iconst (pc := 14) X d_9_readSheet_14 ?_
    refine jg_istore_n (pc := 15) X [(3, jI 0), (0, jr Z 3), (1, jr Z 1), (2, jr Z v2)] d_9_readSheet_15 (by decide) rfl ?_
    have jl16 : ∀  (N : Nat) (v3 : Int) (C : jC) (rv3 : jRng v3) (hw : jWF n C), jI2 (wp_9_readSheet_16 v2 post) N v3 C → jG p l e q_9_readSheet s m args below meth c 4 Z A (jws Z n C) 0 0 (MQ below (jQi Z n sz post) args s q_9_readSheet.cells q_9_readSheet.slots (jA Z n sz)) 16 [(0, jr Z 3), (1, jr Z 1), (2, jr Z v2), (3, jI v3)] [] := by
      intro   N
      have hn := hw0.2.2.1
      induction N with
      | zero => intro v3 C rv3 hw h; exact h.elim
      | succ N ih16 =>
        intro v3 C rv3 hw h
        have h : wp_9_readSheet_16 v2 post (jI2 (wp_9_readSheet_16 v2 post) N) v3 C := h
        generalize jI2 (wp_9_readSheet_16 v2 post) N = k16 at h ih16
        unfold wp_9_readSheet_16 at h
        refine jg_iload_n (pc := 16) X d_9_readSheet_16 3 rfl ?_
        refine jg_bipush (pc := 17) X d_9_readSheet_17 rfl ?_
        refine jg_icmp_ge (tgt := 65) (pc := 19) X d_9_readSheet_19 (by decide) rv3 (⟨by decide, by decide⟩ : jRng 14) h (fun c10 h => ?_) (fun c10 h => ?_)
        · refine jg_aload_n (pc := 65) X d_9_readSheet_65 1 rfl ?_
          refine jg_callVv (pc := 66) X (m_5_skipBlanks hw h) jM_5_skipBlanks kw_491 (jl_1_5 hn) rfl rfl rfl rfl rfl (Nat.le_of_ble_eq_true rfl) d_9_readSheet_66 ⟨(Nat.le_of_ble_eq_true rfl), (Nat.le_of_ble_eq_true rfl)⟩ ⟨(Nat.le_of_ble_eq_true rfl), (Nat.le_of_ble_eq_true rfl)⟩ (fun C12 w14 h => ?_)
          refine jg_aload_n (pc := 69) X d_9_readSheet_69 1 rfl ?_
          refine jg_callVi (pc := 70) X (m_5_failHere w14 h) jM_5_failHere kw_555 (jl_1_5 hn) rfl rfl rfl rfl rfl (Nat.le_of_ble_eq_true rfl) d_9_readSheet_70 ⟨(Nat.le_of_ble_eq_true rfl), (Nat.le_of_ble_eq_true rfl)⟩ ⟨(Nat.le_of_ble_eq_true rfl), (Nat.le_of_ble_eq_true rfl)⟩ (fun x15 C16 r17 w18 h => ?_)
          obtain ⟨b19, h⟩ := h
          exact jg_ireturn (pc := 73) X hAe hlocks hr d_9_readSheet_73 ⟨(Nat.le_of_ble_eq_true rfl), (Nat.le_of_ble_eq_true rfl)⟩ (jnar_b b19) r17 w18 h
        · refine jg_aload_n (pc := 22) X d_9_readSheet_22 0 rfl ?_
          refine jg_aload_n (pc := 23) X d_9_readSheet_23 1 rfl ?_
          refine jg_aload_n (pc := 24) X d_9_readSheet_24 2 rfl ?_
          refine jg_pcallVi (pc := 25) X (m_7_rowsNow tv2 hw h) jM_7_rowsNow kw_486 tv2 rfl rfl rfl rfl rfl (Nat.le_of_ble_eq_true rfl) d_9_readSheet_25 ⟨(Nat.le_of_ble_eq_true rfl), (Nat.le_of_ble_eq_true rfl)⟩ ⟨(Nat.le_of_ble_eq_true rfl), (Nat.le_of_ble_eq_true rfl)⟩ (fun x20 r22 h => ?_)
          refine jg_callVi (pc := 28) X (m_9_readLine r22 hw h) jM_9_readLine kw_487 (jl_3_9 hn) rfl rfl rfl rfl rfl (Nat.le_of_ble_eq_true rfl) d_9_readSheet_28 ⟨(Nat.le_of_ble_eq_true rfl), (Nat.le_of_ble_eq_true rfl)⟩ ⟨(Nat.le_of_ble_eq_true rfl), (Nat.le_of_ble_eq_true rfl)⟩ (fun x24 C25 r26 w27 h => ?_)
          refine jg_if_ne (tgt := 36) (pc := 31) X d_9_readSheet_31 (by decide) r26 h (fun c28 h => ?_) (fun c28 h => ?_)
          · refine jg_iconst (pc := 34) X d_9_readSheet_34 ?_
            exact jg_ireturn (pc := 35) X hAe hlocks hr d_9_readSheet_35 ⟨(Nat.le_of_ble_eq_true rfl), (Nat.le_of_ble_eq_true rfl)⟩ rfl (⟨by decide, by decide⟩ : jRng 0) w27 h
          · refine jg_aload_n (pc := 36) X d_9_readSheet_36 1 rfl ?_
            refine jg_callVi (pc := 37) X (m_5_isOver w27 h) jM_5_isOver kw_478 (jl_1_5 hn) rfl rfl rfl rfl rfl (Nat.le_of_ble_eq_true rfl) d_9_readSheet_37 ⟨(Nat.le_of_ble_eq_true rfl), (Nat.le_of_ble_eq_true rfl)⟩ ⟨(Nat.le_of_ble_eq_true rfl), (Nat.le_of_ble_eq_true rfl)⟩ (fun x29 C30 r31 w32 h => ?_)
            refine jg_if_eq (tgt := 45) (pc := 40) X d_9_readSheet_40 (by decide) r31 h (fun c33 h => ?_) (fun c33 h => ?_)
            · refine jg_aload_n (pc := 45) X d_9_readSheet_45 1 rfl ?_
              refine jg_bipush (pc := 46) X d_9_readSheet_46 rfl ?_
              refine jg_callVi (pc := 48) X (m_5_takeSign (⟨by decide, by decide⟩ : jRng 59) w32 h) jM_5_takeSign kw_611 (jl_1_5 hn) rfl rfl rfl rfl rfl (Nat.le_of_ble_eq_true rfl) d_9_readSheet_48 ⟨(Nat.le_of_ble_eq_true rfl), (Nat.le_of_ble_eq_true rfl)⟩ ⟨(Nat.le_of_ble_eq_true rfl), (Nat.le_of_ble_eq_true rfl)⟩ (fun x34 C35 r36 w37 h => ?_)
              refine jg_if_ne (tgt := 59) (pc := 51) X d_9_readSheet_51 (by decide) r36 h (fun c38 h => ?_) (fun c38 h => ?_)
              · refine jg_aload_n (pc := 54) X d_9_readSheet_54 1 rfl ?_
                refine jg_callVi (pc := 55) X (m_5_failHere w37 h) jM_5_failHere kw_555 (jl_1_5 hn) rfl rfl rfl rfl rfl (Nat.le_of_ble_eq_true rfl) d_9_readSheet_55 ⟨(Nat.le_of_ble_eq_true rfl), (Nat.le_of_ble_eq_true rfl)⟩ ⟨(Nat.le_of_ble_eq_true rfl), (Nat.le_of_ble_eq_true rfl)⟩ (fun x39 C40 r41 w42 h => ?_)
                obtain ⟨b43, h⟩ := h
                exact jg_ireturn (pc := 58) X hAe hlocks hr d_9_readSheet_58 ⟨(Nat.le_of_ble_eq_true rfl), (Nat.le_of_ble_eq_true rfl)⟩ (jnar_b b43) r41 w42 h
              · refine jg_iinc (pc := 59) X [(3, jI (v3 + 1)), (0, jr Z 3), (1, jr Z 1), (2, jr Z v2)] d_9_readSheet_59 3 rfl (by decide) rfl ?_
                refine jg_goto (tgt := 16) (pc := 62) X d_9_readSheet_62 (by decide) ?_
                have r44 : jRng (v3 + 1) := by (unfold jRng; exact ⟨by (have z0 : jRng v3 := rv3; unfold jRng at z0; omega), by (have z0 : jRng v3 := rv3; unfold jRng at z0; omega)⟩)
                refine jg_sub [1, 2, 3, 0] rfl ?_
                exact ih16 _ _ r44 w37 h
            · refine jg_iconst (pc := 43) X d_9_readSheet_43 ?_
              exact jg_ireturn (pc := 44) X hAe hlocks hr d_9_readSheet_44 ⟨(Nat.le_of_ble_eq_true rfl), (Nat.le_of_ble_eq_true rfl)⟩ rfl (⟨by decide, by decide⟩ : jRng 1) w32 h
    obtain ⟨N, h⟩ := h
    refine jg_sub [1, 2, 3, 0] rfl ?_
    exact jl16   N _ _ (⟨by decide, by decide⟩ : jRng 0) w8 h
  · refine jg_iconst (pc := 12) X d_9_readSheet_12 ?_
    exact jg_ireturn (pc := 13) X hAe hlocks hr d_9_readSheet_13 ⟨(Nat.le_of_ble_eq_true rfl), (Nat.le_of_ble_eq_true rfl)⟩ rfl (⟨by decide, by decide⟩ : jRng 1) w8 h
set_option maxHeartbeats 4000000 in
set_option maxRecDepth 100000 in
theorem m_6_placeOf {l : Launch} {Z : jE} {n : Nat} {C : jC} {v0 : Int} {v1 : Int} {post : Int → Prop} (tv0 : jT n v0 6) (rv1 : jRng v1) (hw0 : jWF n C) (h : wp_6_placeOf v0 v1 C post) : jCi l y_6_placeOf prog_8_method_4_code 3 (.int) q_6_placeOf Z n C [jr Z v0, jI v1] (fun x C9 => C9 = C ∧ post x) := by
  have hn := hw0.2.2.1
  unfold wp_6_placeOf at h
  refine jCi_of (lv0 := [(0, jr Z v0), (1, jI v1)]) (by decide) (Nat.le_of_ble_eq_true rfl) rfl ?_
  intro p e s m args below meth c A sz X hAe hr hlocks
  refine jg_iconst (pc := 0) X d_6_placeOf_0 ?_
  refine jg_istore_n (pc := 1) X [(2, jI 0), (0, jr Z v0), (1, jI v1)] d_6_placeOf_1 (by decide) rfl ?_
  have hw : jWF n C := hw0
  have jl2 : ∀  (N : Nat) (v2 : Int) (rv2 : jRng v2), jI1 (wp_6_placeOf_2 v0 v1 C post) N v2 → jG p l e q_6_placeOf s m args below meth c 3 Z A (jws Z n C) 0 0 (MQ below (jQi Z n sz (fun x C9 => C9 = C ∧ post x)) args s q_6_placeOf.cells q_6_placeOf.slots (jA Z n sz)) 2 [(0, jr Z v0), (1, jI v1), (2, jI v2)] [] := by
    intro   N
    have hn := hw0.2.2.1
    induction N with
    | zero => intro v2 rv2 h; exact h.elim
    | succ N ih2 =>
      intro v2 rv2 h
      have h : wp_6_placeOf_2 v0 v1 C post (jI1 (wp_6_placeOf_2 v0 v1 C post) N) v2 := h
      generalize jI1 (wp_6_placeOf_2 v0 v1 C post) N = k2 at h ih2
      unfold wp_6_placeOf_2 at h
      refine jg_iload_n (pc := 2) X d_6_placeOf_2 2 rfl ?_
      refine jg_aload_n (pc := 3) X d_6_placeOf_3 0 rfl ?_
      refine jgf_6_1 (pc := 4) X tv0 kw_167 d_6_placeOf_4 ?_
      refine jg_icmp_ge (tgt := 27) (pc := 7) X d_6_placeOf_7 (by decide) rv2 (hw.1 _ _) h (fun c1 h => ?_) (fun c1 h => ?_)
      · have c1 : (C v0 1) ≤ v2 := c1
        refine jg_iconst (pc := 27) X d_6_placeOf_27 ?_
        exact jg_ireturn (pc := 28) X hAe hlocks hr d_6_placeOf_28 ⟨(Nat.le_of_ble_eq_true rfl), (Nat.le_of_ble_eq_true rfl)⟩ rfl (⟨by decide, by decide⟩ : jRng (-1)) hw ⟨rfl, h⟩
      · have c1 : ¬ ((C v0 1) ≤ v2) := c1
        refine jg_aload_n (pc := 10) X d_6_placeOf_10 0 rfl ?_
        refine jg_iload_n (pc := 11) X d_6_placeOf_11 2 rfl ?_
        refine jg_pcallVi (pc := 12) X (m_6_at tv0 rv2 hw h) jM_6_at kw_710 tv0 rfl rfl rfl rfl rfl (Nat.le_of_ble_eq_true rfl) d_6_placeOf_12 ⟨(Nat.le_of_ble_eq_true rfl), (Nat.le_of_ble_eq_true rfl)⟩ ⟨(Nat.le_of_ble_eq_true rfl), (Nat.le_of_ble_eq_true rfl)⟩ (fun x2 r4 h => ?_)
        refine jg_iload_n (pc := 15) X d_6_placeOf_15 1 rfl ?_
        refine jg_icmp_ne (tgt := 21) (pc := 16) X d_6_placeOf_16 (by decide) r4 rv1 h (fun c6 h => ?_) (fun c6 h => ?_)
        · refine jg_iload_n (pc := 19) X d_6_placeOf_19 2 rfl ?_
          exact jg_ireturn (pc := 20) X hAe hlocks hr d_6_placeOf_20 ⟨(Nat.le_of_ble_eq_true rfl), (Nat.le_of_ble_eq_true rfl)⟩ rfl rv2 hw ⟨rfl, h⟩
        · refine jg_iinc (pc := 21) X [(2, jI (v2 + 1)), (0, jr Z v0), (1, jI v1)] d_6_placeOf_21 2 rfl (by decide) rfl ?_
          refine jg_goto (tgt := 2) (pc := 24) X d_6_placeOf_24 (by decide) ?_
          have r7 : jRng (v2 + 1) := by (unfold jRng; exact ⟨by (have z0 : jRng v2 := rv2; have z1 : jRng (C v0 1) := (hw.1 _ _); unfold jRng at z0 z1; omega), by (have z0 : jRng v2 := rv2; have z1 : jRng (C v0 1) := (hw.1 _ _); unfold jRng at z0 z1; omega)⟩)
          refine jg_sub [1, 2, 0] rfl ?_
          exact ih2 _ r7 h
  obtain ⟨N, h⟩ := h
  refine jg_sub [1, 2, 0] rfl ?_
  exact jl2   N _ (⟨by decide, by decide⟩ : jRng 0) h
set_option maxHeartbeats 4000000 in
set_option maxRecDepth 100000 in
theorem m_6_holds {l : Launch} {Z : jE} {n : Nat} {C : jC} {v0 : Int} {v1 : Int} {post : Int → Prop} (tv0 : jT n v0 6) (rv1 : jRng v1) (hw0 : jWF n C) (h : wp_6_holds v0 v1 C post) : jCi l y_6_holds prog_8_method_5_code 2 (.boolean) q_6_holds Z n C [jr Z v0, jI v1] (fun x C9 => C9 = C ∧ post x) := by
  have hn := hw0.2.2.1
  unfold wp_6_holds at h
  refine jCi_of (lv0 := [(0, jr Z v0), (1, jI v1)]) (by decide) (Nat.le_of_ble_eq_true rfl) rfl ?_
  intro p e s m args below meth c A sz X hAe hr hlocks
  refine jg_aload_n (pc := 0) X d_6_holds_0 0 rfl ?_
  refine jg_iload_n (pc := 1) X d_6_holds_1 1 rfl ?_
  refine jg_pcallVi (pc := 2) X (m_6_placeOf tv0 rv1 hw0 h) jM_6_placeOf kw_706 tv0 rfl rfl rfl rfl rfl (Nat.le_of_ble_eq_true rfl) d_6_holds_2 ⟨(Nat.le_of_ble_eq_true rfl), (Nat.le_of_ble_eq_true rfl)⟩ ⟨(Nat.le_of_ble_eq_true rfl), (Nat.le_of_ble_eq_true rfl)⟩ (fun x1 r3 h => ?_)
  refine jg_iconst (pc := 5) X d_6_holds_5 ?_
  refine jg_icmp_eq (tgt := 13) (pc := 6) X d_6_holds_6 (by decide) r3 (⟨by decide, by decide⟩ : jRng (-1)) h (fun c5 h => ?_) (fun c5 h => ?_)
  · refine jg_iconst (pc := 13) X d_6_holds_13 ?_
    exact jg_ireturn (pc := 14) X hAe hlocks hr d_6_holds_14 ⟨(Nat.le_of_ble_eq_true rfl), (Nat.le_of_ble_eq_true rfl)⟩ rfl (⟨by decide, by decide⟩ : jRng 0) hw0 ⟨rfl, h⟩
  · refine jg_iconst (pc := 9) X d_6_holds_9 ?_
    refine jg_goto (tgt := 14) (pc := 10) X d_6_holds_10 (by decide) ?_
    exact jg_ireturn (pc := 14) X hAe hlocks hr d_6_holds_14 ⟨(Nat.le_of_ble_eq_true rfl), (Nat.le_of_ble_eq_true rfl)⟩ rfl (⟨by decide, by decide⟩ : jRng 1) hw0 ⟨rfl, h⟩
set_option maxHeartbeats 4000000 in
set_option maxRecDepth 100000 in
theorem m_7_isColumn {l : Launch} {Z : jE} {n : Nat} {C : jC} {v0 : Int} {v1 : Int} {post : Int → Prop} (tv0 : jT n v0 7) (rv1 : jRng v1) (hw0 : jWF n C) (h : wp_7_isColumn v0 v1 C post) : jCi l y_7_isColumn prog_9_method_3_code 2 (.boolean) q_7_isColumn Z n C [jr Z v0, jI v1] (fun x C9 => C9 = C ∧ post x) := by
  have hn := hw0.2.2.1
  unfold wp_7_isColumn at h
  refine jCi_of (lv0 := [(0, jr Z v0), (1, jI v1)]) (by decide) (Nat.le_of_ble_eq_true rfl) rfl ?_
  intro p e s m args below meth c A sz X hAe hr hlocks
  refine jg_iload_n (pc := 0) X d_7_isColumn_0 1 rfl ?_
  refine jg_if_lt (tgt := 21) (pc := 1) X d_7_isColumn_1 (by decide) rv1 h (fun c1 h => ?_) (fun c1 h => ?_)
  · refine jg_iconst (pc := 21) X d_7_isColumn_21 ?_
    exact jg_ireturn (pc := 22) X hAe hlocks hr d_7_isColumn_22 ⟨(Nat.le_of_ble_eq_true rfl), (Nat.le_of_ble_eq_true rfl)⟩ rfl (⟨by decide, by decide⟩ : jRng 0) hw0 ⟨rfl, h⟩
  · refine jg_iload_n (pc := 4) X d_7_isColumn_4 1 rfl ?_
    refine jg_aload_n (pc := 5) X d_7_isColumn_5 0 rfl ?_
    refine jgf_7_0 (pc := 6) X tv0 kw_174 d_7_isColumn_6 ?_
    refine jg_icmp_ge (tgt := 21) (pc := 9) X d_7_isColumn_9 (by decide) rv1 (hw0.1 _ _) h (fun c2 h => ?_) (fun c2 h => ?_)
    · have c2 : (C v0 0) ≤ v1 := c2
      refine jg_iconst (pc := 21) X d_7_isColumn_21 ?_
      exact jg_ireturn (pc := 22) X hAe hlocks hr d_7_isColumn_22 ⟨(Nat.le_of_ble_eq_true rfl), (Nat.le_of_ble_eq_true rfl)⟩ rfl (⟨by decide, by decide⟩ : jRng 0) hw0 ⟨rfl, h⟩
    · have c2 : ¬ ((C v0 0) ≤ v1) := c2
      refine jg_iload_n (pc := 12) X d_7_isColumn_12 1 rfl ?_
      refine jg_iconst (pc := 13) X d_7_isColumn_13 ?_
      refine jg_icmp_ge (tgt := 21) (pc := 14) X d_7_isColumn_14 (by decide) rv1 (⟨by decide, by decide⟩ : jRng 5) h (fun c3 h => ?_) (fun c3 h => ?_)
      · refine jg_iconst (pc := 21) X d_7_isColumn_21 ?_
        exact jg_ireturn (pc := 22) X hAe hlocks hr d_7_isColumn_22 ⟨(Nat.le_of_ble_eq_true rfl), (Nat.le_of_ble_eq_true rfl)⟩ rfl (⟨by decide, by decide⟩ : jRng 0) hw0 ⟨rfl, h⟩
      · refine jg_iconst (pc := 17) X d_7_isColumn_17 ?_
        refine jg_goto (tgt := 22) (pc := 18) X d_7_isColumn_18 (by decide) ?_
        exact jg_ireturn (pc := 22) X hAe hlocks hr d_7_isColumn_22 ⟨(Nat.le_of_ble_eq_true rfl), (Nat.le_of_ble_eq_true rfl)⟩ rfl (⟨by decide, by decide⟩ : jRng 1) hw0 ⟨rfl, h⟩
set_option maxHeartbeats 4000000 in
set_option maxRecDepth 100000 in
theorem m_7_write {l : Launch} {Z : jE} {n : Nat} {C : jC} {v0 : Int} {v1 : Int} {v2 : Int} {v3 : Int} {v4 : Int} {post : jC → Prop} (tv0 : jT n v0 7) (rv1 : jRng v1) (rv2 : jRng v2) (rv3 : jRng v3) (rv4 : jRng v4) (hw0 : jWF n C) (h : wp_7_write v0 v1 v2 v3 v4 C post) : jCv l y_7_write prog_9_method_10_code 5 q_7_write Z n C [jr Z v0, jI v1, jI v2, jI v3, jI v4] post := by
  have hn := hw0.2.2.1
  unfold wp_7_write at h
  refine jCv_of (lv0 := [(0, jr Z v0), (1, jI v1), (2, jI v2), (3, jI v3), (4, jI v4)]) (by decide) (Nat.le_of_ble_eq_true rfl) rfl ?_
  intro p e s m args below meth c A sz X hAe hr hlocks
  refine jg_aload_n (pc := 0) X d_7_write_0 0 rfl ?_
  refine jg_iload_n (pc := 1) X d_7_write_1 1 rfl ?_
  refine jg_pcallVi (pc := 2) X (m_7_isSeat tv0 rv1 hw0 h) jM_7_isSeat kw_380 tv0 rfl rfl rfl rfl rfl (Nat.le_of_ble_eq_true rfl) d_7_write_2 ⟨(Nat.le_of_ble_eq_true rfl), (Nat.le_of_ble_eq_true rfl)⟩ ⟨(Nat.le_of_ble_eq_true rfl), (Nat.le_of_ble_eq_true rfl)⟩ (fun x1 r3 h => ?_)
  refine jg_if_eq (tgt := 39) (pc := 5) X d_7_write_5 (by decide) r3 h (fun c5 h => ?_) (fun c5 h => ?_)
  · exact jg_return (pc := 39) X hAe hlocks hr d_7_write_39 ⟨(Nat.le_of_ble_eq_true rfl), (Nat.le_of_ble_eq_true rfl)⟩ hw0 h
  · refine jg_aload_n (pc := 8) X d_7_write_8 0 rfl ?_
    refine jg_iload_n (pc := 9) X d_7_write_9 2 rfl ?_
    refine jg_pcallVi (pc := 10) X (m_7_isColumn tv0 rv2 hw0 h) jM_7_isColumn kw_716 tv0 rfl rfl rfl rfl rfl (Nat.le_of_ble_eq_true rfl) d_7_write_10 ⟨(Nat.le_of_ble_eq_true rfl), (Nat.le_of_ble_eq_true rfl)⟩ ⟨(Nat.le_of_ble_eq_true rfl), (Nat.le_of_ble_eq_true rfl)⟩ (fun x6 r8 h => ?_)
    refine jg_if_eq (tgt := 39) (pc := 13) X d_7_write_13 (by decide) r8 h (fun c10 h => ?_) (fun c10 h => ?_)
    · exact jg_return (pc := 39) X hAe hlocks hr d_7_write_39 ⟨(Nat.le_of_ble_eq_true rfl), (Nat.le_of_ble_eq_true rfl)⟩ hw0 h
    · refine jg_aload_n (pc := 16) X d_7_write_16 0 rfl ?_
      refine jgf_7_3 (pc := 17) X tv0 kw_182 d_7_write_17 ?_
      refine jg_iload_n (pc := 20) X d_7_write_20 1 rfl ?_
      refine jg_iconst (pc := 21) X d_7_write_21 ?_
      refine jg_imul (pc := 22) X d_7_write_22 ?_
      refine jg_iload_n (pc := 23) X d_7_write_23 2 rfl ?_
      refine jg_iadd (pc := 24) X d_7_write_24 ?_
      refine jg_iload_n (pc := 25) X d_7_write_25 3 rfl ?_
      obtain ⟨b11, b12, h⟩ := h
      refine jg_iastore (len := 120) (pc := 26) X d_7_write_26 (jc_sh_3 hn tv0) (fun _ => rfl) (by decide) b11 b12 ?_
      have w13 := jWF.u (k := ((v1 * 5) + v2)) (v := v3) hw0 (jc_sh_3 hn tv0) (by decide) rv3
      refine jg_aload_n (pc := 27) X d_7_write_27 0 rfl ?_
      refine jgf_7_4 (pc := 28) X tv0 kw_183 d_7_write_28 ?_
      refine jg_iload_n (pc := 31) X d_7_write_31 1 rfl ?_
      refine jg_iconst (pc := 32) X d_7_write_32 ?_
      refine jg_imul (pc := 33) X d_7_write_33 ?_
      refine jg_iload_n (pc := 34) X d_7_write_34 2 rfl ?_
      refine jg_iadd (pc := 35) X d_7_write_35 ?_
      refine jg_iload (pc := 36) X d_7_write_36 4 rfl ?_
      have b14 : 0 ≤ ((v1 * 5) + v2) := by (have z0 : jRng v1 := rv1; have z1 : jRng v2 := rv2; unfold jRng at z0 z1; omega)
      have b15 : ((v1 * 5) + v2) < 120 := by (have z0 : jRng v1 := rv1; have z1 : jRng v2 := rv2; unfold jRng at z0 z1; omega)
      refine jg_iastore (len := 120) (pc := 38) X d_7_write_38 (jc_sh_4 hn tv0) (fun _ => rfl) (by decide) b14 b15 ?_
      have w16 := jWF.u (k := ((v1 * 5) + v2)) (v := v4) w13 (jc_sh_4 hn tv0) (by decide) rv4
      exact jg_return (pc := 39) X hAe hlocks hr d_7_write_39 ⟨(Nat.le_of_ble_eq_true rfl), (Nat.le_of_ble_eq_true rfl)⟩ w16 h
set_option maxHeartbeats 4000000 in
set_option maxRecDepth 100000 in
theorem m_7_seatNewRow {l : Launch} {Z : jE} {n : Nat} {C : jC} {v0 : Int} {post : Int → jC → Prop} (tv0 : jT n v0 7) (hw0 : jWF n C) (h : wp_7_seatNewRow v0 C post) : jCi l y_7_seatNewRow prog_9_method_13_code 3 (.int) q_7_seatNewRow Z n C [jr Z v0] post := by
  have hn := hw0.2.2.1
  unfold wp_7_seatNewRow at h
  refine jCi_of (lv0 := [(0, jr Z v0)]) (by decide) (Nat.le_of_ble_eq_true rfl) rfl ?_
  intro p e s m args below meth c A sz X hAe hr hlocks
  refine jg_iconst (pc := 0) X d_7_seatNewRow_0 ?_
  refine jg_istore_n (pc := 1) X [(1, jI 0), (0, jr Z v0)] d_7_seatNewRow_1 (by decide) rfl ?_
  have hw : jWF n C := hw0
  have jl2 : ∀  (N : Nat) (v1 : Int) (rv1 : jRng v1), jI1 (wp_7_seatNewRow_2 v0 C post) N v1 → jG p l e q_7_seatNewRow s m args below meth c 3 Z A (jws Z n C) 0 0 (MQ below (jQi Z n sz post) args s q_7_seatNewRow.cells q_7_seatNewRow.slots (jA Z n sz)) 2 [(0, jr Z v0), (1, jI v1)] [] := by
    intro   N
    have hn := hw0.2.2.1
    induction N with
    | zero => intro v1 rv1 h; exact h.elim
    | succ N ih2 =>
      intro v1 rv1 h
      have h : wp_7_seatNewRow_2 v0 C post (jI1 (wp_7_seatNewRow_2 v0 C post) N) v1 := h
      generalize jI1 (wp_7_seatNewRow_2 v0 C post) N = k2 at h ih2
      unfold wp_7_seatNewRow_2 at h
      refine jg_iload_n (pc := 2) X d_7_seatNewRow_2 1 rfl ?_
      refine jg_bipush (pc := 3) X d_7_seatNewRow_3 rfl ?_
      refine jg_icmp_ge (tgt := 72) (pc := 5) X d_7_seatNewRow_5 (by decide) rv1 (⟨by decide, by decide⟩ : jRng 24) h (fun c1 h => ?_) (fun c1 h => ?_)
      · refine jg_iconst (pc := 72) X d_7_seatNewRow_72 ?_
        exact jg_ireturn (pc := 73) X hAe hlocks hr d_7_seatNewRow_73 ⟨(Nat.le_of_ble_eq_true rfl), (Nat.le_of_ble_eq_true rfl)⟩ rfl (⟨by decide, by decide⟩ : jRng (-1)) hw h
      · refine jg_aload_n (pc := 8) X d_7_seatNewRow_8 0 rfl ?_
        refine jgf_7_5 (pc := 9) X tv0 kw_184 d_7_seatNewRow_9 ?_
        refine jg_iload_n (pc := 12) X d_7_seatNewRow_12 1 rfl ?_
        refine jg_pcallVi (pc := 13) X (m_6_holds (jc_sh_5 hn tv0) rv1 hw h) jM_6_holds kw_702 (jc_sh_5 hn tv0) rfl rfl rfl rfl rfl (Nat.le_of_ble_eq_true rfl) d_7_seatNewRow_13 ⟨(Nat.le_of_ble_eq_true rfl), (Nat.le_of_ble_eq_true rfl)⟩ ⟨(Nat.le_of_ble_eq_true rfl), (Nat.le_of_ble_eq_true rfl)⟩ (fun x2 r4 h => ?_)
        refine jg_if_ne (tgt := 66) (pc := 16) X d_7_seatNewRow_16 (by decide) r4 h (fun c6 h => ?_) (fun c6 h => ?_)
        · refine jg_aload_n (pc := 19) X d_7_seatNewRow_19 0 rfl ?_
          refine jgf_7_2 (pc := 20) X tv0 kw_181 d_7_seatNewRow_20 ?_
          refine jg_iload_n (pc := 23) X d_7_seatNewRow_23 1 rfl ?_
          refine jg_aload_n (pc := 24) X d_7_seatNewRow_24 0 rfl ?_
          refine jgf_7_7 (pc := 25) X tv0 kw_191 d_7_seatNewRow_25 ?_
          obtain ⟨b7, h⟩ := h
          have b8 : v1 < 24 := by (have z0 : jRng v1 := rv1; unfold jRng at z0; omega)
          refine jg_iastore (len := 24) (pc := 28) X d_7_seatNewRow_28 (jc_sh_2 hn tv0) (fun _ => rfl) (by decide) b7 b8 ?_
          have w9 := jWF.u (k := v1) (v := (C v0 7)) hw (jc_sh_2 hn tv0) (by decide) (hw.1 _ _)
          refine jg_aload_n (pc := 29) X d_7_seatNewRow_29 0 rfl ?_
          refine jg_dup (pc := 30) X d_7_seatNewRow_30 rfl ?_
          refine jgf_7_7 (pc := 31) X tv0 kw_191 d_7_seatNewRow_31 ?_
          refine jg_iconst (pc := 34) X d_7_seatNewRow_34 ?_
          refine jg_iadd (pc := 35) X d_7_seatNewRow_35 ?_
          obtain ⟨r10, h⟩ := h
          refine jgp_7_7 (pc := 36) X tv0 kw_191 d_7_seatNewRow_36 ?_
          have w11 := jWF.u (k := 7) (v := (((jU C (v0 + 2) v1 (C v0 7)) v0 7) + 1)) w9 tv0 (by decide) r10
          refine jg_iconst (pc := 39) X d_7_seatNewRow_39 ?_
          refine jg_istore_n (pc := 40) X [(2, jI 0), (0, jr Z v0), (1, jI v1)] d_7_seatNewRow_40 (by decide) rfl ?_
          have jl41 : ∀  (N : Nat) (v2 : Int) (C : jC) (rv2 : jRng v2) (hw : jWF n C), jI2 (wp_7_seatNewRow_41 v0 v1 post) N v2 C → jG p l e q_7_seatNewRow s m args below meth c 3 Z A (jws Z n C) 0 0 (MQ below (jQi Z n sz post) args s q_7_seatNewRow.cells q_7_seatNewRow.slots (jA Z n sz)) 41 [(0, jr Z v0), (1, jI v1), (2, jI v2)] [] := by
            intro   N
            have hn := hw0.2.2.1
            induction N with
            | zero => intro v2 C rv2 hw h; exact h.elim
            | succ N ih41 =>
              intro v2 C rv2 hw h
              have h : wp_7_seatNewRow_41 v0 v1 post (jI2 (wp_7_seatNewRow_41 v0 v1 post) N) v2 C := h
              generalize jI2 (wp_7_seatNewRow_41 v0 v1 post) N = k41 at h ih41
              unfold wp_7_seatNewRow_41 at h
              refine jg_iload_n (pc := 41) X d_7_seatNewRow_41 2 rfl ?_
              refine jg_aload_n (pc := 42) X d_7_seatNewRow_42 0 rfl ?_
              refine jgf_7_0 (pc := 43) X tv0 kw_174 d_7_seatNewRow_43 ?_
              refine jg_icmp_ge (tgt := 64) (pc := 46) X d_7_seatNewRow_46 (by decide) rv2 (hw.1 _ _) h (fun c12 h => ?_) (fun c12 h => ?_)
              · have c12 : (C v0 0) ≤ v2 := c12
                refine jg_iload_n (pc := 64) X d_7_seatNewRow_64 1 rfl ?_
                exact jg_ireturn (pc := 65) X hAe hlocks hr d_7_seatNewRow_65 ⟨(Nat.le_of_ble_eq_true rfl), (Nat.le_of_ble_eq_true rfl)⟩ rfl rv1 hw h
              · have c12 : ¬ ((C v0 0) ≤ v2) := c12
                refine jg_aload_n (pc := 49) X d_7_seatNewRow_49 0 rfl ?_
                refine jg_iload_n (pc := 50) X d_7_seatNewRow_50 1 rfl ?_
                refine jg_iload_n (pc := 51) X d_7_seatNewRow_51 2 rfl ?_
                refine jg_ldk (pc := 52) (-1000000) X kw_711 (by decide) d_7_seatNewRow_52 ?_
                refine jg_iconst (pc := 54) X d_7_seatNewRow_54 ?_
                refine jg_callVv (pc := 55) X (m_7_write tv0 rv1 rv2 (⟨by decide, by decide⟩ : jRng (-1000000)) (⟨by decide, by decide⟩ : jRng (-1)) hw h) jM_7_write kw_712 tv0 rfl rfl rfl rfl rfl (Nat.le_of_ble_eq_true rfl) d_7_seatNewRow_55 ⟨(Nat.le_of_ble_eq_true rfl), (Nat.le_of_ble_eq_true rfl)⟩ ⟨(Nat.le_of_ble_eq_true rfl), (Nat.le_of_ble_eq_true rfl)⟩ (fun C14 w16 h => ?_)
                refine jg_iinc (pc := 58) X [(2, jI (v2 + 1)), (0, jr Z v0), (1, jI v1)] d_7_seatNewRow_58 2 rfl (by decide) rfl ?_
                refine jg_goto (tgt := 41) (pc := 61) X d_7_seatNewRow_61 (by decide) ?_
                have r17 : jRng (v2 + 1) := by (unfold jRng; exact ⟨by (have z0 : jRng v2 := rv2; have z1 : jRng (C v0 0) := (hw.1 _ _); unfold jRng at z0 z1; omega), by (have z0 : jRng v2 := rv2; have z1 : jRng (C v0 0) := (hw.1 _ _); unfold jRng at z0 z1; omega)⟩)
                refine jg_sub [1, 2, 0] rfl ?_
                exact ih41 _ _ r17 w16 h
          obtain ⟨N, h⟩ := h
          refine jg_sub [1, 2, 0] rfl ?_
          exact jl41   N _ _ (⟨by decide, by decide⟩ : jRng 0) w11 h
        · refine jg_iinc (pc := 66) X [(1, jI (v1 + 1)), (0, jr Z v0)] d_7_seatNewRow_66 1 rfl (by decide) rfl ?_
          refine jg_goto (tgt := 2) (pc := 69) X d_7_seatNewRow_69 (by decide) ?_
          have r18 : jRng (v1 + 1) := by (unfold jRng; exact ⟨by (have z0 : jRng v1 := rv1; unfold jRng at z0; omega), by (have z0 : jRng v1 := rv1; unfold jRng at z0; omega)⟩)
          refine jg_sub [1, 0] rfl ?_
          exact ih2 _ r18 h
  obtain ⟨N, h⟩ := h
  refine jg_sub [1, 0] rfl ?_
  exact jl2   N _ (⟨by decide, by decide⟩ : jRng 0) h
set_option maxHeartbeats 4000000 in
set_option maxRecDepth 100000 in
theorem m_9_widthOf {l : Launch} {Z : jE} {n : Nat} {C : jC} {v1 : Int} {post : Int → Prop} (rv1 : jRng v1) (hw0 : jWF n C) (h : wp_9_widthOf v1 C post) : jCi l y_9_widthOf prog_11_method_3_code 2 (.int) q_9_widthOf Z n C [jr Z 3, jI v1] (fun x C9 => C9 = C ∧ post x) := by
  have hn := hw0.2.2.1
  unfold wp_9_widthOf at h
  refine jCi_of (lv0 := [(0, jr Z 3), (1, jI v1)]) (by decide) (Nat.le_of_ble_eq_true rfl) rfl ?_
  intro p e s m args below meth c A sz X hAe hr hlocks
  refine jg_iload_n (pc := 0) X d_9_widthOf_0 1 rfl ?_
  refine jg_if_lt (tgt := 19) (pc := 1) X d_9_widthOf_1 (by decide) rv1 h (fun c1 h => ?_) (fun c1 h => ?_)
  · refine jg_iconst (pc := 19) X d_9_widthOf_19 ?_
    exact jg_ireturn (pc := 20) X hAe hlocks hr d_9_widthOf_20 ⟨(Nat.le_of_ble_eq_true rfl), (Nat.le_of_ble_eq_true rfl)⟩ rfl (⟨by decide, by decide⟩ : jRng 0) hw0 ⟨rfl, h⟩
  · refine jg_iload_n (pc := 4) X d_9_widthOf_4 1 rfl ?_
    refine jg_bipush (pc := 5) X d_9_widthOf_5 rfl ?_
    refine jg_icmp_ge (tgt := 19) (pc := 7) X d_9_widthOf_7 (by decide) rv1 (⟨by decide, by decide⟩ : jRng 14) h (fun c2 h => ?_) (fun c2 h => ?_)
    · refine jg_iconst (pc := 19) X d_9_widthOf_19 ?_
      exact jg_ireturn (pc := 20) X hAe hlocks hr d_9_widthOf_20 ⟨(Nat.le_of_ble_eq_true rfl), (Nat.le_of_ble_eq_true rfl)⟩ rfl (⟨by decide, by decide⟩ : jRng 0) hw0 ⟨rfl, h⟩
    · refine jg_aload_n (pc := 10) X d_9_widthOf_10 0 rfl ?_
      refine jgf_9_3 (pc := 11) X (jl_3_9 hn) kw_131 d_9_widthOf_11 ?_
      refine jg_iload_n (pc := 14) X d_9_widthOf_14 1 rfl ?_
      have b3 : 0 ≤ v1 := by (have z0 : jRng v1 := rv1; unfold jRng at z0; omega)
      have b4 : v1 < 14 := by (have z0 : jRng v1 := rv1; unfold jRng at z0; omega)
      refine jg_iaload (len := 14) (pc := 15) X d_9_widthOf_15 (jl_5_1014 hn) (fun _ => rfl) (by decide) b3 b4 ?_
      refine jg_goto (tgt := 20) (pc := 16) X d_9_widthOf_16 (by decide) ?_
      exact jg_ireturn (pc := 20) X hAe hlocks hr d_9_widthOf_20 ⟨(Nat.le_of_ble_eq_true rfl), (Nat.le_of_ble_eq_true rfl)⟩ rfl (hw0.1 _ _) hw0 ⟨rfl, h⟩
set_option maxHeartbeats 4000000 in
set_option maxRecDepth 100000 in
theorem m_9_toldAt {l : Launch} {Z : jE} {n : Nat} {C : jC} {v1 : Int} {v2 : Int} {post : Int → Prop} (rv1 : jRng v1) (rv2 : jRng v2) (hw0 : jWF n C) (h : wp_9_toldAt v1 v2 C post) : jCi l y_9_toldAt prog_11_method_2_code 4 (.int) q_9_toldAt Z n C [jr Z 3, jI v1, jI v2] (fun x C9 => C9 = C ∧ post x) := by
  have hn := hw0.2.2.1
  unfold wp_9_toldAt at h
  refine jCi_of (lv0 := [(0, jr Z 3), (1, jI v1), (2, jI v2)]) (by decide) (Nat.le_of_ble_eq_true rfl) rfl ?_
  intro p e s m args below meth c A sz X hAe hr hlocks
  have jb36 : ∀ (s0 : Int) (v1 : Int) (v2 : Int) (rs0 : jRng s0) (rv1 : jRng v1) (rv2 : jRng v2), wp_9_toldAt_36 s0 v1 v2 C post → jG p l e q_9_toldAt s m args below meth c 4 Z A (jws Z n C) 0 0 (MQ below (jQi Z n sz (fun x C9 => C9 = C ∧ post x)) args s q_9_toldAt.cells q_9_toldAt.slots (jA Z n sz)) 36 [(0, jr Z 3), (1, jI v1), (2, jI v2)] [jI s0] := by
    intro s0 v1 v2 rs0 rv1 rv2 h
    unfold wp_9_toldAt_36 at h
    refine jg_istore_n (pc := 36) X [(3, jI s0), (0, jr Z 3), (1, jI v1), (2, jI v2)] d_9_toldAt_36 (by decide) rfl ?_
    refine jg_iload_n (pc := 37) X d_9_toldAt_37 0 rfl ?_
    refine jg_if_eq (tgt := 54) (pc := 38) X d_9_toldAt_38 (by decide) rs0 h (fun c1 h => ?_) (fun c1 h => ?_)
    · refine jg_ldk (pc := 54) (-1000000) X kw_729 (by decide) d_9_toldAt_54 ?_
      exact jg_ireturn (pc := 56) X hAe hlocks hr d_9_toldAt_56 ⟨(Nat.le_of_ble_eq_true rfl), (Nat.le_of_ble_eq_true rfl)⟩ rfl (⟨by decide, by decide⟩ : jRng (-1000000)) hw0 ⟨rfl, h⟩
    · refine jg_aload_n (pc := 41) X d_9_toldAt_41 1 rfl ?_
      refine jgf_9_4 (pc := 42) X (jl_3_9 hn) kw_132 d_9_toldAt_42 ?_
      refine jg_iload_n (pc := 45) X d_9_toldAt_45 2 rfl ?_
      refine jg_iconst (pc := 46) X d_9_toldAt_46 ?_
      refine jg_imul (pc := 47) X d_9_toldAt_47 ?_
      refine jg_iload_n (pc := 48) X d_9_toldAt_48 3 rfl ?_
      refine jg_iadd (pc := 49) X d_9_toldAt_49 ?_
      obtain ⟨b2, b3, h⟩ := h
      refine jg_iaload (len := 70) (pc := 50) X d_9_toldAt_50 (jl_6_1070 hn) (fun _ => rfl) (by decide) b2 b3 ?_
      refine jg_goto (tgt := 56) (pc := 51) X d_9_toldAt_51 (by decide) ?_
      exact jg_ireturn (pc := 56) X hAe hlocks hr d_9_toldAt_56 ⟨(Nat.le_of_ble_eq_true rfl), (Nat.le_of_ble_eq_true rfl)⟩ rfl (hw0.1 _ _) hw0 ⟨rfl, h⟩
  refine jg_iload_n (pc := 0) X d_9_toldAt_0 1 rfl ?_
  refine jg_if_lt (tgt := 35) (pc := 1) X d_9_toldAt_1 (by decide) rv1 h (fun c4 h => ?_) (fun c4 h => ?_)
  · refine jg_iconst (pc := 35) X d_9_toldAt_35 ?_
    refine jg_sub [0, 1, 2] rfl ?_
    exact jb36 _ _ _ (⟨by decide, by decide⟩ : jRng 0) rv1 rv2 h
  · refine jg_iload_n (pc := 4) X d_9_toldAt_4 1 rfl ?_
    refine jg_aload_n (pc := 5) X d_9_toldAt_5 0 rfl ?_
    refine jgf_9_2 (pc := 6) X (jl_3_9 hn) kw_128 d_9_toldAt_6 ?_
    refine jg_icmp_ge (tgt := 35) (pc := 9) X d_9_toldAt_9 (by decide) rv1 (hw0.1 _ _) h (fun c5 h => ?_) (fun c5 h => ?_)
    · have c5 : (C 3 2) ≤ v1 := c5
      refine jg_iconst (pc := 35) X d_9_toldAt_35 ?_
      refine jg_sub [0, 1, 2] rfl ?_
      exact jb36 _ _ _ (⟨by decide, by decide⟩ : jRng 0) rv1 rv2 h
    · have c5 : ¬ ((C 3 2) ≤ v1) := c5
      refine jg_iload_n (pc := 12) X d_9_toldAt_12 1 rfl ?_
      refine jg_bipush (pc := 13) X d_9_toldAt_13 rfl ?_
      refine jg_icmp_ge (tgt := 35) (pc := 15) X d_9_toldAt_15 (by decide) rv1 (⟨by decide, by decide⟩ : jRng 14) h (fun c6 h => ?_) (fun c6 h => ?_)
      · refine jg_iconst (pc := 35) X d_9_toldAt_35 ?_
        refine jg_sub [0, 1, 2] rfl ?_
        exact jb36 _ _ _ (⟨by decide, by decide⟩ : jRng 0) rv1 rv2 h
      · refine jg_iload_n (pc := 18) X d_9_toldAt_18 2 rfl ?_
        refine jg_if_lt (tgt := 35) (pc := 19) X d_9_toldAt_19 (by decide) rv2 h (fun c7 h => ?_) (fun c7 h => ?_)
        · refine jg_iconst (pc := 35) X d_9_toldAt_35 ?_
          refine jg_sub [0, 1, 2] rfl ?_
          exact jb36 _ _ _ (⟨by decide, by decide⟩ : jRng 0) rv1 rv2 h
        · refine jg_iload_n (pc := 22) X d_9_toldAt_22 2 rfl ?_
          refine jg_aload_n (pc := 23) X d_9_toldAt_23 0 rfl ?_
          refine jg_iload_n (pc := 24) X d_9_toldAt_24 1 rfl ?_
          refine jg_pcallVi (pc := 25) X (m_9_widthOf rv1 hw0 h) jM_9_widthOf kw_728 (jl_3_9 hn) rfl rfl rfl rfl rfl (Nat.le_of_ble_eq_true rfl) d_9_toldAt_25 ⟨(Nat.le_of_ble_eq_true rfl), (Nat.le_of_ble_eq_true rfl)⟩ ⟨(Nat.le_of_ble_eq_true rfl), (Nat.le_of_ble_eq_true rfl)⟩ (fun x8 r10 h => ?_)
          refine jg_icmp_ge (tgt := 35) (pc := 28) X d_9_toldAt_28 (by decide) rv2 r10 h (fun c12 h => ?_) (fun c12 h => ?_)
          · refine jg_iconst (pc := 35) X d_9_toldAt_35 ?_
            refine jg_sub [0, 1, 2] rfl ?_
            exact jb36 _ _ _ (⟨by decide, by decide⟩ : jRng 0) rv1 rv2 h
          · refine jg_iconst (pc := 31) X d_9_toldAt_31 ?_
            refine jg_goto (tgt := 36) (pc := 32) X d_9_toldAt_32 (by decide) ?_
            refine jg_sub [0, 1, 2] rfl ?_
            exact jb36 _ _ _ (⟨by decide, by decide⟩ : jRng 1) rv1 rv2 h
set_option maxHeartbeats 4000000 in
set_option maxRecDepth 100000 in
theorem m_6_putAt {l : Launch} {Z : jE} {n : Nat} {C : jC} {v0 : Int} {v1 : Int} {v2 : Int} {post : jC → Prop} (tv0 : jT n v0 6) (rv1 : jRng v1) (rv2 : jRng v2) (hw0 : jWF n C) (h : wp_6_putAt v0 v1 v2 C post) : jCv l y_6_putAt prog_8_method_6_code 4 q_6_putAt Z n C [jr Z v0, jI v1, jI v2] post := by
  have hn := hw0.2.2.1
  unfold wp_6_putAt at h
  refine jCv_of (lv0 := [(0, jr Z v0), (1, jI v1), (2, jI v2)]) (by decide) (Nat.le_of_ble_eq_true rfl) rfl ?_
  intro p e s m args below meth c A sz X hAe hr hlocks
  refine jg_iload_n (pc := 0) X d_6_putAt_0 1 rfl ?_
  refine jg_if_lt (tgt := 21) (pc := 1) X d_6_putAt_1 (by decide) rv1 h (fun c1 h => ?_) (fun c1 h => ?_)
  · exact jg_return (pc := 21) X hAe hlocks hr d_6_putAt_21 ⟨(Nat.le_of_ble_eq_true rfl), (Nat.le_of_ble_eq_true rfl)⟩ hw0 h
  · refine jg_iload_n (pc := 4) X d_6_putAt_4 1 rfl ?_
    refine jg_aload_n (pc := 5) X d_6_putAt_5 0 rfl ?_
    refine jgf_6_1 (pc := 6) X tv0 kw_167 d_6_putAt_6 ?_
    refine jg_icmp_gt (tgt := 21) (pc := 9) X d_6_putAt_9 (by decide) rv1 (hw0.1 _ _) h (fun c2 h => ?_) (fun c2 h => ?_)
    · have c2 : (C v0 1) < v1 := c2
      exact jg_return (pc := 21) X hAe hlocks hr d_6_putAt_21 ⟨(Nat.le_of_ble_eq_true rfl), (Nat.le_of_ble_eq_true rfl)⟩ hw0 h
    · have c2 : ¬ ((C v0 1) < v1) := c2
      refine jg_aload_n (pc := 12) X d_6_putAt_12 0 rfl ?_
      refine jgf_6_1 (pc := 13) X tv0 kw_167 d_6_putAt_13 ?_
      refine jg_bipush (pc := 16) X d_6_putAt_16 rfl ?_
      refine jg_icmp_lt (tgt := 22) (pc := 18) X d_6_putAt_18 (by decide) (hw0.1 _ _) (⟨by decide, by decide⟩ : jRng 24) h (fun c3 h => ?_) (fun c3 h => ?_)
      · have c3 : (C v0 1) < 24 := c3
        refine jg_aload_n (pc := 22) X d_6_putAt_22 0 rfl ?_
        refine jgf_6_1 (pc := 23) X tv0 kw_167 d_6_putAt_23 ?_
        refine jg_istore_n (pc := 26) X [(3, jI (C v0 1)), (0, jr Z v0), (1, jI v1), (2, jI v2)] d_6_putAt_26 (by decide) rfl ?_
        have jl27 : ∀  (N : Nat) (v3 : Int) (C : jC) (rv3 : jRng v3) (hw : jWF n C), jI2 (wp_6_putAt_27 v0 v1 v2 post) N v3 C → jG p l e q_6_putAt s m args below meth c 4 Z A (jws Z n C) 0 0 (MQ below (jQv Z n sz post) args s q_6_putAt.cells q_6_putAt.slots (jA Z n sz)) 27 [(0, jr Z v0), (1, jI v1), (2, jI v2), (3, jI v3)] [] := by
          intro   N
          have hn := hw0.2.2.1
          induction N with
          | zero => intro v3 C rv3 hw h; exact h.elim
          | succ N ih27 =>
            intro v3 C rv3 hw h
            have h : wp_6_putAt_27 v0 v1 v2 post (jI2 (wp_6_putAt_27 v0 v1 v2 post) N) v3 C := h
            generalize jI2 (wp_6_putAt_27 v0 v1 v2 post) N = k27 at h ih27
            unfold wp_6_putAt_27 at h
            refine jg_iload_n (pc := 27) X d_6_putAt_27 3 rfl ?_
            refine jg_iload_n (pc := 28) X d_6_putAt_28 1 rfl ?_
            refine jg_icmp_le (tgt := 52) (pc := 29) X d_6_putAt_29 (by decide) rv3 rv1 h (fun c4 h => ?_) (fun c4 h => ?_)
            · refine jg_aload_n (pc := 52) X d_6_putAt_52 0 rfl ?_
              refine jgf_6_0 (pc := 53) X tv0 kw_166 d_6_putAt_53 ?_
              refine jg_iload_n (pc := 56) X d_6_putAt_56 1 rfl ?_
              refine jg_iload_n (pc := 57) X d_6_putAt_57 2 rfl ?_
              obtain ⟨b5, b6, h⟩ := h
              refine jg_iastore (len := 24) (pc := 58) X d_6_putAt_58 (jc_ro_0 hn tv0) (fun _ => rfl) (by decide) b5 b6 ?_
              have w7 := jWF.u (k := v1) (v := v2) hw (jc_ro_0 hn tv0) (by decide) rv2
              refine jg_aload_n (pc := 59) X d_6_putAt_59 0 rfl ?_
              refine jg_dup (pc := 60) X d_6_putAt_60 rfl ?_
              refine jgf_6_1 (pc := 61) X tv0 kw_167 d_6_putAt_61 ?_
              refine jg_iconst (pc := 64) X d_6_putAt_64 ?_
              refine jg_iadd (pc := 65) X d_6_putAt_65 ?_
              obtain ⟨r8, h⟩ := h
              refine jgp_6_1 (pc := 66) X tv0 kw_167 d_6_putAt_66 ?_
              have w9 := jWF.u (k := 1) (v := (((jU C (v0 + 1) v1 v2) v0 1) + 1)) w7 tv0 (by decide) r8
              exact jg_return (pc := 69) X hAe hlocks hr d_6_putAt_69 ⟨(Nat.le_of_ble_eq_true rfl), (Nat.le_of_ble_eq_true rfl)⟩ w9 h
            · refine jg_aload_n (pc := 32) X d_6_putAt_32 0 rfl ?_
              refine jgf_6_0 (pc := 33) X tv0 kw_166 d_6_putAt_33 ?_
              refine jg_iload_n (pc := 36) X d_6_putAt_36 3 rfl ?_
              refine jg_aload_n (pc := 37) X d_6_putAt_37 0 rfl ?_
              refine jgf_6_0 (pc := 38) X tv0 kw_166 d_6_putAt_38 ?_
              refine jg_iload_n (pc := 41) X d_6_putAt_41 3 rfl ?_
              refine jg_iconst (pc := 42) X d_6_putAt_42 ?_
              refine jg_isub (pc := 43) X d_6_putAt_43 ?_
              obtain ⟨b10, b11, h⟩ := h
              refine jg_iaload (len := 24) (pc := 44) X d_6_putAt_44 (jc_ro_0 hn tv0) (fun _ => rfl) (by decide) b10 b11 ?_
              obtain ⟨b12, b13, h⟩ := h
              refine jg_iastore (len := 24) (pc := 45) X d_6_putAt_45 (jc_ro_0 hn tv0) (fun _ => rfl) (by decide) b12 b13 ?_
              have w14 := jWF.u (k := v3) (v := (C (v0 + 1) (v3 - 1))) hw (jc_ro_0 hn tv0) (by decide) (hw.1 _ _)
              refine jg_iinc (pc := 46) X [(3, jI (v3 + (-1))), (0, jr Z v0), (1, jI v1), (2, jI v2)] d_6_putAt_46 3 rfl (by decide) rfl ?_
              refine jg_goto (tgt := 27) (pc := 49) X d_6_putAt_49 (by decide) ?_
              have r15 : jRng (v3 + (-1)) := by (unfold jRng; exact ⟨by (have z0 : jRng v3 := rv3; have z1 : jRng v1 := rv1; unfold jRng at z0 z1; omega), by (have z0 : jRng v3 := rv3; have z1 : jRng v1 := rv1; unfold jRng at z0 z1; omega)⟩)
              refine jg_sub [1, 2, 3, 0] rfl ?_
              exact ih27 _ _ r15 w14 h
        obtain ⟨N, h⟩ := h
        refine jg_sub [1, 2, 3, 0] rfl ?_
        exact jl27   N _ _ (hw0.1 _ _) hw0 h
      · have c3 : ¬ ((C v0 1) < 24) := c3
        exact jg_return (pc := 21) X hAe hlocks hr d_6_putAt_21 ⟨(Nat.le_of_ble_eq_true rfl), (Nat.le_of_ble_eq_true rfl)⟩ hw0 h
set_option maxHeartbeats 4000000 in
set_option maxRecDepth 100000 in
theorem m_6_putLast {l : Launch} {Z : jE} {n : Nat} {C : jC} {v0 : Int} {v1 : Int} {post : jC → Prop} (tv0 : jT n v0 6) (rv1 : jRng v1) (hw0 : jWF n C) (h : wp_6_putLast v0 v1 C post) : jCv l y_6_putLast prog_8_method_7_code 2 q_6_putLast Z n C [jr Z v0, jI v1] post := by
  have hn := hw0.2.2.1
  unfold wp_6_putLast at h
  refine jCv_of (lv0 := [(0, jr Z v0), (1, jI v1)]) (by decide) (Nat.le_of_ble_eq_true rfl) rfl ?_
  intro p e s m args below meth c A sz X hAe hr hlocks
  refine jg_aload_n (pc := 0) X d_6_putLast_0 0 rfl ?_
  refine jg_aload_n (pc := 1) X d_6_putLast_1 0 rfl ?_
  refine jgf_6_1 (pc := 2) X tv0 kw_167 d_6_putLast_2 ?_
  refine jg_iload_n (pc := 5) X d_6_putLast_5 1 rfl ?_
  refine jg_callVv (pc := 6) X (m_6_putAt tv0 (hw0.1 _ _) rv1 hw0 h) jM_6_putAt kw_735 tv0 rfl rfl rfl rfl rfl (Nat.le_of_ble_eq_true rfl) d_6_putLast_6 ⟨(Nat.le_of_ble_eq_true rfl), (Nat.le_of_ble_eq_true rfl)⟩ ⟨(Nat.le_of_ble_eq_true rfl), (Nat.le_of_ble_eq_true rfl)⟩ (fun C2 w4 h => ?_)
  exact jg_return (pc := 9) X hAe hlocks hr d_6_putLast_9 ⟨(Nat.le_of_ble_eq_true rfl), (Nat.le_of_ble_eq_true rfl)⟩ w4 h
set_option maxHeartbeats 4000000 in
set_option maxRecDepth 100000 in
theorem m_7_valueAt {l : Launch} {Z : jE} {n : Nat} {C : jC} {v0 : Int} {v1 : Int} {v2 : Int} {post : Int → Prop} (tv0 : jT n v0 7) (rv1 : jRng v1) (rv2 : jRng v2) (hw0 : jWF n C) (h : wp_7_valueAt v0 v1 v2 C post) : jCi l y_7_valueAt prog_9_method_8_code 3 (.int) q_7_valueAt Z n C [jr Z v0, jI v1, jI v2] (fun x C9 => C9 = C ∧ post x) := by
  have hn := hw0.2.2.1
  unfold wp_7_valueAt at h
  refine jCi_of (lv0 := [(0, jr Z v0), (1, jI v1), (2, jI v2)]) (by decide) (Nat.le_of_ble_eq_true rfl) rfl ?_
  intro p e s m args below meth c A sz X hAe hr hlocks
  refine jg_aload_n (pc := 0) X d_7_valueAt_0 0 rfl ?_
  refine jg_iload_n (pc := 1) X d_7_valueAt_1 1 rfl ?_
  refine jg_pcallVi (pc := 2) X (m_7_isSeat tv0 rv1 hw0 h) jM_7_isSeat kw_380 tv0 rfl rfl rfl rfl rfl (Nat.le_of_ble_eq_true rfl) d_7_valueAt_2 ⟨(Nat.le_of_ble_eq_true rfl), (Nat.le_of_ble_eq_true rfl)⟩ ⟨(Nat.le_of_ble_eq_true rfl), (Nat.le_of_ble_eq_true rfl)⟩ (fun x1 r3 h => ?_)
  refine jg_if_eq (tgt := 29) (pc := 5) X d_7_valueAt_5 (by decide) r3 h (fun c5 h => ?_) (fun c5 h => ?_)
  · refine jg_ldk (pc := 29) (-1000000) X kw_711 (by decide) d_7_valueAt_29 ?_
    exact jg_ireturn (pc := 31) X hAe hlocks hr d_7_valueAt_31 ⟨(Nat.le_of_ble_eq_true rfl), (Nat.le_of_ble_eq_true rfl)⟩ rfl (⟨by decide, by decide⟩ : jRng (-1000000)) hw0 ⟨rfl, h⟩
  · refine jg_aload_n (pc := 8) X d_7_valueAt_8 0 rfl ?_
    refine jg_iload_n (pc := 9) X d_7_valueAt_9 2 rfl ?_
    refine jg_pcallVi (pc := 10) X (m_7_isColumn tv0 rv2 hw0 h) jM_7_isColumn kw_716 tv0 rfl rfl rfl rfl rfl (Nat.le_of_ble_eq_true rfl) d_7_valueAt_10 ⟨(Nat.le_of_ble_eq_true rfl), (Nat.le_of_ble_eq_true rfl)⟩ ⟨(Nat.le_of_ble_eq_true rfl), (Nat.le_of_ble_eq_true rfl)⟩ (fun x6 r8 h => ?_)
    refine jg_if_eq (tgt := 29) (pc := 13) X d_7_valueAt_13 (by decide) r8 h (fun c10 h => ?_) (fun c10 h => ?_)
    · refine jg_ldk (pc := 29) (-1000000) X kw_711 (by decide) d_7_valueAt_29 ?_
      exact jg_ireturn (pc := 31) X hAe hlocks hr d_7_valueAt_31 ⟨(Nat.le_of_ble_eq_true rfl), (Nat.le_of_ble_eq_true rfl)⟩ rfl (⟨by decide, by decide⟩ : jRng (-1000000)) hw0 ⟨rfl, h⟩
    · refine jg_aload_n (pc := 16) X d_7_valueAt_16 0 rfl ?_
      refine jgf_7_3 (pc := 17) X tv0 kw_182 d_7_valueAt_17 ?_
      refine jg_iload_n (pc := 20) X d_7_valueAt_20 1 rfl ?_
      refine jg_iconst (pc := 21) X d_7_valueAt_21 ?_
      refine jg_imul (pc := 22) X d_7_valueAt_22 ?_
      refine jg_iload_n (pc := 23) X d_7_valueAt_23 2 rfl ?_
      refine jg_iadd (pc := 24) X d_7_valueAt_24 ?_
      obtain ⟨b11, b12, h⟩ := h
      refine jg_iaload (len := 120) (pc := 25) X d_7_valueAt_25 (jc_sh_3 hn tv0) (fun _ => rfl) (by decide) b11 b12 ?_
      refine jg_goto (tgt := 31) (pc := 26) X d_7_valueAt_26 (by decide) ?_
      exact jg_ireturn (pc := 31) X hAe hlocks hr d_7_valueAt_31 ⟨(Nat.le_of_ble_eq_true rfl), (Nat.le_of_ble_eq_true rfl)⟩ rfl (hw0.1 _ _) hw0 ⟨rfl, h⟩
set_option maxHeartbeats 4000000 in
set_option maxRecDepth 100000 in
theorem m_1_matches {l : Launch} {Z : jE} {n : Nat} {C : jC} {v0 : Int} {v1 : Int} {v2 : Int} {post : Int → Prop} (rv0 : jRng v0) (rv1 : jRng v1) (rv2 : jRng v2) (hw0 : jWF n C) (h : wp_1_matches v0 v1 v2 C post) : jCi l y_1_matches prog_3_method_5_code 7 (.boolean) q_1_matches Z n C [jI v0, jI v1, jI v2] (fun x C9 => C9 = C ∧ post x) := by
  have hn := hw0.2.2.1
  unfold wp_1_matches at h
  refine jCi_of (lv0 := [(0, jI v0), (1, jI v1), (2, jI v2)]) (by decide) (Nat.le_of_ble_eq_true rfl) rfl ?_
  intro p e s m args below meth c A sz X hAe hr hlocks
  refine jg_iload_n (pc := 0) X d_1_matches_0 2 rfl ?_
  refine jg_istore_n (pc := 1) X [(3, jI v2), (0, jI v0), (1, jI v1), (2, jI v2)] d_1_matches_1 (by decide) rfl ?_
  refine jg_iconst (pc := 2) X d_1_matches_2 ?_
  refine jg_istore (pc := 3) X [(4, jI 0), (3, jI v2), (0, jI v0), (1, jI v1), (2, jI v2)] d_1_matches_3 (by decide) rfl ?_
  have hw : jWF n C := hw0
  have jl5 : ∀  (N : Nat) (v3 : Int) (v4 : Int) (rv3 : jRng v3) (rv4 : jRng v4), jI2 (wp_1_matches_5 v0 v1 C post) N v3 v4 → jG p l e q_1_matches s m args below meth c 7 Z A (jws Z n C) 0 0 (MQ below (jQi Z n sz (fun x C9 => C9 = C ∧ post x)) args s q_1_matches.cells q_1_matches.slots (jA Z n sz)) 5 [(0, jI v0), (1, jI v1), (3, jI v3), (4, jI v4)] [] := by
    intro   N
    have hn := hw0.2.2.1
    induction N with
    | zero => intro v3 v4 rv3 rv4 h; exact h.elim
    | succ N ih5 =>
      intro v3 v4 rv3 rv4 h
      have h : wp_1_matches_5 v0 v1 C post (jI2 (wp_1_matches_5 v0 v1 C post) N) v3 v4 := h
      generalize jI2 (wp_1_matches_5 v0 v1 C post) N = k5 at h ih5
      unfold wp_1_matches_5 at h
      refine jg_iload (pc := 5) X d_1_matches_5 3 rfl ?_
      refine jg_iconst (pc := 7) X d_1_matches_7 ?_
      refine jg_icmp_ge (tgt := 85) (pc := 8) X d_1_matches_8 (by decide) rv4 (⟨by decide, by decide⟩ : jRng 4) h (fun c1 h => ?_) (fun c1 h => ?_)
      · refine jg_iconst (pc := 85) X d_1_matches_85 ?_
        exact jg_ireturn (pc := 86) X hAe hlocks hr d_1_matches_86 ⟨(Nat.le_of_ble_eq_true rfl), (Nat.le_of_ble_eq_true rfl)⟩ rfl (⟨by decide, by decide⟩ : jRng 1) hw ⟨rfl, h⟩
      · refine jg_iload_n (pc := 11) X d_1_matches_11 0 rfl ?_
        refine jg_iconst (pc := 12) X d_1_matches_12 ?_
        refine jg_iload (pc := 13) X d_1_matches_13 3 rfl ?_
        refine jg_imul (pc := 15) X d_1_matches_15 ?_
        refine jg_ishr (pc := 16) X d_1_matches_16 ?_
        refine jg_bipush (pc := 17) X d_1_matches_17 rfl ?_
        refine jg_iand (pc := 19) X d_1_matches_19 ?_
        refine jg_istore (pc := 20) X [(5, jI (jAnd (jShr v0 (5 * v4)) 31)), (0, jI v0), (1, jI v1), (3, jI v3), (4, jI v4)] d_1_matches_20 (by decide) rfl ?_
        refine jg_iload_n (pc := 22) X d_1_matches_22 3 rfl ?_
        refine jg_sipush (pc := 23) X d_1_matches_23 rfl ?_
        have r2 : jRng (v3.tdiv 19683) := jrng_tdiv rv3 (by decide) (by decide)
        refine jg_idiv (pc := 26) X d_1_matches_26 rv3 (by decide) (by decide) ?_
        refine jg_istore (pc := 27) X [(6, jI (v3.tdiv 19683)), (5, jI (jAnd (jShr v0 (5 * v4)) 31)), (0, jI v0), (1, jI v1), (3, jI v3), (4, jI v4)] d_1_matches_27 (by decide) rfl ?_
        refine jg_iload (pc := 29) X d_1_matches_29 1 rfl ?_
        refine jg_if_ne (tgt := 49) (pc := 31) X d_1_matches_31 (by decide) (jAnd_rng _ _) h (fun c3 h => ?_) (fun c3 h => ?_)
        · have c3 : (jAnd (jShr v0 (5 * v4)) 31) = 0 := c3
          refine jg_iload_n (pc := 34) X d_1_matches_34 3 rfl ?_
          refine jg_if_ne (tgt := 43) (pc := 35) X d_1_matches_35 (by decide) rv1 h (fun c4 h => ?_) (fun c4 h => ?_)
          · refine jg_iload (pc := 38) X d_1_matches_38 0 rfl ?_
            refine jg_if_ne (tgt := 47) (pc := 40) X d_1_matches_40 (by decide) r2 h (fun c5 h => ?_) (fun c5 h => ?_)
            · refine jg_iconst (pc := 43) X d_1_matches_43 ?_
              refine jg_goto (tgt := 48) (pc := 44) X d_1_matches_44 (by decide) ?_
              exact jg_ireturn (pc := 48) X hAe hlocks hr d_1_matches_48 ⟨(Nat.le_of_ble_eq_true rfl), (Nat.le_of_ble_eq_true rfl)⟩ rfl (⟨by decide, by decide⟩ : jRng 1) hw ⟨rfl, h⟩
            · refine jg_iconst (pc := 47) X d_1_matches_47 ?_
              exact jg_ireturn (pc := 48) X hAe hlocks hr d_1_matches_48 ⟨(Nat.le_of_ble_eq_true rfl), (Nat.le_of_ble_eq_true rfl)⟩ rfl (⟨by decide, by decide⟩ : jRng 0) hw ⟨rfl, h⟩
          · refine jg_iconst (pc := 43) X d_1_matches_43 ?_
            refine jg_goto (tgt := 48) (pc := 44) X d_1_matches_44 (by decide) ?_
            exact jg_ireturn (pc := 48) X hAe hlocks hr d_1_matches_48 ⟨(Nat.le_of_ble_eq_true rfl), (Nat.le_of_ble_eq_true rfl)⟩ rfl (⟨by decide, by decide⟩ : jRng 1) hw ⟨rfl, h⟩
        · have c3 : ¬ ((jAnd (jShr v0 (5 * v4)) 31) = 0) := c3
          refine jg_iload (pc := 49) X d_1_matches_49 0 rfl ?_
          refine jg_if_eq (tgt := 68) (pc := 51) X d_1_matches_51 (by decide) r2 h (fun c6 h => ?_) (fun c6 h => ?_)
          · refine jg_iconst (pc := 68) X d_1_matches_68 ?_
            exact jg_ireturn (pc := 69) X hAe hlocks hr d_1_matches_69 ⟨(Nat.le_of_ble_eq_true rfl), (Nat.le_of_ble_eq_true rfl)⟩ rfl (⟨by decide, by decide⟩ : jRng 0) hw ⟨rfl, h⟩
          · refine jg_iload (pc := 54) X d_1_matches_54 1 rfl ?_
            refine jg_bipush (pc := 56) X d_1_matches_56 rfl ?_
            refine jg_icmp_eq (tgt := 70) (pc := 58) X d_1_matches_58 (by decide) (jAnd_rng _ _) (⟨by decide, by decide⟩ : jRng 27) h (fun c7 h => ?_) (fun c7 h => ?_)
            · have c7 : (jAnd (jShr v0 (5 * v4)) 31) = 27 := c7
              refine jg_iload_n (pc := 70) X d_1_matches_70 4 rfl ?_
              refine jg_sipush (pc := 71) X d_1_matches_71 rfl ?_
              have r8 : jRng (v3.tmod 19683) := jrng_tmod rv3 (by decide) (by decide)
              refine jg_irem (pc := 74) X d_1_matches_74 rv3 (by decide) (by decide) ?_
              refine jg_bipush (pc := 75) X d_1_matches_75 rfl ?_
              refine jg_imul (pc := 77) X d_1_matches_77 ?_
              refine jg_istore_n (pc := 78) X [(3, jI ((v3.tmod 19683) * 27)), (6, jI (v3.tdiv 19683)), (5, jI (jAnd (jShr v0 (5 * v4)) 31)), (0, jI v0), (1, jI v1), (4, jI v4)] d_1_matches_78 (by decide) rfl ?_
              refine jg_iinc (pc := 79) X [(4, jI (v4 + 1)), (3, jI ((v3.tmod 19683) * 27)), (6, jI (v3.tdiv 19683)), (5, jI (jAnd (jShr v0 (5 * v4)) 31)), (0, jI v0), (1, jI v1)] d_1_matches_79 5 rfl (by decide) rfl ?_
              refine jg_goto (tgt := 5) (pc := 82) X d_1_matches_82 (by decide) ?_
              obtain ⟨r9, h⟩ := h
              have r10 : jRng (v4 + 1) := by (unfold jRng; exact ⟨by (have z0 : jRng v4 := rv4; unfold jRng at z0; omega), by (have z0 : jRng v4 := rv4; unfold jRng at z0; omega)⟩)
              refine jg_sub [4, 5, 1, 0] rfl ?_
              exact ih5 _ _ r9 r10 h
            · have c7 : ¬ ((jAnd (jShr v0 (5 * v4)) 31) = 27) := c7
              refine jg_iload (pc := 61) X d_1_matches_61 1 rfl ?_
              refine jg_iload (pc := 63) X d_1_matches_63 0 rfl ?_
              refine jg_icmp_eq (tgt := 70) (pc := 65) X d_1_matches_65 (by decide) (jAnd_rng _ _) r2 h (fun c11 h => ?_) (fun c11 h => ?_)
              · have c11 : (jAnd (jShr v0 (5 * v4)) 31) = (v3.tdiv 19683) := c11
                refine jg_iload_n (pc := 70) X d_1_matches_70 4 rfl ?_
                refine jg_sipush (pc := 71) X d_1_matches_71 rfl ?_
                have r12 : jRng (v3.tmod 19683) := jrng_tmod rv3 (by decide) (by decide)
                refine jg_irem (pc := 74) X d_1_matches_74 rv3 (by decide) (by decide) ?_
                refine jg_bipush (pc := 75) X d_1_matches_75 rfl ?_
                refine jg_imul (pc := 77) X d_1_matches_77 ?_
                refine jg_istore_n (pc := 78) X [(3, jI ((v3.tmod 19683) * 27)), (6, jI (v3.tdiv 19683)), (5, jI (jAnd (jShr v0 (5 * v4)) 31)), (0, jI v0), (1, jI v1), (4, jI v4)] d_1_matches_78 (by decide) rfl ?_
                refine jg_iinc (pc := 79) X [(4, jI (v4 + 1)), (3, jI ((v3.tmod 19683) * 27)), (6, jI (v3.tdiv 19683)), (5, jI (jAnd (jShr v0 (5 * v4)) 31)), (0, jI v0), (1, jI v1)] d_1_matches_79 5 rfl (by decide) rfl ?_
                refine jg_goto (tgt := 5) (pc := 82) X d_1_matches_82 (by decide) ?_
                obtain ⟨r13, h⟩ := h
                have r14 : jRng (v4 + 1) := by (unfold jRng; exact ⟨by (have z0 : jRng v4 := rv4; unfold jRng at z0; omega), by (have z0 : jRng v4 := rv4; unfold jRng at z0; omega)⟩)
                refine jg_sub [4, 5, 1, 0] rfl ?_
                exact ih5 _ _ r13 r14 h
              · have c11 : ¬ ((jAnd (jShr v0 (5 * v4)) 31) = (v3.tdiv 19683)) := c11
                refine jg_iconst (pc := 68) X d_1_matches_68 ?_
                exact jg_ireturn (pc := 69) X hAe hlocks hr d_1_matches_69 ⟨(Nat.le_of_ble_eq_true rfl), (Nat.le_of_ble_eq_true rfl)⟩ rfl (⟨by decide, by decide⟩ : jRng 0) hw ⟨rfl, h⟩
  obtain ⟨N, h⟩ := h
  refine jg_sub [2, 3, 1, 0] rfl ?_
  exact jl5   N _ _ rv2 (⟨by decide, by decide⟩ : jRng 0) h
set_option maxHeartbeats 4000000 in
set_option maxRecDepth 100000 in
theorem m_1_isAs {l : Launch} {Z : jE} {n : Nat} {C : jC} {v0 : Int} {v1 : Int} {v2 : Int} {post : Int → Prop} (tv0 : jT n v0 1) (rv1 : jRng v1) (rv2 : jRng v2) (hw0 : jWF n C) (h : wp_1_isAs v0 v1 v2 C post) : jCi l y_1_isAs prog_3_method_4_code 3 (.boolean) q_1_isAs Z n C [jr Z v0, jI v1, jI v2] (fun x C9 => C9 = C ∧ post x) := by
  have hn := hw0.2.2.1
  unfold wp_1_isAs at h
  refine jCi_of (lv0 := [(0, jr Z v0), (1, jI v1), (2, jI v2)]) (by decide) (Nat.le_of_ble_eq_true rfl) rfl ?_
  intro p e s m args below meth c A sz X hAe hr hlocks
  have jb27 : ∀ (v0 : Int) (v1 : Int) (v2 : Int) (tv0 : jT n v0 1) (rv1 : jRng v1) (rv2 : jRng v2), wp_1_isAs_27 v0 v1 v2 C post → jG p l e q_1_isAs s m args below meth c 3 Z A (jws Z n C) 0 0 (MQ below (jQi Z n sz (fun x C9 => C9 = C ∧ post x)) args s q_1_isAs.cells q_1_isAs.slots (jA Z n sz)) 27 [(0, jr Z v0), (1, jI v1), (2, jI v2)] [] := by
    intro v0 v1 v2 tv0 rv1 rv2 h
    unfold wp_1_isAs_27 at h
    refine jg_aload_n (pc := 27) X d_1_isAs_27 0 rfl ?_
    refine jgf_1_1 (pc := 28) X tv0 kw_92 d_1_isAs_28 ?_
    refine jg_iload_n (pc := 31) X d_1_isAs_31 1 rfl ?_
    obtain ⟨b1, b2, h⟩ := h
    refine jg_iaload (len := 6) (pc := 32) X d_1_isAs_32 (jc_fi_1 hn tv0) (fun _ => rfl) (by decide) b1 b2 ?_
    refine jg_if_ne (tgt := 46) (pc := 33) X d_1_isAs_33 (by decide) (hw0.1 _ _) h (fun c3 h => ?_) (fun c3 h => ?_)
    · have c3 : (C (v0 + 1) v1) = 0 := c3
      refine jg_iload_n (pc := 36) X d_1_isAs_36 2 rfl ?_
      refine jg_ldk (pc := 37) (-1000000) X kw_759 (by decide) d_1_isAs_37 ?_
      refine jg_icmp_ne (tgt := 46) (pc := 39) X d_1_isAs_39 (by decide) rv2 (⟨by decide, by decide⟩ : jRng (-1000000)) h (fun c4 h => ?_) (fun c4 h => ?_)
      · refine jg_iconst (pc := 42) X d_1_isAs_42 ?_
        refine jg_goto (tgt := 47) (pc := 43) X d_1_isAs_43 (by decide) ?_
        exact jg_ireturn (pc := 47) X hAe hlocks hr d_1_isAs_47 ⟨(Nat.le_of_ble_eq_true rfl), (Nat.le_of_ble_eq_true rfl)⟩ rfl (⟨by decide, by decide⟩ : jRng 1) hw0 ⟨rfl, h⟩
      · refine jg_iconst (pc := 46) X d_1_isAs_46 ?_
        exact jg_ireturn (pc := 47) X hAe hlocks hr d_1_isAs_47 ⟨(Nat.le_of_ble_eq_true rfl), (Nat.le_of_ble_eq_true rfl)⟩ rfl (⟨by decide, by decide⟩ : jRng 0) hw0 ⟨rfl, h⟩
    · have c3 : ¬ ((C (v0 + 1) v1) = 0) := c3
      refine jg_iconst (pc := 46) X d_1_isAs_46 ?_
      exact jg_ireturn (pc := 47) X hAe hlocks hr d_1_isAs_47 ⟨(Nat.le_of_ble_eq_true rfl), (Nat.le_of_ble_eq_true rfl)⟩ rfl (⟨by decide, by decide⟩ : jRng 0) hw0 ⟨rfl, h⟩
  refine jg_iload_n (pc := 0) X d_1_isAs_0 1 rfl ?_
  refine jg_if_lt (tgt := 10) (pc := 1) X d_1_isAs_1 (by decide) rv1 h (fun c5 h => ?_) (fun c5 h => ?_)
  · refine jg_iconst (pc := 10) X d_1_isAs_10 ?_
    exact jg_ireturn (pc := 11) X hAe hlocks hr d_1_isAs_11 ⟨(Nat.le_of_ble_eq_true rfl), (Nat.le_of_ble_eq_true rfl)⟩ rfl (⟨by decide, by decide⟩ : jRng 0) hw0 ⟨rfl, h⟩
  · refine jg_iload_n (pc := 4) X d_1_isAs_4 1 rfl ?_
    refine jg_bipush (pc := 5) X d_1_isAs_5 rfl ?_
    refine jg_icmp_lt (tgt := 12) (pc := 7) X d_1_isAs_7 (by decide) rv1 (⟨by decide, by decide⟩ : jRng 6) h (fun c6 h => ?_) (fun c6 h => ?_)
    · refine jg_aload_n (pc := 12) X d_1_isAs_12 0 rfl ?_
      refine jgf_1_1 (pc := 13) X tv0 kw_92 d_1_isAs_13 ?_
      refine jg_iload_n (pc := 16) X d_1_isAs_16 1 rfl ?_
      have b7 : 0 ≤ v1 := by (have z0 : jRng v1 := rv1; unfold jRng at z0; omega)
      have b8 : v1 < 6 := by (have z0 : jRng v1 := rv1; unfold jRng at z0; omega)
      refine jg_iaload (len := 6) (pc := 17) X d_1_isAs_17 (jc_fi_1 hn tv0) (fun _ => rfl) (by decide) b7 b8 ?_
      refine jg_if_eq (tgt := 27) (pc := 18) X d_1_isAs_18 (by decide) (hw0.1 _ _) h (fun c9 h => ?_) (fun c9 h => ?_)
      · have c9 : (C (v0 + 1) v1) = 0 := c9
        refine jg_sub [0, 1, 2] rfl ?_
        exact jb27 _ _ _ tv0 rv1 rv2 h
      · have c9 : ¬ ((C (v0 + 1) v1) = 0) := c9
        refine jg_iload_n (pc := 21) X d_1_isAs_21 2 rfl ?_
        refine jg_ldk (pc := 22) (-1000000) X kw_759 (by decide) d_1_isAs_22 ?_
        refine jg_icmp_ne (tgt := 48) (pc := 24) X d_1_isAs_24 (by decide) rv2 (⟨by decide, by decide⟩ : jRng (-1000000)) h (fun c10 h => ?_) (fun c10 h => ?_)
        · refine jg_sub [0, 1, 2] rfl ?_
          exact jb27 _ _ _ tv0 rv1 rv2 h
        · refine jg_aload_n (pc := 48) X d_1_isAs_48 0 rfl ?_
          refine jgf_1_1 (pc := 49) X tv0 kw_92 d_1_isAs_49 ?_
          refine jg_iload_n (pc := 52) X d_1_isAs_52 1 rfl ?_
          have b11 : 0 ≤ v1 := by (have z0 : jRng v1 := rv1; unfold jRng at z0; omega)
          have b12 : v1 < 6 := by (have z0 : jRng v1 := rv1; unfold jRng at z0; omega)
          refine jg_iaload (len := 6) (pc := 53) X d_1_isAs_53 (jc_fi_1 hn tv0) (fun _ => rfl) (by decide) b11 b12 ?_
          refine jg_iconst (pc := 54) X d_1_isAs_54 ?_
          refine jg_icmp_ne (tgt := 84) (pc := 55) X d_1_isAs_55 (by decide) (hw0.1 _ _) (⟨by decide, by decide⟩ : jRng 1) h (fun c13 h => ?_) (fun c13 h => ?_)
          · have c13 : (C (v0 + 1) v1) = 1 := c13
            refine jg_iload_n (pc := 58) X d_1_isAs_58 2 rfl ?_
            refine jg_aload_n (pc := 59) X d_1_isAs_59 0 rfl ?_
            refine jgf_1_2 (pc := 60) X tv0 kw_93 d_1_isAs_60 ?_
            refine jg_iload_n (pc := 63) X d_1_isAs_63 1 rfl ?_
            have b14 : 0 ≤ v1 := by (have z0 : jRng v1 := rv1; unfold jRng at z0; omega)
            have b15 : v1 < 6 := by (have z0 : jRng v1 := rv1; unfold jRng at z0; omega)
            refine jg_iaload (len := 6) (pc := 64) X d_1_isAs_64 (jc_fi_2 hn tv0) (fun _ => rfl) (by decide) b14 b15 ?_
            refine jg_icmp_lt (tgt := 82) (pc := 65) X d_1_isAs_65 (by decide) rv2 (hw0.1 _ _) h (fun c16 h => ?_) (fun c16 h => ?_)
            · have c16 : v2 < (C (v0 + 2) v1) := c16
              refine jg_iconst (pc := 82) X d_1_isAs_82 ?_
              exact jg_ireturn (pc := 83) X hAe hlocks hr d_1_isAs_83 ⟨(Nat.le_of_ble_eq_true rfl), (Nat.le_of_ble_eq_true rfl)⟩ rfl (⟨by decide, by decide⟩ : jRng 0) hw0 ⟨rfl, h⟩
            · have c16 : ¬ (v2 < (C (v0 + 2) v1)) := c16
              refine jg_iload_n (pc := 68) X d_1_isAs_68 2 rfl ?_
              refine jg_aload_n (pc := 69) X d_1_isAs_69 0 rfl ?_
              refine jgf_1_3 (pc := 70) X tv0 kw_94 d_1_isAs_70 ?_
              refine jg_iload_n (pc := 73) X d_1_isAs_73 1 rfl ?_
              have b17 : 0 ≤ v1 := by (have z0 : jRng v1 := rv1; unfold jRng at z0; omega)
              have b18 : v1 < 6 := by (have z0 : jRng v1 := rv1; unfold jRng at z0; omega)
              refine jg_iaload (len := 6) (pc := 74) X d_1_isAs_74 (jc_fi_3 hn tv0) (fun _ => rfl) (by decide) b17 b18 ?_
              refine jg_icmp_gt (tgt := 82) (pc := 75) X d_1_isAs_75 (by decide) rv2 (hw0.1 _ _) h (fun c19 h => ?_) (fun c19 h => ?_)
              · have c19 : (C (v0 + 3) v1) < v2 := c19
                refine jg_iconst (pc := 82) X d_1_isAs_82 ?_
                exact jg_ireturn (pc := 83) X hAe hlocks hr d_1_isAs_83 ⟨(Nat.le_of_ble_eq_true rfl), (Nat.le_of_ble_eq_true rfl)⟩ rfl (⟨by decide, by decide⟩ : jRng 0) hw0 ⟨rfl, h⟩
              · have c19 : ¬ ((C (v0 + 3) v1) < v2) := c19
                refine jg_iconst (pc := 78) X d_1_isAs_78 ?_
                refine jg_goto (tgt := 83) (pc := 79) X d_1_isAs_79 (by decide) ?_
                exact jg_ireturn (pc := 83) X hAe hlocks hr d_1_isAs_83 ⟨(Nat.le_of_ble_eq_true rfl), (Nat.le_of_ble_eq_true rfl)⟩ rfl (⟨by decide, by decide⟩ : jRng 1) hw0 ⟨rfl, h⟩
          · have c13 : ¬ ((C (v0 + 1) v1) = 1) := c13
            refine jg_aload_n (pc := 84) X d_1_isAs_84 0 rfl ?_
            refine jgf_1_2 (pc := 85) X tv0 kw_93 d_1_isAs_85 ?_
            refine jg_iload_n (pc := 88) X d_1_isAs_88 1 rfl ?_
            have b20 : 0 ≤ v1 := by (have z0 : jRng v1 := rv1; unfold jRng at z0; omega)
            have b21 : v1 < 6 := by (have z0 : jRng v1 := rv1; unfold jRng at z0; omega)
            refine jg_iaload (len := 6) (pc := 89) X d_1_isAs_89 (jc_fi_2 hn tv0) (fun _ => rfl) (by decide) b20 b21 ?_
            refine jg_aload_n (pc := 90) X d_1_isAs_90 0 rfl ?_
            refine jgf_1_3 (pc := 91) X tv0 kw_94 d_1_isAs_91 ?_
            refine jg_iload_n (pc := 94) X d_1_isAs_94 1 rfl ?_
            have b22 : 0 ≤ v1 := by (have z0 : jRng v1 := rv1; unfold jRng at z0; omega)
            have b23 : v1 < 6 := by (have z0 : jRng v1 := rv1; unfold jRng at z0; omega)
            refine jg_iaload (len := 6) (pc := 95) X d_1_isAs_95 (jc_fi_3 hn tv0) (fun _ => rfl) (by decide) b22 b23 ?_
            refine jg_iconst (pc := 96) X d_1_isAs_96 ?_
            refine jg_icmp_ne (tgt := 104) (pc := 97) X d_1_isAs_97 (by decide) (hw0.1 _ _) (⟨by decide, by decide⟩ : jRng 1) h (fun c24 h => ?_) (fun c24 h => ?_)
            · have c24 : (C (v0 + 3) v1) = 1 := c24
              refine jg_iconst (pc := 100) X d_1_isAs_100 ?_
              refine jg_goto (tgt := 105) (pc := 101) X d_1_isAs_101 (by decide) ?_
              refine jg_iload_n (pc := 105) X d_1_isAs_105 2 rfl ?_
              refine jg_pcallSi (pc := 106) X (m_1_matches (hw0.1 _ _) (⟨by decide, by decide⟩ : jRng 1) rv2 hw0 h) jM_1_matches kw_760 rfl rfl (Nat.le_of_ble_eq_true rfl) d_1_isAs_106 ⟨(Nat.le_of_ble_eq_true rfl), (Nat.le_of_ble_eq_true rfl)⟩ ⟨(Nat.le_of_ble_eq_true rfl), (Nat.le_of_ble_eq_true rfl)⟩ (fun x25 r27 h => ?_)
              obtain ⟨b29, h⟩ := h
              exact jg_ireturn (pc := 109) X hAe hlocks hr d_1_isAs_109 ⟨(Nat.le_of_ble_eq_true rfl), (Nat.le_of_ble_eq_true rfl)⟩ (jnar_b b29) r27 hw0 ⟨rfl, h⟩
            · have c24 : ¬ ((C (v0 + 3) v1) = 1) := c24
              refine jg_iconst (pc := 104) X d_1_isAs_104 ?_
              refine jg_iload_n (pc := 105) X d_1_isAs_105 2 rfl ?_
              refine jg_pcallSi (pc := 106) X (m_1_matches (hw0.1 _ _) (⟨by decide, by decide⟩ : jRng 0) rv2 hw0 h) jM_1_matches kw_760 rfl rfl (Nat.le_of_ble_eq_true rfl) d_1_isAs_106 ⟨(Nat.le_of_ble_eq_true rfl), (Nat.le_of_ble_eq_true rfl)⟩ ⟨(Nat.le_of_ble_eq_true rfl), (Nat.le_of_ble_eq_true rfl)⟩ (fun x30 r32 h => ?_)
              obtain ⟨b34, h⟩ := h
              exact jg_ireturn (pc := 109) X hAe hlocks hr d_1_isAs_109 ⟨(Nat.le_of_ble_eq_true rfl), (Nat.le_of_ble_eq_true rfl)⟩ (jnar_b b34) r32 hw0 ⟨rfl, h⟩
    · refine jg_iconst (pc := 10) X d_1_isAs_10 ?_
      exact jg_ireturn (pc := 11) X hAe hlocks hr d_1_isAs_11 ⟨(Nat.le_of_ble_eq_true rfl), (Nat.le_of_ble_eq_true rfl)⟩ rfl (⟨by decide, by decide⟩ : jRng 0) hw0 ⟨rfl, h⟩
set_option maxHeartbeats 4000000 in
set_option maxRecDepth 100000 in
theorem m_1_accepts {l : Launch} {Z : jE} {n : Nat} {C : jC} {v0 : Int} {v1 : Int} {post : Int → Prop} (tv0 : jT n v0 1) (rv1 : jRng v1) (hw0 : jWF n C) (h : wp_1_accepts v0 v1 C post) : jCi l y_1_accepts prog_3_method_3_code 4 (.boolean) q_1_accepts Z n C [jr Z v0, jI v1] (fun x C9 => C9 = C ∧ post x) := by
  have hn := hw0.2.2.1
  unfold wp_1_accepts at h
  refine jCi_of (lv0 := [(0, jr Z v0), (1, jI v1)]) (by decide) (Nat.le_of_ble_eq_true rfl) rfl ?_
  intro p e s m args below meth c A sz X hAe hr hlocks
  refine jg_iconst (pc := 0) X d_1_accepts_0 ?_
  refine jg_istore_n (pc := 1) X [(2, jI 0), (0, jr Z v0), (1, jI v1)] d_1_accepts_1 (by decide) rfl ?_
  have hw : jWF n C := hw0
  have jl2 : ∀  (N : Nat) (v2 : Int) (rv2 : jRng v2), jI1 (wp_1_accepts_2 v0 v1 C post) N v2 → jG p l e q_1_accepts s m args below meth c 4 Z A (jws Z n C) 0 0 (MQ below (jQi Z n sz (fun x C9 => C9 = C ∧ post x)) args s q_1_accepts.cells q_1_accepts.slots (jA Z n sz)) 2 [(0, jr Z v0), (1, jI v1), (2, jI v2)] [] := by
    intro   N
    have hn := hw0.2.2.1
    induction N with
    | zero => intro v2 rv2 h; exact h.elim
    | succ N ih2 =>
      intro v2 rv2 h
      have h : wp_1_accepts_2 v0 v1 C post (jI1 (wp_1_accepts_2 v0 v1 C post) N) v2 := h
      generalize jI1 (wp_1_accepts_2 v0 v1 C post) N = k2 at h ih2
      unfold wp_1_accepts_2 at h
      refine jg_iload_n (pc := 2) X d_1_accepts_2 2 rfl ?_
      refine jg_aload_n (pc := 3) X d_1_accepts_3 0 rfl ?_
      refine jgf_1_0 (pc := 4) X tv0 kw_89 d_1_accepts_4 ?_
      refine jg_icmp_ge (tgt := 52) (pc := 7) X d_1_accepts_7 (by decide) rv2 (hw.1 _ _) h (fun c1 h => ?_) (fun c1 h => ?_)
      · have c1 : (C v0 0) ≤ v2 := c1
        refine jg_aload_n (pc := 52) X d_1_accepts_52 0 rfl ?_
        refine jgf_1_0 (pc := 53) X tv0 kw_89 d_1_accepts_53 ?_
        refine jg_if_ne (tgt := 63) (pc := 56) X d_1_accepts_56 (by decide) (hw.1 _ _) h (fun c2 h => ?_) (fun c2 h => ?_)
        · have c2 : (C v0 0) = 0 := c2
          refine jg_iconst (pc := 59) X d_1_accepts_59 ?_
          refine jg_goto (tgt := 64) (pc := 60) X d_1_accepts_60 (by decide) ?_
          exact jg_ireturn (pc := 64) X hAe hlocks hr d_1_accepts_64 ⟨(Nat.le_of_ble_eq_true rfl), (Nat.le_of_ble_eq_true rfl)⟩ rfl (⟨by decide, by decide⟩ : jRng 1) hw ⟨rfl, h⟩
        · have c2 : ¬ ((C v0 0) = 0) := c2
          refine jg_iconst (pc := 63) X d_1_accepts_63 ?_
          exact jg_ireturn (pc := 64) X hAe hlocks hr d_1_accepts_64 ⟨(Nat.le_of_ble_eq_true rfl), (Nat.le_of_ble_eq_true rfl)⟩ rfl (⟨by decide, by decide⟩ : jRng 0) hw ⟨rfl, h⟩
      · have c1 : ¬ ((C v0 0) ≤ v2) := c1
        refine jg_iload_n (pc := 10) X d_1_accepts_10 2 rfl ?_
        refine jg_bipush (pc := 11) X d_1_accepts_11 rfl ?_
        refine jg_icmp_ge (tgt := 52) (pc := 13) X d_1_accepts_13 (by decide) rv2 (⟨by decide, by decide⟩ : jRng 6) h (fun c3 h => ?_) (fun c3 h => ?_)
        · refine jg_aload_n (pc := 52) X d_1_accepts_52 0 rfl ?_
          refine jgf_1_0 (pc := 53) X tv0 kw_89 d_1_accepts_53 ?_
          refine jg_if_ne (tgt := 63) (pc := 56) X d_1_accepts_56 (by decide) (hw.1 _ _) h (fun c4 h => ?_) (fun c4 h => ?_)
          · have c4 : (C v0 0) = 0 := c4
            refine jg_iconst (pc := 59) X d_1_accepts_59 ?_
            refine jg_goto (tgt := 64) (pc := 60) X d_1_accepts_60 (by decide) ?_
            exact jg_ireturn (pc := 64) X hAe hlocks hr d_1_accepts_64 ⟨(Nat.le_of_ble_eq_true rfl), (Nat.le_of_ble_eq_true rfl)⟩ rfl (⟨by decide, by decide⟩ : jRng 1) hw ⟨rfl, h⟩
          · have c4 : ¬ ((C v0 0) = 0) := c4
            refine jg_iconst (pc := 63) X d_1_accepts_63 ?_
            exact jg_ireturn (pc := 64) X hAe hlocks hr d_1_accepts_64 ⟨(Nat.le_of_ble_eq_true rfl), (Nat.le_of_ble_eq_true rfl)⟩ rfl (⟨by decide, by decide⟩ : jRng 0) hw ⟨rfl, h⟩
        · refine jg_aload_n (pc := 16) X d_1_accepts_16 0 rfl ?_
          refine jgf_1_4 (pc := 17) X tv0 kw_95 d_1_accepts_17 ?_
          refine jg_iload_n (pc := 20) X d_1_accepts_20 2 rfl ?_
          obtain ⟨b5, h⟩ := h
          have b6 : v2 < 6 := by (have z0 : jRng v2 := rv2; have z1 : jRng (C v0 0) := (hw.1 _ _); unfold jRng at z0 z1; omega)
          refine jg_iaload (len := 6) (pc := 21) X d_1_accepts_21 (jc_fi_4 hn tv0) (fun _ => rfl) (by decide) b5 b6 ?_
          refine jg_iconst (pc := 22) X d_1_accepts_22 ?_
          have r7 : jRng ((C (v0 + 4) v2).tmod 2) := jrng_tmod (hw.1 _ _) (by decide) (by decide)
          refine jg_irem (pc := 23) X d_1_accepts_23 (hw.1 _ _) (by decide) (by decide) ?_
          refine jg_iconst (pc := 24) X d_1_accepts_24 ?_
          refine jg_icmp_ne (tgt := 32) (pc := 25) X d_1_accepts_25 (by decide) r7 (⟨by decide, by decide⟩ : jRng 1) h (fun c8 h => ?_) (fun c8 h => ?_)
          · have c8 : ((C (v0 + 4) v2).tmod 2) = 1 := c8
            refine jg_iconst (pc := 28) X d_1_accepts_28 ?_
            refine jg_goto (tgt := 33) (pc := 29) X d_1_accepts_29 (by decide) ?_
            refine jg_istore_n (pc := 33) X [(3, jI 1), (0, jr Z v0), (1, jI v1), (2, jI v2)] d_1_accepts_33 (by decide) rfl ?_
            refine jg_aload_n (pc := 34) X d_1_accepts_34 1 rfl ?_
            refine jg_iload_n (pc := 35) X d_1_accepts_35 3 rfl ?_
            refine jg_iload_n (pc := 36) X d_1_accepts_36 2 rfl ?_
            refine jg_pcallVi (pc := 37) X (m_1_isAs tv0 rv2 rv1 hw h) jM_1_isAs kw_755 tv0 rfl rfl rfl rfl rfl (Nat.le_of_ble_eq_true rfl) d_1_accepts_37 ⟨(Nat.le_of_ble_eq_true rfl), (Nat.le_of_ble_eq_true rfl)⟩ ⟨(Nat.le_of_ble_eq_true rfl), (Nat.le_of_ble_eq_true rfl)⟩ (fun x9 r11 h => ?_)
            refine jg_iload_n (pc := 40) X d_1_accepts_40 0 rfl ?_
            refine jg_icmp_eq (tgt := 46) (pc := 41) X d_1_accepts_41 (by decide) r11 (⟨by decide, by decide⟩ : jRng 1) h (fun c13 h => ?_) (fun c13 h => ?_)
            · refine jg_iinc (pc := 46) X [(2, jI (v2 + 1)), (3, jI 1), (0, jr Z v0), (1, jI v1)] d_1_accepts_46 3 rfl (by decide) rfl ?_
              refine jg_goto (tgt := 2) (pc := 49) X d_1_accepts_49 (by decide) ?_
              have r14 : jRng (v2 + 1) := by (unfold jRng; exact ⟨by (have z0 : jRng v2 := rv2; have z1 : jRng (C v0 0) := (hw.1 _ _); unfold jRng at z0 z1; omega), by (have z0 : jRng v2 := rv2; have z1 : jRng (C v0 0) := (hw.1 _ _); unfold jRng at z0 z1; omega)⟩)
              refine jg_sub [2, 3, 0] rfl ?_
              exact ih2 _ r14 h
            · refine jg_iconst (pc := 44) X d_1_accepts_44 ?_
              exact jg_ireturn (pc := 45) X hAe hlocks hr d_1_accepts_45 ⟨(Nat.le_of_ble_eq_true rfl), (Nat.le_of_ble_eq_true rfl)⟩ rfl (⟨by decide, by decide⟩ : jRng 1) hw ⟨rfl, h⟩
          · have c8 : ¬ (((C (v0 + 4) v2).tmod 2) = 1) := c8
            refine jg_iconst (pc := 32) X d_1_accepts_32 ?_
            refine jg_istore_n (pc := 33) X [(3, jI 0), (0, jr Z v0), (1, jI v1), (2, jI v2)] d_1_accepts_33 (by decide) rfl ?_
            refine jg_aload_n (pc := 34) X d_1_accepts_34 1 rfl ?_
            refine jg_iload_n (pc := 35) X d_1_accepts_35 3 rfl ?_
            refine jg_iload_n (pc := 36) X d_1_accepts_36 2 rfl ?_
            refine jg_pcallVi (pc := 37) X (m_1_isAs tv0 rv2 rv1 hw h) jM_1_isAs kw_755 tv0 rfl rfl rfl rfl rfl (Nat.le_of_ble_eq_true rfl) d_1_accepts_37 ⟨(Nat.le_of_ble_eq_true rfl), (Nat.le_of_ble_eq_true rfl)⟩ ⟨(Nat.le_of_ble_eq_true rfl), (Nat.le_of_ble_eq_true rfl)⟩ (fun x15 r17 h => ?_)
            refine jg_iload_n (pc := 40) X d_1_accepts_40 0 rfl ?_
            refine jg_icmp_eq (tgt := 46) (pc := 41) X d_1_accepts_41 (by decide) r17 (⟨by decide, by decide⟩ : jRng 0) h (fun c19 h => ?_) (fun c19 h => ?_)
            · refine jg_iinc (pc := 46) X [(2, jI (v2 + 1)), (3, jI 0), (0, jr Z v0), (1, jI v1)] d_1_accepts_46 3 rfl (by decide) rfl ?_
              refine jg_goto (tgt := 2) (pc := 49) X d_1_accepts_49 (by decide) ?_
              have r20 : jRng (v2 + 1) := by (unfold jRng; exact ⟨by (have z0 : jRng v2 := rv2; have z1 : jRng (C v0 0) := (hw.1 _ _); unfold jRng at z0 z1; omega), by (have z0 : jRng v2 := rv2; have z1 : jRng (C v0 0) := (hw.1 _ _); unfold jRng at z0 z1; omega)⟩)
              refine jg_sub [2, 3, 0] rfl ?_
              exact ih2 _ r20 h
            · refine jg_iconst (pc := 44) X d_1_accepts_44 ?_
              exact jg_ireturn (pc := 45) X hAe hlocks hr d_1_accepts_45 ⟨(Nat.le_of_ble_eq_true rfl), (Nat.le_of_ble_eq_true rfl)⟩ rfl (⟨by decide, by decide⟩ : jRng 1) hw ⟨rfl, h⟩
  obtain ⟨N, h⟩ := h
  refine jg_sub [1, 2, 0] rfl ?_
  exact jl2   N _ (⟨by decide, by decide⟩ : jRng 0) h
set_option maxHeartbeats 4000000 in
set_option maxRecDepth 100000 in
theorem m_2_firstUnlike {l : Launch} {Z : jE} {n : Nat} {C : jC} {v0 : Int} {v1 : Int} {v2 : Int} {post : Int → Prop} (tv0 : jT n v0 2) (tv1 : jT n v1 7) (rv2 : jRng v2) (hw0 : jWF n C) (h : wp_2_firstUnlike v0 v1 v2 C post) : jCi l y_2_firstUnlike prog_4_method_9_code 4 (.int) q_2_firstUnlike Z n C [jr Z v0, jr Z v1, jI v2] (fun x C9 => C9 = C ∧ post x) := by
  have hn := hw0.2.2.1
  unfold wp_2_firstUnlike at h
  refine jCi_of (lv0 := [(0, jr Z v0), (1, jr Z v1), (2, jI v2)]) (by decide) (Nat.le_of_ble_eq_true rfl) rfl ?_
  intro p e s m args below meth c A sz X hAe hr hlocks
  refine jg_iconst (pc := 0) X d_2_firstUnlike_0 ?_
  refine jg_istore_n (pc := 1) X [(3, jI 0), (0, jr Z v0), (1, jr Z v1), (2, jI v2)] d_2_firstUnlike_1 (by decide) rfl ?_
  have hw : jWF n C := hw0
  have jl2 : ∀  (N : Nat) (v3 : Int) (rv3 : jRng v3), jI1 (wp_2_firstUnlike_2 v0 v1 v2 C post) N v3 → jG p l e q_2_firstUnlike s m args below meth c 4 Z A (jws Z n C) 0 0 (MQ below (jQi Z n sz (fun x C9 => C9 = C ∧ post x)) args s q_2_firstUnlike.cells q_2_firstUnlike.slots (jA Z n sz)) 2 [(0, jr Z v0), (1, jr Z v1), (2, jI v2), (3, jI v3)] [] := by
    intro   N
    have hn := hw0.2.2.1
    induction N with
    | zero => intro v3 rv3 h; exact h.elim
    | succ N ih2 =>
      intro v3 rv3 h
      have h : wp_2_firstUnlike_2 v0 v1 v2 C post (jI1 (wp_2_firstUnlike_2 v0 v1 v2 C post) N) v3 := h
      generalize jI1 (wp_2_firstUnlike_2 v0 v1 v2 C post) N = k2 at h ih2
      unfold wp_2_firstUnlike_2 at h
      refine jg_iload_n (pc := 2) X d_2_firstUnlike_2 3 rfl ?_
      refine jg_iconst (pc := 3) X d_2_firstUnlike_3 ?_
      refine jg_icmp_ge (tgt := 33) (pc := 4) X d_2_firstUnlike_4 (by decide) rv3 (⟨by decide, by decide⟩ : jRng 5) h (fun c1 h => ?_) (fun c1 h => ?_)
      · refine jg_iconst (pc := 33) X d_2_firstUnlike_33 ?_
        exact jg_ireturn (pc := 34) X hAe hlocks hr d_2_firstUnlike_34 ⟨(Nat.le_of_ble_eq_true rfl), (Nat.le_of_ble_eq_true rfl)⟩ rfl (⟨by decide, by decide⟩ : jRng (-1)) hw ⟨rfl, h⟩
      · refine jg_aload_n (pc := 7) X d_2_firstUnlike_7 0 rfl ?_
        refine jgf_2_0 (pc := 8) X tv0 kw_107 d_2_firstUnlike_8 ?_
        refine jg_iload_n (pc := 11) X d_2_firstUnlike_11 3 rfl ?_
        obtain ⟨b2, h⟩ := h
        have b3 : v3 < 5 := by (have z0 : jRng v3 := rv3; unfold jRng at z0; omega)
        refine jg_aaloadF (pc := 12) X d_2_firstUnlike_12 (jc_le_0 hn tv0) b2 b3 ?_
        refine jg_aload_n (pc := 13) X d_2_firstUnlike_13 1 rfl ?_
        refine jg_iload_n (pc := 14) X d_2_firstUnlike_14 2 rfl ?_
        refine jg_iload_n (pc := 15) X d_2_firstUnlike_15 3 rfl ?_
        refine jg_pcallVi (pc := 16) X (m_7_valueAt tv1 rv2 rv3 hw h) jM_7_valueAt kw_747 tv1 rfl rfl rfl rfl rfl (Nat.le_of_ble_eq_true rfl) d_2_firstUnlike_16 ⟨(Nat.le_of_ble_eq_true rfl), (Nat.le_of_ble_eq_true rfl)⟩ ⟨(Nat.le_of_ble_eq_true rfl), (Nat.le_of_ble_eq_true rfl)⟩ (fun x4 r6 h => ?_)
        refine jg_pcallVi (pc := 19) X (m_1_accepts (jc_fa hn (jc_le_0 hn tv0) b2 b3) r6 hw h) jM_1_accepts kw_751 (jc_fa hn (jc_le_0 hn tv0) b2 b3) rfl rfl rfl rfl rfl (Nat.le_of_ble_eq_true rfl) d_2_firstUnlike_19 ⟨(Nat.le_of_ble_eq_true rfl), (Nat.le_of_ble_eq_true rfl)⟩ ⟨(Nat.le_of_ble_eq_true rfl), (Nat.le_of_ble_eq_true rfl)⟩ (fun x8 r10 h => ?_)
        refine jg_if_ne (tgt := 27) (pc := 22) X d_2_firstUnlike_22 (by decide) r10 h (fun c12 h => ?_) (fun c12 h => ?_)
        · refine jg_iload_n (pc := 25) X d_2_firstUnlike_25 3 rfl ?_
          exact jg_ireturn (pc := 26) X hAe hlocks hr d_2_firstUnlike_26 ⟨(Nat.le_of_ble_eq_true rfl), (Nat.le_of_ble_eq_true rfl)⟩ rfl rv3 hw ⟨rfl, h⟩
        · refine jg_iinc (pc := 27) X [(3, jI (v3 + 1)), (0, jr Z v0), (1, jr Z v1), (2, jI v2)] d_2_firstUnlike_27 3 rfl (by decide) rfl ?_
          refine jg_goto (tgt := 2) (pc := 30) X d_2_firstUnlike_30 (by decide) ?_
          have r13 : jRng (v3 + 1) := by (unfold jRng; exact ⟨by (have z0 : jRng v3 := rv3; unfold jRng at z0; omega), by (have z0 : jRng v3 := rv3; unfold jRng at z0; omega)⟩)
          refine jg_sub [1, 2, 3, 0] rfl ?_
          exact ih2 _ r13 h
  obtain ⟨N, h⟩ := h
  refine jg_sub [1, 2, 3, 0] rfl ?_
  exact jl2   N _ (⟨by decide, by decide⟩ : jRng 0) h
set_option maxHeartbeats 4000000 in
set_option maxRecDepth 100000 in
theorem m_8_joinOthers {l : Launch} {Z : jE} {n : Nat} {C : jC} {v0 : Int} {v1 : Int} {v2 : Int} {post : jC → Prop} (tv0 : jT n v0 8) (rv1 : jRng v1) (rv2 : jRng v2) (hw0 : jWF n C) (h : wp_8_joinOthers v0 v1 v2 C post) : jCv l y_8_joinOthers prog_10_method_3_code 4 q_8_joinOthers Z n C [jr Z v0, jI v1, jI v2] post := by
  have hn := hw0.2.2.1
  unfold wp_8_joinOthers at h
  refine jCv_of (lv0 := [(0, jr Z v0), (1, jI v1), (2, jI v2)]) (by decide) (Nat.le_of_ble_eq_true rfl) rfl ?_
  intro p e s m args below meth c A sz X hAe hr hlocks
  refine jg_iconst (pc := 0) X d_8_joinOthers_0 ?_
  refine jg_istore_n (pc := 1) X [(3, jI 0), (0, jr Z v0), (1, jI v1), (2, jI v2)] d_8_joinOthers_1 (by decide) rfl ?_
  have jl2 : ∀  (N : Nat) (v3 : Int) (C : jC) (rv3 : jRng v3) (hw : jWF n C), jI2 (wp_8_joinOthers_2 v0 v1 v2 post) N v3 C → jG p l e q_8_joinOthers s m args below meth c 4 Z A (jws Z n C) 0 0 (MQ below (jQv Z n sz post) args s q_8_joinOthers.cells q_8_joinOthers.slots (jA Z n sz)) 2 [(0, jr Z v0), (1, jI v1), (2, jI v2), (3, jI v3)] [] := by
    intro   N
    have hn := hw0.2.2.1
    induction N with
    | zero => intro v3 C rv3 hw h; exact h.elim
    | succ N ih2 =>
      intro v3 C rv3 hw h
      have h : wp_8_joinOthers_2 v0 v1 v2 post (jI2 (wp_8_joinOthers_2 v0 v1 v2 post) N) v3 C := h
      generalize jI2 (wp_8_joinOthers_2 v0 v1 v2 post) N = k2 at h ih2
      unfold wp_8_joinOthers_2 at h
      refine jg_iload_n (pc := 2) X d_8_joinOthers_2 3 rfl ?_
      refine jg_iconst (pc := 3) X d_8_joinOthers_3 ?_
      refine jg_icmp_ge (tgt := 52) (pc := 4) X d_8_joinOthers_4 (by decide) rv3 (⟨by decide, by decide⟩ : jRng 4) h (fun c1 h => ?_) (fun c1 h => ?_)
      · exact jg_return (pc := 52) X hAe hlocks hr d_8_joinOthers_52 ⟨(Nat.le_of_ble_eq_true rfl), (Nat.le_of_ble_eq_true rfl)⟩ hw h
      · refine jg_iload_n (pc := 7) X d_8_joinOthers_7 3 rfl ?_
        refine jg_iload_n (pc := 8) X d_8_joinOthers_8 2 rfl ?_
        refine jg_icmp_eq (tgt := 46) (pc := 9) X d_8_joinOthers_9 (by decide) rv3 rv2 h (fun c2 h => ?_) (fun c2 h => ?_)
        · refine jg_iinc (pc := 46) X [(3, jI (v3 + 1)), (0, jr Z v0), (1, jI v1), (2, jI v2)] d_8_joinOthers_46 3 rfl (by decide) rfl ?_
          refine jg_goto (tgt := 2) (pc := 49) X d_8_joinOthers_49 (by decide) ?_
          have r3 : jRng (v3 + 1) := by (unfold jRng; exact ⟨by (have z0 : jRng v3 := rv3; have z1 : jRng v2 := rv2; unfold jRng at z0 z1; omega), by (have z0 : jRng v3 := rv3; have z1 : jRng v2 := rv2; unfold jRng at z0 z1; omega)⟩)
          refine jg_sub [1, 2, 3, 0] rfl ?_
          exact ih2 _ _ r3 hw h
        · refine jg_aload_n (pc := 12) X d_8_joinOthers_12 0 rfl ?_
          refine jgf_8_1 (pc := 13) X tv0 kw_291 d_8_joinOthers_13 ?_
          refine jg_iload_n (pc := 16) X d_8_joinOthers_16 3 rfl ?_
          obtain ⟨b4, h⟩ := h
          have b5 : v3 < 4 := by (have z0 : jRng v3 := rv3; unfold jRng at z0; omega)
          refine jg_aaloadV (pc := 17) X d_8_joinOthers_17 (jc_st_1 hn tv0) b4 b5 ?_
          refine jgfN_10_0 (pc := 18) X (jc_va hn (jc_st_1 hn tv0) b4 b5) kn_270 d_8_joinOthers_18 ?_
          refine jg_aload_n (pc := 21) X d_8_joinOthers_21 0 rfl ?_
          refine jgf_8_0 (pc := 22) X tv0 kw_288 d_8_joinOthers_22 ?_
          refine jg_iload_n (pc := 25) X d_8_joinOthers_25 1 rfl ?_
          refine jg_pcallVi (pc := 26) X (m_2_firstUnlike (jc_vi_0 hn (jc_va hn (jc_st_1 hn tv0) b4 b5)) (jc_st_0 hn tv0) rv1 hw h) jM_2_firstUnlike kw_743 (jc_vi_0 hn (jc_va hn (jc_st_1 hn tv0) b4 b5)) rfl rfl rfl rfl rfl (Nat.le_of_ble_eq_true rfl) d_8_joinOthers_26 ⟨(Nat.le_of_ble_eq_true rfl), (Nat.le_of_ble_eq_true rfl)⟩ ⟨(Nat.le_of_ble_eq_true rfl), (Nat.le_of_ble_eq_true rfl)⟩ (fun x6 r8 h => ?_)
          refine jg_iconst (pc := 29) X d_8_joinOthers_29 ?_
          refine jg_icmp_ne (tgt := 46) (pc := 30) X d_8_joinOthers_30 (by decide) r8 (⟨by decide, by decide⟩ : jRng (-1)) h (fun c10 h => ?_) (fun c10 h => ?_)
          · refine jg_aload_n (pc := 33) X d_8_joinOthers_33 0 rfl ?_
            refine jgf_8_1 (pc := 34) X tv0 kw_291 d_8_joinOthers_34 ?_
            refine jg_iload_n (pc := 37) X d_8_joinOthers_37 3 rfl ?_
            have b11 : 0 ≤ v3 := by (have z0 : jRng v3 := rv3; unfold jRng at z0; omega)
            have b12 : v3 < 4 := by (have z0 : jRng v3 := rv3; unfold jRng at z0; omega)
            refine jg_aaloadV (pc := 38) X d_8_joinOthers_38 (jc_st_1 hn tv0) b11 b12 ?_
            refine jgfN_10_1 (pc := 39) X (jc_va hn (jc_st_1 hn tv0) b11 b12) kn_274 d_8_joinOthers_39 ?_
            refine jg_iload_n (pc := 42) X d_8_joinOthers_42 1 rfl ?_
            refine jg_callVv (pc := 43) X (m_6_putLast (jc_vi_1 hn (jc_va hn (jc_st_1 hn tv0) b11 b12)) rv1 hw h) jM_6_putLast kw_731 (jc_vi_1 hn (jc_va hn (jc_st_1 hn tv0) b11 b12)) rfl rfl rfl rfl rfl (Nat.le_of_ble_eq_true rfl) d_8_joinOthers_43 ⟨(Nat.le_of_ble_eq_true rfl), (Nat.le_of_ble_eq_true rfl)⟩ ⟨(Nat.le_of_ble_eq_true rfl), (Nat.le_of_ble_eq_true rfl)⟩ (fun C14 w16 h => ?_)
            refine jg_iinc (pc := 46) X [(3, jI (v3 + 1)), (0, jr Z v0), (1, jI v1), (2, jI v2)] d_8_joinOthers_46 3 rfl (by decide) rfl ?_
            refine jg_goto (tgt := 2) (pc := 49) X d_8_joinOthers_49 (by decide) ?_
            have r17 : jRng (v3 + 1) := by (unfold jRng; exact ⟨by (have z0 : jRng v3 := rv3; unfold jRng at z0; omega), by (have z0 : jRng v3 := rv3; unfold jRng at z0; omega)⟩)
            refine jg_sub [1, 2, 3, 0] rfl ?_
            exact ih2 _ _ r17 w16 h
          · refine jg_iinc (pc := 46) X [(3, jI (v3 + 1)), (0, jr Z v0), (1, jI v1), (2, jI v2)] d_8_joinOthers_46 3 rfl (by decide) rfl ?_
            refine jg_goto (tgt := 2) (pc := 49) X d_8_joinOthers_49 (by decide) ?_
            have r18 : jRng (v3 + 1) := by (unfold jRng; exact ⟨by (have z0 : jRng v3 := rv3; unfold jRng at z0; omega), by (have z0 : jRng v3 := rv3; unfold jRng at z0; omega)⟩)
            refine jg_sub [1, 2, 3, 0] rfl ?_
            exact ih2 _ _ r18 hw h
  obtain ⟨N, h⟩ := h
  refine jg_sub [1, 2, 3, 0] rfl ?_
  exact jl2   N _ _ (⟨by decide, by decide⟩ : jRng 0) hw0 h
set_option maxHeartbeats 4000000 in
set_option maxRecDepth 100000 in
theorem m_8_takeSheetText {l : Launch} {Z : jE} {n : Nat} {C : jC} {v0 : Int} {post : jC → Prop} (tv0 : jT n v0 8) (hw0 : jWF n C) (h : wp_8_takeSheetText v0 C post) : jCv l y_8_takeSheetText prog_10_method_2_code 5 q_8_takeSheetText Z n C [jr Z v0, jr Z 3] post := by
  have hn := hw0.2.2.1
  unfold wp_8_takeSheetText at h
  refine jCv_of (lv0 := [(0, jr Z v0), (1, jr Z 3)]) (by decide) (Nat.le_of_ble_eq_true rfl) rfl ?_
  intro p e s m args below meth c A sz X hAe hr hlocks
  refine jg_aload_n (pc := 0) X d_8_takeSheetText_0 0 rfl ?_
  refine jgf_8_0 (pc := 1) X tv0 kw_288 d_8_takeSheetText_1 ?_
  refine jg_aload_n (pc := 4) X d_8_takeSheetText_4 1 rfl ?_
  refine jgfN_9_0 (pc := 5) X (jl_3_9 hn) kn_124 d_8_takeSheetText_5 ?_
  refine jgpN_7_0 (pc := 8) X (jc_st_0 hn tv0) kn_173 d_8_takeSheetText_8 ?_
  have w1 := jWF.u (k := 0) (v := (C 3 0)) hw0 (jc_st_0 hn tv0) (by decide) (hw0.1 _ _)
  refine jg_aload_n (pc := 11) X d_8_takeSheetText_11 1 rfl ?_
  refine jgfN_9_1 (pc := 12) X (jl_3_9 hn) kn_127 d_8_takeSheetText_12 ?_
  refine jg_iconst (pc := 15) X d_8_takeSheetText_15 ?_
  refine jg_aload_n (pc := 16) X d_8_takeSheetText_16 0 rfl ?_
  refine jgf_8_0 (pc := 17) X tv0 kw_288 d_8_takeSheetText_17 ?_
  refine jgfN_7_1 (pc := 20) X (jc_st_0 hn tv0) kn_179 d_8_takeSheetText_20 ?_
  refine jg_iconst (pc := 23) X d_8_takeSheetText_23 ?_
  refine jg_iconst (pc := 24) X d_8_takeSheetText_24 ?_
  refine jg_copy (n0 := 5) (n1 := 5) (pc := 25) X kw_697 d_8_takeSheetText_25 kw_cp1 kw_cp2 kw_cp3 (jl_4_1005 hn) (fun _ => rfl) (jc_sh_1 hn (jc_st_0 hn tv0)) (fun _ => rfl) (by decide) (by decide) (by decide) (by decide) (by decide) (by decide) (by decide) ⟨(Nat.le_of_ble_eq_true rfl), (Nat.le_of_ble_eq_true rfl)⟩ ?_
  have w2 := jWF.cpy (src := 4) (sp := 0) (dp := 0) (len := 5) w1 (jc_sh_1 hn (jc_st_0 hn tv0)) (by decide)
  refine jg_iconst (pc := 28) X d_8_takeSheetText_28 ?_
  refine jg_istore_n (pc := 29) X [(2, jI 0), (0, jr Z v0), (1, jr Z 3)] d_8_takeSheetText_29 (by decide) rfl ?_
  have jl30 : ∀  (N : Nat) (v2 : Int) (C : jC) (rv2 : jRng v2) (hw : jWF n C), jI2 (wp_8_takeSheetText_30 v0 post) N v2 C → jG p l e q_8_takeSheetText s m args below meth c 5 Z A (jws Z n C) 0 0 (MQ below (jQv Z n sz post) args s q_8_takeSheetText.cells q_8_takeSheetText.slots (jA Z n sz)) 30 [(0, jr Z v0), (1, jr Z 3), (2, jI v2)] [] := by
    intro   N
    have hn := hw0.2.2.1
    induction N with
    | zero => intro v2 C rv2 hw h; exact h.elim
    | succ N ih30 =>
      intro v2 C rv2 hw h
      have h : wp_8_takeSheetText_30 v0 post (jI2 (wp_8_takeSheetText_30 v0 post) N) v2 C := h
      generalize jI2 (wp_8_takeSheetText_30 v0 post) N = k30 at h ih30
      unfold wp_8_takeSheetText_30 at h
      refine jg_iload_n (pc := 30) X d_8_takeSheetText_30 2 rfl ?_
      refine jg_aload_n (pc := 31) X d_8_takeSheetText_31 1 rfl ?_
      refine jgfN_9_2 (pc := 32) X (jl_3_9 hn) kn_129 d_8_takeSheetText_32 ?_
      refine jg_icmp_ge (tgt := 106) (pc := 35) X d_8_takeSheetText_35 (by decide) rv2 (hw.1 _ _) h (fun c3 h => ?_) (fun c3 h => ?_)
      · have c3 : (C 3 2) ≤ v2 := c3
        refine jg_aload_n (pc := 106) X d_8_takeSheetText_106 0 rfl ?_
        refine jgf_8_0 (pc := 107) X tv0 kw_288 d_8_takeSheetText_107 ?_
        refine jg_dup (pc := 110) X d_8_takeSheetText_110 rfl ?_
        refine jgfN_7_6 (pc := 111) X (jc_st_0 hn tv0) kn_188 d_8_takeSheetText_111 ?_
        refine jg_iconst (pc := 114) X d_8_takeSheetText_114 ?_
        refine jg_iadd (pc := 115) X d_8_takeSheetText_115 ?_
        obtain ⟨r4, h⟩ := h
        refine jgpN_7_6 (pc := 116) X (jc_st_0 hn tv0) kn_188 d_8_takeSheetText_116 ?_
        have w5 := jWF.u (k := 6) (v := ((C (v0 + 1) 6) + 1)) hw (jc_st_0 hn tv0) (by decide) r4
        exact jg_return (pc := 119) X hAe hlocks hr d_8_takeSheetText_119 ⟨(Nat.le_of_ble_eq_true rfl), (Nat.le_of_ble_eq_true rfl)⟩ w5 h
      · have c3 : ¬ ((C 3 2) ≤ v2) := c3
        refine jg_aload_n (pc := 38) X d_8_takeSheetText_38 0 rfl ?_
        refine jgf_8_0 (pc := 39) X tv0 kw_288 d_8_takeSheetText_39 ?_
        refine jg_callVi (pc := 42) X (m_7_seatNewRow (jc_st_0 hn tv0) hw h) jM_7_seatNewRow kw_698 (jc_st_0 hn tv0) rfl rfl rfl rfl rfl (Nat.le_of_ble_eq_true rfl) d_8_takeSheetText_42 ⟨(Nat.le_of_ble_eq_true rfl), (Nat.le_of_ble_eq_true rfl)⟩ ⟨(Nat.le_of_ble_eq_true rfl), (Nat.le_of_ble_eq_true rfl)⟩ (fun x6 C7 r8 w9 h => ?_)
        refine jg_istore_n (pc := 45) X [(3, jI x6), (0, jr Z v0), (1, jr Z 3), (2, jI v2)] d_8_takeSheetText_45 (by decide) rfl ?_
        refine jg_iconst (pc := 46) X d_8_takeSheetText_46 ?_
        refine jg_istore (pc := 47) X [(4, jI 0), (3, jI x6), (0, jr Z v0), (1, jr Z 3), (2, jI v2)] d_8_takeSheetText_47 (by decide) rfl ?_
        have jl49 : ∀ (v3 : Int) (rv3 : jRng v3) (N : Nat) (v4 : Int) (C : jC) (rv4 : jRng v4) (hw : jWF n C), jI2 (wp_8_takeSheetText_49 v0 v2 v3 post k30) N v4 C → jG p l e q_8_takeSheetText s m args below meth c 5 Z A (jws Z n C) 0 0 (MQ below (jQv Z n sz post) args s q_8_takeSheetText.cells q_8_takeSheetText.slots (jA Z n sz)) 49 [(0, jr Z v0), (1, jr Z 3), (2, jI v2), (3, jI v3), (4, jI v4)] [] := by
          intro v3 rv3 N
          have hn := hw0.2.2.1
          induction N with
          | zero => intro v4 C rv4 hw h; exact h.elim
          | succ N ih49 =>
            intro v4 C rv4 hw h
            have h : wp_8_takeSheetText_49 v0 v2 v3 post k30 (jI2 (wp_8_takeSheetText_49 v0 v2 v3 post k30) N) v4 C := h
            generalize jI2 (wp_8_takeSheetText_49 v0 v2 v3 post k30) N = k49 at h ih49
            unfold wp_8_takeSheetText_49 at h
            refine jg_iload (pc := 49) X d_8_takeSheetText_49 4 rfl ?_
            refine jg_aload_n (pc := 51) X d_8_takeSheetText_51 1 rfl ?_
            refine jg_iload_n (pc := 52) X d_8_takeSheetText_52 2 rfl ?_
            refine jg_pcallVi (pc := 53) X (m_9_widthOf rv2 hw h) jM_9_widthOf kw_720 (jl_3_9 hn) rfl rfl rfl rfl rfl (Nat.le_of_ble_eq_true rfl) d_8_takeSheetText_53 ⟨(Nat.le_of_ble_eq_true rfl), (Nat.le_of_ble_eq_true rfl)⟩ ⟨(Nat.le_of_ble_eq_true rfl), (Nat.le_of_ble_eq_true rfl)⟩ (fun x10 r12 h => ?_)
            refine jg_icmp_ge (tgt := 83) (pc := 56) X d_8_takeSheetText_56 (by decide) rv4 r12 h (fun c14 h => ?_) (fun c14 h => ?_)
            · refine jg_aload_n (pc := 83) X d_8_takeSheetText_83 0 rfl ?_
              refine jgf_8_0 (pc := 84) X tv0 kw_288 d_8_takeSheetText_84 ?_
              refine jgfN_7_5 (pc := 87) X (jc_st_0 hn tv0) kn_185 d_8_takeSheetText_87 ?_
              refine jg_iload_n (pc := 90) X d_8_takeSheetText_90 3 rfl ?_
              refine jg_callVv (pc := 91) X (m_6_putLast (jc_sh_5 hn (jc_st_0 hn tv0)) rv3 hw h) jM_6_putLast kw_731 (jc_sh_5 hn (jc_st_0 hn tv0)) rfl rfl rfl rfl rfl (Nat.le_of_ble_eq_true rfl) d_8_takeSheetText_91 ⟨(Nat.le_of_ble_eq_true rfl), (Nat.le_of_ble_eq_true rfl)⟩ ⟨(Nat.le_of_ble_eq_true rfl), (Nat.le_of_ble_eq_true rfl)⟩ (fun C16 w18 h => ?_)
              refine jg_aload_n (pc := 94) X d_8_takeSheetText_94 0 rfl ?_
              refine jg_iload_n (pc := 95) X d_8_takeSheetText_95 3 rfl ?_
              refine jg_iconst (pc := 96) X d_8_takeSheetText_96 ?_
              refine jg_callVv (pc := 97) X (m_8_joinOthers tv0 rv3 (⟨by decide, by decide⟩ : jRng (-1)) w18 h) jM_8_joinOthers kw_739 tv0 rfl rfl rfl rfl rfl (Nat.le_of_ble_eq_true rfl) d_8_takeSheetText_97 ⟨(Nat.le_of_ble_eq_true rfl), (Nat.le_of_ble_eq_true rfl)⟩ ⟨(Nat.le_of_ble_eq_true rfl), (Nat.le_of_ble_eq_true rfl)⟩ (fun C20 w22 h => ?_)
              refine jg_iinc (pc := 100) X [(2, jI (v2 + 1)), (0, jr Z v0), (1, jr Z 3), (3, jI v3), (4, jI v4)] d_8_takeSheetText_100 2 rfl (by decide) rfl ?_
              refine jg_goto (tgt := 30) (pc := 103) X d_8_takeSheetText_103 (by decide) ?_
              obtain ⟨r23, h⟩ := h
              refine jg_sub [1, 2, 0] rfl ?_
              exact ih30 _ _ r23 w22 h
            · refine jg_aload_n (pc := 59) X d_8_takeSheetText_59 0 rfl ?_
              refine jgf_8_0 (pc := 60) X tv0 kw_288 d_8_takeSheetText_60 ?_
              refine jg_iload_n (pc := 63) X d_8_takeSheetText_63 3 rfl ?_
              refine jg_iload (pc := 64) X d_8_takeSheetText_64 4 rfl ?_
              refine jg_aload_n (pc := 66) X d_8_takeSheetText_66 1 rfl ?_
              refine jg_iload_n (pc := 67) X d_8_takeSheetText_67 2 rfl ?_
              refine jg_iload (pc := 68) X d_8_takeSheetText_68 4 rfl ?_
              refine jg_pcallVi (pc := 70) X (m_9_toldAt rv2 rv4 hw h) jM_9_toldAt kw_724 (jl_3_9 hn) rfl rfl rfl rfl rfl (Nat.le_of_ble_eq_true rfl) d_8_takeSheetText_70 ⟨(Nat.le_of_ble_eq_true rfl), (Nat.le_of_ble_eq_true rfl)⟩ ⟨(Nat.le_of_ble_eq_true rfl), (Nat.le_of_ble_eq_true rfl)⟩ (fun x24 r26 h => ?_)
              refine jg_iconst (pc := 73) X d_8_takeSheetText_73 ?_
              refine jg_callVv (pc := 74) X (m_7_write (jc_st_0 hn tv0) rv3 rv4 r26 (⟨by decide, by decide⟩ : jRng (-1)) hw h) jM_7_write kw_730 (jc_st_0 hn tv0) rfl rfl rfl rfl rfl (Nat.le_of_ble_eq_true rfl) d_8_takeSheetText_74 ⟨(Nat.le_of_ble_eq_true rfl), (Nat.le_of_ble_eq_true rfl)⟩ ⟨(Nat.le_of_ble_eq_true rfl), (Nat.le_of_ble_eq_true rfl)⟩ (fun C29 w31 h => ?_)
              refine jg_iinc (pc := 77) X [(4, jI (v4 + 1)), (0, jr Z v0), (1, jr Z 3), (2, jI v2), (3, jI v3)] d_8_takeSheetText_77 4 rfl (by decide) rfl ?_
              refine jg_goto (tgt := 49) (pc := 80) X d_8_takeSheetText_80 (by decide) ?_
              have r32 : jRng (v4 + 1) := by (unfold jRng; exact ⟨by (have z0 : jRng v4 := rv4; have z1 : jRng x10 := r12; unfold jRng at z0 z1; omega), by (have z0 : jRng v4 := rv4; have z1 : jRng x10 := r12; unfold jRng at z0 z1; omega)⟩)
              refine jg_sub [1, 2, 3, 4, 0] rfl ?_
              exact ih49 _ _ r32 w31 h
        obtain ⟨N, h⟩ := h
        refine jg_sub [2, 3, 4, 1, 0] rfl ?_
        exact jl49 _ r8 N _ _ (⟨by decide, by decide⟩ : jRng 0) w9 h
  obtain ⟨N, h⟩ := h
  refine jg_sub [1, 2, 0] rfl ?_
  exact jl30   N _ _ (⟨by decide, by decide⟩ : jRng 0) w2 h
set_option maxHeartbeats 4000000 in
set_option maxRecDepth 100000 in
theorem m_11_sheet {l : Launch} {Z : jE} {n : Nat} {C : jC}  {ex : String → jC → Prop} {post : Int → jC → Prop}  (hw0 : jWF n C) (h : wp_11_sheet C ex post) : jXi l y_11_sheet prog_1_method_4_code 1 (.int) q_11_sheet Z n C [jr Z 0] ex post := by
  have hn := hw0.2.2.1
  unfold wp_11_sheet at h
  refine jXi_of (lv0 := [(0, jr Z 0)]) (by decide) (Nat.le_of_ble_eq_true rfl) rfl ?_
  intro p e s m args below meth c A sz X hAe hr hlocks htab
  refine jg_aload_n (pc := 0) X d_11_sheet_0 0 rfl ?_
  refine jgf_11_0 (pc := 1) X (jl_0_11 hn) kw_336 d_11_sheet_1 ?_
  refine jg_callVv (pc := 4) X (m_5_openText hw0 h) jM_5_openText kw_457 (jl_1_5 hn) rfl rfl rfl rfl rfl (Nat.le_of_ble_eq_true rfl) d_11_sheet_4 ⟨(Nat.le_of_ble_eq_true rfl), (Nat.le_of_ble_eq_true rfl)⟩ ⟨(Nat.le_of_ble_eq_true rfl), (Nat.le_of_ble_eq_true rfl)⟩ (fun C2 w4 h => ?_)
  refine jg_aload_n (pc := 7) X d_11_sheet_7 0 rfl ?_
  refine jgf_11_1 (pc := 8) X (jl_0_11 hn) kw_337 d_11_sheet_8 ?_
  refine jg_aload_n (pc := 11) X d_11_sheet_11 0 rfl ?_
  refine jgf_11_0 (pc := 12) X (jl_0_11 hn) kw_336 d_11_sheet_12 ?_
  refine jg_aload_n (pc := 15) X d_11_sheet_15 0 rfl ?_
  refine jgf_11_2 (pc := 16) X (jl_0_11 hn) kw_338 d_11_sheet_16 ?_
  refine jgfN_8_0 (pc := 19) X (jl_35_8 hn) kn_290 d_11_sheet_19 ?_
  refine jg_callVi (pc := 22) X (m_9_readSheet (jl_36_7 hn) w4 h) jM_9_readSheet kw_469 (jl_3_9 hn) rfl rfl rfl rfl rfl (Nat.le_of_ble_eq_true rfl) d_11_sheet_22 ⟨(Nat.le_of_ble_eq_true rfl), (Nat.le_of_ble_eq_true rfl)⟩ ⟨(Nat.le_of_ble_eq_true rfl), (Nat.le_of_ble_eq_true rfl)⟩ (fun x5 C6 r7 w8 h => ?_)
  refine jg_if_ne (tgt := 36) (pc := 25) X d_11_sheet_25 (by decide) r7 h (fun c9 h => ?_) (fun c9 h => ?_)
  · exact jg_throw (pc := 28) X hAe htab hlocks (by decide) kw_612 kw_22 th_58 tg_58 d_11_sheet_28 d_11_sheet_31 d_11_sheet_32 d_11_sheet_35 ⟨(Nat.le_of_ble_eq_true rfl), (Nat.le_of_ble_eq_true rfl), (Nat.le_of_ble_eq_true rfl), (Nat.le_of_ble_eq_true rfl)⟩ ⟨(Nat.le_of_ble_eq_true rfl), (Nat.le_of_ble_eq_true rfl)⟩ w8 h
  · refine jg_aload_n (pc := 36) X d_11_sheet_36 0 rfl ?_
    refine jgf_11_2 (pc := 37) X (jl_0_11 hn) kw_338 d_11_sheet_37 ?_
    refine jgfN_8_0 (pc := 40) X (jl_35_8 hn) kn_290 d_11_sheet_40 ?_
    refine jgfN_7_6 (pc := 43) X (jl_36_7 hn) kn_189 d_11_sheet_43 ?_
    refine jg_bipush (pc := 46) X d_11_sheet_46 rfl ?_
    refine jg_icmp_lt (tgt := 59) (pc := 48) X d_11_sheet_48 (by decide) (w8.1 _ _) (⟨by decide, by decide⟩ : jRng 12) h (fun c10 h => ?_) (fun c10 h => ?_)
    · have c10 : (C6 36 6) < 12 := c10
      refine jg_aload_n (pc := 59) X d_11_sheet_59 0 rfl ?_
      refine jgf_11_2 (pc := 60) X (jl_0_11 hn) kw_338 d_11_sheet_60 ?_
      refine jg_aload_n (pc := 63) X d_11_sheet_63 0 rfl ?_
      refine jgf_11_1 (pc := 64) X (jl_0_11 hn) kw_337 d_11_sheet_64 ?_
      refine jg_callVv (pc := 67) X (m_8_takeSheetText (jl_35_8 hn) w8 h) jM_8_takeSheetText kw_693 (jl_35_8 hn) rfl rfl rfl rfl rfl (Nat.le_of_ble_eq_true rfl) d_11_sheet_67 ⟨(Nat.le_of_ble_eq_true rfl), (Nat.le_of_ble_eq_true rfl)⟩ ⟨(Nat.le_of_ble_eq_true rfl), (Nat.le_of_ble_eq_true rfl)⟩ (fun C12 w14 h => ?_)
      refine jg_aload_n (pc := 70) X d_11_sheet_70 0 rfl ?_
      refine jgf_11_2 (pc := 71) X (jl_0_11 hn) kw_338 d_11_sheet_71 ?_
      refine jgfN_8_0 (pc := 74) X (jl_35_8 hn) kn_290 d_11_sheet_74 ?_
      refine jgfN_7_6 (pc := 77) X (jl_36_7 hn) kn_189 d_11_sheet_77 ?_
      refine jg_ret_x ?_
      exact jg_ireturn (pc := 80) X hAe hlocks hr d_11_sheet_80 ⟨(Nat.le_of_ble_eq_true rfl), (Nat.le_of_ble_eq_true rfl)⟩ rfl (w14.1 _ _) w14 h
    · have c10 : ¬ ((C6 36 6) < 12) := c10
      exact jg_throw (pc := 51) X hAe htab hlocks (by decide) kw_678 kw_23 th_65 tg_65 d_11_sheet_51 d_11_sheet_54 d_11_sheet_55 d_11_sheet_58 ⟨(Nat.le_of_ble_eq_true rfl), (Nat.le_of_ble_eq_true rfl), (Nat.le_of_ble_eq_true rfl), (Nat.le_of_ble_eq_true rfl)⟩ ⟨(Nat.le_of_ble_eq_true rfl), (Nat.le_of_ble_eq_true rfl)⟩ w8 h
set_option maxHeartbeats 4000000 in
set_option maxRecDepth 100000 in
theorem m_11_viewNumbered {l : Launch} {Z : jE} {n : Nat} {C : jC} {v1 : Int} {ex : String → jC → Prop} {post : Int → Prop} (rv1 : jRng v1) (hw0 : jWF n C) (h : wp_11_viewNumbered v1 C ex post) : jXr l y_11_viewNumbered prog_1_method_47_code 2 ((.object "PrivateViews$View")) q_11_viewNumbered Z n C [jr Z 0, jI v1] ex (fun x C9 => C9 = C ∧ jT n x 10 ∧ post x) := by
  have hn := hw0.2.2.1
  unfold wp_11_viewNumbered at h
  refine jXr_of (lv0 := [(0, jr Z 0), (1, jI v1)]) (by decide) (Nat.le_of_ble_eq_true rfl) rfl ?_
  intro p e s m args below meth c A sz X hAe hr hlocks htab
  refine jg_iload_n (pc := 0) X d_11_viewNumbered_0 1 rfl ?_
  refine jg_if_lt (tgt := 9) (pc := 1) X d_11_viewNumbered_1 (by decide) rv1 h (fun c1 h => ?_) (fun c1 h => ?_)
  · exact jg_throw (pc := 9) X hAe htab hlocks (by decide) kw_776 kw_24 th_347 tg_347 d_11_viewNumbered_9 d_11_viewNumbered_12 d_11_viewNumbered_13 d_11_viewNumbered_16 ⟨(Nat.le_of_ble_eq_true rfl), (Nat.le_of_ble_eq_true rfl), (Nat.le_of_ble_eq_true rfl), (Nat.le_of_ble_eq_true rfl)⟩ ⟨(Nat.le_of_ble_eq_true rfl), (Nat.le_of_ble_eq_true rfl)⟩ hw0 h
  · refine jg_iload_n (pc := 4) X d_11_viewNumbered_4 1 rfl ?_
    refine jg_iconst (pc := 5) X d_11_viewNumbered_5 ?_
    refine jg_icmp_lt (tgt := 17) (pc := 6) X d_11_viewNumbered_6 (by decide) rv1 (⟨by decide, by decide⟩ : jRng 4) h (fun c2 h => ?_) (fun c2 h => ?_)
    · refine jg_aload_n (pc := 17) X d_11_viewNumbered_17 0 rfl ?_
      refine jgf_11_2 (pc := 18) X (jl_0_11 hn) kw_338 d_11_viewNumbered_18 ?_
      refine jgfN_8_1 (pc := 21) X (jl_35_8 hn) kn_292 d_11_viewNumbered_21 ?_
      refine jg_iload_n (pc := 24) X d_11_viewNumbered_24 1 rfl ?_
      have b3 : 0 ≤ v1 := by (have z0 : jRng v1 := rv1; unfold jRng at z0; omega)
      have b4 : v1 < 4 := by (have z0 : jRng v1 := rv1; unfold jRng at z0; omega)
      refine jg_aaloadV (pc := 25) X d_11_viewNumbered_25 (jl_43_23 hn) b3 b4 ?_
      refine jg_ret_x ?_
      refine jg_eqst (congrArg (· :: _) (jn_pos (jc_va hn (jl_43_23 hn) b3 b4).1).symm) ?_
      exact jg_areturn (pc := 26) X hAe hlocks hr (Or.inl ⟨_, rfl⟩) d_11_viewNumbered_26 ⟨(Nat.le_of_ble_eq_true rfl), (Nat.le_of_ble_eq_true rfl)⟩ hw0 ⟨rfl, (jc_va hn (jl_43_23 hn) b3 b4), h⟩
    · exact jg_throw (pc := 9) X hAe htab hlocks (by decide) kw_776 kw_24 th_347 tg_347 d_11_viewNumbered_9 d_11_viewNumbered_12 d_11_viewNumbered_13 d_11_viewNumbered_16 ⟨(Nat.le_of_ble_eq_true rfl), (Nat.le_of_ble_eq_true rfl), (Nat.le_of_ble_eq_true rfl), (Nat.le_of_ble_eq_true rfl)⟩ ⟨(Nat.le_of_ble_eq_true rfl), (Nat.le_of_ble_eq_true rfl)⟩ hw0 h
set_option maxHeartbeats 4000000 in
set_option maxRecDepth 100000 in
theorem m_2_forget {l : Launch} {Z : jE} {n : Nat} {C : jC} {v0 : Int} {post : jC → Prop} (tv0 : jT n v0 2) (hw0 : jWF n C) (h : wp_2_forget v0 C post) : jCv l y_2_forget prog_4_method_2_code 2 q_2_forget Z n C [jr Z v0] post := by
  have hn := hw0.2.2.1
  unfold wp_2_forget at h
  refine jCv_of (lv0 := [(0, jr Z v0)]) (by decide) (Nat.le_of_ble_eq_true rfl) rfl ?_
  intro p e s m args below meth c A sz X hAe hr hlocks
  refine jg_iconst (pc := 0) X d_2_forget_0 ?_
  refine jg_istore_n (pc := 1) X [(1, jI 0), (0, jr Z v0)] d_2_forget_1 (by decide) rfl ?_
  have jl2 : ∀  (N : Nat) (v1 : Int) (C : jC) (rv1 : jRng v1) (hw : jWF n C), jI2 (wp_2_forget_2 v0 post) N v1 C → jG p l e q_2_forget s m args below meth c 2 Z A (jws Z n C) 0 0 (MQ below (jQv Z n sz post) args s q_2_forget.cells q_2_forget.slots (jA Z n sz)) 2 [(0, jr Z v0), (1, jI v1)] [] := by
    intro   N
    have hn := hw0.2.2.1
    induction N with
    | zero => intro v1 C rv1 hw h; exact h.elim
    | succ N ih2 =>
      intro v1 C rv1 hw h
      have h : wp_2_forget_2 v0 post (jI2 (wp_2_forget_2 v0 post) N) v1 C := h
      generalize jI2 (wp_2_forget_2 v0 post) N = k2 at h ih2
      unfold wp_2_forget_2 at h
      refine jg_iload_n (pc := 2) X d_2_forget_2 1 rfl ?_
      refine jg_iconst (pc := 3) X d_2_forget_3 ?_
      refine jg_icmp_ge (tgt := 23) (pc := 4) X d_2_forget_4 (by decide) rv1 (⟨by decide, by decide⟩ : jRng 5) h (fun c1 h => ?_) (fun c1 h => ?_)
      · refine jg_aload_n (pc := 23) X d_2_forget_23 0 rfl ?_
        refine jg_iconst (pc := 24) X d_2_forget_24 ?_
        refine jgp_2_2 (pc := 25) X tv0 kw_109 d_2_forget_25 ?_
        have w2 := jWF.u (k := 2) (v := 0) hw tv0 (by decide) (⟨by decide, by decide⟩ : jRng 0)
        refine jg_aload_n (pc := 28) X d_2_forget_28 0 rfl ?_
        refine jg_iconst (pc := 29) X d_2_forget_29 ?_
        refine jgp_2_3 (pc := 30) X tv0 kw_112 d_2_forget_30 ?_
        have w3 := jWF.u (k := 3) (v := 0) w2 tv0 (by decide) (⟨by decide, by decide⟩ : jRng 0)
        exact jg_return (pc := 33) X hAe hlocks hr d_2_forget_33 ⟨(Nat.le_of_ble_eq_true rfl), (Nat.le_of_ble_eq_true rfl)⟩ w3 h
      · refine jg_aload_n (pc := 7) X d_2_forget_7 0 rfl ?_
        refine jgf_2_0 (pc := 8) X tv0 kw_107 d_2_forget_8 ?_
        refine jg_iload_n (pc := 11) X d_2_forget_11 1 rfl ?_
        obtain ⟨b4, h⟩ := h
        have b5 : v1 < 5 := by (have z0 : jRng v1 := rv1; unfold jRng at z0; omega)
        refine jg_aaloadF (pc := 12) X d_2_forget_12 (jc_le_0 hn tv0) b4 b5 ?_
        refine jg_iconst (pc := 13) X d_2_forget_13 ?_
        refine jgpN_1_0 (pc := 14) X (jc_fa hn (jc_le_0 hn tv0) b4 b5) kn_90 d_2_forget_14 ?_
        have w6 := jWF.u (k := 0) (v := 0) hw (jc_fa hn (jc_le_0 hn tv0) b4 b5) (by decide) (⟨by decide, by decide⟩ : jRng 0)
        refine jg_iinc (pc := 17) X [(1, jI (v1 + 1)), (0, jr Z v0)] d_2_forget_17 1 rfl (by decide) rfl ?_
        refine jg_goto (tgt := 2) (pc := 20) X d_2_forget_20 (by decide) ?_
        have r7 : jRng (v1 + 1) := by (unfold jRng; exact ⟨by (have z0 : jRng v1 := rv1; unfold jRng at z0; omega), by (have z0 : jRng v1 := rv1; unfold jRng at z0; omega)⟩)
        refine jg_sub [1, 0] rfl ?_
        exact ih2 _ _ r7 w6 h
  obtain ⟨N, h⟩ := h
  refine jg_sub [1, 0] rfl ?_
  exact jl2   N _ _ (⟨by decide, by decide⟩ : jRng 0) hw0 h
set_option maxHeartbeats 4000000 in
set_option maxRecDepth 100000 in
theorem m_9_readColumn {l : Launch} {Z : jE} {n : Nat} {C : jC}  {post : Int → jC → Prop}  (hw0 : jWF n C) (h : wp_9_readColumn C post) : jCi l y_9_readColumn prog_11_method_14_code 2 (.boolean) q_9_readColumn Z n C [jr Z 3, jr Z 1] post := by
  have hn := hw0.2.2.1
  unfold wp_9_readColumn at h
  refine jCi_of (lv0 := [(0, jr Z 3), (1, jr Z 1)]) (by decide) (Nat.le_of_ble_eq_true rfl) rfl ?_
  intro p e s m args below meth c A sz X hAe hr hlocks
  refine jg_aload_n (pc := 0) X d_9_readColumn_0 1 rfl ?_
  refine jg_iconst (pc := 1) X d_9_readColumn_1 ?_
  refine jg_callVi (pc := 2) X (m_5_takeNumber (⟨by decide, by decide⟩ : jRng 0) hw0 h) jM_5_takeNumber kw_813 (jl_1_5 hn) rfl rfl rfl rfl rfl (Nat.le_of_ble_eq_true rfl) d_9_readColumn_2 ⟨(Nat.le_of_ble_eq_true rfl), (Nat.le_of_ble_eq_true rfl)⟩ ⟨(Nat.le_of_ble_eq_true rfl), (Nat.le_of_ble_eq_true rfl)⟩ (fun x1 C2 r3 w4 h => ?_)
  refine jg_if_ne (tgt := 10) (pc := 5) X d_9_readColumn_5 (by decide) r3 h (fun c5 h => ?_) (fun c5 h => ?_)
  · refine jg_iconst (pc := 8) X d_9_readColumn_8 ?_
    exact jg_ireturn (pc := 9) X hAe hlocks hr d_9_readColumn_9 ⟨(Nat.le_of_ble_eq_true rfl), (Nat.le_of_ble_eq_true rfl)⟩ rfl (⟨by decide, by decide⟩ : jRng 0) w4 h
  · refine jg_aload_n (pc := 10) X d_9_readColumn_10 1 rfl ?_
    refine jgfN_5_5 (pc := 11) X (jl_1_5 hn) kn_50 d_9_readColumn_11 ?_
    refine jg_aload_n (pc := 14) X d_9_readColumn_14 0 rfl ?_
    refine jgf_9_0 (pc := 15) X (jl_3_9 hn) kw_125 d_9_readColumn_15 ?_
    refine jg_icmp_lt (tgt := 32) (pc := 18) X d_9_readColumn_18 (by decide) (w4.1 _ _) (w4.1 _ _) h (fun c6 h => ?_) (fun c6 h => ?_)
    · have c6 : (C2 1 5) < (C2 3 0) := c6
      refine jg_iconst (pc := 32) X d_9_readColumn_32 ?_
      refine jg_goto (tgt := 37) (pc := 33) X d_9_readColumn_33 (by decide) ?_
      exact jg_ireturn (pc := 37) X hAe hlocks hr d_9_readColumn_37 ⟨(Nat.le_of_ble_eq_true rfl), (Nat.le_of_ble_eq_true rfl)⟩ rfl (⟨by decide, by decide⟩ : jRng 1) w4 h
    · have c6 : ¬ ((C2 1 5) < (C2 3 0)) := c6
      refine jg_aload_n (pc := 21) X d_9_readColumn_21 1 rfl ?_
      refine jg_aload_n (pc := 22) X d_9_readColumn_22 1 rfl ?_
      refine jgfN_5_6 (pc := 23) X (jl_1_5 hn) kn_52 d_9_readColumn_23 ?_
      refine jg_callVi (pc := 26) X (m_5_failAt (w4.1 _ _) w4 h) jM_5_failAt kw_559 (jl_1_5 hn) rfl rfl rfl rfl rfl (Nat.le_of_ble_eq_true rfl) d_9_readColumn_26 ⟨(Nat.le_of_ble_eq_true rfl), (Nat.le_of_ble_eq_true rfl)⟩ ⟨(Nat.le_of_ble_eq_true rfl), (Nat.le_of_ble_eq_true rfl)⟩ (fun x7 C8 r9 w10 h => ?_)
      refine jg_if_eq (tgt := 36) (pc := 29) X d_9_readColumn_29 (by decide) r9 h (fun c11 h => ?_) (fun c11 h => ?_)
      · refine jg_iconst (pc := 36) X d_9_readColumn_36 ?_
        exact jg_ireturn (pc := 37) X hAe hlocks hr d_9_readColumn_37 ⟨(Nat.le_of_ble_eq_true rfl), (Nat.le_of_ble_eq_true rfl)⟩ rfl (⟨by decide, by decide⟩ : jRng 0) w10 h
      · refine jg_iconst (pc := 32) X d_9_readColumn_32 ?_
        refine jg_goto (tgt := 37) (pc := 33) X d_9_readColumn_33 (by decide) ?_
        exact jg_ireturn (pc := 37) X hAe hlocks hr d_9_readColumn_37 ⟨(Nat.le_of_ble_eq_true rfl), (Nat.le_of_ble_eq_true rfl)⟩ rfl (⟨by decide, by decide⟩ : jRng 1) w10 h
set_option maxHeartbeats 4000000 in
set_option maxRecDepth 100000 in
theorem m_2_filterOf {l : Launch} {Z : jE} {n : Nat} {C : jC} {v0 : Int} {v1 : Int} {post : Int → Prop} (tv0 : jT n v0 2) (rv1 : jRng v1) (hw0 : jWF n C) (h : wp_2_filterOf v0 v1 C post) : jCr l y_2_filterOf prog_4_method_3_code 2 ((.object "PrivateViews$Filter")) q_2_filterOf Z n C [jr Z v0, jI v1] (fun x C9 => C9 = C ∧ (x < 0 ∨ jT n x 1) ∧ post x) := by
  have hn := hw0.2.2.1
  unfold wp_2_filterOf at h
  refine jCr_of (lv0 := [(0, jr Z v0), (1, jI v1)]) (by decide) (Nat.le_of_ble_eq_true rfl) rfl ?_
  intro p e s m args below meth c A sz X hAe hr hlocks
  refine jg_iload_n (pc := 0) X d_2_filterOf_0 1 rfl ?_
  refine jg_if_lt (tgt := 18) (pc := 1) X d_2_filterOf_1 (by decide) rv1 h (fun c1 h => ?_) (fun c1 h => ?_)
  · refine jg_null (pc := 18) X d_2_filterOf_18 ?_
    exact jg_areturn (pc := 19) X hAe hlocks hr (Or.inl ⟨_, rfl⟩) d_2_filterOf_19 ⟨(Nat.le_of_ble_eq_true rfl), (Nat.le_of_ble_eq_true rfl)⟩ hw0 ⟨rfl, (Or.inl (by decide)), h⟩
  · refine jg_iload_n (pc := 4) X d_2_filterOf_4 1 rfl ?_
    refine jg_iconst (pc := 5) X d_2_filterOf_5 ?_
    refine jg_icmp_ge (tgt := 18) (pc := 6) X d_2_filterOf_6 (by decide) rv1 (⟨by decide, by decide⟩ : jRng 5) h (fun c2 h => ?_) (fun c2 h => ?_)
    · refine jg_null (pc := 18) X d_2_filterOf_18 ?_
      exact jg_areturn (pc := 19) X hAe hlocks hr (Or.inl ⟨_, rfl⟩) d_2_filterOf_19 ⟨(Nat.le_of_ble_eq_true rfl), (Nat.le_of_ble_eq_true rfl)⟩ hw0 ⟨rfl, (Or.inl (by decide)), h⟩
    · refine jg_aload_n (pc := 9) X d_2_filterOf_9 0 rfl ?_
      refine jgf_2_0 (pc := 10) X tv0 kw_107 d_2_filterOf_10 ?_
      refine jg_iload_n (pc := 13) X d_2_filterOf_13 1 rfl ?_
      have b3 : 0 ≤ v1 := by (have z0 : jRng v1 := rv1; unfold jRng at z0; omega)
      have b4 : v1 < 5 := by (have z0 : jRng v1 := rv1; unfold jRng at z0; omega)
      refine jg_aaloadF (pc := 14) X d_2_filterOf_14 (jc_le_0 hn tv0) b3 b4 ?_
      refine jg_goto (tgt := 19) (pc := 15) X d_2_filterOf_15 (by decide) ?_
      refine jg_eqst (congrArg (· :: _) (jn_pos (jc_fa hn (jc_le_0 hn tv0) b3 b4).1).symm) ?_
      exact jg_areturn (pc := 19) X hAe hlocks hr (Or.inl ⟨_, rfl⟩) d_2_filterOf_19 ⟨(Nat.le_of_ble_eq_true rfl), (Nat.le_of_ble_eq_true rfl)⟩ hw0 ⟨rfl, (Or.inr (jc_fa hn (jc_le_0 hn tv0) b3 b4)), h⟩
set_option maxHeartbeats 4000000 in
set_option maxRecDepth 100000 in
theorem m_9_takeNots {l : Launch} {Z : jE} {n : Nat} {C : jC}  {post : Int → jC → Prop}  (hw0 : jWF n C) (h : wp_9_takeNots C post) : jCi l y_9_takeNots prog_11_method_18_code 3 (.int) q_9_takeNots Z n C [jr Z 3, jr Z 1] post := by
  have hn := hw0.2.2.1
  unfold wp_9_takeNots at h
  refine jCi_of (lv0 := [(0, jr Z 3), (1, jr Z 1)]) (by decide) (Nat.le_of_ble_eq_true rfl) rfl ?_
  intro p e s m args below meth c A sz X hAe hr hlocks
  refine jg_iconst (pc := 0) X d_9_takeNots_0 ?_
  refine jg_istore_n (pc := 1) X [(2, jI 0), (0, jr Z 3), (1, jr Z 1)] d_9_takeNots_1 (by decide) rfl ?_
  have jl2 : ∀  (N : Nat) (v2 : Int) (C : jC) (rv2 : jRng v2) (hw : jWF n C), jI2 (wp_9_takeNots_2  post) N v2 C → jG p l e q_9_takeNots s m args below meth c 3 Z A (jws Z n C) 0 0 (MQ below (jQi Z n sz post) args s q_9_takeNots.cells q_9_takeNots.slots (jA Z n sz)) 2 [(1, jr Z 1), (2, jI v2)] [] := by
    intro   N
    have hn := hw0.2.2.1
    induction N with
    | zero => intro v2 C rv2 hw h; exact h.elim
    | succ N ih2 =>
      intro v2 C rv2 hw h
      have h : wp_9_takeNots_2  post (jI2 (wp_9_takeNots_2  post) N) v2 C := h
      generalize jI2 (wp_9_takeNots_2  post) N = k2 at h ih2
      unfold wp_9_takeNots_2 at h
      refine jg_iload_n (pc := 2) X d_9_takeNots_2 1 rfl ?_
      refine jg_iconst (pc := 3) X d_9_takeNots_3 ?_
      refine jg_icmp_ge (tgt := 22) (pc := 4) X d_9_takeNots_4 (by decide) rv2 (⟨by decide, by decide⟩ : jRng 4) h (fun c1 h => ?_) (fun c1 h => ?_)
      · refine jg_iload_n (pc := 22) X d_9_takeNots_22 1 rfl ?_
        exact jg_ireturn (pc := 23) X hAe hlocks hr d_9_takeNots_23 ⟨(Nat.le_of_ble_eq_true rfl), (Nat.le_of_ble_eq_true rfl)⟩ rfl rv2 hw h
      · refine jg_aload_n (pc := 7) X d_9_takeNots_7 0 rfl ?_
        refine jg_ldcS (pc := 8) "not" 6 X (by decide +kernel) d_9_takeNots_8 ?_
        refine jg_callVi (pc := 10) X (m_5_takeWord (by decide) hw h) jM_5_takeWord kw_493 (jl_1_5 hn) rfl rfl rfl rfl rfl (Nat.le_of_ble_eq_true rfl) d_9_takeNots_10 ⟨(Nat.le_of_ble_eq_true rfl), (Nat.le_of_ble_eq_true rfl)⟩ ⟨(Nat.le_of_ble_eq_true rfl), (Nat.le_of_ble_eq_true rfl)⟩ (fun x2 C3 r4 w5 h => ?_)
        refine jg_if_eq (tgt := 22) (pc := 13) X d_9_takeNots_13 (by decide) r4 h (fun c6 h => ?_) (fun c6 h => ?_)
        · refine jg_iload_n (pc := 22) X d_9_takeNots_22 1 rfl ?_
          exact jg_ireturn (pc := 23) X hAe hlocks hr d_9_takeNots_23 ⟨(Nat.le_of_ble_eq_true rfl), (Nat.le_of_ble_eq_true rfl)⟩ rfl rv2 w5 h
        · refine jg_iinc (pc := 16) X [(2, jI (v2 + 1)), (1, jr Z 1)] d_9_takeNots_16 1 rfl (by decide) rfl ?_
          refine jg_goto (tgt := 2) (pc := 19) X d_9_takeNots_19 (by decide) ?_
          have r7 : jRng (v2 + 1) := by (unfold jRng; exact ⟨by (have z0 : jRng v2 := rv2; unfold jRng at z0; omega), by (have z0 : jRng v2 := rv2; unfold jRng at z0; omega)⟩)
          refine jg_sub [1, 0] rfl ?_
          exact ih2 _ _ r7 w5 h
  obtain ⟨N, h⟩ := h
  refine jg_sub [2, 0] rfl ?_
  exact jl2   N _ _ (⟨by decide, by decide⟩ : jRng 0) hw0 h
set_option maxHeartbeats 4000000 in
set_option maxRecDepth 100000 in
theorem m_1_takeTest {l : Launch} {Z : jE} {n : Nat} {C : jC} {v0 : Int} {v1 : Int} {v2 : Int} {v3 : Int} {v4 : Int} {post : jC → Prop} (tv0 : jT n v0 1) (rv1 : jRng v1) (rv2 : jRng v2) (rv3 : jRng v3) (rv4 : jRng v4) (hw0 : jWF n C) (h : wp_1_takeTest v0 v1 v2 v3 v4 C post) : jCv l y_1_takeTest prog_3_method_2_code 5 q_1_takeTest Z n C [jr Z v0, jI v1, jI v2, jI v3, jI v4] post := by
  have hn := hw0.2.2.1
  unfold wp_1_takeTest at h
  refine jCv_of (lv0 := [(0, jr Z v0), (1, jI v1), (2, jI v2), (3, jI v3), (4, jI v4)]) (by decide) (Nat.le_of_ble_eq_true rfl) rfl ?_
  intro p e s m args below meth c A sz X hAe hr hlocks
  refine jg_aload_n (pc := 0) X d_1_takeTest_0 0 rfl ?_
  refine jgf_1_0 (pc := 1) X tv0 kw_89 d_1_takeTest_1 ?_
  refine jg_bipush (pc := 4) X d_1_takeTest_4 rfl ?_
  refine jg_icmp_ge (tgt := 60) (pc := 6) X d_1_takeTest_6 (by decide) (hw0.1 _ _) (⟨by decide, by decide⟩ : jRng 6) h (fun c1 h => ?_) (fun c1 h => ?_)
  · have c1 : 6 ≤ (C v0 0) := c1
    exact jg_return (pc := 60) X hAe hlocks hr d_1_takeTest_60 ⟨(Nat.le_of_ble_eq_true rfl), (Nat.le_of_ble_eq_true rfl)⟩ hw0 h
  · have c1 : ¬ (6 ≤ (C v0 0)) := c1
    refine jg_aload_n (pc := 9) X d_1_takeTest_9 0 rfl ?_
    refine jgf_1_1 (pc := 10) X tv0 kw_92 d_1_takeTest_10 ?_
    refine jg_aload_n (pc := 13) X d_1_takeTest_13 0 rfl ?_
    refine jgf_1_0 (pc := 14) X tv0 kw_89 d_1_takeTest_14 ?_
    refine jg_iload_n (pc := 17) X d_1_takeTest_17 1 rfl ?_
    obtain ⟨b2, h⟩ := h
    have b3 : (C v0 0) < 6 := by (have z0 : jRng (C v0 0) := (hw0.1 _ _); unfold jRng at z0; omega)
    refine jg_iastore (len := 6) (pc := 18) X d_1_takeTest_18 (jc_fi_1 hn tv0) (fun _ => rfl) (by decide) b2 b3 ?_
    have w4 := jWF.u (k := (C v0 0)) (v := v1) hw0 (jc_fi_1 hn tv0) (by decide) rv1
    refine jg_aload_n (pc := 19) X d_1_takeTest_19 0 rfl ?_
    refine jgf_1_2 (pc := 20) X tv0 kw_93 d_1_takeTest_20 ?_
    refine jg_aload_n (pc := 23) X d_1_takeTest_23 0 rfl ?_
    refine jgf_1_0 (pc := 24) X tv0 kw_89 d_1_takeTest_24 ?_
    refine jg_iload_n (pc := 27) X d_1_takeTest_27 2 rfl ?_
    obtain ⟨b5, b6, h⟩ := h
    refine jg_iastore (len := 6) (pc := 28) X d_1_takeTest_28 (jc_fi_2 hn tv0) (fun _ => rfl) (by decide) b5 b6 ?_
    have w7 := jWF.u (k := ((jU C (v0 + 1) (C v0 0) v1) v0 0)) (v := v2) w4 (jc_fi_2 hn tv0) (by decide) rv2
    refine jg_aload_n (pc := 29) X d_1_takeTest_29 0 rfl ?_
    refine jgf_1_3 (pc := 30) X tv0 kw_94 d_1_takeTest_30 ?_
    refine jg_aload_n (pc := 33) X d_1_takeTest_33 0 rfl ?_
    refine jgf_1_0 (pc := 34) X tv0 kw_89 d_1_takeTest_34 ?_
    refine jg_iload_n (pc := 37) X d_1_takeTest_37 3 rfl ?_
    obtain ⟨b8, b9, h⟩ := h
    refine jg_iastore (len := 6) (pc := 38) X d_1_takeTest_38 (jc_fi_3 hn tv0) (fun _ => rfl) (by decide) b8 b9 ?_
    have w10 := jWF.u (k := ((jU (jU C (v0 + 1) (C v0 0) v1) (v0 + 2) ((jU C (v0 + 1) (C v0 0) v1) v0 0) v2) v0 0)) (v := v3) w7 (jc_fi_3 hn tv0) (by decide) rv3
    refine jg_aload_n (pc := 39) X d_1_takeTest_39 0 rfl ?_
    refine jgf_1_4 (pc := 40) X tv0 kw_95 d_1_takeTest_40 ?_
    refine jg_aload_n (pc := 43) X d_1_takeTest_43 0 rfl ?_
    refine jgf_1_0 (pc := 44) X tv0 kw_89 d_1_takeTest_44 ?_
    refine jg_iload (pc := 47) X d_1_takeTest_47 4 rfl ?_
    obtain ⟨b11, b12, h⟩ := h
    refine jg_iastore (len := 6) (pc := 49) X d_1_takeTest_49 (jc_fi_4 hn tv0) (fun _ => rfl) (by decide) b11 b12 ?_
    have w13 := jWF.u (k := ((jU (jU (jU C (v0 + 1) (C v0 0) v1) (v0 + 2) ((jU C (v0 + 1) (C v0 0) v1) v0 0) v2) (v0 + 3) ((jU (jU C (v0 + 1) (C v0 0) v1) (v0 + 2) ((jU C (v0 + 1) (C v0 0) v1) v0 0) v2) v0 0) v3) v0 0)) (v := v4) w10 (jc_fi_4 hn tv0) (by decide) rv4
    refine jg_aload_n (pc := 50) X d_1_takeTest_50 0 rfl ?_
    refine jg_dup (pc := 51) X d_1_takeTest_51 rfl ?_
    refine jgf_1_0 (pc := 52) X tv0 kw_89 d_1_takeTest_52 ?_
    refine jg_iconst (pc := 55) X d_1_takeTest_55 ?_
    refine jg_iadd (pc := 56) X d_1_takeTest_56 ?_
    obtain ⟨r14, h⟩ := h
    refine jgp_1_0 (pc := 57) X tv0 kw_89 d_1_takeTest_57 ?_
    have w15 := jWF.u (k := 0) (v := (((jU (jU (jU (jU C (v0 + 1) (C v0 0) v1) (v0 + 2) ((jU C (v0 + 1) (C v0 0) v1) v0 0) v2) (v0 + 3) ((jU (jU C (v0 + 1) (C v0 0) v1) (v0 + 2) ((jU C (v0 + 1) (C v0 0) v1) v0 0) v2) v0 0) v3) (v0 + 4) ((jU (jU (jU C (v0 + 1) (C v0 0) v1) (v0 + 2) ((jU C (v0 + 1) (C v0 0) v1) v0 0) v2) (v0 + 3) ((jU (jU C (v0 + 1) (C v0 0) v1) (v0 + 2) ((jU C (v0 + 1) (C v0 0) v1) v0 0) v2) v0 0) v3) v0 0) v4) v0 0) + 1)) w13 tv0 (by decide) r14
    exact jg_return (pc := 60) X hAe hlocks hr d_1_takeTest_60 ⟨(Nat.le_of_ble_eq_true rfl), (Nat.le_of_ble_eq_true rfl)⟩ w15 h
set_option maxHeartbeats 4000000 in
set_option maxRecDepth 100000 in
theorem m_9_readRange {l : Launch} {Z : jE} {n : Nat} {C : jC} {v2 : Int} {v3 : Int} {post : Int → jC → Prop} (tv2 : jT n v2 1) (rv3 : jRng v3) (hw0 : jWF n C) (h : wp_9_readRange v2 v3 C post) : jCi l y_9_readRange prog_11_method_19_code 5 (.boolean) q_9_readRange Z n C [jr Z 3, jr Z 1, jr Z v2, jI v3] post := by
  have hn := hw0.2.2.1
  unfold wp_9_readRange at h
  refine jCi_of (lv0 := [(0, jr Z 3), (1, jr Z 1), (2, jr Z v2), (3, jI v3)]) (by decide) (Nat.le_of_ble_eq_true rfl) rfl ?_
  intro p e s m args below meth c A sz X hAe hr hlocks
  refine jg_aload_n (pc := 0) X d_9_readRange_0 1 rfl ?_
  refine jg_iconst (pc := 1) X d_9_readRange_1 ?_
  refine jg_callVi (pc := 2) X (m_5_takeNumber (⟨by decide, by decide⟩ : jRng 1) hw0 h) jM_5_takeNumber kw_813 (jl_1_5 hn) rfl rfl rfl rfl rfl (Nat.le_of_ble_eq_true rfl) d_9_readRange_2 ⟨(Nat.le_of_ble_eq_true rfl), (Nat.le_of_ble_eq_true rfl)⟩ ⟨(Nat.le_of_ble_eq_true rfl), (Nat.le_of_ble_eq_true rfl)⟩ (fun x1 C2 r3 w4 h => ?_)
  refine jg_if_ne (tgt := 10) (pc := 5) X d_9_readRange_5 (by decide) r3 h (fun c5 h => ?_) (fun c5 h => ?_)
  · refine jg_iconst (pc := 8) X d_9_readRange_8 ?_
    exact jg_ireturn (pc := 9) X hAe hlocks hr d_9_readRange_9 ⟨(Nat.le_of_ble_eq_true rfl), (Nat.le_of_ble_eq_true rfl)⟩ rfl (⟨by decide, by decide⟩ : jRng 0) w4 h
  · refine jg_aload_n (pc := 10) X d_9_readRange_10 1 rfl ?_
    refine jgfN_5_5 (pc := 11) X (jl_1_5 hn) kn_50 d_9_readRange_11 ?_
    refine jg_istore (pc := 14) X [(4, jI (C2 1 5)), (0, jr Z 3), (1, jr Z 1), (2, jr Z v2), (3, jI v3)] d_9_readRange_14 (by decide) rfl ?_
    refine jg_aload_n (pc := 16) X d_9_readRange_16 2 rfl ?_
    refine jg_ldcS (pc := 17) "to" 5 X (by decide +kernel) d_9_readRange_17 ?_
    refine jg_callVi (pc := 19) X (m_5_takeWord (by decide) w4 h) jM_5_takeWord kw_493 (jl_1_5 hn) rfl rfl rfl rfl rfl (Nat.le_of_ble_eq_true rfl) d_9_readRange_19 ⟨(Nat.le_of_ble_eq_true rfl), (Nat.le_of_ble_eq_true rfl)⟩ ⟨(Nat.le_of_ble_eq_true rfl), (Nat.le_of_ble_eq_true rfl)⟩ (fun x6 C7 r8 w9 h => ?_)
    refine jg_if_eq (tgt := 53) (pc := 22) X d_9_readRange_22 (by decide) r8 h (fun c10 h => ?_) (fun c10 h => ?_)
    · refine jg_aload_n (pc := 53) X d_9_readRange_53 3 rfl ?_
      refine jg_iconst (pc := 54) X d_9_readRange_54 ?_
      refine jg_iload (pc := 55) X d_9_readRange_55 0 rfl ?_
      refine jg_aload_n (pc := 57) X d_9_readRange_57 2 rfl ?_
      refine jgfN_5_5 (pc := 58) X (jl_1_5 hn) kn_50 d_9_readRange_58 ?_
      refine jg_iload_n (pc := 61) X d_9_readRange_61 4 rfl ?_
      refine jg_callVv (pc := 62) X (m_1_takeTest tv2 (⟨by decide, by decide⟩ : jRng 1) (w4.1 _ _) (w9.1 _ _) rv3 w9 h) jM_1_takeTest kw_824 tv2 rfl rfl rfl rfl rfl (Nat.le_of_ble_eq_true rfl) d_9_readRange_62 ⟨(Nat.le_of_ble_eq_true rfl), (Nat.le_of_ble_eq_true rfl)⟩ ⟨(Nat.le_of_ble_eq_true rfl), (Nat.le_of_ble_eq_true rfl)⟩ (fun C12 w14 h => ?_)
      refine jg_iconst (pc := 65) X d_9_readRange_65 ?_
      exact jg_ireturn (pc := 66) X hAe hlocks hr d_9_readRange_66 ⟨(Nat.le_of_ble_eq_true rfl), (Nat.le_of_ble_eq_true rfl)⟩ rfl (⟨by decide, by decide⟩ : jRng 1) w14 h
    · refine jg_aload_n (pc := 25) X d_9_readRange_25 2 rfl ?_
      refine jg_iconst (pc := 26) X d_9_readRange_26 ?_
      refine jg_callVi (pc := 27) X (m_5_takeNumber (⟨by decide, by decide⟩ : jRng 1) w9 h) jM_5_takeNumber kw_813 (jl_1_5 hn) rfl rfl rfl rfl rfl (Nat.le_of_ble_eq_true rfl) d_9_readRange_27 ⟨(Nat.le_of_ble_eq_true rfl), (Nat.le_of_ble_eq_true rfl)⟩ ⟨(Nat.le_of_ble_eq_true rfl), (Nat.le_of_ble_eq_true rfl)⟩ (fun x15 C16 r17 w18 h => ?_)
      refine jg_if_ne (tgt := 35) (pc := 30) X d_9_readRange_30 (by decide) r17 h (fun c19 h => ?_) (fun c19 h => ?_)
      · refine jg_iconst (pc := 33) X d_9_readRange_33 ?_
        exact jg_ireturn (pc := 34) X hAe hlocks hr d_9_readRange_34 ⟨(Nat.le_of_ble_eq_true rfl), (Nat.le_of_ble_eq_true rfl)⟩ rfl (⟨by decide, by decide⟩ : jRng 0) w18 h
      · refine jg_aload_n (pc := 35) X d_9_readRange_35 2 rfl ?_
        refine jgfN_5_5 (pc := 36) X (jl_1_5 hn) kn_50 d_9_readRange_36 ?_
        refine jg_iload (pc := 39) X d_9_readRange_39 0 rfl ?_
        refine jg_icmp_ge (tgt := 53) (pc := 41) X d_9_readRange_41 (by decide) (w18.1 _ _) (w4.1 _ _) h (fun c20 h => ?_) (fun c20 h => ?_)
        · have c20 : (C2 1 5) ≤ (C16 1 5) := c20
          refine jg_aload_n (pc := 53) X d_9_readRange_53 3 rfl ?_
          refine jg_iconst (pc := 54) X d_9_readRange_54 ?_
          refine jg_iload (pc := 55) X d_9_readRange_55 0 rfl ?_
          refine jg_aload_n (pc := 57) X d_9_readRange_57 2 rfl ?_
          refine jgfN_5_5 (pc := 58) X (jl_1_5 hn) kn_50 d_9_readRange_58 ?_
          refine jg_iload_n (pc := 61) X d_9_readRange_61 4 rfl ?_
          refine jg_callVv (pc := 62) X (m_1_takeTest tv2 (⟨by decide, by decide⟩ : jRng 1) (w4.1 _ _) (w18.1 _ _) rv3 w18 h) jM_1_takeTest kw_824 tv2 rfl rfl rfl rfl rfl (Nat.le_of_ble_eq_true rfl) d_9_readRange_62 ⟨(Nat.le_of_ble_eq_true rfl), (Nat.le_of_ble_eq_true rfl)⟩ ⟨(Nat.le_of_ble_eq_true rfl), (Nat.le_of_ble_eq_true rfl)⟩ (fun C22 w24 h => ?_)
          refine jg_iconst (pc := 65) X d_9_readRange_65 ?_
          exact jg_ireturn (pc := 66) X hAe hlocks hr d_9_readRange_66 ⟨(Nat.le_of_ble_eq_true rfl), (Nat.le_of_ble_eq_true rfl)⟩ rfl (⟨by decide, by decide⟩ : jRng 1) w24 h
        · have c20 : ¬ ((C2 1 5) ≤ (C16 1 5)) := c20
          refine jg_aload_n (pc := 44) X d_9_readRange_44 2 rfl ?_
          refine jg_aload_n (pc := 45) X d_9_readRange_45 2 rfl ?_
          refine jgfN_5_6 (pc := 46) X (jl_1_5 hn) kn_52 d_9_readRange_46 ?_
          refine jg_callVi (pc := 49) X (m_5_failAt (w18.1 _ _) w18 h) jM_5_failAt kw_559 (jl_1_5 hn) rfl rfl rfl rfl rfl (Nat.le_of_ble_eq_true rfl) d_9_readRange_49 ⟨(Nat.le_of_ble_eq_true rfl), (Nat.le_of_ble_eq_true rfl)⟩ ⟨(Nat.le_of_ble_eq_true rfl), (Nat.le_of_ble_eq_true rfl)⟩ (fun x25 C26 r27 w28 h => ?_)
          obtain ⟨b29, h⟩ := h
          exact jg_ireturn (pc := 52) X hAe hlocks hr d_9_readRange_52 ⟨(Nat.le_of_ble_eq_true rfl), (Nat.le_of_ble_eq_true rfl)⟩ (jnar_b b29) r27 w28 h
set_option maxHeartbeats 4000000 in
set_option maxRecDepth 100000 in
theorem m_9_isPatternSign {l : Launch} {Z : jE} {n : Nat} {C : jC} {v2 : Int} {post : Int → Prop} (rv2 : jRng v2) (hw0 : jWF n C) (h : wp_9_isPatternSign v2 C post) : jCi l y_9_isPatternSign prog_11_method_21_code 3 (.boolean) q_9_isPatternSign Z n C [jr Z 3, jr Z 1, jI v2] (fun x C9 => C9 = C ∧ post x) := by
  have hn := hw0.2.2.1
  unfold wp_9_isPatternSign at h
  refine jCi_of (lv0 := [(0, jr Z 3), (1, jr Z 1), (2, jI v2)]) (by decide) (Nat.le_of_ble_eq_true rfl) rfl ?_
  intro p e s m args below meth c A sz X hAe hr hlocks
  refine jg_aload_n (pc := 0) X d_9_isPatternSign_0 1 rfl ?_
  refine jg_iload_n (pc := 1) X d_9_isPatternSign_1 2 rfl ?_
  refine jg_pcallVi (pc := 2) X (m_5_isLetterAt rv2 hw0 h) jM_5_isLetterAt kw_846 (jl_1_5 hn) rfl rfl rfl rfl rfl (Nat.le_of_ble_eq_true rfl) d_9_isPatternSign_2 ⟨(Nat.le_of_ble_eq_true rfl), (Nat.le_of_ble_eq_true rfl)⟩ ⟨(Nat.le_of_ble_eq_true rfl), (Nat.le_of_ble_eq_true rfl)⟩ (fun x1 r3 h => ?_)
  refine jg_if_ne (tgt := 18) (pc := 5) X d_9_isPatternSign_5 (by decide) r3 h (fun c5 h => ?_) (fun c5 h => ?_)
  · refine jg_aload_n (pc := 8) X d_9_isPatternSign_8 1 rfl ?_
    refine jg_iload_n (pc := 9) X d_9_isPatternSign_9 2 rfl ?_
    refine jg_pcallVi (pc := 10) X (m_5_byteAt rv2 hw0 h) jM_5_byteAt kw_847 (jl_1_5 hn) rfl rfl rfl rfl rfl (Nat.le_of_ble_eq_true rfl) d_9_isPatternSign_10 ⟨(Nat.le_of_ble_eq_true rfl), (Nat.le_of_ble_eq_true rfl)⟩ ⟨(Nat.le_of_ble_eq_true rfl), (Nat.le_of_ble_eq_true rfl)⟩ (fun x6 r8 h => ?_)
    refine jg_bipush (pc := 13) X d_9_isPatternSign_13 rfl ?_
    refine jg_icmp_ne (tgt := 22) (pc := 15) X d_9_isPatternSign_15 (by decide) r8 (⟨by decide, by decide⟩ : jRng 63) h (fun c10 h => ?_) (fun c10 h => ?_)
    · refine jg_iconst (pc := 18) X d_9_isPatternSign_18 ?_
      refine jg_goto (tgt := 23) (pc := 19) X d_9_isPatternSign_19 (by decide) ?_
      exact jg_ireturn (pc := 23) X hAe hlocks hr d_9_isPatternSign_23 ⟨(Nat.le_of_ble_eq_true rfl), (Nat.le_of_ble_eq_true rfl)⟩ rfl (⟨by decide, by decide⟩ : jRng 1) hw0 ⟨rfl, h⟩
    · refine jg_iconst (pc := 22) X d_9_isPatternSign_22 ?_
      exact jg_ireturn (pc := 23) X hAe hlocks hr d_9_isPatternSign_23 ⟨(Nat.le_of_ble_eq_true rfl), (Nat.le_of_ble_eq_true rfl)⟩ rfl (⟨by decide, by decide⟩ : jRng 0) hw0 ⟨rfl, h⟩
  · refine jg_iconst (pc := 18) X d_9_isPatternSign_18 ?_
    refine jg_goto (tgt := 23) (pc := 19) X d_9_isPatternSign_19 (by decide) ?_
    exact jg_ireturn (pc := 23) X hAe hlocks hr d_9_isPatternSign_23 ⟨(Nat.le_of_ble_eq_true rfl), (Nat.le_of_ble_eq_true rfl)⟩ rfl (⟨by decide, by decide⟩ : jRng 1) hw0 ⟨rfl, h⟩
set_option maxHeartbeats 4000000 in
set_option maxRecDepth 100000 in
theorem m_1_withSign {l : Launch} {Z : jE} {n : Nat} {C : jC} {v0 : Int} {v1 : Int} {v2 : Int} {post : Int → Prop} (rv0 : jRng v0) (rv1 : jRng v1) (rv2 : jRng v2) (hw0 : jWF n C) (h : wp_1_withSign v0 v1 v2 C post) : jCi l y_1_withSign prog_3_method_6_code 3 (.int) q_1_withSign Z n C [jI v0, jI v1, jI v2] (fun x C9 => C9 = C ∧ post x) := by
  have hn := hw0.2.2.1
  unfold wp_1_withSign at h
  refine jCi_of (lv0 := [(0, jI v0), (1, jI v1), (2, jI v2)]) (by decide) (Nat.le_of_ble_eq_true rfl) rfl ?_
  intro p e s m args below meth c A sz X hAe hr hlocks
  refine jg_iload_n (pc := 0) X d_1_withSign_0 1 rfl ?_
  refine jg_if_lt (tgt := 9) (pc := 1) X d_1_withSign_1 (by decide) rv1 h (fun c1 h => ?_) (fun c1 h => ?_)
  · refine jg_iload_n (pc := 9) X d_1_withSign_9 0 rfl ?_
    exact jg_ireturn (pc := 10) X hAe hlocks hr d_1_withSign_10 ⟨(Nat.le_of_ble_eq_true rfl), (Nat.le_of_ble_eq_true rfl)⟩ rfl rv0 hw0 ⟨rfl, h⟩
  · refine jg_iload_n (pc := 4) X d_1_withSign_4 1 rfl ?_
    refine jg_iconst (pc := 5) X d_1_withSign_5 ?_
    refine jg_icmp_lt (tgt := 11) (pc := 6) X d_1_withSign_6 (by decide) rv1 (⟨by decide, by decide⟩ : jRng 4) h (fun c2 h => ?_) (fun c2 h => ?_)
    · refine jg_iload_n (pc := 11) X d_1_withSign_11 0 rfl ?_
      refine jg_iload_n (pc := 12) X d_1_withSign_12 2 rfl ?_
      refine jg_bipush (pc := 13) X d_1_withSign_13 rfl ?_
      refine jg_icmp_ne (tgt := 23) (pc := 15) X d_1_withSign_15 (by decide) rv2 (⟨by decide, by decide⟩ : jRng 63) h (fun c3 h => ?_) (fun c3 h => ?_)
      · refine jg_bipush (pc := 18) X d_1_withSign_18 rfl ?_
        refine jg_goto (tgt := 29) (pc := 20) X d_1_withSign_20 (by decide) ?_
        refine jg_iconst (pc := 29) X d_1_withSign_29 ?_
        refine jg_iload_n (pc := 30) X d_1_withSign_30 1 rfl ?_
        refine jg_imul (pc := 31) X d_1_withSign_31 ?_
        refine jg_ishl (pc := 32) X d_1_withSign_32 ?_
        refine jg_ior (pc := 33) X d_1_withSign_33 ?_
        exact jg_ireturn (pc := 34) X hAe hlocks hr d_1_withSign_34 ⟨(Nat.le_of_ble_eq_true rfl), (Nat.le_of_ble_eq_true rfl)⟩ rfl (jOr_rng _ _) hw0 ⟨rfl, h⟩
      · refine jg_iload_n (pc := 23) X d_1_withSign_23 2 rfl ?_
        refine jg_bipush (pc := 24) X d_1_withSign_24 rfl ?_
        refine jg_isub (pc := 26) X d_1_withSign_26 ?_
        refine jg_iconst (pc := 27) X d_1_withSign_27 ?_
        refine jg_iadd (pc := 28) X d_1_withSign_28 ?_
        refine jg_iconst (pc := 29) X d_1_withSign_29 ?_
        refine jg_iload_n (pc := 30) X d_1_withSign_30 1 rfl ?_
        refine jg_imul (pc := 31) X d_1_withSign_31 ?_
        refine jg_ishl (pc := 32) X d_1_withSign_32 ?_
        refine jg_ior (pc := 33) X d_1_withSign_33 ?_
        exact jg_ireturn (pc := 34) X hAe hlocks hr d_1_withSign_34 ⟨(Nat.le_of_ble_eq_true rfl), (Nat.le_of_ble_eq_true rfl)⟩ rfl (jOr_rng _ _) hw0 ⟨rfl, h⟩
    · refine jg_iload_n (pc := 9) X d_1_withSign_9 0 rfl ?_
      exact jg_ireturn (pc := 10) X hAe hlocks hr d_1_withSign_10 ⟨(Nat.le_of_ble_eq_true rfl), (Nat.le_of_ble_eq_true rfl)⟩ rfl rv0 hw0 ⟨rfl, h⟩
set_option maxHeartbeats 4000000 in
set_option maxRecDepth 100000 in
theorem m_9_readPattern {l : Launch} {Z : jE} {n : Nat} {C : jC} {v2 : Int} {v3 : Int} {post : Int → jC → Prop} (tv2 : jT n v2 1) (rv3 : jRng v3) (hw0 : jWF n C) (h : wp_9_readPattern v2 v3 C post) : jCi l y_9_readPattern prog_11_method_20_code 8 (.boolean) q_9_readPattern Z n C [jr Z 3, jr Z 1, jr Z v2, jI v3] post := by
  have hn := hw0.2.2.1
  unfold wp_9_readPattern at h
  refine jCi_of (lv0 := [(0, jr Z 3), (1, jr Z 1), (2, jr Z v2), (3, jI v3)]) (by decide) (Nat.le_of_ble_eq_true rfl) rfl ?_
  intro p e s m args below meth c A sz X hAe hr hlocks
  have jb176 : ∀ (s0 : Int) (s1 : Int) (v2 : Int) (v3 : Int) (v6 : Int) (v7 : Int) (C : jC) (rs0 : jRng s0) (rs1 : jRng s1) (tv2 : jT n v2 1) (rv3 : jRng v3) (rv6 : jRng v6) (rv7 : jRng v7) (hw : jWF n C), wp_9_readPattern_176 s0 s1 v2 v3 v6 v7 C post → jG p l e q_9_readPattern s m args below meth c 8 Z A (jws Z n C) 0 0 (MQ below (jQi Z n sz post) args s q_9_readPattern.cells q_9_readPattern.slots (jA Z n sz)) 176 [(2, jr Z v2), (3, jI v3), (6, jI v6), (7, jI v7)] [jI s0, jI s1, jr Z 1] := by
    intro s0 s1 v2 v3 v6 v7 C rs0 rs1 tv2 rv3 rv6 rv7 hw h
    unfold wp_9_readPattern_176 at h
    refine jg_iadd (pc := 176) X d_9_readPattern_176 ?_
    obtain ⟨r1, h⟩ := h
    refine jgpN_5_3 (pc := 177) X (jl_1_5 hn) kn_47 d_9_readPattern_177 ?_
    have w2 := jWF.u (k := 3) (v := (s1 + s0)) hw (jl_1_5 hn) (by decide) r1
    refine jg_aload_n (pc := 180) X d_9_readPattern_180 0 rfl ?_
    refine jg_iconst (pc := 181) X d_9_readPattern_181 ?_
    refine jg_iload (pc := 182) X d_9_readPattern_182 2 rfl ?_
    refine jg_iload (pc := 184) X d_9_readPattern_184 3 rfl ?_
    refine jg_if_eq (tgt := 193) (pc := 186) X d_9_readPattern_186 (by decide) rv7 h (fun c3 h => ?_) (fun c3 h => ?_)
    · refine jg_iconst (pc := 193) X d_9_readPattern_193 ?_
      refine jg_iload_n (pc := 194) X d_9_readPattern_194 1 rfl ?_
      refine jg_callVv (pc := 195) X (m_1_takeTest tv2 (⟨by decide, by decide⟩ : jRng 2) rv6 (⟨by decide, by decide⟩ : jRng 0) rv3 w2 h) jM_1_takeTest kw_824 tv2 rfl rfl rfl rfl rfl (Nat.le_of_ble_eq_true rfl) d_9_readPattern_195 ⟨(Nat.le_of_ble_eq_true rfl), (Nat.le_of_ble_eq_true rfl)⟩ ⟨(Nat.le_of_ble_eq_true rfl), (Nat.le_of_ble_eq_true rfl)⟩ (fun C5 w7 h => ?_)
      refine jg_iconst (pc := 198) X d_9_readPattern_198 ?_
      exact jg_ireturn (pc := 199) X hAe hlocks hr d_9_readPattern_199 ⟨(Nat.le_of_ble_eq_true rfl), (Nat.le_of_ble_eq_true rfl)⟩ rfl (⟨by decide, by decide⟩ : jRng 1) w7 h
    · refine jg_iconst (pc := 189) X d_9_readPattern_189 ?_
      refine jg_goto (tgt := 194) (pc := 190) X d_9_readPattern_190 (by decide) ?_
      refine jg_iload_n (pc := 194) X d_9_readPattern_194 1 rfl ?_
      refine jg_callVv (pc := 195) X (m_1_takeTest tv2 (⟨by decide, by decide⟩ : jRng 2) rv6 (⟨by decide, by decide⟩ : jRng 1) rv3 w2 h) jM_1_takeTest kw_824 tv2 rfl rfl rfl rfl rfl (Nat.le_of_ble_eq_true rfl) d_9_readPattern_195 ⟨(Nat.le_of_ble_eq_true rfl), (Nat.le_of_ble_eq_true rfl)⟩ ⟨(Nat.le_of_ble_eq_true rfl), (Nat.le_of_ble_eq_true rfl)⟩ (fun C9 w11 h => ?_)
      refine jg_iconst (pc := 198) X d_9_readPattern_198 ?_
      exact jg_ireturn (pc := 199) X hAe hlocks hr d_9_readPattern_199 ⟨(Nat.le_of_ble_eq_true rfl), (Nat.le_of_ble_eq_true rfl)⟩ rfl (⟨by decide, by decide⟩ : jRng 1) w11 h
  have jb137 : ∀ (s0 : Int) (v2 : Int) (v3 : Int) (v4 : Int) (v5 : Int) (v6 : Int) (C : jC) (rs0 : jRng s0) (tv2 : jT n v2 1) (rv3 : jRng v3) (rv4 : jRng v4) (rv5 : jRng v5) (rv6 : jRng v6) (hw : jWF n C), wp_9_readPattern_137 s0 v2 v3 v4 v5 v6 C post → jG p l e q_9_readPattern s m args below meth c 8 Z A (jws Z n C) 0 0 (MQ below (jQi Z n sz post) args s q_9_readPattern.cells q_9_readPattern.slots (jA Z n sz)) 137 [(1, jr Z 1), (2, jr Z v2), (3, jI v3), (4, jI v4), (5, jI v5), (6, jI v6)] [jI s0] := by
    intro s0 v2 v3 v4 v5 v6 C rs0 tv2 rv3 rv4 rv5 rv6 hw h
    unfold wp_9_readPattern_137 at h
    refine jg_istore (pc := 137) X [(7, jI s0), (1, jr Z 1), (2, jr Z v2), (3, jI v3), (4, jI v4), (5, jI v5), (6, jI v6)] d_9_readPattern_137 (by decide) rfl ?_
    refine jg_iload (pc := 139) X d_9_readPattern_139 5 rfl ?_
    refine jg_iconst (pc := 141) X d_9_readPattern_141 ?_
    refine jg_icmp_gt (tgt := 155) (pc := 142) X d_9_readPattern_142 (by decide) rv5 (⟨by decide, by decide⟩ : jRng 4) h (fun c12 h => ?_) (fun c12 h => ?_)
    · refine jg_aload_n (pc := 155) X d_9_readPattern_155 1 rfl ?_
      refine jg_callVi (pc := 156) X (m_5_failHere hw h) jM_5_failHere kw_555 (jl_1_5 hn) rfl rfl rfl rfl rfl (Nat.le_of_ble_eq_true rfl) d_9_readPattern_156 ⟨(Nat.le_of_ble_eq_true rfl), (Nat.le_of_ble_eq_true rfl)⟩ ⟨(Nat.le_of_ble_eq_true rfl), (Nat.le_of_ble_eq_true rfl)⟩ (fun x13 C14 r15 w16 h => ?_)
      obtain ⟨b17, h⟩ := h
      exact jg_ireturn (pc := 159) X hAe hlocks hr d_9_readPattern_159 ⟨(Nat.le_of_ble_eq_true rfl), (Nat.le_of_ble_eq_true rfl)⟩ (jnar_b b17) r15 w16 h
    · refine jg_iload (pc := 145) X d_9_readPattern_145 5 rfl ?_
      refine jg_if_ne (tgt := 160) (pc := 147) X d_9_readPattern_147 (by decide) rv5 h (fun c18 h => ?_) (fun c18 h => ?_)
      · refine jg_iload (pc := 150) X d_9_readPattern_150 0 rfl ?_
        refine jg_if_ne (tgt := 160) (pc := 152) X d_9_readPattern_152 (by decide) rs0 h (fun c19 h => ?_) (fun c19 h => ?_)
        · refine jg_aload_n (pc := 155) X d_9_readPattern_155 1 rfl ?_
          refine jg_callVi (pc := 156) X (m_5_failHere hw h) jM_5_failHere kw_555 (jl_1_5 hn) rfl rfl rfl rfl rfl (Nat.le_of_ble_eq_true rfl) d_9_readPattern_156 ⟨(Nat.le_of_ble_eq_true rfl), (Nat.le_of_ble_eq_true rfl)⟩ ⟨(Nat.le_of_ble_eq_true rfl), (Nat.le_of_ble_eq_true rfl)⟩ (fun x20 C21 r22 w23 h => ?_)
          obtain ⟨b24, h⟩ := h
          exact jg_ireturn (pc := 159) X hAe hlocks hr d_9_readPattern_159 ⟨(Nat.le_of_ble_eq_true rfl), (Nat.le_of_ble_eq_true rfl)⟩ (jnar_b b24) r22 w23 h
        · refine jg_aload_n (pc := 160) X d_9_readPattern_160 1 rfl ?_
          refine jg_iload (pc := 161) X d_9_readPattern_161 4 rfl ?_
          refine jg_iload (pc := 163) X d_9_readPattern_163 5 rfl ?_
          refine jg_iadd (pc := 165) X d_9_readPattern_165 ?_
          refine jg_iload (pc := 166) X d_9_readPattern_166 0 rfl ?_
          refine jg_if_eq (tgt := 175) (pc := 168) X d_9_readPattern_168 (by decide) rs0 h (fun c25 h => ?_) (fun c25 h => ?_)
          · refine jg_iconst (pc := 175) X d_9_readPattern_175 ?_
            have r26 : jRng (v4 + v5) := by (unfold jRng; exact ⟨by (have z0 : jRng v4 := rv4; have z1 : jRng v5 := rv5; unfold jRng at z0 z1; omega), by (have z0 : jRng v4 := rv4; have z1 : jRng v5 := rv5; unfold jRng at z0 z1; omega)⟩)
            refine jg_sub [2, 3, 6, 0] rfl ?_
            exact jb176 _ _ _ _ _ _ _ (⟨by decide, by decide⟩ : jRng 0) r26 tv2 rv3 rv6 rs0 hw h
          · refine jg_iconst (pc := 171) X d_9_readPattern_171 ?_
            refine jg_goto (tgt := 176) (pc := 172) X d_9_readPattern_172 (by decide) ?_
            have r27 : jRng (v4 + v5) := by (unfold jRng; exact ⟨by (have z0 : jRng v4 := rv4; have z1 : jRng v5 := rv5; unfold jRng at z0 z1; omega), by (have z0 : jRng v4 := rv4; have z1 : jRng v5 := rv5; unfold jRng at z0 z1; omega)⟩)
            refine jg_sub [2, 3, 6, 0] rfl ?_
            exact jb176 _ _ _ _ _ _ _ (⟨by decide, by decide⟩ : jRng 1) r27 tv2 rv3 rv6 rs0 hw h
      · refine jg_aload_n (pc := 160) X d_9_readPattern_160 1 rfl ?_
        refine jg_iload (pc := 161) X d_9_readPattern_161 4 rfl ?_
        refine jg_iload (pc := 163) X d_9_readPattern_163 5 rfl ?_
        refine jg_iadd (pc := 165) X d_9_readPattern_165 ?_
        refine jg_iload (pc := 166) X d_9_readPattern_166 0 rfl ?_
        refine jg_if_eq (tgt := 175) (pc := 168) X d_9_readPattern_168 (by decide) rs0 h (fun c28 h => ?_) (fun c28 h => ?_)
        · refine jg_iconst (pc := 175) X d_9_readPattern_175 ?_
          obtain ⟨r29, h⟩ := h
          refine jg_sub [2, 3, 6, 0] rfl ?_
          exact jb176 _ _ _ _ _ _ _ (⟨by decide, by decide⟩ : jRng 0) r29 tv2 rv3 rv6 rs0 hw h
        · refine jg_iconst (pc := 171) X d_9_readPattern_171 ?_
          refine jg_goto (tgt := 176) (pc := 172) X d_9_readPattern_172 (by decide) ?_
          obtain ⟨r30, h⟩ := h
          refine jg_sub [2, 3, 6, 0] rfl ?_
          exact jb176 _ _ _ _ _ _ _ (⟨by decide, by decide⟩ : jRng 1) r30 tv2 rv3 rv6 rs0 hw h
  have jb58 : ∀ (C : jC) (hw : jWF n C), wp_9_readPattern_58  C post → jG p l e q_9_readPattern s m args below meth c 8 Z A (jws Z n C) 0 0 (MQ below (jQi Z n sz post) args s q_9_readPattern.cells q_9_readPattern.slots (jA Z n sz)) 58 [(1, jr Z 1)] [] := by
    intro C hw h
    unfold wp_9_readPattern_58 at h
    refine jg_aload_n (pc := 58) X d_9_readPattern_58 0 rfl ?_
    refine jg_callVi (pc := 59) X (m_5_failHere hw h) jM_5_failHere kw_555 (jl_1_5 hn) rfl rfl rfl rfl rfl (Nat.le_of_ble_eq_true rfl) d_9_readPattern_59 ⟨(Nat.le_of_ble_eq_true rfl), (Nat.le_of_ble_eq_true rfl)⟩ ⟨(Nat.le_of_ble_eq_true rfl), (Nat.le_of_ble_eq_true rfl)⟩ (fun x31 C32 r33 w34 h => ?_)
    obtain ⟨b35, h⟩ := h
    exact jg_ireturn (pc := 62) X hAe hlocks hr d_9_readPattern_62 ⟨(Nat.le_of_ble_eq_true rfl), (Nat.le_of_ble_eq_true rfl)⟩ (jnar_b b35) r33 w34 h
  refine jg_aload_n (pc := 0) X d_9_readPattern_0 1 rfl ?_
  refine jg_callVv (pc := 1) X (m_5_skipBlanks hw0 h) jM_5_skipBlanks kw_491 (jl_1_5 hn) rfl rfl rfl rfl rfl (Nat.le_of_ble_eq_true rfl) d_9_readPattern_1 ⟨(Nat.le_of_ble_eq_true rfl), (Nat.le_of_ble_eq_true rfl)⟩ ⟨(Nat.le_of_ble_eq_true rfl), (Nat.le_of_ble_eq_true rfl)⟩ (fun C37 w39 h => ?_)
  refine jg_aload_n (pc := 4) X d_9_readPattern_4 1 rfl ?_
  refine jg_ldcS (pc := 5) "or" 4 X (by decide +kernel) d_9_readPattern_5 ?_
  refine jg_pcallVi (pc := 7) X (m_5_isWordHere (by decide) w39 h) jM_5_isWordHere kw_838 (jl_1_5 hn) rfl rfl rfl rfl rfl (Nat.le_of_ble_eq_true rfl) d_9_readPattern_7 ⟨(Nat.le_of_ble_eq_true rfl), (Nat.le_of_ble_eq_true rfl)⟩ ⟨(Nat.le_of_ble_eq_true rfl), (Nat.le_of_ble_eq_true rfl)⟩ (fun x40 r42 h => ?_)
  refine jg_if_ne (tgt := 58) (pc := 10) X d_9_readPattern_10 (by decide) r42 h (fun c44 h => ?_) (fun c44 h => ?_)
  · refine jg_aload_n (pc := 13) X d_9_readPattern_13 1 rfl ?_
    refine jg_ldcS (pc := 14) "to" 5 X (by decide +kernel) d_9_readPattern_14 ?_
    refine jg_pcallVi (pc := 16) X (m_5_isWordHere (by decide) w39 h) jM_5_isWordHere kw_838 (jl_1_5 hn) rfl rfl rfl rfl rfl (Nat.le_of_ble_eq_true rfl) d_9_readPattern_16 ⟨(Nat.le_of_ble_eq_true rfl), (Nat.le_of_ble_eq_true rfl)⟩ ⟨(Nat.le_of_ble_eq_true rfl), (Nat.le_of_ble_eq_true rfl)⟩ (fun x45 r47 h => ?_)
    refine jg_if_ne (tgt := 58) (pc := 19) X d_9_readPattern_19 (by decide) r47 h (fun c49 h => ?_) (fun c49 h => ?_)
    · refine jg_aload_n (pc := 22) X d_9_readPattern_22 1 rfl ?_
      refine jg_ldcS (pc := 23) "not" 6 X (by decide +kernel) d_9_readPattern_23 ?_
      refine jg_pcallVi (pc := 25) X (m_5_isWordHere (by decide) w39 h) jM_5_isWordHere kw_838 (jl_1_5 hn) rfl rfl rfl rfl rfl (Nat.le_of_ble_eq_true rfl) d_9_readPattern_25 ⟨(Nat.le_of_ble_eq_true rfl), (Nat.le_of_ble_eq_true rfl)⟩ ⟨(Nat.le_of_ble_eq_true rfl), (Nat.le_of_ble_eq_true rfl)⟩ (fun x50 r52 h => ?_)
      refine jg_if_ne (tgt := 58) (pc := 28) X d_9_readPattern_28 (by decide) r52 h (fun c54 h => ?_) (fun c54 h => ?_)
      · refine jg_aload_n (pc := 31) X d_9_readPattern_31 1 rfl ?_
        refine jg_ldcS (pc := 32) "up" 8 X (by decide +kernel) d_9_readPattern_32 ?_
        refine jg_pcallVi (pc := 34) X (m_5_isWordHere (by decide) w39 h) jM_5_isWordHere kw_838 (jl_1_5 hn) rfl rfl rfl rfl rfl (Nat.le_of_ble_eq_true rfl) d_9_readPattern_34 ⟨(Nat.le_of_ble_eq_true rfl), (Nat.le_of_ble_eq_true rfl)⟩ ⟨(Nat.le_of_ble_eq_true rfl), (Nat.le_of_ble_eq_true rfl)⟩ (fun x55 r57 h => ?_)
        refine jg_if_ne (tgt := 58) (pc := 37) X d_9_readPattern_37 (by decide) r57 h (fun c59 h => ?_) (fun c59 h => ?_)
        · refine jg_aload_n (pc := 40) X d_9_readPattern_40 1 rfl ?_
          refine jg_ldcS (pc := 41) "down" 9 X (by decide +kernel) d_9_readPattern_41 ?_
          refine jg_pcallVi (pc := 43) X (m_5_isWordHere (by decide) w39 h) jM_5_isWordHere kw_838 (jl_1_5 hn) rfl rfl rfl rfl rfl (Nat.le_of_ble_eq_true rfl) d_9_readPattern_43 ⟨(Nat.le_of_ble_eq_true rfl), (Nat.le_of_ble_eq_true rfl)⟩ ⟨(Nat.le_of_ble_eq_true rfl), (Nat.le_of_ble_eq_true rfl)⟩ (fun x60 r62 h => ?_)
          refine jg_if_ne (tgt := 58) (pc := 46) X d_9_readPattern_46 (by decide) r62 h (fun c64 h => ?_) (fun c64 h => ?_)
          · refine jg_aload_n (pc := 49) X d_9_readPattern_49 1 rfl ?_
            refine jg_ldcS (pc := 50) "hide" 10 X (by decide +kernel) d_9_readPattern_50 ?_
            refine jg_pcallVi (pc := 52) X (m_5_isWordHere (by decide) w39 h) jM_5_isWordHere kw_838 (jl_1_5 hn) rfl rfl rfl rfl rfl (Nat.le_of_ble_eq_true rfl) d_9_readPattern_52 ⟨(Nat.le_of_ble_eq_true rfl), (Nat.le_of_ble_eq_true rfl)⟩ ⟨(Nat.le_of_ble_eq_true rfl), (Nat.le_of_ble_eq_true rfl)⟩ (fun x65 r67 h => ?_)
            refine jg_if_eq (tgt := 63) (pc := 55) X d_9_readPattern_55 (by decide) r67 h (fun c69 h => ?_) (fun c69 h => ?_)
            · refine jg_aload_n (pc := 63) X d_9_readPattern_63 1 rfl ?_
              refine jgfN_5_3 (pc := 64) X (jl_1_5 hn) kn_47 d_9_readPattern_64 ?_
              refine jg_istore (pc := 67) X [(4, jI (C37 1 3)), (0, jr Z 3), (1, jr Z 1), (2, jr Z v2), (3, jI v3)] d_9_readPattern_67 (by decide) rfl ?_
              refine jg_iconst (pc := 69) X d_9_readPattern_69 ?_
              refine jg_istore (pc := 70) X [(5, jI 0), (4, jI (C37 1 3)), (0, jr Z 3), (1, jr Z 1), (2, jr Z v2), (3, jI v3)] d_9_readPattern_70 (by decide) rfl ?_
              refine jg_iconst (pc := 72) X d_9_readPattern_72 ?_
              refine jg_istore (pc := 73) X [(6, jI 0), (5, jI 0), (4, jI (C37 1 3)), (0, jr Z 3), (1, jr Z 1), (2, jr Z v2), (3, jI v3)] d_9_readPattern_73 (by decide) rfl ?_
              have jl75 : ∀ (v4 : Int) (C : jC) (rv4 : jRng v4) (hw : jWF n C) (N : Nat) (v5 : Int) (v6 : Int) (rv5 : jRng v5) (rv6 : jRng v6), jI2 (wp_9_readPattern_75 v2 v3 v4 C post) N v5 v6 → jG p l e q_9_readPattern s m args below meth c 8 Z A (jws Z n C) 0 0 (MQ below (jQi Z n sz post) args s q_9_readPattern.cells q_9_readPattern.slots (jA Z n sz)) 75 [(0, jr Z 3), (1, jr Z 1), (2, jr Z v2), (3, jI v3), (4, jI v4), (5, jI v5), (6, jI v6)] [] := by
                intro v4 C rv4 hw N
                have hn := hw0.2.2.1
                induction N with
                | zero => intro v5 v6 rv5 rv6 h; exact h.elim
                | succ N ih75 =>
                  intro v5 v6 rv5 rv6 h
                  have h : wp_9_readPattern_75 v2 v3 v4 C post (jI2 (wp_9_readPattern_75 v2 v3 v4 C post) N) v5 v6 := h
                  generalize jI2 (wp_9_readPattern_75 v2 v3 v4 C post) N = k75 at h ih75
                  unfold wp_9_readPattern_75 at h
                  refine jg_iload (pc := 75) X d_9_readPattern_75 5 rfl ?_
                  refine jg_iconst (pc := 77) X d_9_readPattern_77 ?_
                  refine jg_icmp_gt (tgt := 118) (pc := 78) X d_9_readPattern_78 (by decide) rv5 (⟨by decide, by decide⟩ : jRng 4) h (fun c70 h => ?_) (fun c70 h => ?_)
                  · refine jg_aload_n (pc := 118) X d_9_readPattern_118 1 rfl ?_
                    refine jg_iload (pc := 119) X d_9_readPattern_119 4 rfl ?_
                    refine jg_iload (pc := 121) X d_9_readPattern_121 5 rfl ?_
                    refine jg_iadd (pc := 123) X d_9_readPattern_123 ?_
                    obtain ⟨r71, h⟩ := h
                    refine jg_pcallVi (pc := 124) X (m_5_byteAt r71 hw h) jM_5_byteAt kw_847 (jl_1_5 hn) rfl rfl rfl rfl rfl (Nat.le_of_ble_eq_true rfl) d_9_readPattern_124 ⟨(Nat.le_of_ble_eq_true rfl), (Nat.le_of_ble_eq_true rfl)⟩ ⟨(Nat.le_of_ble_eq_true rfl), (Nat.le_of_ble_eq_true rfl)⟩ (fun x72 r74 h => ?_)
                    refine jg_bipush (pc := 127) X d_9_readPattern_127 rfl ?_
                    refine jg_icmp_ne (tgt := 136) (pc := 129) X d_9_readPattern_129 (by decide) r74 (⟨by decide, by decide⟩ : jRng 42) h (fun c76 h => ?_) (fun c76 h => ?_)
                    · refine jg_iconst (pc := 132) X d_9_readPattern_132 ?_
                      refine jg_goto (tgt := 137) (pc := 133) X d_9_readPattern_133 (by decide) ?_
                      refine jg_sub [1, 2, 3, 4, 5, 6] rfl ?_
                      exact jb137 _ _ _ _ _ _ _ (⟨by decide, by decide⟩ : jRng 1) tv2 rv3 rv4 rv5 rv6 hw h
                    · refine jg_iconst (pc := 136) X d_9_readPattern_136 ?_
                      refine jg_sub [1, 2, 3, 4, 5, 6] rfl ?_
                      exact jb137 _ _ _ _ _ _ _ (⟨by decide, by decide⟩ : jRng 0) tv2 rv3 rv4 rv5 rv6 hw h
                  · refine jg_aload_n (pc := 81) X d_9_readPattern_81 0 rfl ?_
                    refine jg_aload_n (pc := 82) X d_9_readPattern_82 1 rfl ?_
                    refine jg_iload (pc := 83) X d_9_readPattern_83 4 rfl ?_
                    refine jg_iload (pc := 85) X d_9_readPattern_85 5 rfl ?_
                    refine jg_iadd (pc := 87) X d_9_readPattern_87 ?_
                    obtain ⟨r77, h⟩ := h
                    refine jg_pcallVi (pc := 88) X (m_9_isPatternSign r77 hw h) jM_9_isPatternSign kw_842 (jl_3_9 hn) rfl rfl rfl rfl rfl (Nat.le_of_ble_eq_true rfl) d_9_readPattern_88 ⟨(Nat.le_of_ble_eq_true rfl), (Nat.le_of_ble_eq_true rfl)⟩ ⟨(Nat.le_of_ble_eq_true rfl), (Nat.le_of_ble_eq_true rfl)⟩ (fun x78 r80 h => ?_)
                    refine jg_if_eq (tgt := 118) (pc := 91) X d_9_readPattern_91 (by decide) r80 h (fun c82 h => ?_) (fun c82 h => ?_)
                    · refine jg_aload_n (pc := 118) X d_9_readPattern_118 1 rfl ?_
                      refine jg_iload (pc := 119) X d_9_readPattern_119 4 rfl ?_
                      refine jg_iload (pc := 121) X d_9_readPattern_121 5 rfl ?_
                      refine jg_iadd (pc := 123) X d_9_readPattern_123 ?_
                      refine jg_pcallVi (pc := 124) X (m_5_byteAt r77 hw h) jM_5_byteAt kw_847 (jl_1_5 hn) rfl rfl rfl rfl rfl (Nat.le_of_ble_eq_true rfl) d_9_readPattern_124 ⟨(Nat.le_of_ble_eq_true rfl), (Nat.le_of_ble_eq_true rfl)⟩ ⟨(Nat.le_of_ble_eq_true rfl), (Nat.le_of_ble_eq_true rfl)⟩ (fun x83 r85 h => ?_)
                      refine jg_bipush (pc := 127) X d_9_readPattern_127 rfl ?_
                      refine jg_icmp_ne (tgt := 136) (pc := 129) X d_9_readPattern_129 (by decide) r85 (⟨by decide, by decide⟩ : jRng 42) h (fun c87 h => ?_) (fun c87 h => ?_)
                      · refine jg_iconst (pc := 132) X d_9_readPattern_132 ?_
                        refine jg_goto (tgt := 137) (pc := 133) X d_9_readPattern_133 (by decide) ?_
                        refine jg_sub [1, 2, 3, 4, 5, 6] rfl ?_
                        exact jb137 _ _ _ _ _ _ _ (⟨by decide, by decide⟩ : jRng 1) tv2 rv3 rv4 rv5 rv6 hw h
                      · refine jg_iconst (pc := 136) X d_9_readPattern_136 ?_
                        refine jg_sub [1, 2, 3, 4, 5, 6] rfl ?_
                        exact jb137 _ _ _ _ _ _ _ (⟨by decide, by decide⟩ : jRng 0) tv2 rv3 rv4 rv5 rv6 hw h
                    · refine jg_iload (pc := 94) X d_9_readPattern_94 6 rfl ?_
                      refine jg_iload (pc := 96) X d_9_readPattern_96 5 rfl ?_
                      refine jg_aload_n (pc := 98) X d_9_readPattern_98 1 rfl ?_
                      refine jg_iload (pc := 99) X d_9_readPattern_99 4 rfl ?_
                      refine jg_iload (pc := 101) X d_9_readPattern_101 5 rfl ?_
                      refine jg_iadd (pc := 103) X d_9_readPattern_103 ?_
                      refine jg_pcallVi (pc := 104) X (m_5_byteAt r77 hw h) jM_5_byteAt kw_847 (jl_1_5 hn) rfl rfl rfl rfl rfl (Nat.le_of_ble_eq_true rfl) d_9_readPattern_104 ⟨(Nat.le_of_ble_eq_true rfl), (Nat.le_of_ble_eq_true rfl)⟩ ⟨(Nat.le_of_ble_eq_true rfl), (Nat.le_of_ble_eq_true rfl)⟩ (fun x88 r90 h => ?_)
                      refine jg_pcallSi (pc := 107) X (m_1_withSign rv6 rv5 r90 hw h) jM_1_withSign kw_848 rfl rfl (Nat.le_of_ble_eq_true rfl) d_9_readPattern_107 ⟨(Nat.le_of_ble_eq_true rfl), (Nat.le_of_ble_eq_true rfl)⟩ ⟨(Nat.le_of_ble_eq_true rfl), (Nat.le_of_ble_eq_true rfl)⟩ (fun x92 r94 h => ?_)
                      refine jg_istore (pc := 110) X [(6, jI x92), (0, jr Z 3), (1, jr Z 1), (2, jr Z v2), (3, jI v3), (4, jI v4), (5, jI v5)] d_9_readPattern_110 (by decide) rfl ?_
                      refine jg_iinc (pc := 112) X [(5, jI (v5 + 1)), (6, jI x92), (0, jr Z 3), (1, jr Z 1), (2, jr Z v2), (3, jI v3), (4, jI v4)] d_9_readPattern_112 6 rfl (by decide) rfl ?_
                      refine jg_goto (tgt := 75) (pc := 115) X d_9_readPattern_115 (by decide) ?_
                      have r96 : jRng (v5 + 1) := by (unfold jRng; exact ⟨by (have z0 : jRng v5 := rv5; unfold jRng at z0; omega), by (have z0 : jRng v5 := rv5; unfold jRng at z0; omega)⟩)
                      refine jg_sub [2, 3, 4, 5, 6, 0, 1] rfl ?_
                      exact ih75 _ _ r96 r94 h
              obtain ⟨N, h⟩ := h
              refine jg_sub [3, 4, 5, 6, 2, 1, 0] rfl ?_
              exact jl75 _ _ (w39.1 _ _) w39 N _ _ (⟨by decide, by decide⟩ : jRng 0) (⟨by decide, by decide⟩ : jRng 0) h
            · refine jg_sub [1] rfl ?_
              exact jb58 _ w39 h
          · refine jg_sub [1] rfl ?_
            exact jb58 _ w39 h
        · refine jg_sub [1] rfl ?_
          exact jb58 _ w39 h
      · refine jg_sub [1] rfl ?_
        exact jb58 _ w39 h
    · refine jg_sub [1] rfl ?_
      exact jb58 _ w39 h
  · refine jg_sub [1] rfl ?_
    exact jb58 _ w39 h
set_option maxHeartbeats 4000000 in
set_option maxRecDepth 100000 in
theorem m_9_readFilter {l : Launch} {Z : jE} {n : Nat} {C : jC}  {post : Int → jC → Prop}  (hw0 : jWF n C) (h : wp_9_readFilter C post) : jCi l y_9_readFilter prog_11_method_17_code 7 (.boolean) q_9_readFilter Z n C [jr Z 3, jr Z 1] post := by
  have hn := hw0.2.2.1
  unfold wp_9_readFilter at h
  refine jCi_of (lv0 := [(0, jr Z 3), (1, jr Z 1)]) (by decide) (Nat.le_of_ble_eq_true rfl) rfl ?_
  intro p e s m args below meth c A sz X hAe hr hlocks
  refine jg_aload_n (pc := 0) X d_9_readFilter_0 0 rfl ?_
  refine jg_aload_n (pc := 1) X d_9_readFilter_1 1 rfl ?_
  refine jg_callVi (pc := 2) X (m_9_readColumn hw0 h) jM_9_readColumn kw_809 (jl_3_9 hn) rfl rfl rfl rfl rfl (Nat.le_of_ble_eq_true rfl) d_9_readFilter_2 ⟨(Nat.le_of_ble_eq_true rfl), (Nat.le_of_ble_eq_true rfl)⟩ ⟨(Nat.le_of_ble_eq_true rfl), (Nat.le_of_ble_eq_true rfl)⟩ (fun x1 C2 r3 w4 h => ?_)
  refine jg_if_ne (tgt := 10) (pc := 5) X d_9_readFilter_5 (by decide) r3 h (fun c5 h => ?_) (fun c5 h => ?_)
  · refine jg_iconst (pc := 8) X d_9_readFilter_8 ?_
    exact jg_ireturn (pc := 9) X hAe hlocks hr d_9_readFilter_9 ⟨(Nat.le_of_ble_eq_true rfl), (Nat.le_of_ble_eq_true rfl)⟩ rfl (⟨by decide, by decide⟩ : jRng 0) w4 h
  · refine jg_aload_n (pc := 10) X d_9_readFilter_10 1 rfl ?_
    refine jgfN_5_5 (pc := 11) X (jl_1_5 hn) kn_50 d_9_readFilter_11 ?_
    refine jg_istore_n (pc := 14) X [(2, jI (C2 1 5)), (0, jr Z 3), (1, jr Z 1)] d_9_readFilter_14 (by decide) rfl ?_
    refine jg_aload_n (pc := 15) X d_9_readFilter_15 1 rfl ?_
    refine jgf_9_5 (pc := 16) X (jl_3_9 hn) kw_133 d_9_readFilter_16 ?_
    refine jg_iload_n (pc := 19) X d_9_readFilter_19 0 rfl ?_
    refine jg_pcallVr (pc := 20) X (m_2_filterOf (jl_7_2 hn) (w4.1 _ _) w4 h) jM_2_filterOf kw_814 (jl_7_2 hn) rfl rfl rfl rfl rfl (Nat.le_of_ble_eq_true rfl) d_9_readFilter_20 ⟨(Nat.le_of_ble_eq_true rfl), (Nat.le_of_ble_eq_true rfl)⟩ ⟨(Nat.le_of_ble_eq_true rfl), (Nat.le_of_ble_eq_true rfl)⟩ (fun x6 h => ?_)
    obtain ⟨t10, h⟩ := h
    refine jg_qstore_n (pc := 23) X [(3, jn Z x6), (2, jI (C2 1 5)), (0, jr Z 3), (1, jr Z 1)] d_9_readFilter_23 (by decide) rfl ?_
    refine jg_qload_n (pc := 24) X d_9_readFilter_24 0 rfl ?_
    refine jg_ifnull (tgt := 35) (pc := 25) X d_9_readFilter_25 (by decide) h (fun c11 h => ?_) (fun c11 h => ?_)
    · refine jg_aload_n (pc := 35) X d_9_readFilter_35 3 rfl ?_
      refine jg_aload_n (pc := 36) X d_9_readFilter_36 3 rfl ?_
      refine jgfN_5_6 (pc := 37) X (jl_1_5 hn) kn_52 d_9_readFilter_37 ?_
      refine jg_callVi (pc := 40) X (m_5_failAt (w4.1 _ _) w4 h) jM_5_failAt kw_559 (jl_1_5 hn) rfl rfl rfl rfl rfl (Nat.le_of_ble_eq_true rfl) d_9_readFilter_40 ⟨(Nat.le_of_ble_eq_true rfl), (Nat.le_of_ble_eq_true rfl)⟩ ⟨(Nat.le_of_ble_eq_true rfl), (Nat.le_of_ble_eq_true rfl)⟩ (fun x12 C13 r14 w15 h => ?_)
      obtain ⟨b16, h⟩ := h
      exact jg_ireturn (pc := 43) X hAe hlocks hr d_9_readFilter_43 ⟨(Nat.le_of_ble_eq_true rfl), (Nat.le_of_ble_eq_true rfl)⟩ (jnar_b b16) r14 w15 h
    · refine jg_eqlv (lv2 := [(3, jr Z x6), (2, jI (C2 1 5)), (0, jr Z 3), (1, jr Z 1)]) (by rw [jn_pos c11]) ?_
      refine jg_aload_n (pc := 28) X d_9_readFilter_28 0 rfl ?_
      refine jgfN_1_0 (pc := 29) X (Or.resolve_left t10 (Int.not_lt.mpr c11)) kn_91 d_9_readFilter_29 ?_
      refine jg_if_le (tgt := 44) (pc := 32) X d_9_readFilter_32 (by decide) (w4.1 _ _) h (fun c17 h => ?_) (fun c17 h => ?_)
      · have c17 : (C2 x6 0) ≤ 0 := c17
        refine jg_aload_n (pc := 44) X d_9_readFilter_44 3 rfl ?_
        refine jg_bipush (pc := 45) X d_9_readFilter_45 rfl ?_
        refine jg_callVi (pc := 47) X (m_5_takeSign (⟨by decide, by decide⟩ : jRng 58) w4 h) jM_5_takeSign kw_611 (jl_1_5 hn) rfl rfl rfl rfl rfl (Nat.le_of_ble_eq_true rfl) d_9_readFilter_47 ⟨(Nat.le_of_ble_eq_true rfl), (Nat.le_of_ble_eq_true rfl)⟩ ⟨(Nat.le_of_ble_eq_true rfl), (Nat.le_of_ble_eq_true rfl)⟩ (fun x18 C19 r20 w21 h => ?_)
        refine jg_if_ne (tgt := 58) (pc := 50) X d_9_readFilter_50 (by decide) r20 h (fun c22 h => ?_) (fun c22 h => ?_)
        · refine jg_aload_n (pc := 53) X d_9_readFilter_53 3 rfl ?_
          refine jg_callVi (pc := 54) X (m_5_failHere w21 h) jM_5_failHere kw_555 (jl_1_5 hn) rfl rfl rfl rfl rfl (Nat.le_of_ble_eq_true rfl) d_9_readFilter_54 ⟨(Nat.le_of_ble_eq_true rfl), (Nat.le_of_ble_eq_true rfl)⟩ ⟨(Nat.le_of_ble_eq_true rfl), (Nat.le_of_ble_eq_true rfl)⟩ (fun x23 C24 r25 w26 h => ?_)
          obtain ⟨b27, h⟩ := h
          exact jg_ireturn (pc := 57) X hAe hlocks hr d_9_readFilter_57 ⟨(Nat.le_of_ble_eq_true rfl), (Nat.le_of_ble_eq_true rfl)⟩ (jnar_b b27) r25 w26 h
        · refine jg_aload_n (pc := 58) X d_9_readFilter_58 2 rfl ?_
          refine jg_iload_n (pc := 59) X d_9_readFilter_59 1 rfl ?_
          refine jg_pcallVi (pc := 60) X (m_9_kindAsked (w4.1 _ _) w21 h) jM_9_kindAsked kw_572 (jl_3_9 hn) rfl rfl rfl rfl rfl (Nat.le_of_ble_eq_true rfl) d_9_readFilter_60 ⟨(Nat.le_of_ble_eq_true rfl), (Nat.le_of_ble_eq_true rfl)⟩ ⟨(Nat.le_of_ble_eq_true rfl), (Nat.le_of_ble_eq_true rfl)⟩ (fun x28 r30 h => ?_)
          refine jg_if_ne (tgt := 70) (pc := 63) X d_9_readFilter_63 (by decide) r30 h (fun c32 h => ?_) (fun c32 h => ?_)
          · refine jg_iconst (pc := 66) X d_9_readFilter_66 ?_
            refine jg_goto (tgt := 71) (pc := 67) X d_9_readFilter_67 (by decide) ?_
            refine jg_istore (pc := 71) X [(4, jI 1), (3, jr Z x6), (2, jI (C2 1 5)), (0, jr Z 3), (1, jr Z 1)] d_9_readFilter_71 (by decide) rfl ?_
            refine jg_iconst (pc := 73) X d_9_readFilter_73 ?_
            refine jg_istore (pc := 74) X [(5, jI 0), (4, jI 1), (3, jr Z x6), (2, jI (C2 1 5)), (0, jr Z 3), (1, jr Z 1)] d_9_readFilter_74 (by decide) rfl ?_
            have jl76 : ∀ (v3 : Int) (v4 : Int) (tv3 : jT n v3 1) (rv4 : jRng v4) (N : Nat) (v5 : Int) (C : jC) (rv5 : jRng v5) (hw : jWF n C), jI2 (wp_9_readFilter_76 v3 v4 post) N v5 C → jG p l e q_9_readFilter s m args below meth c 7 Z A (jws Z n C) 0 0 (MQ below (jQi Z n sz post) args s q_9_readFilter.cells q_9_readFilter.slots (jA Z n sz)) 76 [(0, jr Z 3), (1, jr Z 1), (3, jr Z v3), (4, jI v4), (5, jI v5)] [] := by
              intro v3 v4 tv3 rv4 N
              have hn := hw0.2.2.1
              induction N with
              | zero => intro v5 C rv5 hw h; exact h.elim
              | succ N ih76 =>
                intro v5 C rv5 hw h
                have h : wp_9_readFilter_76 v3 v4 post (jI2 (wp_9_readFilter_76 v3 v4 post) N) v5 C := h
                generalize jI2 (wp_9_readFilter_76 v3 v4 post) N = k76 at h ih76
                unfold wp_9_readFilter_76 at h
                have jb143 : ∀ (v5 : Int) (C : jC) (rv5 : jRng v5) (hw : jWF n C), wp_9_readFilter_143 v3 v4 v5 C post k76 → jG p l e q_9_readFilter s m args below meth c 7 Z A (jws Z n C) 0 0 (MQ below (jQi Z n sz post) args s q_9_readFilter.cells q_9_readFilter.slots (jA Z n sz)) 143 [(0, jr Z 3), (1, jr Z 1), (3, jr Z v3), (4, jI v4), (5, jI v5)] [] := by
                  intro v5 C rv5 hw h
                  unfold wp_9_readFilter_143 at h
                  refine jg_aload_n (pc := 143) X d_9_readFilter_143 1 rfl ?_
                  refine jg_ldcS (pc := 144) "or" 4 X (by decide +kernel) d_9_readFilter_144 ?_
                  refine jg_callVi (pc := 146) X (m_5_takeWord (by decide) hw h) jM_5_takeWord kw_493 (jl_1_5 hn) rfl rfl rfl rfl rfl (Nat.le_of_ble_eq_true rfl) d_9_readFilter_146 ⟨(Nat.le_of_ble_eq_true rfl), (Nat.le_of_ble_eq_true rfl)⟩ ⟨(Nat.le_of_ble_eq_true rfl), (Nat.le_of_ble_eq_true rfl)⟩ (fun x33 C34 r35 w36 h => ?_)
                  refine jg_if_ne (tgt := 154) (pc := 149) X d_9_readFilter_149 (by decide) r35 h (fun c37 h => ?_) (fun c37 h => ?_)
                  · refine jg_iconst (pc := 152) X d_9_readFilter_152 ?_
                    exact jg_ireturn (pc := 153) X hAe hlocks hr d_9_readFilter_153 ⟨(Nat.le_of_ble_eq_true rfl), (Nat.le_of_ble_eq_true rfl)⟩ rfl (⟨by decide, by decide⟩ : jRng 1) w36 h
                  · refine jg_iinc (pc := 154) X [(5, jI (v5 + 1)), (0, jr Z 3), (1, jr Z 1), (3, jr Z v3), (4, jI v4)] d_9_readFilter_154 4 rfl (by decide) rfl ?_
                    refine jg_goto (tgt := 76) (pc := 157) X d_9_readFilter_157 (by decide) ?_
                    obtain ⟨r38, h⟩ := h
                    refine jg_sub [1, 2, 3, 4, 0] rfl ?_
                    exact ih76 _ _ r38 w36 h
                refine jg_iload (pc := 76) X d_9_readFilter_76 4 rfl ?_
                refine jg_bipush (pc := 78) X d_9_readFilter_78 rfl ?_
                refine jg_icmp_ge (tgt := 160) (pc := 80) X d_9_readFilter_80 (by decide) rv5 (⟨by decide, by decide⟩ : jRng 6) h (fun c39 h => ?_) (fun c39 h => ?_)
                · refine jg_aload_n (pc := 160) X d_9_readFilter_160 1 rfl ?_
                  refine jg_callVv (pc := 161) X (m_5_skipBlanks hw h) jM_5_skipBlanks kw_491 (jl_1_5 hn) rfl rfl rfl rfl rfl (Nat.le_of_ble_eq_true rfl) d_9_readFilter_161 ⟨(Nat.le_of_ble_eq_true rfl), (Nat.le_of_ble_eq_true rfl)⟩ ⟨(Nat.le_of_ble_eq_true rfl), (Nat.le_of_ble_eq_true rfl)⟩ (fun C41 w43 h => ?_)
                  refine jg_aload_n (pc := 164) X d_9_readFilter_164 1 rfl ?_
                  refine jg_callVi (pc := 165) X (m_5_failHere w43 h) jM_5_failHere kw_555 (jl_1_5 hn) rfl rfl rfl rfl rfl (Nat.le_of_ble_eq_true rfl) d_9_readFilter_165 ⟨(Nat.le_of_ble_eq_true rfl), (Nat.le_of_ble_eq_true rfl)⟩ ⟨(Nat.le_of_ble_eq_true rfl), (Nat.le_of_ble_eq_true rfl)⟩ (fun x44 C45 r46 w47 h => ?_)
                  obtain ⟨b48, h⟩ := h
                  exact jg_ireturn (pc := 168) X hAe hlocks hr d_9_readFilter_168 ⟨(Nat.le_of_ble_eq_true rfl), (Nat.le_of_ble_eq_true rfl)⟩ (jnar_b b48) r46 w47 h
                · refine jg_aload_n (pc := 83) X d_9_readFilter_83 0 rfl ?_
                  refine jg_aload_n (pc := 84) X d_9_readFilter_84 1 rfl ?_
                  refine jg_callVi (pc := 85) X (m_9_takeNots hw h) jM_9_takeNots kw_818 (jl_3_9 hn) rfl rfl rfl rfl rfl (Nat.le_of_ble_eq_true rfl) d_9_readFilter_85 ⟨(Nat.le_of_ble_eq_true rfl), (Nat.le_of_ble_eq_true rfl)⟩ ⟨(Nat.le_of_ble_eq_true rfl), (Nat.le_of_ble_eq_true rfl)⟩ (fun x49 C50 r51 w52 h => ?_)
                  refine jg_istore (pc := 88) X [(6, jI x49), (0, jr Z 3), (1, jr Z 1), (3, jr Z v3), (4, jI v4), (5, jI v5)] d_9_readFilter_88 (by decide) rfl ?_
                  refine jg_aload_n (pc := 90) X d_9_readFilter_90 2 rfl ?_
                  refine jg_ldcS (pc := 91) "blank" 7 X (by decide +kernel) d_9_readFilter_91 ?_
                  refine jg_callVi (pc := 93) X (m_5_takeWord (by decide) w52 h) jM_5_takeWord kw_493 (jl_1_5 hn) rfl rfl rfl rfl rfl (Nat.le_of_ble_eq_true rfl) d_9_readFilter_93 ⟨(Nat.le_of_ble_eq_true rfl), (Nat.le_of_ble_eq_true rfl)⟩ ⟨(Nat.le_of_ble_eq_true rfl), (Nat.le_of_ble_eq_true rfl)⟩ (fun x53 C54 r55 w56 h => ?_)
                  refine jg_if_eq (tgt := 111) (pc := 96) X d_9_readFilter_96 (by decide) r55 h (fun c57 h => ?_) (fun c57 h => ?_)
                  · refine jg_iload (pc := 111) X d_9_readFilter_111 4 rfl ?_
                    refine jg_if_eq (tgt := 130) (pc := 113) X d_9_readFilter_113 (by decide) rv4 h (fun c58 h => ?_) (fun c58 h => ?_)
                    · refine jg_aload_n (pc := 130) X d_9_readFilter_130 1 rfl ?_
                      refine jg_aload_n (pc := 131) X d_9_readFilter_131 2 rfl ?_
                      refine jg_aload_n (pc := 132) X d_9_readFilter_132 3 rfl ?_
                      refine jg_iload (pc := 133) X d_9_readFilter_133 0 rfl ?_
                      refine jg_callVi (pc := 135) X (m_9_readPattern tv3 r51 w56 h) jM_9_readPattern kw_833 (jl_3_9 hn) rfl rfl rfl rfl rfl (Nat.le_of_ble_eq_true rfl) d_9_readFilter_135 ⟨(Nat.le_of_ble_eq_true rfl), (Nat.le_of_ble_eq_true rfl)⟩ ⟨(Nat.le_of_ble_eq_true rfl), (Nat.le_of_ble_eq_true rfl)⟩ (fun x59 C60 r61 w62 h => ?_)
                      refine jg_if_ne (tgt := 143) (pc := 138) X d_9_readFilter_138 (by decide) r61 h (fun c63 h => ?_) (fun c63 h => ?_)
                      · refine jg_iconst (pc := 141) X d_9_readFilter_141 ?_
                        exact jg_ireturn (pc := 142) X hAe hlocks hr d_9_readFilter_142 ⟨(Nat.le_of_ble_eq_true rfl), (Nat.le_of_ble_eq_true rfl)⟩ rfl (⟨by decide, by decide⟩ : jRng 0) w62 h
                      · refine jg_sub [1, 2, 3, 4, 5] rfl ?_
                        exact jb143 _ _ rv5 w62 h
                    · refine jg_aload_n (pc := 116) X d_9_readFilter_116 1 rfl ?_
                      refine jg_aload_n (pc := 117) X d_9_readFilter_117 2 rfl ?_
                      refine jg_aload_n (pc := 118) X d_9_readFilter_118 3 rfl ?_
                      refine jg_iload (pc := 119) X d_9_readFilter_119 0 rfl ?_
                      refine jg_callVi (pc := 121) X (m_9_readRange tv3 r51 w56 h) jM_9_readRange kw_828 (jl_3_9 hn) rfl rfl rfl rfl rfl (Nat.le_of_ble_eq_true rfl) d_9_readFilter_121 ⟨(Nat.le_of_ble_eq_true rfl), (Nat.le_of_ble_eq_true rfl)⟩ ⟨(Nat.le_of_ble_eq_true rfl), (Nat.le_of_ble_eq_true rfl)⟩ (fun x64 C65 r66 w67 h => ?_)
                      refine jg_if_eq (tgt := 141) (pc := 124) X d_9_readFilter_124 (by decide) r66 h (fun c68 h => ?_) (fun c68 h => ?_)
                      · refine jg_iconst (pc := 141) X d_9_readFilter_141 ?_
                        exact jg_ireturn (pc := 142) X hAe hlocks hr d_9_readFilter_142 ⟨(Nat.le_of_ble_eq_true rfl), (Nat.le_of_ble_eq_true rfl)⟩ rfl (⟨by decide, by decide⟩ : jRng 0) w67 h
                      · refine jg_goto (tgt := 143) (pc := 127) X d_9_readFilter_127 (by decide) ?_
                        refine jg_sub [1, 2, 3, 4, 5] rfl ?_
                        exact jb143 _ _ rv5 w67 h
                  · refine jg_aload_n (pc := 99) X d_9_readFilter_99 3 rfl ?_
                    refine jg_iconst (pc := 100) X d_9_readFilter_100 ?_
                    refine jg_iconst (pc := 101) X d_9_readFilter_101 ?_
                    refine jg_iconst (pc := 102) X d_9_readFilter_102 ?_
                    refine jg_iload (pc := 103) X d_9_readFilter_103 0 rfl ?_
                    refine jg_callVv (pc := 105) X (m_1_takeTest tv3 (⟨by decide, by decide⟩ : jRng 0) (⟨by decide, by decide⟩ : jRng 0) (⟨by decide, by decide⟩ : jRng 0) r51 w56 h) jM_1_takeTest kw_824 tv3 rfl rfl rfl rfl rfl (Nat.le_of_ble_eq_true rfl) d_9_readFilter_105 ⟨(Nat.le_of_ble_eq_true rfl), (Nat.le_of_ble_eq_true rfl)⟩ ⟨(Nat.le_of_ble_eq_true rfl), (Nat.le_of_ble_eq_true rfl)⟩ (fun C70 w72 h => ?_)
                    refine jg_goto (tgt := 143) (pc := 108) X d_9_readFilter_108 (by decide) ?_
                    refine jg_sub [1, 2, 3, 4, 5] rfl ?_
                    exact jb143 _ _ rv5 w72 h
            obtain ⟨N, h⟩ := h
            refine jg_sub [4, 5, 2, 1, 0] rfl ?_
            exact jl76 _ _ (Or.resolve_left t10 (Int.not_lt.mpr c11)) (⟨by decide, by decide⟩ : jRng 1) N _ _ (⟨by decide, by decide⟩ : jRng 0) w21 h
          · refine jg_iconst (pc := 70) X d_9_readFilter_70 ?_
            refine jg_istore (pc := 71) X [(4, jI 0), (3, jr Z x6), (2, jI (C2 1 5)), (0, jr Z 3), (1, jr Z 1)] d_9_readFilter_71 (by decide) rfl ?_
            refine jg_iconst (pc := 73) X d_9_readFilter_73 ?_
            refine jg_istore (pc := 74) X [(5, jI 0), (4, jI 0), (3, jr Z x6), (2, jI (C2 1 5)), (0, jr Z 3), (1, jr Z 1)] d_9_readFilter_74 (by decide) rfl ?_
            have jl76 : ∀ (v3 : Int) (v4 : Int) (tv3 : jT n v3 1) (rv4 : jRng v4) (N : Nat) (v5 : Int) (C : jC) (rv5 : jRng v5) (hw : jWF n C), jI2 (wp_9_readFilter_76 v3 v4 post) N v5 C → jG p l e q_9_readFilter s m args below meth c 7 Z A (jws Z n C) 0 0 (MQ below (jQi Z n sz post) args s q_9_readFilter.cells q_9_readFilter.slots (jA Z n sz)) 76 [(0, jr Z 3), (1, jr Z 1), (3, jr Z v3), (4, jI v4), (5, jI v5)] [] := by
              intro v3 v4 tv3 rv4 N
              have hn := hw0.2.2.1
              induction N with
              | zero => intro v5 C rv5 hw h; exact h.elim
              | succ N ih76 =>
                intro v5 C rv5 hw h
                have h : wp_9_readFilter_76 v3 v4 post (jI2 (wp_9_readFilter_76 v3 v4 post) N) v5 C := h
                generalize jI2 (wp_9_readFilter_76 v3 v4 post) N = k76 at h ih76
                unfold wp_9_readFilter_76 at h
                have jb143 : ∀ (v5 : Int) (C : jC) (rv5 : jRng v5) (hw : jWF n C), wp_9_readFilter_143 v3 v4 v5 C post k76 → jG p l e q_9_readFilter s m args below meth c 7 Z A (jws Z n C) 0 0 (MQ below (jQi Z n sz post) args s q_9_readFilter.cells q_9_readFilter.slots (jA Z n sz)) 143 [(0, jr Z 3), (1, jr Z 1), (3, jr Z v3), (4, jI v4), (5, jI v5)] [] := by
                  intro v5 C rv5 hw h
                  unfold wp_9_readFilter_143 at h
                  refine jg_aload_n (pc := 143) X d_9_readFilter_143 1 rfl ?_
                  refine jg_ldcS (pc := 144) "or" 4 X (by decide +kernel) d_9_readFilter_144 ?_
                  refine jg_callVi (pc := 146) X (m_5_takeWord (by decide) hw h) jM_5_takeWord kw_493 (jl_1_5 hn) rfl rfl rfl rfl rfl (Nat.le_of_ble_eq_true rfl) d_9_readFilter_146 ⟨(Nat.le_of_ble_eq_true rfl), (Nat.le_of_ble_eq_true rfl)⟩ ⟨(Nat.le_of_ble_eq_true rfl), (Nat.le_of_ble_eq_true rfl)⟩ (fun x73 C74 r75 w76 h => ?_)
                  refine jg_if_ne (tgt := 154) (pc := 149) X d_9_readFilter_149 (by decide) r75 h (fun c77 h => ?_) (fun c77 h => ?_)
                  · refine jg_iconst (pc := 152) X d_9_readFilter_152 ?_
                    exact jg_ireturn (pc := 153) X hAe hlocks hr d_9_readFilter_153 ⟨(Nat.le_of_ble_eq_true rfl), (Nat.le_of_ble_eq_true rfl)⟩ rfl (⟨by decide, by decide⟩ : jRng 1) w76 h
                  · refine jg_iinc (pc := 154) X [(5, jI (v5 + 1)), (0, jr Z 3), (1, jr Z 1), (3, jr Z v3), (4, jI v4)] d_9_readFilter_154 4 rfl (by decide) rfl ?_
                    refine jg_goto (tgt := 76) (pc := 157) X d_9_readFilter_157 (by decide) ?_
                    obtain ⟨r78, h⟩ := h
                    refine jg_sub [1, 2, 3, 4, 0] rfl ?_
                    exact ih76 _ _ r78 w76 h
                refine jg_iload (pc := 76) X d_9_readFilter_76 4 rfl ?_
                refine jg_bipush (pc := 78) X d_9_readFilter_78 rfl ?_
                refine jg_icmp_ge (tgt := 160) (pc := 80) X d_9_readFilter_80 (by decide) rv5 (⟨by decide, by decide⟩ : jRng 6) h (fun c79 h => ?_) (fun c79 h => ?_)
                · refine jg_aload_n (pc := 160) X d_9_readFilter_160 1 rfl ?_
                  refine jg_callVv (pc := 161) X (m_5_skipBlanks hw h) jM_5_skipBlanks kw_491 (jl_1_5 hn) rfl rfl rfl rfl rfl (Nat.le_of_ble_eq_true rfl) d_9_readFilter_161 ⟨(Nat.le_of_ble_eq_true rfl), (Nat.le_of_ble_eq_true rfl)⟩ ⟨(Nat.le_of_ble_eq_true rfl), (Nat.le_of_ble_eq_true rfl)⟩ (fun C81 w83 h => ?_)
                  refine jg_aload_n (pc := 164) X d_9_readFilter_164 1 rfl ?_
                  refine jg_callVi (pc := 165) X (m_5_failHere w83 h) jM_5_failHere kw_555 (jl_1_5 hn) rfl rfl rfl rfl rfl (Nat.le_of_ble_eq_true rfl) d_9_readFilter_165 ⟨(Nat.le_of_ble_eq_true rfl), (Nat.le_of_ble_eq_true rfl)⟩ ⟨(Nat.le_of_ble_eq_true rfl), (Nat.le_of_ble_eq_true rfl)⟩ (fun x84 C85 r86 w87 h => ?_)
                  obtain ⟨b88, h⟩ := h
                  exact jg_ireturn (pc := 168) X hAe hlocks hr d_9_readFilter_168 ⟨(Nat.le_of_ble_eq_true rfl), (Nat.le_of_ble_eq_true rfl)⟩ (jnar_b b88) r86 w87 h
                · refine jg_aload_n (pc := 83) X d_9_readFilter_83 0 rfl ?_
                  refine jg_aload_n (pc := 84) X d_9_readFilter_84 1 rfl ?_
                  refine jg_callVi (pc := 85) X (m_9_takeNots hw h) jM_9_takeNots kw_818 (jl_3_9 hn) rfl rfl rfl rfl rfl (Nat.le_of_ble_eq_true rfl) d_9_readFilter_85 ⟨(Nat.le_of_ble_eq_true rfl), (Nat.le_of_ble_eq_true rfl)⟩ ⟨(Nat.le_of_ble_eq_true rfl), (Nat.le_of_ble_eq_true rfl)⟩ (fun x89 C90 r91 w92 h => ?_)
                  refine jg_istore (pc := 88) X [(6, jI x89), (0, jr Z 3), (1, jr Z 1), (3, jr Z v3), (4, jI v4), (5, jI v5)] d_9_readFilter_88 (by decide) rfl ?_
                  refine jg_aload_n (pc := 90) X d_9_readFilter_90 2 rfl ?_
                  refine jg_ldcS (pc := 91) "blank" 7 X (by decide +kernel) d_9_readFilter_91 ?_
                  refine jg_callVi (pc := 93) X (m_5_takeWord (by decide) w92 h) jM_5_takeWord kw_493 (jl_1_5 hn) rfl rfl rfl rfl rfl (Nat.le_of_ble_eq_true rfl) d_9_readFilter_93 ⟨(Nat.le_of_ble_eq_true rfl), (Nat.le_of_ble_eq_true rfl)⟩ ⟨(Nat.le_of_ble_eq_true rfl), (Nat.le_of_ble_eq_true rfl)⟩ (fun x93 C94 r95 w96 h => ?_)
                  refine jg_if_eq (tgt := 111) (pc := 96) X d_9_readFilter_96 (by decide) r95 h (fun c97 h => ?_) (fun c97 h => ?_)
                  · refine jg_iload (pc := 111) X d_9_readFilter_111 4 rfl ?_
                    refine jg_if_eq (tgt := 130) (pc := 113) X d_9_readFilter_113 (by decide) rv4 h (fun c98 h => ?_) (fun c98 h => ?_)
                    · refine jg_aload_n (pc := 130) X d_9_readFilter_130 1 rfl ?_
                      refine jg_aload_n (pc := 131) X d_9_readFilter_131 2 rfl ?_
                      refine jg_aload_n (pc := 132) X d_9_readFilter_132 3 rfl ?_
                      refine jg_iload (pc := 133) X d_9_readFilter_133 0 rfl ?_
                      refine jg_callVi (pc := 135) X (m_9_readPattern tv3 r91 w96 h) jM_9_readPattern kw_833 (jl_3_9 hn) rfl rfl rfl rfl rfl (Nat.le_of_ble_eq_true rfl) d_9_readFilter_135 ⟨(Nat.le_of_ble_eq_true rfl), (Nat.le_of_ble_eq_true rfl)⟩ ⟨(Nat.le_of_ble_eq_true rfl), (Nat.le_of_ble_eq_true rfl)⟩ (fun x99 C100 r101 w102 h => ?_)
                      refine jg_if_ne (tgt := 143) (pc := 138) X d_9_readFilter_138 (by decide) r101 h (fun c103 h => ?_) (fun c103 h => ?_)
                      · refine jg_iconst (pc := 141) X d_9_readFilter_141 ?_
                        exact jg_ireturn (pc := 142) X hAe hlocks hr d_9_readFilter_142 ⟨(Nat.le_of_ble_eq_true rfl), (Nat.le_of_ble_eq_true rfl)⟩ rfl (⟨by decide, by decide⟩ : jRng 0) w102 h
                      · refine jg_sub [1, 2, 3, 4, 5] rfl ?_
                        exact jb143 _ _ rv5 w102 h
                    · refine jg_aload_n (pc := 116) X d_9_readFilter_116 1 rfl ?_
                      refine jg_aload_n (pc := 117) X d_9_readFilter_117 2 rfl ?_
                      refine jg_aload_n (pc := 118) X d_9_readFilter_118 3 rfl ?_
                      refine jg_iload (pc := 119) X d_9_readFilter_119 0 rfl ?_
                      refine jg_callVi (pc := 121) X (m_9_readRange tv3 r91 w96 h) jM_9_readRange kw_828 (jl_3_9 hn) rfl rfl rfl rfl rfl (Nat.le_of_ble_eq_true rfl) d_9_readFilter_121 ⟨(Nat.le_of_ble_eq_true rfl), (Nat.le_of_ble_eq_true rfl)⟩ ⟨(Nat.le_of_ble_eq_true rfl), (Nat.le_of_ble_eq_true rfl)⟩ (fun x104 C105 r106 w107 h => ?_)
                      refine jg_if_eq (tgt := 141) (pc := 124) X d_9_readFilter_124 (by decide) r106 h (fun c108 h => ?_) (fun c108 h => ?_)
                      · refine jg_iconst (pc := 141) X d_9_readFilter_141 ?_
                        exact jg_ireturn (pc := 142) X hAe hlocks hr d_9_readFilter_142 ⟨(Nat.le_of_ble_eq_true rfl), (Nat.le_of_ble_eq_true rfl)⟩ rfl (⟨by decide, by decide⟩ : jRng 0) w107 h
                      · refine jg_goto (tgt := 143) (pc := 127) X d_9_readFilter_127 (by decide) ?_
                        refine jg_sub [1, 2, 3, 4, 5] rfl ?_
                        exact jb143 _ _ rv5 w107 h
                  · refine jg_aload_n (pc := 99) X d_9_readFilter_99 3 rfl ?_
                    refine jg_iconst (pc := 100) X d_9_readFilter_100 ?_
                    refine jg_iconst (pc := 101) X d_9_readFilter_101 ?_
                    refine jg_iconst (pc := 102) X d_9_readFilter_102 ?_
                    refine jg_iload (pc := 103) X d_9_readFilter_103 0 rfl ?_
                    refine jg_callVv (pc := 105) X (m_1_takeTest tv3 (⟨by decide, by decide⟩ : jRng 0) (⟨by decide, by decide⟩ : jRng 0) (⟨by decide, by decide⟩ : jRng 0) r91 w96 h) jM_1_takeTest kw_824 tv3 rfl rfl rfl rfl rfl (Nat.le_of_ble_eq_true rfl) d_9_readFilter_105 ⟨(Nat.le_of_ble_eq_true rfl), (Nat.le_of_ble_eq_true rfl)⟩ ⟨(Nat.le_of_ble_eq_true rfl), (Nat.le_of_ble_eq_true rfl)⟩ (fun C110 w112 h => ?_)
                    refine jg_goto (tgt := 143) (pc := 108) X d_9_readFilter_108 (by decide) ?_
                    refine jg_sub [1, 2, 3, 4, 5] rfl ?_
                    exact jb143 _ _ rv5 w112 h
            obtain ⟨N, h⟩ := h
            refine jg_sub [4, 5, 2, 1, 0] rfl ?_
            exact jl76 _ _ (Or.resolve_left t10 (Int.not_lt.mpr c11)) (⟨by decide, by decide⟩ : jRng 0) N _ _ (⟨by decide, by decide⟩ : jRng 0) w21 h
      · have c17 : ¬ ((C2 x6 0) ≤ 0) := c17
        refine jg_aload_n (pc := 35) X d_9_readFilter_35 3 rfl ?_
        refine jg_aload_n (pc := 36) X d_9_readFilter_36 3 rfl ?_
        refine jgfN_5_6 (pc := 37) X (jl_1_5 hn) kn_52 d_9_readFilter_37 ?_
        refine jg_callVi (pc := 40) X (m_5_failAt (w4.1 _ _) w4 h) jM_5_failAt kw_559 (jl_1_5 hn) rfl rfl rfl rfl rfl (Nat.le_of_ble_eq_true rfl) d_9_readFilter_40 ⟨(Nat.le_of_ble_eq_true rfl), (Nat.le_of_ble_eq_true rfl)⟩ ⟨(Nat.le_of_ble_eq_true rfl), (Nat.le_of_ble_eq_true rfl)⟩ (fun x113 C114 r115 w116 h => ?_)
        obtain ⟨b117, h⟩ := h
        exact jg_ireturn (pc := 43) X hAe hlocks hr d_9_readFilter_43 ⟨(Nat.le_of_ble_eq_true rfl), (Nat.le_of_ble_eq_true rfl)⟩ (jnar_b b117) r115 w116 h

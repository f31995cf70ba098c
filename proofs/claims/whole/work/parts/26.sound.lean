set_option maxHeartbeats 4000000 in
set_option maxRecDepth 100000 in
theorem m_12_readSheet {l : Launch} {Z : jE} {n : Nat} {C : jC}  {post : Int → jC → Prop}  (hw0 : jWF n C) (h : wp_12_readSheet C post) : jCi l y_12_readSheet prog_14_method_44_code 2 (.boolean) q_12_readSheet Z n C [jr Z 345] post := by
  have hn := hw0.2.2.1
  unfold wp_12_readSheet at h
  refine jCi_of (lv0 := [(0, jr Z 345)]) (by decide) (Nat.le_of_ble_eq_true rfl) rfl ?_
  intro p e s m args below meth c A sz X hAe hr hlocks
  refine jg_aload_n (pc := 0) X d_12_readSheet_0 0 rfl ?_
  refine jg_callVv (pc := 1) X (m_12_blanks hw0 h) jM_12_blanks kw_1567 (jl_345_12 hn) rfl rfl rfl rfl rfl (Nat.le_of_ble_eq_true rfl) d_12_readSheet_1 ⟨(Nat.le_of_ble_eq_true rfl), (Nat.le_of_ble_eq_true rfl)⟩ ⟨(Nat.le_of_ble_eq_true rfl), (Nat.le_of_ble_eq_true rfl)⟩ (fun C2 w4 h => ?_)
  refine jg_aload_n (pc := 4) X d_12_readSheet_4 0 rfl ?_
  refine jgf_12_7 (pc := 5) X (jl_345_12 hn) kw_1480 d_12_readSheet_5 ?_
  refine jg_aload_n (pc := 8) X d_12_readSheet_8 0 rfl ?_
  refine jgf_12_8 (pc := 9) X (jl_345_12 hn) kw_1481 d_12_readSheet_9 ?_
  refine jg_icmp_ne (tgt := 17) (pc := 12) X d_12_readSheet_12 (by decide) (w4.1 _ _) (w4.1 _ _) h (fun c5 h => ?_) (fun c5 h => ?_)
  · have c5 : (C2 345 7) = (C2 345 8) := c5
    refine jg_iconst (pc := 15) X d_12_readSheet_15 ?_
    exact jg_ireturn (pc := 16) X hAe hlocks hr d_12_readSheet_16 ⟨(Nat.le_of_ble_eq_true rfl), (Nat.le_of_ble_eq_true rfl)⟩ rfl (⟨by decide, by decide⟩ : jRng 1) w4 h
  · have c5 : ¬ ((C2 345 7) = (C2 345 8)) := c5
    refine jg_iconst (pc := 17) X d_12_readSheet_17 ?_
    refine jg_istore_n (pc := 18) X [(1, jI 0), (0, jr Z 345)] d_12_readSheet_18 (by decide) rfl ?_
    have jl19 : ∀  (N : Nat) (v1 : Int) (C : jC) (rv1 : jRng v1) (hw : jWF n C), jI2 (wp_12_readSheet_19  post) N v1 C → jG p l e q_12_readSheet s m args below meth c 2 Z A (jws Z n C) 0 0 (MQ below (jQi Z n sz post) args s q_12_readSheet.cells q_12_readSheet.slots (jA Z n sz)) 19 [(0, jr Z 345), (1, jI v1)] [] := by
      intro   N
      have hn := hw0.2.2.1
      induction N with
      | zero => intro v1 C rv1 hw h; exact h.elim
      | succ N ih19 =>
        intro v1 C rv1 hw h
        have h : wp_12_readSheet_19  post (jI2 (wp_12_readSheet_19  post) N) v1 C := h
        generalize jI2 (wp_12_readSheet_19  post) N = k19 at h ih19
        unfold wp_12_readSheet_19 at h
        have jb66 : ∀ (v1 : Int) (C : jC) (rv1 : jRng v1) (hw : jWF n C), wp_12_readSheet_66 v1 C post k19 → jG p l e q_12_readSheet s m args below meth c 2 Z A (jws Z n C) 0 0 (MQ below (jQi Z n sz post) args s q_12_readSheet.cells q_12_readSheet.slots (jA Z n sz)) 66 [(0, jr Z 345), (1, jI v1)] [] := by
          intro v1 C rv1 hw h
          unfold wp_12_readSheet_66 at h
          refine jg_aload_n (pc := 66) X d_12_readSheet_66 0 rfl ?_
          refine jg_bipush (pc := 67) X d_12_readSheet_67 rfl ?_
          refine jg_callVi (pc := 69) X (m_12_sign (⟨by decide, by decide⟩ : jRng 59) hw h) jM_12_sign kw_1622 (jl_345_12 hn) rfl rfl rfl rfl rfl (Nat.le_of_ble_eq_true rfl) d_12_readSheet_69 ⟨(Nat.le_of_ble_eq_true rfl), (Nat.le_of_ble_eq_true rfl)⟩ ⟨(Nat.le_of_ble_eq_true rfl), (Nat.le_of_ble_eq_true rfl)⟩ (fun x6 C7 r8 w9 h => ?_)
          refine jg_if_eq (tgt := 78) (pc := 72) X d_12_readSheet_72 (by decide) r8 h (fun c10 h => ?_) (fun c10 h => ?_)
          · refine jg_aload_n (pc := 78) X d_12_readSheet_78 0 rfl ?_
            refine jgf_12_7 (pc := 79) X (jl_345_12 hn) kw_1480 d_12_readSheet_79 ?_
            refine jg_aload_n (pc := 82) X d_12_readSheet_82 0 rfl ?_
            refine jgf_12_8 (pc := 83) X (jl_345_12 hn) kw_1481 d_12_readSheet_83 ?_
            refine jg_icmp_ne (tgt := 93) (pc := 86) X d_12_readSheet_86 (by decide) (w9.1 _ _) (w9.1 _ _) h (fun c11 h => ?_) (fun c11 h => ?_)
            · have c11 : (C7 345 7) = (C7 345 8) := c11
              refine jg_iconst (pc := 89) X d_12_readSheet_89 ?_
              refine jg_goto (tgt := 94) (pc := 90) X d_12_readSheet_90 (by decide) ?_
              exact jg_ireturn (pc := 94) X hAe hlocks hr d_12_readSheet_94 ⟨(Nat.le_of_ble_eq_true rfl), (Nat.le_of_ble_eq_true rfl)⟩ rfl (⟨by decide, by decide⟩ : jRng 1) w9 h
            · have c11 : ¬ ((C7 345 7) = (C7 345 8)) := c11
              refine jg_iconst (pc := 93) X d_12_readSheet_93 ?_
              exact jg_ireturn (pc := 94) X hAe hlocks hr d_12_readSheet_94 ⟨(Nat.le_of_ble_eq_true rfl), (Nat.le_of_ble_eq_true rfl)⟩ rfl (⟨by decide, by decide⟩ : jRng 0) w9 h
          · refine jg_goto (tgt := 95) (pc := 75) X d_12_readSheet_75 (by decide) ?_
            refine jg_iinc (pc := 95) X [(1, jI (v1 + 1)), (0, jr Z 345)] d_12_readSheet_95 1 rfl (by decide) rfl ?_
            refine jg_goto (tgt := 19) (pc := 98) X d_12_readSheet_98 (by decide) ?_
            obtain ⟨r12, h⟩ := h
            refine jg_sub [1, 0] rfl ?_
            exact ih19 _ _ r12 w9 h
        refine jg_aload_n (pc := 19) X d_12_readSheet_19 0 rfl ?_
        refine jg_callVv (pc := 20) X (m_12_letters hw h) jM_12_letters kw_1575 (jl_345_12 hn) rfl rfl rfl rfl rfl (Nat.le_of_ble_eq_true rfl) d_12_readSheet_20 ⟨(Nat.le_of_ble_eq_true rfl), (Nat.le_of_ble_eq_true rfl)⟩ ⟨(Nat.le_of_ble_eq_true rfl), (Nat.le_of_ble_eq_true rfl)⟩ (fun C14 w16 h => ?_)
        refine jg_iload_n (pc := 23) X d_12_readSheet_23 1 rfl ?_
        refine jg_bipush (pc := 24) X d_12_readSheet_24 rfl ?_
        refine jg_icmp_eq (tgt := 64) (pc := 26) X d_12_readSheet_26 (by decide) rv1 (⟨by decide, by decide⟩ : jRng 14) h (fun c17 h => ?_) (fun c17 h => ?_)
        · refine jg_iconst (pc := 64) X d_12_readSheet_64 ?_
          exact jg_ireturn (pc := 65) X hAe hlocks hr d_12_readSheet_65 ⟨(Nat.le_of_ble_eq_true rfl), (Nat.le_of_ble_eq_true rfl)⟩ rfl (⟨by decide, by decide⟩ : jRng 0) w16 h
        · refine jg_aload_n (pc := 29) X d_12_readSheet_29 0 rfl ?_
          refine jg_ldcS (pc := 30) "columns" 0 X (by decide +kernel) d_12_readSheet_30 ?_
          refine jg_pcallVi (pc := 32) X (m_12_isWord (by decide) w16 h) jM_12_isWord kw_1580 (jl_345_12 hn) rfl rfl rfl rfl rfl (Nat.le_of_ble_eq_true rfl) d_12_readSheet_32 ⟨(Nat.le_of_ble_eq_true rfl), (Nat.le_of_ble_eq_true rfl)⟩ ⟨(Nat.le_of_ble_eq_true rfl), (Nat.le_of_ble_eq_true rfl)⟩ (fun x18 r20 h => ?_)
          refine jg_if_eq (tgt := 48) (pc := 35) X d_12_readSheet_35 (by decide) r20 h (fun c22 h => ?_) (fun c22 h => ?_)
          · refine jg_aload_n (pc := 48) X d_12_readSheet_48 0 rfl ?_
            refine jg_ldcS (pc := 49) "row" 1 X (by decide +kernel) d_12_readSheet_49 ?_
            refine jg_pcallVi (pc := 51) X (m_12_isWord (by decide) w16 h) jM_12_isWord kw_1580 (jl_345_12 hn) rfl rfl rfl rfl rfl (Nat.le_of_ble_eq_true rfl) d_12_readSheet_51 ⟨(Nat.le_of_ble_eq_true rfl), (Nat.le_of_ble_eq_true rfl)⟩ ⟨(Nat.le_of_ble_eq_true rfl), (Nat.le_of_ble_eq_true rfl)⟩ (fun x23 r25 h => ?_)
            refine jg_if_eq (tgt := 64) (pc := 54) X d_12_readSheet_54 (by decide) r25 h (fun c27 h => ?_) (fun c27 h => ?_)
            · refine jg_iconst (pc := 64) X d_12_readSheet_64 ?_
              exact jg_ireturn (pc := 65) X hAe hlocks hr d_12_readSheet_65 ⟨(Nat.le_of_ble_eq_true rfl), (Nat.le_of_ble_eq_true rfl)⟩ rfl (⟨by decide, by decide⟩ : jRng 0) w16 h
            · refine jg_aload_n (pc := 57) X d_12_readSheet_57 0 rfl ?_
              refine jg_callVi (pc := 58) X (m_12_readRow w16 h) jM_12_readRow kw_1601 (jl_345_12 hn) rfl rfl rfl rfl rfl (Nat.le_of_ble_eq_true rfl) d_12_readSheet_58 ⟨(Nat.le_of_ble_eq_true rfl), (Nat.le_of_ble_eq_true rfl)⟩ ⟨(Nat.le_of_ble_eq_true rfl), (Nat.le_of_ble_eq_true rfl)⟩ (fun x28 C29 r30 w31 h => ?_)
              refine jg_if_ne (tgt := 66) (pc := 61) X d_12_readSheet_61 (by decide) r30 h (fun c32 h => ?_) (fun c32 h => ?_)
              · refine jg_iconst (pc := 64) X d_12_readSheet_64 ?_
                exact jg_ireturn (pc := 65) X hAe hlocks hr d_12_readSheet_65 ⟨(Nat.le_of_ble_eq_true rfl), (Nat.le_of_ble_eq_true rfl)⟩ rfl (⟨by decide, by decide⟩ : jRng 0) w31 h
              · refine jg_sub [0, 1] rfl ?_
                exact jb66 _ _ rv1 w31 h
          · refine jg_aload_n (pc := 38) X d_12_readSheet_38 0 rfl ?_
            refine jg_callVi (pc := 39) X (m_12_readColumns w16 h) jM_12_readColumns kw_1586 (jl_345_12 hn) rfl rfl rfl rfl rfl (Nat.le_of_ble_eq_true rfl) d_12_readSheet_39 ⟨(Nat.le_of_ble_eq_true rfl), (Nat.le_of_ble_eq_true rfl)⟩ ⟨(Nat.le_of_ble_eq_true rfl), (Nat.le_of_ble_eq_true rfl)⟩ (fun x33 C34 r35 w36 h => ?_)
            refine jg_if_eq (tgt := 64) (pc := 42) X d_12_readSheet_42 (by decide) r35 h (fun c37 h => ?_) (fun c37 h => ?_)
            · refine jg_iconst (pc := 64) X d_12_readSheet_64 ?_
              exact jg_ireturn (pc := 65) X hAe hlocks hr d_12_readSheet_65 ⟨(Nat.le_of_ble_eq_true rfl), (Nat.le_of_ble_eq_true rfl)⟩ rfl (⟨by decide, by decide⟩ : jRng 0) w36 h
            · refine jg_goto (tgt := 66) (pc := 45) X d_12_readSheet_45 (by decide) ?_
              refine jg_sub [0, 1] rfl ?_
              exact jb66 _ _ rv1 w36 h
    obtain ⟨N, h⟩ := h
    refine jg_sub [1, 0] rfl ?_
    exact jl19   N _ _ (⟨by decide, by decide⟩ : jRng 0) w4 h
set_option maxHeartbeats 4000000 in
set_option maxRecDepth 100000 in
theorem m_12_bringsBack {l : Launch} {Z : jE} {n : Nat} {C : jC}  {post : jC → Prop}  (hw0 : jWF n C) (h : wp_12_bringsBack C post) : jCv l y_12_bringsBack prog_14_method_9_code 2 q_12_bringsBack Z n C [jr Z 345] post := by
  have hn := hw0.2.2.1
  unfold wp_12_bringsBack at h
  refine jCv_of (lv0 := [(0, jr Z 345)]) (by decide) (Nat.le_of_ble_eq_true rfl) rfl ?_
  intro p e s m args below meth c A sz X hAe hr hlocks
  refine jg_iconst (pc := 0) X d_12_bringsBack_0 ?_
  refine jg_istore_n (pc := 1) X [(1, jI 0), (0, jr Z 345)] d_12_bringsBack_1 (by decide) rfl ?_
  have jl2 : ∀  (N : Nat) (v1 : Int) (C : jC) (rv1 : jRng v1) (hw : jWF n C), jI2 (wp_12_bringsBack_2  post) N v1 C → jG p l e q_12_bringsBack s m args below meth c 2 Z A (jws Z n C) 0 0 (MQ below (jQv Z n sz post) args s q_12_bringsBack.cells q_12_bringsBack.slots (jA Z n sz)) 2 [(0, jr Z 345), (1, jI v1)] [] := by
    intro   N
    have hn := hw0.2.2.1
    induction N with
    | zero => intro v1 C rv1 hw h; exact h.elim
    | succ N ih2 =>
      intro v1 C rv1 hw h
      have h : wp_12_bringsBack_2  post (jI2 (wp_12_bringsBack_2  post) N) v1 C := h
      generalize jI2 (wp_12_bringsBack_2  post) N = k2 at h ih2
      unfold wp_12_bringsBack_2 at h
      refine jg_iload_n (pc := 2) X d_12_bringsBack_2 1 rfl ?_
      refine jg_sipush (pc := 3) X d_12_bringsBack_3 rfl ?_
      refine jg_icmp_ge (tgt := 27) (pc := 6) X d_12_bringsBack_6 (by decide) rv1 (⟨by decide, by decide⟩ : jRng 8954) h (fun c1 h => ?_) (fun c1 h => ?_)
      · exact jg_return (pc := 27) X hAe hlocks hr d_12_bringsBack_27 ⟨(Nat.le_of_ble_eq_true rfl), (Nat.le_of_ble_eq_true rfl)⟩ hw h
      · refine jg_aload_n (pc := 9) X d_12_bringsBack_9 0 rfl ?_
        refine jgf_12_1 (pc := 10) X (jl_345_12 hn) kw_1474 d_12_bringsBack_10 ?_
        refine jg_iload_n (pc := 13) X d_12_bringsBack_13 1 rfl ?_
        refine jg_aload_n (pc := 14) X d_12_bringsBack_14 0 rfl ?_
        refine jgf_12_3 (pc := 15) X (jl_345_12 hn) kw_1476 d_12_bringsBack_15 ?_
        refine jg_iload_n (pc := 18) X d_12_bringsBack_18 1 rfl ?_
        obtain ⟨b2, h⟩ := h
        have b3 : v1 < 8954 := by (have z0 : jRng v1 := rv1; unfold jRng at z0; omega)
        refine jg_iaload (len := 8954) (pc := 19) X d_12_bringsBack_19 (jl_348_9954 hn) (fun _ => rfl) (by decide) b2 b3 ?_
        have b4 : 0 ≤ v1 := by (have z0 : jRng v1 := rv1; unfold jRng at z0; omega)
        have b5 : v1 < 8954 := by (have z0 : jRng v1 := rv1; unfold jRng at z0; omega)
        refine jg_iastore (len := 8954) (pc := 20) X d_12_bringsBack_20 (jl_346_9954 hn) (fun _ => rfl) (by decide) b4 b5 ?_
        have w6 := jWF.u (k := v1) (v := (C 348 v1)) hw (jl_346_9954 hn) (by decide) (hw.1 _ _)
        refine jg_iinc (pc := 21) X [(1, jI (v1 + 1)), (0, jr Z 345)] d_12_bringsBack_21 1 rfl (by decide) rfl ?_
        refine jg_goto (tgt := 2) (pc := 24) X d_12_bringsBack_24 (by decide) ?_
        have r7 : jRng (v1 + 1) := by (unfold jRng; exact ⟨by (have z0 : jRng v1 := rv1; unfold jRng at z0; omega), by (have z0 : jRng v1 := rv1; unfold jRng at z0; omega)⟩)
        refine jg_sub [1, 0] rfl ?_
        exact ih2 _ _ r7 w6 h
  obtain ⟨N, h⟩ := h
  refine jg_sub [1, 0] rfl ?_
  exact jl2   N _ _ (⟨by decide, by decide⟩ : jRng 0) hw0 h
set_option maxHeartbeats 4000000 in
set_option maxRecDepth 100000 in
theorem m_12_isRight {l : Launch} {Z : jE} {n : Nat} {C : jC} {v1 : Int} {post : Int → jC → Prop} (rv1 : jRng v1) (hw0 : jWF n C) (h : wp_12_isRight v1 C post) : jCi l y_12_isRight prog_14_method_45_code 2 (.boolean) q_12_isRight Z n C [jr Z 345, jI v1] post := by
  have hn := hw0.2.2.1
  unfold wp_12_isRight at h
  refine jCi_of (lv0 := [(0, jr Z 345), (1, jI v1)]) (by decide) (Nat.le_of_ble_eq_true rfl) rfl ?_
  intro p e s m args below meth c A sz X hAe hr hlocks
  refine jg_aload_n (pc := 0) X d_12_isRight_0 0 rfl ?_
  refine jg_iload_n (pc := 1) X d_12_isRight_1 1 rfl ?_
  refine jg_if_eq (tgt := 9) (pc := 2) X d_12_isRight_2 (by decide) rv1 h (fun c1 h => ?_) (fun c1 h => ?_)
  · refine jg_aload_n (pc := 9) X d_12_isRight_9 0 rfl ?_
    refine jgf_12_9 (pc := 10) X (jl_345_12 hn) kw_1482 d_12_isRight_10 ?_
    refine jgp_12_11 (pc := 13) X (jl_345_12 hn) kw_1484 d_12_isRight_13 ?_
    have w2 := jWF.u (k := 11) (v := (C 345 9)) hw0 (jl_345_12 hn) (by decide) (hw0.1 _ _)
    refine jg_iload_n (pc := 16) X d_12_isRight_16 1 rfl ?_
    refine jg_if_ne (tgt := 24) (pc := 17) X d_12_isRight_17 (by decide) rv1 h (fun c3 h => ?_) (fun c3 h => ?_)
    · refine jg_aload_n (pc := 20) X d_12_isRight_20 0 rfl ?_
      refine jg_callVv (pc := 21) X (m_12_bringsBack w2 h) jM_12_bringsBack kw_1693 (jl_345_12 hn) rfl rfl rfl rfl rfl (Nat.le_of_ble_eq_true rfl) d_12_isRight_21 ⟨(Nat.le_of_ble_eq_true rfl), (Nat.le_of_ble_eq_true rfl)⟩ ⟨(Nat.le_of_ble_eq_true rfl), (Nat.le_of_ble_eq_true rfl)⟩ (fun C5 w7 h => ?_)
      refine jg_iload_n (pc := 24) X d_12_isRight_24 1 rfl ?_
      obtain ⟨b8, h⟩ := h
      exact jg_ireturn (pc := 25) X hAe hlocks hr d_12_isRight_25 ⟨(Nat.le_of_ble_eq_true rfl), (Nat.le_of_ble_eq_true rfl)⟩ (jnar_b b8) rv1 w7 h
    · refine jg_iload_n (pc := 24) X d_12_isRight_24 1 rfl ?_
      obtain ⟨b9, h⟩ := h
      exact jg_ireturn (pc := 25) X hAe hlocks hr d_12_isRight_25 ⟨(Nat.le_of_ble_eq_true rfl), (Nat.le_of_ble_eq_true rfl)⟩ (jnar_b b9) rv1 w2 h
  · refine jg_iconst (pc := 5) X d_12_isRight_5 ?_
    refine jg_goto (tgt := 13) (pc := 6) X d_12_isRight_6 (by decide) ?_
    refine jgp_12_11 (pc := 13) X (jl_345_12 hn) kw_1484 d_12_isRight_13 ?_
    have w10 := jWF.u (k := 11) (v := (-1)) hw0 (jl_345_12 hn) (by decide) (⟨by decide, by decide⟩ : jRng (-1))
    refine jg_iload_n (pc := 16) X d_12_isRight_16 1 rfl ?_
    refine jg_if_ne (tgt := 24) (pc := 17) X d_12_isRight_17 (by decide) rv1 h (fun c11 h => ?_) (fun c11 h => ?_)
    · refine jg_aload_n (pc := 20) X d_12_isRight_20 0 rfl ?_
      refine jg_callVv (pc := 21) X (m_12_bringsBack w10 h) jM_12_bringsBack kw_1693 (jl_345_12 hn) rfl rfl rfl rfl rfl (Nat.le_of_ble_eq_true rfl) d_12_isRight_21 ⟨(Nat.le_of_ble_eq_true rfl), (Nat.le_of_ble_eq_true rfl)⟩ ⟨(Nat.le_of_ble_eq_true rfl), (Nat.le_of_ble_eq_true rfl)⟩ (fun C13 w15 h => ?_)
      refine jg_iload_n (pc := 24) X d_12_isRight_24 1 rfl ?_
      obtain ⟨b16, h⟩ := h
      exact jg_ireturn (pc := 25) X hAe hlocks hr d_12_isRight_25 ⟨(Nat.le_of_ble_eq_true rfl), (Nat.le_of_ble_eq_true rfl)⟩ (jnar_b b16) rv1 w15 h
    · refine jg_iload_n (pc := 24) X d_12_isRight_24 1 rfl ?_
      obtain ⟨b17, h⟩ := h
      exact jg_ireturn (pc := 25) X hAe hlocks hr d_12_isRight_25 ⟨(Nat.le_of_ble_eq_true rfl), (Nat.le_of_ble_eq_true rfl)⟩ (jnar_b b17) rv1 w10 h
set_option maxHeartbeats 4000000 in
set_option maxRecDepth 100000 in
theorem m_12_throwsIf {l : Launch} {Z : jE} {n : Nat} {C : jC} {v1 : Int} {v2 : Int} {post : Int → jC → Prop} (rv1 : jRng v1) (rv2 : jRng v2) (hw0 : jWF n C) (h : wp_12_throwsIf v1 v2 C post) : jCi l y_12_throwsIf prog_14_method_2_code 3 (.boolean) q_12_throwsIf Z n C [jr Z 345, jI v1, jI v2] post := by
  have hn := hw0.2.2.1
  unfold wp_12_throwsIf at h
  refine jCi_of (lv0 := [(0, jr Z 345), (1, jI v1), (2, jI v2)]) (by decide) (Nat.le_of_ble_eq_true rfl) rfl ?_
  intro p e s m args below meth c A sz X hAe hr hlocks
  refine jg_iload_n (pc := 0) X d_12_throwsIf_0 1 rfl ?_
  refine jg_if_eq (tgt := 9) (pc := 1) X d_12_throwsIf_1 (by decide) rv1 h (fun c1 h => ?_) (fun c1 h => ?_)
  · refine jg_iload_n (pc := 9) X d_12_throwsIf_9 1 rfl ?_
    obtain ⟨b2, h⟩ := h
    exact jg_ireturn (pc := 10) X hAe hlocks hr d_12_throwsIf_10 ⟨(Nat.le_of_ble_eq_true rfl), (Nat.le_of_ble_eq_true rfl)⟩ (jnar_b b2) rv1 hw0 h
  · refine jg_aload_n (pc := 4) X d_12_throwsIf_4 0 rfl ?_
    refine jg_iload_n (pc := 5) X d_12_throwsIf_5 2 rfl ?_
    refine jgp_12_0 (pc := 6) X (jl_345_12 hn) kw_1473 d_12_throwsIf_6 ?_
    have w3 := jWF.u (k := 0) (v := v2) hw0 (jl_345_12 hn) (by decide) rv2
    refine jg_iload_n (pc := 9) X d_12_throwsIf_9 1 rfl ?_
    obtain ⟨b4, h⟩ := h
    exact jg_ireturn (pc := 10) X hAe hlocks hr d_12_throwsIf_10 ⟨(Nat.le_of_ble_eq_true rfl), (Nat.le_of_ble_eq_true rfl)⟩ (jnar_b b4) rv1 w3 h
set_option maxHeartbeats 4000000 in
set_option maxRecDepth 100000 in
theorem m_12_sheet {l : Launch} {Z : jE} {n : Nat} {C : jC}  {post : Int → jC → Prop}  (hw0 : jWF n C) (h : wp_12_sheet C post) : jCi l y_12_sheet prog_14_method_46_code 1 (.int) q_12_sheet Z n C [jr Z 345] post := by
  have hn := hw0.2.2.1
  unfold wp_12_sheet at h
  refine jCi_of (lv0 := [(0, jr Z 345)]) (by decide) (Nat.le_of_ble_eq_true rfl) rfl ?_
  intro p e s m args below meth c A sz X hAe hr hlocks
  have jb51 : ∀ (s0 : Int) (C : jC) (rs0 : jRng s0) (hw : jWF n C), wp_12_sheet_51 s0 C post → jG p l e q_12_sheet s m args below meth c 1 Z A (jws Z n C) 0 0 (MQ below (jQi Z n sz post) args s q_12_sheet.cells q_12_sheet.slots (jA Z n sz)) 51 [(0, jr Z 345)] [jI s0, jr Z 345] := by
    intro s0 C rs0 hw h
    unfold wp_12_sheet_51 at h
    refine jg_iconst (pc := 51) X d_12_sheet_51 ?_
    refine jg_callVi (pc := 52) X (m_12_throwsIf rs0 (⟨by decide, by decide⟩ : jRng 2) hw h) jM_12_throwsIf kw_1697 (jl_345_12 hn) rfl rfl rfl rfl rfl (Nat.le_of_ble_eq_true rfl) d_12_sheet_52 ⟨(Nat.le_of_ble_eq_true rfl), (Nat.le_of_ble_eq_true rfl)⟩ ⟨(Nat.le_of_ble_eq_true rfl), (Nat.le_of_ble_eq_true rfl)⟩ (fun x1 C2 r3 w4 h => ?_)
    refine jg_if_eq (tgt := 64) (pc := 55) X d_12_sheet_55 (by decide) r3 h (fun c5 h => ?_) (fun c5 h => ?_)
    · refine jg_aload_n (pc := 64) X d_12_sheet_64 0 rfl ?_
      refine jgf_12_1 (pc := 65) X (jl_345_12 hn) kw_1474 d_12_sheet_65 ?_
      refine jg_iconst (pc := 68) X d_12_sheet_68 ?_
      refine jg_dup2 (pc := 69) X d_12_sheet_69 rfl rfl ?_
      refine jg_iaload (len := 8954) (pc := 70) X d_12_sheet_70 (jl_346_9954 hn) (fun _ => rfl) (by decide) (by decide) (by decide) ?_
      refine jg_iconst (pc := 71) X d_12_sheet_71 ?_
      refine jg_iadd (pc := 72) X d_12_sheet_72 ?_
      obtain ⟨r10, h⟩ := h
      refine jg_iastore (len := 8954) (pc := 73) X d_12_sheet_73 (jl_346_9954 hn) (fun _ => rfl) (by decide) (by decide) (by decide) ?_
      have w11 := jWF.u (k := 1) (v := ((C2 346 1) + 1)) w4 (jl_346_9954 hn) (by decide) r10
      refine jg_aload_n (pc := 74) X d_12_sheet_74 0 rfl ?_
      refine jgf_12_1 (pc := 75) X (jl_345_12 hn) kw_1474 d_12_sheet_75 ?_
      refine jg_iconst (pc := 78) X d_12_sheet_78 ?_
      refine jg_iaload (len := 8954) (pc := 79) X d_12_sheet_79 (jl_346_9954 hn) (fun _ => rfl) (by decide) (by decide) (by decide) ?_
      exact jg_ireturn (pc := 80) X hAe hlocks hr d_12_sheet_80 ⟨(Nat.le_of_ble_eq_true rfl), (Nat.le_of_ble_eq_true rfl)⟩ rfl (w11.1 _ _) w11 h
    · refine jg_aload_n (pc := 58) X d_12_sheet_58 0 rfl ?_
      refine jg_callVv (pc := 59) X (m_12_bringsBack w4 h) jM_12_bringsBack kw_1693 (jl_345_12 hn) rfl rfl rfl rfl rfl (Nat.le_of_ble_eq_true rfl) d_12_sheet_59 ⟨(Nat.le_of_ble_eq_true rfl), (Nat.le_of_ble_eq_true rfl)⟩ ⟨(Nat.le_of_ble_eq_true rfl), (Nat.le_of_ble_eq_true rfl)⟩ (fun C15 w17 h => ?_)
      refine jg_iconst (pc := 62) X d_12_sheet_62 ?_
      exact jg_ireturn (pc := 63) X hAe hlocks hr d_12_sheet_63 ⟨(Nat.le_of_ble_eq_true rfl), (Nat.le_of_ble_eq_true rfl)⟩ rfl (⟨by decide, by decide⟩ : jRng 0) w17 h
  have jb25 : ∀ (s0 : Int) (C : jC) (rs0 : jRng s0) (hw : jWF n C), wp_12_sheet_25 s0 C post → jG p l e q_12_sheet s m args below meth c 1 Z A (jws Z n C) 0 0 (MQ below (jQi Z n sz post) args s q_12_sheet.cells q_12_sheet.slots (jA Z n sz)) 25 [(0, jr Z 345)] [jI s0, jr Z 345] := by
    intro s0 C rs0 hw h
    unfold wp_12_sheet_25 at h
    refine jg_iconst (pc := 25) X d_12_sheet_25 ?_
    refine jg_callVi (pc := 26) X (m_12_throwsIf rs0 (⟨by decide, by decide⟩ : jRng 1) hw h) jM_12_throwsIf kw_1697 (jl_345_12 hn) rfl rfl rfl rfl rfl (Nat.le_of_ble_eq_true rfl) d_12_sheet_26 ⟨(Nat.le_of_ble_eq_true rfl), (Nat.le_of_ble_eq_true rfl)⟩ ⟨(Nat.le_of_ble_eq_true rfl), (Nat.le_of_ble_eq_true rfl)⟩ (fun x18 C19 r20 w21 h => ?_)
    refine jg_if_eq (tgt := 34) (pc := 29) X d_12_sheet_29 (by decide) r20 h (fun c22 h => ?_) (fun c22 h => ?_)
    · refine jg_aload_n (pc := 34) X d_12_sheet_34 0 rfl ?_
      refine jg_aload_n (pc := 35) X d_12_sheet_35 0 rfl ?_
      refine jgf_12_1 (pc := 36) X (jl_345_12 hn) kw_1474 d_12_sheet_36 ?_
      refine jg_iconst (pc := 39) X d_12_sheet_39 ?_
      refine jg_iaload (len := 8954) (pc := 40) X d_12_sheet_40 (jl_346_9954 hn) (fun _ => rfl) (by decide) (by decide) (by decide) ?_
      refine jg_bipush (pc := 41) X d_12_sheet_41 rfl ?_
      refine jg_icmp_ne (tgt := 50) (pc := 43) X d_12_sheet_43 (by decide) (w21.1 _ _) (⟨by decide, by decide⟩ : jRng 12) h (fun c25 h => ?_) (fun c25 h => ?_)
      · have c25 : (C19 346 1) = 12 := c25
        refine jg_iconst (pc := 46) X d_12_sheet_46 ?_
        refine jg_goto (tgt := 51) (pc := 47) X d_12_sheet_47 (by decide) ?_
        refine jg_sub [0] rfl ?_
        exact jb51 _ _ (⟨by decide, by decide⟩ : jRng 1) w21 h
      · have c25 : ¬ ((C19 346 1) = 12) := c25
        refine jg_iconst (pc := 50) X d_12_sheet_50 ?_
        refine jg_sub [0] rfl ?_
        exact jb51 _ _ (⟨by decide, by decide⟩ : jRng 0) w21 h
    · refine jg_iconst (pc := 32) X d_12_sheet_32 ?_
      exact jg_ireturn (pc := 33) X hAe hlocks hr d_12_sheet_33 ⟨(Nat.le_of_ble_eq_true rfl), (Nat.le_of_ble_eq_true rfl)⟩ rfl (⟨by decide, by decide⟩ : jRng 0) w21 h
  refine jg_aload_n (pc := 0) X d_12_sheet_0 0 rfl ?_
  refine jg_callVv (pc := 1) X (m_12_uses hw0 h) jM_12_uses kw_1555 (jl_345_12 hn) rfl rfl rfl rfl rfl (Nat.le_of_ble_eq_true rfl) d_12_sheet_1 ⟨(Nat.le_of_ble_eq_true rfl), (Nat.le_of_ble_eq_true rfl)⟩ ⟨(Nat.le_of_ble_eq_true rfl), (Nat.le_of_ble_eq_true rfl)⟩ (fun C27 w29 h => ?_)
  refine jg_aload_n (pc := 4) X d_12_sheet_4 0 rfl ?_
  refine jg_callVv (pc := 5) X (m_12_keepsAll w29 h) jM_12_keepsAll kw_1559 (jl_345_12 hn) rfl rfl rfl rfl rfl (Nat.le_of_ble_eq_true rfl) d_12_sheet_5 ⟨(Nat.le_of_ble_eq_true rfl), (Nat.le_of_ble_eq_true rfl)⟩ ⟨(Nat.le_of_ble_eq_true rfl), (Nat.le_of_ble_eq_true rfl)⟩ (fun C31 w33 h => ?_)
  refine jg_aload_n (pc := 8) X d_12_sheet_8 0 rfl ?_
  refine jg_aload_n (pc := 9) X d_12_sheet_9 0 rfl ?_
  refine jg_aload_n (pc := 10) X d_12_sheet_10 0 rfl ?_
  refine jg_callVi (pc := 11) X (m_12_readSheet w33 h) jM_12_readSheet kw_1563 (jl_345_12 hn) rfl rfl rfl rfl rfl (Nat.le_of_ble_eq_true rfl) d_12_sheet_11 ⟨(Nat.le_of_ble_eq_true rfl), (Nat.le_of_ble_eq_true rfl)⟩ ⟨(Nat.le_of_ble_eq_true rfl), (Nat.le_of_ble_eq_true rfl)⟩ (fun x34 C35 r36 w37 h => ?_)
  refine jg_callVi (pc := 14) X (m_12_isRight r36 w37 h) jM_12_isRight kw_1689 (jl_345_12 hn) rfl rfl rfl rfl rfl (Nat.le_of_ble_eq_true rfl) d_12_sheet_14 ⟨(Nat.le_of_ble_eq_true rfl), (Nat.le_of_ble_eq_true rfl)⟩ ⟨(Nat.le_of_ble_eq_true rfl), (Nat.le_of_ble_eq_true rfl)⟩ (fun x38 C39 r40 w41 h => ?_)
  refine jg_if_ne (tgt := 24) (pc := 17) X d_12_sheet_17 (by decide) r40 h (fun c42 h => ?_) (fun c42 h => ?_)
  · refine jg_iconst (pc := 20) X d_12_sheet_20 ?_
    refine jg_goto (tgt := 25) (pc := 21) X d_12_sheet_21 (by decide) ?_
    refine jg_sub [0] rfl ?_
    exact jb25 _ _ (⟨by decide, by decide⟩ : jRng 1) w41 h
  · refine jg_iconst (pc := 24) X d_12_sheet_24 ?_
    refine jg_sub [0] rfl ?_
    exact jb25 _ _ (⟨by decide, by decide⟩ : jRng 0) w41 h
set_option maxHeartbeats 4000000 in
set_option maxRecDepth 100000 in
theorem m_12_noView {l : Launch} {Z : jE} {n : Nat} {C : jC} {v0 : Int} {post : Int → Prop} (rv0 : jRng v0) (hw0 : jWF n C) (h : wp_12_noView v0 C post) : jCi l y_12_noView prog_14_method_13_code 1 (.boolean) q_12_noView Z n C [jI v0] (fun x C9 => C9 = C ∧ post x) := by
  have hn := hw0.2.2.1
  unfold wp_12_noView at h
  refine jCi_of (lv0 := [(0, jI v0)]) (by decide) (Nat.le_of_ble_eq_true rfl) rfl ?_
  intro p e s m args below meth c A sz X hAe hr hlocks
  refine jg_iload_n (pc := 0) X d_12_noView_0 0 rfl ?_
  refine jg_iconst (pc := 1) X d_12_noView_1 ?_
  refine jg_iconst (pc := 2) X d_12_noView_2 ?_
  refine jg_pcallSi (pc := 3) X (m_12_in rv0 (⟨by decide, by decide⟩ : jRng 0) (⟨by decide, by decide⟩ : jRng 3) hw0 h) jM_12_in kw_1638 rfl rfl (Nat.le_of_ble_eq_true rfl) d_12_noView_3 ⟨(Nat.le_of_ble_eq_true rfl), (Nat.le_of_ble_eq_true rfl)⟩ ⟨(Nat.le_of_ble_eq_true rfl), (Nat.le_of_ble_eq_true rfl)⟩ (fun x1 r3 h => ?_)
  refine jg_if_ne (tgt := 13) (pc := 6) X d_12_noView_6 (by decide) r3 h (fun c5 h => ?_) (fun c5 h => ?_)
  · refine jg_iconst (pc := 9) X d_12_noView_9 ?_
    refine jg_goto (tgt := 14) (pc := 10) X d_12_noView_10 (by decide) ?_
    exact jg_ireturn (pc := 14) X hAe hlocks hr d_12_noView_14 ⟨(Nat.le_of_ble_eq_true rfl), (Nat.le_of_ble_eq_true rfl)⟩ rfl (⟨by decide, by decide⟩ : jRng 1) hw0 ⟨rfl, h⟩
  · refine jg_iconst (pc := 13) X d_12_noView_13 ?_
    exact jg_ireturn (pc := 14) X hAe hlocks hr d_12_noView_14 ⟨(Nat.le_of_ble_eq_true rfl), (Nat.le_of_ble_eq_true rfl)⟩ rfl (⟨by decide, by decide⟩ : jRng 0) hw0 ⟨rfl, h⟩
set_option maxHeartbeats 4000000 in
set_option maxRecDepth 100000 in
theorem m_12_passes {l : Launch} {Z : jE} {n : Nat} {C : jC} {v1 : Nat} {post : Int → jC → Prop} (qv1 : v1 < 11) (hw0 : jWF n C) (h : wp_12_passes v1 C post) : jCi l y_12_passes prog_14_method_34_code 2 (.boolean) q_12_passes Z n C [jr Z 345, Value.ref (jsK Z v1)] post := by
  have hn := hw0.2.2.1
  unfold wp_12_passes at h
  refine jCi_of (lv0 := [(0, jr Z 345), (1, Value.ref (jsK Z v1))]) (by decide) (Nat.le_of_ble_eq_true rfl) rfl ?_
  intro p e s m args below meth c A sz X hAe hr hlocks
  refine jg_aload_n (pc := 0) X d_12_passes_0 0 rfl ?_
  refine jg_callVv (pc := 1) X (m_12_letters hw0 h) jM_12_letters kw_1575 (jl_345_12 hn) rfl rfl rfl rfl rfl (Nat.le_of_ble_eq_true rfl) d_12_passes_1 ⟨(Nat.le_of_ble_eq_true rfl), (Nat.le_of_ble_eq_true rfl)⟩ ⟨(Nat.le_of_ble_eq_true rfl), (Nat.le_of_ble_eq_true rfl)⟩ (fun C2 w4 h => ?_)
  refine jg_aload_n (pc := 4) X d_12_passes_4 0 rfl ?_
  refine jg_sload_n (pc := 5) X d_12_passes_5 1 rfl ?_
  refine jg_pcallVi (pc := 6) X (m_12_isWord qv1 w4 h) jM_12_isWord kw_1580 (jl_345_12 hn) rfl rfl rfl rfl rfl (Nat.le_of_ble_eq_true rfl) d_12_passes_6 ⟨(Nat.le_of_ble_eq_true rfl), (Nat.le_of_ble_eq_true rfl)⟩ ⟨(Nat.le_of_ble_eq_true rfl), (Nat.le_of_ble_eq_true rfl)⟩ (fun x5 r7 h => ?_)
  refine jg_if_eq (tgt := 14) (pc := 9) X d_12_passes_9 (by decide) r7 h (fun c9 h => ?_) (fun c9 h => ?_)
  · refine jg_aload_n (pc := 14) X d_12_passes_14 0 rfl ?_
    refine jg_aload_n (pc := 15) X d_12_passes_15 0 rfl ?_
    refine jgf_12_9 (pc := 16) X (jl_345_12 hn) kw_1482 d_12_passes_16 ?_
    refine jgp_12_7 (pc := 19) X (jl_345_12 hn) kw_1480 d_12_passes_19 ?_
    have w10 := jWF.u (k := 7) (v := (C2 345 9)) w4 (jl_345_12 hn) (by decide) (w4.1 _ _)
    refine jg_iconst (pc := 22) X d_12_passes_22 ?_
    exact jg_ireturn (pc := 23) X hAe hlocks hr d_12_passes_23 ⟨(Nat.le_of_ble_eq_true rfl), (Nat.le_of_ble_eq_true rfl)⟩ rfl (⟨by decide, by decide⟩ : jRng 0) w10 h
  · refine jg_iconst (pc := 12) X d_12_passes_12 ?_
    exact jg_ireturn (pc := 13) X hAe hlocks hr d_12_passes_13 ⟨(Nat.le_of_ble_eq_true rfl), (Nat.le_of_ble_eq_true rfl)⟩ rfl (⟨by decide, by decide⟩ : jRng 1) w4 h
set_option maxHeartbeats 4000000 in
set_option maxRecDepth 100000 in
theorem m_12_number {l : Launch} {Z : jE} {n : Nat} {C : jC} {v1 : Int} {v2 : Int} {post : Int → jC → Prop} (rv1 : jRng v1) (rv2 : jRng v2) (hw0 : jWF n C) (h : wp_12_number v1 v2 C post) : jCi l y_12_number prog_14_method_37_code 3 (.boolean) q_12_number Z n C [jr Z 345, jI v1, jI v2] post := by
  have hn := hw0.2.2.1
  unfold wp_12_number at h
  refine jCi_of (lv0 := [(0, jr Z 345), (1, jI v1), (2, jI v2)]) (by decide) (Nat.le_of_ble_eq_true rfl) rfl ?_
  intro p e s m args below meth c A sz X hAe hr hlocks
  refine jg_aload_n (pc := 0) X d_12_number_0 0 rfl ?_
  refine jg_callVv (pc := 1) X (m_12_blanks hw0 h) jM_12_blanks kw_1567 (jl_345_12 hn) rfl rfl rfl rfl rfl (Nat.le_of_ble_eq_true rfl) d_12_number_1 ⟨(Nat.le_of_ble_eq_true rfl), (Nat.le_of_ble_eq_true rfl)⟩ ⟨(Nat.le_of_ble_eq_true rfl), (Nat.le_of_ble_eq_true rfl)⟩ (fun C2 w4 h => ?_)
  refine jg_aload_n (pc := 4) X d_12_number_4 0 rfl ?_
  refine jg_iconst (pc := 5) X d_12_number_5 ?_
  refine jg_iload_n (pc := 6) X d_12_number_6 1 rfl ?_
  refine jg_iload_n (pc := 7) X d_12_number_7 2 rfl ?_
  refine jg_callVi (pc := 8) X (m_12_figures (⟨by decide, by decide⟩ : jRng 1) rv1 rv2 w4 h) jM_12_figures kw_1634 (jl_345_12 hn) rfl rfl rfl rfl rfl (Nat.le_of_ble_eq_true rfl) d_12_number_8 ⟨(Nat.le_of_ble_eq_true rfl), (Nat.le_of_ble_eq_true rfl)⟩ ⟨(Nat.le_of_ble_eq_true rfl), (Nat.le_of_ble_eq_true rfl)⟩ (fun x5 C6 r7 w8 h => ?_)
  obtain ⟨b9, h⟩ := h
  exact jg_ireturn (pc := 11) X hAe hlocks hr d_12_number_11 ⟨(Nat.le_of_ble_eq_true rfl), (Nat.le_of_ble_eq_true rfl)⟩ (jnar_b b9) r7 w8 h
set_option maxHeartbeats 4000000 in
set_option maxRecDepth 100000 in
theorem m_12_readSort {l : Launch} {Z : jE} {n : Nat} {C : jC} {v1 : Int} {v2 : Int} {post : Int → jC → Prop} (rv1 : jRng v1) (rv2 : jRng v2) (hw0 : jWF n C) (h : wp_12_readSort v1 v2 C post) : jCi l y_12_readSort prog_14_method_53_code 5 (.boolean) q_12_readSort Z n C [jr Z 345, jI v1, jI v2] post := by
  have hn := hw0.2.2.1
  unfold wp_12_readSort at h
  refine jCi_of (lv0 := [(0, jr Z 345), (1, jI v1), (2, jI v2)]) (by decide) (Nat.le_of_ble_eq_true rfl) rfl ?_
  intro p e s m args below meth c A sz X hAe hr hlocks
  refine jg_aload_n (pc := 0) X d_12_readSort_0 0 rfl ?_
  refine jgf_12_1 (pc := 1) X (jl_345_12 hn) kw_1474 d_12_readSort_1 ?_
  refine jg_iload_n (pc := 4) X d_12_readSort_4 1 rfl ?_
  refine jg_bipush (pc := 5) X d_12_readSort_5 rfl ?_
  refine jg_pcallSi (pc := 7) X (m_12_viewAt rv1 (⟨by decide, by decide⟩ : jRng 25) hw0 h) jM_12_viewAt kw_1668 rfl rfl (Nat.le_of_ble_eq_true rfl) d_12_readSort_7 ⟨(Nat.le_of_ble_eq_true rfl), (Nat.le_of_ble_eq_true rfl)⟩ ⟨(Nat.le_of_ble_eq_true rfl), (Nat.le_of_ble_eq_true rfl)⟩ (fun x1 r3 h => ?_)
  obtain ⟨b5, b6, h⟩ := h
  refine jg_iaload (len := 8954) (pc := 10) X d_12_readSort_10 (jl_346_9954 hn) (fun _ => rfl) (by decide) b5 b6 ?_
  refine jg_istore_n (pc := 11) X [(3, jI (C 346 x1)), (0, jr Z 345), (1, jI v1), (2, jI v2)] d_12_readSort_11 (by decide) rfl ?_
  refine jg_iload_n (pc := 12) X d_12_readSort_12 0 rfl ?_
  refine jg_iconst (pc := 13) X d_12_readSort_13 ?_
  refine jg_icmp_eq (tgt := 31) (pc := 14) X d_12_readSort_14 (by decide) (hw0.1 _ _) (⟨by decide, by decide⟩ : jRng 3) h (fun c7 h => ?_) (fun c7 h => ?_)
  · have c7 : (C 346 x1) = 3 := c7
    refine jg_iconst (pc := 31) X d_12_readSort_31 ?_
    exact jg_ireturn (pc := 32) X hAe hlocks hr d_12_readSort_32 ⟨(Nat.le_of_ble_eq_true rfl), (Nat.le_of_ble_eq_true rfl)⟩ rfl (⟨by decide, by decide⟩ : jRng 0) hw0 h
  · have c7 : ¬ ((C 346 x1) = 3) := c7
    refine jg_aload_n (pc := 17) X d_12_readSort_17 1 rfl ?_
    refine jg_iconst (pc := 18) X d_12_readSort_18 ?_
    refine jg_aload_n (pc := 19) X d_12_readSort_19 1 rfl ?_
    refine jg_pcallVi (pc := 20) X (m_12_columns hw0 h) jM_12_columns kw_1590 (jl_345_12 hn) rfl rfl rfl rfl rfl (Nat.le_of_ble_eq_true rfl) d_12_readSort_20 ⟨(Nat.le_of_ble_eq_true rfl), (Nat.le_of_ble_eq_true rfl)⟩ ⟨(Nat.le_of_ble_eq_true rfl), (Nat.le_of_ble_eq_true rfl)⟩ (fun x8 r10 h => ?_)
    refine jg_iconst (pc := 23) X d_12_readSort_23 ?_
    refine jg_isub (pc := 24) X d_12_readSort_24 ?_
    obtain ⟨r12, h⟩ := h
    refine jg_callVi (pc := 25) X (m_12_number (⟨by decide, by decide⟩ : jRng 0) r12 hw0 h) jM_12_number kw_1725 (jl_345_12 hn) rfl rfl rfl rfl rfl (Nat.le_of_ble_eq_true rfl) d_12_readSort_25 ⟨(Nat.le_of_ble_eq_true rfl), (Nat.le_of_ble_eq_true rfl)⟩ ⟨(Nat.le_of_ble_eq_true rfl), (Nat.le_of_ble_eq_true rfl)⟩ (fun x13 C14 r15 w16 h => ?_)
    refine jg_if_ne (tgt := 33) (pc := 28) X d_12_readSort_28 (by decide) r15 h (fun c17 h => ?_) (fun c17 h => ?_)
    · refine jg_iconst (pc := 31) X d_12_readSort_31 ?_
      exact jg_ireturn (pc := 32) X hAe hlocks hr d_12_readSort_32 ⟨(Nat.le_of_ble_eq_true rfl), (Nat.le_of_ble_eq_true rfl)⟩ rfl (⟨by decide, by decide⟩ : jRng 0) w16 h
    · refine jg_iconst (pc := 33) X d_12_readSort_33 ?_
      refine jg_istore (pc := 34) X [(4, jI 0), (3, jI (C 346 x1)), (0, jr Z 345), (1, jI v1), (2, jI v2)] d_12_readSort_34 (by decide) rfl ?_
      have jl36 : ∀ (v3 : Int) (C : jC) (rv3 : jRng v3) (hw : jWF n C) (N : Nat) (v4 : Int) (rv4 : jRng v4), jI1 (wp_12_readSort_36 v1 v2 v3 C post) N v4 → jG p l e q_12_readSort s m args below meth c 5 Z A (jws Z n C) 0 0 (MQ below (jQi Z n sz post) args s q_12_readSort.cells q_12_readSort.slots (jA Z n sz)) 36 [(0, jr Z 345), (1, jI v1), (2, jI v2), (3, jI v3), (4, jI v4)] [] := by
        intro v3 C rv3 hw N
        have hn := hw0.2.2.1
        induction N with
        | zero => intro v4 rv4 h; exact h.elim
        | succ N ih36 =>
          intro v4 rv4 h
          have h : wp_12_readSort_36 v1 v2 v3 C post (jI1 (wp_12_readSort_36 v1 v2 v3 C post) N) v4 := h
          generalize jI1 (wp_12_readSort_36 v1 v2 v3 C post) N = k36 at h ih36
          unfold wp_12_readSort_36 at h
          refine jg_iload (pc := 36) X d_12_readSort_36 4 rfl ?_
          refine jg_iload_n (pc := 38) X d_12_readSort_38 3 rfl ?_
          refine jg_icmp_ge (tgt := 73) (pc := 39) X d_12_readSort_39 (by decide) rv4 rv3 h (fun c18 h => ?_) (fun c18 h => ?_)
          · refine jg_aload_n (pc := 73) X d_12_readSort_73 0 rfl ?_
            refine jgf_12_1 (pc := 74) X (jl_345_12 hn) kw_1474 d_12_readSort_74 ?_
            refine jg_iload_n (pc := 77) X d_12_readSort_77 1 rfl ?_
            refine jg_bipush (pc := 78) X d_12_readSort_78 rfl ?_
            refine jg_iload_n (pc := 80) X d_12_readSort_80 3 rfl ?_
            refine jg_iadd (pc := 81) X d_12_readSort_81 ?_
            obtain ⟨r19, h⟩ := h
            refine jg_pcallSi (pc := 82) X (m_12_viewAt rv1 r19 hw h) jM_12_viewAt kw_1668 rfl rfl (Nat.le_of_ble_eq_true rfl) d_12_readSort_82 ⟨(Nat.le_of_ble_eq_true rfl), (Nat.le_of_ble_eq_true rfl)⟩ ⟨(Nat.le_of_ble_eq_true rfl), (Nat.le_of_ble_eq_true rfl)⟩ (fun x20 r22 h => ?_)
            refine jg_iconst (pc := 85) X d_12_readSort_85 ?_
            refine jg_aload_n (pc := 86) X d_12_readSort_86 0 rfl ?_
            refine jgf_12_10 (pc := 87) X (jl_345_12 hn) kw_1483 d_12_readSort_87 ?_
            refine jg_imul (pc := 90) X d_12_readSort_90 ?_
            refine jg_iload_n (pc := 91) X d_12_readSort_91 2 rfl ?_
            refine jg_iadd (pc := 92) X d_12_readSort_92 ?_
            obtain ⟨b24, b25, r26, h⟩ := h
            refine jg_iastore (len := 8954) (pc := 93) X d_12_readSort_93 (jl_346_9954 hn) (fun _ => rfl) (by decide) b24 b25 ?_
            have w27 := jWF.u (k := x20) (v := ((2 * (C 345 10)) + v2)) hw (jl_346_9954 hn) (by decide) r26
            refine jg_aload_n (pc := 94) X d_12_readSort_94 0 rfl ?_
            refine jgf_12_1 (pc := 95) X (jl_345_12 hn) kw_1474 d_12_readSort_95 ?_
            refine jg_iload_n (pc := 98) X d_12_readSort_98 1 rfl ?_
            refine jg_bipush (pc := 99) X d_12_readSort_99 rfl ?_
            refine jg_pcallSi (pc := 101) X (m_12_viewAt rv1 (⟨by decide, by decide⟩ : jRng 25) w27 h) jM_12_viewAt kw_1668 rfl rfl (Nat.le_of_ble_eq_true rfl) d_12_readSort_101 ⟨(Nat.le_of_ble_eq_true rfl), (Nat.le_of_ble_eq_true rfl)⟩ ⟨(Nat.le_of_ble_eq_true rfl), (Nat.le_of_ble_eq_true rfl)⟩ (fun x28 r30 h => ?_)
            refine jg_dup2 (pc := 104) X d_12_readSort_104 rfl rfl ?_
            obtain ⟨b32, b33, h⟩ := h
            refine jg_iaload (len := 8954) (pc := 105) X d_12_readSort_105 (jl_346_9954 hn) (fun _ => rfl) (by decide) b32 b33 ?_
            refine jg_iconst (pc := 106) X d_12_readSort_106 ?_
            refine jg_iadd (pc := 107) X d_12_readSort_107 ?_
            obtain ⟨r36, h⟩ := h
            have b34 : 0 ≤ x28 := by (have z0 : jRng x28 := r30; unfold jRng at z0; omega)
            have b35 : x28 < 8954 := by (have z0 : jRng x28 := r30; unfold jRng at z0; omega)
            refine jg_iastore (len := 8954) (pc := 108) X d_12_readSort_108 (jl_346_9954 hn) (fun _ => rfl) (by decide) b34 b35 ?_
            have w37 := jWF.u (k := x28) (v := (((jU C 346 x20 ((2 * (C 345 10)) + v2)) 346 x28) + 1)) w27 (jl_346_9954 hn) (by decide) r36
            refine jg_iconst (pc := 109) X d_12_readSort_109 ?_
            exact jg_ireturn (pc := 110) X hAe hlocks hr d_12_readSort_110 ⟨(Nat.le_of_ble_eq_true rfl), (Nat.le_of_ble_eq_true rfl)⟩ rfl (⟨by decide, by decide⟩ : jRng 1) w37 h
          · refine jg_aload_n (pc := 42) X d_12_readSort_42 0 rfl ?_
            refine jgf_12_1 (pc := 43) X (jl_345_12 hn) kw_1474 d_12_readSort_43 ?_
            refine jg_iload_n (pc := 46) X d_12_readSort_46 1 rfl ?_
            refine jg_bipush (pc := 47) X d_12_readSort_47 rfl ?_
            refine jg_iload (pc := 49) X d_12_readSort_49 4 rfl ?_
            refine jg_iadd (pc := 51) X d_12_readSort_51 ?_
            obtain ⟨r38, h⟩ := h
            refine jg_pcallSi (pc := 52) X (m_12_viewAt rv1 r38 hw h) jM_12_viewAt kw_1668 rfl rfl (Nat.le_of_ble_eq_true rfl) d_12_readSort_52 ⟨(Nat.le_of_ble_eq_true rfl), (Nat.le_of_ble_eq_true rfl)⟩ ⟨(Nat.le_of_ble_eq_true rfl), (Nat.le_of_ble_eq_true rfl)⟩ (fun x39 r41 h => ?_)
            obtain ⟨b43, b44, h⟩ := h
            refine jg_iaload (len := 8954) (pc := 55) X d_12_readSort_55 (jl_346_9954 hn) (fun _ => rfl) (by decide) b43 b44 ?_
            refine jg_iconst (pc := 56) X d_12_readSort_56 ?_
            have r45 : jRng ((C 346 x39).tdiv 2) := jrng_tdiv (hw.1 _ _) (by decide) (by decide)
            refine jg_idiv (pc := 57) X d_12_readSort_57 (hw.1 _ _) (by decide) (by decide) ?_
            refine jg_aload_n (pc := 58) X d_12_readSort_58 0 rfl ?_
            refine jgf_12_10 (pc := 59) X (jl_345_12 hn) kw_1483 d_12_readSort_59 ?_
            refine jg_icmp_ne (tgt := 67) (pc := 62) X d_12_readSort_62 (by decide) r45 (hw.1 _ _) h (fun c46 h => ?_) (fun c46 h => ?_)
            · have c46 : ((C 346 x39).tdiv 2) = (C 345 10) := c46
              refine jg_iconst (pc := 65) X d_12_readSort_65 ?_
              exact jg_ireturn (pc := 66) X hAe hlocks hr d_12_readSort_66 ⟨(Nat.le_of_ble_eq_true rfl), (Nat.le_of_ble_eq_true rfl)⟩ rfl (⟨by decide, by decide⟩ : jRng 0) hw h
            · have c46 : ¬ (((C 346 x39).tdiv 2) = (C 345 10)) := c46
              refine jg_iinc (pc := 67) X [(4, jI (v4 + 1)), (0, jr Z 345), (1, jI v1), (2, jI v2), (3, jI v3)] d_12_readSort_67 4 rfl (by decide) rfl ?_
              refine jg_goto (tgt := 36) (pc := 70) X d_12_readSort_70 (by decide) ?_
              have r47 : jRng (v4 + 1) := by (unfold jRng; exact ⟨by (have z0 : jRng v4 := rv4; have z1 : jRng v3 := rv3; unfold jRng at z0 z1; omega), by (have z0 : jRng v4 := rv4; have z1 : jRng v3 := rv3; unfold jRng at z0 z1; omega)⟩)
              refine jg_sub [1, 2, 3, 4, 0] rfl ?_
              exact ih36 _ r47 h
      obtain ⟨N, h⟩ := h
      refine jg_sub [2, 3, 4, 1, 0] rfl ?_
      exact jl36 _ _ (hw0.1 _ _) w16 N _ (⟨by decide, by decide⟩ : jRng 0) h
set_option maxHeartbeats 4000000 in
set_option maxRecDepth 100000 in
theorem m_12_has {l : Launch} {Z : jE} {n : Nat} {C : jC} {v0 : Int} {v1 : Int} {post : Int → Prop} (rv0 : jRng v0) (rv1 : jRng v1) (hw0 : jWF n C) (h : wp_12_has v0 v1 C post) : jCi l y_12_has prog_14_method_4_code 2 (.boolean) q_12_has Z n C [jI v0, jI v1] (fun x C9 => C9 = C ∧ post x) := by
  have hn := hw0.2.2.1
  unfold wp_12_has at h
  refine jCi_of (lv0 := [(0, jI v0), (1, jI v1)]) (by decide) (Nat.le_of_ble_eq_true rfl) rfl ?_
  intro p e s m args below meth c A sz X hAe hr hlocks
  refine jg_iload_n (pc := 0) X d_12_has_0 0 rfl ?_
  refine jg_iload_n (pc := 1) X d_12_has_1 1 rfl ?_
  refine jg_ishr (pc := 2) X d_12_has_2 ?_
  refine jg_iconst (pc := 3) X d_12_has_3 ?_
  refine jg_iand (pc := 4) X d_12_has_4 ?_
  refine jg_iconst (pc := 5) X d_12_has_5 ?_
  refine jg_icmp_ne (tgt := 13) (pc := 6) X d_12_has_6 (by decide) (jAnd_rng _ _) (⟨by decide, by decide⟩ : jRng 1) h (fun c1 h => ?_) (fun c1 h => ?_)
  · have c1 : (jAnd (jShr v0 v1) 1) = 1 := c1
    refine jg_iconst (pc := 9) X d_12_has_9 ?_
    refine jg_goto (tgt := 14) (pc := 10) X d_12_has_10 (by decide) ?_
    exact jg_ireturn (pc := 14) X hAe hlocks hr d_12_has_14 ⟨(Nat.le_of_ble_eq_true rfl), (Nat.le_of_ble_eq_true rfl)⟩ rfl (⟨by decide, by decide⟩ : jRng 1) hw0 ⟨rfl, h⟩
  · have c1 : ¬ ((jAnd (jShr v0 v1) 1) = 1) := c1
    refine jg_iconst (pc := 13) X d_12_has_13 ?_
    exact jg_ireturn (pc := 14) X hAe hlocks hr d_12_has_14 ⟨(Nat.le_of_ble_eq_true rfl), (Nat.le_of_ble_eq_true rfl)⟩ rfl (⟨by decide, by decide⟩ : jRng 0) hw0 ⟨rfl, h⟩
set_option maxHeartbeats 4000000 in
set_option maxRecDepth 100000 in
theorem m_12_readHide {l : Launch} {Z : jE} {n : Nat} {C : jC} {v1 : Int} {post : Int → jC → Prop} (rv1 : jRng v1) (hw0 : jWF n C) (h : wp_12_readHide v1 C post) : jCi l y_12_readHide prog_14_method_54_code 2 (.boolean) q_12_readHide Z n C [jr Z 345, jI v1] post := by
  have hn := hw0.2.2.1
  unfold wp_12_readHide at h
  refine jCi_of (lv0 := [(0, jr Z 345), (1, jI v1)]) (by decide) (Nat.le_of_ble_eq_true rfl) rfl ?_
  intro p e s m args below meth c A sz X hAe hr hlocks
  refine jg_aload_n (pc := 0) X d_12_readHide_0 0 rfl ?_
  refine jg_iconst (pc := 1) X d_12_readHide_1 ?_
  refine jg_aload_n (pc := 2) X d_12_readHide_2 0 rfl ?_
  refine jg_pcallVi (pc := 3) X (m_12_columns hw0 h) jM_12_columns kw_1590 (jl_345_12 hn) rfl rfl rfl rfl rfl (Nat.le_of_ble_eq_true rfl) d_12_readHide_3 ⟨(Nat.le_of_ble_eq_true rfl), (Nat.le_of_ble_eq_true rfl)⟩ ⟨(Nat.le_of_ble_eq_true rfl), (Nat.le_of_ble_eq_true rfl)⟩ (fun x1 r3 h => ?_)
  refine jg_iconst (pc := 6) X d_12_readHide_6 ?_
  refine jg_isub (pc := 7) X d_12_readHide_7 ?_
  obtain ⟨r5, h⟩ := h
  refine jg_callVi (pc := 8) X (m_12_number (⟨by decide, by decide⟩ : jRng 0) r5 hw0 h) jM_12_number kw_1725 (jl_345_12 hn) rfl rfl rfl rfl rfl (Nat.le_of_ble_eq_true rfl) d_12_readHide_8 ⟨(Nat.le_of_ble_eq_true rfl), (Nat.le_of_ble_eq_true rfl)⟩ ⟨(Nat.le_of_ble_eq_true rfl), (Nat.le_of_ble_eq_true rfl)⟩ (fun x6 C7 r8 w9 h => ?_)
  refine jg_if_eq (tgt := 35) (pc := 11) X d_12_readHide_11 (by decide) r8 h (fun c10 h => ?_) (fun c10 h => ?_)
  · refine jg_iconst (pc := 35) X d_12_readHide_35 ?_
    exact jg_ireturn (pc := 36) X hAe hlocks hr d_12_readHide_36 ⟨(Nat.le_of_ble_eq_true rfl), (Nat.le_of_ble_eq_true rfl)⟩ rfl (⟨by decide, by decide⟩ : jRng 0) w9 h
  · refine jg_aload_n (pc := 14) X d_12_readHide_14 0 rfl ?_
    refine jgf_12_1 (pc := 15) X (jl_345_12 hn) kw_1474 d_12_readHide_15 ?_
    refine jg_iload_n (pc := 18) X d_12_readHide_18 1 rfl ?_
    refine jg_bipush (pc := 19) X d_12_readHide_19 rfl ?_
    refine jg_pcallSi (pc := 21) X (m_12_viewAt rv1 (⟨by decide, by decide⟩ : jRng 29) w9 h) jM_12_viewAt kw_1668 rfl rfl (Nat.le_of_ble_eq_true rfl) d_12_readHide_21 ⟨(Nat.le_of_ble_eq_true rfl), (Nat.le_of_ble_eq_true rfl)⟩ ⟨(Nat.le_of_ble_eq_true rfl), (Nat.le_of_ble_eq_true rfl)⟩ (fun x11 r13 h => ?_)
    obtain ⟨b15, b16, h⟩ := h
    refine jg_iaload (len := 8954) (pc := 24) X d_12_readHide_24 (jl_346_9954 hn) (fun _ => rfl) (by decide) b15 b16 ?_
    refine jg_aload_n (pc := 25) X d_12_readHide_25 0 rfl ?_
    refine jgf_12_10 (pc := 26) X (jl_345_12 hn) kw_1483 d_12_readHide_26 ?_
    refine jg_pcallSi (pc := 29) X (m_12_has (w9.1 _ _) (w9.1 _ _) w9 h) jM_12_has kw_1735 rfl rfl (Nat.le_of_ble_eq_true rfl) d_12_readHide_29 ⟨(Nat.le_of_ble_eq_true rfl), (Nat.le_of_ble_eq_true rfl)⟩ ⟨(Nat.le_of_ble_eq_true rfl), (Nat.le_of_ble_eq_true rfl)⟩ (fun x17 r19 h => ?_)
    refine jg_if_eq (tgt := 37) (pc := 32) X d_12_readHide_32 (by decide) r19 h (fun c21 h => ?_) (fun c21 h => ?_)
    · refine jg_aload_n (pc := 37) X d_12_readHide_37 0 rfl ?_
      refine jgf_12_1 (pc := 38) X (jl_345_12 hn) kw_1474 d_12_readHide_38 ?_
      refine jg_iload_n (pc := 41) X d_12_readHide_41 1 rfl ?_
      refine jg_bipush (pc := 42) X d_12_readHide_42 rfl ?_
      refine jg_pcallSi (pc := 44) X (m_12_viewAt rv1 (⟨by decide, by decide⟩ : jRng 29) w9 h) jM_12_viewAt kw_1668 rfl rfl (Nat.le_of_ble_eq_true rfl) d_12_readHide_44 ⟨(Nat.le_of_ble_eq_true rfl), (Nat.le_of_ble_eq_true rfl)⟩ ⟨(Nat.le_of_ble_eq_true rfl), (Nat.le_of_ble_eq_true rfl)⟩ (fun x22 r24 h => ?_)
      refine jg_dup2 (pc := 47) X d_12_readHide_47 rfl rfl ?_
      obtain ⟨b26, b27, h⟩ := h
      refine jg_iaload (len := 8954) (pc := 48) X d_12_readHide_48 (jl_346_9954 hn) (fun _ => rfl) (by decide) b26 b27 ?_
      refine jg_iconst (pc := 49) X d_12_readHide_49 ?_
      refine jg_aload_n (pc := 50) X d_12_readHide_50 0 rfl ?_
      refine jgf_12_10 (pc := 51) X (jl_345_12 hn) kw_1483 d_12_readHide_51 ?_
      refine jg_ishl (pc := 54) X d_12_readHide_54 ?_
      refine jg_ior (pc := 55) X d_12_readHide_55 ?_
      have b28 : 0 ≤ x22 := by (have z0 : jRng x22 := r24; unfold jRng at z0; omega)
      have b29 : x22 < 8954 := by (have z0 : jRng x22 := r24; unfold jRng at z0; omega)
      refine jg_iastore (len := 8954) (pc := 56) X d_12_readHide_56 (jl_346_9954 hn) (fun _ => rfl) (by decide) b28 b29 ?_
      have w30 := jWF.u (k := x22) (v := (jOr (C7 346 x22) (jShl 1 (C7 345 10)))) w9 (jl_346_9954 hn) (by decide) (jOr_rng _ _)
      refine jg_iconst (pc := 57) X d_12_readHide_57 ?_
      exact jg_ireturn (pc := 58) X hAe hlocks hr d_12_readHide_58 ⟨(Nat.le_of_ble_eq_true rfl), (Nat.le_of_ble_eq_true rfl)⟩ rfl (⟨by decide, by decide⟩ : jRng 1) w30 h
    · refine jg_iconst (pc := 35) X d_12_readHide_35 ?_
      exact jg_ireturn (pc := 36) X hAe hlocks hr d_12_readHide_36 ⟨(Nat.le_of_ble_eq_true rfl), (Nat.le_of_ble_eq_true rfl)⟩ rfl (⟨by decide, by decide⟩ : jRng 0) w9 h
set_option maxHeartbeats 4000000 in
set_option maxRecDepth 100000 in
theorem m_12_isAWord {l : Launch} {Z : jE} {n : Nat} {C : jC}  {post : Int → Prop}  (hw0 : jWF n C) (h : wp_12_isAWord C post) : jCi l y_12_isAWord prog_14_method_49_code 1 (.boolean) q_12_isAWord Z n C [jr Z 345] (fun x C9 => C9 = C ∧ post x) := by
  have hn := hw0.2.2.1
  unfold wp_12_isAWord at h
  refine jCi_of (lv0 := [(0, jr Z 345)]) (by decide) (Nat.le_of_ble_eq_true rfl) rfl ?_
  intro p e s m args below meth c A sz X hAe hr hlocks
  have jb63 : wp_12_isAWord_63  C post → jG p l e q_12_isAWord s m args below meth c 1 Z A (jws Z n C) 0 0 (MQ below (jQi Z n sz (fun x C9 => C9 = C ∧ post x)) args s q_12_isAWord.cells q_12_isAWord.slots (jA Z n sz)) 63 [] [] := by
    intro  h
    unfold wp_12_isAWord_63 at h
    refine jg_iconst (pc := 63) X d_12_isAWord_63 ?_
    refine jg_goto (tgt := 68) (pc := 64) X d_12_isAWord_64 (by decide) ?_
    exact jg_ireturn (pc := 68) X hAe hlocks hr d_12_isAWord_68 ⟨(Nat.le_of_ble_eq_true rfl), (Nat.le_of_ble_eq_true rfl)⟩ rfl (⟨by decide, by decide⟩ : jRng 1) hw0 ⟨rfl, h⟩
  refine jg_aload_n (pc := 0) X d_12_isAWord_0 0 rfl ?_
  refine jg_ldcS (pc := 1) "or" 4 X (by decide +kernel) d_12_isAWord_1 ?_
  refine jg_pcallVi (pc := 3) X (m_12_isWord (by decide) hw0 h) jM_12_isWord kw_1580 (jl_345_12 hn) rfl rfl rfl rfl rfl (Nat.le_of_ble_eq_true rfl) d_12_isAWord_3 ⟨(Nat.le_of_ble_eq_true rfl), (Nat.le_of_ble_eq_true rfl)⟩ ⟨(Nat.le_of_ble_eq_true rfl), (Nat.le_of_ble_eq_true rfl)⟩ (fun x1 r3 h => ?_)
  refine jg_if_ne (tgt := 63) (pc := 6) X d_12_isAWord_6 (by decide) r3 h (fun c5 h => ?_) (fun c5 h => ?_)
  · refine jg_aload_n (pc := 9) X d_12_isAWord_9 0 rfl ?_
    refine jg_ldcS (pc := 10) "to" 5 X (by decide +kernel) d_12_isAWord_10 ?_
    refine jg_pcallVi (pc := 12) X (m_12_isWord (by decide) hw0 h) jM_12_isWord kw_1580 (jl_345_12 hn) rfl rfl rfl rfl rfl (Nat.le_of_ble_eq_true rfl) d_12_isAWord_12 ⟨(Nat.le_of_ble_eq_true rfl), (Nat.le_of_ble_eq_true rfl)⟩ ⟨(Nat.le_of_ble_eq_true rfl), (Nat.le_of_ble_eq_true rfl)⟩ (fun x6 r8 h => ?_)
    refine jg_if_ne (tgt := 63) (pc := 15) X d_12_isAWord_15 (by decide) r8 h (fun c10 h => ?_) (fun c10 h => ?_)
    · refine jg_aload_n (pc := 18) X d_12_isAWord_18 0 rfl ?_
      refine jg_ldcS (pc := 19) "not" 6 X (by decide +kernel) d_12_isAWord_19 ?_
      refine jg_pcallVi (pc := 21) X (m_12_isWord (by decide) hw0 h) jM_12_isWord kw_1580 (jl_345_12 hn) rfl rfl rfl rfl rfl (Nat.le_of_ble_eq_true rfl) d_12_isAWord_21 ⟨(Nat.le_of_ble_eq_true rfl), (Nat.le_of_ble_eq_true rfl)⟩ ⟨(Nat.le_of_ble_eq_true rfl), (Nat.le_of_ble_eq_true rfl)⟩ (fun x11 r13 h => ?_)
      refine jg_if_ne (tgt := 63) (pc := 24) X d_12_isAWord_24 (by decide) r13 h (fun c15 h => ?_) (fun c15 h => ?_)
      · refine jg_aload_n (pc := 27) X d_12_isAWord_27 0 rfl ?_
        refine jg_ldcS (pc := 28) "blank" 7 X (by decide +kernel) d_12_isAWord_28 ?_
        refine jg_pcallVi (pc := 30) X (m_12_isWord (by decide) hw0 h) jM_12_isWord kw_1580 (jl_345_12 hn) rfl rfl rfl rfl rfl (Nat.le_of_ble_eq_true rfl) d_12_isAWord_30 ⟨(Nat.le_of_ble_eq_true rfl), (Nat.le_of_ble_eq_true rfl)⟩ ⟨(Nat.le_of_ble_eq_true rfl), (Nat.le_of_ble_eq_true rfl)⟩ (fun x16 r18 h => ?_)
        refine jg_if_ne (tgt := 63) (pc := 33) X d_12_isAWord_33 (by decide) r18 h (fun c20 h => ?_) (fun c20 h => ?_)
        · refine jg_aload_n (pc := 36) X d_12_isAWord_36 0 rfl ?_
          refine jg_ldcS (pc := 37) "up" 8 X (by decide +kernel) d_12_isAWord_37 ?_
          refine jg_pcallVi (pc := 39) X (m_12_isWord (by decide) hw0 h) jM_12_isWord kw_1580 (jl_345_12 hn) rfl rfl rfl rfl rfl (Nat.le_of_ble_eq_true rfl) d_12_isAWord_39 ⟨(Nat.le_of_ble_eq_true rfl), (Nat.le_of_ble_eq_true rfl)⟩ ⟨(Nat.le_of_ble_eq_true rfl), (Nat.le_of_ble_eq_true rfl)⟩ (fun x21 r23 h => ?_)
          refine jg_if_ne (tgt := 63) (pc := 42) X d_12_isAWord_42 (by decide) r23 h (fun c25 h => ?_) (fun c25 h => ?_)
          · refine jg_aload_n (pc := 45) X d_12_isAWord_45 0 rfl ?_
            refine jg_ldcS (pc := 46) "down" 9 X (by decide +kernel) d_12_isAWord_46 ?_
            refine jg_pcallVi (pc := 48) X (m_12_isWord (by decide) hw0 h) jM_12_isWord kw_1580 (jl_345_12 hn) rfl rfl rfl rfl rfl (Nat.le_of_ble_eq_true rfl) d_12_isAWord_48 ⟨(Nat.le_of_ble_eq_true rfl), (Nat.le_of_ble_eq_true rfl)⟩ ⟨(Nat.le_of_ble_eq_true rfl), (Nat.le_of_ble_eq_true rfl)⟩ (fun x26 r28 h => ?_)
            refine jg_if_ne (tgt := 63) (pc := 51) X d_12_isAWord_51 (by decide) r28 h (fun c30 h => ?_) (fun c30 h => ?_)
            · refine jg_aload_n (pc := 54) X d_12_isAWord_54 0 rfl ?_
              refine jg_ldcS (pc := 55) "hide" 10 X (by decide +kernel) d_12_isAWord_55 ?_
              refine jg_pcallVi (pc := 57) X (m_12_isWord (by decide) hw0 h) jM_12_isWord kw_1580 (jl_345_12 hn) rfl rfl rfl rfl rfl (Nat.le_of_ble_eq_true rfl) d_12_isAWord_57 ⟨(Nat.le_of_ble_eq_true rfl), (Nat.le_of_ble_eq_true rfl)⟩ ⟨(Nat.le_of_ble_eq_true rfl), (Nat.le_of_ble_eq_true rfl)⟩ (fun x31 r33 h => ?_)
              refine jg_if_eq (tgt := 67) (pc := 60) X d_12_isAWord_60 (by decide) r33 h (fun c35 h => ?_) (fun c35 h => ?_)
              · refine jg_iconst (pc := 67) X d_12_isAWord_67 ?_
                exact jg_ireturn (pc := 68) X hAe hlocks hr d_12_isAWord_68 ⟨(Nat.le_of_ble_eq_true rfl), (Nat.le_of_ble_eq_true rfl)⟩ rfl (⟨by decide, by decide⟩ : jRng 0) hw0 ⟨rfl, h⟩
              · refine jg_sub [] rfl ?_
                exact jb63   h
            · refine jg_sub [] rfl ?_
              exact jb63   h
          · refine jg_sub [] rfl ?_
            exact jb63   h
        · refine jg_sub [] rfl ?_
          exact jb63   h
      · refine jg_sub [] rfl ?_
        exact jb63   h
    · refine jg_sub [] rfl ?_
      exact jb63   h
  · refine jg_sub [] rfl ?_
    exact jb63   h
set_option maxHeartbeats 4000000 in
set_option maxRecDepth 100000 in
theorem m_12_readPattern {l : Launch} {Z : jE} {n : Nat} {C : jC} {v1 : Int} {post : Int → jC → Prop} (rv1 : jRng v1) (hw0 : jWF n C) (h : wp_12_readPattern v1 C post) : jCi l y_12_readPattern prog_14_method_50_code 5 (.boolean) q_12_readPattern Z n C [jr Z 345, jI v1] post := by
  have hn := hw0.2.2.1
  unfold wp_12_readPattern at h
  refine jCi_of (lv0 := [(0, jr Z 345), (1, jI v1)]) (by decide) (Nat.le_of_ble_eq_true rfl) rfl ?_
  intro p e s m args below meth c A sz X hAe hr hlocks
  have jb177 : ∀ (s0 : Int) (s1 : Int) (s2 : Int) (v2 : Int) (v4 : Int) (C : jC) (rs0 : jRng s0) (rs1 : jRng s1) (ts2 : jT n s2 9954) (rv2 : jRng v2) (rv4 : jRng v4) (hw : jWF n C), wp_12_readPattern_177 s0 s1 s2 v2 v4 C post → jG p l e q_12_readPattern s m args below meth c 5 Z A (jws Z n C) 0 0 (MQ below (jQi Z n sz post) args s q_12_readPattern.cells q_12_readPattern.slots (jA Z n sz)) 177 [(2, jI v2), (4, jI v4)] [jI s0, jI s1, jr Z s2] := by
    intro s0 s1 s2 v2 v4 C rs0 rs1 ts2 rv2 rv4 hw h
    unfold wp_12_readPattern_177 at h
    obtain ⟨b1, b2, h⟩ := h
    refine jg_iastore (len := 8954) (pc := 177) X d_12_readPattern_177 ts2 (fun _ => rfl) (by decide) b1 b2 ?_
    have w3 := jWF.u (k := s1) (v := s0) hw ts2 (by decide) rs0
    refine jg_iload_n (pc := 178) X d_12_readPattern_178 0 rfl ?_
    refine jg_iconst (pc := 179) X d_12_readPattern_179 ?_
    refine jg_icmp_gt (tgt := 196) (pc := 180) X d_12_readPattern_180 (by decide) rv2 (⟨by decide, by decide⟩ : jRng 4) h (fun c4 h => ?_) (fun c4 h => ?_)
    · refine jg_iconst (pc := 196) X d_12_readPattern_196 ?_
      exact jg_ireturn (pc := 197) X hAe hlocks hr d_12_readPattern_197 ⟨(Nat.le_of_ble_eq_true rfl), (Nat.le_of_ble_eq_true rfl)⟩ rfl (⟨by decide, by decide⟩ : jRng 0) w3 h
    · refine jg_iload_n (pc := 183) X d_12_readPattern_183 0 rfl ?_
      refine jg_if_gt (tgt := 192) (pc := 184) X d_12_readPattern_184 (by decide) rv2 h (fun c5 h => ?_) (fun c5 h => ?_)
      · refine jg_iconst (pc := 192) X d_12_readPattern_192 ?_
        refine jg_goto (tgt := 197) (pc := 193) X d_12_readPattern_193 (by decide) ?_
        exact jg_ireturn (pc := 197) X hAe hlocks hr d_12_readPattern_197 ⟨(Nat.le_of_ble_eq_true rfl), (Nat.le_of_ble_eq_true rfl)⟩ rfl (⟨by decide, by decide⟩ : jRng 1) w3 h
      · refine jg_iload (pc := 187) X d_12_readPattern_187 1 rfl ?_
        refine jg_if_eq (tgt := 196) (pc := 189) X d_12_readPattern_189 (by decide) rv4 h (fun c6 h => ?_) (fun c6 h => ?_)
        · refine jg_iconst (pc := 196) X d_12_readPattern_196 ?_
          exact jg_ireturn (pc := 197) X hAe hlocks hr d_12_readPattern_197 ⟨(Nat.le_of_ble_eq_true rfl), (Nat.le_of_ble_eq_true rfl)⟩ rfl (⟨by decide, by decide⟩ : jRng 0) w3 h
        · refine jg_iconst (pc := 192) X d_12_readPattern_192 ?_
          refine jg_goto (tgt := 197) (pc := 193) X d_12_readPattern_193 (by decide) ?_
          exact jg_ireturn (pc := 197) X hAe hlocks hr d_12_readPattern_197 ⟨(Nat.le_of_ble_eq_true rfl), (Nat.le_of_ble_eq_true rfl)⟩ rfl (⟨by decide, by decide⟩ : jRng 1) w3 h
  have jb129 : ∀ (s0 : Int) (s1 : Int) (v1 : Int) (v2 : Int) (v3 : Int) (v4 : Int) (C : jC) (rs0 : jRng s0) (rs1 : jRng s1) (rv1 : jRng v1) (rv2 : jRng v2) (rv3 : jRng v3) (rv4 : jRng v4) (hw : jWF n C), wp_12_readPattern_129 s0 s1 v1 v2 v3 v4 C post → jG p l e q_12_readPattern s m args below meth c 5 Z A (jws Z n C) 0 0 (MQ below (jQi Z n sz post) args s q_12_readPattern.cells q_12_readPattern.slots (jA Z n sz)) 129 [(0, jr Z 345), (1, jI v1), (2, jI v2), (3, jI v3), (4, jI v4)] [jI s0, jI s1, jr Z 345] := by
    intro s0 s1 v1 v2 v3 v4 C rs0 rs1 rv1 rv2 rv3 rv4 hw h
    unfold wp_12_readPattern_129 at h
    refine jg_iadd (pc := 129) X d_12_readPattern_129 ?_
    obtain ⟨r7, h⟩ := h
    refine jgp_12_7 (pc := 130) X (jl_345_12 hn) kw_1480 d_12_readPattern_130 ?_
    have w8 := jWF.u (k := 7) (v := (s1 + s0)) hw (jl_345_12 hn) (by decide) r7
    refine jg_aload_n (pc := 133) X d_12_readPattern_133 0 rfl ?_
    refine jgf_12_1 (pc := 134) X (jl_345_12 hn) kw_1474 d_12_readPattern_134 ?_
    refine jg_iload_n (pc := 137) X d_12_readPattern_137 1 rfl ?_
    refine jg_iconst (pc := 138) X d_12_readPattern_138 ?_
    refine jg_iadd (pc := 139) X d_12_readPattern_139 ?_
    refine jg_iconst (pc := 140) X d_12_readPattern_140 ?_
    obtain ⟨b9, b10, h⟩ := h
    refine jg_iastore (len := 8954) (pc := 141) X d_12_readPattern_141 (jl_346_9954 hn) (fun _ => rfl) (by decide) b9 b10 ?_
    have w11 := jWF.u (k := (v1 + 1)) (v := 2) w8 (jl_346_9954 hn) (by decide) (⟨by decide, by decide⟩ : jRng 2)
    refine jg_aload_n (pc := 142) X d_12_readPattern_142 0 rfl ?_
    refine jgf_12_1 (pc := 143) X (jl_345_12 hn) kw_1474 d_12_readPattern_143 ?_
    refine jg_iload_n (pc := 146) X d_12_readPattern_146 1 rfl ?_
    refine jg_iconst (pc := 147) X d_12_readPattern_147 ?_
    refine jg_iadd (pc := 148) X d_12_readPattern_148 ?_
    refine jg_iload_n (pc := 149) X d_12_readPattern_149 3 rfl ?_
    obtain ⟨b12, b13, h⟩ := h
    refine jg_iastore (len := 8954) (pc := 150) X d_12_readPattern_150 (jl_346_9954 hn) (fun _ => rfl) (by decide) b12 b13 ?_
    have w14 := jWF.u (k := (v1 + 2)) (v := v3) w11 (jl_346_9954 hn) (by decide) rv3
    refine jg_aload_n (pc := 151) X d_12_readPattern_151 0 rfl ?_
    refine jgf_12_1 (pc := 152) X (jl_345_12 hn) kw_1474 d_12_readPattern_152 ?_
    refine jg_iload_n (pc := 155) X d_12_readPattern_155 1 rfl ?_
    refine jg_iconst (pc := 156) X d_12_readPattern_156 ?_
    refine jg_iadd (pc := 157) X d_12_readPattern_157 ?_
    refine jg_iload_n (pc := 158) X d_12_readPattern_158 2 rfl ?_
    obtain ⟨b15, b16, h⟩ := h
    refine jg_iastore (len := 8954) (pc := 159) X d_12_readPattern_159 (jl_346_9954 hn) (fun _ => rfl) (by decide) b15 b16 ?_
    have w17 := jWF.u (k := (v1 + 3)) (v := v2) w14 (jl_346_9954 hn) (by decide) rv2
    refine jg_aload_n (pc := 160) X d_12_readPattern_160 0 rfl ?_
    refine jgf_12_1 (pc := 161) X (jl_345_12 hn) kw_1474 d_12_readPattern_161 ?_
    refine jg_iload_n (pc := 164) X d_12_readPattern_164 1 rfl ?_
    refine jg_iconst (pc := 165) X d_12_readPattern_165 ?_
    refine jg_iadd (pc := 166) X d_12_readPattern_166 ?_
    refine jg_iload (pc := 167) X d_12_readPattern_167 4 rfl ?_
    refine jg_if_eq (tgt := 176) (pc := 169) X d_12_readPattern_169 (by decide) rv4 h (fun c18 h => ?_) (fun c18 h => ?_)
    · refine jg_iconst (pc := 176) X d_12_readPattern_176 ?_
      obtain ⟨r19, h⟩ := h
      refine jg_sub [2, 4] rfl ?_
      exact jb177 _ _ _ _ _ _ (⟨by decide, by decide⟩ : jRng 0) r19 (jl_346_9954 hn) rv2 rv4 w17 h
    · refine jg_iconst (pc := 172) X d_12_readPattern_172 ?_
      refine jg_goto (tgt := 177) (pc := 173) X d_12_readPattern_173 (by decide) ?_
      obtain ⟨r20, h⟩ := h
      refine jg_sub [2, 4] rfl ?_
      exact jb177 _ _ _ _ _ _ (⟨by decide, by decide⟩ : jRng 1) r20 (jl_346_9954 hn) rv2 rv4 w17 h
  refine jg_aload_n (pc := 0) X d_12_readPattern_0 0 rfl ?_
  refine jg_callVv (pc := 1) X (m_12_letters hw0 h) jM_12_letters kw_1575 (jl_345_12 hn) rfl rfl rfl rfl rfl (Nat.le_of_ble_eq_true rfl) d_12_readPattern_1 ⟨(Nat.le_of_ble_eq_true rfl), (Nat.le_of_ble_eq_true rfl)⟩ ⟨(Nat.le_of_ble_eq_true rfl), (Nat.le_of_ble_eq_true rfl)⟩ (fun C22 w24 h => ?_)
  refine jg_aload_n (pc := 4) X d_12_readPattern_4 0 rfl ?_
  refine jg_pcallVi (pc := 5) X (m_12_isAWord w24 h) jM_12_isAWord kw_1752 (jl_345_12 hn) rfl rfl rfl rfl rfl (Nat.le_of_ble_eq_true rfl) d_12_readPattern_5 ⟨(Nat.le_of_ble_eq_true rfl), (Nat.le_of_ble_eq_true rfl)⟩ ⟨(Nat.le_of_ble_eq_true rfl), (Nat.le_of_ble_eq_true rfl)⟩ (fun x25 r27 h => ?_)
  refine jg_if_eq (tgt := 13) (pc := 8) X d_12_readPattern_8 (by decide) r27 h (fun c29 h => ?_) (fun c29 h => ?_)
  · refine jg_aload_n (pc := 13) X d_12_readPattern_13 0 rfl ?_
    refine jg_aload_n (pc := 14) X d_12_readPattern_14 0 rfl ?_
    refine jgf_12_9 (pc := 15) X (jl_345_12 hn) kw_1482 d_12_readPattern_15 ?_
    refine jgp_12_7 (pc := 18) X (jl_345_12 hn) kw_1480 d_12_readPattern_18 ?_
    have w30 := jWF.u (k := 7) (v := (C22 345 9)) w24 (jl_345_12 hn) (by decide) (w24.1 _ _)
    refine jg_iconst (pc := 21) X d_12_readPattern_21 ?_
    refine jg_istore_n (pc := 22) X [(2, jI 0), (0, jr Z 345), (1, jI v1)] d_12_readPattern_22 (by decide) rfl ?_
    refine jg_iconst (pc := 23) X d_12_readPattern_23 ?_
    refine jg_istore_n (pc := 24) X [(3, jI 0), (2, jI 0), (0, jr Z 345), (1, jI v1)] d_12_readPattern_24 (by decide) rfl ?_
    have jl25 : ∀  (N : Nat) (v2 : Int) (v3 : Int) (C : jC) (rv2 : jRng v2) (rv3 : jRng v3) (hw : jWF n C), jI3 (wp_12_readPattern_25 v1 post) N v2 v3 C → jG p l e q_12_readPattern s m args below meth c 5 Z A (jws Z n C) 0 0 (MQ below (jQi Z n sz post) args s q_12_readPattern.cells q_12_readPattern.slots (jA Z n sz)) 25 [(0, jr Z 345), (1, jI v1), (2, jI v2), (3, jI v3)] [] := by
      intro   N
      have hn := hw0.2.2.1
      induction N with
      | zero => intro v2 v3 C rv2 rv3 hw h; exact h.elim
      | succ N ih25 =>
        intro v2 v3 C rv2 rv3 hw h
        have h : wp_12_readPattern_25 v1 post (jI3 (wp_12_readPattern_25 v1 post) N) v2 v3 C := h
        generalize jI3 (wp_12_readPattern_25 v1 post) N = k25 at h ih25
        unfold wp_12_readPattern_25 at h
        have jb47 : ∀ (v2 : Int) (v3 : Int) (C : jC) (rv2 : jRng v2) (rv3 : jRng v3) (hw : jWF n C), wp_12_readPattern_47 v1 v2 v3 C post k25 → jG p l e q_12_readPattern s m args below meth c 5 Z A (jws Z n C) 0 0 (MQ below (jQi Z n sz post) args s q_12_readPattern.cells q_12_readPattern.slots (jA Z n sz)) 47 [(0, jr Z 345), (1, jI v1), (2, jI v2), (3, jI v3)] [] := by
          intro v2 v3 C rv2 rv3 hw h
          unfold wp_12_readPattern_47 at h
          refine jg_iload_n (pc := 47) X d_12_readPattern_47 2 rfl ?_
          refine jg_iconst (pc := 48) X d_12_readPattern_48 ?_
          refine jg_icmp_ge (tgt := 88) (pc := 49) X d_12_readPattern_49 (by decide) rv2 (⟨by decide, by decide⟩ : jRng 4) h (fun c31 h => ?_) (fun c31 h => ?_)
          · refine jg_iinc (pc := 88) X [(2, jI (v2 + 1)), (0, jr Z 345), (1, jI v1), (3, jI v3)] d_12_readPattern_88 2 rfl (by decide) rfl ?_
            refine jg_aload_n (pc := 91) X d_12_readPattern_91 1 rfl ?_
            refine jg_dup (pc := 92) X d_12_readPattern_92 rfl ?_
            refine jgf_12_7 (pc := 93) X (jl_345_12 hn) kw_1480 d_12_readPattern_93 ?_
            refine jg_iconst (pc := 96) X d_12_readPattern_96 ?_
            refine jg_iadd (pc := 97) X d_12_readPattern_97 ?_
            obtain ⟨r32, h⟩ := h
            refine jgp_12_7 (pc := 98) X (jl_345_12 hn) kw_1480 d_12_readPattern_98 ?_
            have w33 := jWF.u (k := 7) (v := ((C 345 7) + 1)) hw (jl_345_12 hn) (by decide) r32
            refine jg_goto (tgt := 25) (pc := 101) X d_12_readPattern_101 (by decide) ?_
            obtain ⟨r34, h⟩ := h
            refine jg_sub [1, 2, 0, 3] rfl ?_
            exact ih25 _ _ _ r34 rv3 w33 h
          · refine jg_bipush (pc := 52) X d_12_readPattern_52 rfl ?_
            refine jg_iload_n (pc := 54) X d_12_readPattern_54 3 rfl ?_
            refine jg_imul (pc := 55) X d_12_readPattern_55 ?_
            refine jg_aload_n (pc := 56) X d_12_readPattern_56 0 rfl ?_
            refine jg_bipush (pc := 57) X d_12_readPattern_57 rfl ?_
            refine jg_bipush (pc := 59) X d_12_readPattern_59 rfl ?_
            refine jg_pcallVi (pc := 61) X (m_12_isAt (⟨by decide, by decide⟩ : jRng 63) (⟨by decide, by decide⟩ : jRng 63) hw h) jM_12_isAt kw_1571 (jl_345_12 hn) rfl rfl rfl rfl rfl (Nat.le_of_ble_eq_true rfl) d_12_readPattern_61 ⟨(Nat.le_of_ble_eq_true rfl), (Nat.le_of_ble_eq_true rfl)⟩ ⟨(Nat.le_of_ble_eq_true rfl), (Nat.le_of_ble_eq_true rfl)⟩ (fun x35 r37 h => ?_)
            refine jg_if_eq (tgt := 72) (pc := 64) X d_12_readPattern_64 (by decide) r37 h (fun c39 h => ?_) (fun c39 h => ?_)
            · refine jg_aload_n (pc := 72) X d_12_readPattern_72 0 rfl ?_
              refine jgf_12_5 (pc := 73) X (jl_345_12 hn) kw_1478 d_12_readPattern_73 ?_
              refine jg_aload_n (pc := 76) X d_12_readPattern_76 0 rfl ?_
              refine jgf_12_7 (pc := 77) X (jl_345_12 hn) kw_1480 d_12_readPattern_77 ?_
              obtain ⟨b40, b41, h⟩ := h
              refine jg_baload (pc := 80) X d_12_readPattern_80 (jl_349_20 hn) b40 b41 ?_
              refine jg_bipush (pc := 81) X d_12_readPattern_81 rfl ?_
              refine jg_isub (pc := 83) X d_12_readPattern_83 ?_
              refine jg_iconst (pc := 84) X d_12_readPattern_84 ?_
              refine jg_iadd (pc := 85) X d_12_readPattern_85 ?_
              refine jg_iadd (pc := 86) X d_12_readPattern_86 ?_
              refine jg_istore_n (pc := 87) X [(3, jI ((32 * v3) + (((C 349 (C 345 7)) - 97) + 1))), (0, jr Z 345), (1, jI v1), (2, jI v2)] d_12_readPattern_87 (by decide) rfl ?_
              refine jg_iinc (pc := 88) X [(2, jI (v2 + 1)), (3, jI ((32 * v3) + (((C 349 (C 345 7)) - 97) + 1))), (0, jr Z 345), (1, jI v1)] d_12_readPattern_88 3 rfl (by decide) rfl ?_
              refine jg_aload_n (pc := 91) X d_12_readPattern_91 2 rfl ?_
              refine jg_dup (pc := 92) X d_12_readPattern_92 rfl ?_
              refine jgf_12_7 (pc := 93) X (jl_345_12 hn) kw_1480 d_12_readPattern_93 ?_
              refine jg_iconst (pc := 96) X d_12_readPattern_96 ?_
              refine jg_iadd (pc := 97) X d_12_readPattern_97 ?_
              have r42 : jRng ((C 345 7) + 1) := by (unfold jRng; exact ⟨by (have z0 : jRng (C 345 7) := (hw.1 _ _); unfold jRng at z0; omega), by (have z0 : jRng (C 345 7) := (hw.1 _ _); unfold jRng at z0; omega)⟩)
              refine jgp_12_7 (pc := 98) X (jl_345_12 hn) kw_1480 d_12_readPattern_98 ?_
              have w43 := jWF.u (k := 7) (v := ((C 345 7) + 1)) hw (jl_345_12 hn) (by decide) r42
              refine jg_goto (tgt := 25) (pc := 101) X d_12_readPattern_101 (by decide) ?_
              obtain ⟨r45, h⟩ := h
              have r44 : jRng (v2 + 1) := by (unfold jRng; exact ⟨by (have z0 : jRng v2 := rv2; unfold jRng at z0; omega), by (have z0 : jRng v2 := rv2; unfold jRng at z0; omega)⟩)
              refine jg_sub [2, 3, 0, 1] rfl ?_
              exact ih25 _ _ _ r44 r45 w43 h
            · refine jg_bipush (pc := 67) X d_12_readPattern_67 rfl ?_
              refine jg_goto (tgt := 86) (pc := 69) X d_12_readPattern_69 (by decide) ?_
              refine jg_iadd (pc := 86) X d_12_readPattern_86 ?_
              refine jg_istore_n (pc := 87) X [(3, jI ((32 * v3) + 27)), (0, jr Z 345), (1, jI v1), (2, jI v2)] d_12_readPattern_87 (by decide) rfl ?_
              refine jg_iinc (pc := 88) X [(2, jI (v2 + 1)), (3, jI ((32 * v3) + 27)), (0, jr Z 345), (1, jI v1)] d_12_readPattern_88 3 rfl (by decide) rfl ?_
              refine jg_aload_n (pc := 91) X d_12_readPattern_91 2 rfl ?_
              refine jg_dup (pc := 92) X d_12_readPattern_92 rfl ?_
              refine jgf_12_7 (pc := 93) X (jl_345_12 hn) kw_1480 d_12_readPattern_93 ?_
              refine jg_iconst (pc := 96) X d_12_readPattern_96 ?_
              refine jg_iadd (pc := 97) X d_12_readPattern_97 ?_
              obtain ⟨r46, h⟩ := h
              refine jgp_12_7 (pc := 98) X (jl_345_12 hn) kw_1480 d_12_readPattern_98 ?_
              have w47 := jWF.u (k := 7) (v := ((C 345 7) + 1)) hw (jl_345_12 hn) (by decide) r46
              refine jg_goto (tgt := 25) (pc := 101) X d_12_readPattern_101 (by decide) ?_
              obtain ⟨r49, h⟩ := h
              have r48 : jRng (v2 + 1) := by (unfold jRng; exact ⟨by (have z0 : jRng v2 := rv2; unfold jRng at z0; omega), by (have z0 : jRng v2 := rv2; unfold jRng at z0; omega)⟩)
              refine jg_sub [2, 3, 0, 1] rfl ?_
              exact ih25 _ _ _ r48 r49 w47 h
        refine jg_aload_n (pc := 25) X d_12_readPattern_25 0 rfl ?_
        refine jg_bipush (pc := 26) X d_12_readPattern_26 rfl ?_
        refine jg_bipush (pc := 28) X d_12_readPattern_28 rfl ?_
        refine jg_pcallVi (pc := 30) X (m_12_isAt (⟨by decide, by decide⟩ : jRng 97) (⟨by decide, by decide⟩ : jRng 122) hw h) jM_12_isAt kw_1571 (jl_345_12 hn) rfl rfl rfl rfl rfl (Nat.le_of_ble_eq_true rfl) d_12_readPattern_30 ⟨(Nat.le_of_ble_eq_true rfl), (Nat.le_of_ble_eq_true rfl)⟩ ⟨(Nat.le_of_ble_eq_true rfl), (Nat.le_of_ble_eq_true rfl)⟩ (fun x50 r52 h => ?_)
        refine jg_if_ne (tgt := 47) (pc := 33) X d_12_readPattern_33 (by decide) r52 h (fun c54 h => ?_) (fun c54 h => ?_)
        · refine jg_aload_n (pc := 36) X d_12_readPattern_36 0 rfl ?_
          refine jg_bipush (pc := 37) X d_12_readPattern_37 rfl ?_
          refine jg_bipush (pc := 39) X d_12_readPattern_39 rfl ?_
          refine jg_pcallVi (pc := 41) X (m_12_isAt (⟨by decide, by decide⟩ : jRng 63) (⟨by decide, by decide⟩ : jRng 63) hw h) jM_12_isAt kw_1571 (jl_345_12 hn) rfl rfl rfl rfl rfl (Nat.le_of_ble_eq_true rfl) d_12_readPattern_41 ⟨(Nat.le_of_ble_eq_true rfl), (Nat.le_of_ble_eq_true rfl)⟩ ⟨(Nat.le_of_ble_eq_true rfl), (Nat.le_of_ble_eq_true rfl)⟩ (fun x55 r57 h => ?_)
          refine jg_if_eq (tgt := 104) (pc := 44) X d_12_readPattern_44 (by decide) r57 h (fun c59 h => ?_) (fun c59 h => ?_)
          · refine jg_aload_n (pc := 104) X d_12_readPattern_104 0 rfl ?_
            refine jg_bipush (pc := 105) X d_12_readPattern_105 rfl ?_
            refine jg_bipush (pc := 107) X d_12_readPattern_107 rfl ?_
            refine jg_pcallVi (pc := 109) X (m_12_isAt (⟨by decide, by decide⟩ : jRng 42) (⟨by decide, by decide⟩ : jRng 42) hw h) jM_12_isAt kw_1571 (jl_345_12 hn) rfl rfl rfl rfl rfl (Nat.le_of_ble_eq_true rfl) d_12_readPattern_109 ⟨(Nat.le_of_ble_eq_true rfl), (Nat.le_of_ble_eq_true rfl)⟩ ⟨(Nat.le_of_ble_eq_true rfl), (Nat.le_of_ble_eq_true rfl)⟩ (fun x60 r62 h => ?_)
            refine jg_istore (pc := 112) X [(4, jI x60), (0, jr Z 345), (1, jI v1), (2, jI v2), (3, jI v3)] d_12_readPattern_112 (by decide) rfl ?_
            refine jg_aload_n (pc := 114) X d_12_readPattern_114 1 rfl ?_
            refine jg_dup (pc := 115) X d_12_readPattern_115 rfl ?_
            refine jgf_12_7 (pc := 116) X (jl_345_12 hn) kw_1480 d_12_readPattern_116 ?_
            refine jg_iload (pc := 119) X d_12_readPattern_119 0 rfl ?_
            refine jg_if_eq (tgt := 128) (pc := 121) X d_12_readPattern_121 (by decide) r62 h (fun c64 h => ?_) (fun c64 h => ?_)
            · refine jg_iconst (pc := 128) X d_12_readPattern_128 ?_
              refine jg_sub [1, 2, 3, 4, 0] rfl ?_
              exact jb129 _ _ _ _ _ _ _ (⟨by decide, by decide⟩ : jRng 0) (hw.1 _ _) rv1 rv2 rv3 r62 hw h
            · refine jg_iconst (pc := 124) X d_12_readPattern_124 ?_
              refine jg_goto (tgt := 129) (pc := 125) X d_12_readPattern_125 (by decide) ?_
              refine jg_sub [1, 2, 3, 4, 0] rfl ?_
              exact jb129 _ _ _ _ _ _ _ (⟨by decide, by decide⟩ : jRng 1) (hw.1 _ _) rv1 rv2 rv3 r62 hw h
          · refine jg_sub [0, 1, 2, 3] rfl ?_
            exact jb47 _ _ _ rv2 rv3 hw h
        · refine jg_sub [0, 1, 2, 3] rfl ?_
          exact jb47 _ _ _ rv2 rv3 hw h
    obtain ⟨N, h⟩ := h
    refine jg_sub [2, 3, 1, 0] rfl ?_
    exact jl25   N _ _ _ (⟨by decide, by decide⟩ : jRng 0) (⟨by decide, by decide⟩ : jRng 0) w30 h
  · refine jg_iconst (pc := 11) X d_12_readPattern_11 ?_
    exact jg_ireturn (pc := 12) X hAe hlocks hr d_12_readPattern_12 ⟨(Nat.le_of_ble_eq_true rfl), (Nat.le_of_ble_eq_true rfl)⟩ rfl (⟨by decide, by decide⟩ : jRng 0) w24 h
set_option maxHeartbeats 4000000 in
set_option maxRecDepth 100000 in
theorem m_12_readTest {l : Launch} {Z : jE} {n : Nat} {C : jC} {v1 : Int} {v2 : Int} {post : Int → jC → Prop} (rv1 : jRng v1) (rv2 : jRng v2) (hw0 : jWF n C) (h : wp_12_readTest v1 v2 C post) : jCi l y_12_readTest prog_14_method_51_code 5 (.boolean) q_12_readTest Z n C [jr Z 345, jI v1, jI v2] post := by
  have hn := hw0.2.2.1
  unfold wp_12_readTest at h
  refine jCi_of (lv0 := [(0, jr Z 345), (1, jI v1), (2, jI v2)]) (by decide) (Nat.le_of_ble_eq_true rfl) rfl ?_
  intro p e s m args below meth c A sz X hAe hr hlocks
  refine jg_iconst (pc := 0) X d_12_readTest_0 ?_
  refine jg_istore_n (pc := 1) X [(3, jI 0), (0, jr Z 345), (1, jI v1), (2, jI v2)] d_12_readTest_1 (by decide) rfl ?_
  have jl2 : ∀  (N : Nat) (v3 : Int) (C : jC) (rv3 : jRng v3) (hw : jWF n C), jI2 (wp_12_readTest_2 v1 v2 post) N v3 C → jG p l e q_12_readTest s m args below meth c 5 Z A (jws Z n C) 0 0 (MQ below (jQi Z n sz post) args s q_12_readTest.cells q_12_readTest.slots (jA Z n sz)) 2 [(0, jr Z 345), (1, jI v1), (2, jI v2), (3, jI v3)] [] := by
    intro   N
    have hn := hw0.2.2.1
    induction N with
    | zero => intro v3 C rv3 hw h; exact h.elim
    | succ N ih2 =>
      intro v3 C rv3 hw h
      have h : wp_12_readTest_2 v1 v2 post (jI2 (wp_12_readTest_2 v1 v2 post) N) v3 C := h
      generalize jI2 (wp_12_readTest_2 v1 v2 post) N = k2 at h ih2
      unfold wp_12_readTest_2 at h
      refine jg_aload_n (pc := 2) X d_12_readTest_2 0 rfl ?_
      refine jg_ldcS (pc := 3) "not" 6 X (by decide +kernel) d_12_readTest_3 ?_
      refine jg_callVi (pc := 5) X (m_12_passes (by decide) hw h) jM_12_passes kw_1717 (jl_345_12 hn) rfl rfl rfl rfl rfl (Nat.le_of_ble_eq_true rfl) d_12_readTest_5 ⟨(Nat.le_of_ble_eq_true rfl), (Nat.le_of_ble_eq_true rfl)⟩ ⟨(Nat.le_of_ble_eq_true rfl), (Nat.le_of_ble_eq_true rfl)⟩ (fun x1 C2 r3 w4 h => ?_)
      refine jg_if_eq (tgt := 24) (pc := 8) X d_12_readTest_8 (by decide) r3 h (fun c5 h => ?_) (fun c5 h => ?_)
      · refine jg_aload_n (pc := 24) X d_12_readTest_24 0 rfl ?_
        refine jgf_12_1 (pc := 25) X (jl_345_12 hn) kw_1474 d_12_readTest_25 ?_
        refine jg_iload_n (pc := 28) X d_12_readTest_28 2 rfl ?_
        refine jg_iconst (pc := 29) X d_12_readTest_29 ?_
        refine jg_iadd (pc := 30) X d_12_readTest_30 ?_
        refine jg_iload_n (pc := 31) X d_12_readTest_31 3 rfl ?_
        refine jg_iconst (pc := 32) X d_12_readTest_32 ?_
        have r6 : jRng (v3.tmod 2) := jrng_tmod rv3 (by decide) (by decide)
        refine jg_irem (pc := 33) X d_12_readTest_33 rv3 (by decide) (by decide) ?_
        obtain ⟨b7, b8, h⟩ := h
        refine jg_iastore (len := 8954) (pc := 34) X d_12_readTest_34 (jl_346_9954 hn) (fun _ => rfl) (by decide) b7 b8 ?_
        have w9 := jWF.u (k := (v2 + 0)) (v := (v3.tmod 2)) w4 (jl_346_9954 hn) (by decide) r6
        refine jg_aload_n (pc := 35) X d_12_readTest_35 0 rfl ?_
        refine jgf_12_1 (pc := 36) X (jl_345_12 hn) kw_1474 d_12_readTest_36 ?_
        refine jg_iload_n (pc := 39) X d_12_readTest_39 2 rfl ?_
        refine jg_iconst (pc := 40) X d_12_readTest_40 ?_
        refine jg_iadd (pc := 41) X d_12_readTest_41 ?_
        refine jg_iconst (pc := 42) X d_12_readTest_42 ?_
        obtain ⟨b10, b11, h⟩ := h
        refine jg_iastore (len := 8954) (pc := 43) X d_12_readTest_43 (jl_346_9954 hn) (fun _ => rfl) (by decide) b10 b11 ?_
        have w12 := jWF.u (k := (v2 + 1)) (v := 0) w9 (jl_346_9954 hn) (by decide) (⟨by decide, by decide⟩ : jRng 0)
        refine jg_aload_n (pc := 44) X d_12_readTest_44 0 rfl ?_
        refine jg_ldcS (pc := 45) "blank" 7 X (by decide +kernel) d_12_readTest_45 ?_
        refine jg_callVi (pc := 47) X (m_12_passes (by decide) w12 h) jM_12_passes kw_1717 (jl_345_12 hn) rfl rfl rfl rfl rfl (Nat.le_of_ble_eq_true rfl) d_12_readTest_47 ⟨(Nat.le_of_ble_eq_true rfl), (Nat.le_of_ble_eq_true rfl)⟩ ⟨(Nat.le_of_ble_eq_true rfl), (Nat.le_of_ble_eq_true rfl)⟩ (fun x13 C14 r15 w16 h => ?_)
        refine jg_if_eq (tgt := 55) (pc := 50) X d_12_readTest_50 (by decide) r15 h (fun c17 h => ?_) (fun c17 h => ?_)
        · refine jg_aload_n (pc := 55) X d_12_readTest_55 0 rfl ?_
          refine jg_iload_n (pc := 56) X d_12_readTest_56 1 rfl ?_
          refine jg_pcallVi (pc := 57) X (m_12_isWords rv1 w16 h) jM_12_isWords kw_1626 (jl_345_12 hn) rfl rfl rfl rfl rfl (Nat.le_of_ble_eq_true rfl) d_12_readTest_57 ⟨(Nat.le_of_ble_eq_true rfl), (Nat.le_of_ble_eq_true rfl)⟩ ⟨(Nat.le_of_ble_eq_true rfl), (Nat.le_of_ble_eq_true rfl)⟩ (fun x18 r20 h => ?_)
          refine jg_if_eq (tgt := 69) (pc := 60) X d_12_readTest_60 (by decide) r20 h (fun c22 h => ?_) (fun c22 h => ?_)
          · refine jg_aload_n (pc := 69) X d_12_readTest_69 0 rfl ?_
            refine jg_sipush (pc := 70) X d_12_readTest_70 rfl ?_
            refine jg_callVi (pc := 73) X (m_12_signed (⟨by decide, by decide⟩ : jRng (-999)) w16 h) jM_12_signed kw_1630 (jl_345_12 hn) rfl rfl rfl rfl rfl (Nat.le_of_ble_eq_true rfl) d_12_readTest_73 ⟨(Nat.le_of_ble_eq_true rfl), (Nat.le_of_ble_eq_true rfl)⟩ ⟨(Nat.le_of_ble_eq_true rfl), (Nat.le_of_ble_eq_true rfl)⟩ (fun x23 C24 r25 w26 h => ?_)
            refine jg_if_ne (tgt := 81) (pc := 76) X d_12_readTest_76 (by decide) r25 h (fun c27 h => ?_) (fun c27 h => ?_)
            · refine jg_iconst (pc := 79) X d_12_readTest_79 ?_
              exact jg_ireturn (pc := 80) X hAe hlocks hr d_12_readTest_80 ⟨(Nat.le_of_ble_eq_true rfl), (Nat.le_of_ble_eq_true rfl)⟩ rfl (⟨by decide, by decide⟩ : jRng 0) w26 h
            · refine jg_aload_n (pc := 81) X d_12_readTest_81 0 rfl ?_
              refine jgf_12_1 (pc := 82) X (jl_345_12 hn) kw_1474 d_12_readTest_82 ?_
              refine jg_iload_n (pc := 85) X d_12_readTest_85 2 rfl ?_
              refine jg_iconst (pc := 86) X d_12_readTest_86 ?_
              refine jg_iadd (pc := 87) X d_12_readTest_87 ?_
              refine jg_iconst (pc := 88) X d_12_readTest_88 ?_
              have b28 : 0 ≤ (v2 + 1) := by (have z0 : jRng v2 := rv2; unfold jRng at z0; omega)
              have b29 : (v2 + 1) < 8954 := by (have z0 : jRng v2 := rv2; unfold jRng at z0; omega)
              refine jg_iastore (len := 8954) (pc := 89) X d_12_readTest_89 (jl_346_9954 hn) (fun _ => rfl) (by decide) b28 b29 ?_
              have w30 := jWF.u (k := (v2 + 1)) (v := 1) w26 (jl_346_9954 hn) (by decide) (⟨by decide, by decide⟩ : jRng 1)
              refine jg_aload_n (pc := 90) X d_12_readTest_90 0 rfl ?_
              refine jgf_12_1 (pc := 91) X (jl_345_12 hn) kw_1474 d_12_readTest_91 ?_
              refine jg_iload_n (pc := 94) X d_12_readTest_94 2 rfl ?_
              refine jg_iconst (pc := 95) X d_12_readTest_95 ?_
              refine jg_iadd (pc := 96) X d_12_readTest_96 ?_
              refine jg_aload_n (pc := 97) X d_12_readTest_97 0 rfl ?_
              refine jgf_12_10 (pc := 98) X (jl_345_12 hn) kw_1483 d_12_readTest_98 ?_
              obtain ⟨b31, b32, h⟩ := h
              refine jg_iastore (len := 8954) (pc := 101) X d_12_readTest_101 (jl_346_9954 hn) (fun _ => rfl) (by decide) b31 b32 ?_
              have w33 := jWF.u (k := (v2 + 2)) (v := ((jU C24 346 (v2 + 1) 1) 345 10)) w30 (jl_346_9954 hn) (by decide) (w30.1 _ _)
              refine jg_aload_n (pc := 102) X d_12_readTest_102 0 rfl ?_
              refine jgf_12_1 (pc := 103) X (jl_345_12 hn) kw_1474 d_12_readTest_103 ?_
              refine jg_iload_n (pc := 106) X d_12_readTest_106 2 rfl ?_
              refine jg_iconst (pc := 107) X d_12_readTest_107 ?_
              refine jg_iadd (pc := 108) X d_12_readTest_108 ?_
              refine jg_aload_n (pc := 109) X d_12_readTest_109 0 rfl ?_
              refine jgf_12_10 (pc := 110) X (jl_345_12 hn) kw_1483 d_12_readTest_110 ?_
              obtain ⟨b34, b35, h⟩ := h
              refine jg_iastore (len := 8954) (pc := 113) X d_12_readTest_113 (jl_346_9954 hn) (fun _ => rfl) (by decide) b34 b35 ?_
              have w36 := jWF.u (k := (v2 + 3)) (v := ((jU (jU C24 346 (v2 + 1) 1) 346 (v2 + 2) ((jU C24 346 (v2 + 1) 1) 345 10)) 345 10)) w33 (jl_346_9954 hn) (by decide) (w33.1 _ _)
              refine jg_aload_n (pc := 114) X d_12_readTest_114 0 rfl ?_
              refine jg_ldcS (pc := 115) "to" 5 X (by decide +kernel) d_12_readTest_115 ?_
              refine jg_callVi (pc := 117) X (m_12_passes (by decide) w36 h) jM_12_passes kw_1717 (jl_345_12 hn) rfl rfl rfl rfl rfl (Nat.le_of_ble_eq_true rfl) d_12_readTest_117 ⟨(Nat.le_of_ble_eq_true rfl), (Nat.le_of_ble_eq_true rfl)⟩ ⟨(Nat.le_of_ble_eq_true rfl), (Nat.le_of_ble_eq_true rfl)⟩ (fun x37 C38 r39 w40 h => ?_)
              refine jg_if_ne (tgt := 125) (pc := 120) X d_12_readTest_120 (by decide) r39 h (fun c41 h => ?_) (fun c41 h => ?_)
              · refine jg_iconst (pc := 123) X d_12_readTest_123 ?_
                exact jg_ireturn (pc := 124) X hAe hlocks hr d_12_readTest_124 ⟨(Nat.le_of_ble_eq_true rfl), (Nat.le_of_ble_eq_true rfl)⟩ rfl (⟨by decide, by decide⟩ : jRng 1) w40 h
              · refine jg_aload_n (pc := 125) X d_12_readTest_125 0 rfl ?_
                refine jg_aload_n (pc := 126) X d_12_readTest_126 0 rfl ?_
                refine jgf_12_10 (pc := 127) X (jl_345_12 hn) kw_1483 d_12_readTest_127 ?_
                refine jg_callVi (pc := 130) X (m_12_signed (w40.1 _ _) w40 h) jM_12_signed kw_1630 (jl_345_12 hn) rfl rfl rfl rfl rfl (Nat.le_of_ble_eq_true rfl) d_12_readTest_130 ⟨(Nat.le_of_ble_eq_true rfl), (Nat.le_of_ble_eq_true rfl)⟩ ⟨(Nat.le_of_ble_eq_true rfl), (Nat.le_of_ble_eq_true rfl)⟩ (fun x42 C43 r44 w45 h => ?_)
                refine jg_istore (pc := 133) X [(4, jI x42), (0, jr Z 345), (1, jI v1), (2, jI v2), (3, jI v3)] d_12_readTest_133 (by decide) rfl ?_
                refine jg_aload_n (pc := 135) X d_12_readTest_135 1 rfl ?_
                refine jgf_12_1 (pc := 136) X (jl_345_12 hn) kw_1474 d_12_readTest_136 ?_
                refine jg_iload_n (pc := 139) X d_12_readTest_139 3 rfl ?_
                refine jg_iconst (pc := 140) X d_12_readTest_140 ?_
                refine jg_iadd (pc := 141) X d_12_readTest_141 ?_
                refine jg_aload_n (pc := 142) X d_12_readTest_142 1 rfl ?_
                refine jgf_12_10 (pc := 143) X (jl_345_12 hn) kw_1483 d_12_readTest_143 ?_
                have b46 : 0 ≤ (v2 + 3) := by (have z0 : jRng v2 := rv2; unfold jRng at z0; omega)
                have b47 : (v2 + 3) < 8954 := by (have z0 : jRng v2 := rv2; unfold jRng at z0; omega)
                refine jg_iastore (len := 8954) (pc := 146) X d_12_readTest_146 (jl_346_9954 hn) (fun _ => rfl) (by decide) b46 b47 ?_
                have w48 := jWF.u (k := (v2 + 3)) (v := (C43 345 10)) w45 (jl_346_9954 hn) (by decide) (w45.1 _ _)
                refine jg_iload (pc := 147) X d_12_readTest_147 0 rfl ?_
                obtain ⟨b49, h⟩ := h
                exact jg_ireturn (pc := 149) X hAe hlocks hr d_12_readTest_149 ⟨(Nat.le_of_ble_eq_true rfl), (Nat.le_of_ble_eq_true rfl)⟩ (jnar_b b49) r44 w48 h
          · refine jg_aload_n (pc := 63) X d_12_readTest_63 0 rfl ?_
            refine jg_iload_n (pc := 64) X d_12_readTest_64 2 rfl ?_
            refine jg_callVi (pc := 65) X (m_12_readPattern rv2 w16 h) jM_12_readPattern kw_1748 (jl_345_12 hn) rfl rfl rfl rfl rfl (Nat.le_of_ble_eq_true rfl) d_12_readTest_65 ⟨(Nat.le_of_ble_eq_true rfl), (Nat.le_of_ble_eq_true rfl)⟩ ⟨(Nat.le_of_ble_eq_true rfl), (Nat.le_of_ble_eq_true rfl)⟩ (fun x50 C51 r52 w53 h => ?_)
            obtain ⟨b54, h⟩ := h
            exact jg_ireturn (pc := 68) X hAe hlocks hr d_12_readTest_68 ⟨(Nat.le_of_ble_eq_true rfl), (Nat.le_of_ble_eq_true rfl)⟩ (jnar_b b54) r52 w53 h
        · refine jg_iconst (pc := 53) X d_12_readTest_53 ?_
          exact jg_ireturn (pc := 54) X hAe hlocks hr d_12_readTest_54 ⟨(Nat.le_of_ble_eq_true rfl), (Nat.le_of_ble_eq_true rfl)⟩ rfl (⟨by decide, by decide⟩ : jRng 1) w16 h
      · refine jg_iload_n (pc := 11) X d_12_readTest_11 3 rfl ?_
        refine jg_iconst (pc := 12) X d_12_readTest_12 ?_
        refine jg_icmp_ne (tgt := 18) (pc := 13) X d_12_readTest_13 (by decide) rv3 (⟨by decide, by decide⟩ : jRng 4) h (fun c55 h => ?_) (fun c55 h => ?_)
        · refine jg_iconst (pc := 16) X d_12_readTest_16 ?_
          exact jg_ireturn (pc := 17) X hAe hlocks hr d_12_readTest_17 ⟨(Nat.le_of_ble_eq_true rfl), (Nat.le_of_ble_eq_true rfl)⟩ rfl (⟨by decide, by decide⟩ : jRng 0) w4 h
        · refine jg_iinc (pc := 18) X [(3, jI (v3 + 1)), (0, jr Z 345), (1, jI v1), (2, jI v2)] d_12_readTest_18 3 rfl (by decide) rfl ?_
          refine jg_goto (tgt := 2) (pc := 21) X d_12_readTest_21 (by decide) ?_
          obtain ⟨r56, h⟩ := h
          refine jg_sub [1, 2, 3, 0] rfl ?_
          exact ih2 _ _ r56 w4 h
  obtain ⟨N, h⟩ := h
  refine jg_sub [1, 2, 3, 0] rfl ?_
  exact jl2   N _ _ (⟨by decide, by decide⟩ : jRng 0) hw0 h
set_option maxHeartbeats 4000000 in
set_option maxRecDepth 100000 in
theorem m_12_readFilter {l : Launch} {Z : jE} {n : Nat} {C : jC} {v1 : Int} {post : Int → jC → Prop} (rv1 : jRng v1) (hw0 : jWF n C) (h : wp_12_readFilter v1 C post) : jCi l y_12_readFilter prog_14_method_52_code 4 (.boolean) q_12_readFilter Z n C [jr Z 345, jI v1] post := by
  have hn := hw0.2.2.1
  unfold wp_12_readFilter at h
  refine jCi_of (lv0 := [(0, jr Z 345), (1, jI v1)]) (by decide) (Nat.le_of_ble_eq_true rfl) rfl ?_
  intro p e s m args below meth c A sz X hAe hr hlocks
  refine jg_aload_n (pc := 0) X d_12_readFilter_0 0 rfl ?_
  refine jg_iconst (pc := 1) X d_12_readFilter_1 ?_
  refine jg_aload_n (pc := 2) X d_12_readFilter_2 0 rfl ?_
  refine jg_pcallVi (pc := 3) X (m_12_columns hw0 h) jM_12_columns kw_1590 (jl_345_12 hn) rfl rfl rfl rfl rfl (Nat.le_of_ble_eq_true rfl) d_12_readFilter_3 ⟨(Nat.le_of_ble_eq_true rfl), (Nat.le_of_ble_eq_true rfl)⟩ ⟨(Nat.le_of_ble_eq_true rfl), (Nat.le_of_ble_eq_true rfl)⟩ (fun x1 r3 h => ?_)
  refine jg_iconst (pc := 6) X d_12_readFilter_6 ?_
  refine jg_isub (pc := 7) X d_12_readFilter_7 ?_
  obtain ⟨r5, h⟩ := h
  refine jg_callVi (pc := 8) X (m_12_number (⟨by decide, by decide⟩ : jRng 0) r5 hw0 h) jM_12_number kw_1725 (jl_345_12 hn) rfl rfl rfl rfl rfl (Nat.le_of_ble_eq_true rfl) d_12_readFilter_8 ⟨(Nat.le_of_ble_eq_true rfl), (Nat.le_of_ble_eq_true rfl)⟩ ⟨(Nat.le_of_ble_eq_true rfl), (Nat.le_of_ble_eq_true rfl)⟩ (fun x6 C7 r8 w9 h => ?_)
  refine jg_if_ne (tgt := 16) (pc := 11) X d_12_readFilter_11 (by decide) r8 h (fun c10 h => ?_) (fun c10 h => ?_)
  · refine jg_iconst (pc := 14) X d_12_readFilter_14 ?_
    exact jg_ireturn (pc := 15) X hAe hlocks hr d_12_readFilter_15 ⟨(Nat.le_of_ble_eq_true rfl), (Nat.le_of_ble_eq_true rfl)⟩ rfl (⟨by decide, by decide⟩ : jRng 0) w9 h
  · refine jg_aload_n (pc := 16) X d_12_readFilter_16 0 rfl ?_
    refine jgf_12_10 (pc := 17) X (jl_345_12 hn) kw_1483 d_12_readFilter_17 ?_
    refine jg_istore_n (pc := 20) X [(2, jI (C7 345 10)), (0, jr Z 345), (1, jI v1)] d_12_readFilter_20 (by decide) rfl ?_
    refine jg_aload_n (pc := 21) X d_12_readFilter_21 1 rfl ?_
    refine jgf_12_1 (pc := 22) X (jl_345_12 hn) kw_1474 d_12_readFilter_22 ?_
    refine jg_iload_n (pc := 25) X d_12_readFilter_25 2 rfl ?_
    refine jg_iload_n (pc := 26) X d_12_readFilter_26 0 rfl ?_
    refine jg_pcallSi (pc := 27) X (m_12_filterAt rv1 (w9.1 _ _) w9 h) jM_12_filterAt kw_1665 rfl rfl (Nat.le_of_ble_eq_true rfl) d_12_readFilter_27 ⟨(Nat.le_of_ble_eq_true rfl), (Nat.le_of_ble_eq_true rfl)⟩ ⟨(Nat.le_of_ble_eq_true rfl), (Nat.le_of_ble_eq_true rfl)⟩ (fun x11 r13 h => ?_)
    obtain ⟨b15, b16, h⟩ := h
    refine jg_iaload (len := 8954) (pc := 30) X d_12_readFilter_30 (jl_346_9954 hn) (fun _ => rfl) (by decide) b15 b16 ?_
    refine jg_if_gt (tgt := 43) (pc := 31) X d_12_readFilter_31 (by decide) (w9.1 _ _) h (fun c17 h => ?_) (fun c17 h => ?_)
    · have c17 : 0 < (C7 346 x11) := c17
      refine jg_iconst (pc := 43) X d_12_readFilter_43 ?_
      exact jg_ireturn (pc := 44) X hAe hlocks hr d_12_readFilter_44 ⟨(Nat.le_of_ble_eq_true rfl), (Nat.le_of_ble_eq_true rfl)⟩ rfl (⟨by decide, by decide⟩ : jRng 0) w9 h
    · have c17 : ¬ (0 < (C7 346 x11)) := c17
      refine jg_aload_n (pc := 34) X d_12_readFilter_34 1 rfl ?_
      refine jg_bipush (pc := 35) X d_12_readFilter_35 rfl ?_
      refine jg_callVi (pc := 37) X (m_12_sign (⟨by decide, by decide⟩ : jRng 58) w9 h) jM_12_sign kw_1622 (jl_345_12 hn) rfl rfl rfl rfl rfl (Nat.le_of_ble_eq_true rfl) d_12_readFilter_37 ⟨(Nat.le_of_ble_eq_true rfl), (Nat.le_of_ble_eq_true rfl)⟩ ⟨(Nat.le_of_ble_eq_true rfl), (Nat.le_of_ble_eq_true rfl)⟩ (fun x18 C19 r20 w21 h => ?_)
      refine jg_if_ne (tgt := 45) (pc := 40) X d_12_readFilter_40 (by decide) r20 h (fun c22 h => ?_) (fun c22 h => ?_)
      · refine jg_iconst (pc := 43) X d_12_readFilter_43 ?_
        exact jg_ireturn (pc := 44) X hAe hlocks hr d_12_readFilter_44 ⟨(Nat.le_of_ble_eq_true rfl), (Nat.le_of_ble_eq_true rfl)⟩ rfl (⟨by decide, by decide⟩ : jRng 0) w21 h
      · refine jg_iconst (pc := 45) X d_12_readFilter_45 ?_
        refine jg_istore_n (pc := 46) X [(3, jI 0), (2, jI (C7 345 10)), (0, jr Z 345), (1, jI v1)] d_12_readFilter_46 (by decide) rfl ?_
        have jl47 : ∀ (v2 : Int) (rv2 : jRng v2) (N : Nat) (v3 : Int) (C : jC) (rv3 : jRng v3) (hw : jWF n C), jI2 (wp_12_readFilter_47 v1 v2 post) N v3 C → jG p l e q_12_readFilter s m args below meth c 4 Z A (jws Z n C) 0 0 (MQ below (jQi Z n sz post) args s q_12_readFilter.cells q_12_readFilter.slots (jA Z n sz)) 47 [(0, jr Z 345), (1, jI v1), (2, jI v2), (3, jI v3)] [] := by
          intro v2 rv2 N
          have hn := hw0.2.2.1
          induction N with
          | zero => intro v3 C rv3 hw h; exact h.elim
          | succ N ih47 =>
            intro v3 C rv3 hw h
            have h : wp_12_readFilter_47 v1 v2 post (jI2 (wp_12_readFilter_47 v1 v2 post) N) v3 C := h
            generalize jI2 (wp_12_readFilter_47 v1 v2 post) N = k47 at h ih47
            unfold wp_12_readFilter_47 at h
            refine jg_aload_n (pc := 47) X d_12_readFilter_47 0 rfl ?_
            refine jg_callVv (pc := 48) X (m_12_blanks hw h) jM_12_blanks kw_1567 (jl_345_12 hn) rfl rfl rfl rfl rfl (Nat.le_of_ble_eq_true rfl) d_12_readFilter_48 ⟨(Nat.le_of_ble_eq_true rfl), (Nat.le_of_ble_eq_true rfl)⟩ ⟨(Nat.le_of_ble_eq_true rfl), (Nat.le_of_ble_eq_true rfl)⟩ (fun C24 w26 h => ?_)
            refine jg_iload_n (pc := 51) X d_12_readFilter_51 3 rfl ?_
            refine jg_bipush (pc := 52) X d_12_readFilter_52 rfl ?_
            refine jg_icmp_eq (tgt := 71) (pc := 54) X d_12_readFilter_54 (by decide) rv3 (⟨by decide, by decide⟩ : jRng 6) h (fun c27 h => ?_) (fun c27 h => ?_)
            · refine jg_iconst (pc := 71) X d_12_readFilter_71 ?_
              exact jg_ireturn (pc := 72) X hAe hlocks hr d_12_readFilter_72 ⟨(Nat.le_of_ble_eq_true rfl), (Nat.le_of_ble_eq_true rfl)⟩ rfl (⟨by decide, by decide⟩ : jRng 0) w26 h
            · refine jg_aload_n (pc := 57) X d_12_readFilter_57 0 rfl ?_
              refine jg_iload_n (pc := 58) X d_12_readFilter_58 2 rfl ?_
              refine jg_iload_n (pc := 59) X d_12_readFilter_59 1 rfl ?_
              refine jg_iload_n (pc := 60) X d_12_readFilter_60 2 rfl ?_
              refine jg_iload_n (pc := 61) X d_12_readFilter_61 3 rfl ?_
              refine jg_pcallSi (pc := 62) X (m_12_testAt rv1 rv2 rv3 w26 h) jM_12_testAt kw_1675 rfl rfl (Nat.le_of_ble_eq_true rfl) d_12_readFilter_62 ⟨(Nat.le_of_ble_eq_true rfl), (Nat.le_of_ble_eq_true rfl)⟩ ⟨(Nat.le_of_ble_eq_true rfl), (Nat.le_of_ble_eq_true rfl)⟩ (fun x28 r30 h => ?_)
              refine jg_callVi (pc := 65) X (m_12_readTest rv2 r30 w26 h) jM_12_readTest kw_1742 (jl_345_12 hn) rfl rfl rfl rfl rfl (Nat.le_of_ble_eq_true rfl) d_12_readFilter_65 ⟨(Nat.le_of_ble_eq_true rfl), (Nat.le_of_ble_eq_true rfl)⟩ ⟨(Nat.le_of_ble_eq_true rfl), (Nat.le_of_ble_eq_true rfl)⟩ (fun x32 C33 r34 w35 h => ?_)
              refine jg_if_ne (tgt := 73) (pc := 68) X d_12_readFilter_68 (by decide) r34 h (fun c36 h => ?_) (fun c36 h => ?_)
              · refine jg_iconst (pc := 71) X d_12_readFilter_71 ?_
                exact jg_ireturn (pc := 72) X hAe hlocks hr d_12_readFilter_72 ⟨(Nat.le_of_ble_eq_true rfl), (Nat.le_of_ble_eq_true rfl)⟩ rfl (⟨by decide, by decide⟩ : jRng 0) w35 h
              · refine jg_iinc (pc := 73) X [(3, jI (v3 + 1)), (0, jr Z 345), (1, jI v1), (2, jI v2)] d_12_readFilter_73 3 rfl (by decide) rfl ?_
                refine jg_aload_n (pc := 76) X d_12_readFilter_76 1 rfl ?_
                refine jg_ldcS (pc := 77) "or" 4 X (by decide +kernel) d_12_readFilter_77 ?_
                refine jg_callVi (pc := 79) X (m_12_passes (by decide) w35 h) jM_12_passes kw_1717 (jl_345_12 hn) rfl rfl rfl rfl rfl (Nat.le_of_ble_eq_true rfl) d_12_readFilter_79 ⟨(Nat.le_of_ble_eq_true rfl), (Nat.le_of_ble_eq_true rfl)⟩ ⟨(Nat.le_of_ble_eq_true rfl), (Nat.le_of_ble_eq_true rfl)⟩ (fun x37 C38 r39 w40 h => ?_)
                refine jg_if_ne (tgt := 47) (pc := 82) X d_12_readFilter_82 (by decide) r39 h (fun c41 h => ?_) (fun c41 h => ?_)
                · refine jg_aload_n (pc := 85) X d_12_readFilter_85 1 rfl ?_
                  refine jgf_12_1 (pc := 86) X (jl_345_12 hn) kw_1474 d_12_readFilter_86 ?_
                  refine jg_iload_n (pc := 89) X d_12_readFilter_89 2 rfl ?_
                  refine jg_iload_n (pc := 90) X d_12_readFilter_90 3 rfl ?_
                  refine jg_pcallSi (pc := 91) X (m_12_filterAt rv1 rv2 w40 h) jM_12_filterAt kw_1665 rfl rfl (Nat.le_of_ble_eq_true rfl) d_12_readFilter_91 ⟨(Nat.le_of_ble_eq_true rfl), (Nat.le_of_ble_eq_true rfl)⟩ ⟨(Nat.le_of_ble_eq_true rfl), (Nat.le_of_ble_eq_true rfl)⟩ (fun x42 r44 h => ?_)
                  refine jg_iload_n (pc := 94) X d_12_readFilter_94 0 rfl ?_
                  obtain ⟨b46, b47, r48, h⟩ := h
                  refine jg_iastore (len := 8954) (pc := 95) X d_12_readFilter_95 (jl_346_9954 hn) (fun _ => rfl) (by decide) b46 b47 ?_
                  have w49 := jWF.u (k := x42) (v := (v3 + 1)) w40 (jl_346_9954 hn) (by decide) r48
                  refine jg_iconst (pc := 96) X d_12_readFilter_96 ?_
                  exact jg_ireturn (pc := 97) X hAe hlocks hr d_12_readFilter_97 ⟨(Nat.le_of_ble_eq_true rfl), (Nat.le_of_ble_eq_true rfl)⟩ rfl (⟨by decide, by decide⟩ : jRng 1) w49 h
                · obtain ⟨r50, h⟩ := h
                  refine jg_sub [1, 2, 3, 0] rfl ?_
                  exact ih47 _ _ r50 w40 h
        obtain ⟨N, h⟩ := h
        refine jg_sub [2, 3, 1, 0] rfl ?_
        exact jl47 _ (w9.1 _ _) N _ _ (⟨by decide, by decide⟩ : jRng 0) w21 h
set_option maxHeartbeats 4000000 in
set_option maxRecDepth 100000 in
theorem m_12_readPart {l : Launch} {Z : jE} {n : Nat} {C : jC} {v1 : Int} {post : Int → jC → Prop} (rv1 : jRng v1) (hw0 : jWF n C) (h : wp_12_readPart v1 C post) : jCi l y_12_readPart prog_14_method_55_code 2 (.boolean) q_12_readPart Z n C [jr Z 345, jI v1] post := by
  have hn := hw0.2.2.1
  unfold wp_12_readPart at h
  refine jCi_of (lv0 := [(0, jr Z 345), (1, jI v1)]) (by decide) (Nat.le_of_ble_eq_true rfl) rfl ?_
  intro p e s m args below meth c A sz X hAe hr hlocks
  refine jg_aload_n (pc := 0) X d_12_readPart_0 0 rfl ?_
  refine jg_ldcS (pc := 1) "up" 8 X (by decide +kernel) d_12_readPart_1 ?_
  refine jg_callVi (pc := 3) X (m_12_passes (by decide) hw0 h) jM_12_passes kw_1717 (jl_345_12 hn) rfl rfl rfl rfl rfl (Nat.le_of_ble_eq_true rfl) d_12_readPart_3 ⟨(Nat.le_of_ble_eq_true rfl), (Nat.le_of_ble_eq_true rfl)⟩ ⟨(Nat.le_of_ble_eq_true rfl), (Nat.le_of_ble_eq_true rfl)⟩ (fun x1 C2 r3 w4 h => ?_)
  refine jg_if_eq (tgt := 16) (pc := 6) X d_12_readPart_6 (by decide) r3 h (fun c5 h => ?_) (fun c5 h => ?_)
  · refine jg_aload_n (pc := 16) X d_12_readPart_16 0 rfl ?_
    refine jg_ldcS (pc := 17) "down" 9 X (by decide +kernel) d_12_readPart_17 ?_
    refine jg_callVi (pc := 19) X (m_12_passes (by decide) w4 h) jM_12_passes kw_1717 (jl_345_12 hn) rfl rfl rfl rfl rfl (Nat.le_of_ble_eq_true rfl) d_12_readPart_19 ⟨(Nat.le_of_ble_eq_true rfl), (Nat.le_of_ble_eq_true rfl)⟩ ⟨(Nat.le_of_ble_eq_true rfl), (Nat.le_of_ble_eq_true rfl)⟩ (fun x6 C7 r8 w9 h => ?_)
    refine jg_if_eq (tgt := 32) (pc := 22) X d_12_readPart_22 (by decide) r8 h (fun c10 h => ?_) (fun c10 h => ?_)
    · refine jg_aload_n (pc := 32) X d_12_readPart_32 0 rfl ?_
      refine jg_ldcS (pc := 33) "hide" 10 X (by decide +kernel) d_12_readPart_33 ?_
      refine jg_callVi (pc := 35) X (m_12_passes (by decide) w9 h) jM_12_passes kw_1717 (jl_345_12 hn) rfl rfl rfl rfl rfl (Nat.le_of_ble_eq_true rfl) d_12_readPart_35 ⟨(Nat.le_of_ble_eq_true rfl), (Nat.le_of_ble_eq_true rfl)⟩ ⟨(Nat.le_of_ble_eq_true rfl), (Nat.le_of_ble_eq_true rfl)⟩ (fun x11 C12 r13 w14 h => ?_)
      refine jg_if_eq (tgt := 49) (pc := 38) X d_12_readPart_38 (by decide) r13 h (fun c15 h => ?_) (fun c15 h => ?_)
      · refine jg_aload_n (pc := 49) X d_12_readPart_49 0 rfl ?_
        refine jg_iload_n (pc := 50) X d_12_readPart_50 1 rfl ?_
        refine jg_callVi (pc := 51) X (m_12_readFilter rv1 w14 h) jM_12_readFilter kw_1738 (jl_345_12 hn) rfl rfl rfl rfl rfl (Nat.le_of_ble_eq_true rfl) d_12_readPart_51 ⟨(Nat.le_of_ble_eq_true rfl), (Nat.le_of_ble_eq_true rfl)⟩ ⟨(Nat.le_of_ble_eq_true rfl), (Nat.le_of_ble_eq_true rfl)⟩ (fun x16 C17 r18 w19 h => ?_)
        obtain ⟨b20, h⟩ := h
        exact jg_ireturn (pc := 54) X hAe hlocks hr d_12_readPart_54 ⟨(Nat.le_of_ble_eq_true rfl), (Nat.le_of_ble_eq_true rfl)⟩ (jnar_b b20) r18 w19 h
      · refine jg_aload_n (pc := 41) X d_12_readPart_41 0 rfl ?_
        refine jg_iload_n (pc := 42) X d_12_readPart_42 1 rfl ?_
        refine jg_callVi (pc := 43) X (m_12_readHide rv1 w14 h) jM_12_readHide kw_1731 (jl_345_12 hn) rfl rfl rfl rfl rfl (Nat.le_of_ble_eq_true rfl) d_12_readPart_43 ⟨(Nat.le_of_ble_eq_true rfl), (Nat.le_of_ble_eq_true rfl)⟩ ⟨(Nat.le_of_ble_eq_true rfl), (Nat.le_of_ble_eq_true rfl)⟩ (fun x21 C22 r23 w24 h => ?_)
        refine jg_goto (tgt := 54) (pc := 46) X d_12_readPart_46 (by decide) ?_
        obtain ⟨b25, h⟩ := h
        exact jg_ireturn (pc := 54) X hAe hlocks hr d_12_readPart_54 ⟨(Nat.le_of_ble_eq_true rfl), (Nat.le_of_ble_eq_true rfl)⟩ (jnar_b b25) r23 w24 h
    · refine jg_aload_n (pc := 25) X d_12_readPart_25 0 rfl ?_
      refine jg_iload_n (pc := 26) X d_12_readPart_26 1 rfl ?_
      refine jg_iconst (pc := 27) X d_12_readPart_27 ?_
      refine jg_callVi (pc := 28) X (m_12_readSort rv1 (⟨by decide, by decide⟩ : jRng 1) w9 h) jM_12_readSort kw_1721 (jl_345_12 hn) rfl rfl rfl rfl rfl (Nat.le_of_ble_eq_true rfl) d_12_readPart_28 ⟨(Nat.le_of_ble_eq_true rfl), (Nat.le_of_ble_eq_true rfl)⟩ ⟨(Nat.le_of_ble_eq_true rfl), (Nat.le_of_ble_eq_true rfl)⟩ (fun x26 C27 r28 w29 h => ?_)
      obtain ⟨b30, h⟩ := h
      exact jg_ireturn (pc := 31) X hAe hlocks hr d_12_readPart_31 ⟨(Nat.le_of_ble_eq_true rfl), (Nat.le_of_ble_eq_true rfl)⟩ (jnar_b b30) r28 w29 h
  · refine jg_aload_n (pc := 9) X d_12_readPart_9 0 rfl ?_
    refine jg_iload_n (pc := 10) X d_12_readPart_10 1 rfl ?_
    refine jg_iconst (pc := 11) X d_12_readPart_11 ?_
    refine jg_callVi (pc := 12) X (m_12_readSort rv1 (⟨by decide, by decide⟩ : jRng 0) w4 h) jM_12_readSort kw_1721 (jl_345_12 hn) rfl rfl rfl rfl rfl (Nat.le_of_ble_eq_true rfl) d_12_readPart_12 ⟨(Nat.le_of_ble_eq_true rfl), (Nat.le_of_ble_eq_true rfl)⟩ ⟨(Nat.le_of_ble_eq_true rfl), (Nat.le_of_ble_eq_true rfl)⟩ (fun x31 C32 r33 w34 h => ?_)
    obtain ⟨b35, h⟩ := h
    exact jg_ireturn (pc := 15) X hAe hlocks hr d_12_readPart_15 ⟨(Nat.le_of_ble_eq_true rfl), (Nat.le_of_ble_eq_true rfl)⟩ (jnar_b b35) r33 w34 h
set_option maxHeartbeats 4000000 in
set_option maxRecDepth 100000 in
theorem m_12_readView {l : Launch} {Z : jE} {n : Nat} {C : jC} {v1 : Int} {post : Int → jC → Prop} (rv1 : jRng v1) (hw0 : jWF n C) (h : wp_12_readView v1 C post) : jCi l y_12_readView prog_14_method_56_code 3 (.boolean) q_12_readView Z n C [jr Z 345, jI v1] post := by
  have hn := hw0.2.2.1
  unfold wp_12_readView at h
  refine jCi_of (lv0 := [(0, jr Z 345), (1, jI v1)]) (by decide) (Nat.le_of_ble_eq_true rfl) rfl ?_
  intro p e s m args below meth c A sz X hAe hr hlocks
  refine jg_bipush (pc := 0) X d_12_readView_0 rfl ?_
  refine jg_istore_n (pc := 2) X [(2, jI 25), (0, jr Z 345), (1, jI v1)] d_12_readView_2 (by decide) rfl ?_
  have jl3 : ∀  (N : Nat) (v2 : Int) (C : jC) (rv2 : jRng v2) (hw : jWF n C), jI2 (wp_12_readView_3 v1 post) N v2 C → jG p l e q_12_readView s m args below meth c 3 Z A (jws Z n C) 0 0 (MQ below (jQi Z n sz post) args s q_12_readView.cells q_12_readView.slots (jA Z n sz)) 3 [(0, jr Z 345), (1, jI v1), (2, jI v2)] [] := by
    intro   N
    have hn := hw0.2.2.1
    induction N with
    | zero => intro v2 C rv2 hw h; exact h.elim
    | succ N ih3 =>
      intro v2 C rv2 hw h
      have h : wp_12_readView_3 v1 post (jI2 (wp_12_readView_3 v1 post) N) v2 C := h
      generalize jI2 (wp_12_readView_3 v1 post) N = k3 at h ih3
      unfold wp_12_readView_3 at h
      refine jg_iload_n (pc := 3) X d_12_readView_3 2 rfl ?_
      refine jg_sipush (pc := 4) X d_12_readView_4 rfl ?_
      refine jg_icmp_ge (tgt := 27) (pc := 7) X d_12_readView_7 (by decide) rv2 (⟨by decide, by decide⟩ : jRng 185) h (fun c1 h => ?_) (fun c1 h => ?_)
      · refine jg_aload_n (pc := 27) X d_12_readView_27 0 rfl ?_
        refine jg_callVv (pc := 28) X (m_12_blanks hw h) jM_12_blanks kw_1567 (jl_345_12 hn) rfl rfl rfl rfl rfl (Nat.le_of_ble_eq_true rfl) d_12_readView_28 ⟨(Nat.le_of_ble_eq_true rfl), (Nat.le_of_ble_eq_true rfl)⟩ ⟨(Nat.le_of_ble_eq_true rfl), (Nat.le_of_ble_eq_true rfl)⟩ (fun C3 w5 h => ?_)
        refine jg_aload_n (pc := 31) X d_12_readView_31 0 rfl ?_
        refine jgf_12_7 (pc := 32) X (jl_345_12 hn) kw_1480 d_12_readView_32 ?_
        refine jg_aload_n (pc := 35) X d_12_readView_35 0 rfl ?_
        refine jgf_12_8 (pc := 36) X (jl_345_12 hn) kw_1481 d_12_readView_36 ?_
        refine jg_icmp_ne (tgt := 44) (pc := 39) X d_12_readView_39 (by decide) (w5.1 _ _) (w5.1 _ _) h (fun c6 h => ?_) (fun c6 h => ?_)
        · have c6 : (C3 345 7) = (C3 345 8) := c6
          refine jg_iconst (pc := 42) X d_12_readView_42 ?_
          exact jg_ireturn (pc := 43) X hAe hlocks hr d_12_readView_43 ⟨(Nat.le_of_ble_eq_true rfl), (Nat.le_of_ble_eq_true rfl)⟩ rfl (⟨by decide, by decide⟩ : jRng 1) w5 h
        · have c6 : ¬ ((C3 345 7) = (C3 345 8)) := c6
          have jl44 : ∀  (N : Nat) (C : jC) (hw : jWF n C), jI1 (wp_12_readView_44 v1 post) N C → jG p l e q_12_readView s m args below meth c 3 Z A (jws Z n C) 0 0 (MQ below (jQi Z n sz post) args s q_12_readView.cells q_12_readView.slots (jA Z n sz)) 44 [(0, jr Z 345), (1, jI v1)] [] := by
            intro   N
            have hn := hw0.2.2.1
            induction N with
            | zero => intro C hw h; exact h.elim
            | succ N ih44 =>
              intro C hw h
              have h : wp_12_readView_44 v1 post (jI1 (wp_12_readView_44 v1 post) N) C := h
              generalize jI1 (wp_12_readView_44 v1 post) N = k44 at h ih44
              unfold wp_12_readView_44 at h
              refine jg_aload_n (pc := 44) X d_12_readView_44 0 rfl ?_
              refine jg_iload_n (pc := 45) X d_12_readView_45 1 rfl ?_
              refine jg_callVi (pc := 46) X (m_12_readPart rv1 hw h) jM_12_readPart kw_1712 (jl_345_12 hn) rfl rfl rfl rfl rfl (Nat.le_of_ble_eq_true rfl) d_12_readView_46 ⟨(Nat.le_of_ble_eq_true rfl), (Nat.le_of_ble_eq_true rfl)⟩ ⟨(Nat.le_of_ble_eq_true rfl), (Nat.le_of_ble_eq_true rfl)⟩ (fun x7 C8 r9 w10 h => ?_)
              refine jg_if_ne (tgt := 54) (pc := 49) X d_12_readView_49 (by decide) r9 h (fun c11 h => ?_) (fun c11 h => ?_)
              · refine jg_iconst (pc := 52) X d_12_readView_52 ?_
                exact jg_ireturn (pc := 53) X hAe hlocks hr d_12_readView_53 ⟨(Nat.le_of_ble_eq_true rfl), (Nat.le_of_ble_eq_true rfl)⟩ rfl (⟨by decide, by decide⟩ : jRng 0) w10 h
              · refine jg_aload_n (pc := 54) X d_12_readView_54 0 rfl ?_
                refine jg_bipush (pc := 55) X d_12_readView_55 rfl ?_
                refine jg_callVi (pc := 57) X (m_12_sign (⟨by decide, by decide⟩ : jRng 59) w10 h) jM_12_sign kw_1622 (jl_345_12 hn) rfl rfl rfl rfl rfl (Nat.le_of_ble_eq_true rfl) d_12_readView_57 ⟨(Nat.le_of_ble_eq_true rfl), (Nat.le_of_ble_eq_true rfl)⟩ ⟨(Nat.le_of_ble_eq_true rfl), (Nat.le_of_ble_eq_true rfl)⟩ (fun x12 C13 r14 w15 h => ?_)
                refine jg_if_ne (tgt := 44) (pc := 60) X d_12_readView_60 (by decide) r14 h (fun c16 h => ?_) (fun c16 h => ?_)
                · refine jg_aload_n (pc := 63) X d_12_readView_63 0 rfl ?_
                  refine jgf_12_7 (pc := 64) X (jl_345_12 hn) kw_1480 d_12_readView_64 ?_
                  refine jg_aload_n (pc := 67) X d_12_readView_67 0 rfl ?_
                  refine jgf_12_8 (pc := 68) X (jl_345_12 hn) kw_1481 d_12_readView_68 ?_
                  refine jg_icmp_ne (tgt := 78) (pc := 71) X d_12_readView_71 (by decide) (w15.1 _ _) (w15.1 _ _) h (fun c17 h => ?_) (fun c17 h => ?_)
                  · have c17 : (C13 345 7) = (C13 345 8) := c17
                    refine jg_iconst (pc := 74) X d_12_readView_74 ?_
                    refine jg_goto (tgt := 79) (pc := 75) X d_12_readView_75 (by decide) ?_
                    exact jg_ireturn (pc := 79) X hAe hlocks hr d_12_readView_79 ⟨(Nat.le_of_ble_eq_true rfl), (Nat.le_of_ble_eq_true rfl)⟩ rfl (⟨by decide, by decide⟩ : jRng 1) w15 h
                  · have c17 : ¬ ((C13 345 7) = (C13 345 8)) := c17
                    refine jg_iconst (pc := 78) X d_12_readView_78 ?_
                    exact jg_ireturn (pc := 79) X hAe hlocks hr d_12_readView_79 ⟨(Nat.le_of_ble_eq_true rfl), (Nat.le_of_ble_eq_true rfl)⟩ rfl (⟨by decide, by decide⟩ : jRng 0) w15 h
                · refine jg_sub [0, 1] rfl ?_
                  exact ih44 _ w15 h
          obtain ⟨N, h⟩ := h
          refine jg_sub [0, 1] rfl ?_
          exact jl44   N _ w5 h
      · refine jg_aload_n (pc := 10) X d_12_readView_10 0 rfl ?_
        refine jgf_12_1 (pc := 11) X (jl_345_12 hn) kw_1474 d_12_readView_11 ?_
        refine jg_iload_n (pc := 14) X d_12_readView_14 1 rfl ?_
        refine jg_iload_n (pc := 15) X d_12_readView_15 2 rfl ?_
        refine jg_pcallSi (pc := 16) X (m_12_viewAt rv1 rv2 hw h) jM_12_viewAt kw_1668 rfl rfl (Nat.le_of_ble_eq_true rfl) d_12_readView_16 ⟨(Nat.le_of_ble_eq_true rfl), (Nat.le_of_ble_eq_true rfl)⟩ ⟨(Nat.le_of_ble_eq_true rfl), (Nat.le_of_ble_eq_true rfl)⟩ (fun x18 r20 h => ?_)
        refine jg_iconst (pc := 19) X d_12_readView_19 ?_
        obtain ⟨b22, b23, h⟩ := h
        refine jg_iastore (len := 8954) (pc := 20) X d_12_readView_20 (jl_346_9954 hn) (fun _ => rfl) (by decide) b22 b23 ?_
        have w24 := jWF.u (k := x18) (v := 0) hw (jl_346_9954 hn) (by decide) (⟨by decide, by decide⟩ : jRng 0)
        refine jg_iinc (pc := 21) X [(2, jI (v2 + 1)), (0, jr Z 345), (1, jI v1)] d_12_readView_21 2 rfl (by decide) rfl ?_
        refine jg_goto (tgt := 3) (pc := 24) X d_12_readView_24 (by decide) ?_
        have r25 : jRng (v2 + 1) := by (unfold jRng; exact ⟨by (have z0 : jRng v2 := rv2; unfold jRng at z0; omega), by (have z0 : jRng v2 := rv2; unfold jRng at z0; omega)⟩)
        refine jg_sub [1, 2, 0] rfl ?_
        exact ih3 _ _ r25 w24 h
  obtain ⟨N, h⟩ := h
  refine jg_sub [1, 2, 0] rfl ?_
  exact jl3   N _ _ (⟨by decide, by decide⟩ : jRng 25) hw0 h
set_option maxHeartbeats 4000000 in
set_option maxRecDepth 100000 in
theorem m_12_keyAt {l : Launch} {Z : jE} {n : Nat} {C : jC} {v1 : Int} {v2 : Int} {post : Int → Prop} (rv1 : jRng v1) (rv2 : jRng v2) (hw0 : jWF n C) (h : wp_12_keyAt v1 v2 C post) : jCi l y_12_keyAt prog_14_method_18_code 3 (.int) q_12_keyAt Z n C [jr Z 345, jI v1, jI v2] (fun x C9 => C9 = C ∧ post x) := by
  have hn := hw0.2.2.1
  unfold wp_12_keyAt at h
  refine jCi_of (lv0 := [(0, jr Z 345), (1, jI v1), (2, jI v2)]) (by decide) (Nat.le_of_ble_eq_true rfl) rfl ?_
  intro p e s m args below meth c A sz X hAe hr hlocks
  refine jg_aload_n (pc := 0) X d_12_keyAt_0 0 rfl ?_
  refine jgf_12_1 (pc := 1) X (jl_345_12 hn) kw_1474 d_12_keyAt_1 ?_
  refine jg_iload_n (pc := 4) X d_12_keyAt_4 1 rfl ?_
  refine jg_iconst (pc := 5) X d_12_keyAt_5 ?_
  refine jg_iadd (pc := 6) X d_12_keyAt_6 ?_
  refine jg_iload_n (pc := 7) X d_12_keyAt_7 2 rfl ?_
  refine jg_iadd (pc := 8) X d_12_keyAt_8 ?_
  obtain ⟨b1, b2, h⟩ := h
  refine jg_iaload (len := 8954) (pc := 9) X d_12_keyAt_9 (jl_346_9954 hn) (fun _ => rfl) (by decide) b1 b2 ?_
  exact jg_ireturn (pc := 10) X hAe hlocks hr d_12_keyAt_10 ⟨(Nat.le_of_ble_eq_true rfl), (Nat.le_of_ble_eq_true rfl)⟩ rfl (hw0.1 _ _) hw0 ⟨rfl, h⟩
set_option maxHeartbeats 4000000 in
set_option maxRecDepth 100000 in
theorem m_12_bySort {l : Launch} {Z : jE} {n : Nat} {C : jC} {v1 : Int} {v2 : Int} {v3 : Int} {post : Int → Prop} (rv1 : jRng v1) (rv2 : jRng v2) (rv3 : jRng v3) (hw0 : jWF n C) (h : wp_12_bySort v1 v2 v3 C post) : jCi l y_12_bySort prog_14_method_63_code 6 (.int) q_12_bySort Z n C [jr Z 345, jI v1, jI v2, jI v3] (fun x C9 => C9 = C ∧ post x) := by
  have hn := hw0.2.2.1
  unfold wp_12_bySort at h
  refine jCi_of (lv0 := [(0, jr Z 345), (1, jI v1), (2, jI v2), (3, jI v3)]) (by decide) (Nat.le_of_ble_eq_true rfl) rfl ?_
  intro p e s m args below meth c A sz X hAe hr hlocks
  have jb68 : ∀ (s0 : Int) (v1 : Int) (rs0 : jRng s0) (rv1 : jRng v1), wp_12_bySort_68 s0 v1 C post → jG p l e q_12_bySort s m args below meth c 6 Z A (jws Z n C) 0 0 (MQ below (jQi Z n sz (fun x C9 => C9 = C ∧ post x)) args s q_12_bySort.cells q_12_bySort.slots (jA Z n sz)) 68 [(1, jI v1)] [jI s0] := by
    intro s0 v1 rs0 rv1 h
    unfold wp_12_bySort_68 at h
    refine jg_iload_n (pc := 68) X d_12_bySort_68 0 rfl ?_
    refine jg_iconst (pc := 69) X d_12_bySort_69 ?_
    have r1 : jRng (v1.tmod 2) := jrng_tmod rv1 (by decide) (by decide)
    refine jg_irem (pc := 70) X d_12_bySort_70 rv1 (by decide) (by decide) ?_
    refine jg_if_ne (tgt := 78) (pc := 71) X d_12_bySort_71 (by decide) r1 h (fun c2 h => ?_) (fun c2 h => ?_)
    · refine jg_iconst (pc := 74) X d_12_bySort_74 ?_
      refine jg_goto (tgt := 79) (pc := 75) X d_12_bySort_75 (by decide) ?_
      refine jg_icmp_ne (tgt := 86) (pc := 79) X d_12_bySort_79 (by decide) rs0 (⟨by decide, by decide⟩ : jRng 1) h (fun c3 h => ?_) (fun c3 h => ?_)
      · refine jg_iconst (pc := 82) X d_12_bySort_82 ?_
        refine jg_goto (tgt := 87) (pc := 83) X d_12_bySort_83 (by decide) ?_
        exact jg_ireturn (pc := 87) X hAe hlocks hr d_12_bySort_87 ⟨(Nat.le_of_ble_eq_true rfl), (Nat.le_of_ble_eq_true rfl)⟩ rfl (⟨by decide, by decide⟩ : jRng 1) hw0 ⟨rfl, h⟩
      · refine jg_iconst (pc := 86) X d_12_bySort_86 ?_
        exact jg_ireturn (pc := 87) X hAe hlocks hr d_12_bySort_87 ⟨(Nat.le_of_ble_eq_true rfl), (Nat.le_of_ble_eq_true rfl)⟩ rfl (⟨by decide, by decide⟩ : jRng (-1)) hw0 ⟨rfl, h⟩
    · refine jg_iconst (pc := 78) X d_12_bySort_78 ?_
      refine jg_icmp_ne (tgt := 86) (pc := 79) X d_12_bySort_79 (by decide) rs0 (⟨by decide, by decide⟩ : jRng 0) h (fun c4 h => ?_) (fun c4 h => ?_)
      · refine jg_iconst (pc := 82) X d_12_bySort_82 ?_
        refine jg_goto (tgt := 87) (pc := 83) X d_12_bySort_83 (by decide) ?_
        exact jg_ireturn (pc := 87) X hAe hlocks hr d_12_bySort_87 ⟨(Nat.le_of_ble_eq_true rfl), (Nat.le_of_ble_eq_true rfl)⟩ rfl (⟨by decide, by decide⟩ : jRng 1) hw0 ⟨rfl, h⟩
      · refine jg_iconst (pc := 86) X d_12_bySort_86 ?_
        exact jg_ireturn (pc := 87) X hAe hlocks hr d_12_bySort_87 ⟨(Nat.le_of_ble_eq_true rfl), (Nat.le_of_ble_eq_true rfl)⟩ rfl (⟨by decide, by decide⟩ : jRng (-1)) hw0 ⟨rfl, h⟩
  refine jg_aload_n (pc := 0) X d_12_bySort_0 0 rfl ?_
  refine jg_iload_n (pc := 1) X d_12_bySort_1 2 rfl ?_
  refine jg_iload_n (pc := 2) X d_12_bySort_2 1 rfl ?_
  refine jg_iconst (pc := 3) X d_12_bySort_3 ?_
  have r5 : jRng (v1.tdiv 2) := jrng_tdiv rv1 (by decide) (by decide)
  refine jg_idiv (pc := 4) X d_12_bySort_4 rv1 (by decide) (by decide) ?_
  refine jg_pcallVi (pc := 5) X (m_12_cellOf rv2 r5 hw0 h) jM_12_cellOf kw_1671 (jl_345_12 hn) rfl rfl rfl rfl rfl (Nat.le_of_ble_eq_true rfl) d_12_bySort_5 ⟨(Nat.le_of_ble_eq_true rfl), (Nat.le_of_ble_eq_true rfl)⟩ ⟨(Nat.le_of_ble_eq_true rfl), (Nat.le_of_ble_eq_true rfl)⟩ (fun x6 r8 h => ?_)
  refine jg_istore (pc := 8) X [(4, jI x6), (0, jr Z 345), (1, jI v1), (2, jI v2), (3, jI v3)] d_12_bySort_8 (by decide) rfl ?_
  refine jg_aload_n (pc := 10) X d_12_bySort_10 1 rfl ?_
  refine jg_iload_n (pc := 11) X d_12_bySort_11 4 rfl ?_
  refine jg_iload_n (pc := 12) X d_12_bySort_12 2 rfl ?_
  refine jg_iconst (pc := 13) X d_12_bySort_13 ?_
  have r10 : jRng (v1.tdiv 2) := jrng_tdiv rv1 (by decide) (by decide)
  refine jg_idiv (pc := 14) X d_12_bySort_14 rv1 (by decide) (by decide) ?_
  refine jg_pcallVi (pc := 15) X (m_12_cellOf rv3 r10 hw0 h) jM_12_cellOf kw_1671 (jl_345_12 hn) rfl rfl rfl rfl rfl (Nat.le_of_ble_eq_true rfl) d_12_bySort_15 ⟨(Nat.le_of_ble_eq_true rfl), (Nat.le_of_ble_eq_true rfl)⟩ ⟨(Nat.le_of_ble_eq_true rfl), (Nat.le_of_ble_eq_true rfl)⟩ (fun x11 r13 h => ?_)
  refine jg_istore (pc := 18) X [(5, jI x11), (4, jI x6), (0, jr Z 345), (1, jI v1), (2, jI v2), (3, jI v3)] d_12_bySort_18 (by decide) rfl ?_
  refine jg_iload (pc := 20) X d_12_bySort_20 1 rfl ?_
  refine jg_iload (pc := 22) X d_12_bySort_22 0 rfl ?_
  refine jg_icmp_ne (tgt := 29) (pc := 24) X d_12_bySort_24 (by decide) r8 r13 h (fun c15 h => ?_) (fun c15 h => ?_)
  · refine jg_iconst (pc := 27) X d_12_bySort_27 ?_
    exact jg_ireturn (pc := 28) X hAe hlocks hr d_12_bySort_28 ⟨(Nat.le_of_ble_eq_true rfl), (Nat.le_of_ble_eq_true rfl)⟩ rfl (⟨by decide, by decide⟩ : jRng 0) hw0 ⟨rfl, h⟩
  · refine jg_iload (pc := 29) X d_12_bySort_29 1 rfl ?_
    refine jg_ldk (pc := 31) (-1000000) X kw_1617 (by decide) d_12_bySort_31 ?_
    refine jg_icmp_eq (tgt := 43) (pc := 33) X d_12_bySort_33 (by decide) r8 (⟨by decide, by decide⟩ : jRng (-1000000)) h (fun c16 h => ?_) (fun c16 h => ?_)
    · refine jg_iload (pc := 43) X d_12_bySort_43 1 rfl ?_
      refine jg_ldk (pc := 45) (-1000000) X kw_1617 (by decide) d_12_bySort_45 ?_
      refine jg_icmp_ne (tgt := 54) (pc := 47) X d_12_bySort_47 (by decide) r8 (⟨by decide, by decide⟩ : jRng (-1000000)) h (fun c17 h => ?_) (fun c17 h => ?_)
      · refine jg_iconst (pc := 50) X d_12_bySort_50 ?_
        refine jg_goto (tgt := 55) (pc := 51) X d_12_bySort_51 (by decide) ?_
        exact jg_ireturn (pc := 55) X hAe hlocks hr d_12_bySort_55 ⟨(Nat.le_of_ble_eq_true rfl), (Nat.le_of_ble_eq_true rfl)⟩ rfl (⟨by decide, by decide⟩ : jRng 1) hw0 ⟨rfl, h⟩
      · refine jg_iconst (pc := 54) X d_12_bySort_54 ?_
        exact jg_ireturn (pc := 55) X hAe hlocks hr d_12_bySort_55 ⟨(Nat.le_of_ble_eq_true rfl), (Nat.le_of_ble_eq_true rfl)⟩ rfl (⟨by decide, by decide⟩ : jRng (-1)) hw0 ⟨rfl, h⟩
    · refine jg_iload (pc := 36) X d_12_bySort_36 0 rfl ?_
      refine jg_ldk (pc := 38) (-1000000) X kw_1617 (by decide) d_12_bySort_38 ?_
      refine jg_icmp_ne (tgt := 56) (pc := 40) X d_12_bySort_40 (by decide) r13 (⟨by decide, by decide⟩ : jRng (-1000000)) h (fun c18 h => ?_) (fun c18 h => ?_)
      · refine jg_iload (pc := 43) X d_12_bySort_43 1 rfl ?_
        refine jg_ldk (pc := 45) (-1000000) X kw_1617 (by decide) d_12_bySort_45 ?_
        refine jg_icmp_ne (tgt := 54) (pc := 47) X d_12_bySort_47 (by decide) r8 (⟨by decide, by decide⟩ : jRng (-1000000)) h (fun c19 h => ?_) (fun c19 h => ?_)
        · refine jg_iconst (pc := 50) X d_12_bySort_50 ?_
          refine jg_goto (tgt := 55) (pc := 51) X d_12_bySort_51 (by decide) ?_
          exact jg_ireturn (pc := 55) X hAe hlocks hr d_12_bySort_55 ⟨(Nat.le_of_ble_eq_true rfl), (Nat.le_of_ble_eq_true rfl)⟩ rfl (⟨by decide, by decide⟩ : jRng 1) hw0 ⟨rfl, h⟩
        · refine jg_iconst (pc := 54) X d_12_bySort_54 ?_
          exact jg_ireturn (pc := 55) X hAe hlocks hr d_12_bySort_55 ⟨(Nat.le_of_ble_eq_true rfl), (Nat.le_of_ble_eq_true rfl)⟩ rfl (⟨by decide, by decide⟩ : jRng (-1)) hw0 ⟨rfl, h⟩
      · refine jg_iload (pc := 56) X d_12_bySort_56 1 rfl ?_
        refine jg_iload (pc := 58) X d_12_bySort_58 0 rfl ?_
        refine jg_icmp_le (tgt := 67) (pc := 60) X d_12_bySort_60 (by decide) r8 r13 h (fun c20 h => ?_) (fun c20 h => ?_)
        · refine jg_iconst (pc := 67) X d_12_bySort_67 ?_
          refine jg_sub [3] rfl ?_
          exact jb68 _ _ (⟨by decide, by decide⟩ : jRng 0) rv1 h
        · refine jg_iconst (pc := 63) X d_12_bySort_63 ?_
          refine jg_goto (tgt := 68) (pc := 64) X d_12_bySort_64 (by decide) ?_
          refine jg_sub [3] rfl ?_
          exact jb68 _ _ (⟨by decide, by decide⟩ : jRng 1) rv1 h
set_option maxHeartbeats 4000000 in
set_option maxRecDepth 100000 in
theorem m_12_placeIn {l : Launch} {Z : jE} {n : Nat} {C : jC} {v1 : Int} {v2 : Int} {post : Int → Prop} (rv1 : jRng v1) (rv2 : jRng v2) (hw0 : jWF n C) (h : wp_12_placeIn v1 v2 C post) : jCi l y_12_placeIn prog_14_method_19_code 4 (.int) q_12_placeIn Z n C [jr Z 345, jI v1, jI v2] (fun x C9 => C9 = C ∧ post x) := by
  have hn := hw0.2.2.1
  unfold wp_12_placeIn at h
  refine jCi_of (lv0 := [(0, jr Z 345), (1, jI v1), (2, jI v2)]) (by decide) (Nat.le_of_ble_eq_true rfl) rfl ?_
  intro p e s m args below meth c A sz X hAe hr hlocks
  refine jg_iconst (pc := 0) X d_12_placeIn_0 ?_
  refine jg_istore_n (pc := 1) X [(3, jI 0), (0, jr Z 345), (1, jI v1), (2, jI v2)] d_12_placeIn_1 (by decide) rfl ?_
  have hw : jWF n C := hw0
  have jl2 : ∀  (N : Nat) (v3 : Int) (rv3 : jRng v3), jI1 (wp_12_placeIn_2 v1 v2 C post) N v3 → jG p l e q_12_placeIn s m args below meth c 4 Z A (jws Z n C) 0 0 (MQ below (jQi Z n sz (fun x C9 => C9 = C ∧ post x)) args s q_12_placeIn.cells q_12_placeIn.slots (jA Z n sz)) 2 [(0, jr Z 345), (1, jI v1), (2, jI v2), (3, jI v3)] [] := by
    intro   N
    have hn := hw0.2.2.1
    induction N with
    | zero => intro v3 rv3 h; exact h.elim
    | succ N ih2 =>
      intro v3 rv3 h
      have h : wp_12_placeIn_2 v1 v2 C post (jI1 (wp_12_placeIn_2 v1 v2 C post) N) v3 := h
      generalize jI1 (wp_12_placeIn_2 v1 v2 C post) N = k2 at h ih2
      unfold wp_12_placeIn_2 at h
      refine jg_iload_n (pc := 2) X d_12_placeIn_2 3 rfl ?_
      refine jg_aload_n (pc := 3) X d_12_placeIn_3 0 rfl ?_
      refine jg_iload_n (pc := 4) X d_12_placeIn_4 1 rfl ?_
      refine jg_pcallVi (pc := 5) X (m_12_size rv1 hw h) jM_12_size kw_1609 (jl_345_12 hn) rfl rfl rfl rfl rfl (Nat.le_of_ble_eq_true rfl) d_12_placeIn_5 ⟨(Nat.le_of_ble_eq_true rfl), (Nat.le_of_ble_eq_true rfl)⟩ ⟨(Nat.le_of_ble_eq_true rfl), (Nat.le_of_ble_eq_true rfl)⟩ (fun x1 r3 h => ?_)
      refine jg_icmp_ge (tgt := 27) (pc := 8) X d_12_placeIn_8 (by decide) rv3 r3 h (fun c5 h => ?_) (fun c5 h => ?_)
      · refine jg_iload_n (pc := 27) X d_12_placeIn_27 3 rfl ?_
        refine jg_aload_n (pc := 28) X d_12_placeIn_28 0 rfl ?_
        refine jg_iload_n (pc := 29) X d_12_placeIn_29 1 rfl ?_
        refine jg_pcallVi (pc := 30) X (m_12_size rv1 hw h) jM_12_size kw_1609 (jl_345_12 hn) rfl rfl rfl rfl rfl (Nat.le_of_ble_eq_true rfl) d_12_placeIn_30 ⟨(Nat.le_of_ble_eq_true rfl), (Nat.le_of_ble_eq_true rfl)⟩ ⟨(Nat.le_of_ble_eq_true rfl), (Nat.le_of_ble_eq_true rfl)⟩ (fun x6 r8 h => ?_)
        refine jg_icmp_ge (tgt := 40) (pc := 33) X d_12_placeIn_33 (by decide) rv3 r8 h (fun c10 h => ?_) (fun c10 h => ?_)
        · refine jg_iconst (pc := 40) X d_12_placeIn_40 ?_
          exact jg_ireturn (pc := 41) X hAe hlocks hr d_12_placeIn_41 ⟨(Nat.le_of_ble_eq_true rfl), (Nat.le_of_ble_eq_true rfl)⟩ rfl (⟨by decide, by decide⟩ : jRng (-1)) hw ⟨rfl, h⟩
        · refine jg_iload_n (pc := 36) X d_12_placeIn_36 3 rfl ?_
          refine jg_goto (tgt := 41) (pc := 37) X d_12_placeIn_37 (by decide) ?_
          exact jg_ireturn (pc := 41) X hAe hlocks hr d_12_placeIn_41 ⟨(Nat.le_of_ble_eq_true rfl), (Nat.le_of_ble_eq_true rfl)⟩ rfl rv3 hw ⟨rfl, h⟩
      · refine jg_aload_n (pc := 11) X d_12_placeIn_11 0 rfl ?_
        refine jg_iload_n (pc := 12) X d_12_placeIn_12 1 rfl ?_
        refine jg_iload_n (pc := 13) X d_12_placeIn_13 3 rfl ?_
        refine jg_pcallVi (pc := 14) X (m_12_keyAt rv1 rv3 hw h) jM_12_keyAt kw_1766 (jl_345_12 hn) rfl rfl rfl rfl rfl (Nat.le_of_ble_eq_true rfl) d_12_placeIn_14 ⟨(Nat.le_of_ble_eq_true rfl), (Nat.le_of_ble_eq_true rfl)⟩ ⟨(Nat.le_of_ble_eq_true rfl), (Nat.le_of_ble_eq_true rfl)⟩ (fun x11 r13 h => ?_)
        refine jg_iload_n (pc := 17) X d_12_placeIn_17 2 rfl ?_
        refine jg_icmp_eq (tgt := 27) (pc := 18) X d_12_placeIn_18 (by decide) r13 rv2 h (fun c15 h => ?_) (fun c15 h => ?_)
        · refine jg_iload_n (pc := 27) X d_12_placeIn_27 3 rfl ?_
          refine jg_aload_n (pc := 28) X d_12_placeIn_28 0 rfl ?_
          refine jg_iload_n (pc := 29) X d_12_placeIn_29 1 rfl ?_
          refine jg_pcallVi (pc := 30) X (m_12_size rv1 hw h) jM_12_size kw_1609 (jl_345_12 hn) rfl rfl rfl rfl rfl (Nat.le_of_ble_eq_true rfl) d_12_placeIn_30 ⟨(Nat.le_of_ble_eq_true rfl), (Nat.le_of_ble_eq_true rfl)⟩ ⟨(Nat.le_of_ble_eq_true rfl), (Nat.le_of_ble_eq_true rfl)⟩ (fun x16 r18 h => ?_)
          refine jg_icmp_ge (tgt := 40) (pc := 33) X d_12_placeIn_33 (by decide) rv3 r18 h (fun c20 h => ?_) (fun c20 h => ?_)
          · refine jg_iconst (pc := 40) X d_12_placeIn_40 ?_
            exact jg_ireturn (pc := 41) X hAe hlocks hr d_12_placeIn_41 ⟨(Nat.le_of_ble_eq_true rfl), (Nat.le_of_ble_eq_true rfl)⟩ rfl (⟨by decide, by decide⟩ : jRng (-1)) hw ⟨rfl, h⟩
          · refine jg_iload_n (pc := 36) X d_12_placeIn_36 3 rfl ?_
            refine jg_goto (tgt := 41) (pc := 37) X d_12_placeIn_37 (by decide) ?_
            exact jg_ireturn (pc := 41) X hAe hlocks hr d_12_placeIn_41 ⟨(Nat.le_of_ble_eq_true rfl), (Nat.le_of_ble_eq_true rfl)⟩ rfl rv3 hw ⟨rfl, h⟩
        · refine jg_iinc (pc := 21) X [(3, jI (v3 + 1)), (0, jr Z 345), (1, jI v1), (2, jI v2)] d_12_placeIn_21 3 rfl (by decide) rfl ?_
          refine jg_goto (tgt := 2) (pc := 24) X d_12_placeIn_24 (by decide) ?_
          have r21 : jRng (v3 + 1) := by (unfold jRng; exact ⟨by (have z0 : jRng v3 := rv3; have z1 : jRng x1 := r3; unfold jRng at z0 z1; omega), by (have z0 : jRng v3 := rv3; have z1 : jRng x1 := r3; unfold jRng at z0 z1; omega)⟩)
          refine jg_sub [1, 2, 3, 0] rfl ?_
          exact ih2 _ r21 h
  obtain ⟨N, h⟩ := h
  refine jg_sub [1, 2, 3, 0] rfl ?_
  exact jl2   N _ (⟨by decide, by decide⟩ : jRng 0) h
set_option maxHeartbeats 4000000 in
set_option maxRecDepth 100000 in
theorem m_12_bySorts {l : Launch} {Z : jE} {n : Nat} {C : jC} {v1 : Int} {v2 : Int} {v3 : Int} {v4 : Int} {post : Int → Prop} (rv1 : jRng v1) (rv2 : jRng v2) (rv3 : jRng v3) (rv4 : jRng v4) (hw0 : jWF n C) (h : wp_12_bySorts v1 v2 v3 v4 C post) : jCi l y_12_bySorts prog_14_method_64_code 7 (.int) q_12_bySorts Z n C [jr Z 345, jI v1, jI v2, jI v3, jI v4] (fun x C9 => C9 = C ∧ post x) := by
  have hn := hw0.2.2.1
  unfold wp_12_bySorts at h
  refine jCi_of (lv0 := [(0, jr Z 345), (1, jI v1), (2, jI v2), (3, jI v3), (4, jI v4)]) (by decide) (Nat.le_of_ble_eq_true rfl) rfl ?_
  intro p e s m args below meth c A sz X hAe hr hlocks
  have jb41 : ∀ (v3 : Int) (v4 : Int) (v5 : Int) (rv3 : jRng v3) (rv4 : jRng v4) (rv5 : jRng v5), wp_12_bySorts_41 v3 v4 v5 C post → jG p l e q_12_bySorts s m args below meth c 7 Z A (jws Z n C) 0 0 (MQ below (jQi Z n sz (fun x C9 => C9 = C ∧ post x)) args s q_12_bySorts.cells q_12_bySorts.slots (jA Z n sz)) 41 [(0, jr Z 345), (3, jI v3), (4, jI v4), (5, jI v5)] [] := by
    intro v3 v4 v5 rv3 rv4 rv5 h
    unfold wp_12_bySorts_41 at h
    refine jg_iload (pc := 41) X d_12_bySorts_41 3 rfl ?_
    refine jg_if_eq (tgt := 51) (pc := 43) X d_12_bySorts_43 (by decide) rv5 h (fun c1 h => ?_) (fun c1 h => ?_)
    · refine jg_aload_n (pc := 51) X d_12_bySorts_51 0 rfl ?_
      refine jg_sipush (pc := 52) X d_12_bySorts_52 rfl ?_
      refine jg_iload_n (pc := 55) X d_12_bySorts_55 1 rfl ?_
      refine jg_pcallVi (pc := 56) X (m_12_placeIn (⟨by decide, by decide⟩ : jRng 273) rv3 hw0 h) jM_12_placeIn kw_1778 (jl_345_12 hn) rfl rfl rfl rfl rfl (Nat.le_of_ble_eq_true rfl) d_12_bySorts_56 ⟨(Nat.le_of_ble_eq_true rfl), (Nat.le_of_ble_eq_true rfl)⟩ ⟨(Nat.le_of_ble_eq_true rfl), (Nat.le_of_ble_eq_true rfl)⟩ (fun x2 r4 h => ?_)
      refine jg_aload_n (pc := 59) X d_12_bySorts_59 0 rfl ?_
      refine jg_sipush (pc := 60) X d_12_bySorts_60 rfl ?_
      refine jg_iload (pc := 63) X d_12_bySorts_63 2 rfl ?_
      refine jg_pcallVi (pc := 65) X (m_12_placeIn (⟨by decide, by decide⟩ : jRng 273) rv4 hw0 h) jM_12_placeIn kw_1778 (jl_345_12 hn) rfl rfl rfl rfl rfl (Nat.le_of_ble_eq_true rfl) d_12_bySorts_65 ⟨(Nat.le_of_ble_eq_true rfl), (Nat.le_of_ble_eq_true rfl)⟩ ⟨(Nat.le_of_ble_eq_true rfl), (Nat.le_of_ble_eq_true rfl)⟩ (fun x6 r8 h => ?_)
      refine jg_icmp_le (tgt := 75) (pc := 68) X d_12_bySorts_68 (by decide) r4 r8 h (fun c10 h => ?_) (fun c10 h => ?_)
      · refine jg_iconst (pc := 75) X d_12_bySorts_75 ?_
        exact jg_ireturn (pc := 76) X hAe hlocks hr d_12_bySorts_76 ⟨(Nat.le_of_ble_eq_true rfl), (Nat.le_of_ble_eq_true rfl)⟩ rfl (⟨by decide, by decide⟩ : jRng (-1)) hw0 ⟨rfl, h⟩
      · refine jg_iconst (pc := 71) X d_12_bySorts_71 ?_
        refine jg_goto (tgt := 76) (pc := 72) X d_12_bySorts_72 (by decide) ?_
        exact jg_ireturn (pc := 76) X hAe hlocks hr d_12_bySorts_76 ⟨(Nat.le_of_ble_eq_true rfl), (Nat.le_of_ble_eq_true rfl)⟩ rfl (⟨by decide, by decide⟩ : jRng 1) hw0 ⟨rfl, h⟩
    · refine jg_iload (pc := 46) X d_12_bySorts_46 3 rfl ?_
      refine jg_goto (tgt := 76) (pc := 48) X d_12_bySorts_48 (by decide) ?_
      exact jg_ireturn (pc := 76) X hAe hlocks hr d_12_bySorts_76 ⟨(Nat.le_of_ble_eq_true rfl), (Nat.le_of_ble_eq_true rfl)⟩ rfl rv5 hw0 ⟨rfl, h⟩
  refine jg_iconst (pc := 0) X d_12_bySorts_0 ?_
  refine jg_istore (pc := 1) X [(5, jI 0), (0, jr Z 345), (1, jI v1), (2, jI v2), (3, jI v3), (4, jI v4)] d_12_bySorts_1 (by decide) rfl ?_
  refine jg_iconst (pc := 3) X d_12_bySorts_3 ?_
  refine jg_istore (pc := 4) X [(6, jI 0), (5, jI 0), (0, jr Z 345), (1, jI v1), (2, jI v2), (3, jI v3), (4, jI v4)] d_12_bySorts_4 (by decide) rfl ?_
  have hw : jWF n C := hw0
  have jl6 : ∀  (N : Nat) (v5 : Int) (v6 : Int) (rv5 : jRng v5) (rv6 : jRng v6), jI2 (wp_12_bySorts_6 v1 v2 v3 v4 C post) N v5 v6 → jG p l e q_12_bySorts s m args below meth c 7 Z A (jws Z n C) 0 0 (MQ below (jQi Z n sz (fun x C9 => C9 = C ∧ post x)) args s q_12_bySorts.cells q_12_bySorts.slots (jA Z n sz)) 6 [(0, jr Z 345), (1, jI v1), (2, jI v2), (3, jI v3), (4, jI v4), (5, jI v5), (6, jI v6)] [] := by
    intro   N
    have hn := hw0.2.2.1
    induction N with
    | zero => intro v5 v6 rv5 rv6 h; exact h.elim
    | succ N ih6 =>
      intro v5 v6 rv5 rv6 h
      have h : wp_12_bySorts_6 v1 v2 v3 v4 C post (jI2 (wp_12_bySorts_6 v1 v2 v3 v4 C post) N) v5 v6 := h
      generalize jI2 (wp_12_bySorts_6 v1 v2 v3 v4 C post) N = k6 at h ih6
      unfold wp_12_bySorts_6 at h
      refine jg_iload (pc := 6) X d_12_bySorts_6 6 rfl ?_
      refine jg_iload_n (pc := 8) X d_12_bySorts_8 2 rfl ?_
      refine jg_icmp_ge (tgt := 41) (pc := 9) X d_12_bySorts_9 (by decide) rv6 rv2 h (fun c11 h => ?_) (fun c11 h => ?_)
      · refine jg_sub [0, 3, 4, 5] rfl ?_
        exact jb41 _ _ _ rv3 rv4 rv5 h
      · refine jg_iload (pc := 12) X d_12_bySorts_12 5 rfl ?_
        refine jg_if_ne (tgt := 41) (pc := 14) X d_12_bySorts_14 (by decide) rv5 h (fun c12 h => ?_) (fun c12 h => ?_)
        · refine jg_aload_n (pc := 17) X d_12_bySorts_17 0 rfl ?_
          refine jg_aload_n (pc := 18) X d_12_bySorts_18 0 rfl ?_
          refine jgf_12_1 (pc := 19) X (jl_345_12 hn) kw_1474 d_12_bySorts_19 ?_
          refine jg_iload_n (pc := 22) X d_12_bySorts_22 1 rfl ?_
          refine jg_iload (pc := 23) X d_12_bySorts_23 6 rfl ?_
          refine jg_iadd (pc := 25) X d_12_bySorts_25 ?_
          obtain ⟨b13, b14, h⟩ := h
          refine jg_iaload (len := 8954) (pc := 26) X d_12_bySorts_26 (jl_346_9954 hn) (fun _ => rfl) (by decide) b13 b14 ?_
          refine jg_iload_n (pc := 27) X d_12_bySorts_27 3 rfl ?_
          refine jg_iload (pc := 28) X d_12_bySorts_28 4 rfl ?_
          refine jg_pcallVi (pc := 30) X (m_12_bySort (hw.1 _ _) rv3 rv4 hw h) jM_12_bySort kw_1774 (jl_345_12 hn) rfl rfl rfl rfl rfl (Nat.le_of_ble_eq_true rfl) d_12_bySorts_30 ⟨(Nat.le_of_ble_eq_true rfl), (Nat.le_of_ble_eq_true rfl)⟩ ⟨(Nat.le_of_ble_eq_true rfl), (Nat.le_of_ble_eq_true rfl)⟩ (fun x15 r17 h => ?_)
          refine jg_istore (pc := 33) X [(5, jI x15), (0, jr Z 345), (1, jI v1), (2, jI v2), (3, jI v3), (4, jI v4), (6, jI v6)] d_12_bySorts_33 (by decide) rfl ?_
          refine jg_iinc (pc := 35) X [(6, jI (v6 + 1)), (5, jI x15), (0, jr Z 345), (1, jI v1), (2, jI v2), (3, jI v3), (4, jI v4)] d_12_bySorts_35 6 rfl (by decide) rfl ?_
          refine jg_goto (tgt := 6) (pc := 38) X d_12_bySorts_38 (by decide) ?_
          have r19 : jRng (v6 + 1) := by (unfold jRng; exact ⟨by (have z0 : jRng v6 := rv6; have z1 : jRng v2 := rv2; unfold jRng at z0 z1; omega), by (have z0 : jRng v6 := rv6; have z1 : jRng v2 := rv2; unfold jRng at z0 z1; omega)⟩)
          refine jg_sub [2, 3, 4, 5, 6, 1, 0] rfl ?_
          exact ih6 _ _ r17 r19 h
        · refine jg_sub [0, 3, 4, 5] rfl ?_
          exact jb41 _ _ _ rv3 rv4 rv5 h
  obtain ⟨N, h⟩ := h
  refine jg_sub [2, 3, 4, 5, 6, 1, 0] rfl ?_
  exact jl6   N _ _ (⟨by decide, by decide⟩ : jRng 0) (⟨by decide, by decide⟩ : jRng 0) h
set_option maxHeartbeats 4000000 in
set_option maxRecDepth 100000 in
theorem m_12_laysFresh {l : Launch} {Z : jE} {n : Nat} {C : jC} {v1 : Int} {post : Int → jC → Prop} (rv1 : jRng v1) (hw0 : jWF n C) (h : wp_12_laysFresh v1 C post) : jCi l y_12_laysFresh prog_14_method_65_code 6 (.int) q_12_laysFresh Z n C [jr Z 345, jI v1] post := by
  have hn := hw0.2.2.1
  unfold wp_12_laysFresh at h
  refine jCi_of (lv0 := [(0, jr Z 345), (1, jI v1)]) (by decide) (Nat.le_of_ble_eq_true rfl) rfl ?_
  intro p e s m args below meth c A sz X hAe hr hlocks
  refine jg_iconst (pc := 0) X d_12_laysFresh_0 ?_
  refine jg_istore_n (pc := 1) X [(2, jI 0), (0, jr Z 345), (1, jI v1)] d_12_laysFresh_1 (by decide) rfl ?_
  refine jg_iconst (pc := 2) X d_12_laysFresh_2 ?_
  refine jg_istore_n (pc := 3) X [(3, jI 0), (2, jI 0), (0, jr Z 345), (1, jI v1)] d_12_laysFresh_3 (by decide) rfl ?_
  have jl4 : ∀  (N : Nat) (v2 : Int) (v3 : Int) (C : jC) (rv2 : jRng v2) (rv3 : jRng v3) (hw : jWF n C), jI3 (wp_12_laysFresh_4 v1 post) N v2 v3 C → jG p l e q_12_laysFresh s m args below meth c 6 Z A (jws Z n C) 0 0 (MQ below (jQi Z n sz post) args s q_12_laysFresh.cells q_12_laysFresh.slots (jA Z n sz)) 4 [(0, jr Z 345), (1, jI v1), (2, jI v2), (3, jI v3)] [] := by
    intro   N
    have hn := hw0.2.2.1
    induction N with
    | zero => intro v2 v3 C rv2 rv3 hw h; exact h.elim
    | succ N ih4 =>
      intro v2 v3 C rv2 rv3 hw h
      have h : wp_12_laysFresh_4 v1 post (jI3 (wp_12_laysFresh_4 v1 post) N) v2 v3 C := h
      generalize jI3 (wp_12_laysFresh_4 v1 post) N = k4 at h ih4
      unfold wp_12_laysFresh_4 at h
      refine jg_iload_n (pc := 4) X d_12_laysFresh_4 3 rfl ?_
      refine jg_aload_n (pc := 5) X d_12_laysFresh_5 0 rfl ?_
      refine jg_pcallVi (pc := 6) X (m_12_rows hw h) jM_12_rows kw_1605 (jl_345_12 hn) rfl rfl rfl rfl rfl (Nat.le_of_ble_eq_true rfl) d_12_laysFresh_6 ⟨(Nat.le_of_ble_eq_true rfl), (Nat.le_of_ble_eq_true rfl)⟩ ⟨(Nat.le_of_ble_eq_true rfl), (Nat.le_of_ble_eq_true rfl)⟩ (fun x1 r3 h => ?_)
      refine jg_icmp_ge (tgt := 118) (pc := 9) X d_12_laysFresh_9 (by decide) rv3 r3 h (fun c5 h => ?_) (fun c5 h => ?_)
      · refine jg_iload_n (pc := 118) X d_12_laysFresh_118 2 rfl ?_
        exact jg_ireturn (pc := 119) X hAe hlocks hr d_12_laysFresh_119 ⟨(Nat.le_of_ble_eq_true rfl), (Nat.le_of_ble_eq_true rfl)⟩ rfl rv2 hw h
      · refine jg_aload_n (pc := 12) X d_12_laysFresh_12 0 rfl ?_
        refine jg_sipush (pc := 13) X d_12_laysFresh_13 rfl ?_
        refine jg_iload_n (pc := 16) X d_12_laysFresh_16 3 rfl ?_
        refine jg_pcallVi (pc := 17) X (m_12_keyAt (⟨by decide, by decide⟩ : jRng 273) rv3 hw h) jM_12_keyAt kw_1766 (jl_345_12 hn) rfl rfl rfl rfl rfl (Nat.le_of_ble_eq_true rfl) d_12_laysFresh_17 ⟨(Nat.le_of_ble_eq_true rfl), (Nat.le_of_ble_eq_true rfl)⟩ ⟨(Nat.le_of_ble_eq_true rfl), (Nat.le_of_ble_eq_true rfl)⟩ (fun x6 r8 h => ?_)
        refine jg_istore (pc := 20) X [(4, jI x6), (0, jr Z 345), (1, jI v1), (2, jI v2), (3, jI v3)] d_12_laysFresh_20 (by decide) rfl ?_
        refine jg_aload_n (pc := 22) X d_12_laysFresh_22 1 rfl ?_
        refine jg_iload_n (pc := 23) X d_12_laysFresh_23 2 rfl ?_
        refine jg_iload (pc := 24) X d_12_laysFresh_24 0 rfl ?_
        refine jg_pcallVi (pc := 26) X (m_12_isFit rv1 r8 hw h) jM_12_isFit kw_1653 (jl_345_12 hn) rfl rfl rfl rfl rfl (Nat.le_of_ble_eq_true rfl) d_12_laysFresh_26 ⟨(Nat.le_of_ble_eq_true rfl), (Nat.le_of_ble_eq_true rfl)⟩ ⟨(Nat.le_of_ble_eq_true rfl), (Nat.le_of_ble_eq_true rfl)⟩ (fun x10 r12 h => ?_)
        refine jg_if_ne (tgt := 35) (pc := 29) X d_12_laysFresh_29 (by decide) r12 h (fun c14 h => ?_) (fun c14 h => ?_)
        · refine jg_goto (tgt := 112) (pc := 32) X d_12_laysFresh_32 (by decide) ?_
          refine jg_iinc (pc := 112) X [(3, jI (v3 + 1)), (4, jI x6), (0, jr Z 345), (1, jI v1), (2, jI v2)] d_12_laysFresh_112 4 rfl (by decide) rfl ?_
          refine jg_goto (tgt := 4) (pc := 115) X d_12_laysFresh_115 (by decide) ?_
          have r15 : jRng (v3 + 1) := by (unfold jRng; exact ⟨by (have z0 : jRng v3 := rv3; have z1 : jRng x1 := r3; unfold jRng at z0 z1; omega), by (have z0 : jRng v3 := rv3; have z1 : jRng x1 := r3; unfold jRng at z0 z1; omega)⟩)
          refine jg_sub [2, 3, 4, 0] rfl ?_
          exact ih4 _ _ _ rv2 r15 hw h
        · refine jg_iload_n (pc := 35) X d_12_laysFresh_35 3 rfl ?_
          refine jg_istore (pc := 36) X [(5, jI v2), (4, jI x6), (0, jr Z 345), (1, jI v1), (2, jI v2), (3, jI v3)] d_12_laysFresh_36 (by decide) rfl ?_
          have jl38 : ∀ (v4 : Int) (rv4 : jRng v4) (N : Nat) (v5 : Int) (C : jC) (rv5 : jRng v5) (hw : jWF n C), jI2 (wp_12_laysFresh_38 v1 v2 v3 v4 post k4) N v5 C → jG p l e q_12_laysFresh s m args below meth c 6 Z A (jws Z n C) 0 0 (MQ below (jQi Z n sz post) args s q_12_laysFresh.cells q_12_laysFresh.slots (jA Z n sz)) 38 [(0, jr Z 345), (1, jI v1), (2, jI v2), (3, jI v3), (4, jI v4), (5, jI v5)] [] := by
            intro v4 rv4 N
            have hn := hw0.2.2.1
            induction N with
            | zero => intro v5 C rv5 hw h; exact h.elim
            | succ N ih38 =>
              intro v5 C rv5 hw h
              have h : wp_12_laysFresh_38 v1 v2 v3 v4 post k4 (jI2 (wp_12_laysFresh_38 v1 v2 v3 v4 post k4) N) v5 C := h
              generalize jI2 (wp_12_laysFresh_38 v1 v2 v3 v4 post k4) N = k38 at h ih38
              unfold wp_12_laysFresh_38 at h
              refine jg_iload (pc := 38) X d_12_laysFresh_38 5 rfl ?_
              refine jg_if_le (tgt := 100) (pc := 40) X d_12_laysFresh_40 (by decide) rv5 h (fun c16 h => ?_) (fun c16 h => ?_)
              · refine jg_aload_n (pc := 100) X d_12_laysFresh_100 0 rfl ?_
                refine jgf_12_13 (pc := 101) X (jl_345_12 hn) kw_1486 d_12_laysFresh_101 ?_
                refine jg_iload (pc := 104) X d_12_laysFresh_104 5 rfl ?_
                refine jg_iload (pc := 106) X d_12_laysFresh_106 4 rfl ?_
                obtain ⟨b17, h⟩ := h
                have b18 : v5 < 25 := by (have z0 : jRng v5 := rv5; unfold jRng at z0; omega)
                refine jg_iastore (len := 25) (pc := 108) X d_12_laysFresh_108 (jl_351_1025 hn) (fun _ => rfl) (by decide) b17 b18 ?_
                have w19 := jWF.u (k := v5) (v := v4) hw (jl_351_1025 hn) (by decide) rv4
                refine jg_iinc (pc := 109) X [(2, jI (v2 + 1)), (0, jr Z 345), (1, jI v1), (3, jI v3), (4, jI v4), (5, jI v5)] d_12_laysFresh_109 2 rfl (by decide) rfl ?_
                refine jg_iinc (pc := 112) X [(3, jI (v3 + 1)), (2, jI (v2 + 1)), (0, jr Z 345), (1, jI v1), (4, jI v4), (5, jI v5)] d_12_laysFresh_112 3 rfl (by decide) rfl ?_
                refine jg_goto (tgt := 4) (pc := 115) X d_12_laysFresh_115 (by decide) ?_
                obtain ⟨r20, r21, h⟩ := h
                refine jg_sub [2, 3, 1, 0] rfl ?_
                exact ih4 _ _ _ r20 r21 w19 h
              · refine jg_aload_n (pc := 43) X d_12_laysFresh_43 0 rfl ?_
                refine jg_iload_n (pc := 44) X d_12_laysFresh_44 1 rfl ?_
                refine jg_bipush (pc := 45) X d_12_laysFresh_45 rfl ?_
                refine jg_pcallSi (pc := 47) X (m_12_viewAt rv1 (⟨by decide, by decide⟩ : jRng 26) hw h) jM_12_viewAt kw_1668 rfl rfl (Nat.le_of_ble_eq_true rfl) d_12_laysFresh_47 ⟨(Nat.le_of_ble_eq_true rfl), (Nat.le_of_ble_eq_true rfl)⟩ ⟨(Nat.le_of_ble_eq_true rfl), (Nat.le_of_ble_eq_true rfl)⟩ (fun x22 r24 h => ?_)
                refine jg_aload_n (pc := 50) X d_12_laysFresh_50 0 rfl ?_
                refine jgf_12_1 (pc := 51) X (jl_345_12 hn) kw_1474 d_12_laysFresh_51 ?_
                refine jg_iload_n (pc := 54) X d_12_laysFresh_54 1 rfl ?_
                refine jg_bipush (pc := 55) X d_12_laysFresh_55 rfl ?_
                refine jg_pcallSi (pc := 57) X (m_12_viewAt rv1 (⟨by decide, by decide⟩ : jRng 25) hw h) jM_12_viewAt kw_1668 rfl rfl (Nat.le_of_ble_eq_true rfl) d_12_laysFresh_57 ⟨(Nat.le_of_ble_eq_true rfl), (Nat.le_of_ble_eq_true rfl)⟩ ⟨(Nat.le_of_ble_eq_true rfl), (Nat.le_of_ble_eq_true rfl)⟩ (fun x26 r28 h => ?_)
                obtain ⟨b30, b31, h⟩ := h
                refine jg_iaload (len := 8954) (pc := 60) X d_12_laysFresh_60 (jl_346_9954 hn) (fun _ => rfl) (by decide) b30 b31 ?_
                refine jg_aload_n (pc := 61) X d_12_laysFresh_61 0 rfl ?_
                refine jgf_12_13 (pc := 62) X (jl_345_12 hn) kw_1486 d_12_laysFresh_62 ?_
                refine jg_iload (pc := 65) X d_12_laysFresh_65 5 rfl ?_
                refine jg_iconst (pc := 67) X d_12_laysFresh_67 ?_
                refine jg_isub (pc := 68) X d_12_laysFresh_68 ?_
                obtain ⟨b33, h⟩ := h
                have b32 : 0 ≤ (v5 - 1) := by (have z0 : jRng v5 := rv5; unfold jRng at z0; omega)
                refine jg_iaload (len := 25) (pc := 69) X d_12_laysFresh_69 (jl_351_1025 hn) (fun _ => rfl) (by decide) b32 b33 ?_
                refine jg_iload (pc := 70) X d_12_laysFresh_70 4 rfl ?_
                refine jg_pcallVi (pc := 72) X (m_12_bySorts r24 (hw.1 _ _) (hw.1 _ _) rv4 hw h) jM_12_bySorts kw_1770 (jl_345_12 hn) rfl rfl rfl rfl rfl (Nat.le_of_ble_eq_true rfl) d_12_laysFresh_72 ⟨(Nat.le_of_ble_eq_true rfl), (Nat.le_of_ble_eq_true rfl)⟩ ⟨(Nat.le_of_ble_eq_true rfl), (Nat.le_of_ble_eq_true rfl)⟩ (fun x34 r36 h => ?_)
                refine jg_if_le (tgt := 100) (pc := 75) X d_12_laysFresh_75 (by decide) r36 h (fun c38 h => ?_) (fun c38 h => ?_)
                · refine jg_aload_n (pc := 100) X d_12_laysFresh_100 0 rfl ?_
                  refine jgf_12_13 (pc := 101) X (jl_345_12 hn) kw_1486 d_12_laysFresh_101 ?_
                  refine jg_iload (pc := 104) X d_12_laysFresh_104 5 rfl ?_
                  refine jg_iload (pc := 106) X d_12_laysFresh_106 4 rfl ?_
                  obtain ⟨b40, h⟩ := h
                  have b39 : 0 ≤ v5 := by (have z0 : jRng v5 := rv5; unfold jRng at z0; omega)
                  refine jg_iastore (len := 25) (pc := 108) X d_12_laysFresh_108 (jl_351_1025 hn) (fun _ => rfl) (by decide) b39 b40 ?_
                  have w41 := jWF.u (k := v5) (v := v4) hw (jl_351_1025 hn) (by decide) rv4
                  refine jg_iinc (pc := 109) X [(2, jI (v2 + 1)), (0, jr Z 345), (1, jI v1), (3, jI v3), (4, jI v4), (5, jI v5)] d_12_laysFresh_109 2 rfl (by decide) rfl ?_
                  refine jg_iinc (pc := 112) X [(3, jI (v3 + 1)), (2, jI (v2 + 1)), (0, jr Z 345), (1, jI v1), (4, jI v4), (5, jI v5)] d_12_laysFresh_112 3 rfl (by decide) rfl ?_
                  refine jg_goto (tgt := 4) (pc := 115) X d_12_laysFresh_115 (by decide) ?_
                  obtain ⟨r42, r43, h⟩ := h
                  refine jg_sub [2, 3, 1, 0] rfl ?_
                  exact ih4 _ _ _ r42 r43 w41 h
                · refine jg_aload_n (pc := 78) X d_12_laysFresh_78 0 rfl ?_
                  refine jgf_12_13 (pc := 79) X (jl_345_12 hn) kw_1486 d_12_laysFresh_79 ?_
                  refine jg_iload (pc := 82) X d_12_laysFresh_82 5 rfl ?_
                  refine jg_aload_n (pc := 84) X d_12_laysFresh_84 0 rfl ?_
                  refine jgf_12_13 (pc := 85) X (jl_345_12 hn) kw_1486 d_12_laysFresh_85 ?_
                  refine jg_iload (pc := 88) X d_12_laysFresh_88 5 rfl ?_
                  refine jg_iconst (pc := 90) X d_12_laysFresh_90 ?_
                  refine jg_isub (pc := 91) X d_12_laysFresh_91 ?_
                  have b44 : 0 ≤ (v5 - 1) := by (have z0 : jRng v5 := rv5; unfold jRng at z0; omega)
                  have b45 : (v5 - 1) < 25 := by (have z0 : jRng v5 := rv5; unfold jRng at z0; omega)
                  refine jg_iaload (len := 25) (pc := 92) X d_12_laysFresh_92 (jl_351_1025 hn) (fun _ => rfl) (by decide) b44 b45 ?_
                  obtain ⟨b47, h⟩ := h
                  have b46 : 0 ≤ v5 := by (have z0 : jRng v5 := rv5; unfold jRng at z0; omega)
                  refine jg_iastore (len := 25) (pc := 93) X d_12_laysFresh_93 (jl_351_1025 hn) (fun _ => rfl) (by decide) b46 b47 ?_
                  have w48 := jWF.u (k := v5) (v := (C 351 (v5 - 1))) hw (jl_351_1025 hn) (by decide) (hw.1 _ _)
                  refine jg_iinc (pc := 94) X [(5, jI (v5 + (-1))), (0, jr Z 345), (1, jI v1), (2, jI v2), (3, jI v3), (4, jI v4)] d_12_laysFresh_94 5 rfl (by decide) rfl ?_
                  refine jg_goto (tgt := 38) (pc := 97) X d_12_laysFresh_97 (by decide) ?_
                  have r49 : jRng (v5 + (-1)) := by (unfold jRng; exact ⟨by (have z0 : jRng v5 := rv5; unfold jRng at z0; omega), by (have z0 : jRng v5 := rv5; unfold jRng at z0; omega)⟩)
                  refine jg_sub [1, 2, 3, 4, 5, 0] rfl ?_
                  exact ih38 _ _ r49 w48 h
          obtain ⟨N, h⟩ := h
          refine jg_sub [2, 3, 4, 5, 1, 0] rfl ?_
          exact jl38 _ r8 N _ _ rv2 hw h
  obtain ⟨N, h⟩ := h
  refine jg_sub [2, 3, 1, 0] rfl ?_
  exact jl4   N _ _ _ (⟨by decide, by decide⟩ : jRng 0) (⟨by decide, by decide⟩ : jRng 0) hw0 h
set_option maxHeartbeats 4000000 in
set_option maxRecDepth 100000 in
theorem m_12_isRefreshed {l : Launch} {Z : jE} {n : Nat} {C : jC} {v1 : Int} {post : Int → jC → Prop} (rv1 : jRng v1) (hw0 : jWF n C) (h : wp_12_isRefreshed v1 C post) : jCi l y_12_isRefreshed prog_14_method_67_code 7 (.int) q_12_isRefreshed Z n C [jr Z 345, jI v1] post := by
  have hn := hw0.2.2.1
  unfold wp_12_isRefreshed at h
  refine jCi_of (lv0 := [(0, jr Z 345), (1, jI v1)]) (by decide) (Nat.le_of_ble_eq_true rfl) rfl ?_
  intro p e s m args below meth c A sz X hAe hr hlocks
  refine jg_iload_n (pc := 0) X d_12_isRefreshed_0 1 rfl ?_
  refine jg_pcallSi (pc := 1) X (m_12_listOf rv1 hw0 h) jM_12_listOf kw_1686 rfl rfl (Nat.le_of_ble_eq_true rfl) d_12_isRefreshed_1 ⟨(Nat.le_of_ble_eq_true rfl), (Nat.le_of_ble_eq_true rfl)⟩ ⟨(Nat.le_of_ble_eq_true rfl), (Nat.le_of_ble_eq_true rfl)⟩ (fun x1 r3 h => ?_)
  refine jg_istore_n (pc := 4) X [(2, jI x1), (0, jr Z 345), (1, jI v1)] d_12_isRefreshed_4 (by decide) rfl ?_
  refine jg_aload_n (pc := 5) X d_12_isRefreshed_5 1 rfl ?_
  refine jg_iload_n (pc := 6) X d_12_isRefreshed_6 2 rfl ?_
  refine jg_callVi (pc := 7) X (m_12_laysFresh rv1 hw0 h) jM_12_laysFresh kw_1762 (jl_345_12 hn) rfl rfl rfl rfl rfl (Nat.le_of_ble_eq_true rfl) d_12_isRefreshed_7 ⟨(Nat.le_of_ble_eq_true rfl), (Nat.le_of_ble_eq_true rfl)⟩ ⟨(Nat.le_of_ble_eq_true rfl), (Nat.le_of_ble_eq_true rfl)⟩ (fun x5 C6 r7 w8 h => ?_)
  refine jg_istore_n (pc := 10) X [(3, jI x5), (2, jI x1), (0, jr Z 345), (1, jI v1)] d_12_isRefreshed_10 (by decide) rfl ?_
  refine jg_iconst (pc := 11) X d_12_isRefreshed_11 ?_
  refine jg_istore (pc := 12) X [(4, jI 0), (3, jI x5), (2, jI x1), (0, jr Z 345), (1, jI v1)] d_12_isRefreshed_12 (by decide) rfl ?_
  refine jg_iconst (pc := 14) X d_12_isRefreshed_14 ?_
  refine jg_istore (pc := 15) X [(5, jI 0), (4, jI 0), (3, jI x5), (2, jI x1), (0, jr Z 345), (1, jI v1)] d_12_isRefreshed_15 (by decide) rfl ?_
  have jl17 : ∀ (v2 : Int) (v3 : Int) (C : jC) (rv2 : jRng v2) (rv3 : jRng v3) (hw : jWF n C) (N : Nat) (v4 : Int) (v5 : Int) (rv4 : jRng v4) (rv5 : jRng v5), jI2 (wp_12_isRefreshed_17 v2 v3 C post) N v4 v5 → jG p l e q_12_isRefreshed s m args below meth c 7 Z A (jws Z n C) 0 0 (MQ below (jQi Z n sz post) args s q_12_isRefreshed.cells q_12_isRefreshed.slots (jA Z n sz)) 17 [(0, jr Z 345), (2, jI v2), (3, jI v3), (4, jI v4), (5, jI v5)] [] := by
    intro v2 v3 C rv2 rv3 hw N
    have hn := hw0.2.2.1
    induction N with
    | zero => intro v4 v5 rv4 rv5 h; exact h.elim
    | succ N ih17 =>
      intro v4 v5 rv4 rv5 h
      have h : wp_12_isRefreshed_17 v2 v3 C post (jI2 (wp_12_isRefreshed_17 v2 v3 C post) N) v4 v5 := h
      generalize jI2 (wp_12_isRefreshed_17 v2 v3 C post) N = k17 at h ih17
      unfold wp_12_isRefreshed_17 at h
      refine jg_iload (pc := 17) X d_12_isRefreshed_17 4 rfl ?_
      refine jg_iload_n (pc := 19) X d_12_isRefreshed_19 2 rfl ?_
      refine jg_icmp_ge (tgt := 55) (pc := 20) X d_12_isRefreshed_20 (by decide) rv5 rv3 h (fun c9 h => ?_) (fun c9 h => ?_)
      · refine jg_iload_n (pc := 55) X d_12_isRefreshed_55 2 rfl ?_
        refine jg_iload (pc := 56) X d_12_isRefreshed_56 3 rfl ?_
        refine jg_isub (pc := 58) X d_12_isRefreshed_58 ?_
        refine jg_aload_n (pc := 59) X d_12_isRefreshed_59 0 rfl ?_
        refine jg_iload_n (pc := 60) X d_12_isRefreshed_60 1 rfl ?_
        refine jg_pcallVi (pc := 61) X (m_12_size rv2 hw h) jM_12_size kw_1609 (jl_345_12 hn) rfl rfl rfl rfl rfl (Nat.le_of_ble_eq_true rfl) d_12_isRefreshed_61 ⟨(Nat.le_of_ble_eq_true rfl), (Nat.le_of_ble_eq_true rfl)⟩ ⟨(Nat.le_of_ble_eq_true rfl), (Nat.le_of_ble_eq_true rfl)⟩ (fun x10 r12 h => ?_)
        refine jg_iadd (pc := 64) X d_12_isRefreshed_64 ?_
        refine jg_iload (pc := 65) X d_12_isRefreshed_65 3 rfl ?_
        refine jg_isub (pc := 67) X d_12_isRefreshed_67 ?_
        refine jg_istore (pc := 68) X [(5, jI (((v3 - v4) + x10) - v4)), (0, jr Z 345), (2, jI v2), (3, jI v3), (4, jI v4)] d_12_isRefreshed_68 (by decide) rfl ?_
        refine jg_aload_n (pc := 70) X d_12_isRefreshed_70 1 rfl ?_
        refine jgf_12_1 (pc := 71) X (jl_345_12 hn) kw_1474 d_12_isRefreshed_71 ?_
        refine jg_iload_n (pc := 74) X d_12_isRefreshed_74 2 rfl ?_
        refine jg_iload_n (pc := 75) X d_12_isRefreshed_75 3 rfl ?_
        obtain ⟨b14, b15, h⟩ := h
        refine jg_iastore (len := 8954) (pc := 76) X d_12_isRefreshed_76 (jl_346_9954 hn) (fun _ => rfl) (by decide) b14 b15 ?_
        have w16 := jWF.u (k := v2) (v := v3) hw (jl_346_9954 hn) (by decide) rv3
        refine jg_iconst (pc := 77) X d_12_isRefreshed_77 ?_
        refine jg_istore (pc := 78) X [(6, jI 0), (5, jI (((v3 - v4) + x10) - v4)), (0, jr Z 345), (2, jI v2), (3, jI v3), (4, jI v4)] d_12_isRefreshed_78 (by decide) rfl ?_
        obtain ⟨r17, h⟩ := h
        have jl80 : ∀ (v5 : Int) (rv5 : jRng v5) (N : Nat) (v6 : Int) (C : jC) (rv6 : jRng v6) (hw : jWF n C), jI2 (wp_12_isRefreshed_80 v2 v3 v5 post) N v6 C → jG p l e q_12_isRefreshed s m args below meth c 7 Z A (jws Z n C) 0 0 (MQ below (jQi Z n sz post) args s q_12_isRefreshed.cells q_12_isRefreshed.slots (jA Z n sz)) 80 [(0, jr Z 345), (2, jI v2), (3, jI v3), (5, jI v5), (6, jI v6)] [] := by
          intro v5 rv5 N
          have hn := hw0.2.2.1
          induction N with
          | zero => intro v6 C rv6 hw h; exact h.elim
          | succ N ih80 =>
            intro v6 C rv6 hw h
            have h : wp_12_isRefreshed_80 v2 v3 v5 post (jI2 (wp_12_isRefreshed_80 v2 v3 v5 post) N) v6 C := h
            generalize jI2 (wp_12_isRefreshed_80 v2 v3 v5 post) N = k80 at h ih80
            unfold wp_12_isRefreshed_80 at h
            refine jg_iload (pc := 80) X d_12_isRefreshed_80 4 rfl ?_
            refine jg_iload_n (pc := 82) X d_12_isRefreshed_82 2 rfl ?_
            refine jg_icmp_ge (tgt := 110) (pc := 83) X d_12_isRefreshed_83 (by decide) rv6 rv3 h (fun c18 h => ?_) (fun c18 h => ?_)
            · refine jg_iload (pc := 110) X d_12_isRefreshed_110 3 rfl ?_
              exact jg_ireturn (pc := 112) X hAe hlocks hr d_12_isRefreshed_112 ⟨(Nat.le_of_ble_eq_true rfl), (Nat.le_of_ble_eq_true rfl)⟩ rfl rv5 hw h
            · refine jg_aload_n (pc := 86) X d_12_isRefreshed_86 0 rfl ?_
              refine jgf_12_1 (pc := 87) X (jl_345_12 hn) kw_1474 d_12_isRefreshed_87 ?_
              refine jg_iload_n (pc := 90) X d_12_isRefreshed_90 1 rfl ?_
              refine jg_iconst (pc := 91) X d_12_isRefreshed_91 ?_
              refine jg_iadd (pc := 92) X d_12_isRefreshed_92 ?_
              refine jg_iload (pc := 93) X d_12_isRefreshed_93 4 rfl ?_
              refine jg_iadd (pc := 95) X d_12_isRefreshed_95 ?_
              refine jg_aload_n (pc := 96) X d_12_isRefreshed_96 0 rfl ?_
              refine jgf_12_13 (pc := 97) X (jl_345_12 hn) kw_1486 d_12_isRefreshed_97 ?_
              refine jg_iload (pc := 100) X d_12_isRefreshed_100 4 rfl ?_
              obtain ⟨b19, b20, h⟩ := h
              refine jg_iaload (len := 25) (pc := 102) X d_12_isRefreshed_102 (jl_351_1025 hn) (fun _ => rfl) (by decide) b19 b20 ?_
              obtain ⟨b21, b22, h⟩ := h
              refine jg_iastore (len := 8954) (pc := 103) X d_12_isRefreshed_103 (jl_346_9954 hn) (fun _ => rfl) (by decide) b21 b22 ?_
              have w23 := jWF.u (k := ((v2 + 1) + v6)) (v := (C 351 v6)) hw (jl_346_9954 hn) (by decide) (hw.1 _ _)
              refine jg_iinc (pc := 104) X [(6, jI (v6 + 1)), (0, jr Z 345), (2, jI v2), (3, jI v3), (5, jI v5)] d_12_isRefreshed_104 4 rfl (by decide) rfl ?_
              refine jg_goto (tgt := 80) (pc := 107) X d_12_isRefreshed_107 (by decide) ?_
              have r24 : jRng (v6 + 1) := by (unfold jRng; exact ⟨by (have z0 : jRng v6 := rv6; have z1 : jRng v3 := rv3; unfold jRng at z0 z1; omega), by (have z0 : jRng v6 := rv6; have z1 : jRng v3 := rv3; unfold jRng at z0 z1; omega)⟩)
              refine jg_sub [1, 2, 3, 4, 0] rfl ?_
              exact ih80 _ _ r24 w23 h
        obtain ⟨N, h⟩ := h
        refine jg_sub [2, 3, 4, 1, 0] rfl ?_
        exact jl80 _ r17 N _ _ (⟨by decide, by decide⟩ : jRng 0) w16 h
      · refine jg_iload (pc := 23) X d_12_isRefreshed_23 3 rfl ?_
        refine jg_aload_n (pc := 25) X d_12_isRefreshed_25 0 rfl ?_
        refine jg_iload_n (pc := 26) X d_12_isRefreshed_26 1 rfl ?_
        refine jg_aload_n (pc := 27) X d_12_isRefreshed_27 0 rfl ?_
        refine jgf_12_13 (pc := 28) X (jl_345_12 hn) kw_1486 d_12_isRefreshed_28 ?_
        refine jg_iload (pc := 31) X d_12_isRefreshed_31 4 rfl ?_
        obtain ⟨b25, b26, h⟩ := h
        refine jg_iaload (len := 25) (pc := 33) X d_12_isRefreshed_33 (jl_351_1025 hn) (fun _ => rfl) (by decide) b25 b26 ?_
        refine jg_pcallVi (pc := 34) X (m_12_placeIn rv2 (hw.1 _ _) hw h) jM_12_placeIn kw_1778 (jl_345_12 hn) rfl rfl rfl rfl rfl (Nat.le_of_ble_eq_true rfl) d_12_isRefreshed_34 ⟨(Nat.le_of_ble_eq_true rfl), (Nat.le_of_ble_eq_true rfl)⟩ ⟨(Nat.le_of_ble_eq_true rfl), (Nat.le_of_ble_eq_true rfl)⟩ (fun x27 r29 h => ?_)
        refine jg_iconst (pc := 37) X d_12_isRefreshed_37 ?_
        refine jg_icmp_ne (tgt := 45) (pc := 38) X d_12_isRefreshed_38 (by decide) r29 (⟨by decide, by decide⟩ : jRng (-1)) h (fun c31 h => ?_) (fun c31 h => ?_)
        · refine jg_iconst (pc := 41) X d_12_isRefreshed_41 ?_
          refine jg_goto (tgt := 46) (pc := 42) X d_12_isRefreshed_42 (by decide) ?_
          refine jg_iadd (pc := 46) X d_12_isRefreshed_46 ?_
          refine jg_istore (pc := 47) X [(4, jI (v4 + 0)), (0, jr Z 345), (2, jI v2), (3, jI v3), (5, jI v5)] d_12_isRefreshed_47 (by decide) rfl ?_
          refine jg_iinc (pc := 49) X [(5, jI (v5 + 1)), (4, jI (v4 + 0)), (0, jr Z 345), (2, jI v2), (3, jI v3)] d_12_isRefreshed_49 4 rfl (by decide) rfl ?_
          refine jg_goto (tgt := 17) (pc := 52) X d_12_isRefreshed_52 (by decide) ?_
          have r32 : jRng (v4 + 0) := by (unfold jRng; exact ⟨by (have z0 : jRng v4 := rv4; unfold jRng at z0; omega), by (have z0 : jRng v4 := rv4; unfold jRng at z0; omega)⟩)
          have r33 : jRng (v5 + 1) := by (unfold jRng; exact ⟨by (have z0 : jRng v5 := rv5; have z1 : jRng v3 := rv3; unfold jRng at z0 z1; omega), by (have z0 : jRng v5 := rv5; have z1 : jRng v3 := rv3; unfold jRng at z0 z1; omega)⟩)
          refine jg_sub [2, 3, 4, 1, 0] rfl ?_
          exact ih17 _ _ r32 r33 h
        · refine jg_iconst (pc := 45) X d_12_isRefreshed_45 ?_
          refine jg_iadd (pc := 46) X d_12_isRefreshed_46 ?_
          refine jg_istore (pc := 47) X [(4, jI (v4 + 1)), (0, jr Z 345), (2, jI v2), (3, jI v3), (5, jI v5)] d_12_isRefreshed_47 (by decide) rfl ?_
          refine jg_iinc (pc := 49) X [(5, jI (v5 + 1)), (4, jI (v4 + 1)), (0, jr Z 345), (2, jI v2), (3, jI v3)] d_12_isRefreshed_49 4 rfl (by decide) rfl ?_
          refine jg_goto (tgt := 17) (pc := 52) X d_12_isRefreshed_52 (by decide) ?_
          obtain ⟨r34, h⟩ := h
          have r35 : jRng (v5 + 1) := by (unfold jRng; exact ⟨by (have z0 : jRng v5 := rv5; have z1 : jRng v3 := rv3; unfold jRng at z0 z1; omega), by (have z0 : jRng v5 := rv5; have z1 : jRng v3 := rv3; unfold jRng at z0 z1; omega)⟩)
          refine jg_sub [2, 3, 4, 1, 0] rfl ?_
          exact ih17 _ _ r34 r35 h
  obtain ⟨N, h⟩ := h
  refine jg_sub [4, 3, 2, 1, 0] rfl ?_
  exact jl17 _ _ _ r3 r7 w8 N _ _ (⟨by decide, by decide⟩ : jRng 0) (⟨by decide, by decide⟩ : jRng 0) h
set_option maxHeartbeats 4000000 in
set_option maxRecDepth 100000 in
theorem m_12_view {l : Launch} {Z : jE} {n : Nat} {C : jC} {v1 : Int} {post : Int → jC → Prop} (rv1 : jRng v1) (hw0 : jWF n C) (h : wp_12_view v1 C post) : jCi l y_12_view prog_14_method_57_code 2 (.int) q_12_view Z n C [jr Z 345, jI v1] post := by
  have hn := hw0.2.2.1
  unfold wp_12_view at h
  refine jCi_of (lv0 := [(0, jr Z 345), (1, jI v1)]) (by decide) (Nat.le_of_ble_eq_true rfl) rfl ?_
  intro p e s m args below meth c A sz X hAe hr hlocks
  refine jg_aload_n (pc := 0) X d_12_view_0 0 rfl ?_
  refine jg_callVv (pc := 1) X (m_12_uses hw0 h) jM_12_uses kw_1555 (jl_345_12 hn) rfl rfl rfl rfl rfl (Nat.le_of_ble_eq_true rfl) d_12_view_1 ⟨(Nat.le_of_ble_eq_true rfl), (Nat.le_of_ble_eq_true rfl)⟩ ⟨(Nat.le_of_ble_eq_true rfl), (Nat.le_of_ble_eq_true rfl)⟩ (fun C2 w4 h => ?_)
  refine jg_aload_n (pc := 4) X d_12_view_4 0 rfl ?_
  refine jg_iload_n (pc := 5) X d_12_view_5 1 rfl ?_
  refine jg_pcallSi (pc := 6) X (m_12_noView rv1 w4 h) jM_12_noView kw_1705 rfl rfl (Nat.le_of_ble_eq_true rfl) d_12_view_6 ⟨(Nat.le_of_ble_eq_true rfl), (Nat.le_of_ble_eq_true rfl)⟩ ⟨(Nat.le_of_ble_eq_true rfl), (Nat.le_of_ble_eq_true rfl)⟩ (fun x5 r7 h => ?_)
  refine jg_iconst (pc := 9) X d_12_view_9 ?_
  refine jg_callVi (pc := 10) X (m_12_throwsIf r7 (⟨by decide, by decide⟩ : jRng 1) w4 h) jM_12_throwsIf kw_1697 (jl_345_12 hn) rfl rfl rfl rfl rfl (Nat.le_of_ble_eq_true rfl) d_12_view_10 ⟨(Nat.le_of_ble_eq_true rfl), (Nat.le_of_ble_eq_true rfl)⟩ ⟨(Nat.le_of_ble_eq_true rfl), (Nat.le_of_ble_eq_true rfl)⟩ (fun x9 C10 r11 w12 h => ?_)
  refine jg_if_eq (tgt := 18) (pc := 13) X d_12_view_13 (by decide) r11 h (fun c13 h => ?_) (fun c13 h => ?_)
  · refine jg_aload_n (pc := 18) X d_12_view_18 0 rfl ?_
    refine jg_callVv (pc := 19) X (m_12_keepsAll w12 h) jM_12_keepsAll kw_1559 (jl_345_12 hn) rfl rfl rfl rfl rfl (Nat.le_of_ble_eq_true rfl) d_12_view_19 ⟨(Nat.le_of_ble_eq_true rfl), (Nat.le_of_ble_eq_true rfl)⟩ ⟨(Nat.le_of_ble_eq_true rfl), (Nat.le_of_ble_eq_true rfl)⟩ (fun C15 w17 h => ?_)
    refine jg_aload_n (pc := 22) X d_12_view_22 0 rfl ?_
    refine jg_aload_n (pc := 23) X d_12_view_23 0 rfl ?_
    refine jg_aload_n (pc := 24) X d_12_view_24 0 rfl ?_
    refine jg_iload_n (pc := 25) X d_12_view_25 1 rfl ?_
    refine jg_callVi (pc := 26) X (m_12_readView rv1 w17 h) jM_12_readView kw_1708 (jl_345_12 hn) rfl rfl rfl rfl rfl (Nat.le_of_ble_eq_true rfl) d_12_view_26 ⟨(Nat.le_of_ble_eq_true rfl), (Nat.le_of_ble_eq_true rfl)⟩ ⟨(Nat.le_of_ble_eq_true rfl), (Nat.le_of_ble_eq_true rfl)⟩ (fun x18 C19 r20 w21 h => ?_)
    refine jg_callVi (pc := 29) X (m_12_isRight r20 w21 h) jM_12_isRight kw_1689 (jl_345_12 hn) rfl rfl rfl rfl rfl (Nat.le_of_ble_eq_true rfl) d_12_view_29 ⟨(Nat.le_of_ble_eq_true rfl), (Nat.le_of_ble_eq_true rfl)⟩ ⟨(Nat.le_of_ble_eq_true rfl), (Nat.le_of_ble_eq_true rfl)⟩ (fun x22 C23 r24 w25 h => ?_)
    refine jg_if_ne (tgt := 39) (pc := 32) X d_12_view_32 (by decide) r24 h (fun c26 h => ?_) (fun c26 h => ?_)
    · refine jg_iconst (pc := 35) X d_12_view_35 ?_
      refine jg_goto (tgt := 40) (pc := 36) X d_12_view_36 (by decide) ?_
      refine jg_iconst (pc := 40) X d_12_view_40 ?_
      refine jg_callVi (pc := 41) X (m_12_throwsIf (⟨by decide, by decide⟩ : jRng 1) (⟨by decide, by decide⟩ : jRng 2) w25 h) jM_12_throwsIf kw_1697 (jl_345_12 hn) rfl rfl rfl rfl rfl (Nat.le_of_ble_eq_true rfl) d_12_view_41 ⟨(Nat.le_of_ble_eq_true rfl), (Nat.le_of_ble_eq_true rfl)⟩ ⟨(Nat.le_of_ble_eq_true rfl), (Nat.le_of_ble_eq_true rfl)⟩ (fun x27 C28 r29 w30 h => ?_)
      refine jg_if_eq (tgt := 49) (pc := 44) X d_12_view_44 (by decide) r29 h (fun c31 h => ?_) (fun c31 h => ?_)
      · refine jg_aload_n (pc := 49) X d_12_view_49 0 rfl ?_
        refine jg_iload_n (pc := 50) X d_12_view_50 1 rfl ?_
        refine jg_callVi (pc := 51) X (m_12_isRefreshed rv1 w30 h) jM_12_isRefreshed kw_1758 (jl_345_12 hn) rfl rfl rfl rfl rfl (Nat.le_of_ble_eq_true rfl) d_12_view_51 ⟨(Nat.le_of_ble_eq_true rfl), (Nat.le_of_ble_eq_true rfl)⟩ ⟨(Nat.le_of_ble_eq_true rfl), (Nat.le_of_ble_eq_true rfl)⟩ (fun x32 C33 r34 w35 h => ?_)
        refine jg_pop (pc := 54) X d_12_view_54 rfl ?_
        refine jg_aload_n (pc := 55) X d_12_view_55 0 rfl ?_
        refine jg_iload_n (pc := 56) X d_12_view_56 1 rfl ?_
        refine jg_pcallSi (pc := 57) X (m_12_listOf rv1 w35 h) jM_12_listOf kw_1686 rfl rfl (Nat.le_of_ble_eq_true rfl) d_12_view_57 ⟨(Nat.le_of_ble_eq_true rfl), (Nat.le_of_ble_eq_true rfl)⟩ ⟨(Nat.le_of_ble_eq_true rfl), (Nat.le_of_ble_eq_true rfl)⟩ (fun x36 r38 h => ?_)
        refine jg_pcallVi (pc := 60) X (m_12_size r38 w35 h) jM_12_size kw_1609 (jl_345_12 hn) rfl rfl rfl rfl rfl (Nat.le_of_ble_eq_true rfl) d_12_view_60 ⟨(Nat.le_of_ble_eq_true rfl), (Nat.le_of_ble_eq_true rfl)⟩ ⟨(Nat.le_of_ble_eq_true rfl), (Nat.le_of_ble_eq_true rfl)⟩ (fun x40 r42 h => ?_)
        exact jg_ireturn (pc := 63) X hAe hlocks hr d_12_view_63 ⟨(Nat.le_of_ble_eq_true rfl), (Nat.le_of_ble_eq_true rfl)⟩ rfl r42 w35 h
      · refine jg_iconst (pc := 47) X d_12_view_47 ?_
        exact jg_ireturn (pc := 48) X hAe hlocks hr d_12_view_48 ⟨(Nat.le_of_ble_eq_true rfl), (Nat.le_of_ble_eq_true rfl)⟩ rfl (⟨by decide, by decide⟩ : jRng 0) w30 h
    · refine jg_iconst (pc := 39) X d_12_view_39 ?_
      refine jg_iconst (pc := 40) X d_12_view_40 ?_
      refine jg_callVi (pc := 41) X (m_12_throwsIf (⟨by decide, by decide⟩ : jRng 0) (⟨by decide, by decide⟩ : jRng 2) w25 h) jM_12_throwsIf kw_1697 (jl_345_12 hn) rfl rfl rfl rfl rfl (Nat.le_of_ble_eq_true rfl) d_12_view_41 ⟨(Nat.le_of_ble_eq_true rfl), (Nat.le_of_ble_eq_true rfl)⟩ ⟨(Nat.le_of_ble_eq_true rfl), (Nat.le_of_ble_eq_true rfl)⟩ (fun x44 C45 r46 w47 h => ?_)
      refine jg_if_eq (tgt := 49) (pc := 44) X d_12_view_44 (by decide) r46 h (fun c48 h => ?_) (fun c48 h => ?_)
      · refine jg_aload_n (pc := 49) X d_12_view_49 0 rfl ?_
        refine jg_iload_n (pc := 50) X d_12_view_50 1 rfl ?_
        refine jg_callVi (pc := 51) X (m_12_isRefreshed rv1 w47 h) jM_12_isRefreshed kw_1758 (jl_345_12 hn) rfl rfl rfl rfl rfl (Nat.le_of_ble_eq_true rfl) d_12_view_51 ⟨(Nat.le_of_ble_eq_true rfl), (Nat.le_of_ble_eq_true rfl)⟩ ⟨(Nat.le_of_ble_eq_true rfl), (Nat.le_of_ble_eq_true rfl)⟩ (fun x49 C50 r51 w52 h => ?_)
        refine jg_pop (pc := 54) X d_12_view_54 rfl ?_
        refine jg_aload_n (pc := 55) X d_12_view_55 0 rfl ?_
        refine jg_iload_n (pc := 56) X d_12_view_56 1 rfl ?_
        refine jg_pcallSi (pc := 57) X (m_12_listOf rv1 w52 h) jM_12_listOf kw_1686 rfl rfl (Nat.le_of_ble_eq_true rfl) d_12_view_57 ⟨(Nat.le_of_ble_eq_true rfl), (Nat.le_of_ble_eq_true rfl)⟩ ⟨(Nat.le_of_ble_eq_true rfl), (Nat.le_of_ble_eq_true rfl)⟩ (fun x53 r55 h => ?_)
        refine jg_pcallVi (pc := 60) X (m_12_size r55 w52 h) jM_12_size kw_1609 (jl_345_12 hn) rfl rfl rfl rfl rfl (Nat.le_of_ble_eq_true rfl) d_12_view_60 ⟨(Nat.le_of_ble_eq_true rfl), (Nat.le_of_ble_eq_true rfl)⟩ ⟨(Nat.le_of_ble_eq_true rfl), (Nat.le_of_ble_eq_true rfl)⟩ (fun x57 r59 h => ?_)
        exact jg_ireturn (pc := 63) X hAe hlocks hr d_12_view_63 ⟨(Nat.le_of_ble_eq_true rfl), (Nat.le_of_ble_eq_true rfl)⟩ rfl r59 w52 h
      · refine jg_iconst (pc := 47) X d_12_view_47 ?_
        exact jg_ireturn (pc := 48) X hAe hlocks hr d_12_view_48 ⟨(Nat.le_of_ble_eq_true rfl), (Nat.le_of_ble_eq_true rfl)⟩ rfl (⟨by decide, by decide⟩ : jRng 0) w47 h
  · refine jg_iconst (pc := 16) X d_12_view_16 ?_
    exact jg_ireturn (pc := 17) X hAe hlocks hr d_12_view_17 ⟨(Nat.le_of_ble_eq_true rfl), (Nat.le_of_ble_eq_true rfl)⟩ rfl (⟨by decide, by decide⟩ : jRng 0) w12 h
set_option maxHeartbeats 4000000 in
set_option maxRecDepth 100000 in
theorem m_12_refresh {l : Launch} {Z : jE} {n : Nat} {C : jC} {v1 : Int} {post : Int → jC → Prop} (rv1 : jRng v1) (hw0 : jWF n C) (h : wp_12_refresh v1 C post) : jCi l y_12_refresh prog_14_method_68_code 2 (.int) q_12_refresh Z n C [jr Z 345, jI v1] post := by
  have hn := hw0.2.2.1
  unfold wp_12_refresh at h
  refine jCi_of (lv0 := [(0, jr Z 345), (1, jI v1)]) (by decide) (Nat.le_of_ble_eq_true rfl) rfl ?_
  intro p e s m args below meth c A sz X hAe hr hlocks
  refine jg_aload_n (pc := 0) X d_12_refresh_0 0 rfl ?_
  refine jg_iconst (pc := 1) X d_12_refresh_1 ?_
  refine jgp_12_0 (pc := 2) X (jl_345_12 hn) kw_1473 d_12_refresh_2 ?_
  have w1 := jWF.u (k := 0) (v := 0) hw0 (jl_345_12 hn) (by decide) (⟨by decide, by decide⟩ : jRng 0)
  refine jg_aload_n (pc := 5) X d_12_refresh_5 0 rfl ?_
  refine jg_iload_n (pc := 6) X d_12_refresh_6 1 rfl ?_
  refine jg_pcallSi (pc := 7) X (m_12_noView rv1 w1 h) jM_12_noView kw_1705 rfl rfl (Nat.le_of_ble_eq_true rfl) d_12_refresh_7 ⟨(Nat.le_of_ble_eq_true rfl), (Nat.le_of_ble_eq_true rfl)⟩ ⟨(Nat.le_of_ble_eq_true rfl), (Nat.le_of_ble_eq_true rfl)⟩ (fun x2 r4 h => ?_)
  refine jg_iconst (pc := 10) X d_12_refresh_10 ?_
  refine jg_callVi (pc := 11) X (m_12_throwsIf r4 (⟨by decide, by decide⟩ : jRng 1) w1 h) jM_12_throwsIf kw_1697 (jl_345_12 hn) rfl rfl rfl rfl rfl (Nat.le_of_ble_eq_true rfl) d_12_refresh_11 ⟨(Nat.le_of_ble_eq_true rfl), (Nat.le_of_ble_eq_true rfl)⟩ ⟨(Nat.le_of_ble_eq_true rfl), (Nat.le_of_ble_eq_true rfl)⟩ (fun x6 C7 r8 w9 h => ?_)
  refine jg_if_eq (tgt := 21) (pc := 14) X d_12_refresh_14 (by decide) r8 h (fun c10 h => ?_) (fun c10 h => ?_)
  · refine jg_aload_n (pc := 21) X d_12_refresh_21 0 rfl ?_
    refine jg_iload_n (pc := 22) X d_12_refresh_22 1 rfl ?_
    refine jg_callVi (pc := 23) X (m_12_isRefreshed rv1 w9 h) jM_12_isRefreshed kw_1758 (jl_345_12 hn) rfl rfl rfl rfl rfl (Nat.le_of_ble_eq_true rfl) d_12_refresh_23 ⟨(Nat.le_of_ble_eq_true rfl), (Nat.le_of_ble_eq_true rfl)⟩ ⟨(Nat.le_of_ble_eq_true rfl), (Nat.le_of_ble_eq_true rfl)⟩ (fun x11 C12 r13 w14 h => ?_)
    exact jg_ireturn (pc := 26) X hAe hlocks hr d_12_refresh_26 ⟨(Nat.le_of_ble_eq_true rfl), (Nat.le_of_ble_eq_true rfl)⟩ rfl r13 w14 h
  · refine jg_iconst (pc := 17) X d_12_refresh_17 ?_
    refine jg_goto (tgt := 26) (pc := 18) X d_12_refresh_18 (by decide) ?_
    exact jg_ireturn (pc := 26) X hAe hlocks hr d_12_refresh_26 ⟨(Nat.le_of_ble_eq_true rfl), (Nat.le_of_ble_eq_true rfl)⟩ rfl (⟨by decide, by decide⟩ : jRng 0) w9 h
set_option maxHeartbeats 4000000 in
set_option maxRecDepth 100000 in
theorem m_12_noPlace {l : Launch} {Z : jE} {n : Nat} {C : jC} {v1 : Int} {v2 : Int} {post : Int → Prop} (rv1 : jRng v1) (rv2 : jRng v2) (hw0 : jWF n C) (h : wp_12_noPlace v1 v2 C post) : jCi l y_12_noPlace prog_14_method_17_code 3 (.boolean) q_12_noPlace Z n C [jr Z 345, jI v1, jI v2] (fun x C9 => C9 = C ∧ post x) := by
  have hn := hw0.2.2.1
  unfold wp_12_noPlace at h
  refine jCi_of (lv0 := [(0, jr Z 345), (1, jI v1), (2, jI v2)]) (by decide) (Nat.le_of_ble_eq_true rfl) rfl ?_
  intro p e s m args below meth c A sz X hAe hr hlocks
  refine jg_iload_n (pc := 0) X d_12_noPlace_0 2 rfl ?_
  refine jg_iconst (pc := 1) X d_12_noPlace_1 ?_
  refine jg_aload_n (pc := 2) X d_12_noPlace_2 0 rfl ?_
  refine jg_iload_n (pc := 3) X d_12_noPlace_3 1 rfl ?_
  refine jg_pcallSi (pc := 4) X (m_12_listOf rv1 hw0 h) jM_12_listOf kw_1686 rfl rfl (Nat.le_of_ble_eq_true rfl) d_12_noPlace_4 ⟨(Nat.le_of_ble_eq_true rfl), (Nat.le_of_ble_eq_true rfl)⟩ ⟨(Nat.le_of_ble_eq_true rfl), (Nat.le_of_ble_eq_true rfl)⟩ (fun x1 r3 h => ?_)
  refine jg_pcallVi (pc := 7) X (m_12_size r3 hw0 h) jM_12_size kw_1609 (jl_345_12 hn) rfl rfl rfl rfl rfl (Nat.le_of_ble_eq_true rfl) d_12_noPlace_7 ⟨(Nat.le_of_ble_eq_true rfl), (Nat.le_of_ble_eq_true rfl)⟩ ⟨(Nat.le_of_ble_eq_true rfl), (Nat.le_of_ble_eq_true rfl)⟩ (fun x5 r7 h => ?_)
  refine jg_iconst (pc := 10) X d_12_noPlace_10 ?_
  refine jg_isub (pc := 11) X d_12_noPlace_11 ?_
  obtain ⟨r9, h⟩ := h
  refine jg_pcallSi (pc := 12) X (m_12_in rv2 (⟨by decide, by decide⟩ : jRng 0) r9 hw0 h) jM_12_in kw_1638 rfl rfl (Nat.le_of_ble_eq_true rfl) d_12_noPlace_12 ⟨(Nat.le_of_ble_eq_true rfl), (Nat.le_of_ble_eq_true rfl)⟩ ⟨(Nat.le_of_ble_eq_true rfl), (Nat.le_of_ble_eq_true rfl)⟩ (fun x10 r12 h => ?_)
  refine jg_if_ne (tgt := 22) (pc := 15) X d_12_noPlace_15 (by decide) r12 h (fun c14 h => ?_) (fun c14 h => ?_)
  · refine jg_iconst (pc := 18) X d_12_noPlace_18 ?_
    refine jg_goto (tgt := 23) (pc := 19) X d_12_noPlace_19 (by decide) ?_
    exact jg_ireturn (pc := 23) X hAe hlocks hr d_12_noPlace_23 ⟨(Nat.le_of_ble_eq_true rfl), (Nat.le_of_ble_eq_true rfl)⟩ rfl (⟨by decide, by decide⟩ : jRng 1) hw0 ⟨rfl, h⟩
  · refine jg_iconst (pc := 22) X d_12_noPlace_22 ?_
    exact jg_ireturn (pc := 23) X hAe hlocks hr d_12_noPlace_23 ⟨(Nat.le_of_ble_eq_true rfl), (Nat.le_of_ble_eq_true rfl)⟩ rfl (⟨by decide, by decide⟩ : jRng 0) hw0 ⟨rfl, h⟩
set_option maxHeartbeats 4000000 in
set_option maxRecDepth 100000 in
theorem m_12_noColumn {l : Launch} {Z : jE} {n : Nat} {C : jC} {v1 : Int} {post : Int → Prop} (rv1 : jRng v1) (hw0 : jWF n C) (h : wp_12_noColumn v1 C post) : jCi l y_12_noColumn prog_14_method_14_code 2 (.boolean) q_12_noColumn Z n C [jr Z 345, jI v1] (fun x C9 => C9 = C ∧ post x) := by
  have hn := hw0.2.2.1
  unfold wp_12_noColumn at h
  refine jCi_of (lv0 := [(0, jr Z 345), (1, jI v1)]) (by decide) (Nat.le_of_ble_eq_true rfl) rfl ?_
  intro p e s m args below meth c A sz X hAe hr hlocks
  refine jg_iload_n (pc := 0) X d_12_noColumn_0 1 rfl ?_
  refine jg_iconst (pc := 1) X d_12_noColumn_1 ?_
  refine jg_aload_n (pc := 2) X d_12_noColumn_2 0 rfl ?_
  refine jg_pcallVi (pc := 3) X (m_12_columns hw0 h) jM_12_columns kw_1590 (jl_345_12 hn) rfl rfl rfl rfl rfl (Nat.le_of_ble_eq_true rfl) d_12_noColumn_3 ⟨(Nat.le_of_ble_eq_true rfl), (Nat.le_of_ble_eq_true rfl)⟩ ⟨(Nat.le_of_ble_eq_true rfl), (Nat.le_of_ble_eq_true rfl)⟩ (fun x1 r3 h => ?_)
  refine jg_iconst (pc := 6) X d_12_noColumn_6 ?_
  refine jg_isub (pc := 7) X d_12_noColumn_7 ?_
  obtain ⟨r5, h⟩ := h
  refine jg_pcallSi (pc := 8) X (m_12_in rv1 (⟨by decide, by decide⟩ : jRng 0) r5 hw0 h) jM_12_in kw_1638 rfl rfl (Nat.le_of_ble_eq_true rfl) d_12_noColumn_8 ⟨(Nat.le_of_ble_eq_true rfl), (Nat.le_of_ble_eq_true rfl)⟩ ⟨(Nat.le_of_ble_eq_true rfl), (Nat.le_of_ble_eq_true rfl)⟩ (fun x6 r8 h => ?_)
  refine jg_if_ne (tgt := 18) (pc := 11) X d_12_noColumn_11 (by decide) r8 h (fun c10 h => ?_) (fun c10 h => ?_)
  · refine jg_iconst (pc := 14) X d_12_noColumn_14 ?_
    refine jg_goto (tgt := 19) (pc := 15) X d_12_noColumn_15 (by decide) ?_
    exact jg_ireturn (pc := 19) X hAe hlocks hr d_12_noColumn_19 ⟨(Nat.le_of_ble_eq_true rfl), (Nat.le_of_ble_eq_true rfl)⟩ rfl (⟨by decide, by decide⟩ : jRng 1) hw0 ⟨rfl, h⟩
  · refine jg_iconst (pc := 18) X d_12_noColumn_18 ?_
    exact jg_ireturn (pc := 19) X hAe hlocks hr d_12_noColumn_19 ⟨(Nat.le_of_ble_eq_true rfl), (Nat.le_of_ble_eq_true rfl)⟩ rfl (⟨by decide, by decide⟩ : jRng 0) hw0 ⟨rfl, h⟩
set_option maxHeartbeats 4000000 in
set_option maxRecDepth 100000 in
theorem m_12_noCell {l : Launch} {Z : jE} {n : Nat} {C : jC} {v1 : Int} {v2 : Int} {v3 : Int} {post : Int → jC → Prop} (rv1 : jRng v1) (rv2 : jRng v2) (rv3 : jRng v3) (hw0 : jWF n C) (h : wp_12_noCell v1 v2 v3 C post) : jCi l y_12_noCell prog_14_method_74_code 4 (.boolean) q_12_noCell Z n C [jr Z 345, jI v1, jI v2, jI v3] post := by
  have hn := hw0.2.2.1
  unfold wp_12_noCell at h
  refine jCi_of (lv0 := [(0, jr Z 345), (1, jI v1), (2, jI v2), (3, jI v3)]) (by decide) (Nat.le_of_ble_eq_true rfl) rfl ?_
  intro p e s m args below meth c A sz X hAe hr hlocks
  refine jg_aload_n (pc := 0) X d_12_noCell_0 0 rfl ?_
  refine jg_iload_n (pc := 1) X d_12_noCell_1 1 rfl ?_
  refine jg_pcallSi (pc := 2) X (m_12_noView rv1 hw0 h) jM_12_noView kw_1705 rfl rfl (Nat.le_of_ble_eq_true rfl) d_12_noCell_2 ⟨(Nat.le_of_ble_eq_true rfl), (Nat.le_of_ble_eq_true rfl)⟩ ⟨(Nat.le_of_ble_eq_true rfl), (Nat.le_of_ble_eq_true rfl)⟩ (fun x1 r3 h => ?_)
  refine jg_if_ne (tgt := 25) (pc := 5) X d_12_noCell_5 (by decide) r3 h (fun c5 h => ?_) (fun c5 h => ?_)
  · refine jg_aload_n (pc := 8) X d_12_noCell_8 0 rfl ?_
    refine jg_iload_n (pc := 9) X d_12_noCell_9 1 rfl ?_
    refine jg_iload_n (pc := 10) X d_12_noCell_10 2 rfl ?_
    refine jg_pcallVi (pc := 11) X (m_12_noPlace rv1 rv2 hw0 h) jM_12_noPlace kw_1794 (jl_345_12 hn) rfl rfl rfl rfl rfl (Nat.le_of_ble_eq_true rfl) d_12_noCell_11 ⟨(Nat.le_of_ble_eq_true rfl), (Nat.le_of_ble_eq_true rfl)⟩ ⟨(Nat.le_of_ble_eq_true rfl), (Nat.le_of_ble_eq_true rfl)⟩ (fun x6 r8 h => ?_)
    refine jg_if_ne (tgt := 25) (pc := 14) X d_12_noCell_14 (by decide) r8 h (fun c10 h => ?_) (fun c10 h => ?_)
    · refine jg_aload_n (pc := 17) X d_12_noCell_17 0 rfl ?_
      refine jg_iload_n (pc := 18) X d_12_noCell_18 3 rfl ?_
      refine jg_pcallVi (pc := 19) X (m_12_noColumn rv3 hw0 h) jM_12_noColumn kw_1798 (jl_345_12 hn) rfl rfl rfl rfl rfl (Nat.le_of_ble_eq_true rfl) d_12_noCell_19 ⟨(Nat.le_of_ble_eq_true rfl), (Nat.le_of_ble_eq_true rfl)⟩ ⟨(Nat.le_of_ble_eq_true rfl), (Nat.le_of_ble_eq_true rfl)⟩ (fun x11 r13 h => ?_)
      refine jg_if_eq (tgt := 29) (pc := 22) X d_12_noCell_22 (by decide) r13 h (fun c15 h => ?_) (fun c15 h => ?_)
      · refine jg_iconst (pc := 29) X d_12_noCell_29 ?_
        refine jg_iconst (pc := 30) X d_12_noCell_30 ?_
        refine jg_callVi (pc := 31) X (m_12_throwsIf (⟨by decide, by decide⟩ : jRng 0) (⟨by decide, by decide⟩ : jRng 1) hw0 h) jM_12_throwsIf kw_1697 (jl_345_12 hn) rfl rfl rfl rfl rfl (Nat.le_of_ble_eq_true rfl) d_12_noCell_31 ⟨(Nat.le_of_ble_eq_true rfl), (Nat.le_of_ble_eq_true rfl)⟩ ⟨(Nat.le_of_ble_eq_true rfl), (Nat.le_of_ble_eq_true rfl)⟩ (fun x16 C17 r18 w19 h => ?_)
        obtain ⟨b20, h⟩ := h
        exact jg_ireturn (pc := 34) X hAe hlocks hr d_12_noCell_34 ⟨(Nat.le_of_ble_eq_true rfl), (Nat.le_of_ble_eq_true rfl)⟩ (jnar_b b20) r18 w19 h
      · refine jg_iconst (pc := 25) X d_12_noCell_25 ?_
        refine jg_goto (tgt := 30) (pc := 26) X d_12_noCell_26 (by decide) ?_
        refine jg_iconst (pc := 30) X d_12_noCell_30 ?_
        refine jg_callVi (pc := 31) X (m_12_throwsIf (⟨by decide, by decide⟩ : jRng 1) (⟨by decide, by decide⟩ : jRng 1) hw0 h) jM_12_throwsIf kw_1697 (jl_345_12 hn) rfl rfl rfl rfl rfl (Nat.le_of_ble_eq_true rfl) d_12_noCell_31 ⟨(Nat.le_of_ble_eq_true rfl), (Nat.le_of_ble_eq_true rfl)⟩ ⟨(Nat.le_of_ble_eq_true rfl), (Nat.le_of_ble_eq_true rfl)⟩ (fun x21 C22 r23 w24 h => ?_)
        obtain ⟨b25, h⟩ := h
        exact jg_ireturn (pc := 34) X hAe hlocks hr d_12_noCell_34 ⟨(Nat.le_of_ble_eq_true rfl), (Nat.le_of_ble_eq_true rfl)⟩ (jnar_b b25) r23 w24 h
    · refine jg_iconst (pc := 25) X d_12_noCell_25 ?_
      refine jg_goto (tgt := 30) (pc := 26) X d_12_noCell_26 (by decide) ?_
      refine jg_iconst (pc := 30) X d_12_noCell_30 ?_
      refine jg_callVi (pc := 31) X (m_12_throwsIf (⟨by decide, by decide⟩ : jRng 1) (⟨by decide, by decide⟩ : jRng 1) hw0 h) jM_12_throwsIf kw_1697 (jl_345_12 hn) rfl rfl rfl rfl rfl (Nat.le_of_ble_eq_true rfl) d_12_noCell_31 ⟨(Nat.le_of_ble_eq_true rfl), (Nat.le_of_ble_eq_true rfl)⟩ ⟨(Nat.le_of_ble_eq_true rfl), (Nat.le_of_ble_eq_true rfl)⟩ (fun x26 C27 r28 w29 h => ?_)
      obtain ⟨b30, h⟩ := h
      exact jg_ireturn (pc := 34) X hAe hlocks hr d_12_noCell_34 ⟨(Nat.le_of_ble_eq_true rfl), (Nat.le_of_ble_eq_true rfl)⟩ (jnar_b b30) r28 w29 h
  · refine jg_iconst (pc := 25) X d_12_noCell_25 ?_
    refine jg_goto (tgt := 30) (pc := 26) X d_12_noCell_26 (by decide) ?_
    refine jg_iconst (pc := 30) X d_12_noCell_30 ?_
    refine jg_callVi (pc := 31) X (m_12_throwsIf (⟨by decide, by decide⟩ : jRng 1) (⟨by decide, by decide⟩ : jRng 1) hw0 h) jM_12_throwsIf kw_1697 (jl_345_12 hn) rfl rfl rfl rfl rfl (Nat.le_of_ble_eq_true rfl) d_12_noCell_31 ⟨(Nat.le_of_ble_eq_true rfl), (Nat.le_of_ble_eq_true rfl)⟩ ⟨(Nat.le_of_ble_eq_true rfl), (Nat.le_of_ble_eq_true rfl)⟩ (fun x31 C32 r33 w34 h => ?_)
    obtain ⟨b35, h⟩ := h
    exact jg_ireturn (pc := 34) X hAe hlocks hr d_12_noCell_34 ⟨(Nat.le_of_ble_eq_true rfl), (Nat.le_of_ble_eq_true rfl)⟩ (jnar_b b35) r33 w34 h
set_option maxHeartbeats 4000000 in
set_option maxRecDepth 100000 in
theorem m_12_isHidden {l : Launch} {Z : jE} {n : Nat} {C : jC} {v1 : Int} {v2 : Int} {post : Int → Prop} (rv1 : jRng v1) (rv2 : jRng v2) (hw0 : jWF n C) (h : wp_12_isHidden v1 v2 C post) : jCi l y_12_isHidden prog_14_method_73_code 3 (.boolean) q_12_isHidden Z n C [jr Z 345, jI v1, jI v2] (fun x C9 => C9 = C ∧ post x) := by
  have hn := hw0.2.2.1
  unfold wp_12_isHidden at h
  refine jCi_of (lv0 := [(0, jr Z 345), (1, jI v1), (2, jI v2)]) (by decide) (Nat.le_of_ble_eq_true rfl) rfl ?_
  intro p e s m args below meth c A sz X hAe hr hlocks
  refine jg_aload_n (pc := 0) X d_12_isHidden_0 0 rfl ?_
  refine jgf_12_1 (pc := 1) X (jl_345_12 hn) kw_1474 d_12_isHidden_1 ?_
  refine jg_iload_n (pc := 4) X d_12_isHidden_4 1 rfl ?_
  refine jg_bipush (pc := 5) X d_12_isHidden_5 rfl ?_
  refine jg_pcallSi (pc := 7) X (m_12_viewAt rv1 (⟨by decide, by decide⟩ : jRng 29) hw0 h) jM_12_viewAt kw_1668 rfl rfl (Nat.le_of_ble_eq_true rfl) d_12_isHidden_7 ⟨(Nat.le_of_ble_eq_true rfl), (Nat.le_of_ble_eq_true rfl)⟩ ⟨(Nat.le_of_ble_eq_true rfl), (Nat.le_of_ble_eq_true rfl)⟩ (fun x1 r3 h => ?_)
  obtain ⟨b5, b6, h⟩ := h
  refine jg_iaload (len := 8954) (pc := 10) X d_12_isHidden_10 (jl_346_9954 hn) (fun _ => rfl) (by decide) b5 b6 ?_
  refine jg_iload_n (pc := 11) X d_12_isHidden_11 2 rfl ?_
  refine jg_pcallSi (pc := 12) X (m_12_has (hw0.1 _ _) rv2 hw0 h) jM_12_has kw_1735 rfl rfl (Nat.le_of_ble_eq_true rfl) d_12_isHidden_12 ⟨(Nat.le_of_ble_eq_true rfl), (Nat.le_of_ble_eq_true rfl)⟩ ⟨(Nat.le_of_ble_eq_true rfl), (Nat.le_of_ble_eq_true rfl)⟩ (fun x7 r9 h => ?_)
  obtain ⟨b11, h⟩ := h
  exact jg_ireturn (pc := 15) X hAe hlocks hr d_12_isHidden_15 ⟨(Nat.le_of_ble_eq_true rfl), (Nat.le_of_ble_eq_true rfl)⟩ (jnar_b b11) r9 hw0 ⟨rfl, h⟩
set_option maxHeartbeats 4000000 in
set_option maxRecDepth 100000 in
theorem m_12_isValue {l : Launch} {Z : jE} {n : Nat} {C : jC} {v1 : Int} {v2 : Int} {post : Int → Prop} (rv1 : jRng v1) (rv2 : jRng v2) (hw0 : jWF n C) (h : wp_12_isValue v1 v2 C post) : jCi l y_12_isValue prog_14_method_75_code 6 (.boolean) q_12_isValue Z n C [jr Z 345, jI v1, jI v2] (fun x C9 => C9 = C ∧ post x) := by
  have hn := hw0.2.2.1
  unfold wp_12_isValue at h
  refine jCi_of (lv0 := [(0, jr Z 345), (1, jI v1), (2, jI v2)]) (by decide) (Nat.le_of_ble_eq_true rfl) rfl ?_
  intro p e s m args below meth c A sz X hAe hr hlocks
  refine jg_aload_n (pc := 0) X d_12_isValue_0 0 rfl ?_
  refine jg_iload_n (pc := 1) X d_12_isValue_1 1 rfl ?_
  refine jg_pcallVi (pc := 2) X (m_12_isWords rv1 hw0 h) jM_12_isWords kw_1626 (jl_345_12 hn) rfl rfl rfl rfl rfl (Nat.le_of_ble_eq_true rfl) d_12_isValue_2 ⟨(Nat.le_of_ble_eq_true rfl), (Nat.le_of_ble_eq_true rfl)⟩ ⟨(Nat.le_of_ble_eq_true rfl), (Nat.le_of_ble_eq_true rfl)⟩ (fun x1 r3 h => ?_)
  refine jg_if_ne (tgt := 19) (pc := 5) X d_12_isValue_5 (by decide) r3 h (fun c5 h => ?_) (fun c5 h => ?_)
  · refine jg_iload_n (pc := 8) X d_12_isValue_8 2 rfl ?_
    refine jg_sipush (pc := 9) X d_12_isValue_9 rfl ?_
    refine jg_sipush (pc := 12) X d_12_isValue_12 rfl ?_
    refine jg_pcallSi (pc := 15) X (m_12_in rv2 (⟨by decide, by decide⟩ : jRng (-999)) (⟨by decide, by decide⟩ : jRng 999) hw0 h) jM_12_in kw_1638 rfl rfl (Nat.le_of_ble_eq_true rfl) d_12_isValue_15 ⟨(Nat.le_of_ble_eq_true rfl), (Nat.le_of_ble_eq_true rfl)⟩ ⟨(Nat.le_of_ble_eq_true rfl), (Nat.le_of_ble_eq_true rfl)⟩ (fun x6 r8 h => ?_)
    obtain ⟨b10, h⟩ := h
    exact jg_ireturn (pc := 18) X hAe hlocks hr d_12_isValue_18 ⟨(Nat.le_of_ble_eq_true rfl), (Nat.le_of_ble_eq_true rfl)⟩ (jnar_b b10) r8 hw0 ⟨rfl, h⟩
  · refine jg_iload_n (pc := 19) X d_12_isValue_19 2 rfl ?_
    refine jg_sipush (pc := 20) X d_12_isValue_20 rfl ?_
    refine jg_ldkw (pc := 23) (531440) X kw_1810 (by decide) d_12_isValue_23 ?_
    refine jg_pcallSi (pc := 26) X (m_12_in rv2 (⟨by decide, by decide⟩ : jRng 19683) (⟨by decide, by decide⟩ : jRng 531440) hw0 h) jM_12_in kw_1638 rfl rfl (Nat.le_of_ble_eq_true rfl) d_12_isValue_26 ⟨(Nat.le_of_ble_eq_true rfl), (Nat.le_of_ble_eq_true rfl)⟩ ⟨(Nat.le_of_ble_eq_true rfl), (Nat.le_of_ble_eq_true rfl)⟩ (fun x11 r13 h => ?_)
    refine jg_if_ne (tgt := 34) (pc := 29) X d_12_isValue_29 (by decide) r13 h (fun c15 h => ?_) (fun c15 h => ?_)
    · refine jg_iconst (pc := 32) X d_12_isValue_32 ?_
      exact jg_ireturn (pc := 33) X hAe hlocks hr d_12_isValue_33 ⟨(Nat.le_of_ble_eq_true rfl), (Nat.le_of_ble_eq_true rfl)⟩ rfl (⟨by decide, by decide⟩ : jRng 0) hw0 ⟨rfl, h⟩
    · refine jg_iconst (pc := 34) X d_12_isValue_34 ?_
      refine jg_istore_n (pc := 35) X [(3, jI 1), (0, jr Z 345), (1, jI v1), (2, jI v2)] d_12_isValue_35 (by decide) rfl ?_
      refine jg_iconst (pc := 36) X d_12_isValue_36 ?_
      refine jg_istore (pc := 37) X [(4, jI 1), (3, jI 1), (0, jr Z 345), (1, jI v1), (2, jI v2)] d_12_isValue_37 (by decide) rfl ?_
      refine jg_iload_n (pc := 39) X d_12_isValue_39 4 rfl ?_
      refine jg_istore (pc := 40) X [(5, jI v2), (4, jI 1), (3, jI 1), (0, jr Z 345), (1, jI v1), (2, jI v2)] d_12_isValue_40 (by decide) rfl ?_
      have hw : jWF n C := hw0
      have jl42 : ∀  (N : Nat) (v3 : Int) (v4 : Int) (v5 : Int) (rv3 : jRng v3) (rv4 : jRng v4) (rv5 : jRng v5), jI3 (wp_12_isValue_42  C post) N v3 v4 v5 → jG p l e q_12_isValue s m args below meth c 6 Z A (jws Z n C) 0 0 (MQ below (jQi Z n sz (fun x C9 => C9 = C ∧ post x)) args s q_12_isValue.cells q_12_isValue.slots (jA Z n sz)) 42 [(3, jI v3), (4, jI v4), (5, jI v5)] [] := by
        intro   N
        have hn := hw0.2.2.1
        induction N with
        | zero => intro v3 v4 v5 rv3 rv4 rv5 h; exact h.elim
        | succ N ih42 =>
          intro v3 v4 v5 rv3 rv4 rv5 h
          have h : wp_12_isValue_42  C post (jI3 (wp_12_isValue_42  C post) N) v3 v4 v5 := h
          generalize jI3 (wp_12_isValue_42  C post) N = k42 at h ih42
          unfold wp_12_isValue_42 at h
          have jb69 : ∀ (s0 : Int) (v4 : Int) (v5 : Int) (rs0 : jRng s0) (rv4 : jRng v4) (rv5 : jRng v5), wp_12_isValue_69 s0 v4 v5 C post k42 → jG p l e q_12_isValue s m args below meth c 6 Z A (jws Z n C) 0 0 (MQ below (jQi Z n sz (fun x C9 => C9 = C ∧ post x)) args s q_12_isValue.cells q_12_isValue.slots (jA Z n sz)) 69 [(4, jI v4), (5, jI v5)] [jI s0] := by
            intro s0 v4 v5 rs0 rv4 rv5 h
            unfold wp_12_isValue_69 at h
            refine jg_istore_n (pc := 69) X [(3, jI s0), (4, jI v4), (5, jI v5)] d_12_isValue_69 (by decide) rfl ?_
            refine jg_iload (pc := 70) X d_12_isValue_70 1 rfl ?_
            refine jg_if_eq (tgt := 87) (pc := 72) X d_12_isValue_72 (by decide) rv4 h (fun c16 h => ?_) (fun c16 h => ?_)
            · refine jg_iconst (pc := 87) X d_12_isValue_87 ?_
              refine jg_istore (pc := 88) X [(4, jI 0), (3, jI s0), (5, jI v5)] d_12_isValue_88 (by decide) rfl ?_
              refine jg_iload (pc := 90) X d_12_isValue_90 2 rfl ?_
              refine jg_bipush (pc := 92) X d_12_isValue_92 rfl ?_
              have r17 : jRng (v5.tdiv 27) := jrng_tdiv rv5 (by decide) (by decide)
              refine jg_idiv (pc := 94) X d_12_isValue_94 rv5 (by decide) (by decide) ?_
              refine jg_istore (pc := 95) X [(5, jI (v5.tdiv 27)), (4, jI 0), (3, jI s0)] d_12_isValue_95 (by decide) rfl ?_
              refine jg_goto (tgt := 42) (pc := 97) X d_12_isValue_97 (by decide) ?_
              refine jg_sub [2, 1, 0] rfl ?_
              exact ih42 _ _ _ rs0 (⟨by decide, by decide⟩ : jRng 0) r17 h
            · refine jg_iload (pc := 75) X d_12_isValue_75 2 rfl ?_
              refine jg_bipush (pc := 77) X d_12_isValue_77 rfl ?_
              have r18 : jRng (v5.tmod 27) := jrng_tmod rv5 (by decide) (by decide)
              refine jg_irem (pc := 79) X d_12_isValue_79 rv5 (by decide) (by decide) ?_
              refine jg_if_ne (tgt := 87) (pc := 80) X d_12_isValue_80 (by decide) r18 h (fun c19 h => ?_) (fun c19 h => ?_)
              · refine jg_iconst (pc := 83) X d_12_isValue_83 ?_
                refine jg_goto (tgt := 88) (pc := 84) X d_12_isValue_84 (by decide) ?_
                refine jg_istore (pc := 88) X [(4, jI 1), (3, jI s0), (5, jI v5)] d_12_isValue_88 (by decide) rfl ?_
                refine jg_iload (pc := 90) X d_12_isValue_90 2 rfl ?_
                refine jg_bipush (pc := 92) X d_12_isValue_92 rfl ?_
                have r20 : jRng (v5.tdiv 27) := jrng_tdiv rv5 (by decide) (by decide)
                refine jg_idiv (pc := 94) X d_12_isValue_94 rv5 (by decide) (by decide) ?_
                refine jg_istore (pc := 95) X [(5, jI (v5.tdiv 27)), (4, jI 1), (3, jI s0)] d_12_isValue_95 (by decide) rfl ?_
                refine jg_goto (tgt := 42) (pc := 97) X d_12_isValue_97 (by decide) ?_
                refine jg_sub [2, 1, 0] rfl ?_
                exact ih42 _ _ _ rs0 (⟨by decide, by decide⟩ : jRng 1) r20 h
              · refine jg_iconst (pc := 87) X d_12_isValue_87 ?_
                refine jg_istore (pc := 88) X [(4, jI 0), (3, jI s0), (5, jI v5)] d_12_isValue_88 (by decide) rfl ?_
                refine jg_iload (pc := 90) X d_12_isValue_90 2 rfl ?_
                refine jg_bipush (pc := 92) X d_12_isValue_92 rfl ?_
                have r21 : jRng (v5.tdiv 27) := jrng_tdiv rv5 (by decide) (by decide)
                refine jg_idiv (pc := 94) X d_12_isValue_94 rv5 (by decide) (by decide) ?_
                refine jg_istore (pc := 95) X [(5, jI (v5.tdiv 27)), (4, jI 0), (3, jI s0)] d_12_isValue_95 (by decide) rfl ?_
                refine jg_goto (tgt := 42) (pc := 97) X d_12_isValue_97 (by decide) ?_
                refine jg_sub [2, 1, 0] rfl ?_
                exact ih42 _ _ _ rs0 (⟨by decide, by decide⟩ : jRng 0) r21 h
          refine jg_iload (pc := 42) X d_12_isValue_42 2 rfl ?_
          refine jg_if_le (tgt := 100) (pc := 44) X d_12_isValue_44 (by decide) rv5 h (fun c22 h => ?_) (fun c22 h => ?_)
          · refine jg_iload_n (pc := 100) X d_12_isValue_100 0 rfl ?_
            obtain ⟨b23, h⟩ := h
            exact jg_ireturn (pc := 101) X hAe hlocks hr d_12_isValue_101 ⟨(Nat.le_of_ble_eq_true rfl), (Nat.le_of_ble_eq_true rfl)⟩ (jnar_b b23) rv3 hw ⟨rfl, h⟩
          · refine jg_iload_n (pc := 47) X d_12_isValue_47 0 rfl ?_
            refine jg_if_eq (tgt := 68) (pc := 48) X d_12_isValue_48 (by decide) rv3 h (fun c24 h => ?_) (fun c24 h => ?_)
            · refine jg_iconst (pc := 68) X d_12_isValue_68 ?_
              refine jg_sub [1, 2] rfl ?_
              exact jb69 _ _ _ (⟨by decide, by decide⟩ : jRng 0) rv4 rv5 h
            · refine jg_iload (pc := 51) X d_12_isValue_51 1 rfl ?_
              refine jg_if_ne (tgt := 64) (pc := 53) X d_12_isValue_53 (by decide) rv4 h (fun c25 h => ?_) (fun c25 h => ?_)
              · refine jg_iload (pc := 56) X d_12_isValue_56 2 rfl ?_
                refine jg_bipush (pc := 58) X d_12_isValue_58 rfl ?_
                have r26 : jRng (v5.tmod 27) := jrng_tmod rv5 (by decide) (by decide)
                refine jg_irem (pc := 60) X d_12_isValue_60 rv5 (by decide) (by decide) ?_
                refine jg_if_le (tgt := 68) (pc := 61) X d_12_isValue_61 (by decide) r26 h (fun c27 h => ?_) (fun c27 h => ?_)
                · refine jg_iconst (pc := 68) X d_12_isValue_68 ?_
                  refine jg_sub [1, 2] rfl ?_
                  exact jb69 _ _ _ (⟨by decide, by decide⟩ : jRng 0) rv4 rv5 h
                · refine jg_iconst (pc := 64) X d_12_isValue_64 ?_
                  refine jg_goto (tgt := 69) (pc := 65) X d_12_isValue_65 (by decide) ?_
                  refine jg_sub [1, 2] rfl ?_
                  exact jb69 _ _ _ (⟨by decide, by decide⟩ : jRng 1) rv4 rv5 h
              · refine jg_iconst (pc := 64) X d_12_isValue_64 ?_
                refine jg_goto (tgt := 69) (pc := 65) X d_12_isValue_65 (by decide) ?_
                refine jg_sub [1, 2] rfl ?_
                exact jb69 _ _ _ (⟨by decide, by decide⟩ : jRng 1) rv4 rv5 h
      obtain ⟨N, h⟩ := h
      refine jg_sub [2, 1, 0] rfl ?_
      exact jl42   N _ _ _ (⟨by decide, by decide⟩ : jRng 1) (⟨by decide, by decide⟩ : jRng 1) rv2 h

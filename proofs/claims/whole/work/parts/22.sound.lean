set_option maxHeartbeats 4000000 in
set_option maxRecDepth 100000 in
theorem m_2_sortAt {l : Launch} {Z : jE} {n : Nat} {C : jC} {v0 : Int} {v1 : Int} {post : Int → Prop} (tv0 : jT n v0 2) (rv1 : jRng v1) (hw0 : jWF n C) (h : wp_2_sortAt v0 v1 C post) : jCi l y_2_sortAt prog_4_method_5_code 2 (.int) q_2_sortAt Z n C [jr Z v0, jI v1] (fun x C9 => C9 = C ∧ post x) := by
  have hn := hw0.2.2.1
  unfold wp_2_sortAt at h
  refine jCi_of (lv0 := [(0, jr Z v0), (1, jI v1)]) (by decide) (Nat.le_of_ble_eq_true rfl) rfl ?_
  intro p e s m args below meth c A sz X hAe hr hlocks
  refine jg_iload_n (pc := 0) X d_2_sortAt_0 1 rfl ?_
  refine jg_if_lt (tgt := 26) (pc := 1) X d_2_sortAt_1 (by decide) rv1 h (fun c1 h => ?_) (fun c1 h => ?_)
  · refine jg_iconst (pc := 26) X d_2_sortAt_26 ?_
    exact jg_ireturn (pc := 27) X hAe hlocks hr d_2_sortAt_27 ⟨(Nat.le_of_ble_eq_true rfl), (Nat.le_of_ble_eq_true rfl)⟩ rfl (⟨by decide, by decide⟩ : jRng (-1)) hw0 ⟨rfl, h⟩
  · refine jg_iload_n (pc := 4) X d_2_sortAt_4 1 rfl ?_
    refine jg_aload_n (pc := 5) X d_2_sortAt_5 0 rfl ?_
    refine jgf_2_2 (pc := 6) X tv0 kw_109 d_2_sortAt_6 ?_
    refine jg_icmp_ge (tgt := 26) (pc := 9) X d_2_sortAt_9 (by decide) rv1 (hw0.1 _ _) h (fun c2 h => ?_) (fun c2 h => ?_)
    · have c2 : (C v0 2) ≤ v1 := c2
      refine jg_iconst (pc := 26) X d_2_sortAt_26 ?_
      exact jg_ireturn (pc := 27) X hAe hlocks hr d_2_sortAt_27 ⟨(Nat.le_of_ble_eq_true rfl), (Nat.le_of_ble_eq_true rfl)⟩ rfl (⟨by decide, by decide⟩ : jRng (-1)) hw0 ⟨rfl, h⟩
    · have c2 : ¬ ((C v0 2) ≤ v1) := c2
      refine jg_iload_n (pc := 12) X d_2_sortAt_12 1 rfl ?_
      refine jg_iconst (pc := 13) X d_2_sortAt_13 ?_
      refine jg_icmp_ge (tgt := 26) (pc := 14) X d_2_sortAt_14 (by decide) rv1 (⟨by decide, by decide⟩ : jRng 3) h (fun c3 h => ?_) (fun c3 h => ?_)
      · refine jg_iconst (pc := 26) X d_2_sortAt_26 ?_
        exact jg_ireturn (pc := 27) X hAe hlocks hr d_2_sortAt_27 ⟨(Nat.le_of_ble_eq_true rfl), (Nat.le_of_ble_eq_true rfl)⟩ rfl (⟨by decide, by decide⟩ : jRng (-1)) hw0 ⟨rfl, h⟩
      · refine jg_aload_n (pc := 17) X d_2_sortAt_17 0 rfl ?_
        refine jgf_2_1 (pc := 18) X tv0 kw_108 d_2_sortAt_18 ?_
        refine jg_iload_n (pc := 21) X d_2_sortAt_21 1 rfl ?_
        have b4 : 0 ≤ v1 := by (have z0 : jRng v1 := rv1; have z1 : jRng (C v0 2) := (hw0.1 _ _); unfold jRng at z0 z1; omega)
        have b5 : v1 < 3 := by (have z0 : jRng v1 := rv1; have z1 : jRng (C v0 2) := (hw0.1 _ _); unfold jRng at z0 z1; omega)
        refine jg_iaload (len := 3) (pc := 22) X d_2_sortAt_22 (jc_le_1 hn tv0) (fun _ => rfl) (by decide) b4 b5 ?_
        refine jg_goto (tgt := 27) (pc := 23) X d_2_sortAt_23 (by decide) ?_
        exact jg_ireturn (pc := 27) X hAe hlocks hr d_2_sortAt_27 ⟨(Nat.le_of_ble_eq_true rfl), (Nat.le_of_ble_eq_true rfl)⟩ rfl (hw0.1 _ _) hw0 ⟨rfl, h⟩
set_option maxHeartbeats 4000000 in
set_option maxRecDepth 100000 in
theorem m_2_sortsBy {l : Launch} {Z : jE} {n : Nat} {C : jC} {v0 : Int} {v1 : Int} {post : Int → Prop} (tv0 : jT n v0 2) (rv1 : jRng v1) (hw0 : jWF n C) (h : wp_2_sortsBy v0 v1 C post) : jCi l y_2_sortsBy prog_4_method_6_code 3 (.boolean) q_2_sortsBy Z n C [jr Z v0, jI v1] (fun x C9 => C9 = C ∧ post x) := by
  have hn := hw0.2.2.1
  unfold wp_2_sortsBy at h
  refine jCi_of (lv0 := [(0, jr Z v0), (1, jI v1)]) (by decide) (Nat.le_of_ble_eq_true rfl) rfl ?_
  intro p e s m args below meth c A sz X hAe hr hlocks
  refine jg_iconst (pc := 0) X d_2_sortsBy_0 ?_
  refine jg_istore_n (pc := 1) X [(2, jI 0), (0, jr Z v0), (1, jI v1)] d_2_sortsBy_1 (by decide) rfl ?_
  have hw : jWF n C := hw0
  have jl2 : ∀  (N : Nat) (v2 : Int) (rv2 : jRng v2), jI1 (wp_2_sortsBy_2 v0 v1 C post) N v2 → jG p l e q_2_sortsBy s m args below meth c 3 Z A (jws Z n C) 0 0 (MQ below (jQi Z n sz (fun x C9 => C9 = C ∧ post x)) args s q_2_sortsBy.cells q_2_sortsBy.slots (jA Z n sz)) 2 [(0, jr Z v0), (1, jI v1), (2, jI v2)] [] := by
    intro   N
    have hn := hw0.2.2.1
    induction N with
    | zero => intro v2 rv2 h; exact h.elim
    | succ N ih2 =>
      intro v2 rv2 h
      have h : wp_2_sortsBy_2 v0 v1 C post (jI1 (wp_2_sortsBy_2 v0 v1 C post) N) v2 := h
      generalize jI1 (wp_2_sortsBy_2 v0 v1 C post) N = k2 at h ih2
      unfold wp_2_sortsBy_2 at h
      refine jg_iload_n (pc := 2) X d_2_sortsBy_2 2 rfl ?_
      refine jg_aload_n (pc := 3) X d_2_sortsBy_3 0 rfl ?_
      refine jgf_2_2 (pc := 4) X tv0 kw_109 d_2_sortsBy_4 ?_
      refine jg_icmp_ge (tgt := 29) (pc := 7) X d_2_sortsBy_7 (by decide) rv2 (hw.1 _ _) h (fun c1 h => ?_) (fun c1 h => ?_)
      · have c1 : (C v0 2) ≤ v2 := c1
        refine jg_iconst (pc := 29) X d_2_sortsBy_29 ?_
        exact jg_ireturn (pc := 30) X hAe hlocks hr d_2_sortsBy_30 ⟨(Nat.le_of_ble_eq_true rfl), (Nat.le_of_ble_eq_true rfl)⟩ rfl (⟨by decide, by decide⟩ : jRng 0) hw ⟨rfl, h⟩
      · have c1 : ¬ ((C v0 2) ≤ v2) := c1
        refine jg_aload_n (pc := 10) X d_2_sortsBy_10 0 rfl ?_
        refine jg_iload_n (pc := 11) X d_2_sortsBy_11 2 rfl ?_
        refine jg_pcallVi (pc := 12) X (m_2_sortAt tv0 rv2 hw h) jM_2_sortAt kw_859 tv0 rfl rfl rfl rfl rfl (Nat.le_of_ble_eq_true rfl) d_2_sortsBy_12 ⟨(Nat.le_of_ble_eq_true rfl), (Nat.le_of_ble_eq_true rfl)⟩ ⟨(Nat.le_of_ble_eq_true rfl), (Nat.le_of_ble_eq_true rfl)⟩ (fun x2 r4 h => ?_)
        refine jg_iconst (pc := 15) X d_2_sortsBy_15 ?_
        have r6 : jRng (x2.tdiv 2) := jrng_tdiv r4 (by decide) (by decide)
        refine jg_idiv (pc := 16) X d_2_sortsBy_16 r4 (by decide) (by decide) ?_
        refine jg_iload_n (pc := 17) X d_2_sortsBy_17 1 rfl ?_
        refine jg_icmp_ne (tgt := 23) (pc := 18) X d_2_sortsBy_18 (by decide) r6 rv1 h (fun c7 h => ?_) (fun c7 h => ?_)
        · refine jg_iconst (pc := 21) X d_2_sortsBy_21 ?_
          exact jg_ireturn (pc := 22) X hAe hlocks hr d_2_sortsBy_22 ⟨(Nat.le_of_ble_eq_true rfl), (Nat.le_of_ble_eq_true rfl)⟩ rfl (⟨by decide, by decide⟩ : jRng 1) hw ⟨rfl, h⟩
        · refine jg_iinc (pc := 23) X [(2, jI (v2 + 1)), (0, jr Z v0), (1, jI v1)] d_2_sortsBy_23 2 rfl (by decide) rfl ?_
          refine jg_goto (tgt := 2) (pc := 26) X d_2_sortsBy_26 (by decide) ?_
          have r8 : jRng (v2 + 1) := by (unfold jRng; exact ⟨by (have z0 : jRng v2 := rv2; have z1 : jRng (C v0 2) := (hw.1 _ _); unfold jRng at z0 z1; omega), by (have z0 : jRng v2 := rv2; have z1 : jRng (C v0 2) := (hw.1 _ _); unfold jRng at z0 z1; omega)⟩)
          refine jg_sub [1, 2, 0] rfl ?_
          exact ih2 _ r8 h
  obtain ⟨N, h⟩ := h
  refine jg_sub [1, 2, 0] rfl ?_
  exact jl2   N _ (⟨by decide, by decide⟩ : jRng 0) h
set_option maxHeartbeats 4000000 in
set_option maxRecDepth 100000 in
theorem m_2_takeSort {l : Launch} {Z : jE} {n : Nat} {C : jC} {v0 : Int} {v1 : Int} {post : jC → Prop} (tv0 : jT n v0 2) (rv1 : jRng v1) (hw0 : jWF n C) (h : wp_2_takeSort v0 v1 C post) : jCv l y_2_takeSort prog_4_method_7_code 2 q_2_takeSort Z n C [jr Z v0, jI v1] post := by
  have hn := hw0.2.2.1
  unfold wp_2_takeSort at h
  refine jCv_of (lv0 := [(0, jr Z v0), (1, jI v1)]) (by decide) (Nat.le_of_ble_eq_true rfl) rfl ?_
  intro p e s m args below meth c A sz X hAe hr hlocks
  refine jg_aload_n (pc := 0) X d_2_takeSort_0 0 rfl ?_
  refine jgf_2_2 (pc := 1) X tv0 kw_109 d_2_takeSort_1 ?_
  refine jg_iconst (pc := 4) X d_2_takeSort_4 ?_
  refine jg_icmp_ge (tgt := 28) (pc := 5) X d_2_takeSort_5 (by decide) (hw0.1 _ _) (⟨by decide, by decide⟩ : jRng 3) h (fun c1 h => ?_) (fun c1 h => ?_)
  · have c1 : 3 ≤ (C v0 2) := c1
    exact jg_return (pc := 28) X hAe hlocks hr d_2_takeSort_28 ⟨(Nat.le_of_ble_eq_true rfl), (Nat.le_of_ble_eq_true rfl)⟩ hw0 h
  · have c1 : ¬ (3 ≤ (C v0 2)) := c1
    refine jg_aload_n (pc := 8) X d_2_takeSort_8 0 rfl ?_
    refine jgf_2_1 (pc := 9) X tv0 kw_108 d_2_takeSort_9 ?_
    refine jg_aload_n (pc := 12) X d_2_takeSort_12 0 rfl ?_
    refine jgf_2_2 (pc := 13) X tv0 kw_109 d_2_takeSort_13 ?_
    refine jg_iload_n (pc := 16) X d_2_takeSort_16 1 rfl ?_
    obtain ⟨b2, h⟩ := h
    have b3 : (C v0 2) < 3 := by (have z0 : jRng (C v0 2) := (hw0.1 _ _); unfold jRng at z0; omega)
    refine jg_iastore (len := 3) (pc := 17) X d_2_takeSort_17 (jc_le_1 hn tv0) (fun _ => rfl) (by decide) b2 b3 ?_
    have w4 := jWF.u (k := (C v0 2)) (v := v1) hw0 (jc_le_1 hn tv0) (by decide) rv1
    refine jg_aload_n (pc := 18) X d_2_takeSort_18 0 rfl ?_
    refine jg_dup (pc := 19) X d_2_takeSort_19 rfl ?_
    refine jgf_2_2 (pc := 20) X tv0 kw_109 d_2_takeSort_20 ?_
    refine jg_iconst (pc := 23) X d_2_takeSort_23 ?_
    refine jg_iadd (pc := 24) X d_2_takeSort_24 ?_
    obtain ⟨r5, h⟩ := h
    refine jgp_2_2 (pc := 25) X tv0 kw_109 d_2_takeSort_25 ?_
    have w6 := jWF.u (k := 2) (v := (((jU C (v0 + 2) (C v0 2) v1) v0 2) + 1)) w4 tv0 (by decide) r5
    exact jg_return (pc := 28) X hAe hlocks hr d_2_takeSort_28 ⟨(Nat.le_of_ble_eq_true rfl), (Nat.le_of_ble_eq_true rfl)⟩ w6 h
set_option maxHeartbeats 4000000 in
set_option maxRecDepth 100000 in
theorem m_9_readSort {l : Launch} {Z : jE} {n : Nat} {C : jC} {v2 : Int} {v3 : Int} {post : Int → jC → Prop} (rv2 : jRng v2) (rv3 : jRng v3) (hw0 : jWF n C) (h : wp_9_readSort v2 v3 C post) : jCi l y_9_readSort prog_11_method_15_code 4 (.boolean) q_9_readSort Z n C [jr Z 3, jr Z 1, jI v2, jI v3] post := by
  have hn := hw0.2.2.1
  unfold wp_9_readSort at h
  refine jCi_of (lv0 := [(0, jr Z 3), (1, jr Z 1), (2, jI v2), (3, jI v3)]) (by decide) (Nat.le_of_ble_eq_true rfl) rfl ?_
  intro p e s m args below meth c A sz X hAe hr hlocks
  refine jg_aload_n (pc := 0) X d_9_readSort_0 0 rfl ?_
  refine jgf_9_5 (pc := 1) X (jl_3_9 hn) kw_133 d_9_readSort_1 ?_
  refine jgfN_2_2 (pc := 4) X (jl_7_2 hn) kn_111 d_9_readSort_4 ?_
  refine jg_iconst (pc := 7) X d_9_readSort_7 ?_
  refine jg_icmp_lt (tgt := 17) (pc := 8) X d_9_readSort_8 (by decide) (hw0.1 _ _) (⟨by decide, by decide⟩ : jRng 3) h (fun c1 h => ?_) (fun c1 h => ?_)
  · have c1 : (C 7 2) < 3 := c1
    refine jg_aload_n (pc := 17) X d_9_readSort_17 0 rfl ?_
    refine jg_aload_n (pc := 18) X d_9_readSort_18 1 rfl ?_
    refine jg_callVi (pc := 19) X (m_9_readColumn hw0 h) jM_9_readColumn kw_809 (jl_3_9 hn) rfl rfl rfl rfl rfl (Nat.le_of_ble_eq_true rfl) d_9_readSort_19 ⟨(Nat.le_of_ble_eq_true rfl), (Nat.le_of_ble_eq_true rfl)⟩ ⟨(Nat.le_of_ble_eq_true rfl), (Nat.le_of_ble_eq_true rfl)⟩ (fun x2 C3 r4 w5 h => ?_)
    refine jg_if_ne (tgt := 27) (pc := 22) X d_9_readSort_22 (by decide) r4 h (fun c6 h => ?_) (fun c6 h => ?_)
    · refine jg_iconst (pc := 25) X d_9_readSort_25 ?_
      exact jg_ireturn (pc := 26) X hAe hlocks hr d_9_readSort_26 ⟨(Nat.le_of_ble_eq_true rfl), (Nat.le_of_ble_eq_true rfl)⟩ rfl (⟨by decide, by decide⟩ : jRng 0) w5 h
    · refine jg_aload_n (pc := 27) X d_9_readSort_27 0 rfl ?_
      refine jgf_9_5 (pc := 28) X (jl_3_9 hn) kw_133 d_9_readSort_28 ?_
      refine jg_aload_n (pc := 31) X d_9_readSort_31 1 rfl ?_
      refine jgfN_5_5 (pc := 32) X (jl_1_5 hn) kn_50 d_9_readSort_32 ?_
      refine jg_pcallVi (pc := 35) X (m_2_sortsBy (jl_7_2 hn) (w5.1 _ _) w5 h) jM_2_sortsBy kw_855 (jl_7_2 hn) rfl rfl rfl rfl rfl (Nat.le_of_ble_eq_true rfl) d_9_readSort_35 ⟨(Nat.le_of_ble_eq_true rfl), (Nat.le_of_ble_eq_true rfl)⟩ ⟨(Nat.le_of_ble_eq_true rfl), (Nat.le_of_ble_eq_true rfl)⟩ (fun x7 r9 h => ?_)
      refine jg_if_eq (tgt := 50) (pc := 38) X d_9_readSort_38 (by decide) r9 h (fun c11 h => ?_) (fun c11 h => ?_)
      · refine jg_aload_n (pc := 50) X d_9_readSort_50 0 rfl ?_
        refine jgf_9_5 (pc := 51) X (jl_3_9 hn) kw_133 d_9_readSort_51 ?_
        refine jg_iconst (pc := 54) X d_9_readSort_54 ?_
        refine jg_aload_n (pc := 55) X d_9_readSort_55 1 rfl ?_
        refine jgfN_5_5 (pc := 56) X (jl_1_5 hn) kn_50 d_9_readSort_56 ?_
        refine jg_imul (pc := 59) X d_9_readSort_59 ?_
        refine jg_iload_n (pc := 60) X d_9_readSort_60 3 rfl ?_
        refine jg_iadd (pc := 61) X d_9_readSort_61 ?_
        obtain ⟨r12, h⟩ := h
        refine jg_callVv (pc := 62) X (m_2_takeSort (jl_7_2 hn) r12 w5 h) jM_2_takeSort kw_863 (jl_7_2 hn) rfl rfl rfl rfl rfl (Nat.le_of_ble_eq_true rfl) d_9_readSort_62 ⟨(Nat.le_of_ble_eq_true rfl), (Nat.le_of_ble_eq_true rfl)⟩ ⟨(Nat.le_of_ble_eq_true rfl), (Nat.le_of_ble_eq_true rfl)⟩ (fun C14 w16 h => ?_)
        refine jg_iconst (pc := 65) X d_9_readSort_65 ?_
        exact jg_ireturn (pc := 66) X hAe hlocks hr d_9_readSort_66 ⟨(Nat.le_of_ble_eq_true rfl), (Nat.le_of_ble_eq_true rfl)⟩ rfl (⟨by decide, by decide⟩ : jRng 1) w16 h
      · refine jg_aload_n (pc := 41) X d_9_readSort_41 1 rfl ?_
        refine jg_aload_n (pc := 42) X d_9_readSort_42 1 rfl ?_
        refine jgfN_5_6 (pc := 43) X (jl_1_5 hn) kn_52 d_9_readSort_43 ?_
        refine jg_callVi (pc := 46) X (m_5_failAt (w5.1 _ _) w5 h) jM_5_failAt kw_559 (jl_1_5 hn) rfl rfl rfl rfl rfl (Nat.le_of_ble_eq_true rfl) d_9_readSort_46 ⟨(Nat.le_of_ble_eq_true rfl), (Nat.le_of_ble_eq_true rfl)⟩ ⟨(Nat.le_of_ble_eq_true rfl), (Nat.le_of_ble_eq_true rfl)⟩ (fun x17 C18 r19 w20 h => ?_)
        obtain ⟨b21, h⟩ := h
        exact jg_ireturn (pc := 49) X hAe hlocks hr d_9_readSort_49 ⟨(Nat.le_of_ble_eq_true rfl), (Nat.le_of_ble_eq_true rfl)⟩ (jnar_b b21) r19 w20 h
  · have c1 : ¬ ((C 7 2) < 3) := c1
    refine jg_aload_n (pc := 11) X d_9_readSort_11 1 rfl ?_
    refine jg_iload_n (pc := 12) X d_9_readSort_12 2 rfl ?_
    refine jg_callVi (pc := 13) X (m_5_failAt rv2 hw0 h) jM_5_failAt kw_559 (jl_1_5 hn) rfl rfl rfl rfl rfl (Nat.le_of_ble_eq_true rfl) d_9_readSort_13 ⟨(Nat.le_of_ble_eq_true rfl), (Nat.le_of_ble_eq_true rfl)⟩ ⟨(Nat.le_of_ble_eq_true rfl), (Nat.le_of_ble_eq_true rfl)⟩ (fun x22 C23 r24 w25 h => ?_)
    obtain ⟨b26, h⟩ := h
    exact jg_ireturn (pc := 16) X hAe hlocks hr d_9_readSort_16 ⟨(Nat.le_of_ble_eq_true rfl), (Nat.le_of_ble_eq_true rfl)⟩ (jnar_b b26) r24 w25 h
set_option maxHeartbeats 4000000 in
set_option maxRecDepth 100000 in
theorem m_2_hides {l : Launch} {Z : jE} {n : Nat} {C : jC} {v0 : Int} {v1 : Int} {post : Int → Prop} (tv0 : jT n v0 2) (rv1 : jRng v1) (hw0 : jWF n C) (h : wp_2_hides v0 v1 C post) : jCi l y_2_hides prog_4_method_4_code 2 (.boolean) q_2_hides Z n C [jr Z v0, jI v1] (fun x C9 => C9 = C ∧ post x) := by
  have hn := hw0.2.2.1
  unfold wp_2_hides at h
  refine jCi_of (lv0 := [(0, jr Z v0), (1, jI v1)]) (by decide) (Nat.le_of_ble_eq_true rfl) rfl ?_
  intro p e s m args below meth c A sz X hAe hr hlocks
  refine jg_iload_n (pc := 0) X d_2_hides_0 1 rfl ?_
  refine jg_if_lt (tgt := 25) (pc := 1) X d_2_hides_1 (by decide) rv1 h (fun c1 h => ?_) (fun c1 h => ?_)
  · refine jg_iconst (pc := 25) X d_2_hides_25 ?_
    exact jg_ireturn (pc := 26) X hAe hlocks hr d_2_hides_26 ⟨(Nat.le_of_ble_eq_true rfl), (Nat.le_of_ble_eq_true rfl)⟩ rfl (⟨by decide, by decide⟩ : jRng 0) hw0 ⟨rfl, h⟩
  · refine jg_iload_n (pc := 4) X d_2_hides_4 1 rfl ?_
    refine jg_iconst (pc := 5) X d_2_hides_5 ?_
    refine jg_icmp_ge (tgt := 25) (pc := 6) X d_2_hides_6 (by decide) rv1 (⟨by decide, by decide⟩ : jRng 5) h (fun c2 h => ?_) (fun c2 h => ?_)
    · refine jg_iconst (pc := 25) X d_2_hides_25 ?_
      exact jg_ireturn (pc := 26) X hAe hlocks hr d_2_hides_26 ⟨(Nat.le_of_ble_eq_true rfl), (Nat.le_of_ble_eq_true rfl)⟩ rfl (⟨by decide, by decide⟩ : jRng 0) hw0 ⟨rfl, h⟩
    · refine jg_aload_n (pc := 9) X d_2_hides_9 0 rfl ?_
      refine jgf_2_3 (pc := 10) X tv0 kw_112 d_2_hides_10 ?_
      refine jg_iload_n (pc := 13) X d_2_hides_13 1 rfl ?_
      refine jg_ishr (pc := 14) X d_2_hides_14 ?_
      refine jg_iconst (pc := 15) X d_2_hides_15 ?_
      refine jg_iand (pc := 16) X d_2_hides_16 ?_
      refine jg_iconst (pc := 17) X d_2_hides_17 ?_
      refine jg_icmp_ne (tgt := 25) (pc := 18) X d_2_hides_18 (by decide) (jAnd_rng _ _) (⟨by decide, by decide⟩ : jRng 1) h (fun c3 h => ?_) (fun c3 h => ?_)
      · have c3 : (jAnd (jShr (C v0 3) v1) 1) = 1 := c3
        refine jg_iconst (pc := 21) X d_2_hides_21 ?_
        refine jg_goto (tgt := 26) (pc := 22) X d_2_hides_22 (by decide) ?_
        exact jg_ireturn (pc := 26) X hAe hlocks hr d_2_hides_26 ⟨(Nat.le_of_ble_eq_true rfl), (Nat.le_of_ble_eq_true rfl)⟩ rfl (⟨by decide, by decide⟩ : jRng 1) hw0 ⟨rfl, h⟩
      · have c3 : ¬ ((jAnd (jShr (C v0 3) v1) 1) = 1) := c3
        refine jg_iconst (pc := 25) X d_2_hides_25 ?_
        exact jg_ireturn (pc := 26) X hAe hlocks hr d_2_hides_26 ⟨(Nat.le_of_ble_eq_true rfl), (Nat.le_of_ble_eq_true rfl)⟩ rfl (⟨by decide, by decide⟩ : jRng 0) hw0 ⟨rfl, h⟩
set_option maxHeartbeats 4000000 in
set_option maxRecDepth 100000 in
theorem m_9_readHide {l : Launch} {Z : jE} {n : Nat} {C : jC}  {post : Int → jC → Prop}  (hw0 : jWF n C) (h : wp_9_readHide C post) : jCi l y_9_readHide prog_11_method_16_code 2 (.boolean) q_9_readHide Z n C [jr Z 3, jr Z 1] post := by
  have hn := hw0.2.2.1
  unfold wp_9_readHide at h
  refine jCi_of (lv0 := [(0, jr Z 3), (1, jr Z 1)]) (by decide) (Nat.le_of_ble_eq_true rfl) rfl ?_
  intro p e s m args below meth c A sz X hAe hr hlocks
  refine jg_aload_n (pc := 0) X d_9_readHide_0 0 rfl ?_
  refine jg_aload_n (pc := 1) X d_9_readHide_1 1 rfl ?_
  refine jg_callVi (pc := 2) X (m_9_readColumn hw0 h) jM_9_readColumn kw_809 (jl_3_9 hn) rfl rfl rfl rfl rfl (Nat.le_of_ble_eq_true rfl) d_9_readHide_2 ⟨(Nat.le_of_ble_eq_true rfl), (Nat.le_of_ble_eq_true rfl)⟩ ⟨(Nat.le_of_ble_eq_true rfl), (Nat.le_of_ble_eq_true rfl)⟩ (fun x1 C2 r3 w4 h => ?_)
  refine jg_if_ne (tgt := 10) (pc := 5) X d_9_readHide_5 (by decide) r3 h (fun c5 h => ?_) (fun c5 h => ?_)
  · refine jg_iconst (pc := 8) X d_9_readHide_8 ?_
    exact jg_ireturn (pc := 9) X hAe hlocks hr d_9_readHide_9 ⟨(Nat.le_of_ble_eq_true rfl), (Nat.le_of_ble_eq_true rfl)⟩ rfl (⟨by decide, by decide⟩ : jRng 0) w4 h
  · refine jg_aload_n (pc := 10) X d_9_readHide_10 0 rfl ?_
    refine jgf_9_5 (pc := 11) X (jl_3_9 hn) kw_133 d_9_readHide_11 ?_
    refine jg_aload_n (pc := 14) X d_9_readHide_14 1 rfl ?_
    refine jgfN_5_5 (pc := 15) X (jl_1_5 hn) kn_50 d_9_readHide_15 ?_
    refine jg_pcallVi (pc := 18) X (m_2_hides (jl_7_2 hn) (w4.1 _ _) w4 h) jM_2_hides kw_871 (jl_7_2 hn) rfl rfl rfl rfl rfl (Nat.le_of_ble_eq_true rfl) d_9_readHide_18 ⟨(Nat.le_of_ble_eq_true rfl), (Nat.le_of_ble_eq_true rfl)⟩ ⟨(Nat.le_of_ble_eq_true rfl), (Nat.le_of_ble_eq_true rfl)⟩ (fun x6 r8 h => ?_)
    refine jg_if_eq (tgt := 33) (pc := 21) X d_9_readHide_21 (by decide) r8 h (fun c10 h => ?_) (fun c10 h => ?_)
    · refine jg_aload_n (pc := 33) X d_9_readHide_33 0 rfl ?_
      refine jgf_9_5 (pc := 34) X (jl_3_9 hn) kw_133 d_9_readHide_34 ?_
      refine jg_dup (pc := 37) X d_9_readHide_37 rfl ?_
      refine jgfN_2_3 (pc := 38) X (jl_7_2 hn) kn_114 d_9_readHide_38 ?_
      refine jg_iconst (pc := 41) X d_9_readHide_41 ?_
      refine jg_aload_n (pc := 42) X d_9_readHide_42 1 rfl ?_
      refine jgfN_5_5 (pc := 43) X (jl_1_5 hn) kn_50 d_9_readHide_43 ?_
      refine jg_ishl (pc := 46) X d_9_readHide_46 ?_
      refine jg_ior (pc := 47) X d_9_readHide_47 ?_
      refine jgpN_2_3 (pc := 48) X (jl_7_2 hn) kn_114 d_9_readHide_48 ?_
      have w11 := jWF.u (k := 3) (v := (jOr (C2 7 3) (jShl 1 (C2 1 5)))) w4 (jl_7_2 hn) (by decide) (jOr_rng _ _)
      refine jg_iconst (pc := 51) X d_9_readHide_51 ?_
      exact jg_ireturn (pc := 52) X hAe hlocks hr d_9_readHide_52 ⟨(Nat.le_of_ble_eq_true rfl), (Nat.le_of_ble_eq_true rfl)⟩ rfl (⟨by decide, by decide⟩ : jRng 1) w11 h
    · refine jg_aload_n (pc := 24) X d_9_readHide_24 1 rfl ?_
      refine jg_aload_n (pc := 25) X d_9_readHide_25 1 rfl ?_
      refine jgfN_5_6 (pc := 26) X (jl_1_5 hn) kn_52 d_9_readHide_26 ?_
      refine jg_callVi (pc := 29) X (m_5_failAt (w4.1 _ _) w4 h) jM_5_failAt kw_559 (jl_1_5 hn) rfl rfl rfl rfl rfl (Nat.le_of_ble_eq_true rfl) d_9_readHide_29 ⟨(Nat.le_of_ble_eq_true rfl), (Nat.le_of_ble_eq_true rfl)⟩ ⟨(Nat.le_of_ble_eq_true rfl), (Nat.le_of_ble_eq_true rfl)⟩ (fun x12 C13 r14 w15 h => ?_)
      obtain ⟨b16, h⟩ := h
      exact jg_ireturn (pc := 32) X hAe hlocks hr d_9_readHide_32 ⟨(Nat.le_of_ble_eq_true rfl), (Nat.le_of_ble_eq_true rfl)⟩ (jnar_b b16) r14 w15 h
set_option maxHeartbeats 4000000 in
set_option maxRecDepth 100000 in
theorem m_9_readPart {l : Launch} {Z : jE} {n : Nat} {C : jC}  {post : Int → jC → Prop}  (hw0 : jWF n C) (h : wp_9_readPart C post) : jCi l y_9_readPart prog_11_method_13_code 3 (.boolean) q_9_readPart Z n C [jr Z 3, jr Z 1] post := by
  have hn := hw0.2.2.1
  unfold wp_9_readPart at h
  refine jCi_of (lv0 := [(0, jr Z 3), (1, jr Z 1)]) (by decide) (Nat.le_of_ble_eq_true rfl) rfl ?_
  intro p e s m args below meth c A sz X hAe hr hlocks
  refine jg_aload_n (pc := 0) X d_9_readPart_0 1 rfl ?_
  refine jg_callVv (pc := 1) X (m_5_skipBlanks hw0 h) jM_5_skipBlanks kw_491 (jl_1_5 hn) rfl rfl rfl rfl rfl (Nat.le_of_ble_eq_true rfl) d_9_readPart_1 ⟨(Nat.le_of_ble_eq_true rfl), (Nat.le_of_ble_eq_true rfl)⟩ ⟨(Nat.le_of_ble_eq_true rfl), (Nat.le_of_ble_eq_true rfl)⟩ (fun C2 w4 h => ?_)
  refine jg_aload_n (pc := 4) X d_9_readPart_4 1 rfl ?_
  refine jgfN_5_3 (pc := 5) X (jl_1_5 hn) kn_47 d_9_readPart_5 ?_
  refine jg_istore_n (pc := 8) X [(2, jI (C2 1 3)), (0, jr Z 3), (1, jr Z 1)] d_9_readPart_8 (by decide) rfl ?_
  refine jg_aload_n (pc := 9) X d_9_readPart_9 2 rfl ?_
  refine jg_iload_n (pc := 10) X d_9_readPart_10 0 rfl ?_
  refine jg_pcallVi (pc := 11) X (m_5_isDigitAt (w4.1 _ _) w4 h) jM_5_isDigitAt kw_804 (jl_1_5 hn) rfl rfl rfl rfl rfl (Nat.le_of_ble_eq_true rfl) d_9_readPart_11 ⟨(Nat.le_of_ble_eq_true rfl), (Nat.le_of_ble_eq_true rfl)⟩ ⟨(Nat.le_of_ble_eq_true rfl), (Nat.le_of_ble_eq_true rfl)⟩ (fun x5 r7 h => ?_)
  refine jg_if_eq (tgt := 23) (pc := 14) X d_9_readPart_14 (by decide) r7 h (fun c9 h => ?_) (fun c9 h => ?_)
  · refine jg_aload_n (pc := 23) X d_9_readPart_23 2 rfl ?_
    refine jg_ldcS (pc := 24) "up" 8 X (by decide +kernel) d_9_readPart_24 ?_
    refine jg_callVi (pc := 26) X (m_5_takeWord (by decide) w4 h) jM_5_takeWord kw_493 (jl_1_5 hn) rfl rfl rfl rfl rfl (Nat.le_of_ble_eq_true rfl) d_9_readPart_26 ⟨(Nat.le_of_ble_eq_true rfl), (Nat.le_of_ble_eq_true rfl)⟩ ⟨(Nat.le_of_ble_eq_true rfl), (Nat.le_of_ble_eq_true rfl)⟩ (fun x10 C11 r12 w13 h => ?_)
    refine jg_if_eq (tgt := 40) (pc := 29) X d_9_readPart_29 (by decide) r12 h (fun c14 h => ?_) (fun c14 h => ?_)
    · refine jg_aload_n (pc := 40) X d_9_readPart_40 2 rfl ?_
      refine jg_ldcS (pc := 41) "down" 9 X (by decide +kernel) d_9_readPart_41 ?_
      refine jg_callVi (pc := 43) X (m_5_takeWord (by decide) w13 h) jM_5_takeWord kw_493 (jl_1_5 hn) rfl rfl rfl rfl rfl (Nat.le_of_ble_eq_true rfl) d_9_readPart_43 ⟨(Nat.le_of_ble_eq_true rfl), (Nat.le_of_ble_eq_true rfl)⟩ ⟨(Nat.le_of_ble_eq_true rfl), (Nat.le_of_ble_eq_true rfl)⟩ (fun x15 C16 r17 w18 h => ?_)
      refine jg_if_eq (tgt := 57) (pc := 46) X d_9_readPart_46 (by decide) r17 h (fun c19 h => ?_) (fun c19 h => ?_)
      · refine jg_aload_n (pc := 57) X d_9_readPart_57 2 rfl ?_
        refine jg_ldcS (pc := 58) "hide" 10 X (by decide +kernel) d_9_readPart_58 ?_
        refine jg_callVi (pc := 60) X (m_5_takeWord (by decide) w18 h) jM_5_takeWord kw_493 (jl_1_5 hn) rfl rfl rfl rfl rfl (Nat.le_of_ble_eq_true rfl) d_9_readPart_60 ⟨(Nat.le_of_ble_eq_true rfl), (Nat.le_of_ble_eq_true rfl)⟩ ⟨(Nat.le_of_ble_eq_true rfl), (Nat.le_of_ble_eq_true rfl)⟩ (fun x20 C21 r22 w23 h => ?_)
        refine jg_if_eq (tgt := 72) (pc := 63) X d_9_readPart_63 (by decide) r22 h (fun c24 h => ?_) (fun c24 h => ?_)
        · refine jg_aload_n (pc := 72) X d_9_readPart_72 2 rfl ?_
          refine jg_callVi (pc := 73) X (m_5_failHere w23 h) jM_5_failHere kw_555 (jl_1_5 hn) rfl rfl rfl rfl rfl (Nat.le_of_ble_eq_true rfl) d_9_readPart_73 ⟨(Nat.le_of_ble_eq_true rfl), (Nat.le_of_ble_eq_true rfl)⟩ ⟨(Nat.le_of_ble_eq_true rfl), (Nat.le_of_ble_eq_true rfl)⟩ (fun x25 C26 r27 w28 h => ?_)
          obtain ⟨b29, h⟩ := h
          exact jg_ireturn (pc := 76) X hAe hlocks hr d_9_readPart_76 ⟨(Nat.le_of_ble_eq_true rfl), (Nat.le_of_ble_eq_true rfl)⟩ (jnar_b b29) r27 w28 h
        · refine jg_aload_n (pc := 66) X d_9_readPart_66 1 rfl ?_
          refine jg_aload_n (pc := 67) X d_9_readPart_67 2 rfl ?_
          refine jg_callVi (pc := 68) X (m_9_readHide w23 h) jM_9_readHide kw_867 (jl_3_9 hn) rfl rfl rfl rfl rfl (Nat.le_of_ble_eq_true rfl) d_9_readPart_68 ⟨(Nat.le_of_ble_eq_true rfl), (Nat.le_of_ble_eq_true rfl)⟩ ⟨(Nat.le_of_ble_eq_true rfl), (Nat.le_of_ble_eq_true rfl)⟩ (fun x30 C31 r32 w33 h => ?_)
          obtain ⟨b34, h⟩ := h
          exact jg_ireturn (pc := 71) X hAe hlocks hr d_9_readPart_71 ⟨(Nat.le_of_ble_eq_true rfl), (Nat.le_of_ble_eq_true rfl)⟩ (jnar_b b34) r32 w33 h
      · refine jg_aload_n (pc := 49) X d_9_readPart_49 1 rfl ?_
        refine jg_aload_n (pc := 50) X d_9_readPart_50 2 rfl ?_
        refine jg_iload_n (pc := 51) X d_9_readPart_51 0 rfl ?_
        refine jg_iconst (pc := 52) X d_9_readPart_52 ?_
        refine jg_callVi (pc := 53) X (m_9_readSort (w4.1 _ _) (⟨by decide, by decide⟩ : jRng 1) w18 h) jM_9_readSort kw_851 (jl_3_9 hn) rfl rfl rfl rfl rfl (Nat.le_of_ble_eq_true rfl) d_9_readPart_53 ⟨(Nat.le_of_ble_eq_true rfl), (Nat.le_of_ble_eq_true rfl)⟩ ⟨(Nat.le_of_ble_eq_true rfl), (Nat.le_of_ble_eq_true rfl)⟩ (fun x35 C36 r37 w38 h => ?_)
        obtain ⟨b39, h⟩ := h
        exact jg_ireturn (pc := 56) X hAe hlocks hr d_9_readPart_56 ⟨(Nat.le_of_ble_eq_true rfl), (Nat.le_of_ble_eq_true rfl)⟩ (jnar_b b39) r37 w38 h
    · refine jg_aload_n (pc := 32) X d_9_readPart_32 1 rfl ?_
      refine jg_aload_n (pc := 33) X d_9_readPart_33 2 rfl ?_
      refine jg_iload_n (pc := 34) X d_9_readPart_34 0 rfl ?_
      refine jg_iconst (pc := 35) X d_9_readPart_35 ?_
      refine jg_callVi (pc := 36) X (m_9_readSort (w4.1 _ _) (⟨by decide, by decide⟩ : jRng 0) w13 h) jM_9_readSort kw_851 (jl_3_9 hn) rfl rfl rfl rfl rfl (Nat.le_of_ble_eq_true rfl) d_9_readPart_36 ⟨(Nat.le_of_ble_eq_true rfl), (Nat.le_of_ble_eq_true rfl)⟩ ⟨(Nat.le_of_ble_eq_true rfl), (Nat.le_of_ble_eq_true rfl)⟩ (fun x40 C41 r42 w43 h => ?_)
      obtain ⟨b44, h⟩ := h
      exact jg_ireturn (pc := 39) X hAe hlocks hr d_9_readPart_39 ⟨(Nat.le_of_ble_eq_true rfl), (Nat.le_of_ble_eq_true rfl)⟩ (jnar_b b44) r42 w43 h
  · refine jg_aload_n (pc := 17) X d_9_readPart_17 1 rfl ?_
    refine jg_aload_n (pc := 18) X d_9_readPart_18 2 rfl ?_
    refine jg_callVi (pc := 19) X (m_9_readFilter w4 h) jM_9_readFilter kw_805 (jl_3_9 hn) rfl rfl rfl rfl rfl (Nat.le_of_ble_eq_true rfl) d_9_readPart_19 ⟨(Nat.le_of_ble_eq_true rfl), (Nat.le_of_ble_eq_true rfl)⟩ ⟨(Nat.le_of_ble_eq_true rfl), (Nat.le_of_ble_eq_true rfl)⟩ (fun x45 C46 r47 w48 h => ?_)
    obtain ⟨b49, h⟩ := h
    exact jg_ireturn (pc := 22) X hAe hlocks hr d_9_readPart_22 ⟨(Nat.le_of_ble_eq_true rfl), (Nat.le_of_ble_eq_true rfl)⟩ (jnar_b b49) r47 w48 h
set_option maxHeartbeats 4000000 in
set_option maxRecDepth 100000 in
theorem m_9_readView {l : Launch} {Z : jE} {n : Nat} {C : jC} {v2 : Int} {post : Int → jC → Prop} (tv2 : jT n v2 7) (hw0 : jWF n C) (h : wp_9_readView v2 C post) : jCi l y_9_readView prog_11_method_12_code 4 (.boolean) q_9_readView Z n C [jr Z 3, jr Z 1, jr Z v2] post := by
  have hn := hw0.2.2.1
  unfold wp_9_readView at h
  refine jCi_of (lv0 := [(0, jr Z 3), (1, jr Z 1), (2, jr Z v2)]) (by decide) (Nat.le_of_ble_eq_true rfl) rfl ?_
  intro p e s m args below meth c A sz X hAe hr hlocks
  refine jg_aload_n (pc := 0) X d_9_readView_0 0 rfl ?_
  refine jg_aload_n (pc := 1) X d_9_readView_1 2 rfl ?_
  refine jg_callVv (pc := 2) X (m_9_knowColumns tv2 hw0 h) jM_9_knowColumns kw_473 (jl_3_9 hn) rfl rfl rfl rfl rfl (Nat.le_of_ble_eq_true rfl) d_9_readView_2 ⟨(Nat.le_of_ble_eq_true rfl), (Nat.le_of_ble_eq_true rfl)⟩ ⟨(Nat.le_of_ble_eq_true rfl), (Nat.le_of_ble_eq_true rfl)⟩ (fun C2 w4 h => ?_)
  refine jg_aload_n (pc := 5) X d_9_readView_5 0 rfl ?_
  refine jgf_9_5 (pc := 6) X (jl_3_9 hn) kw_133 d_9_readView_6 ?_
  refine jg_callVv (pc := 9) X (m_2_forget (jl_7_2 hn) w4 h) jM_2_forget kw_796 (jl_7_2 hn) rfl rfl rfl rfl rfl (Nat.le_of_ble_eq_true rfl) d_9_readView_9 ⟨(Nat.le_of_ble_eq_true rfl), (Nat.le_of_ble_eq_true rfl)⟩ ⟨(Nat.le_of_ble_eq_true rfl), (Nat.le_of_ble_eq_true rfl)⟩ (fun C6 w8 h => ?_)
  refine jg_aload_n (pc := 12) X d_9_readView_12 1 rfl ?_
  refine jg_callVi (pc := 13) X (m_5_isOver w8 h) jM_5_isOver kw_478 (jl_1_5 hn) rfl rfl rfl rfl rfl (Nat.le_of_ble_eq_true rfl) d_9_readView_13 ⟨(Nat.le_of_ble_eq_true rfl), (Nat.le_of_ble_eq_true rfl)⟩ ⟨(Nat.le_of_ble_eq_true rfl), (Nat.le_of_ble_eq_true rfl)⟩ (fun x9 C10 r11 w12 h => ?_)
  refine jg_if_eq (tgt := 21) (pc := 16) X d_9_readView_16 (by decide) r11 h (fun c13 h => ?_) (fun c13 h => ?_)
  · refine jg_iconst (pc := 21) X d_9_readView_21 ?_
    refine jg_istore_n (pc := 22) X [(3, jI 0), (0, jr Z 3), (1, jr Z 1), (2, jr Z v2)] d_9_readView_22 (by decide) rfl ?_
    have jl23 : ∀  (N : Nat) (v3 : Int) (C : jC) (rv3 : jRng v3) (hw : jWF n C), jI2 (wp_9_readView_23  post) N v3 C → jG p l e q_9_readView s m args below meth c 4 Z A (jws Z n C) 0 0 (MQ below (jQi Z n sz post) args s q_9_readView.cells q_9_readView.slots (jA Z n sz)) 23 [(0, jr Z 3), (1, jr Z 1), (3, jI v3)] [] := by
      intro   N
      have hn := hw0.2.2.1
      induction N with
      | zero => intro v3 C rv3 hw h; exact h.elim
      | succ N ih23 =>
        intro v3 C rv3 hw h
        have h : wp_9_readView_23  post (jI2 (wp_9_readView_23  post) N) v3 C := h
        generalize jI2 (wp_9_readView_23  post) N = k23 at h ih23
        unfold wp_9_readView_23 at h
        refine jg_iload_n (pc := 23) X d_9_readView_23 2 rfl ?_
        refine jg_sipush (pc := 24) X d_9_readView_24 rfl ?_
        refine jg_icmp_ge (tgt := 69) (pc := 27) X d_9_readView_27 (by decide) rv3 (⟨by decide, by decide⟩ : jRng 400) h (fun c14 h => ?_) (fun c14 h => ?_)
        · refine jg_aload_n (pc := 69) X d_9_readView_69 1 rfl ?_
          refine jg_callVi (pc := 70) X (m_5_failHere hw h) jM_5_failHere kw_555 (jl_1_5 hn) rfl rfl rfl rfl rfl (Nat.le_of_ble_eq_true rfl) d_9_readView_70 ⟨(Nat.le_of_ble_eq_true rfl), (Nat.le_of_ble_eq_true rfl)⟩ ⟨(Nat.le_of_ble_eq_true rfl), (Nat.le_of_ble_eq_true rfl)⟩ (fun x15 C16 r17 w18 h => ?_)
          obtain ⟨b19, h⟩ := h
          exact jg_ireturn (pc := 73) X hAe hlocks hr d_9_readView_73 ⟨(Nat.le_of_ble_eq_true rfl), (Nat.le_of_ble_eq_true rfl)⟩ (jnar_b b19) r17 w18 h
        · refine jg_aload_n (pc := 30) X d_9_readView_30 0 rfl ?_
          refine jg_aload_n (pc := 31) X d_9_readView_31 1 rfl ?_
          refine jg_callVi (pc := 32) X (m_9_readPart hw h) jM_9_readPart kw_800 (jl_3_9 hn) rfl rfl rfl rfl rfl (Nat.le_of_ble_eq_true rfl) d_9_readView_32 ⟨(Nat.le_of_ble_eq_true rfl), (Nat.le_of_ble_eq_true rfl)⟩ ⟨(Nat.le_of_ble_eq_true rfl), (Nat.le_of_ble_eq_true rfl)⟩ (fun x20 C21 r22 w23 h => ?_)
          refine jg_if_ne (tgt := 40) (pc := 35) X d_9_readView_35 (by decide) r22 h (fun c24 h => ?_) (fun c24 h => ?_)
          · refine jg_iconst (pc := 38) X d_9_readView_38 ?_
            exact jg_ireturn (pc := 39) X hAe hlocks hr d_9_readView_39 ⟨(Nat.le_of_ble_eq_true rfl), (Nat.le_of_ble_eq_true rfl)⟩ rfl (⟨by decide, by decide⟩ : jRng 0) w23 h
          · refine jg_aload_n (pc := 40) X d_9_readView_40 1 rfl ?_
            refine jg_callVi (pc := 41) X (m_5_isOver w23 h) jM_5_isOver kw_478 (jl_1_5 hn) rfl rfl rfl rfl rfl (Nat.le_of_ble_eq_true rfl) d_9_readView_41 ⟨(Nat.le_of_ble_eq_true rfl), (Nat.le_of_ble_eq_true rfl)⟩ ⟨(Nat.le_of_ble_eq_true rfl), (Nat.le_of_ble_eq_true rfl)⟩ (fun x25 C26 r27 w28 h => ?_)
            refine jg_if_eq (tgt := 49) (pc := 44) X d_9_readView_44 (by decide) r27 h (fun c29 h => ?_) (fun c29 h => ?_)
            · refine jg_aload_n (pc := 49) X d_9_readView_49 1 rfl ?_
              refine jg_bipush (pc := 50) X d_9_readView_50 rfl ?_
              refine jg_callVi (pc := 52) X (m_5_takeSign (⟨by decide, by decide⟩ : jRng 59) w28 h) jM_5_takeSign kw_611 (jl_1_5 hn) rfl rfl rfl rfl rfl (Nat.le_of_ble_eq_true rfl) d_9_readView_52 ⟨(Nat.le_of_ble_eq_true rfl), (Nat.le_of_ble_eq_true rfl)⟩ ⟨(Nat.le_of_ble_eq_true rfl), (Nat.le_of_ble_eq_true rfl)⟩ (fun x30 C31 r32 w33 h => ?_)
              refine jg_if_ne (tgt := 63) (pc := 55) X d_9_readView_55 (by decide) r32 h (fun c34 h => ?_) (fun c34 h => ?_)
              · refine jg_aload_n (pc := 58) X d_9_readView_58 1 rfl ?_
                refine jg_callVi (pc := 59) X (m_5_failHere w33 h) jM_5_failHere kw_555 (jl_1_5 hn) rfl rfl rfl rfl rfl (Nat.le_of_ble_eq_true rfl) d_9_readView_59 ⟨(Nat.le_of_ble_eq_true rfl), (Nat.le_of_ble_eq_true rfl)⟩ ⟨(Nat.le_of_ble_eq_true rfl), (Nat.le_of_ble_eq_true rfl)⟩ (fun x35 C36 r37 w38 h => ?_)
                obtain ⟨b39, h⟩ := h
                exact jg_ireturn (pc := 62) X hAe hlocks hr d_9_readView_62 ⟨(Nat.le_of_ble_eq_true rfl), (Nat.le_of_ble_eq_true rfl)⟩ (jnar_b b39) r37 w38 h
              · refine jg_iinc (pc := 63) X [(3, jI (v3 + 1)), (0, jr Z 3), (1, jr Z 1)] d_9_readView_63 2 rfl (by decide) rfl ?_
                refine jg_goto (tgt := 23) (pc := 66) X d_9_readView_66 (by decide) ?_
                have r40 : jRng (v3 + 1) := by (unfold jRng; exact ⟨by (have z0 : jRng v3 := rv3; unfold jRng at z0; omega), by (have z0 : jRng v3 := rv3; unfold jRng at z0; omega)⟩)
                refine jg_sub [1, 2, 0] rfl ?_
                exact ih23 _ _ r40 w33 h
            · refine jg_iconst (pc := 47) X d_9_readView_47 ?_
              exact jg_ireturn (pc := 48) X hAe hlocks hr d_9_readView_48 ⟨(Nat.le_of_ble_eq_true rfl), (Nat.le_of_ble_eq_true rfl)⟩ rfl (⟨by decide, by decide⟩ : jRng 1) w28 h
    obtain ⟨N, h⟩ := h
    refine jg_sub [1, 2, 0] rfl ?_
    exact jl23   N _ _ (⟨by decide, by decide⟩ : jRng 0) w12 h
  · refine jg_iconst (pc := 19) X d_9_readView_19 ?_
    exact jg_ireturn (pc := 20) X hAe hlocks hr d_9_readView_20 ⟨(Nat.le_of_ble_eq_true rfl), (Nat.le_of_ble_eq_true rfl)⟩ rfl (⟨by decide, by decide⟩ : jRng 1) w12 h
set_option maxHeartbeats 4000000 in
set_option maxRecDepth 100000 in
theorem m_6_takeAllOut {l : Launch} {Z : jE} {n : Nat} {C : jC} {v0 : Int} {post : jC → Prop} (tv0 : jT n v0 6) (hw0 : jWF n C) (h : wp_6_takeAllOut v0 C post) : jCv l y_6_takeAllOut prog_8_method_9_code 1 q_6_takeAllOut Z n C [jr Z v0] post := by
  have hn := hw0.2.2.1
  unfold wp_6_takeAllOut at h
  refine jCv_of (lv0 := [(0, jr Z v0)]) (by decide) (Nat.le_of_ble_eq_true rfl) rfl ?_
  intro p e s m args below meth c A sz X hAe hr hlocks
  refine jg_aload_n (pc := 0) X d_6_takeAllOut_0 0 rfl ?_
  refine jg_iconst (pc := 1) X d_6_takeAllOut_1 ?_
  refine jgp_6_1 (pc := 2) X tv0 kw_167 d_6_takeAllOut_2 ?_
  have w1 := jWF.u (k := 1) (v := 0) hw0 tv0 (by decide) (⟨by decide, by decide⟩ : jRng 0)
  exact jg_return (pc := 5) X hAe hlocks hr d_6_takeAllOut_5 ⟨(Nat.le_of_ble_eq_true rfl), (Nat.le_of_ble_eq_true rfl)⟩ w1 h
set_option maxHeartbeats 4000000 in
set_option maxRecDepth 100000 in
theorem m_7_compareBy {l : Launch} {Z : jE} {n : Nat} {C : jC} {v0 : Int} {v1 : Int} {v2 : Int} {v3 : Int} {post : Int → Prop} (tv0 : jT n v0 7) (rv1 : jRng v1) (rv2 : jRng v2) (rv3 : jRng v3) (hw0 : jWF n C) (h : wp_7_compareBy v0 v1 v2 v3 C post) : jCi l y_7_compareBy prog_9_method_14_code 7 (.int) q_7_compareBy Z n C [jr Z v0, jI v1, jI v2, jI v3] (fun x C9 => C9 = C ∧ post x) := by
  have hn := hw0.2.2.1
  unfold wp_7_compareBy at h
  refine jCi_of (lv0 := [(0, jr Z v0), (1, jI v1), (2, jI v2), (3, jI v3)]) (by decide) (Nat.le_of_ble_eq_true rfl) rfl ?_
  intro p e s m args below meth c A sz X hAe hr hlocks
  have jb68 : ∀ (s0 : Int) (v4 : Int) (v5 : Int) (rs0 : jRng s0) (rv4 : jRng v4) (rv5 : jRng v5), wp_7_compareBy_68 s0 v4 v5 C post → jG p l e q_7_compareBy s m args below meth c 7 Z A (jws Z n C) 0 0 (MQ below (jQi Z n sz (fun x C9 => C9 = C ∧ post x)) args s q_7_compareBy.cells q_7_compareBy.slots (jA Z n sz)) 68 [(4, jI v4), (5, jI v5)] [jI s0] := by
    intro s0 v4 v5 rs0 rv4 rv5 h
    unfold wp_7_compareBy_68 at h
    refine jg_istore (pc := 68) X [(6, jI s0), (4, jI v4), (5, jI v5)] d_7_compareBy_68 (by decide) rfl ?_
    refine jg_iload (pc := 70) X d_7_compareBy_70 1 rfl ?_
    refine jg_iload (pc := 72) X d_7_compareBy_72 2 rfl ?_
    refine jg_icmp_ge (tgt := 81) (pc := 74) X d_7_compareBy_74 (by decide) rv4 rv5 h (fun c1 h => ?_) (fun c1 h => ?_)
    · refine jg_iconst (pc := 81) X d_7_compareBy_81 ?_
      refine jg_iload (pc := 82) X d_7_compareBy_82 0 rfl ?_
      refine jg_icmp_eq (tgt := 91) (pc := 84) X d_7_compareBy_84 (by decide) (⟨by decide, by decide⟩ : jRng 0) rs0 h (fun c2 h => ?_) (fun c2 h => ?_)
      · refine jg_iconst (pc := 91) X d_7_compareBy_91 ?_
        exact jg_ireturn (pc := 92) X hAe hlocks hr d_7_compareBy_92 ⟨(Nat.le_of_ble_eq_true rfl), (Nat.le_of_ble_eq_true rfl)⟩ rfl (⟨by decide, by decide⟩ : jRng 1) hw0 ⟨rfl, h⟩
      · refine jg_iconst (pc := 87) X d_7_compareBy_87 ?_
        refine jg_goto (tgt := 92) (pc := 88) X d_7_compareBy_88 (by decide) ?_
        exact jg_ireturn (pc := 92) X hAe hlocks hr d_7_compareBy_92 ⟨(Nat.le_of_ble_eq_true rfl), (Nat.le_of_ble_eq_true rfl)⟩ rfl (⟨by decide, by decide⟩ : jRng (-1)) hw0 ⟨rfl, h⟩
    · refine jg_iconst (pc := 77) X d_7_compareBy_77 ?_
      refine jg_goto (tgt := 82) (pc := 78) X d_7_compareBy_78 (by decide) ?_
      refine jg_iload (pc := 82) X d_7_compareBy_82 0 rfl ?_
      refine jg_icmp_eq (tgt := 91) (pc := 84) X d_7_compareBy_84 (by decide) (⟨by decide, by decide⟩ : jRng 1) rs0 h (fun c3 h => ?_) (fun c3 h => ?_)
      · refine jg_iconst (pc := 91) X d_7_compareBy_91 ?_
        exact jg_ireturn (pc := 92) X hAe hlocks hr d_7_compareBy_92 ⟨(Nat.le_of_ble_eq_true rfl), (Nat.le_of_ble_eq_true rfl)⟩ rfl (⟨by decide, by decide⟩ : jRng 1) hw0 ⟨rfl, h⟩
      · refine jg_iconst (pc := 87) X d_7_compareBy_87 ?_
        refine jg_goto (tgt := 92) (pc := 88) X d_7_compareBy_88 (by decide) ?_
        exact jg_ireturn (pc := 92) X hAe hlocks hr d_7_compareBy_92 ⟨(Nat.le_of_ble_eq_true rfl), (Nat.le_of_ble_eq_true rfl)⟩ rfl (⟨by decide, by decide⟩ : jRng (-1)) hw0 ⟨rfl, h⟩
  refine jg_aload_n (pc := 0) X d_7_compareBy_0 0 rfl ?_
  refine jg_iload_n (pc := 1) X d_7_compareBy_1 2 rfl ?_
  refine jg_iload_n (pc := 2) X d_7_compareBy_2 1 rfl ?_
  refine jg_iconst (pc := 3) X d_7_compareBy_3 ?_
  have r4 : jRng (v1.tdiv 2) := jrng_tdiv rv1 (by decide) (by decide)
  refine jg_idiv (pc := 4) X d_7_compareBy_4 rv1 (by decide) (by decide) ?_
  refine jg_pcallVi (pc := 5) X (m_7_valueAt tv0 rv2 r4 hw0 h) jM_7_valueAt kw_894 tv0 rfl rfl rfl rfl rfl (Nat.le_of_ble_eq_true rfl) d_7_compareBy_5 ⟨(Nat.le_of_ble_eq_true rfl), (Nat.le_of_ble_eq_true rfl)⟩ ⟨(Nat.le_of_ble_eq_true rfl), (Nat.le_of_ble_eq_true rfl)⟩ (fun x5 r7 h => ?_)
  refine jg_istore (pc := 8) X [(4, jI x5), (0, jr Z v0), (1, jI v1), (2, jI v2), (3, jI v3)] d_7_compareBy_8 (by decide) rfl ?_
  refine jg_aload_n (pc := 10) X d_7_compareBy_10 1 rfl ?_
  refine jg_iload_n (pc := 11) X d_7_compareBy_11 4 rfl ?_
  refine jg_iload_n (pc := 12) X d_7_compareBy_12 2 rfl ?_
  refine jg_iconst (pc := 13) X d_7_compareBy_13 ?_
  have r9 : jRng (v1.tdiv 2) := jrng_tdiv rv1 (by decide) (by decide)
  refine jg_idiv (pc := 14) X d_7_compareBy_14 rv1 (by decide) (by decide) ?_
  refine jg_pcallVi (pc := 15) X (m_7_valueAt tv0 rv3 r9 hw0 h) jM_7_valueAt kw_894 tv0 rfl rfl rfl rfl rfl (Nat.le_of_ble_eq_true rfl) d_7_compareBy_15 ⟨(Nat.le_of_ble_eq_true rfl), (Nat.le_of_ble_eq_true rfl)⟩ ⟨(Nat.le_of_ble_eq_true rfl), (Nat.le_of_ble_eq_true rfl)⟩ (fun x10 r12 h => ?_)
  refine jg_istore (pc := 18) X [(5, jI x10), (4, jI x5), (0, jr Z v0), (1, jI v1), (2, jI v2), (3, jI v3)] d_7_compareBy_18 (by decide) rfl ?_
  refine jg_iload (pc := 20) X d_7_compareBy_20 1 rfl ?_
  refine jg_iload (pc := 22) X d_7_compareBy_22 0 rfl ?_
  refine jg_icmp_ne (tgt := 29) (pc := 24) X d_7_compareBy_24 (by decide) r7 r12 h (fun c14 h => ?_) (fun c14 h => ?_)
  · refine jg_iconst (pc := 27) X d_7_compareBy_27 ?_
    exact jg_ireturn (pc := 28) X hAe hlocks hr d_7_compareBy_28 ⟨(Nat.le_of_ble_eq_true rfl), (Nat.le_of_ble_eq_true rfl)⟩ rfl (⟨by decide, by decide⟩ : jRng 0) hw0 ⟨rfl, h⟩
  · refine jg_iload (pc := 29) X d_7_compareBy_29 1 rfl ?_
    refine jg_ldk (pc := 31) (-1000000) X kw_711 (by decide) d_7_compareBy_31 ?_
    refine jg_icmp_eq (tgt := 43) (pc := 33) X d_7_compareBy_33 (by decide) r7 (⟨by decide, by decide⟩ : jRng (-1000000)) h (fun c15 h => ?_) (fun c15 h => ?_)
    · refine jg_iload (pc := 43) X d_7_compareBy_43 1 rfl ?_
      refine jg_ldk (pc := 45) (-1000000) X kw_711 (by decide) d_7_compareBy_45 ?_
      refine jg_icmp_ne (tgt := 54) (pc := 47) X d_7_compareBy_47 (by decide) r7 (⟨by decide, by decide⟩ : jRng (-1000000)) h (fun c16 h => ?_) (fun c16 h => ?_)
      · refine jg_iconst (pc := 50) X d_7_compareBy_50 ?_
        refine jg_goto (tgt := 55) (pc := 51) X d_7_compareBy_51 (by decide) ?_
        exact jg_ireturn (pc := 55) X hAe hlocks hr d_7_compareBy_55 ⟨(Nat.le_of_ble_eq_true rfl), (Nat.le_of_ble_eq_true rfl)⟩ rfl (⟨by decide, by decide⟩ : jRng 1) hw0 ⟨rfl, h⟩
      · refine jg_iconst (pc := 54) X d_7_compareBy_54 ?_
        exact jg_ireturn (pc := 55) X hAe hlocks hr d_7_compareBy_55 ⟨(Nat.le_of_ble_eq_true rfl), (Nat.le_of_ble_eq_true rfl)⟩ rfl (⟨by decide, by decide⟩ : jRng (-1)) hw0 ⟨rfl, h⟩
    · refine jg_iload (pc := 36) X d_7_compareBy_36 0 rfl ?_
      refine jg_ldk (pc := 38) (-1000000) X kw_711 (by decide) d_7_compareBy_38 ?_
      refine jg_icmp_ne (tgt := 56) (pc := 40) X d_7_compareBy_40 (by decide) r12 (⟨by decide, by decide⟩ : jRng (-1000000)) h (fun c17 h => ?_) (fun c17 h => ?_)
      · refine jg_iload (pc := 43) X d_7_compareBy_43 1 rfl ?_
        refine jg_ldk (pc := 45) (-1000000) X kw_711 (by decide) d_7_compareBy_45 ?_
        refine jg_icmp_ne (tgt := 54) (pc := 47) X d_7_compareBy_47 (by decide) r7 (⟨by decide, by decide⟩ : jRng (-1000000)) h (fun c18 h => ?_) (fun c18 h => ?_)
        · refine jg_iconst (pc := 50) X d_7_compareBy_50 ?_
          refine jg_goto (tgt := 55) (pc := 51) X d_7_compareBy_51 (by decide) ?_
          exact jg_ireturn (pc := 55) X hAe hlocks hr d_7_compareBy_55 ⟨(Nat.le_of_ble_eq_true rfl), (Nat.le_of_ble_eq_true rfl)⟩ rfl (⟨by decide, by decide⟩ : jRng 1) hw0 ⟨rfl, h⟩
        · refine jg_iconst (pc := 54) X d_7_compareBy_54 ?_
          exact jg_ireturn (pc := 55) X hAe hlocks hr d_7_compareBy_55 ⟨(Nat.le_of_ble_eq_true rfl), (Nat.le_of_ble_eq_true rfl)⟩ rfl (⟨by decide, by decide⟩ : jRng (-1)) hw0 ⟨rfl, h⟩
      · refine jg_iload_n (pc := 56) X d_7_compareBy_56 3 rfl ?_
        refine jg_iconst (pc := 57) X d_7_compareBy_57 ?_
        have r19 : jRng (v1.tmod 2) := jrng_tmod rv1 (by decide) (by decide)
        refine jg_irem (pc := 58) X d_7_compareBy_58 rv1 (by decide) (by decide) ?_
        refine jg_iconst (pc := 59) X d_7_compareBy_59 ?_
        refine jg_icmp_ne (tgt := 67) (pc := 60) X d_7_compareBy_60 (by decide) r19 (⟨by decide, by decide⟩ : jRng 1) h (fun c20 h => ?_) (fun c20 h => ?_)
        · refine jg_iconst (pc := 63) X d_7_compareBy_63 ?_
          refine jg_goto (tgt := 68) (pc := 64) X d_7_compareBy_64 (by decide) ?_
          refine jg_sub [1, 0] rfl ?_
          exact jb68 _ _ _ (⟨by decide, by decide⟩ : jRng 1) r7 r12 h
        · refine jg_iconst (pc := 67) X d_7_compareBy_67 ?_
          refine jg_sub [1, 0] rfl ?_
          exact jb68 _ _ _ (⟨by decide, by decide⟩ : jRng 0) r7 r12 h
set_option maxHeartbeats 4000000 in
set_option maxRecDepth 100000 in
theorem m_2_isAhead {l : Launch} {Z : jE} {n : Nat} {C : jC} {v0 : Int} {v1 : Int} {v2 : Int} {v3 : Int} {post : Int → Prop} (tv0 : jT n v0 2) (tv1 : jT n v1 7) (rv2 : jRng v2) (rv3 : jRng v3) (hw0 : jWF n C) (h : wp_2_isAhead v0 v1 v2 v3 C post) : jCi l y_2_isAhead prog_4_method_11_code 6 (.boolean) q_2_isAhead Z n C [jr Z v0, jr Z v1, jI v2, jI v3] (fun x C9 => C9 = C ∧ post x) := by
  have hn := hw0.2.2.1
  unfold wp_2_isAhead at h
  refine jCi_of (lv0 := [(0, jr Z v0), (1, jr Z v1), (2, jI v2), (3, jI v3)]) (by decide) (Nat.le_of_ble_eq_true rfl) rfl ?_
  intro p e s m args below meth c A sz X hAe hr hlocks
  refine jg_iconst (pc := 0) X d_2_isAhead_0 ?_
  refine jg_istore (pc := 1) X [(4, jI 0), (0, jr Z v0), (1, jr Z v1), (2, jI v2), (3, jI v3)] d_2_isAhead_1 (by decide) rfl ?_
  have hw : jWF n C := hw0
  have jl3 : ∀  (N : Nat) (v4 : Int) (rv4 : jRng v4), jI1 (wp_2_isAhead_3 v0 v1 v2 v3 C post) N v4 → jG p l e q_2_isAhead s m args below meth c 6 Z A (jws Z n C) 0 0 (MQ below (jQi Z n sz (fun x C9 => C9 = C ∧ post x)) args s q_2_isAhead.cells q_2_isAhead.slots (jA Z n sz)) 3 [(0, jr Z v0), (1, jr Z v1), (2, jI v2), (3, jI v3), (4, jI v4)] [] := by
    intro   N
    have hn := hw0.2.2.1
    induction N with
    | zero => intro v4 rv4 h; exact h.elim
    | succ N ih3 =>
      intro v4 rv4 h
      have h : wp_2_isAhead_3 v0 v1 v2 v3 C post (jI1 (wp_2_isAhead_3 v0 v1 v2 v3 C post) N) v4 := h
      generalize jI1 (wp_2_isAhead_3 v0 v1 v2 v3 C post) N = k3 at h ih3
      unfold wp_2_isAhead_3 at h
      refine jg_iload (pc := 3) X d_2_isAhead_3 4 rfl ?_
      refine jg_aload_n (pc := 5) X d_2_isAhead_5 0 rfl ?_
      refine jgf_2_2 (pc := 6) X tv0 kw_109 d_2_isAhead_6 ?_
      refine jg_icmp_ge (tgt := 48) (pc := 9) X d_2_isAhead_9 (by decide) rv4 (hw.1 _ _) h (fun c1 h => ?_) (fun c1 h => ?_)
      · have c1 : (C v0 2) ≤ v4 := c1
        refine jg_iconst (pc := 48) X d_2_isAhead_48 ?_
        exact jg_ireturn (pc := 49) X hAe hlocks hr d_2_isAhead_49 ⟨(Nat.le_of_ble_eq_true rfl), (Nat.le_of_ble_eq_true rfl)⟩ rfl (⟨by decide, by decide⟩ : jRng 0) hw ⟨rfl, h⟩
      · have c1 : ¬ ((C v0 2) ≤ v4) := c1
        refine jg_aload_n (pc := 12) X d_2_isAhead_12 1 rfl ?_
        refine jg_aload_n (pc := 13) X d_2_isAhead_13 0 rfl ?_
        refine jg_iload (pc := 14) X d_2_isAhead_14 4 rfl ?_
        refine jg_pcallVi (pc := 16) X (m_2_sortAt tv0 rv4 hw h) jM_2_sortAt kw_859 tv0 rfl rfl rfl rfl rfl (Nat.le_of_ble_eq_true rfl) d_2_isAhead_16 ⟨(Nat.le_of_ble_eq_true rfl), (Nat.le_of_ble_eq_true rfl)⟩ ⟨(Nat.le_of_ble_eq_true rfl), (Nat.le_of_ble_eq_true rfl)⟩ (fun x2 r4 h => ?_)
        refine jg_iload_n (pc := 19) X d_2_isAhead_19 2 rfl ?_
        refine jg_iload_n (pc := 20) X d_2_isAhead_20 3 rfl ?_
        refine jg_pcallVi (pc := 21) X (m_7_compareBy tv1 r4 rv2 rv3 hw h) jM_7_compareBy kw_890 tv1 rfl rfl rfl rfl rfl (Nat.le_of_ble_eq_true rfl) d_2_isAhead_21 ⟨(Nat.le_of_ble_eq_true rfl), (Nat.le_of_ble_eq_true rfl)⟩ ⟨(Nat.le_of_ble_eq_true rfl), (Nat.le_of_ble_eq_true rfl)⟩ (fun x6 r8 h => ?_)
        refine jg_istore (pc := 24) X [(5, jI x6), (0, jr Z v0), (1, jr Z v1), (2, jI v2), (3, jI v3), (4, jI v4)] d_2_isAhead_24 (by decide) rfl ?_
        refine jg_iload (pc := 26) X d_2_isAhead_26 0 rfl ?_
        refine jg_if_eq (tgt := 42) (pc := 28) X d_2_isAhead_28 (by decide) r8 h (fun c10 h => ?_) (fun c10 h => ?_)
        · refine jg_iinc (pc := 42) X [(4, jI (v4 + 1)), (5, jI x6), (0, jr Z v0), (1, jr Z v1), (2, jI v2), (3, jI v3)] d_2_isAhead_42 5 rfl (by decide) rfl ?_
          refine jg_goto (tgt := 3) (pc := 45) X d_2_isAhead_45 (by decide) ?_
          have r11 : jRng (v4 + 1) := by (unfold jRng; exact ⟨by (have z0 : jRng v4 := rv4; have z1 : jRng (C v0 2) := (hw.1 _ _); unfold jRng at z0 z1; omega), by (have z0 : jRng v4 := rv4; have z1 : jRng (C v0 2) := (hw.1 _ _); unfold jRng at z0 z1; omega)⟩)
          refine jg_sub [2, 3, 4, 5, 0] rfl ?_
          exact ih3 _ r11 h
        · refine jg_iload (pc := 31) X d_2_isAhead_31 0 rfl ?_
          refine jg_if_ge (tgt := 40) (pc := 33) X d_2_isAhead_33 (by decide) r8 h (fun c12 h => ?_) (fun c12 h => ?_)
          · refine jg_iconst (pc := 40) X d_2_isAhead_40 ?_
            exact jg_ireturn (pc := 41) X hAe hlocks hr d_2_isAhead_41 ⟨(Nat.le_of_ble_eq_true rfl), (Nat.le_of_ble_eq_true rfl)⟩ rfl (⟨by decide, by decide⟩ : jRng 0) hw ⟨rfl, h⟩
          · refine jg_iconst (pc := 36) X d_2_isAhead_36 ?_
            refine jg_goto (tgt := 41) (pc := 37) X d_2_isAhead_37 (by decide) ?_
            exact jg_ireturn (pc := 41) X hAe hlocks hr d_2_isAhead_41 ⟨(Nat.le_of_ble_eq_true rfl), (Nat.le_of_ble_eq_true rfl)⟩ rfl (⟨by decide, by decide⟩ : jRng 1) hw ⟨rfl, h⟩
  obtain ⟨N, h⟩ := h
  refine jg_sub [1, 2, 3, 4, 0] rfl ?_
  exact jl3   N _ (⟨by decide, by decide⟩ : jRng 0) h
set_option maxHeartbeats 4000000 in
set_option maxRecDepth 100000 in
theorem m_8_freshInto {l : Launch} {Z : jE} {n : Nat} {C : jC} {v0 : Int} {v1 : Int} {v2 : Int} {post : jC → Prop} (tv0 : jT n v0 8) (tv1 : jT n v1 2) (tv2 : jT n v2 6) (hw0 : jWF n C) (h : wp_8_freshInto v0 v1 v2 C post) : jCv l y_8_freshInto prog_10_method_5_code 6 q_8_freshInto Z n C [jr Z v0, jr Z v1, jr Z v2] post := by
  have hn := hw0.2.2.1
  unfold wp_8_freshInto at h
  refine jCv_of (lv0 := [(0, jr Z v0), (1, jr Z v1), (2, jr Z v2)]) (by decide) (Nat.le_of_ble_eq_true rfl) rfl ?_
  intro p e s m args below meth c A sz X hAe hr hlocks
  refine jg_aload_n (pc := 0) X d_8_freshInto_0 2 rfl ?_
  refine jg_callVv (pc := 1) X (m_6_takeAllOut tv2 hw0 h) jM_6_takeAllOut kw_880 tv2 rfl rfl rfl rfl rfl (Nat.le_of_ble_eq_true rfl) d_8_freshInto_1 ⟨(Nat.le_of_ble_eq_true rfl), (Nat.le_of_ble_eq_true rfl)⟩ ⟨(Nat.le_of_ble_eq_true rfl), (Nat.le_of_ble_eq_true rfl)⟩ (fun C2 w4 h => ?_)
  refine jg_iconst (pc := 4) X d_8_freshInto_4 ?_
  refine jg_istore_n (pc := 5) X [(3, jI 0), (0, jr Z v0), (1, jr Z v1), (2, jr Z v2)] d_8_freshInto_5 (by decide) rfl ?_
  have jl6 : ∀  (N : Nat) (v3 : Int) (C : jC) (rv3 : jRng v3) (hw : jWF n C), jI2 (wp_8_freshInto_6 v0 v1 v2 post) N v3 C → jG p l e q_8_freshInto s m args below meth c 6 Z A (jws Z n C) 0 0 (MQ below (jQv Z n sz post) args s q_8_freshInto.cells q_8_freshInto.slots (jA Z n sz)) 6 [(0, jr Z v0), (1, jr Z v1), (2, jr Z v2), (3, jI v3)] [] := by
    intro   N
    have hn := hw0.2.2.1
    induction N with
    | zero => intro v3 C rv3 hw h; exact h.elim
    | succ N ih6 =>
      intro v3 C rv3 hw h
      have h : wp_8_freshInto_6 v0 v1 v2 post (jI2 (wp_8_freshInto_6 v0 v1 v2 post) N) v3 C := h
      generalize jI2 (wp_8_freshInto_6 v0 v1 v2 post) N = k6 at h ih6
      unfold wp_8_freshInto_6 at h
      refine jg_iload_n (pc := 6) X d_8_freshInto_6 3 rfl ?_
      refine jg_aload_n (pc := 7) X d_8_freshInto_7 0 rfl ?_
      refine jgf_8_0 (pc := 8) X tv0 kw_288 d_8_freshInto_8 ?_
      refine jgfN_7_5 (pc := 11) X (jc_st_0 hn tv0) kn_185 d_8_freshInto_11 ?_
      refine jg_pcallVi (pc := 14) X (m_6_length (jc_sh_5 hn (jc_st_0 hn tv0)) hw h) jM_6_length kw_884 (jc_sh_5 hn (jc_st_0 hn tv0)) rfl rfl rfl rfl rfl (Nat.le_of_ble_eq_true rfl) d_8_freshInto_14 ⟨(Nat.le_of_ble_eq_true rfl), (Nat.le_of_ble_eq_true rfl)⟩ ⟨(Nat.le_of_ble_eq_true rfl), (Nat.le_of_ble_eq_true rfl)⟩ (fun x5 r7 h => ?_)
      refine jg_icmp_ge (tgt := 99) (pc := 17) X d_8_freshInto_17 (by decide) rv3 r7 h (fun c9 h => ?_) (fun c9 h => ?_)
      · exact jg_return (pc := 99) X hAe hlocks hr d_8_freshInto_99 ⟨(Nat.le_of_ble_eq_true rfl), (Nat.le_of_ble_eq_true rfl)⟩ hw h
      · refine jg_aload_n (pc := 20) X d_8_freshInto_20 0 rfl ?_
        refine jgf_8_0 (pc := 21) X tv0 kw_288 d_8_freshInto_21 ?_
        refine jgfN_7_5 (pc := 24) X (jc_st_0 hn tv0) kn_185 d_8_freshInto_24 ?_
        refine jg_iload_n (pc := 27) X d_8_freshInto_27 3 rfl ?_
        refine jg_pcallVi (pc := 28) X (m_6_at (jc_sh_5 hn (jc_st_0 hn tv0)) rv3 hw h) jM_6_at kw_885 (jc_sh_5 hn (jc_st_0 hn tv0)) rfl rfl rfl rfl rfl (Nat.le_of_ble_eq_true rfl) d_8_freshInto_28 ⟨(Nat.le_of_ble_eq_true rfl), (Nat.le_of_ble_eq_true rfl)⟩ ⟨(Nat.le_of_ble_eq_true rfl), (Nat.le_of_ble_eq_true rfl)⟩ (fun x10 r12 h => ?_)
        refine jg_istore (pc := 31) X [(4, jI x10), (0, jr Z v0), (1, jr Z v1), (2, jr Z v2), (3, jI v3)] d_8_freshInto_31 (by decide) rfl ?_
        refine jg_aload_n (pc := 33) X d_8_freshInto_33 2 rfl ?_
        refine jg_aload_n (pc := 34) X d_8_freshInto_34 1 rfl ?_
        refine jgf_8_0 (pc := 35) X tv0 kw_288 d_8_freshInto_35 ?_
        refine jg_iload (pc := 38) X d_8_freshInto_38 0 rfl ?_
        refine jg_pcallVi (pc := 40) X (m_2_firstUnlike tv1 (jc_st_0 hn tv0) r12 hw h) jM_2_firstUnlike kw_743 tv1 rfl rfl rfl rfl rfl (Nat.le_of_ble_eq_true rfl) d_8_freshInto_40 ⟨(Nat.le_of_ble_eq_true rfl), (Nat.le_of_ble_eq_true rfl)⟩ ⟨(Nat.le_of_ble_eq_true rfl), (Nat.le_of_ble_eq_true rfl)⟩ (fun x14 r16 h => ?_)
        refine jg_iconst (pc := 43) X d_8_freshInto_43 ?_
        refine jg_icmp_ne (tgt := 93) (pc := 44) X d_8_freshInto_44 (by decide) r16 (⟨by decide, by decide⟩ : jRng (-1)) h (fun c18 h => ?_) (fun c18 h => ?_)
        · refine jg_aload_n (pc := 47) X d_8_freshInto_47 3 rfl ?_
          refine jg_pcallVi (pc := 48) X (m_6_length tv2 hw h) jM_6_length kw_884 tv2 rfl rfl rfl rfl rfl (Nat.le_of_ble_eq_true rfl) d_8_freshInto_48 ⟨(Nat.le_of_ble_eq_true rfl), (Nat.le_of_ble_eq_true rfl)⟩ ⟨(Nat.le_of_ble_eq_true rfl), (Nat.le_of_ble_eq_true rfl)⟩ (fun x19 r21 h => ?_)
          refine jg_istore (pc := 51) X [(5, jI x19), (4, jI x10), (0, jr Z v0), (1, jr Z v1), (2, jr Z v2), (3, jI v3)] d_8_freshInto_51 (by decide) rfl ?_
          have jl53 : ∀ (v4 : Int) (rv4 : jRng v4) (N : Nat) (v5 : Int) (rv5 : jRng v5), jI1 (wp_8_freshInto_53 v0 v1 v2 v3 v4 C post k6) N v5 → jG p l e q_8_freshInto s m args below meth c 6 Z A (jws Z n C) 0 0 (MQ below (jQv Z n sz post) args s q_8_freshInto.cells q_8_freshInto.slots (jA Z n sz)) 53 [(0, jr Z v0), (1, jr Z v1), (2, jr Z v2), (3, jI v3), (4, jI v4), (5, jI v5)] [] := by
            intro v4 rv4 N
            have hn := hw0.2.2.1
            induction N with
            | zero => intro v5 rv5 h; exact h.elim
            | succ N ih53 =>
              intro v5 rv5 h
              have h : wp_8_freshInto_53 v0 v1 v2 v3 v4 C post k6 (jI1 (wp_8_freshInto_53 v0 v1 v2 v3 v4 C post k6) N) v5 := h
              generalize jI1 (wp_8_freshInto_53 v0 v1 v2 v3 v4 C post k6) N = k53 at h ih53
              unfold wp_8_freshInto_53 at h
              refine jg_iload (pc := 53) X d_8_freshInto_53 5 rfl ?_
              refine jg_if_le (tgt := 85) (pc := 55) X d_8_freshInto_55 (by decide) rv5 h (fun c23 h => ?_) (fun c23 h => ?_)
              · refine jg_aload_n (pc := 85) X d_8_freshInto_85 2 rfl ?_
                refine jg_iload (pc := 86) X d_8_freshInto_86 5 rfl ?_
                refine jg_iload (pc := 88) X d_8_freshInto_88 4 rfl ?_
                refine jg_callVv (pc := 90) X (m_6_putAt tv2 rv5 rv4 hw h) jM_6_putAt kw_895 tv2 rfl rfl rfl rfl rfl (Nat.le_of_ble_eq_true rfl) d_8_freshInto_90 ⟨(Nat.le_of_ble_eq_true rfl), (Nat.le_of_ble_eq_true rfl)⟩ ⟨(Nat.le_of_ble_eq_true rfl), (Nat.le_of_ble_eq_true rfl)⟩ (fun C25 w27 h => ?_)
                refine jg_iinc (pc := 93) X [(3, jI (v3 + 1)), (0, jr Z v0), (1, jr Z v1), (2, jr Z v2), (4, jI v4), (5, jI v5)] d_8_freshInto_93 3 rfl (by decide) rfl ?_
                refine jg_goto (tgt := 6) (pc := 96) X d_8_freshInto_96 (by decide) ?_
                obtain ⟨r28, h⟩ := h
                refine jg_sub [1, 2, 3, 0] rfl ?_
                exact ih6 _ _ r28 w27 h
              · refine jg_aload_n (pc := 58) X d_8_freshInto_58 1 rfl ?_
                refine jg_aload_n (pc := 59) X d_8_freshInto_59 0 rfl ?_
                refine jgf_8_0 (pc := 60) X tv0 kw_288 d_8_freshInto_60 ?_
                refine jg_iload (pc := 63) X d_8_freshInto_63 4 rfl ?_
                refine jg_aload_n (pc := 65) X d_8_freshInto_65 2 rfl ?_
                refine jg_iload (pc := 66) X d_8_freshInto_66 5 rfl ?_
                refine jg_iconst (pc := 68) X d_8_freshInto_68 ?_
                refine jg_isub (pc := 69) X d_8_freshInto_69 ?_
                have r29 : jRng (v5 - 1) := by (unfold jRng; exact ⟨by (have z0 : jRng v5 := rv5; unfold jRng at z0; omega), by (have z0 : jRng v5 := rv5; unfold jRng at z0; omega)⟩)
                refine jg_pcallVi (pc := 70) X (m_6_at tv2 r29 hw h) jM_6_at kw_885 tv2 rfl rfl rfl rfl rfl (Nat.le_of_ble_eq_true rfl) d_8_freshInto_70 ⟨(Nat.le_of_ble_eq_true rfl), (Nat.le_of_ble_eq_true rfl)⟩ ⟨(Nat.le_of_ble_eq_true rfl), (Nat.le_of_ble_eq_true rfl)⟩ (fun x30 r32 h => ?_)
                refine jg_pcallVi (pc := 73) X (m_2_isAhead tv1 (jc_st_0 hn tv0) rv4 r32 hw h) jM_2_isAhead kw_886 tv1 rfl rfl rfl rfl rfl (Nat.le_of_ble_eq_true rfl) d_8_freshInto_73 ⟨(Nat.le_of_ble_eq_true rfl), (Nat.le_of_ble_eq_true rfl)⟩ ⟨(Nat.le_of_ble_eq_true rfl), (Nat.le_of_ble_eq_true rfl)⟩ (fun x34 r36 h => ?_)
                refine jg_if_eq (tgt := 85) (pc := 76) X d_8_freshInto_76 (by decide) r36 h (fun c38 h => ?_) (fun c38 h => ?_)
                · refine jg_aload_n (pc := 85) X d_8_freshInto_85 2 rfl ?_
                  refine jg_iload (pc := 86) X d_8_freshInto_86 5 rfl ?_
                  refine jg_iload (pc := 88) X d_8_freshInto_88 4 rfl ?_
                  refine jg_callVv (pc := 90) X (m_6_putAt tv2 rv5 rv4 hw h) jM_6_putAt kw_895 tv2 rfl rfl rfl rfl rfl (Nat.le_of_ble_eq_true rfl) d_8_freshInto_90 ⟨(Nat.le_of_ble_eq_true rfl), (Nat.le_of_ble_eq_true rfl)⟩ ⟨(Nat.le_of_ble_eq_true rfl), (Nat.le_of_ble_eq_true rfl)⟩ (fun C40 w42 h => ?_)
                  refine jg_iinc (pc := 93) X [(3, jI (v3 + 1)), (0, jr Z v0), (1, jr Z v1), (2, jr Z v2), (4, jI v4), (5, jI v5)] d_8_freshInto_93 3 rfl (by decide) rfl ?_
                  refine jg_goto (tgt := 6) (pc := 96) X d_8_freshInto_96 (by decide) ?_
                  obtain ⟨r43, h⟩ := h
                  refine jg_sub [1, 2, 3, 0] rfl ?_
                  exact ih6 _ _ r43 w42 h
                · refine jg_iinc (pc := 79) X [(5, jI (v5 + (-1))), (0, jr Z v0), (1, jr Z v1), (2, jr Z v2), (3, jI v3), (4, jI v4)] d_8_freshInto_79 5 rfl (by decide) rfl ?_
                  refine jg_goto (tgt := 53) (pc := 82) X d_8_freshInto_82 (by decide) ?_
                  have r44 : jRng (v5 + (-1)) := by (unfold jRng; exact ⟨by (have z0 : jRng v5 := rv5; unfold jRng at z0; omega), by (have z0 : jRng v5 := rv5; unfold jRng at z0; omega)⟩)
                  refine jg_sub [1, 2, 3, 4, 5, 0] rfl ?_
                  exact ih53 _ r44 h
          obtain ⟨N, h⟩ := h
          refine jg_sub [2, 3, 4, 5, 1, 0] rfl ?_
          exact jl53 _ r12 N _ r21 h
        · refine jg_iinc (pc := 93) X [(3, jI (v3 + 1)), (4, jI x10), (0, jr Z v0), (1, jr Z v1), (2, jr Z v2)] d_8_freshInto_93 4 rfl (by decide) rfl ?_
          refine jg_goto (tgt := 6) (pc := 96) X d_8_freshInto_96 (by decide) ?_
          have r45 : jRng (v3 + 1) := by (unfold jRng; exact ⟨by (have z0 : jRng v3 := rv3; have z1 : jRng x5 := r7; unfold jRng at z0 z1; omega), by (have z0 : jRng v3 := rv3; have z1 : jRng x5 := r7; unfold jRng at z0 z1; omega)⟩)
          refine jg_sub [2, 3, 4, 0] rfl ?_
          exact ih6 _ _ r45 hw h
  obtain ⟨N, h⟩ := h
  refine jg_sub [1, 2, 3, 0] rfl ?_
  exact jl6   N _ _ (⟨by decide, by decide⟩ : jRng 0) w4 h
set_option maxHeartbeats 4000000 in
set_option maxRecDepth 100000 in
theorem m_11_view {l : Launch} {Z : jE} {n : Nat} {C : jC} {v1 : Int} {ex : String → jC → Prop} {post : Int → jC → Prop} (rv1 : jRng v1) (hw0 : jWF n C) (h : wp_11_view v1 C ex post) : jXi l y_11_view prog_1_method_5_code 3 (.int) q_11_view Z n C [jr Z 0, jI v1] ex post := by
  have hn := hw0.2.2.1
  unfold wp_11_view at h
  refine jXi_of (lv0 := [(0, jr Z 0), (1, jI v1)]) (by decide) (Nat.le_of_ble_eq_true rfl) rfl ?_
  intro p e s m args below meth c A sz X hAe hr hlocks htab
  refine jg_aload_n (pc := 0) X d_11_view_0 0 rfl ?_
  refine jgf_11_0 (pc := 1) X (jl_0_11 hn) kw_336 d_11_view_1 ?_
  refine jg_callVv (pc := 4) X (m_5_useUp hw0 h) jM_5_useUp kw_771 (jl_1_5 hn) rfl rfl rfl rfl rfl (Nat.le_of_ble_eq_true rfl) d_11_view_4 ⟨(Nat.le_of_ble_eq_true rfl), (Nat.le_of_ble_eq_true rfl)⟩ ⟨(Nat.le_of_ble_eq_true rfl), (Nat.le_of_ble_eq_true rfl)⟩ (fun C2 w4 h => ?_)
  refine jg_aload_n (pc := 7) X d_11_view_7 0 rfl ?_
  refine jg_iload_n (pc := 8) X d_11_view_8 1 rfl ?_
  refine jg_pxcallVr (pc := 9) X hAe htab hlocks (m_11_viewNumbered rv1 w4 h) jM_11_viewNumbered kw_772 (jl_0_11 hn) rfl rfl rfl rfl rfl (Nat.le_of_ble_eq_true rfl) d_11_view_9 ⟨(Nat.le_of_ble_eq_true rfl), (Nat.le_of_ble_eq_true rfl)⟩ ⟨(Nat.le_of_ble_eq_true rfl), (Nat.le_of_ble_eq_true rfl)⟩ ⟨(Nat.le_of_ble_eq_true rfl), (Nat.le_of_ble_eq_true rfl)⟩ (fun x5 h => ?_)
  obtain ⟨t9, h⟩ := h
  refine jg_eqst (congrArg (· :: _) (jn_pos t9.1)) ?_
  refine jg_astore_n (pc := 12) X [(2, jr Z x5), (0, jr Z 0), (1, jI v1)] d_11_view_12 (by decide) rfl ?_
  refine jg_aload_n (pc := 13) X d_11_view_13 1 rfl ?_
  refine jgf_11_0 (pc := 14) X (jl_0_11 hn) kw_336 d_11_view_14 ?_
  refine jg_callVv (pc := 17) X (m_5_openUsedText w4 h) jM_5_openUsedText kw_791 (jl_1_5 hn) rfl rfl rfl rfl rfl (Nat.le_of_ble_eq_true rfl) d_11_view_17 ⟨(Nat.le_of_ble_eq_true rfl), (Nat.le_of_ble_eq_true rfl)⟩ ⟨(Nat.le_of_ble_eq_true rfl), (Nat.le_of_ble_eq_true rfl)⟩ (fun C11 w13 h => ?_)
  refine jg_aload_n (pc := 20) X d_11_view_20 1 rfl ?_
  refine jgf_11_1 (pc := 21) X (jl_0_11 hn) kw_337 d_11_view_21 ?_
  refine jg_aload_n (pc := 24) X d_11_view_24 1 rfl ?_
  refine jgf_11_0 (pc := 25) X (jl_0_11 hn) kw_336 d_11_view_25 ?_
  refine jg_aload_n (pc := 28) X d_11_view_28 1 rfl ?_
  refine jgf_11_2 (pc := 29) X (jl_0_11 hn) kw_338 d_11_view_29 ?_
  refine jgfN_8_0 (pc := 32) X (jl_35_8 hn) kn_290 d_11_view_32 ?_
  refine jg_callVi (pc := 35) X (m_9_readView (jl_36_7 hn) w13 h) jM_9_readView kw_792 (jl_3_9 hn) rfl rfl rfl rfl rfl (Nat.le_of_ble_eq_true rfl) d_11_view_35 ⟨(Nat.le_of_ble_eq_true rfl), (Nat.le_of_ble_eq_true rfl)⟩ ⟨(Nat.le_of_ble_eq_true rfl), (Nat.le_of_ble_eq_true rfl)⟩ (fun x14 C15 r16 w17 h => ?_)
  refine jg_if_ne (tgt := 49) (pc := 38) X d_11_view_38 (by decide) r16 h (fun c18 h => ?_) (fun c18 h => ?_)
  · exact jg_throw (pc := 41) X hAe htab hlocks (by decide) kw_612 kw_22 th_58 tg_58 d_11_view_41 d_11_view_44 d_11_view_45 d_11_view_48 ⟨(Nat.le_of_ble_eq_true rfl), (Nat.le_of_ble_eq_true rfl), (Nat.le_of_ble_eq_true rfl), (Nat.le_of_ble_eq_true rfl)⟩ ⟨(Nat.le_of_ble_eq_true rfl), (Nat.le_of_ble_eq_true rfl)⟩ w17 h
  · refine jg_aload_n (pc := 49) X d_11_view_49 0 rfl ?_
    refine jgfN_10_0 (pc := 50) X t9 kn_271 d_11_view_50 ?_
    refine jg_aload_n (pc := 53) X d_11_view_53 1 rfl ?_
    refine jgf_11_1 (pc := 54) X (jl_0_11 hn) kw_337 d_11_view_54 ?_
    refine jgfN_9_5 (pc := 57) X (jl_3_9 hn) kn_134 d_11_view_57 ?_
    refine jg_callVv (pc := 60) X (m_2_copyFrom (jc_vi_0 hn t9) (jl_7_2 hn) w17 h) jM_2_copyFrom kw_875 (jc_vi_0 hn t9) rfl rfl rfl rfl rfl (Nat.le_of_ble_eq_true rfl) d_11_view_60 ⟨(Nat.le_of_ble_eq_true rfl), (Nat.le_of_ble_eq_true rfl)⟩ ⟨(Nat.le_of_ble_eq_true rfl), (Nat.le_of_ble_eq_true rfl)⟩ (fun C20 w22 h => ?_)
    refine jg_aload_n (pc := 63) X d_11_view_63 1 rfl ?_
    refine jgf_11_2 (pc := 64) X (jl_0_11 hn) kw_338 d_11_view_64 ?_
    refine jg_aload_n (pc := 67) X d_11_view_67 0 rfl ?_
    refine jgfN_10_0 (pc := 68) X t9 kn_271 d_11_view_68 ?_
    refine jg_aload_n (pc := 71) X d_11_view_71 0 rfl ?_
    refine jgfN_10_1 (pc := 72) X t9 kn_275 d_11_view_72 ?_
    refine jg_callVv (pc := 75) X (m_8_freshInto (jl_35_8 hn) (jc_vi_0 hn t9) (jc_vi_1 hn t9) w22 h) jM_8_freshInto kw_876 (jl_35_8 hn) rfl rfl rfl rfl rfl (Nat.le_of_ble_eq_true rfl) d_11_view_75 ⟨(Nat.le_of_ble_eq_true rfl), (Nat.le_of_ble_eq_true rfl)⟩ ⟨(Nat.le_of_ble_eq_true rfl), (Nat.le_of_ble_eq_true rfl)⟩ (fun C24 w26 h => ?_)
    refine jg_aload_n (pc := 78) X d_11_view_78 0 rfl ?_
    refine jgfN_10_1 (pc := 79) X t9 kn_275 d_11_view_79 ?_
    refine jg_pcallVi (pc := 82) X (m_6_length (jc_vi_1 hn t9) w26 h) jM_6_length kw_896 (jc_vi_1 hn t9) rfl rfl rfl rfl rfl (Nat.le_of_ble_eq_true rfl) d_11_view_82 ⟨(Nat.le_of_ble_eq_true rfl), (Nat.le_of_ble_eq_true rfl)⟩ ⟨(Nat.le_of_ble_eq_true rfl), (Nat.le_of_ble_eq_true rfl)⟩ (fun x27 r29 h => ?_)
    refine jg_ret_x ?_
    exact jg_ireturn (pc := 85) X hAe hlocks hr d_11_view_85 ⟨(Nat.le_of_ble_eq_true rfl), (Nat.le_of_ble_eq_true rfl)⟩ rfl r29 w26 h
set_option maxHeartbeats 4000000 in
set_option maxRecDepth 100000 in
theorem m_11_needColumn {l : Launch} {Z : jE} {n : Nat} {C : jC} {v1 : Int} {ex : String → jC → Prop} {post : Prop} (rv1 : jRng v1) (hw0 : jWF n C) (h : wp_11_needColumn v1 C ex post) : jXv l y_11_needColumn prog_1_method_50_code 2 q_11_needColumn Z n C [jr Z 0, jI v1] ex (fun C9 => C9 = C ∧ post) := by
  have hn := hw0.2.2.1
  unfold wp_11_needColumn at h
  refine jXv_of (lv0 := [(0, jr Z 0), (1, jI v1)]) (by decide) (Nat.le_of_ble_eq_true rfl) rfl ?_
  intro p e s m args below meth c A sz X hAe hr hlocks htab
  refine jg_aload_n (pc := 0) X d_11_needColumn_0 0 rfl ?_
  refine jgf_11_2 (pc := 1) X (jl_0_11 hn) kw_338 d_11_needColumn_1 ?_
  refine jgfN_8_0 (pc := 4) X (jl_35_8 hn) kn_290 d_11_needColumn_4 ?_
  refine jg_iload_n (pc := 7) X d_11_needColumn_7 1 rfl ?_
  refine jg_pcallVi (pc := 8) X (m_7_isColumn (jl_36_7 hn) rv1 hw0 h) jM_7_isColumn kw_908 (jl_36_7 hn) rfl rfl rfl rfl rfl (Nat.le_of_ble_eq_true rfl) d_11_needColumn_8 ⟨(Nat.le_of_ble_eq_true rfl), (Nat.le_of_ble_eq_true rfl)⟩ ⟨(Nat.le_of_ble_eq_true rfl), (Nat.le_of_ble_eq_true rfl)⟩ (fun x1 r3 h => ?_)
  refine jg_if_ne (tgt := 22) (pc := 11) X d_11_needColumn_11 (by decide) r3 h (fun c5 h => ?_) (fun c5 h => ?_)
  · exact jg_throw (pc := 14) X hAe htab hlocks (by decide) kw_776 kw_24 th_347 tg_347 d_11_needColumn_14 d_11_needColumn_17 d_11_needColumn_18 d_11_needColumn_21 ⟨(Nat.le_of_ble_eq_true rfl), (Nat.le_of_ble_eq_true rfl), (Nat.le_of_ble_eq_true rfl), (Nat.le_of_ble_eq_true rfl)⟩ ⟨(Nat.le_of_ble_eq_true rfl), (Nat.le_of_ble_eq_true rfl)⟩ hw0 h
  · refine jg_ret_x ?_
    exact jg_return (pc := 22) X hAe hlocks hr d_11_needColumn_22 ⟨(Nat.le_of_ble_eq_true rfl), (Nat.le_of_ble_eq_true rfl)⟩ hw0 ⟨rfl, h⟩
set_option maxHeartbeats 4000000 in
set_option maxRecDepth 100000 in
theorem m_7_kindOf {l : Launch} {Z : jE} {n : Nat} {C : jC} {v0 : Int} {v1 : Int} {post : Int → Prop} (tv0 : jT n v0 7) (rv1 : jRng v1) (hw0 : jWF n C) (h : wp_7_kindOf v0 v1 C post) : jCi l y_7_kindOf prog_9_method_5_code 2 (.int) q_7_kindOf Z n C [jr Z v0, jI v1] (fun x C9 => C9 = C ∧ post x) := by
  have hn := hw0.2.2.1
  unfold wp_7_kindOf at h
  refine jCi_of (lv0 := [(0, jr Z v0), (1, jI v1)]) (by decide) (Nat.le_of_ble_eq_true rfl) rfl ?_
  intro p e s m args below meth c A sz X hAe hr hlocks
  refine jg_aload_n (pc := 0) X d_7_kindOf_0 0 rfl ?_
  refine jg_iload_n (pc := 1) X d_7_kindOf_1 1 rfl ?_
  refine jg_pcallVi (pc := 2) X (m_7_isColumn tv0 rv1 hw0 h) jM_7_isColumn kw_716 tv0 rfl rfl rfl rfl rfl (Nat.le_of_ble_eq_true rfl) d_7_kindOf_2 ⟨(Nat.le_of_ble_eq_true rfl), (Nat.le_of_ble_eq_true rfl)⟩ ⟨(Nat.le_of_ble_eq_true rfl), (Nat.le_of_ble_eq_true rfl)⟩ (fun x1 r3 h => ?_)
  refine jg_if_eq (tgt := 17) (pc := 5) X d_7_kindOf_5 (by decide) r3 h (fun c5 h => ?_) (fun c5 h => ?_)
  · refine jg_iconst (pc := 17) X d_7_kindOf_17 ?_
    exact jg_ireturn (pc := 18) X hAe hlocks hr d_7_kindOf_18 ⟨(Nat.le_of_ble_eq_true rfl), (Nat.le_of_ble_eq_true rfl)⟩ rfl (⟨by decide, by decide⟩ : jRng (-1)) hw0 ⟨rfl, h⟩
  · refine jg_aload_n (pc := 8) X d_7_kindOf_8 0 rfl ?_
    refine jgf_7_1 (pc := 9) X tv0 kw_178 d_7_kindOf_9 ?_
    refine jg_iload_n (pc := 12) X d_7_kindOf_12 1 rfl ?_
    obtain ⟨b6, b7, h⟩ := h
    refine jg_iaload (len := 5) (pc := 13) X d_7_kindOf_13 (jc_sh_1 hn tv0) (fun _ => rfl) (by decide) b6 b7 ?_
    refine jg_goto (tgt := 18) (pc := 14) X d_7_kindOf_14 (by decide) ?_
    exact jg_ireturn (pc := 18) X hAe hlocks hr d_7_kindOf_18 ⟨(Nat.le_of_ble_eq_true rfl), (Nat.le_of_ble_eq_true rfl)⟩ rfl (hw0.1 _ _) hw0 ⟨rfl, h⟩
set_option maxHeartbeats 4000000 in
set_option maxRecDepth 100000 in
theorem m_11_kind {l : Launch} {Z : jE} {n : Nat} {C : jC} {v1 : Int} {ex : String → jC → Prop} {post : Int → Prop} (rv1 : jRng v1) (hw0 : jWF n C) (h : wp_11_kind v1 C ex post) : jXi l y_11_kind prog_1_method_7_code 2 (.int) q_11_kind Z n C [jr Z 0, jI v1] ex (fun x C9 => C9 = C ∧ post x) := by
  have hn := hw0.2.2.1
  unfold wp_11_kind at h
  refine jXi_of (lv0 := [(0, jr Z 0), (1, jI v1)]) (by decide) (Nat.le_of_ble_eq_true rfl) rfl ?_
  intro p e s m args below meth c A sz X hAe hr hlocks htab
  refine jg_aload_n (pc := 0) X d_11_kind_0 0 rfl ?_
  refine jg_iload_n (pc := 1) X d_11_kind_1 1 rfl ?_
  refine jg_pxcallVv (pc := 2) X hAe htab hlocks (m_11_needColumn rv1 hw0 h) jM_11_needColumn kw_904 (jl_0_11 hn) rfl rfl rfl rfl rfl (Nat.le_of_ble_eq_true rfl) d_11_kind_2 ⟨(Nat.le_of_ble_eq_true rfl), (Nat.le_of_ble_eq_true rfl)⟩ ⟨(Nat.le_of_ble_eq_true rfl), (Nat.le_of_ble_eq_true rfl)⟩ ⟨(Nat.le_of_ble_eq_true rfl), (Nat.le_of_ble_eq_true rfl)⟩ (fun h => ?_)
  refine jg_aload_n (pc := 5) X d_11_kind_5 0 rfl ?_
  refine jgf_11_2 (pc := 6) X (jl_0_11 hn) kw_338 d_11_kind_6 ?_
  refine jgfN_8_0 (pc := 9) X (jl_35_8 hn) kn_290 d_11_kind_9 ?_
  refine jg_iload_n (pc := 12) X d_11_kind_12 1 rfl ?_
  refine jg_pcallVi (pc := 13) X (m_7_kindOf (jl_36_7 hn) rv1 hw0 h) jM_7_kindOf kw_909 (jl_36_7 hn) rfl rfl rfl rfl rfl (Nat.le_of_ble_eq_true rfl) d_11_kind_13 ⟨(Nat.le_of_ble_eq_true rfl), (Nat.le_of_ble_eq_true rfl)⟩ ⟨(Nat.le_of_ble_eq_true rfl), (Nat.le_of_ble_eq_true rfl)⟩ (fun x5 r7 h => ?_)
  refine jg_ret_x ?_
  exact jg_ireturn (pc := 16) X hAe hlocks hr d_11_kind_16 ⟨(Nat.le_of_ble_eq_true rfl), (Nat.le_of_ble_eq_true rfl)⟩ rfl r7 hw0 ⟨rfl, h⟩
set_option maxHeartbeats 4000000 in
set_option maxRecDepth 100000 in
theorem m_7_seatOf {l : Launch} {Z : jE} {n : Nat} {C : jC} {v0 : Int} {v1 : Int} {post : Int → Prop} (tv0 : jT n v0 7) (rv1 : jRng v1) (hw0 : jWF n C) (h : wp_7_seatOf v0 v1 C post) : jCi l y_7_seatOf prog_9_method_7_code 4 (.int) q_7_seatOf Z n C [jr Z v0, jI v1] (fun x C9 => C9 = C ∧ post x) := by
  have hn := hw0.2.2.1
  unfold wp_7_seatOf at h
  refine jCi_of (lv0 := [(0, jr Z v0), (1, jI v1)]) (by decide) (Nat.le_of_ble_eq_true rfl) rfl ?_
  intro p e s m args below meth c A sz X hAe hr hlocks
  refine jg_iconst (pc := 0) X d_7_seatOf_0 ?_
  refine jg_istore_n (pc := 1) X [(2, jI 0), (0, jr Z v0), (1, jI v1)] d_7_seatOf_1 (by decide) rfl ?_
  have hw : jWF n C := hw0
  have jl2 : ∀  (N : Nat) (v2 : Int) (rv2 : jRng v2), jI1 (wp_7_seatOf_2 v0 v1 C post) N v2 → jG p l e q_7_seatOf s m args below meth c 4 Z A (jws Z n C) 0 0 (MQ below (jQi Z n sz (fun x C9 => C9 = C ∧ post x)) args s q_7_seatOf.cells q_7_seatOf.slots (jA Z n sz)) 2 [(0, jr Z v0), (1, jI v1), (2, jI v2)] [] := by
    intro   N
    have hn := hw0.2.2.1
    induction N with
    | zero => intro v2 rv2 h; exact h.elim
    | succ N ih2 =>
      intro v2 rv2 h
      have h : wp_7_seatOf_2 v0 v1 C post (jI1 (wp_7_seatOf_2 v0 v1 C post) N) v2 := h
      generalize jI1 (wp_7_seatOf_2 v0 v1 C post) N = k2 at h ih2
      unfold wp_7_seatOf_2 at h
      refine jg_iload_n (pc := 2) X d_7_seatOf_2 2 rfl ?_
      refine jg_aload_n (pc := 3) X d_7_seatOf_3 0 rfl ?_
      refine jgf_7_5 (pc := 4) X tv0 kw_184 d_7_seatOf_4 ?_
      refine jg_pcallVi (pc := 7) X (m_6_length (jc_sh_5 hn tv0) hw h) jM_6_length kw_444 (jc_sh_5 hn tv0) rfl rfl rfl rfl rfl (Nat.le_of_ble_eq_true rfl) d_7_seatOf_7 ⟨(Nat.le_of_ble_eq_true rfl), (Nat.le_of_ble_eq_true rfl)⟩ ⟨(Nat.le_of_ble_eq_true rfl), (Nat.le_of_ble_eq_true rfl)⟩ (fun x1 r3 h => ?_)
      refine jg_icmp_ge (tgt := 39) (pc := 10) X d_7_seatOf_10 (by decide) rv2 r3 h (fun c5 h => ?_) (fun c5 h => ?_)
      · refine jg_iconst (pc := 39) X d_7_seatOf_39 ?_
        exact jg_ireturn (pc := 40) X hAe hlocks hr d_7_seatOf_40 ⟨(Nat.le_of_ble_eq_true rfl), (Nat.le_of_ble_eq_true rfl)⟩ rfl (⟨by decide, by decide⟩ : jRng (-1)) hw ⟨rfl, h⟩
      · refine jg_aload_n (pc := 13) X d_7_seatOf_13 0 rfl ?_
        refine jgf_7_5 (pc := 14) X tv0 kw_184 d_7_seatOf_14 ?_
        refine jg_iload_n (pc := 17) X d_7_seatOf_17 2 rfl ?_
        refine jg_pcallVi (pc := 18) X (m_6_at (jc_sh_5 hn tv0) rv2 hw h) jM_6_at kw_928 (jc_sh_5 hn tv0) rfl rfl rfl rfl rfl (Nat.le_of_ble_eq_true rfl) d_7_seatOf_18 ⟨(Nat.le_of_ble_eq_true rfl), (Nat.le_of_ble_eq_true rfl)⟩ ⟨(Nat.le_of_ble_eq_true rfl), (Nat.le_of_ble_eq_true rfl)⟩ (fun x6 r8 h => ?_)
        refine jg_istore_n (pc := 21) X [(3, jI x6), (0, jr Z v0), (1, jI v1), (2, jI v2)] d_7_seatOf_21 (by decide) rfl ?_
        refine jg_aload_n (pc := 22) X d_7_seatOf_22 1 rfl ?_
        refine jg_iload_n (pc := 23) X d_7_seatOf_23 0 rfl ?_
        refine jg_pcallVi (pc := 24) X (m_7_keyAt tv0 r8 hw h) jM_7_keyAt kw_929 tv0 rfl rfl rfl rfl rfl (Nat.le_of_ble_eq_true rfl) d_7_seatOf_24 ⟨(Nat.le_of_ble_eq_true rfl), (Nat.le_of_ble_eq_true rfl)⟩ ⟨(Nat.le_of_ble_eq_true rfl), (Nat.le_of_ble_eq_true rfl)⟩ (fun x10 r12 h => ?_)
        refine jg_iload_n (pc := 27) X d_7_seatOf_27 2 rfl ?_
        refine jg_icmp_ne (tgt := 33) (pc := 28) X d_7_seatOf_28 (by decide) r12 rv1 h (fun c14 h => ?_) (fun c14 h => ?_)
        · refine jg_iload_n (pc := 31) X d_7_seatOf_31 0 rfl ?_
          exact jg_ireturn (pc := 32) X hAe hlocks hr d_7_seatOf_32 ⟨(Nat.le_of_ble_eq_true rfl), (Nat.le_of_ble_eq_true rfl)⟩ rfl r8 hw ⟨rfl, h⟩
        · refine jg_iinc (pc := 33) X [(2, jI (v2 + 1)), (3, jI x6), (0, jr Z v0), (1, jI v1)] d_7_seatOf_33 3 rfl (by decide) rfl ?_
          refine jg_goto (tgt := 2) (pc := 36) X d_7_seatOf_36 (by decide) ?_
          have r15 : jRng (v2 + 1) := by (unfold jRng; exact ⟨by (have z0 : jRng v2 := rv2; have z1 : jRng x1 := r3; unfold jRng at z0 z1; omega), by (have z0 : jRng v2 := rv2; have z1 : jRng x1 := r3; unfold jRng at z0 z1; omega)⟩)
          refine jg_sub [2, 3, 0] rfl ?_
          exact ih2 _ r15 h
  obtain ⟨N, h⟩ := h
  refine jg_sub [1, 2, 0] rfl ?_
  exact jl2   N _ (⟨by decide, by decide⟩ : jRng 0) h
set_option maxHeartbeats 4000000 in
set_option maxRecDepth 100000 in
theorem m_11_seatOfKey {l : Launch} {Z : jE} {n : Nat} {C : jC} {v1 : Int} {ex : String → jC → Prop} {post : Int → Prop} (rv1 : jRng v1) (hw0 : jWF n C) (h : wp_11_seatOfKey v1 C ex post) : jXi l y_11_seatOfKey prog_1_method_49_code 3 (.int) q_11_seatOfKey Z n C [jr Z 0, jI v1] ex (fun x C9 => C9 = C ∧ post x) := by
  have hn := hw0.2.2.1
  unfold wp_11_seatOfKey at h
  refine jXi_of (lv0 := [(0, jr Z 0), (1, jI v1)]) (by decide) (Nat.le_of_ble_eq_true rfl) rfl ?_
  intro p e s m args below meth c A sz X hAe hr hlocks htab
  refine jg_aload_n (pc := 0) X d_11_seatOfKey_0 0 rfl ?_
  refine jgf_11_2 (pc := 1) X (jl_0_11 hn) kw_338 d_11_seatOfKey_1 ?_
  refine jgfN_8_0 (pc := 4) X (jl_35_8 hn) kn_290 d_11_seatOfKey_4 ?_
  refine jg_iload_n (pc := 7) X d_11_seatOfKey_7 1 rfl ?_
  refine jg_pcallVi (pc := 8) X (m_7_seatOf (jl_36_7 hn) rv1 hw0 h) jM_7_seatOf kw_924 (jl_36_7 hn) rfl rfl rfl rfl rfl (Nat.le_of_ble_eq_true rfl) d_11_seatOfKey_8 ⟨(Nat.le_of_ble_eq_true rfl), (Nat.le_of_ble_eq_true rfl)⟩ ⟨(Nat.le_of_ble_eq_true rfl), (Nat.le_of_ble_eq_true rfl)⟩ (fun x1 r3 h => ?_)
  refine jg_istore_n (pc := 11) X [(2, jI x1), (0, jr Z 0), (1, jI v1)] d_11_seatOfKey_11 (by decide) rfl ?_
  refine jg_iload_n (pc := 12) X d_11_seatOfKey_12 0 rfl ?_
  refine jg_iconst (pc := 13) X d_11_seatOfKey_13 ?_
  refine jg_icmp_ne (tgt := 25) (pc := 14) X d_11_seatOfKey_14 (by decide) r3 (⟨by decide, by decide⟩ : jRng (-1)) h (fun c5 h => ?_) (fun c5 h => ?_)
  · exact jg_throw (pc := 17) X hAe htab hlocks (by decide) kw_776 kw_24 th_347 tg_347 d_11_seatOfKey_17 d_11_seatOfKey_20 d_11_seatOfKey_21 d_11_seatOfKey_24 ⟨(Nat.le_of_ble_eq_true rfl), (Nat.le_of_ble_eq_true rfl), (Nat.le_of_ble_eq_true rfl), (Nat.le_of_ble_eq_true rfl)⟩ ⟨(Nat.le_of_ble_eq_true rfl), (Nat.le_of_ble_eq_true rfl)⟩ hw0 h
  · refine jg_iload_n (pc := 25) X d_11_seatOfKey_25 0 rfl ?_
    refine jg_ret_x ?_
    exact jg_ireturn (pc := 26) X hAe hlocks hr d_11_seatOfKey_26 ⟨(Nat.le_of_ble_eq_true rfl), (Nat.le_of_ble_eq_true rfl)⟩ rfl r3 hw0 ⟨rfl, h⟩
set_option maxHeartbeats 4000000 in
set_option maxRecDepth 100000 in
theorem m_11_cell {l : Launch} {Z : jE} {n : Nat} {C : jC} {v1 : Int} {v2 : Int} {ex : String → jC → Prop} {post : Int → Prop} (rv1 : jRng v1) (rv2 : jRng v2) (hw0 : jWF n C) (h : wp_11_cell v1 v2 C ex post) : jXi l y_11_cell prog_1_method_8_code 4 (.int) q_11_cell Z n C [jr Z 0, jI v1, jI v2] ex (fun x C9 => C9 = C ∧ post x) := by
  have hn := hw0.2.2.1
  unfold wp_11_cell at h
  refine jXi_of (lv0 := [(0, jr Z 0), (1, jI v1), (2, jI v2)]) (by decide) (Nat.le_of_ble_eq_true rfl) rfl ?_
  intro p e s m args below meth c A sz X hAe hr hlocks htab
  refine jg_aload_n (pc := 0) X d_11_cell_0 0 rfl ?_
  refine jg_iload_n (pc := 1) X d_11_cell_1 1 rfl ?_
  refine jg_pxcallVi (pc := 2) X hAe htab hlocks (m_11_seatOfKey rv1 hw0 h) jM_11_seatOfKey kw_920 (jl_0_11 hn) rfl rfl rfl rfl rfl (Nat.le_of_ble_eq_true rfl) d_11_cell_2 ⟨(Nat.le_of_ble_eq_true rfl), (Nat.le_of_ble_eq_true rfl)⟩ ⟨(Nat.le_of_ble_eq_true rfl), (Nat.le_of_ble_eq_true rfl)⟩ ⟨(Nat.le_of_ble_eq_true rfl), (Nat.le_of_ble_eq_true rfl)⟩ (fun x1 r3 h => ?_)
  refine jg_istore_n (pc := 5) X [(3, jI x1), (0, jr Z 0), (1, jI v1), (2, jI v2)] d_11_cell_5 (by decide) rfl ?_
  refine jg_aload_n (pc := 6) X d_11_cell_6 1 rfl ?_
  refine jg_iload_n (pc := 7) X d_11_cell_7 3 rfl ?_
  refine jg_pxcallVv (pc := 8) X hAe htab hlocks (m_11_needColumn rv2 hw0 h) jM_11_needColumn kw_904 (jl_0_11 hn) rfl rfl rfl rfl rfl (Nat.le_of_ble_eq_true rfl) d_11_cell_8 ⟨(Nat.le_of_ble_eq_true rfl), (Nat.le_of_ble_eq_true rfl)⟩ ⟨(Nat.le_of_ble_eq_true rfl), (Nat.le_of_ble_eq_true rfl)⟩ ⟨(Nat.le_of_ble_eq_true rfl), (Nat.le_of_ble_eq_true rfl)⟩ (fun h => ?_)
  refine jg_aload_n (pc := 11) X d_11_cell_11 1 rfl ?_
  refine jgf_11_2 (pc := 12) X (jl_0_11 hn) kw_338 d_11_cell_12 ?_
  refine jgfN_8_0 (pc := 15) X (jl_35_8 hn) kn_290 d_11_cell_15 ?_
  refine jg_iload_n (pc := 18) X d_11_cell_18 0 rfl ?_
  refine jg_iload_n (pc := 19) X d_11_cell_19 3 rfl ?_
  refine jg_pcallVi (pc := 20) X (m_7_valueAt (jl_36_7 hn) r3 rv2 hw0 h) jM_7_valueAt kw_930 (jl_36_7 hn) rfl rfl rfl rfl rfl (Nat.le_of_ble_eq_true rfl) d_11_cell_20 ⟨(Nat.le_of_ble_eq_true rfl), (Nat.le_of_ble_eq_true rfl)⟩ ⟨(Nat.le_of_ble_eq_true rfl), (Nat.le_of_ble_eq_true rfl)⟩ (fun x9 r11 h => ?_)
  refine jg_ret_x ?_
  exact jg_ireturn (pc := 23) X hAe hlocks hr d_11_cell_23 ⟨(Nat.le_of_ble_eq_true rfl), (Nat.le_of_ble_eq_true rfl)⟩ rfl r11 hw0 ⟨rfl, h⟩
set_option maxHeartbeats 4000000 in
set_option maxRecDepth 100000 in
theorem m_11_row {l : Launch} {Z : jE} {n : Nat} {C : jC} {v1 : Int} {v2 : Int} {ex : String → jC → Prop} {post : Int → Prop} (rv1 : jRng v1) (rv2 : jRng v2) (hw0 : jWF n C) (h : wp_11_row v1 v2 C ex post) : jXi l y_11_row prog_1_method_10_code 3 (.int) q_11_row Z n C [jr Z 0, jI v1, jI v2] ex (fun x C9 => C9 = C ∧ post x) := by
  have hn := hw0.2.2.1
  unfold wp_11_row at h
  refine jXi_of (lv0 := [(0, jr Z 0), (1, jI v1), (2, jI v2)]) (by decide) (Nat.le_of_ble_eq_true rfl) rfl ?_
  intro p e s m args below meth c A sz X hAe hr hlocks htab
  refine jg_aload_n (pc := 0) X d_11_row_0 0 rfl ?_
  refine jgf_11_2 (pc := 1) X (jl_0_11 hn) kw_338 d_11_row_1 ?_
  refine jgfN_8_0 (pc := 4) X (jl_35_8 hn) kn_290 d_11_row_4 ?_
  refine jg_aload_n (pc := 7) X d_11_row_7 0 rfl ?_
  refine jg_iload_n (pc := 8) X d_11_row_8 1 rfl ?_
  refine jg_pxcallVr (pc := 9) X hAe htab hlocks (m_11_viewNumbered rv1 hw0 h) jM_11_viewNumbered kw_772 (jl_0_11 hn) rfl rfl rfl rfl rfl (Nat.le_of_ble_eq_true rfl) d_11_row_9 ⟨(Nat.le_of_ble_eq_true rfl), (Nat.le_of_ble_eq_true rfl)⟩ ⟨(Nat.le_of_ble_eq_true rfl), (Nat.le_of_ble_eq_true rfl)⟩ ⟨(Nat.le_of_ble_eq_true rfl), (Nat.le_of_ble_eq_true rfl)⟩ (fun x1 h => ?_)
  obtain ⟨t5, h⟩ := h
  refine jg_eqst (congrArg (· :: _) (jn_pos t5.1)) ?_
  refine jgfN_10_1 (pc := 12) X t5 kn_275 d_11_row_12 ?_
  refine jg_iload_n (pc := 15) X d_11_row_15 2 rfl ?_
  refine jg_pcallVi (pc := 16) X (m_6_at (jc_vi_1 hn t5) rv2 hw0 h) jM_6_at kw_372 (jc_vi_1 hn t5) rfl rfl rfl rfl rfl (Nat.le_of_ble_eq_true rfl) d_11_row_16 ⟨(Nat.le_of_ble_eq_true rfl), (Nat.le_of_ble_eq_true rfl)⟩ ⟨(Nat.le_of_ble_eq_true rfl), (Nat.le_of_ble_eq_true rfl)⟩ (fun x6 r8 h => ?_)
  refine jg_pcallVi (pc := 19) X (m_7_keyAt (jl_36_7 hn) r8 hw0 h) jM_7_keyAt kw_376 (jl_36_7 hn) rfl rfl rfl rfl rfl (Nat.le_of_ble_eq_true rfl) d_11_row_19 ⟨(Nat.le_of_ble_eq_true rfl), (Nat.le_of_ble_eq_true rfl)⟩ ⟨(Nat.le_of_ble_eq_true rfl), (Nat.le_of_ble_eq_true rfl)⟩ (fun x10 r12 h => ?_)
  refine jg_ret_x ?_
  exact jg_ireturn (pc := 22) X hAe hlocks hr d_11_row_22 ⟨(Nat.le_of_ble_eq_true rfl), (Nat.le_of_ble_eq_true rfl)⟩ rfl r12 hw0 ⟨rfl, h⟩
set_option maxHeartbeats 4000000 in
set_option maxRecDepth 100000 in
theorem m_11_place {l : Launch} {Z : jE} {n : Nat} {C : jC} {v1 : Int} {v2 : Int} {ex : String → jC → Prop} {post : Int → Prop} (rv1 : jRng v1) (rv2 : jRng v2) (hw0 : jWF n C) (h : wp_11_place v1 v2 C ex post) : jXi l y_11_place prog_1_method_11_code 4 (.int) q_11_place Z n C [jr Z 0, jI v1, jI v2] ex (fun x C9 => C9 = C ∧ post x) := by
  have hn := hw0.2.2.1
  unfold wp_11_place at h
  refine jXi_of (lv0 := [(0, jr Z 0), (1, jI v1), (2, jI v2)]) (by decide) (Nat.le_of_ble_eq_true rfl) rfl ?_
  intro p e s m args below meth c A sz X hAe hr hlocks htab
  refine jg_aload_n (pc := 0) X d_11_place_0 0 rfl ?_
  refine jg_iload_n (pc := 1) X d_11_place_1 1 rfl ?_
  refine jg_pxcallVr (pc := 2) X hAe htab hlocks (m_11_viewNumbered rv1 hw0 h) jM_11_viewNumbered kw_772 (jl_0_11 hn) rfl rfl rfl rfl rfl (Nat.le_of_ble_eq_true rfl) d_11_place_2 ⟨(Nat.le_of_ble_eq_true rfl), (Nat.le_of_ble_eq_true rfl)⟩ ⟨(Nat.le_of_ble_eq_true rfl), (Nat.le_of_ble_eq_true rfl)⟩ ⟨(Nat.le_of_ble_eq_true rfl), (Nat.le_of_ble_eq_true rfl)⟩ (fun x1 h => ?_)
  obtain ⟨t5, h⟩ := h
  refine jg_eqst (congrArg (· :: _) (jn_pos t5.1)) ?_
  refine jg_astore_n (pc := 5) X [(3, jr Z x1), (0, jr Z 0), (1, jI v1), (2, jI v2)] d_11_place_5 (by decide) rfl ?_
  refine jg_aload_n (pc := 6) X d_11_place_6 0 rfl ?_
  refine jgfN_10_1 (pc := 7) X t5 kn_275 d_11_place_7 ?_
  refine jg_aload_n (pc := 10) X d_11_place_10 1 rfl ?_
  refine jg_iload_n (pc := 11) X d_11_place_11 3 rfl ?_
  refine jg_pxcallVi (pc := 12) X hAe htab hlocks (m_11_seatOfKey rv2 hw0 h) jM_11_seatOfKey kw_920 (jl_0_11 hn) rfl rfl rfl rfl rfl (Nat.le_of_ble_eq_true rfl) d_11_place_12 ⟨(Nat.le_of_ble_eq_true rfl), (Nat.le_of_ble_eq_true rfl)⟩ ⟨(Nat.le_of_ble_eq_true rfl), (Nat.le_of_ble_eq_true rfl)⟩ ⟨(Nat.le_of_ble_eq_true rfl), (Nat.le_of_ble_eq_true rfl)⟩ (fun x6 r8 h => ?_)
  refine jg_pcallVi (pc := 15) X (m_6_placeOf (jc_vi_1 hn t5) r8 hw0 h) jM_6_placeOf kw_945 (jc_vi_1 hn t5) rfl rfl rfl rfl rfl (Nat.le_of_ble_eq_true rfl) d_11_place_15 ⟨(Nat.le_of_ble_eq_true rfl), (Nat.le_of_ble_eq_true rfl)⟩ ⟨(Nat.le_of_ble_eq_true rfl), (Nat.le_of_ble_eq_true rfl)⟩ (fun x10 r12 h => ?_)
  refine jg_ret_x ?_
  exact jg_ireturn (pc := 18) X hAe hlocks hr d_11_place_18 ⟨(Nat.le_of_ble_eq_true rfl), (Nat.le_of_ble_eq_true rfl)⟩ rfl r12 hw0 ⟨rfl, h⟩
set_option maxHeartbeats 4000000 in
set_option maxRecDepth 100000 in
theorem m_2_filteredBits {l : Launch} {Z : jE} {n : Nat} {C : jC} {v0 : Int} {post : Int → Prop} (tv0 : jT n v0 2) (hw0 : jWF n C) (h : wp_2_filteredBits v0 C post) : jCi l y_2_filteredBits prog_4_method_8_code 3 (.int) q_2_filteredBits Z n C [jr Z v0] (fun x C9 => C9 = C ∧ post x) := by
  have hn := hw0.2.2.1
  unfold wp_2_filteredBits at h
  refine jCi_of (lv0 := [(0, jr Z v0)]) (by decide) (Nat.le_of_ble_eq_true rfl) rfl ?_
  intro p e s m args below meth c A sz X hAe hr hlocks
  refine jg_iconst (pc := 0) X d_2_filteredBits_0 ?_
  refine jg_istore_n (pc := 1) X [(1, jI 0), (0, jr Z v0)] d_2_filteredBits_1 (by decide) rfl ?_
  refine jg_iconst (pc := 2) X d_2_filteredBits_2 ?_
  refine jg_istore_n (pc := 3) X [(2, jI 0), (1, jI 0), (0, jr Z v0)] d_2_filteredBits_3 (by decide) rfl ?_
  have hw : jWF n C := hw0
  have jl4 : ∀  (N : Nat) (v1 : Int) (v2 : Int) (rv1 : jRng v1) (rv2 : jRng v2), jI2 (wp_2_filteredBits_4 v0 C post) N v1 v2 → jG p l e q_2_filteredBits s m args below meth c 3 Z A (jws Z n C) 0 0 (MQ below (jQi Z n sz (fun x C9 => C9 = C ∧ post x)) args s q_2_filteredBits.cells q_2_filteredBits.slots (jA Z n sz)) 4 [(0, jr Z v0), (1, jI v1), (2, jI v2)] [] := by
    intro   N
    have hn := hw0.2.2.1
    induction N with
    | zero => intro v1 v2 rv1 rv2 h; exact h.elim
    | succ N ih4 =>
      intro v1 v2 rv1 rv2 h
      have h : wp_2_filteredBits_4 v0 C post (jI2 (wp_2_filteredBits_4 v0 C post) N) v1 v2 := h
      generalize jI2 (wp_2_filteredBits_4 v0 C post) N = k4 at h ih4
      unfold wp_2_filteredBits_4 at h
      refine jg_iload_n (pc := 4) X d_2_filteredBits_4 2 rfl ?_
      refine jg_iconst (pc := 5) X d_2_filteredBits_5 ?_
      refine jg_icmp_ge (tgt := 33) (pc := 6) X d_2_filteredBits_6 (by decide) rv2 (⟨by decide, by decide⟩ : jRng 5) h (fun c1 h => ?_) (fun c1 h => ?_)
      · refine jg_iload_n (pc := 33) X d_2_filteredBits_33 1 rfl ?_
        exact jg_ireturn (pc := 34) X hAe hlocks hr d_2_filteredBits_34 ⟨(Nat.le_of_ble_eq_true rfl), (Nat.le_of_ble_eq_true rfl)⟩ rfl rv1 hw ⟨rfl, h⟩
      · refine jg_aload_n (pc := 9) X d_2_filteredBits_9 0 rfl ?_
        refine jgf_2_0 (pc := 10) X tv0 kw_107 d_2_filteredBits_10 ?_
        refine jg_iload_n (pc := 13) X d_2_filteredBits_13 2 rfl ?_
        obtain ⟨b2, h⟩ := h
        have b3 : v2 < 5 := by (have z0 : jRng v2 := rv2; unfold jRng at z0; omega)
        refine jg_aaloadF (pc := 14) X d_2_filteredBits_14 (jc_le_0 hn tv0) b2 b3 ?_
        refine jgfN_1_0 (pc := 15) X (jc_fa hn (jc_le_0 hn tv0) b2 b3) kn_90 d_2_filteredBits_15 ?_
        refine jg_if_le (tgt := 27) (pc := 18) X d_2_filteredBits_18 (by decide) (hw.1 _ _) h (fun c4 h => ?_) (fun c4 h => ?_)
        · have c4 : (C (((v0 + 1) + 2) + (5 * v2)) 0) ≤ 0 := c4
          refine jg_iinc (pc := 27) X [(2, jI (v2 + 1)), (0, jr Z v0), (1, jI v1)] d_2_filteredBits_27 2 rfl (by decide) rfl ?_
          refine jg_goto (tgt := 4) (pc := 30) X d_2_filteredBits_30 (by decide) ?_
          have r5 : jRng (v2 + 1) := by (unfold jRng; exact ⟨by (have z0 : jRng v2 := rv2; unfold jRng at z0; omega), by (have z0 : jRng v2 := rv2; unfold jRng at z0; omega)⟩)
          refine jg_sub [1, 2, 0] rfl ?_
          exact ih4 _ _ rv1 r5 h
        · have c4 : ¬ ((C (((v0 + 1) + 2) + (5 * v2)) 0) ≤ 0) := c4
          refine jg_iload_n (pc := 21) X d_2_filteredBits_21 1 rfl ?_
          refine jg_iconst (pc := 22) X d_2_filteredBits_22 ?_
          refine jg_iload_n (pc := 23) X d_2_filteredBits_23 2 rfl ?_
          refine jg_ishl (pc := 24) X d_2_filteredBits_24 ?_
          refine jg_ior (pc := 25) X d_2_filteredBits_25 ?_
          refine jg_istore_n (pc := 26) X [(1, jI (jOr v1 (jShl 1 v2))), (0, jr Z v0), (2, jI v2)] d_2_filteredBits_26 (by decide) rfl ?_
          refine jg_iinc (pc := 27) X [(2, jI (v2 + 1)), (1, jI (jOr v1 (jShl 1 v2))), (0, jr Z v0)] d_2_filteredBits_27 2 rfl (by decide) rfl ?_
          refine jg_goto (tgt := 4) (pc := 30) X d_2_filteredBits_30 (by decide) ?_
          have r6 : jRng (v2 + 1) := by (unfold jRng; exact ⟨by (have z0 : jRng v2 := rv2; unfold jRng at z0; omega), by (have z0 : jRng v2 := rv2; unfold jRng at z0; omega)⟩)
          refine jg_sub [2, 1, 0] rfl ?_
          exact ih4 _ _ (jOr_rng _ _) r6 h
  obtain ⟨N, h⟩ := h
  refine jg_sub [2, 1, 0] rfl ?_
  exact jl4   N _ _ (⟨by decide, by decide⟩ : jRng 0) (⟨by decide, by decide⟩ : jRng 0) h
set_option maxHeartbeats 4000000 in
set_option maxRecDepth 100000 in
theorem m_11_about {l : Launch} {Z : jE} {n : Nat} {C : jC} {v1 : Int} {v2 : Int} {ex : String → jC → Prop} {post : Int → Prop} (rv1 : jRng v1) (rv2 : jRng v2) (hw0 : jWF n C) (h : wp_11_about v1 v2 C ex post) : jXi l y_11_about prog_1_method_12_code 4 (.int) q_11_about Z n C [jr Z 0, jI v1, jI v2] ex (fun x C9 => C9 = C ∧ post x) := by
  have hn := hw0.2.2.1
  unfold wp_11_about at h
  refine jXi_of (lv0 := [(0, jr Z 0), (1, jI v1), (2, jI v2)]) (by decide) (Nat.le_of_ble_eq_true rfl) rfl ?_
  intro p e s m args below meth c A sz X hAe hr hlocks htab
  refine jg_aload_n (pc := 0) X d_11_about_0 0 rfl ?_
  refine jg_iload_n (pc := 1) X d_11_about_1 1 rfl ?_
  refine jg_pxcallVr (pc := 2) X hAe htab hlocks (m_11_viewNumbered rv1 hw0 h) jM_11_viewNumbered kw_772 (jl_0_11 hn) rfl rfl rfl rfl rfl (Nat.le_of_ble_eq_true rfl) d_11_about_2 ⟨(Nat.le_of_ble_eq_true rfl), (Nat.le_of_ble_eq_true rfl)⟩ ⟨(Nat.le_of_ble_eq_true rfl), (Nat.le_of_ble_eq_true rfl)⟩ ⟨(Nat.le_of_ble_eq_true rfl), (Nat.le_of_ble_eq_true rfl)⟩ (fun x1 h => ?_)
  obtain ⟨t5, h⟩ := h
  refine jg_eqst (congrArg (· :: _) (jn_pos t5.1)) ?_
  refine jg_astore_n (pc := 5) X [(3, jr Z x1), (0, jr Z 0), (1, jI v1), (2, jI v2)] d_11_about_5 (by decide) rfl ?_
  refine jg_iload_n (pc := 6) X d_11_about_6 3 rfl ?_
  by_cases c6 : v2 = 0
  · rw [if_pos c6] at h
    refine jg_tswIn (tgt := 40) (pc := 7) X d_11_about_7 rv2 (by omega) (by omega) (by rw [c6]; rfl) (by decide) ?_
    refine jg_aload_n (pc := 40) X d_11_about_40 0 rfl ?_
    refine jgfN_10_1 (pc := 41) X t5 kn_275 d_11_about_41 ?_
    refine jg_pcallVi (pc := 44) X (m_6_length (jc_vi_1 hn t5) hw0 h) jM_6_length kw_896 (jc_vi_1 hn t5) rfl rfl rfl rfl rfl (Nat.le_of_ble_eq_true rfl) d_11_about_44 ⟨(Nat.le_of_ble_eq_true rfl), (Nat.le_of_ble_eq_true rfl)⟩ ⟨(Nat.le_of_ble_eq_true rfl), (Nat.le_of_ble_eq_true rfl)⟩ (fun x15 r17 h => ?_)
    refine jg_ret_x ?_
    exact jg_ireturn (pc := 47) X hAe hlocks hr d_11_about_47 ⟨(Nat.le_of_ble_eq_true rfl), (Nat.le_of_ble_eq_true rfl)⟩ rfl r17 hw0 ⟨rfl, h⟩
  · rw [if_neg c6] at h
    by_cases c7 : v2 = 1
    · rw [if_pos c7] at h
      refine jg_tswIn (tgt := 48) (pc := 7) X d_11_about_7 rv2 (by omega) (by omega) (by rw [c7]; rfl) (by decide) ?_
      refine jg_aload_n (pc := 48) X d_11_about_48 0 rfl ?_
      refine jgfN_10_0 (pc := 49) X t5 kn_271 d_11_about_49 ?_
      refine jgfN_2_2 (pc := 52) X (jc_vi_0 hn t5) kn_110 d_11_about_52 ?_
      refine jg_ret_x ?_
      exact jg_ireturn (pc := 55) X hAe hlocks hr d_11_about_55 ⟨(Nat.le_of_ble_eq_true rfl), (Nat.le_of_ble_eq_true rfl)⟩ rfl (hw0.1 _ _) hw0 ⟨rfl, h⟩
    · rw [if_neg c7] at h
      by_cases c8 : v2 = 2
      · rw [if_pos c8] at h
        refine jg_tswIn (tgt := 56) (pc := 7) X d_11_about_7 rv2 (by omega) (by omega) (by rw [c8]; rfl) (by decide) ?_
        refine jg_aload_n (pc := 56) X d_11_about_56 0 rfl ?_
        refine jgfN_10_0 (pc := 57) X t5 kn_271 d_11_about_57 ?_
        refine jgfN_2_3 (pc := 60) X (jc_vi_0 hn t5) kn_113 d_11_about_60 ?_
        refine jg_ret_x ?_
        exact jg_ireturn (pc := 63) X hAe hlocks hr d_11_about_63 ⟨(Nat.le_of_ble_eq_true rfl), (Nat.le_of_ble_eq_true rfl)⟩ rfl (hw0.1 _ _) hw0 ⟨rfl, h⟩
      · rw [if_neg c8] at h
        by_cases c9 : v2 = 3
        · rw [if_pos c9] at h
          refine jg_tswIn (tgt := 64) (pc := 7) X d_11_about_7 rv2 (by omega) (by omega) (by rw [c9]; rfl) (by decide) ?_
          refine jg_aload_n (pc := 64) X d_11_about_64 0 rfl ?_
          refine jgfN_10_0 (pc := 65) X t5 kn_271 d_11_about_65 ?_
          refine jg_pcallVi (pc := 68) X (m_2_filteredBits (jc_vi_0 hn t5) hw0 h) jM_2_filteredBits kw_954 (jc_vi_0 hn t5) rfl rfl rfl rfl rfl (Nat.le_of_ble_eq_true rfl) d_11_about_68 ⟨(Nat.le_of_ble_eq_true rfl), (Nat.le_of_ble_eq_true rfl)⟩ ⟨(Nat.le_of_ble_eq_true rfl), (Nat.le_of_ble_eq_true rfl)⟩ (fun x11 r13 h => ?_)
          refine jg_ret_x ?_
          exact jg_ireturn (pc := 71) X hAe hlocks hr d_11_about_71 ⟨(Nat.le_of_ble_eq_true rfl), (Nat.le_of_ble_eq_true rfl)⟩ rfl r13 hw0 ⟨rfl, h⟩
        · rw [if_neg c9] at h
          by_cases c10 : v2 = 4
          · rw [if_pos c10] at h
            refine jg_tswIn (tgt := 72) (pc := 7) X d_11_about_7 rv2 (by omega) (by omega) (by rw [c10]; rfl) (by decide) ?_
            refine jg_aload_n (pc := 72) X d_11_about_72 0 rfl ?_
            refine jgfN_10_3 (pc := 73) X t5 kn_278 d_11_about_73 ?_
            refine jg_ret_x ?_
            exact jg_ireturn (pc := 76) X hAe hlocks hr d_11_about_76 ⟨(Nat.le_of_ble_eq_true rfl), (Nat.le_of_ble_eq_true rfl)⟩ rfl (hw0.1 _ _) hw0 ⟨rfl, h⟩
          · rw [if_neg c10] at h
            refine jg_tswOut (tgt := 77) (pc := 7) X d_11_about_7 rv2 (by omega) (by decide) ?_
            exact jg_throw (pc := 77) X hAe htab hlocks (by decide) kw_958 kw_25 th_153 tg_153 d_11_about_77 d_11_about_80 d_11_about_81 d_11_about_84 ⟨(Nat.le_of_ble_eq_true rfl), (Nat.le_of_ble_eq_true rfl), (Nat.le_of_ble_eq_true rfl), (Nat.le_of_ble_eq_true rfl)⟩ ⟨(Nat.le_of_ble_eq_true rfl), (Nat.le_of_ble_eq_true rfl)⟩ hw0 h
set_option maxHeartbeats 4000000 in
set_option maxRecDepth 100000 in
theorem m_11_sorts {l : Launch} {Z : jE} {n : Nat} {C : jC} {v1 : Int} {v2 : Int} {ex : String → jC → Prop} {post : Int → Prop} (rv1 : jRng v1) (rv2 : jRng v2) (hw0 : jWF n C) (h : wp_11_sorts v1 v2 C ex post) : jXi l y_11_sorts prog_1_method_13_code 3 (.int) q_11_sorts Z n C [jr Z 0, jI v1, jI v2] ex (fun x C9 => C9 = C ∧ post x) := by
  have hn := hw0.2.2.1
  unfold wp_11_sorts at h
  refine jXi_of (lv0 := [(0, jr Z 0), (1, jI v1), (2, jI v2)]) (by decide) (Nat.le_of_ble_eq_true rfl) rfl ?_
  intro p e s m args below meth c A sz X hAe hr hlocks htab
  refine jg_aload_n (pc := 0) X d_11_sorts_0 0 rfl ?_
  refine jg_iload_n (pc := 1) X d_11_sorts_1 1 rfl ?_
  refine jg_pxcallVr (pc := 2) X hAe htab hlocks (m_11_viewNumbered rv1 hw0 h) jM_11_viewNumbered kw_772 (jl_0_11 hn) rfl rfl rfl rfl rfl (Nat.le_of_ble_eq_true rfl) d_11_sorts_2 ⟨(Nat.le_of_ble_eq_true rfl), (Nat.le_of_ble_eq_true rfl)⟩ ⟨(Nat.le_of_ble_eq_true rfl), (Nat.le_of_ble_eq_true rfl)⟩ ⟨(Nat.le_of_ble_eq_true rfl), (Nat.le_of_ble_eq_true rfl)⟩ (fun x1 h => ?_)
  obtain ⟨t5, h⟩ := h
  refine jg_eqst (congrArg (· :: _) (jn_pos t5.1)) ?_
  refine jgfN_10_0 (pc := 5) X t5 kn_271 d_11_sorts_5 ?_
  refine jg_iload_n (pc := 8) X d_11_sorts_8 2 rfl ?_
  refine jg_pcallVi (pc := 9) X (m_2_sortAt (jc_vi_0 hn t5) rv2 hw0 h) jM_2_sortAt kw_980 (jc_vi_0 hn t5) rfl rfl rfl rfl rfl (Nat.le_of_ble_eq_true rfl) d_11_sorts_9 ⟨(Nat.le_of_ble_eq_true rfl), (Nat.le_of_ble_eq_true rfl)⟩ ⟨(Nat.le_of_ble_eq_true rfl), (Nat.le_of_ble_eq_true rfl)⟩ (fun x6 r8 h => ?_)
  refine jg_ret_x ?_
  exact jg_ireturn (pc := 12) X hAe hlocks hr d_11_sorts_12 ⟨(Nat.le_of_ble_eq_true rfl), (Nat.le_of_ble_eq_true rfl)⟩ rfl r8 hw0 ⟨rfl, h⟩
set_option maxHeartbeats 4000000 in
set_option maxRecDepth 100000 in
theorem m_11_seatAtPlace {l : Launch} {Z : jE} {n : Nat} {C : jC} {v1 : Int} {v2 : Int} {ex : String → jC → Prop} {post : Int → Prop} (tv1 : jT n v1 10) (rv2 : jRng v2) (hw0 : jWF n C) (h : wp_11_seatAtPlace v1 v2 C ex post) : jXi l y_11_seatAtPlace prog_1_method_48_code 4 (.int) q_11_seatAtPlace Z n C [jr Z 0, jr Z v1, jI v2] ex (fun x C9 => C9 = C ∧ post x) := by
  have hn := hw0.2.2.1
  unfold wp_11_seatAtPlace at h
  refine jXi_of (lv0 := [(0, jr Z 0), (1, jr Z v1), (2, jI v2)]) (by decide) (Nat.le_of_ble_eq_true rfl) rfl ?_
  intro p e s m args below meth c A sz X hAe hr hlocks htab
  refine jg_aload_n (pc := 0) X d_11_seatAtPlace_0 1 rfl ?_
  refine jgfN_10_1 (pc := 1) X tv1 kn_275 d_11_seatAtPlace_1 ?_
  refine jg_iload_n (pc := 4) X d_11_seatAtPlace_4 2 rfl ?_
  refine jg_pcallVi (pc := 5) X (m_6_at (jc_vi_1 hn tv1) rv2 hw0 h) jM_6_at kw_372 (jc_vi_1 hn tv1) rfl rfl rfl rfl rfl (Nat.le_of_ble_eq_true rfl) d_11_seatAtPlace_5 ⟨(Nat.le_of_ble_eq_true rfl), (Nat.le_of_ble_eq_true rfl)⟩ ⟨(Nat.le_of_ble_eq_true rfl), (Nat.le_of_ble_eq_true rfl)⟩ (fun x1 r3 h => ?_)
  refine jg_istore_n (pc := 8) X [(3, jI x1), (0, jr Z 0), (1, jr Z v1), (2, jI v2)] d_11_seatAtPlace_8 (by decide) rfl ?_
  refine jg_iload_n (pc := 9) X d_11_seatAtPlace_9 0 rfl ?_
  refine jg_iconst (pc := 10) X d_11_seatAtPlace_10 ?_
  refine jg_icmp_ne (tgt := 22) (pc := 11) X d_11_seatAtPlace_11 (by decide) r3 (⟨by decide, by decide⟩ : jRng (-1)) h (fun c5 h => ?_) (fun c5 h => ?_)
  · exact jg_throw (pc := 14) X hAe htab hlocks (by decide) kw_776 kw_24 th_347 tg_347 d_11_seatAtPlace_14 d_11_seatAtPlace_17 d_11_seatAtPlace_18 d_11_seatAtPlace_21 ⟨(Nat.le_of_ble_eq_true rfl), (Nat.le_of_ble_eq_true rfl), (Nat.le_of_ble_eq_true rfl), (Nat.le_of_ble_eq_true rfl)⟩ ⟨(Nat.le_of_ble_eq_true rfl), (Nat.le_of_ble_eq_true rfl)⟩ hw0 h
  · refine jg_iload_n (pc := 22) X d_11_seatAtPlace_22 0 rfl ?_
    refine jg_ret_x ?_
    exact jg_ireturn (pc := 23) X hAe hlocks hr d_11_seatAtPlace_23 ⟨(Nat.le_of_ble_eq_true rfl), (Nat.le_of_ble_eq_true rfl)⟩ rfl r3 hw0 ⟨rfl, h⟩
set_option maxHeartbeats 4000000 in
set_option maxRecDepth 100000 in
theorem m_11_needShown {l : Launch} {Z : jE} {n : Nat} {C : jC} {v1 : Int} {v2 : Int} {ex : String → jC → Prop} {post : Prop} (tv1 : jT n v1 10) (rv2 : jRng v2) (hw0 : jWF n C) (h : wp_11_needShown v1 v2 C ex post) : jXv l y_11_needShown prog_1_method_51_code 3 q_11_needShown Z n C [jr Z 0, jr Z v1, jI v2] ex (fun C9 => C9 = C ∧ post) := by
  have hn := hw0.2.2.1
  unfold wp_11_needShown at h
  refine jXv_of (lv0 := [(0, jr Z 0), (1, jr Z v1), (2, jI v2)]) (by decide) (Nat.le_of_ble_eq_true rfl) rfl ?_
  intro p e s m args below meth c A sz X hAe hr hlocks htab
  refine jg_aload_n (pc := 0) X d_11_needShown_0 1 rfl ?_
  refine jgfN_10_0 (pc := 1) X tv1 kn_271 d_11_needShown_1 ?_
  refine jg_iload_n (pc := 4) X d_11_needShown_4 2 rfl ?_
  refine jg_pcallVi (pc := 5) X (m_2_hides (jc_vi_0 hn tv1) rv2 hw0 h) jM_2_hides kw_997 (jc_vi_0 hn tv1) rfl rfl rfl rfl rfl (Nat.le_of_ble_eq_true rfl) d_11_needShown_5 ⟨(Nat.le_of_ble_eq_true rfl), (Nat.le_of_ble_eq_true rfl)⟩ ⟨(Nat.le_of_ble_eq_true rfl), (Nat.le_of_ble_eq_true rfl)⟩ (fun x1 r3 h => ?_)
  refine jg_if_eq (tgt := 19) (pc := 8) X d_11_needShown_8 (by decide) r3 h (fun c5 h => ?_) (fun c5 h => ?_)
  · refine jg_ret_x ?_
    exact jg_return (pc := 19) X hAe hlocks hr d_11_needShown_19 ⟨(Nat.le_of_ble_eq_true rfl), (Nat.le_of_ble_eq_true rfl)⟩ hw0 ⟨rfl, h⟩
  · exact jg_throw (pc := 11) X hAe htab hlocks (by decide) kw_998 kw_26 th_245 tg_245 d_11_needShown_11 d_11_needShown_14 d_11_needShown_15 d_11_needShown_18 ⟨(Nat.le_of_ble_eq_true rfl), (Nat.le_of_ble_eq_true rfl), (Nat.le_of_ble_eq_true rfl), (Nat.le_of_ble_eq_true rfl)⟩ ⟨(Nat.le_of_ble_eq_true rfl), (Nat.le_of_ble_eq_true rfl)⟩ hw0 h
set_option maxHeartbeats 4000000 in
set_option maxRecDepth 100000 in
theorem m_1_isWord {l : Launch} {Z : jE} {n : Nat} {C : jC} {v0 : Int} {post : Int → Prop} (rv0 : jRng v0) (hw0 : jWF n C) (h : wp_1_isWord v0 C post) : jCi l y_1_isWord prog_3_method_7_code 4 (.boolean) q_1_isWord Z n C [jI v0] (fun x C9 => C9 = C ∧ post x) := by
  have hn := hw0.2.2.1
  unfold wp_1_isWord at h
  refine jCi_of (lv0 := [(0, jI v0)]) (by decide) (Nat.le_of_ble_eq_true rfl) rfl ?_
  intro p e s m args below meth c A sz X hAe hr hlocks
  refine jg_iload_n (pc := 0) X d_1_isWord_0 0 rfl ?_
  refine jg_sipush (pc := 1) X d_1_isWord_1 rfl ?_
  refine jg_icmp_lt (tgt := 13) (pc := 4) X d_1_isWord_4 (by decide) rv0 (⟨by decide, by decide⟩ : jRng 19683) h (fun c1 h => ?_) (fun c1 h => ?_)
  · refine jg_iconst (pc := 13) X d_1_isWord_13 ?_
    exact jg_ireturn (pc := 14) X hAe hlocks hr d_1_isWord_14 ⟨(Nat.le_of_ble_eq_true rfl), (Nat.le_of_ble_eq_true rfl)⟩ rfl (⟨by decide, by decide⟩ : jRng 0) hw0 ⟨rfl, h⟩
  · refine jg_iload_n (pc := 7) X d_1_isWord_7 0 rfl ?_
    refine jg_ldk (pc := 8) (531441) X kw_1021 (by decide) d_1_isWord_8 ?_
    refine jg_icmp_lt (tgt := 15) (pc := 10) X d_1_isWord_10 (by decide) rv0 (⟨by decide, by decide⟩ : jRng 531441) h (fun c2 h => ?_) (fun c2 h => ?_)
    · refine jg_iload_n (pc := 15) X d_1_isWord_15 0 rfl ?_
      refine jg_istore_n (pc := 16) X [(1, jI v0), (0, jI v0)] d_1_isWord_16 (by decide) rfl ?_
      refine jg_iconst (pc := 17) X d_1_isWord_17 ?_
      refine jg_istore_n (pc := 18) X [(2, jI 0), (1, jI v0), (0, jI v0)] d_1_isWord_18 (by decide) rfl ?_
      have hw : jWF n C := hw0
      have jl19 : ∀  (N : Nat) (v1 : Int) (v2 : Int) (rv1 : jRng v1) (rv2 : jRng v2), jI2 (wp_1_isWord_19  C post) N v1 v2 → jG p l e q_1_isWord s m args below meth c 4 Z A (jws Z n C) 0 0 (MQ below (jQi Z n sz (fun x C9 => C9 = C ∧ post x)) args s q_1_isWord.cells q_1_isWord.slots (jA Z n sz)) 19 [(1, jI v1), (2, jI v2)] [] := by
        intro   N
        have hn := hw0.2.2.1
        induction N with
        | zero => intro v1 v2 rv1 rv2 h; exact h.elim
        | succ N ih19 =>
          intro v1 v2 rv1 rv2 h
          have h : wp_1_isWord_19  C post (jI2 (wp_1_isWord_19  C post) N) v1 v2 := h
          generalize jI2 (wp_1_isWord_19  C post) N = k19 at h ih19
          unfold wp_1_isWord_19 at h
          have jb36 : ∀ (s0 : Int) (v1 : Int) (v2 : Int) (rs0 : jRng s0) (rv1 : jRng v1) (rv2 : jRng v2), wp_1_isWord_36 s0 v1 v2 C post k19 → jG p l e q_1_isWord s m args below meth c 4 Z A (jws Z n C) 0 0 (MQ below (jQi Z n sz (fun x C9 => C9 = C ∧ post x)) args s q_1_isWord.cells q_1_isWord.slots (jA Z n sz)) 36 [(1, jI v1), (2, jI v2)] [jI s0] := by
            intro s0 v1 v2 rs0 rv1 rv2 h
            unfold wp_1_isWord_36 at h
            refine jg_istore_n (pc := 36) X [(3, jI s0), (1, jI v1), (2, jI v2)] d_1_isWord_36 (by decide) rfl ?_
            refine jg_iload_n (pc := 37) X d_1_isWord_37 0 rfl ?_
            refine jg_if_eq (tgt := 47) (pc := 38) X d_1_isWord_38 (by decide) rs0 h (fun c3 h => ?_) (fun c3 h => ?_)
            · refine jg_iload_n (pc := 47) X d_1_isWord_47 1 rfl ?_
              refine jg_sipush (pc := 48) X d_1_isWord_48 rfl ?_
              have r4 : jRng (v1.tmod 19683) := jrng_tmod rv1 (by decide) (by decide)
              refine jg_irem (pc := 51) X d_1_isWord_51 rv1 (by decide) (by decide) ?_
              refine jg_bipush (pc := 52) X d_1_isWord_52 rfl ?_
              refine jg_imul (pc := 54) X d_1_isWord_54 ?_
              refine jg_istore_n (pc := 55) X [(1, jI ((v1.tmod 19683) * 27)), (3, jI s0), (2, jI v2)] d_1_isWord_55 (by decide) rfl ?_
              refine jg_iinc (pc := 56) X [(2, jI (v2 + 1)), (1, jI ((v1.tmod 19683) * 27)), (3, jI s0)] d_1_isWord_56 2 rfl (by decide) rfl ?_
              refine jg_goto (tgt := 19) (pc := 59) X d_1_isWord_59 (by decide) ?_
              obtain ⟨r5, r6, h⟩ := h
              refine jg_sub [1, 0] rfl ?_
              exact ih19 _ _ r5 r6 h
            · refine jg_iload_n (pc := 41) X d_1_isWord_41 1 rfl ?_
              refine jg_if_le (tgt := 47) (pc := 42) X d_1_isWord_42 (by decide) rv1 h (fun c7 h => ?_) (fun c7 h => ?_)
              · refine jg_iload_n (pc := 47) X d_1_isWord_47 1 rfl ?_
                refine jg_sipush (pc := 48) X d_1_isWord_48 rfl ?_
                have r8 : jRng (v1.tmod 19683) := jrng_tmod rv1 (by decide) (by decide)
                refine jg_irem (pc := 51) X d_1_isWord_51 rv1 (by decide) (by decide) ?_
                refine jg_bipush (pc := 52) X d_1_isWord_52 rfl ?_
                refine jg_imul (pc := 54) X d_1_isWord_54 ?_
                refine jg_istore_n (pc := 55) X [(1, jI ((v1.tmod 19683) * 27)), (3, jI s0), (2, jI v2)] d_1_isWord_55 (by decide) rfl ?_
                refine jg_iinc (pc := 56) X [(2, jI (v2 + 1)), (1, jI ((v1.tmod 19683) * 27)), (3, jI s0)] d_1_isWord_56 2 rfl (by decide) rfl ?_
                refine jg_goto (tgt := 19) (pc := 59) X d_1_isWord_59 (by decide) ?_
                obtain ⟨r9, r10, h⟩ := h
                refine jg_sub [1, 0] rfl ?_
                exact ih19 _ _ r9 r10 h
              · refine jg_iconst (pc := 45) X d_1_isWord_45 ?_
                exact jg_ireturn (pc := 46) X hAe hlocks hr d_1_isWord_46 ⟨(Nat.le_of_ble_eq_true rfl), (Nat.le_of_ble_eq_true rfl)⟩ rfl (⟨by decide, by decide⟩ : jRng 0) hw ⟨rfl, h⟩
          refine jg_iload_n (pc := 19) X d_1_isWord_19 1 rfl ?_
          refine jg_iconst (pc := 20) X d_1_isWord_20 ?_
          refine jg_icmp_ge (tgt := 62) (pc := 21) X d_1_isWord_21 (by decide) rv2 (⟨by decide, by decide⟩ : jRng 4) h (fun c11 h => ?_) (fun c11 h => ?_)
          · refine jg_iconst (pc := 62) X d_1_isWord_62 ?_
            exact jg_ireturn (pc := 63) X hAe hlocks hr d_1_isWord_63 ⟨(Nat.le_of_ble_eq_true rfl), (Nat.le_of_ble_eq_true rfl)⟩ rfl (⟨by decide, by decide⟩ : jRng 1) hw ⟨rfl, h⟩
          · refine jg_iload_n (pc := 24) X d_1_isWord_24 0 rfl ?_
            refine jg_sipush (pc := 25) X d_1_isWord_25 rfl ?_
            refine jg_icmp_ge (tgt := 35) (pc := 28) X d_1_isWord_28 (by decide) rv1 (⟨by decide, by decide⟩ : jRng 19683) h (fun c12 h => ?_) (fun c12 h => ?_)
            · refine jg_iconst (pc := 35) X d_1_isWord_35 ?_
              refine jg_sub [0, 1] rfl ?_
              exact jb36 _ _ _ (⟨by decide, by decide⟩ : jRng 0) rv1 rv2 h
            · refine jg_iconst (pc := 31) X d_1_isWord_31 ?_
              refine jg_goto (tgt := 36) (pc := 32) X d_1_isWord_32 (by decide) ?_
              refine jg_sub [0, 1] rfl ?_
              exact jb36 _ _ _ (⟨by decide, by decide⟩ : jRng 1) rv1 rv2 h
      obtain ⟨N, h⟩ := h
      refine jg_sub [1, 0] rfl ?_
      exact jl19   N _ _ rv0 (⟨by decide, by decide⟩ : jRng 0) h
    · refine jg_iconst (pc := 13) X d_1_isWord_13 ?_
      exact jg_ireturn (pc := 14) X hAe hlocks hr d_1_isWord_14 ⟨(Nat.le_of_ble_eq_true rfl), (Nat.le_of_ble_eq_true rfl)⟩ rfl (⟨by decide, by decide⟩ : jRng 0) hw0 ⟨rfl, h⟩
set_option maxHeartbeats 4000000 in
set_option maxRecDepth 100000 in
theorem m_7_mayHold {l : Launch} {Z : jE} {n : Nat} {C : jC} {v0 : Int} {v1 : Int} {v2 : Int} {post : Int → Prop} (tv0 : jT n v0 7) (rv1 : jRng v1) (rv2 : jRng v2) (hw0 : jWF n C) (h : wp_7_mayHold v0 v1 v2 C post) : jCi l y_7_mayHold prog_9_method_11_code 3 (.boolean) q_7_mayHold Z n C [jr Z v0, jI v1, jI v2] (fun x C9 => C9 = C ∧ post x) := by
  have hn := hw0.2.2.1
  unfold wp_7_mayHold at h
  refine jCi_of (lv0 := [(0, jr Z v0), (1, jI v1), (2, jI v2)]) (by decide) (Nat.le_of_ble_eq_true rfl) rfl ?_
  intro p e s m args below meth c A sz X hAe hr hlocks
  refine jg_aload_n (pc := 0) X d_7_mayHold_0 0 rfl ?_
  refine jg_iload_n (pc := 1) X d_7_mayHold_1 1 rfl ?_
  refine jg_pcallVi (pc := 2) X (m_7_kindOf tv0 rv1 hw0 h) jM_7_kindOf kw_1017 tv0 rfl rfl rfl rfl rfl (Nat.le_of_ble_eq_true rfl) d_7_mayHold_2 ⟨(Nat.le_of_ble_eq_true rfl), (Nat.le_of_ble_eq_true rfl)⟩ ⟨(Nat.le_of_ble_eq_true rfl), (Nat.le_of_ble_eq_true rfl)⟩ (fun x1 r3 h => ?_)
  refine jg_if_ne (tgt := 28) (pc := 5) X d_7_mayHold_5 (by decide) r3 h (fun c5 h => ?_) (fun c5 h => ?_)
  · refine jg_iload_n (pc := 8) X d_7_mayHold_8 2 rfl ?_
    refine jg_sipush (pc := 9) X d_7_mayHold_9 rfl ?_
    refine jg_icmp_lt (tgt := 26) (pc := 12) X d_7_mayHold_12 (by decide) rv2 (⟨by decide, by decide⟩ : jRng (-999)) h (fun c6 h => ?_) (fun c6 h => ?_)
    · refine jg_iconst (pc := 26) X d_7_mayHold_26 ?_
      exact jg_ireturn (pc := 27) X hAe hlocks hr d_7_mayHold_27 ⟨(Nat.le_of_ble_eq_true rfl), (Nat.le_of_ble_eq_true rfl)⟩ rfl (⟨by decide, by decide⟩ : jRng 0) hw0 ⟨rfl, h⟩
    · refine jg_iload_n (pc := 15) X d_7_mayHold_15 2 rfl ?_
      refine jg_sipush (pc := 16) X d_7_mayHold_16 rfl ?_
      refine jg_icmp_gt (tgt := 26) (pc := 19) X d_7_mayHold_19 (by decide) rv2 (⟨by decide, by decide⟩ : jRng 999) h (fun c7 h => ?_) (fun c7 h => ?_)
      · refine jg_iconst (pc := 26) X d_7_mayHold_26 ?_
        exact jg_ireturn (pc := 27) X hAe hlocks hr d_7_mayHold_27 ⟨(Nat.le_of_ble_eq_true rfl), (Nat.le_of_ble_eq_true rfl)⟩ rfl (⟨by decide, by decide⟩ : jRng 0) hw0 ⟨rfl, h⟩
      · refine jg_iconst (pc := 22) X d_7_mayHold_22 ?_
        refine jg_goto (tgt := 27) (pc := 23) X d_7_mayHold_23 (by decide) ?_
        exact jg_ireturn (pc := 27) X hAe hlocks hr d_7_mayHold_27 ⟨(Nat.le_of_ble_eq_true rfl), (Nat.le_of_ble_eq_true rfl)⟩ rfl (⟨by decide, by decide⟩ : jRng 1) hw0 ⟨rfl, h⟩
  · refine jg_iload_n (pc := 28) X d_7_mayHold_28 2 rfl ?_
    refine jg_pcallSi (pc := 29) X (m_1_isWord rv2 hw0 h) jM_1_isWord kw_1018 rfl rfl (Nat.le_of_ble_eq_true rfl) d_7_mayHold_29 ⟨(Nat.le_of_ble_eq_true rfl), (Nat.le_of_ble_eq_true rfl)⟩ ⟨(Nat.le_of_ble_eq_true rfl), (Nat.le_of_ble_eq_true rfl)⟩ (fun x8 r10 h => ?_)
    obtain ⟨b12, h⟩ := h
    exact jg_ireturn (pc := 32) X hAe hlocks hr d_7_mayHold_32 ⟨(Nat.le_of_ble_eq_true rfl), (Nat.le_of_ble_eq_true rfl)⟩ (jnar_b b12) r10 hw0 ⟨rfl, h⟩
set_option maxHeartbeats 4000000 in
set_option maxRecDepth 100000 in
theorem m_8_beginEdit {l : Launch} {Z : jE} {n : Nat} {C : jC} {v0 : Int} {post : jC → Prop} (tv0 : jT n v0 8) (hw0 : jWF n C) (h : wp_8_beginEdit v0 C post) : jCv l y_8_beginEdit prog_10_method_6_code 1 q_8_beginEdit Z n C [jr Z v0] post := by
  have hn := hw0.2.2.1
  unfold wp_8_beginEdit at h
  refine jCv_of (lv0 := [(0, jr Z v0)]) (by decide) (Nat.le_of_ble_eq_true rfl) rfl ?_
  intro p e s m args below meth c A sz X hAe hr hlocks
  refine jg_aload_n (pc := 0) X d_8_beginEdit_0 0 rfl ?_
  refine jgf_8_3 (pc := 1) X tv0 kw_295 d_8_beginEdit_1 ?_
  refine jg_iconst (pc := 4) X d_8_beginEdit_4 ?_
  refine jgpN_0_0 (pc := 5) X (jc_st_3 hn tv0) kn_236 d_8_beginEdit_5 ?_
  have w1 := jWF.u (k := 0) (v := 0) hw0 (jc_st_3 hn tv0) (by decide) (⟨by decide, by decide⟩ : jRng 0)
  exact jg_return (pc := 8) X hAe hlocks hr d_8_beginEdit_8 ⟨(Nat.le_of_ble_eq_true rfl), (Nat.le_of_ble_eq_true rfl)⟩ w1 h
set_option maxHeartbeats 4000000 in
set_option maxRecDepth 100000 in
theorem m_0_takeChange {l : Launch} {Z : jE} {n : Nat} {C : jC} {v0 : Int} {v1 : Int} {v2 : Int} {v3 : Int} {v4 : Int} {post : jC → Prop} (tv0 : jT n v0 0) (rv1 : jRng v1) (rv2 : jRng v2) (rv3 : jRng v3) (rv4 : jRng v4) (hw0 : jWF n C) (h : wp_0_takeChange v0 v1 v2 v3 v4 C post) : jCv l y_0_takeChange prog_2_method_2_code 5 q_0_takeChange Z n C [jr Z v0, jI v1, jI v2, jI v3, jI v4] post := by
  have hn := hw0.2.2.1
  unfold wp_0_takeChange at h
  refine jCv_of (lv0 := [(0, jr Z v0), (1, jI v1), (2, jI v2), (3, jI v3), (4, jI v4)]) (by decide) (Nat.le_of_ble_eq_true rfl) rfl ?_
  intro p e s m args below meth c A sz X hAe hr hlocks
  refine jg_aload_n (pc := 0) X d_0_takeChange_0 0 rfl ?_
  refine jgf_0_0 (pc := 1) X tv0 kw_235 d_0_takeChange_1 ?_
  refine jg_bipush (pc := 4) X d_0_takeChange_4 rfl ?_
  refine jg_icmp_ge (tgt := 60) (pc := 6) X d_0_takeChange_6 (by decide) (hw0.1 _ _) (⟨by decide, by decide⟩ : jRng 60) h (fun c1 h => ?_) (fun c1 h => ?_)
  · have c1 : 60 ≤ (C v0 0) := c1
    exact jg_return (pc := 60) X hAe hlocks hr d_0_takeChange_60 ⟨(Nat.le_of_ble_eq_true rfl), (Nat.le_of_ble_eq_true rfl)⟩ hw0 h
  · have c1 : ¬ (60 ≤ (C v0 0)) := c1
    refine jg_aload_n (pc := 9) X d_0_takeChange_9 0 rfl ?_
    refine jgf_0_1 (pc := 10) X tv0 kw_237 d_0_takeChange_10 ?_
    refine jg_aload_n (pc := 13) X d_0_takeChange_13 0 rfl ?_
    refine jgf_0_0 (pc := 14) X tv0 kw_235 d_0_takeChange_14 ?_
    refine jg_iload_n (pc := 17) X d_0_takeChange_17 1 rfl ?_
    obtain ⟨b2, h⟩ := h
    have b3 : (C v0 0) < 60 := by (have z0 : jRng (C v0 0) := (hw0.1 _ _); unfold jRng at z0; omega)
    refine jg_iastore (len := 60) (pc := 18) X d_0_takeChange_18 (jc_ed_1 hn tv0) (fun _ => rfl) (by decide) b2 b3 ?_
    have w4 := jWF.u (k := (C v0 0)) (v := v1) hw0 (jc_ed_1 hn tv0) (by decide) rv1
    refine jg_aload_n (pc := 19) X d_0_takeChange_19 0 rfl ?_
    refine jgf_0_2 (pc := 20) X tv0 kw_239 d_0_takeChange_20 ?_
    refine jg_aload_n (pc := 23) X d_0_takeChange_23 0 rfl ?_
    refine jgf_0_0 (pc := 24) X tv0 kw_235 d_0_takeChange_24 ?_
    refine jg_iload_n (pc := 27) X d_0_takeChange_27 2 rfl ?_
    obtain ⟨b5, b6, h⟩ := h
    refine jg_iastore (len := 60) (pc := 28) X d_0_takeChange_28 (jc_ed_2 hn tv0) (fun _ => rfl) (by decide) b5 b6 ?_
    have w7 := jWF.u (k := ((jU C (v0 + 1) (C v0 0) v1) v0 0)) (v := v2) w4 (jc_ed_2 hn tv0) (by decide) rv2
    refine jg_aload_n (pc := 29) X d_0_takeChange_29 0 rfl ?_
    refine jgf_0_3 (pc := 30) X tv0 kw_241 d_0_takeChange_30 ?_
    refine jg_aload_n (pc := 33) X d_0_takeChange_33 0 rfl ?_
    refine jgf_0_0 (pc := 34) X tv0 kw_235 d_0_takeChange_34 ?_
    refine jg_iload_n (pc := 37) X d_0_takeChange_37 3 rfl ?_
    obtain ⟨b8, b9, h⟩ := h
    refine jg_iastore (len := 60) (pc := 38) X d_0_takeChange_38 (jc_ed_3 hn tv0) (fun _ => rfl) (by decide) b8 b9 ?_
    have w10 := jWF.u (k := ((jU (jU C (v0 + 1) (C v0 0) v1) (v0 + 2) ((jU C (v0 + 1) (C v0 0) v1) v0 0) v2) v0 0)) (v := v3) w7 (jc_ed_3 hn tv0) (by decide) rv3
    refine jg_aload_n (pc := 39) X d_0_takeChange_39 0 rfl ?_
    refine jgf_0_4 (pc := 40) X tv0 kw_243 d_0_takeChange_40 ?_
    refine jg_aload_n (pc := 43) X d_0_takeChange_43 0 rfl ?_
    refine jgf_0_0 (pc := 44) X tv0 kw_235 d_0_takeChange_44 ?_
    refine jg_iload (pc := 47) X d_0_takeChange_47 4 rfl ?_
    obtain ⟨b11, b12, h⟩ := h
    refine jg_iastore (len := 60) (pc := 49) X d_0_takeChange_49 (jc_ed_4 hn tv0) (fun _ => rfl) (by decide) b11 b12 ?_
    have w13 := jWF.u (k := ((jU (jU (jU C (v0 + 1) (C v0 0) v1) (v0 + 2) ((jU C (v0 + 1) (C v0 0) v1) v0 0) v2) (v0 + 3) ((jU (jU C (v0 + 1) (C v0 0) v1) (v0 + 2) ((jU C (v0 + 1) (C v0 0) v1) v0 0) v2) v0 0) v3) v0 0)) (v := v4) w10 (jc_ed_4 hn tv0) (by decide) rv4
    refine jg_aload_n (pc := 50) X d_0_takeChange_50 0 rfl ?_
    refine jg_dup (pc := 51) X d_0_takeChange_51 rfl ?_
    refine jgf_0_0 (pc := 52) X tv0 kw_235 d_0_takeChange_52 ?_
    refine jg_iconst (pc := 55) X d_0_takeChange_55 ?_
    refine jg_iadd (pc := 56) X d_0_takeChange_56 ?_
    obtain ⟨r14, h⟩ := h
    refine jgp_0_0 (pc := 57) X tv0 kw_235 d_0_takeChange_57 ?_
    have w15 := jWF.u (k := 0) (v := (((jU (jU (jU (jU C (v0 + 1) (C v0 0) v1) (v0 + 2) ((jU C (v0 + 1) (C v0 0) v1) v0 0) v2) (v0 + 3) ((jU (jU C (v0 + 1) (C v0 0) v1) (v0 + 2) ((jU C (v0 + 1) (C v0 0) v1) v0 0) v2) v0 0) v3) (v0 + 4) ((jU (jU (jU C (v0 + 1) (C v0 0) v1) (v0 + 2) ((jU C (v0 + 1) (C v0 0) v1) v0 0) v2) (v0 + 3) ((jU (jU C (v0 + 1) (C v0 0) v1) (v0 + 2) ((jU C (v0 + 1) (C v0 0) v1) v0 0) v2) v0 0) v3) v0 0) v4) v0 0) + 1)) w13 tv0 (by decide) r14
    exact jg_return (pc := 60) X hAe hlocks hr d_0_takeChange_60 ⟨(Nat.le_of_ble_eq_true rfl), (Nat.le_of_ble_eq_true rfl)⟩ w15 h
set_option maxHeartbeats 4000000 in
set_option maxRecDepth 100000 in
theorem m_3_takeChange {l : Launch} {Z : jE} {n : Nat} {C : jC} {v0 : Int} {v1 : Int} {v2 : Int} {v3 : Int} {v4 : Int} {v5 : Int} {post : jC → Prop} (tv0 : jT n v0 3) (rv1 : jRng v1) (rv2 : jRng v2) (rv3 : jRng v3) (rv4 : jRng v4) (rv5 : jRng v5) (hw0 : jWF n C) (h : wp_3_takeChange v0 v1 v2 v3 v4 v5 C post) : jCv l y_3_takeChange prog_5_method_2_code 7 q_3_takeChange Z n C [jr Z v0, jI v1, jI v2, jI v3, jI v4, jI v5] post := by
  have hn := hw0.2.2.1
  unfold wp_3_takeChange at h
  refine jCv_of (lv0 := [(0, jr Z v0), (1, jI v1), (2, jI v2), (3, jI v3), (4, jI v4), (5, jI v5)]) (by decide) (Nat.le_of_ble_eq_true rfl) rfl ?_
  intro p e s m args below meth c A sz X hAe hr hlocks
  refine jg_aload_n (pc := 0) X d_3_takeChange_0 0 rfl ?_
  refine jgf_3_1 (pc := 1) X tv0 kw_219 d_3_takeChange_1 ?_
  refine jg_iconst (pc := 4) X d_3_takeChange_4 ?_
  refine jg_imul (pc := 5) X d_3_takeChange_5 ?_
  refine jg_istore (pc := 6) X [(6, jI ((C v0 1) * 5)), (0, jr Z v0), (1, jI v1), (2, jI v2), (3, jI v3), (4, jI v4), (5, jI v5)] d_3_takeChange_6 (by decide) rfl ?_
  refine jg_iload (pc := 8) X d_3_takeChange_8 0 rfl ?_
  obtain ⟨r1, h⟩ := h
  refine jg_if_lt (tgt := 23) (pc := 10) X d_3_takeChange_10 (by decide) r1 h (fun c2 h => ?_) (fun c2 h => ?_)
  · have c2 : ((C v0 1) * 5) < 0 := c2
    exact jg_return (pc := 23) X hAe hlocks hr d_3_takeChange_23 ⟨(Nat.le_of_ble_eq_true rfl), (Nat.le_of_ble_eq_true rfl)⟩ hw0 h
  · have c2 : ¬ (((C v0 1) * 5) < 0) := c2
    refine jg_iload (pc := 13) X d_3_takeChange_13 0 rfl ?_
    refine jg_iconst (pc := 15) X d_3_takeChange_15 ?_
    refine jg_iadd (pc := 16) X d_3_takeChange_16 ?_
    refine jg_sipush (pc := 17) X d_3_takeChange_17 rfl ?_
    obtain ⟨r3, h⟩ := h
    refine jg_icmp_le (tgt := 24) (pc := 20) X d_3_takeChange_20 (by decide) r3 (⟨by decide, by decide⟩ : jRng 200) h (fun c4 h => ?_) (fun c4 h => ?_)
    · have c4 : (((C v0 1) * 5) + 5) ≤ 200 := c4
      refine jg_aload_n (pc := 24) X d_3_takeChange_24 1 rfl ?_
      refine jgf_3_0 (pc := 25) X tv0 kw_218 d_3_takeChange_25 ?_
      refine jg_iload (pc := 28) X d_3_takeChange_28 0 rfl ?_
      refine jg_iload_n (pc := 30) X d_3_takeChange_30 2 rfl ?_
      obtain ⟨b6, h⟩ := h
      have b5 : 0 ≤ ((C v0 1) * 5) := by (have z0 : jRng ((C v0 1) * 5) := r1; have z1 : jRng (C v0 1) := (hw0.1 _ _); unfold jRng at z0 z1; omega)
      refine jg_iastore (len := 200) (pc := 31) X d_3_takeChange_31 (jc_lo_0 hn tv0) (fun _ => rfl) (by decide) b5 b6 ?_
      have w7 := jWF.u (k := ((C v0 1) * 5)) (v := v1) hw0 (jc_lo_0 hn tv0) (by decide) rv1
      refine jg_aload_n (pc := 32) X d_3_takeChange_32 1 rfl ?_
      refine jgf_3_0 (pc := 33) X tv0 kw_218 d_3_takeChange_33 ?_
      refine jg_iload (pc := 36) X d_3_takeChange_36 0 rfl ?_
      refine jg_iconst (pc := 38) X d_3_takeChange_38 ?_
      refine jg_iadd (pc := 39) X d_3_takeChange_39 ?_
      refine jg_iload_n (pc := 40) X d_3_takeChange_40 3 rfl ?_
      obtain ⟨b9, h⟩ := h
      have b8 : 0 ≤ (((C v0 1) * 5) + 1) := by (have z0 : jRng ((C v0 1) * 5) := r1; have z1 : jRng (C v0 1) := (hw0.1 _ _); unfold jRng at z0 z1; omega)
      refine jg_iastore (len := 200) (pc := 41) X d_3_takeChange_41 (jc_lo_0 hn tv0) (fun _ => rfl) (by decide) b8 b9 ?_
      have w10 := jWF.u (k := (((C v0 1) * 5) + 1)) (v := v2) w7 (jc_lo_0 hn tv0) (by decide) rv2
      refine jg_aload_n (pc := 42) X d_3_takeChange_42 1 rfl ?_
      refine jgf_3_0 (pc := 43) X tv0 kw_218 d_3_takeChange_43 ?_
      refine jg_iload (pc := 46) X d_3_takeChange_46 0 rfl ?_
      refine jg_iconst (pc := 48) X d_3_takeChange_48 ?_
      refine jg_iadd (pc := 49) X d_3_takeChange_49 ?_
      refine jg_iload_n (pc := 50) X d_3_takeChange_50 4 rfl ?_
      obtain ⟨b12, h⟩ := h
      have b11 : 0 ≤ (((C v0 1) * 5) + 2) := by (have z0 : jRng ((C v0 1) * 5) := r1; have z1 : jRng (C v0 1) := (hw0.1 _ _); unfold jRng at z0 z1; omega)
      refine jg_iastore (len := 200) (pc := 51) X d_3_takeChange_51 (jc_lo_0 hn tv0) (fun _ => rfl) (by decide) b11 b12 ?_
      have w13 := jWF.u (k := (((C v0 1) * 5) + 2)) (v := v3) w10 (jc_lo_0 hn tv0) (by decide) rv3
      refine jg_aload_n (pc := 52) X d_3_takeChange_52 1 rfl ?_
      refine jgf_3_0 (pc := 53) X tv0 kw_218 d_3_takeChange_53 ?_
      refine jg_iload (pc := 56) X d_3_takeChange_56 0 rfl ?_
      refine jg_iconst (pc := 58) X d_3_takeChange_58 ?_
      refine jg_iadd (pc := 59) X d_3_takeChange_59 ?_
      refine jg_iload (pc := 60) X d_3_takeChange_60 5 rfl ?_
      obtain ⟨b15, h⟩ := h
      have b14 : 0 ≤ (((C v0 1) * 5) + 3) := by (have z0 : jRng ((C v0 1) * 5) := r1; have z1 : jRng (C v0 1) := (hw0.1 _ _); unfold jRng at z0 z1; omega)
      refine jg_iastore (len := 200) (pc := 62) X d_3_takeChange_62 (jc_lo_0 hn tv0) (fun _ => rfl) (by decide) b14 b15 ?_
      have w16 := jWF.u (k := (((C v0 1) * 5) + 3)) (v := v4) w13 (jc_lo_0 hn tv0) (by decide) rv4
      refine jg_aload_n (pc := 63) X d_3_takeChange_63 1 rfl ?_
      refine jgf_3_0 (pc := 64) X tv0 kw_218 d_3_takeChange_64 ?_
      refine jg_iload (pc := 67) X d_3_takeChange_67 0 rfl ?_
      refine jg_iconst (pc := 69) X d_3_takeChange_69 ?_
      refine jg_iadd (pc := 70) X d_3_takeChange_70 ?_
      refine jg_iload (pc := 71) X d_3_takeChange_71 6 rfl ?_
      obtain ⟨b18, h⟩ := h
      have b17 : 0 ≤ (((C v0 1) * 5) + 4) := by (have z0 : jRng ((C v0 1) * 5) := r1; have z1 : jRng (C v0 1) := (hw0.1 _ _); unfold jRng at z0 z1; omega)
      refine jg_iastore (len := 200) (pc := 73) X d_3_takeChange_73 (jc_lo_0 hn tv0) (fun _ => rfl) (by decide) b17 b18 ?_
      have w19 := jWF.u (k := (((C v0 1) * 5) + 4)) (v := v5) w16 (jc_lo_0 hn tv0) (by decide) rv5
      refine jg_aload_n (pc := 74) X d_3_takeChange_74 1 rfl ?_
      refine jg_aload_n (pc := 75) X d_3_takeChange_75 1 rfl ?_
      refine jgf_3_1 (pc := 76) X tv0 kw_219 d_3_takeChange_76 ?_
      refine jg_iconst (pc := 79) X d_3_takeChange_79 ?_
      refine jg_iadd (pc := 80) X d_3_takeChange_80 ?_
      refine jg_bipush (pc := 81) X d_3_takeChange_81 rfl ?_
      obtain ⟨r20, h⟩ := h
      have r21 : jRng ((((jU (jU (jU (jU (jU C (v0 + 1) ((C v0 1) * 5) v1) (v0 + 1) (((C v0 1) * 5) + 1) v2) (v0 + 1) (((C v0 1) * 5) + 2) v3) (v0 + 1) (((C v0 1) * 5) + 3) v4) (v0 + 1) (((C v0 1) * 5) + 4) v5) v0 1) + 1).tmod 40) := jrng_tmod r20 (by decide) (by decide)
      refine jg_irem (pc := 83) X d_3_takeChange_83 r20 (by decide) (by decide) ?_
      refine jgp_3_1 (pc := 84) X tv0 kw_219 d_3_takeChange_84 ?_
      have w22 := jWF.u (k := 1) (v := ((((jU (jU (jU (jU (jU C (v0 + 1) ((C v0 1) * 5) v1) (v0 + 1) (((C v0 1) * 5) + 1) v2) (v0 + 1) (((C v0 1) * 5) + 2) v3) (v0 + 1) (((C v0 1) * 5) + 3) v4) (v0 + 1) (((C v0 1) * 5) + 4) v5) v0 1) + 1).tmod 40)) w19 tv0 (by decide) r21
      refine jg_aload_n (pc := 87) X d_3_takeChange_87 1 rfl ?_
      refine jg_aload_n (pc := 88) X d_3_takeChange_88 1 rfl ?_
      refine jgf_3_2 (pc := 89) X tv0 kw_220 d_3_takeChange_89 ?_
      refine jg_iconst (pc := 92) X d_3_takeChange_92 ?_
      refine jg_iadd (pc := 93) X d_3_takeChange_93 ?_
      refine jg_bipush (pc := 94) X d_3_takeChange_94 rfl ?_
      obtain ⟨r23, h⟩ := h
      have r24 : jRng (min (((jU (jU (jU (jU (jU (jU C (v0 + 1) ((C v0 1) * 5) v1) (v0 + 1) (((C v0 1) * 5) + 1) v2) (v0 + 1) (((C v0 1) * 5) + 2) v3) (v0 + 1) (((C v0 1) * 5) + 3) v4) (v0 + 1) (((C v0 1) * 5) + 4) v5) v0 1 ((((jU (jU (jU (jU (jU C (v0 + 1) ((C v0 1) * 5) v1) (v0 + 1) (((C v0 1) * 5) + 1) v2) (v0 + 1) (((C v0 1) * 5) + 2) v3) (v0 + 1) (((C v0 1) * 5) + 3) v4) (v0 + 1) (((C v0 1) * 5) + 4) v5) v0 1) + 1).tmod 40)) v0 2) + 1) 40) := jrng_min r23 (⟨by decide, by decide⟩ : jRng 40)
      refine jg_min (pc := 96) X kw_1044 d_3_takeChange_96 kw_min1 kw_ma kw_min2 ⟨(Nat.le_of_ble_eq_true rfl), (Nat.le_of_ble_eq_true rfl), (Nat.le_of_ble_eq_true rfl), (Nat.le_of_ble_eq_true rfl)⟩ r23 (⟨by decide, by decide⟩ : jRng 40) ?_
      refine jgp_3_2 (pc := 99) X tv0 kw_220 d_3_takeChange_99 ?_
      have w25 := jWF.u (k := 2) (v := (min (((jU (jU (jU (jU (jU (jU C (v0 + 1) ((C v0 1) * 5) v1) (v0 + 1) (((C v0 1) * 5) + 1) v2) (v0 + 1) (((C v0 1) * 5) + 2) v3) (v0 + 1) (((C v0 1) * 5) + 3) v4) (v0 + 1) (((C v0 1) * 5) + 4) v5) v0 1 ((((jU (jU (jU (jU (jU C (v0 + 1) ((C v0 1) * 5) v1) (v0 + 1) (((C v0 1) * 5) + 1) v2) (v0 + 1) (((C v0 1) * 5) + 2) v3) (v0 + 1) (((C v0 1) * 5) + 3) v4) (v0 + 1) (((C v0 1) * 5) + 4) v5) v0 1) + 1).tmod 40)) v0 2) + 1) 40)) w22 tv0 (by decide) r24
      exact jg_return (pc := 102) X hAe hlocks hr d_3_takeChange_102 ⟨(Nat.le_of_ble_eq_true rfl), (Nat.le_of_ble_eq_true rfl)⟩ w25 h
    · have c4 : ¬ ((((C v0 1) * 5) + 5) ≤ 200) := c4
      exact jg_return (pc := 23) X hAe hlocks hr d_3_takeChange_23 ⟨(Nat.le_of_ble_eq_true rfl), (Nat.le_of_ble_eq_true rfl)⟩ hw0 h
set_option maxHeartbeats 4000000 in
set_option maxRecDepth 100000 in
theorem m_8_changeCell {l : Launch} {Z : jE} {n : Nat} {C : jC} {v0 : Int} {v1 : Int} {v2 : Int} {v3 : Int} {v4 : Int} {post : jC → Prop} (tv0 : jT n v0 8) (rv1 : jRng v1) (rv2 : jRng v2) (rv3 : jRng v3) (rv4 : jRng v4) (hw0 : jWF n C) (h : wp_8_changeCell v0 v1 v2 v3 v4 C post) : jCv l y_8_changeCell prog_10_method_7_code 7 q_8_changeCell Z n C [jr Z v0, jI v1, jI v2, jI v3, jI v4] post := by
  have hn := hw0.2.2.1
  unfold wp_8_changeCell at h
  refine jCv_of (lv0 := [(0, jr Z v0), (1, jI v1), (2, jI v2), (3, jI v3), (4, jI v4)]) (by decide) (Nat.le_of_ble_eq_true rfl) rfl ?_
  intro p e s m args below meth c A sz X hAe hr hlocks
  refine jg_aload_n (pc := 0) X d_8_changeCell_0 0 rfl ?_
  refine jgf_8_0 (pc := 1) X tv0 kw_288 d_8_changeCell_1 ?_
  refine jg_iload_n (pc := 4) X d_8_changeCell_4 2 rfl ?_
  refine jg_iload_n (pc := 5) X d_8_changeCell_5 3 rfl ?_
  refine jg_pcallVi (pc := 6) X (m_7_valueAt (jc_st_0 hn tv0) rv2 rv3 hw0 h) jM_7_valueAt kw_1034 (jc_st_0 hn tv0) rfl rfl rfl rfl rfl (Nat.le_of_ble_eq_true rfl) d_8_changeCell_6 ⟨(Nat.le_of_ble_eq_true rfl), (Nat.le_of_ble_eq_true rfl)⟩ ⟨(Nat.le_of_ble_eq_true rfl), (Nat.le_of_ble_eq_true rfl)⟩ (fun x1 r3 h => ?_)
  refine jg_istore (pc := 9) X [(5, jI x1), (0, jr Z v0), (1, jI v1), (2, jI v2), (3, jI v3), (4, jI v4)] d_8_changeCell_9 (by decide) rfl ?_
  refine jg_iload (pc := 11) X d_8_changeCell_11 0 rfl ?_
  refine jg_iload (pc := 13) X d_8_changeCell_13 5 rfl ?_
  refine jg_icmp_eq (tgt := 69) (pc := 15) X d_8_changeCell_15 (by decide) r3 rv4 h (fun c5 h => ?_) (fun c5 h => ?_)
  · exact jg_return (pc := 69) X hAe hlocks hr d_8_changeCell_69 ⟨(Nat.le_of_ble_eq_true rfl), (Nat.le_of_ble_eq_true rfl)⟩ hw0 h
  · refine jg_aload_n (pc := 18) X d_8_changeCell_18 1 rfl ?_
    refine jgf_8_0 (pc := 19) X tv0 kw_288 d_8_changeCell_19 ?_
    refine jg_iload_n (pc := 22) X d_8_changeCell_22 3 rfl ?_
    refine jg_pcallVi (pc := 23) X (m_7_keyAt (jc_st_0 hn tv0) rv2 hw0 h) jM_7_keyAt kw_1035 (jc_st_0 hn tv0) rfl rfl rfl rfl rfl (Nat.le_of_ble_eq_true rfl) d_8_changeCell_23 ⟨(Nat.le_of_ble_eq_true rfl), (Nat.le_of_ble_eq_true rfl)⟩ ⟨(Nat.le_of_ble_eq_true rfl), (Nat.le_of_ble_eq_true rfl)⟩ (fun x6 r8 h => ?_)
    refine jg_istore (pc := 26) X [(6, jI x6), (5, jI x1), (0, jr Z v0), (1, jI v1), (2, jI v2), (3, jI v3), (4, jI v4)] d_8_changeCell_26 (by decide) rfl ?_
    refine jg_aload_n (pc := 28) X d_8_changeCell_28 2 rfl ?_
    refine jgf_8_0 (pc := 29) X tv0 kw_288 d_8_changeCell_29 ?_
    refine jg_iload_n (pc := 32) X d_8_changeCell_32 4 rfl ?_
    refine jg_iload_n (pc := 33) X d_8_changeCell_33 5 rfl ?_
    refine jg_iload (pc := 34) X d_8_changeCell_34 6 rfl ?_
    refine jg_iload_n (pc := 36) X d_8_changeCell_36 3 rfl ?_
    refine jg_callVv (pc := 37) X (m_7_write (jc_st_0 hn tv0) rv2 rv3 rv4 rv1 hw0 h) jM_7_write kw_730 (jc_st_0 hn tv0) rfl rfl rfl rfl rfl (Nat.le_of_ble_eq_true rfl) d_8_changeCell_37 ⟨(Nat.le_of_ble_eq_true rfl), (Nat.le_of_ble_eq_true rfl)⟩ ⟨(Nat.le_of_ble_eq_true rfl), (Nat.le_of_ble_eq_true rfl)⟩ (fun C11 w13 h => ?_)
    refine jg_aload_n (pc := 40) X d_8_changeCell_40 2 rfl ?_
    refine jgf_8_3 (pc := 41) X tv0 kw_295 d_8_changeCell_41 ?_
    refine jg_iload (pc := 44) X d_8_changeCell_44 0 rfl ?_
    refine jg_iload_n (pc := 46) X d_8_changeCell_46 5 rfl ?_
    refine jg_iload (pc := 47) X d_8_changeCell_47 1 rfl ?_
    refine jg_iload (pc := 49) X d_8_changeCell_49 6 rfl ?_
    refine jg_callVv (pc := 51) X (m_0_takeChange (jc_st_3 hn tv0) r8 rv3 r3 rv4 w13 h) jM_0_takeChange kw_1036 (jc_st_3 hn tv0) rfl rfl rfl rfl rfl (Nat.le_of_ble_eq_true rfl) d_8_changeCell_51 ⟨(Nat.le_of_ble_eq_true rfl), (Nat.le_of_ble_eq_true rfl)⟩ ⟨(Nat.le_of_ble_eq_true rfl), (Nat.le_of_ble_eq_true rfl)⟩ (fun C15 w17 h => ?_)
    refine jg_aload_n (pc := 54) X d_8_changeCell_54 2 rfl ?_
    refine jgf_8_2 (pc := 55) X tv0 kw_293 d_8_changeCell_55 ?_
    refine jg_iload_n (pc := 58) X d_8_changeCell_58 3 rfl ?_
    refine jg_iload (pc := 59) X d_8_changeCell_59 0 rfl ?_
    refine jg_iload_n (pc := 61) X d_8_changeCell_61 5 rfl ?_
    refine jg_iload (pc := 62) X d_8_changeCell_62 1 rfl ?_
    refine jg_iload (pc := 64) X d_8_changeCell_64 6 rfl ?_
    refine jg_callVv (pc := 66) X (m_3_takeChange (jc_st_2 hn tv0) rv1 r8 rv3 r3 rv4 w17 h) jM_3_takeChange kw_1040 (jc_st_2 hn tv0) rfl rfl rfl rfl rfl (Nat.le_of_ble_eq_true rfl) d_8_changeCell_66 ⟨(Nat.le_of_ble_eq_true rfl), (Nat.le_of_ble_eq_true rfl)⟩ ⟨(Nat.le_of_ble_eq_true rfl), (Nat.le_of_ble_eq_true rfl)⟩ (fun C19 w21 h => ?_)
    exact jg_return (pc := 69) X hAe hlocks hr d_8_changeCell_69 ⟨(Nat.le_of_ble_eq_true rfl), (Nat.le_of_ble_eq_true rfl)⟩ w21 h
set_option maxHeartbeats 4000000 in
set_option maxRecDepth 100000 in
theorem m_10_forgetOldest {l : Launch} {Z : jE} {n : Nat} {C : jC} {v0 : Int} {post : jC → Prop} (tv0 : jT n v0 10) (hw0 : jWF n C) (h : wp_10_forgetOldest v0 C post) : jCv l y_10_forgetOldest prog_12_method_4_code 3 q_10_forgetOldest Z n C [jr Z v0] post := by
  have hn := hw0.2.2.1
  unfold wp_10_forgetOldest at h
  refine jCv_of (lv0 := [(0, jr Z v0)]) (by decide) (Nat.le_of_ble_eq_true rfl) rfl ?_
  intro p e s m args below meth c A sz X hAe hr hlocks
  refine jg_aload_n (pc := 0) X d_10_forgetOldest_0 0 rfl ?_
  refine jgf_10_2 (pc := 1) X tv0 kw_276 d_10_forgetOldest_1 ?_
  refine jg_iconst (pc := 4) X d_10_forgetOldest_4 ?_
  refine jg_aaloadE (pc := 5) X d_10_forgetOldest_5 (jc_vi_2 hn tv0) (by decide) (by decide) ?_
  refine jg_astore_n (pc := 6) X [(1, jr Z (C (v0 + 31) 0)), (0, jr Z v0)] d_10_forgetOldest_6 (by decide) rfl ?_
  refine jg_iconst (pc := 7) X d_10_forgetOldest_7 ?_
  refine jg_istore_n (pc := 8) X [(2, jI 1), (1, jr Z (C (v0 + 31) 0)), (0, jr Z v0)] d_10_forgetOldest_8 (by decide) rfl ?_
  have jl9 : ∀ (v1 : Int) (tv1 : jT n v1 0) (N : Nat) (v2 : Int) (C : jC) (rv2 : jRng v2) (hw : jWF n C), jI2 (wp_10_forgetOldest_9 v0 v1 post) N v2 C → jG p l e q_10_forgetOldest s m args below meth c 3 Z A (jws Z n C) 0 0 (MQ below (jQv Z n sz post) args s q_10_forgetOldest.cells q_10_forgetOldest.slots (jA Z n sz)) 9 [(0, jr Z v0), (1, jr Z v1), (2, jI v2)] [] := by
    intro v1 tv1 N
    have hn := hw0.2.2.1
    induction N with
    | zero => intro v2 C rv2 hw h; exact h.elim
    | succ N ih9 =>
      intro v2 C rv2 hw h
      have h : wp_10_forgetOldest_9 v0 v1 post (jI2 (wp_10_forgetOldest_9 v0 v1 post) N) v2 C := h
      generalize jI2 (wp_10_forgetOldest_9 v0 v1 post) N = k9 at h ih9
      unfold wp_10_forgetOldest_9 at h
      refine jg_iload_n (pc := 9) X d_10_forgetOldest_9 2 rfl ?_
      refine jg_bipush (pc := 10) X d_10_forgetOldest_10 rfl ?_
      refine jg_icmp_ge (tgt := 35) (pc := 12) X d_10_forgetOldest_12 (by decide) rv2 (⟨by decide, by decide⟩ : jRng 8) h (fun c3 h => ?_) (fun c3 h => ?_)
      · refine jg_aload_n (pc := 35) X d_10_forgetOldest_35 0 rfl ?_
        refine jgf_10_2 (pc := 36) X tv0 kw_276 d_10_forgetOldest_36 ?_
        refine jg_bipush (pc := 39) X d_10_forgetOldest_39 rfl ?_
        refine jg_aload_n (pc := 41) X d_10_forgetOldest_41 1 rfl ?_
        refine jg_aastoreE (pc := 42) X d_10_forgetOldest_42 (jc_vi_2 hn tv0) tv1 (by decide) (by decide) ?_
        have w6 := jWF.e (k := 7) (v := v1) hw (jc_vi_2 hn tv0) tv1
        refine jg_aload_n (pc := 43) X d_10_forgetOldest_43 0 rfl ?_
        refine jg_bipush (pc := 44) X d_10_forgetOldest_44 rfl ?_
        refine jgp_10_3 (pc := 46) X tv0 kw_277 d_10_forgetOldest_46 ?_
        have w7 := jWF.u (k := 3) (v := 7) w6 tv0 (by decide) (⟨by decide, by decide⟩ : jRng 7)
        exact jg_return (pc := 49) X hAe hlocks hr d_10_forgetOldest_49 ⟨(Nat.le_of_ble_eq_true rfl), (Nat.le_of_ble_eq_true rfl)⟩ w7 h
      · refine jg_aload_n (pc := 15) X d_10_forgetOldest_15 0 rfl ?_
        refine jgf_10_2 (pc := 16) X tv0 kw_276 d_10_forgetOldest_16 ?_
        refine jg_iload_n (pc := 19) X d_10_forgetOldest_19 2 rfl ?_
        refine jg_iconst (pc := 20) X d_10_forgetOldest_20 ?_
        refine jg_isub (pc := 21) X d_10_forgetOldest_21 ?_
        refine jg_aload_n (pc := 22) X d_10_forgetOldest_22 0 rfl ?_
        refine jgf_10_2 (pc := 23) X tv0 kw_276 d_10_forgetOldest_23 ?_
        refine jg_iload_n (pc := 26) X d_10_forgetOldest_26 2 rfl ?_
        obtain ⟨b8, h⟩ := h
        have b9 : v2 < 8 := by (have z0 : jRng v2 := rv2; unfold jRng at z0; omega)
        refine jg_aaloadE (pc := 27) X d_10_forgetOldest_27 (jc_vi_2 hn tv0) b8 b9 ?_
        obtain ⟨b10, h⟩ := h
        have b11 : (v2 - 1) < 8 := by (have z0 : jRng v2 := rv2; unfold jRng at z0; omega)
        refine jg_aastoreE (pc := 28) X d_10_forgetOldest_28 (jc_vi_2 hn tv0) (hw.2.1 _ (jc_vi_2 hn tv0) _ b8 b9) b10 b11 ?_
        have w12 := jWF.e (k := (v2 - 1)) (v := (C (v0 + 31) v2)) hw (jc_vi_2 hn tv0) (hw.2.1 _ (jc_vi_2 hn tv0) _ b8 b9)
        refine jg_iinc (pc := 29) X [(2, jI (v2 + 1)), (0, jr Z v0), (1, jr Z v1)] d_10_forgetOldest_29 2 rfl (by decide) rfl ?_
        refine jg_goto (tgt := 9) (pc := 32) X d_10_forgetOldest_32 (by decide) ?_
        have r13 : jRng (v2 + 1) := by (unfold jRng; exact ⟨by (have z0 : jRng v2 := rv2; unfold jRng at z0; omega), by (have z0 : jRng v2 := rv2; unfold jRng at z0; omega)⟩)
        refine jg_sub [1, 2, 0] rfl ?_
        exact ih9 _ _ r13 w12 h
  obtain ⟨N, h⟩ := h
  refine jg_sub [2, 1, 0] rfl ?_
  exact jl9 _ (hw0.2.1 _ (jc_vi_2 hn tv0) _ (by decide) (by decide)) N _ _ (⟨by decide, by decide⟩ : jRng 1) hw0 h
set_option maxHeartbeats 4000000 in
set_option maxRecDepth 100000 in
theorem m_10_remember {l : Launch} {Z : jE} {n : Nat} {C : jC} {v0 : Int} {v1 : Int} {post : jC → Prop} (tv0 : jT n v0 10) (tv1 : jT n v1 0) (hw0 : jWF n C) (h : wp_10_remember v0 v1 C post) : jCv l y_10_remember prog_12_method_3_code 2 q_10_remember Z n C [jr Z v0, jr Z v1] post := by
  have hn := hw0.2.2.1
  unfold wp_10_remember at h
  refine jCv_of (lv0 := [(0, jr Z v0), (1, jr Z v1)]) (by decide) (Nat.le_of_ble_eq_true rfl) rfl ?_
  intro p e s m args below meth c A sz X hAe hr hlocks
  refine jg_aload_n (pc := 0) X d_10_remember_0 0 rfl ?_
  refine jgf_10_3 (pc := 1) X tv0 kw_277 d_10_remember_1 ?_
  refine jg_bipush (pc := 4) X d_10_remember_4 rfl ?_
  refine jg_icmp_lt (tgt := 13) (pc := 6) X d_10_remember_6 (by decide) (hw0.1 _ _) (⟨by decide, by decide⟩ : jRng 8) h (fun c1 h => ?_) (fun c1 h => ?_)
  · have c1 : (C v0 3) < 8 := c1
    refine jg_aload_n (pc := 13) X d_10_remember_13 0 rfl ?_
    refine jgf_10_2 (pc := 14) X tv0 kw_276 d_10_remember_14 ?_
    refine jg_aload_n (pc := 17) X d_10_remember_17 0 rfl ?_
    refine jgf_10_3 (pc := 18) X tv0 kw_277 d_10_remember_18 ?_
    obtain ⟨b2, h⟩ := h
    have b3 : (C v0 3) < 8 := by (have z0 : jRng (C v0 3) := (hw0.1 _ _); unfold jRng at z0; omega)
    refine jg_aaloadE (pc := 21) X d_10_remember_21 (jc_vi_2 hn tv0) b2 b3 ?_
    refine jg_aload_n (pc := 22) X d_10_remember_22 1 rfl ?_
    refine jg_callVv (pc := 23) X (m_0_copyFrom (hw0.2.1 _ (jc_vi_2 hn tv0) _ b2 b3) tv1 hw0 h) jM_0_copyFrom kw_419 (hw0.2.1 _ (jc_vi_2 hn tv0) _ b2 b3) rfl rfl rfl rfl rfl (Nat.le_of_ble_eq_true rfl) d_10_remember_23 ⟨(Nat.le_of_ble_eq_true rfl), (Nat.le_of_ble_eq_true rfl)⟩ ⟨(Nat.le_of_ble_eq_true rfl), (Nat.le_of_ble_eq_true rfl)⟩ (fun C5 w7 h => ?_)
    refine jg_aload_n (pc := 26) X d_10_remember_26 0 rfl ?_
    refine jg_dup (pc := 27) X d_10_remember_27 rfl ?_
    refine jgf_10_3 (pc := 28) X tv0 kw_277 d_10_remember_28 ?_
    refine jg_iconst (pc := 31) X d_10_remember_31 ?_
    refine jg_iadd (pc := 32) X d_10_remember_32 ?_
    obtain ⟨r8, h⟩ := h
    refine jgp_10_3 (pc := 33) X tv0 kw_277 d_10_remember_33 ?_
    have w9 := jWF.u (k := 3) (v := ((C5 v0 3) + 1)) w7 tv0 (by decide) r8
    exact jg_return (pc := 36) X hAe hlocks hr d_10_remember_36 ⟨(Nat.le_of_ble_eq_true rfl), (Nat.le_of_ble_eq_true rfl)⟩ w9 h
  · have c1 : ¬ ((C v0 3) < 8) := c1
    refine jg_aload_n (pc := 9) X d_10_remember_9 0 rfl ?_
    refine jg_callVv (pc := 10) X (m_10_forgetOldest tv0 hw0 h) jM_10_forgetOldest kw_1053 tv0 rfl rfl rfl rfl rfl (Nat.le_of_ble_eq_true rfl) d_10_remember_10 ⟨(Nat.le_of_ble_eq_true rfl), (Nat.le_of_ble_eq_true rfl)⟩ ⟨(Nat.le_of_ble_eq_true rfl), (Nat.le_of_ble_eq_true rfl)⟩ (fun C11 w13 h => ?_)
    refine jg_aload_n (pc := 13) X d_10_remember_13 0 rfl ?_
    refine jgf_10_2 (pc := 14) X tv0 kw_276 d_10_remember_14 ?_
    refine jg_aload_n (pc := 17) X d_10_remember_17 0 rfl ?_
    refine jgf_10_3 (pc := 18) X tv0 kw_277 d_10_remember_18 ?_
    obtain ⟨b14, b15, h⟩ := h
    refine jg_aaloadE (pc := 21) X d_10_remember_21 (jc_vi_2 hn tv0) b14 b15 ?_
    refine jg_aload_n (pc := 22) X d_10_remember_22 1 rfl ?_
    refine jg_callVv (pc := 23) X (m_0_copyFrom (w13.2.1 _ (jc_vi_2 hn tv0) _ b14 b15) tv1 w13 h) jM_0_copyFrom kw_419 (w13.2.1 _ (jc_vi_2 hn tv0) _ b14 b15) rfl rfl rfl rfl rfl (Nat.le_of_ble_eq_true rfl) d_10_remember_23 ⟨(Nat.le_of_ble_eq_true rfl), (Nat.le_of_ble_eq_true rfl)⟩ ⟨(Nat.le_of_ble_eq_true rfl), (Nat.le_of_ble_eq_true rfl)⟩ (fun C17 w19 h => ?_)
    refine jg_aload_n (pc := 26) X d_10_remember_26 0 rfl ?_
    refine jg_dup (pc := 27) X d_10_remember_27 rfl ?_
    refine jgf_10_3 (pc := 28) X tv0 kw_277 d_10_remember_28 ?_
    refine jg_iconst (pc := 31) X d_10_remember_31 ?_
    refine jg_iadd (pc := 32) X d_10_remember_32 ?_
    obtain ⟨r20, h⟩ := h
    refine jgp_10_3 (pc := 33) X tv0 kw_277 d_10_remember_33 ?_
    have w21 := jWF.u (k := 3) (v := ((C17 v0 3) + 1)) w19 tv0 (by decide) r20
    exact jg_return (pc := 36) X hAe hlocks hr d_10_remember_36 ⟨(Nat.le_of_ble_eq_true rfl), (Nat.le_of_ble_eq_true rfl)⟩ w21 h
set_option maxHeartbeats 4000000 in
set_option maxRecDepth 100000 in
theorem m_8_finishEdit {l : Launch} {Z : jE} {n : Nat} {C : jC} {v0 : Int} {v1 : Int} {post : Int → jC → Prop} (tv0 : jT n v0 8) (rv1 : jRng v1) (hw0 : jWF n C) (h : wp_8_finishEdit v0 v1 C post) : jCi l y_8_finishEdit prog_10_method_8_code 2 (.int) q_8_finishEdit Z n C [jr Z v0, jI v1] post := by
  have hn := hw0.2.2.1
  unfold wp_8_finishEdit at h
  refine jCi_of (lv0 := [(0, jr Z v0), (1, jI v1)]) (by decide) (Nat.le_of_ble_eq_true rfl) rfl ?_
  intro p e s m args below meth c A sz X hAe hr hlocks
  refine jg_aload_n (pc := 0) X d_8_finishEdit_0 0 rfl ?_
  refine jgf_8_3 (pc := 1) X tv0 kw_295 d_8_finishEdit_1 ?_
  refine jgfN_0_0 (pc := 4) X (jc_st_3 hn tv0) kn_236 d_8_finishEdit_4 ?_
  refine jg_if_le (tgt := 32) (pc := 7) X d_8_finishEdit_7 (by decide) (hw0.1 _ _) h (fun c1 h => ?_) (fun c1 h => ?_)
  · have c1 : (C (v0 + 11) 0) ≤ 0 := c1
    refine jg_aload_n (pc := 32) X d_8_finishEdit_32 0 rfl ?_
    refine jgf_8_3 (pc := 33) X tv0 kw_295 d_8_finishEdit_33 ?_
    refine jgfN_0_0 (pc := 36) X (jc_st_3 hn tv0) kn_236 d_8_finishEdit_36 ?_
    exact jg_ireturn (pc := 39) X hAe hlocks hr d_8_finishEdit_39 ⟨(Nat.le_of_ble_eq_true rfl), (Nat.le_of_ble_eq_true rfl)⟩ rfl (hw0.1 _ _) hw0 h
  · have c1 : ¬ ((C (v0 + 11) 0) ≤ 0) := c1
    refine jg_iload_n (pc := 10) X d_8_finishEdit_10 1 rfl ?_
    refine jg_if_lt (tgt := 32) (pc := 11) X d_8_finishEdit_11 (by decide) rv1 h (fun c2 h => ?_) (fun c2 h => ?_)
    · refine jg_aload_n (pc := 32) X d_8_finishEdit_32 0 rfl ?_
      refine jgf_8_3 (pc := 33) X tv0 kw_295 d_8_finishEdit_33 ?_
      refine jgfN_0_0 (pc := 36) X (jc_st_3 hn tv0) kn_236 d_8_finishEdit_36 ?_
      exact jg_ireturn (pc := 39) X hAe hlocks hr d_8_finishEdit_39 ⟨(Nat.le_of_ble_eq_true rfl), (Nat.le_of_ble_eq_true rfl)⟩ rfl (hw0.1 _ _) hw0 h
    · refine jg_iload_n (pc := 14) X d_8_finishEdit_14 1 rfl ?_
      refine jg_iconst (pc := 15) X d_8_finishEdit_15 ?_
      refine jg_icmp_ge (tgt := 32) (pc := 16) X d_8_finishEdit_16 (by decide) rv1 (⟨by decide, by decide⟩ : jRng 4) h (fun c3 h => ?_) (fun c3 h => ?_)
      · refine jg_aload_n (pc := 32) X d_8_finishEdit_32 0 rfl ?_
        refine jgf_8_3 (pc := 33) X tv0 kw_295 d_8_finishEdit_33 ?_
        refine jgfN_0_0 (pc := 36) X (jc_st_3 hn tv0) kn_236 d_8_finishEdit_36 ?_
        exact jg_ireturn (pc := 39) X hAe hlocks hr d_8_finishEdit_39 ⟨(Nat.le_of_ble_eq_true rfl), (Nat.le_of_ble_eq_true rfl)⟩ rfl (hw0.1 _ _) hw0 h
      · refine jg_aload_n (pc := 19) X d_8_finishEdit_19 0 rfl ?_
        refine jgf_8_1 (pc := 20) X tv0 kw_291 d_8_finishEdit_20 ?_
        refine jg_iload_n (pc := 23) X d_8_finishEdit_23 1 rfl ?_
        have b4 : 0 ≤ v1 := by (have z0 : jRng v1 := rv1; unfold jRng at z0; omega)
        have b5 : v1 < 4 := by (have z0 : jRng v1 := rv1; unfold jRng at z0; omega)
        refine jg_aaloadV (pc := 24) X d_8_finishEdit_24 (jc_st_1 hn tv0) b4 b5 ?_
        refine jg_aload_n (pc := 25) X d_8_finishEdit_25 0 rfl ?_
        refine jgf_8_3 (pc := 26) X tv0 kw_295 d_8_finishEdit_26 ?_
        refine jg_callVv (pc := 29) X (m_10_remember (jc_va hn (jc_st_1 hn tv0) b4 b5) (jc_st_3 hn tv0) hw0 h) jM_10_remember kw_1049 (jc_va hn (jc_st_1 hn tv0) b4 b5) rfl rfl rfl rfl rfl (Nat.le_of_ble_eq_true rfl) d_8_finishEdit_29 ⟨(Nat.le_of_ble_eq_true rfl), (Nat.le_of_ble_eq_true rfl)⟩ ⟨(Nat.le_of_ble_eq_true rfl), (Nat.le_of_ble_eq_true rfl)⟩ (fun C7 w9 h => ?_)
        refine jg_aload_n (pc := 32) X d_8_finishEdit_32 0 rfl ?_
        refine jgf_8_3 (pc := 33) X tv0 kw_295 d_8_finishEdit_33 ?_
        refine jgfN_0_0 (pc := 36) X (jc_st_3 hn tv0) kn_236 d_8_finishEdit_36 ?_
        exact jg_ireturn (pc := 39) X hAe hlocks hr d_8_finishEdit_39 ⟨(Nat.le_of_ble_eq_true rfl), (Nat.le_of_ble_eq_true rfl)⟩ rfl (w9.1 _ _) w9 h
set_option maxHeartbeats 4000000 in
set_option maxRecDepth 100000 in
theorem m_11_changeOne {l : Launch} {Z : jE} {n : Nat} {C : jC} {v1 : Int} {v2 : Int} {v3 : Int} {v4 : Int} {post : Int → jC → Prop} (rv1 : jRng v1) (rv2 : jRng v2) (rv3 : jRng v3) (rv4 : jRng v4) (hw0 : jWF n C) (h : wp_11_changeOne v1 v2 v3 v4 C post) : jCi l y_11_changeOne prog_1_method_54_code 5 (.int) q_11_changeOne Z n C [jr Z 0, jI v1, jI v2, jI v3, jI v4] post := by
  have hn := hw0.2.2.1
  unfold wp_11_changeOne at h
  refine jCi_of (lv0 := [(0, jr Z 0), (1, jI v1), (2, jI v2), (3, jI v3), (4, jI v4)]) (by decide) (Nat.le_of_ble_eq_true rfl) rfl ?_
  intro p e s m args below meth c A sz X hAe hr hlocks
  refine jg_aload_n (pc := 0) X d_11_changeOne_0 0 rfl ?_
  refine jgf_11_2 (pc := 1) X (jl_0_11 hn) kw_338 d_11_changeOne_1 ?_
  refine jg_callVv (pc := 4) X (m_8_beginEdit (jl_35_8 hn) hw0 h) jM_8_beginEdit kw_1026 (jl_35_8 hn) rfl rfl rfl rfl rfl (Nat.le_of_ble_eq_true rfl) d_11_changeOne_4 ⟨(Nat.le_of_ble_eq_true rfl), (Nat.le_of_ble_eq_true rfl)⟩ ⟨(Nat.le_of_ble_eq_true rfl), (Nat.le_of_ble_eq_true rfl)⟩ (fun C2 w4 h => ?_)
  refine jg_aload_n (pc := 7) X d_11_changeOne_7 0 rfl ?_
  refine jgf_11_2 (pc := 8) X (jl_0_11 hn) kw_338 d_11_changeOne_8 ?_
  refine jg_iload_n (pc := 11) X d_11_changeOne_11 1 rfl ?_
  refine jg_iload_n (pc := 12) X d_11_changeOne_12 2 rfl ?_
  refine jg_iload_n (pc := 13) X d_11_changeOne_13 3 rfl ?_
  refine jg_iload (pc := 14) X d_11_changeOne_14 4 rfl ?_
  refine jg_callVv (pc := 16) X (m_8_changeCell (jl_35_8 hn) rv1 rv2 rv3 rv4 w4 h) jM_8_changeCell kw_1030 (jl_35_8 hn) rfl rfl rfl rfl rfl (Nat.le_of_ble_eq_true rfl) d_11_changeOne_16 ⟨(Nat.le_of_ble_eq_true rfl), (Nat.le_of_ble_eq_true rfl)⟩ ⟨(Nat.le_of_ble_eq_true rfl), (Nat.le_of_ble_eq_true rfl)⟩ (fun C6 w8 h => ?_)
  refine jg_aload_n (pc := 19) X d_11_changeOne_19 0 rfl ?_
  refine jgf_11_2 (pc := 20) X (jl_0_11 hn) kw_338 d_11_changeOne_20 ?_
  refine jg_iload_n (pc := 23) X d_11_changeOne_23 1 rfl ?_
  refine jg_callVi (pc := 24) X (m_8_finishEdit (jl_35_8 hn) rv1 w8 h) jM_8_finishEdit kw_1045 (jl_35_8 hn) rfl rfl rfl rfl rfl (Nat.le_of_ble_eq_true rfl) d_11_changeOne_24 ⟨(Nat.le_of_ble_eq_true rfl), (Nat.le_of_ble_eq_true rfl)⟩ ⟨(Nat.le_of_ble_eq_true rfl), (Nat.le_of_ble_eq_true rfl)⟩ (fun x9 C10 r11 w12 h => ?_)
  refine jg_pop (pc := 27) X d_11_changeOne_27 rfl ?_
  refine jg_aload_n (pc := 28) X d_11_changeOne_28 0 rfl ?_
  refine jgf_11_2 (pc := 29) X (jl_0_11 hn) kw_338 d_11_changeOne_29 ?_
  refine jgfN_8_0 (pc := 32) X (jl_35_8 hn) kn_290 d_11_changeOne_32 ?_
  refine jg_iload_n (pc := 35) X d_11_changeOne_35 2 rfl ?_
  refine jg_pcallVi (pc := 36) X (m_7_keyAt (jl_36_7 hn) rv2 w12 h) jM_7_keyAt kw_376 (jl_36_7 hn) rfl rfl rfl rfl rfl (Nat.le_of_ble_eq_true rfl) d_11_changeOne_36 ⟨(Nat.le_of_ble_eq_true rfl), (Nat.le_of_ble_eq_true rfl)⟩ ⟨(Nat.le_of_ble_eq_true rfl), (Nat.le_of_ble_eq_true rfl)⟩ (fun x13 r15 h => ?_)
  exact jg_ireturn (pc := 39) X hAe hlocks hr d_11_changeOne_39 ⟨(Nat.le_of_ble_eq_true rfl), (Nat.le_of_ble_eq_true rfl)⟩ rfl r15 w12 h
set_option maxHeartbeats 4000000 in
set_option maxRecDepth 100000 in
theorem m_11_set {l : Launch} {Z : jE} {n : Nat} {C : jC} {v1 : Int} {v2 : Int} {v3 : Int} {v4 : Int} {ex : String → jC → Prop} {post : Int → jC → Prop} (rv1 : jRng v1) (rv2 : jRng v2) (rv3 : jRng v3) (rv4 : jRng v4) (hw0 : jWF n C) (h : wp_11_set v1 v2 v3 v4 C ex post) : jXi l y_11_set prog_1_method_14_code 7 (.int) q_11_set Z n C [jr Z 0, jI v1, jI v2, jI v3, jI v4] ex post := by
  have hn := hw0.2.2.1
  unfold wp_11_set at h
  refine jXi_of (lv0 := [(0, jr Z 0), (1, jI v1), (2, jI v2), (3, jI v3), (4, jI v4)]) (by decide) (Nat.le_of_ble_eq_true rfl) rfl ?_
  intro p e s m args below meth c A sz X hAe hr hlocks htab
  refine jg_aload_n (pc := 0) X d_11_set_0 0 rfl ?_
  refine jg_iload_n (pc := 1) X d_11_set_1 1 rfl ?_
  refine jg_pxcallVr (pc := 2) X hAe htab hlocks (m_11_viewNumbered rv1 hw0 h) jM_11_viewNumbered kw_772 (jl_0_11 hn) rfl rfl rfl rfl rfl (Nat.le_of_ble_eq_true rfl) d_11_set_2 ⟨(Nat.le_of_ble_eq_true rfl), (Nat.le_of_ble_eq_true rfl)⟩ ⟨(Nat.le_of_ble_eq_true rfl), (Nat.le_of_ble_eq_true rfl)⟩ ⟨(Nat.le_of_ble_eq_true rfl), (Nat.le_of_ble_eq_true rfl)⟩ (fun x1 h => ?_)
  obtain ⟨t5, h⟩ := h
  refine jg_eqst (congrArg (· :: _) (jn_pos t5.1)) ?_
  refine jg_astore (pc := 5) X [(5, jr Z x1), (0, jr Z 0), (1, jI v1), (2, jI v2), (3, jI v3), (4, jI v4)] d_11_set_5 (by decide) rfl ?_
  refine jg_aload_n (pc := 7) X d_11_set_7 1 rfl ?_
  refine jg_aload (pc := 8) X d_11_set_8 0 rfl ?_
  refine jg_iload_n (pc := 10) X d_11_set_10 3 rfl ?_
  refine jg_pxcallVi (pc := 11) X hAe htab hlocks (m_11_seatAtPlace t5 rv2 hw0 h) jM_11_seatAtPlace kw_989 (jl_0_11 hn) rfl rfl rfl rfl rfl (Nat.le_of_ble_eq_true rfl) d_11_set_11 ⟨(Nat.le_of_ble_eq_true rfl), (Nat.le_of_ble_eq_true rfl)⟩ ⟨(Nat.le_of_ble_eq_true rfl), (Nat.le_of_ble_eq_true rfl)⟩ ⟨(Nat.le_of_ble_eq_true rfl), (Nat.le_of_ble_eq_true rfl)⟩ (fun x6 r8 h => ?_)
  refine jg_istore (pc := 14) X [(6, jI x6), (5, jr Z x1), (0, jr Z 0), (1, jI v1), (2, jI v2), (3, jI v3), (4, jI v4)] d_11_set_14 (by decide) rfl ?_
  refine jg_aload_n (pc := 16) X d_11_set_16 2 rfl ?_
  refine jg_iload_n (pc := 17) X d_11_set_17 5 rfl ?_
  refine jg_pxcallVv (pc := 18) X hAe htab hlocks (m_11_needColumn rv3 hw0 h) jM_11_needColumn kw_904 (jl_0_11 hn) rfl rfl rfl rfl rfl (Nat.le_of_ble_eq_true rfl) d_11_set_18 ⟨(Nat.le_of_ble_eq_true rfl), (Nat.le_of_ble_eq_true rfl)⟩ ⟨(Nat.le_of_ble_eq_true rfl), (Nat.le_of_ble_eq_true rfl)⟩ ⟨(Nat.le_of_ble_eq_true rfl), (Nat.le_of_ble_eq_true rfl)⟩ (fun h => ?_)
  refine jg_aload_n (pc := 21) X d_11_set_21 2 rfl ?_
  refine jg_aload (pc := 22) X d_11_set_22 1 rfl ?_
  refine jg_iload_n (pc := 24) X d_11_set_24 5 rfl ?_
  refine jg_pxcallVv (pc := 25) X hAe htab hlocks (m_11_needShown t5 rv3 hw0 h) jM_11_needShown kw_993 (jl_0_11 hn) rfl rfl rfl rfl rfl (Nat.le_of_ble_eq_true rfl) d_11_set_25 ⟨(Nat.le_of_ble_eq_true rfl), (Nat.le_of_ble_eq_true rfl)⟩ ⟨(Nat.le_of_ble_eq_true rfl), (Nat.le_of_ble_eq_true rfl)⟩ ⟨(Nat.le_of_ble_eq_true rfl), (Nat.le_of_ble_eq_true rfl)⟩ (fun h => ?_)
  refine jg_aload_n (pc := 28) X d_11_set_28 2 rfl ?_
  refine jgf_11_2 (pc := 29) X (jl_0_11 hn) kw_338 d_11_set_29 ?_
  refine jgfN_8_0 (pc := 32) X (jl_35_8 hn) kn_290 d_11_set_32 ?_
  refine jg_iload_n (pc := 35) X d_11_set_35 5 rfl ?_
  refine jg_iload (pc := 36) X d_11_set_36 6 rfl ?_
  refine jg_pcallVi (pc := 38) X (m_7_mayHold (jl_36_7 hn) rv3 rv4 hw0 h) jM_7_mayHold kw_1013 (jl_36_7 hn) rfl rfl rfl rfl rfl (Nat.le_of_ble_eq_true rfl) d_11_set_38 ⟨(Nat.le_of_ble_eq_true rfl), (Nat.le_of_ble_eq_true rfl)⟩ ⟨(Nat.le_of_ble_eq_true rfl), (Nat.le_of_ble_eq_true rfl)⟩ (fun x18 r20 h => ?_)
  refine jg_if_ne (tgt := 52) (pc := 41) X d_11_set_41 (by decide) r20 h (fun c22 h => ?_) (fun c22 h => ?_)
  · exact jg_throw (pc := 44) X hAe htab hlocks (by decide) kw_612 kw_22 th_58 tg_58 d_11_set_44 d_11_set_47 d_11_set_48 d_11_set_51 ⟨(Nat.le_of_ble_eq_true rfl), (Nat.le_of_ble_eq_true rfl), (Nat.le_of_ble_eq_true rfl), (Nat.le_of_ble_eq_true rfl)⟩ ⟨(Nat.le_of_ble_eq_true rfl), (Nat.le_of_ble_eq_true rfl)⟩ hw0 h
  · refine jg_aload_n (pc := 52) X d_11_set_52 2 rfl ?_
    refine jg_iload_n (pc := 53) X d_11_set_53 3 rfl ?_
    refine jg_iload (pc := 54) X d_11_set_54 0 rfl ?_
    refine jg_iload_n (pc := 56) X d_11_set_56 5 rfl ?_
    refine jg_iload (pc := 57) X d_11_set_57 6 rfl ?_
    refine jg_callVi (pc := 59) X (m_11_changeOne rv1 r8 rv3 rv4 hw0 h) jM_11_changeOne kw_1022 (jl_0_11 hn) rfl rfl rfl rfl rfl (Nat.le_of_ble_eq_true rfl) d_11_set_59 ⟨(Nat.le_of_ble_eq_true rfl), (Nat.le_of_ble_eq_true rfl)⟩ ⟨(Nat.le_of_ble_eq_true rfl), (Nat.le_of_ble_eq_true rfl)⟩ (fun x23 C24 r25 w26 h => ?_)
    refine jg_ret_x ?_
    exact jg_ireturn (pc := 62) X hAe hlocks hr d_11_set_62 ⟨(Nat.le_of_ble_eq_true rfl), (Nat.le_of_ble_eq_true rfl)⟩ rfl r25 w26 h
set_option maxHeartbeats 4000000 in
set_option maxRecDepth 100000 in
theorem m_11_clear {l : Launch} {Z : jE} {n : Nat} {C : jC} {v1 : Int} {v2 : Int} {v3 : Int} {ex : String → jC → Prop} {post : Int → jC → Prop} (rv1 : jRng v1) (rv2 : jRng v2) (rv3 : jRng v3) (hw0 : jWF n C) (h : wp_11_clear v1 v2 v3 C ex post) : jXi l y_11_clear prog_1_method_15_code 6 (.int) q_11_clear Z n C [jr Z 0, jI v1, jI v2, jI v3] ex post := by
  have hn := hw0.2.2.1
  unfold wp_11_clear at h
  refine jXi_of (lv0 := [(0, jr Z 0), (1, jI v1), (2, jI v2), (3, jI v3)]) (by decide) (Nat.le_of_ble_eq_true rfl) rfl ?_
  intro p e s m args below meth c A sz X hAe hr hlocks htab
  refine jg_aload_n (pc := 0) X d_11_clear_0 0 rfl ?_
  refine jg_iload_n (pc := 1) X d_11_clear_1 1 rfl ?_
  refine jg_pxcallVr (pc := 2) X hAe htab hlocks (m_11_viewNumbered rv1 hw0 h) jM_11_viewNumbered kw_772 (jl_0_11 hn) rfl rfl rfl rfl rfl (Nat.le_of_ble_eq_true rfl) d_11_clear_2 ⟨(Nat.le_of_ble_eq_true rfl), (Nat.le_of_ble_eq_true rfl)⟩ ⟨(Nat.le_of_ble_eq_true rfl), (Nat.le_of_ble_eq_true rfl)⟩ ⟨(Nat.le_of_ble_eq_true rfl), (Nat.le_of_ble_eq_true rfl)⟩ (fun x1 h => ?_)
  obtain ⟨t5, h⟩ := h
  refine jg_eqst (congrArg (· :: _) (jn_pos t5.1)) ?_
  refine jg_astore (pc := 5) X [(4, jr Z x1), (0, jr Z 0), (1, jI v1), (2, jI v2), (3, jI v3)] d_11_clear_5 (by decide) rfl ?_
  refine jg_aload_n (pc := 7) X d_11_clear_7 1 rfl ?_
  refine jg_aload (pc := 8) X d_11_clear_8 0 rfl ?_
  refine jg_iload_n (pc := 10) X d_11_clear_10 3 rfl ?_
  refine jg_pxcallVi (pc := 11) X hAe htab hlocks (m_11_seatAtPlace t5 rv2 hw0 h) jM_11_seatAtPlace kw_989 (jl_0_11 hn) rfl rfl rfl rfl rfl (Nat.le_of_ble_eq_true rfl) d_11_clear_11 ⟨(Nat.le_of_ble_eq_true rfl), (Nat.le_of_ble_eq_true rfl)⟩ ⟨(Nat.le_of_ble_eq_true rfl), (Nat.le_of_ble_eq_true rfl)⟩ ⟨(Nat.le_of_ble_eq_true rfl), (Nat.le_of_ble_eq_true rfl)⟩ (fun x6 r8 h => ?_)
  refine jg_istore (pc := 14) X [(5, jI x6), (4, jr Z x1), (0, jr Z 0), (1, jI v1), (2, jI v2), (3, jI v3)] d_11_clear_14 (by decide) rfl ?_
  refine jg_aload_n (pc := 16) X d_11_clear_16 2 rfl ?_
  refine jg_iload_n (pc := 17) X d_11_clear_17 5 rfl ?_
  refine jg_pxcallVv (pc := 18) X hAe htab hlocks (m_11_needColumn rv3 hw0 h) jM_11_needColumn kw_904 (jl_0_11 hn) rfl rfl rfl rfl rfl (Nat.le_of_ble_eq_true rfl) d_11_clear_18 ⟨(Nat.le_of_ble_eq_true rfl), (Nat.le_of_ble_eq_true rfl)⟩ ⟨(Nat.le_of_ble_eq_true rfl), (Nat.le_of_ble_eq_true rfl)⟩ ⟨(Nat.le_of_ble_eq_true rfl), (Nat.le_of_ble_eq_true rfl)⟩ (fun h => ?_)
  refine jg_aload_n (pc := 21) X d_11_clear_21 2 rfl ?_
  refine jg_aload (pc := 22) X d_11_clear_22 1 rfl ?_
  refine jg_iload_n (pc := 24) X d_11_clear_24 5 rfl ?_
  refine jg_pxcallVv (pc := 25) X hAe htab hlocks (m_11_needShown t5 rv3 hw0 h) jM_11_needShown kw_993 (jl_0_11 hn) rfl rfl rfl rfl rfl (Nat.le_of_ble_eq_true rfl) d_11_clear_25 ⟨(Nat.le_of_ble_eq_true rfl), (Nat.le_of_ble_eq_true rfl)⟩ ⟨(Nat.le_of_ble_eq_true rfl), (Nat.le_of_ble_eq_true rfl)⟩ ⟨(Nat.le_of_ble_eq_true rfl), (Nat.le_of_ble_eq_true rfl)⟩ (fun h => ?_)
  refine jg_aload_n (pc := 28) X d_11_clear_28 2 rfl ?_
  refine jg_iload_n (pc := 29) X d_11_clear_29 3 rfl ?_
  refine jg_iload (pc := 30) X d_11_clear_30 0 rfl ?_
  refine jg_iload_n (pc := 32) X d_11_clear_32 5 rfl ?_
  refine jg_ldk (pc := 33) (-1000000) X kw_1064 (by decide) d_11_clear_33 ?_
  refine jg_callVi (pc := 35) X (m_11_changeOne rv1 r8 rv3 (⟨by decide, by decide⟩ : jRng (-1000000)) hw0 h) jM_11_changeOne kw_1022 (jl_0_11 hn) rfl rfl rfl rfl rfl (Nat.le_of_ble_eq_true rfl) d_11_clear_35 ⟨(Nat.le_of_ble_eq_true rfl), (Nat.le_of_ble_eq_true rfl)⟩ ⟨(Nat.le_of_ble_eq_true rfl), (Nat.le_of_ble_eq_true rfl)⟩ (fun x18 C19 r20 w21 h => ?_)
  refine jg_ret_x ?_
  exact jg_ireturn (pc := 38) X hAe hlocks hr d_11_clear_38 ⟨(Nat.le_of_ble_eq_true rfl), (Nat.le_of_ble_eq_true rfl)⟩ rfl r20 w21 h
set_option maxHeartbeats 4000000 in
set_option maxRecDepth 100000 in
theorem m_11_fill {l : Launch} {Z : jE} {n : Nat} {C : jC} {v1 : Int} {v2 : Int} {v3 : Int} {v4 : Int} {ex : String → jC → Prop} {post : Int → jC → Prop} (rv1 : jRng v1) (rv2 : jRng v2) (rv3 : jRng v3) (rv4 : jRng v4) (hw0 : jWF n C) (h : wp_11_fill v1 v2 v3 v4 C ex post) : jXi l y_11_fill prog_1_method_16_code 9 (.int) q_11_fill Z n C [jr Z 0, jI v1, jI v2, jI v3, jI v4] ex post := by
  have hn := hw0.2.2.1
  unfold wp_11_fill at h
  refine jXi_of (lv0 := [(0, jr Z 0), (1, jI v1), (2, jI v2), (3, jI v3), (4, jI v4)]) (by decide) (Nat.le_of_ble_eq_true rfl) rfl ?_
  intro p e s m args below meth c A sz X hAe hr hlocks htab
  refine jg_aload_n (pc := 0) X d_11_fill_0 0 rfl ?_
  refine jg_iload_n (pc := 1) X d_11_fill_1 1 rfl ?_
  refine jg_pxcallVr (pc := 2) X hAe htab hlocks (m_11_viewNumbered rv1 hw0 h) jM_11_viewNumbered kw_772 (jl_0_11 hn) rfl rfl rfl rfl rfl (Nat.le_of_ble_eq_true rfl) d_11_fill_2 ⟨(Nat.le_of_ble_eq_true rfl), (Nat.le_of_ble_eq_true rfl)⟩ ⟨(Nat.le_of_ble_eq_true rfl), (Nat.le_of_ble_eq_true rfl)⟩ ⟨(Nat.le_of_ble_eq_true rfl), (Nat.le_of_ble_eq_true rfl)⟩ (fun x1 h => ?_)
  obtain ⟨t5, h⟩ := h
  refine jg_eqst (congrArg (· :: _) (jn_pos t5.1)) ?_
  refine jg_astore (pc := 5) X [(5, jr Z x1), (0, jr Z 0), (1, jI v1), (2, jI v2), (3, jI v3), (4, jI v4)] d_11_fill_5 (by decide) rfl ?_
  refine jg_aload_n (pc := 7) X d_11_fill_7 1 rfl ?_
  refine jg_aload (pc := 8) X d_11_fill_8 0 rfl ?_
  refine jg_iload_n (pc := 10) X d_11_fill_10 3 rfl ?_
  refine jg_pxcallVi (pc := 11) X hAe htab hlocks (m_11_seatAtPlace t5 rv2 hw0 h) jM_11_seatAtPlace kw_989 (jl_0_11 hn) rfl rfl rfl rfl rfl (Nat.le_of_ble_eq_true rfl) d_11_fill_11 ⟨(Nat.le_of_ble_eq_true rfl), (Nat.le_of_ble_eq_true rfl)⟩ ⟨(Nat.le_of_ble_eq_true rfl), (Nat.le_of_ble_eq_true rfl)⟩ ⟨(Nat.le_of_ble_eq_true rfl), (Nat.le_of_ble_eq_true rfl)⟩ (fun x6 r8 h => ?_)
  refine jg_istore (pc := 14) X [(6, jI x6), (5, jr Z x1), (0, jr Z 0), (1, jI v1), (2, jI v2), (3, jI v3), (4, jI v4)] d_11_fill_14 (by decide) rfl ?_
  refine jg_aload_n (pc := 16) X d_11_fill_16 2 rfl ?_
  refine jg_aload (pc := 17) X d_11_fill_17 1 rfl ?_
  refine jg_iload_n (pc := 19) X d_11_fill_19 5 rfl ?_
  refine jg_pxcallVi (pc := 20) X hAe htab hlocks (m_11_seatAtPlace t5 rv3 hw0 h) jM_11_seatAtPlace kw_989 (jl_0_11 hn) rfl rfl rfl rfl rfl (Nat.le_of_ble_eq_true rfl) d_11_fill_20 ⟨(Nat.le_of_ble_eq_true rfl), (Nat.le_of_ble_eq_true rfl)⟩ ⟨(Nat.le_of_ble_eq_true rfl), (Nat.le_of_ble_eq_true rfl)⟩ ⟨(Nat.le_of_ble_eq_true rfl), (Nat.le_of_ble_eq_true rfl)⟩ (fun x10 r12 h => ?_)
  refine jg_pop (pc := 23) X d_11_fill_23 rfl ?_
  refine jg_aload_n (pc := 24) X d_11_fill_24 2 rfl ?_
  refine jg_iload (pc := 25) X d_11_fill_25 6 rfl ?_
  refine jg_pxcallVv (pc := 27) X hAe htab hlocks (m_11_needColumn rv4 hw0 h) jM_11_needColumn kw_904 (jl_0_11 hn) rfl rfl rfl rfl rfl (Nat.le_of_ble_eq_true rfl) d_11_fill_27 ⟨(Nat.le_of_ble_eq_true rfl), (Nat.le_of_ble_eq_true rfl)⟩ ⟨(Nat.le_of_ble_eq_true rfl), (Nat.le_of_ble_eq_true rfl)⟩ ⟨(Nat.le_of_ble_eq_true rfl), (Nat.le_of_ble_eq_true rfl)⟩ (fun h => ?_)
  refine jg_iload_n (pc := 30) X d_11_fill_30 5 rfl ?_
  refine jg_iload_n (pc := 31) X d_11_fill_31 4 rfl ?_
  refine jg_icmp_ge (tgt := 43) (pc := 32) X d_11_fill_32 (by decide) rv3 rv2 h (fun c18 h => ?_) (fun c18 h => ?_)
  · refine jg_aload_n (pc := 43) X d_11_fill_43 2 rfl ?_
    refine jg_aload (pc := 44) X d_11_fill_44 1 rfl ?_
    refine jg_iload (pc := 46) X d_11_fill_46 6 rfl ?_
    refine jg_pxcallVv (pc := 48) X hAe htab hlocks (m_11_needShown t5 rv4 hw0 h) jM_11_needShown kw_993 (jl_0_11 hn) rfl rfl rfl rfl rfl (Nat.le_of_ble_eq_true rfl) d_11_fill_48 ⟨(Nat.le_of_ble_eq_true rfl), (Nat.le_of_ble_eq_true rfl)⟩ ⟨(Nat.le_of_ble_eq_true rfl), (Nat.le_of_ble_eq_true rfl)⟩ ⟨(Nat.le_of_ble_eq_true rfl), (Nat.le_of_ble_eq_true rfl)⟩ (fun h => ?_)
    refine jg_aload_n (pc := 51) X d_11_fill_51 2 rfl ?_
    refine jgf_11_2 (pc := 52) X (jl_0_11 hn) kw_338 d_11_fill_52 ?_
    refine jgfN_8_0 (pc := 55) X (jl_35_8 hn) kn_290 d_11_fill_55 ?_
    refine jg_iload (pc := 58) X d_11_fill_58 0 rfl ?_
    refine jg_iload (pc := 60) X d_11_fill_60 6 rfl ?_
    refine jg_pcallVi (pc := 62) X (m_7_valueAt (jl_36_7 hn) r8 rv4 hw0 h) jM_7_valueAt kw_930 (jl_36_7 hn) rfl rfl rfl rfl rfl (Nat.le_of_ble_eq_true rfl) d_11_fill_62 ⟨(Nat.le_of_ble_eq_true rfl), (Nat.le_of_ble_eq_true rfl)⟩ ⟨(Nat.le_of_ble_eq_true rfl), (Nat.le_of_ble_eq_true rfl)⟩ (fun x23 r25 h => ?_)
    refine jg_istore (pc := 65) X [(7, jI x23), (6, jI x6), (5, jr Z x1), (0, jr Z 0), (1, jI v1), (2, jI v2), (3, jI v3), (4, jI v4)] d_11_fill_65 (by decide) rfl ?_
    refine jg_aload_n (pc := 67) X d_11_fill_67 3 rfl ?_
    refine jgf_11_2 (pc := 68) X (jl_0_11 hn) kw_338 d_11_fill_68 ?_
    refine jg_callVv (pc := 71) X (m_8_beginEdit (jl_35_8 hn) hw0 h) jM_8_beginEdit kw_1026 (jl_35_8 hn) rfl rfl rfl rfl rfl (Nat.le_of_ble_eq_true rfl) d_11_fill_71 ⟨(Nat.le_of_ble_eq_true rfl), (Nat.le_of_ble_eq_true rfl)⟩ ⟨(Nat.le_of_ble_eq_true rfl), (Nat.le_of_ble_eq_true rfl)⟩ (fun C28 w30 h => ?_)
    refine jg_iload_n (pc := 74) X d_11_fill_74 5 rfl ?_
    refine jg_iconst (pc := 75) X d_11_fill_75 ?_
    refine jg_iadd (pc := 76) X d_11_fill_76 ?_
    refine jg_istore (pc := 77) X [(8, jI (v2 + 1)), (7, jI x23), (6, jI x6), (5, jr Z x1), (0, jr Z 0), (1, jI v1), (2, jI v2), (3, jI v3), (4, jI v4)] d_11_fill_77 (by decide) rfl ?_
    obtain ⟨r31, h⟩ := h
    have jl79 : ∀ (v5 : Int) (v7 : Int) (tv5 : jT n v5 10) (rv7 : jRng v7) (N : Nat) (v8 : Int) (C : jC) (rv8 : jRng v8) (hw : jWF n C), jI2 (wp_11_fill_79 v1 v3 v4 v5 v7 ex post) N v8 C → jG p l e q_11_fill s m args below meth c 9 Z A (jws Z n C) 5 30 (vx_MQ below (jQi Z n sz post) (jXC Z n sz ex) args s q_11_fill.cells q_11_fill.slots (jA Z n sz)) 79 [(0, jr Z 0), (1, jI v1), (3, jI v3), (4, jI v4), (5, jr Z v5), (7, jI v7), (8, jI v8)] [] := by
      intro v5 v7 tv5 rv7 N
      have hn := hw0.2.2.1
      induction N with
      | zero => intro v8 C rv8 hw h; exact h.elim
      | succ N ih79 =>
        intro v8 C rv8 hw h
        have h : wp_11_fill_79 v1 v3 v4 v5 v7 ex post (jI2 (wp_11_fill_79 v1 v3 v4 v5 v7 ex post) N) v8 C := h
        generalize jI2 (wp_11_fill_79 v1 v3 v4 v5 v7 ex post) N = k79 at h ih79
        unfold wp_11_fill_79 at h
        refine jg_iload (pc := 79) X d_11_fill_79 6 rfl ?_
        refine jg_iload_n (pc := 81) X d_11_fill_81 2 rfl ?_
        refine jg_icmp_gt (tgt := 113) (pc := 82) X d_11_fill_82 (by decide) rv8 rv3 h (fun c32 h => ?_) (fun c32 h => ?_)
        · refine jg_aload_n (pc := 113) X d_11_fill_113 0 rfl ?_
          refine jgf_11_2 (pc := 114) X (jl_0_11 hn) kw_338 d_11_fill_114 ?_
          refine jg_iload_n (pc := 117) X d_11_fill_117 1 rfl ?_
          refine jg_callVi (pc := 118) X (m_8_finishEdit (jl_35_8 hn) rv1 hw h) jM_8_finishEdit kw_1045 (jl_35_8 hn) rfl rfl rfl rfl rfl (Nat.le_of_ble_eq_true rfl) d_11_fill_118 ⟨(Nat.le_of_ble_eq_true rfl), (Nat.le_of_ble_eq_true rfl)⟩ ⟨(Nat.le_of_ble_eq_true rfl), (Nat.le_of_ble_eq_true rfl)⟩ (fun x33 C34 r35 w36 h => ?_)
          refine jg_ret_x ?_
          exact jg_ireturn (pc := 121) X hAe hlocks hr d_11_fill_121 ⟨(Nat.le_of_ble_eq_true rfl), (Nat.le_of_ble_eq_true rfl)⟩ rfl r35 w36 h
        · refine jg_aload_n (pc := 85) X d_11_fill_85 0 rfl ?_
          refine jgf_11_2 (pc := 86) X (jl_0_11 hn) kw_338 d_11_fill_86 ?_
          refine jg_iload_n (pc := 89) X d_11_fill_89 1 rfl ?_
          refine jg_aload (pc := 90) X d_11_fill_90 4 rfl ?_
          refine jgfN_10_1 (pc := 92) X tv5 kn_275 d_11_fill_92 ?_
          refine jg_iload (pc := 95) X d_11_fill_95 6 rfl ?_
          refine jg_pcallVi (pc := 97) X (m_6_at (jc_vi_1 hn tv5) rv8 hw h) jM_6_at kw_372 (jc_vi_1 hn tv5) rfl rfl rfl rfl rfl (Nat.le_of_ble_eq_true rfl) d_11_fill_97 ⟨(Nat.le_of_ble_eq_true rfl), (Nat.le_of_ble_eq_true rfl)⟩ ⟨(Nat.le_of_ble_eq_true rfl), (Nat.le_of_ble_eq_true rfl)⟩ (fun x37 r39 h => ?_)
          refine jg_iload (pc := 100) X d_11_fill_100 3 rfl ?_
          refine jg_iload (pc := 102) X d_11_fill_102 5 rfl ?_
          refine jg_callVv (pc := 104) X (m_8_changeCell (jl_35_8 hn) rv1 r39 rv4 rv7 hw h) jM_8_changeCell kw_1030 (jl_35_8 hn) rfl rfl rfl rfl rfl (Nat.le_of_ble_eq_true rfl) d_11_fill_104 ⟨(Nat.le_of_ble_eq_true rfl), (Nat.le_of_ble_eq_true rfl)⟩ ⟨(Nat.le_of_ble_eq_true rfl), (Nat.le_of_ble_eq_true rfl)⟩ (fun C42 w44 h => ?_)
          refine jg_iinc (pc := 107) X [(8, jI (v8 + 1)), (0, jr Z 0), (1, jI v1), (3, jI v3), (4, jI v4), (5, jr Z v5), (7, jI v7)] d_11_fill_107 6 rfl (by decide) rfl ?_
          refine jg_goto (tgt := 79) (pc := 110) X d_11_fill_110 (by decide) ?_
          obtain ⟨r45, h⟩ := h
          refine jg_sub [1, 2, 3, 4, 5, 6, 0] rfl ?_
          exact ih79 _ _ r45 w44 h
    obtain ⟨N, h⟩ := h
    refine jg_sub [4, 5, 7, 8, 3, 1, 0] rfl ?_
    exact jl79 _ _ t5 r25 N _ _ r31 w30 h
  · exact jg_throw (pc := 35) X hAe htab hlocks (by decide) kw_612 kw_22 th_58 tg_58 d_11_fill_35 d_11_fill_38 d_11_fill_39 d_11_fill_42 ⟨(Nat.le_of_ble_eq_true rfl), (Nat.le_of_ble_eq_true rfl), (Nat.le_of_ble_eq_true rfl), (Nat.le_of_ble_eq_true rfl)⟩ ⟨(Nat.le_of_ble_eq_true rfl), (Nat.le_of_ble_eq_true rfl)⟩ hw0 h
set_option maxHeartbeats 4000000 in
set_option maxRecDepth 100000 in
theorem m_7_mayHoldOrBlank {l : Launch} {Z : jE} {n : Nat} {C : jC} {v0 : Int} {v1 : Int} {v2 : Int} {post : Int → Prop} (tv0 : jT n v0 7) (rv1 : jRng v1) (rv2 : jRng v2) (hw0 : jWF n C) (h : wp_7_mayHoldOrBlank v0 v1 v2 C post) : jCi l y_7_mayHoldOrBlank prog_9_method_12_code 3 (.boolean) q_7_mayHoldOrBlank Z n C [jr Z v0, jI v1, jI v2] (fun x C9 => C9 = C ∧ post x) := by
  have hn := hw0.2.2.1
  unfold wp_7_mayHoldOrBlank at h
  refine jCi_of (lv0 := [(0, jr Z v0), (1, jI v1), (2, jI v2)]) (by decide) (Nat.le_of_ble_eq_true rfl) rfl ?_
  intro p e s m args below meth c A sz X hAe hr hlocks
  refine jg_iload_n (pc := 0) X d_7_mayHoldOrBlank_0 2 rfl ?_
  refine jg_ldk (pc := 1) (-1000000) X kw_711 (by decide) d_7_mayHoldOrBlank_1 ?_
  refine jg_icmp_eq (tgt := 15) (pc := 3) X d_7_mayHoldOrBlank_3 (by decide) rv2 (⟨by decide, by decide⟩ : jRng (-1000000)) h (fun c1 h => ?_) (fun c1 h => ?_)
  · refine jg_iconst (pc := 15) X d_7_mayHoldOrBlank_15 ?_
    refine jg_goto (tgt := 20) (pc := 16) X d_7_mayHoldOrBlank_16 (by decide) ?_
    exact jg_ireturn (pc := 20) X hAe hlocks hr d_7_mayHoldOrBlank_20 ⟨(Nat.le_of_ble_eq_true rfl), (Nat.le_of_ble_eq_true rfl)⟩ rfl (⟨by decide, by decide⟩ : jRng 1) hw0 ⟨rfl, h⟩
  · refine jg_aload_n (pc := 6) X d_7_mayHoldOrBlank_6 0 rfl ?_
    refine jg_iload_n (pc := 7) X d_7_mayHoldOrBlank_7 1 rfl ?_
    refine jg_iload_n (pc := 8) X d_7_mayHoldOrBlank_8 2 rfl ?_
    refine jg_pcallVi (pc := 9) X (m_7_mayHold tv0 rv1 rv2 hw0 h) jM_7_mayHold kw_1083 tv0 rfl rfl rfl rfl rfl (Nat.le_of_ble_eq_true rfl) d_7_mayHoldOrBlank_9 ⟨(Nat.le_of_ble_eq_true rfl), (Nat.le_of_ble_eq_true rfl)⟩ ⟨(Nat.le_of_ble_eq_true rfl), (Nat.le_of_ble_eq_true rfl)⟩ (fun x2 r4 h => ?_)
    refine jg_if_eq (tgt := 19) (pc := 12) X d_7_mayHoldOrBlank_12 (by decide) r4 h (fun c6 h => ?_) (fun c6 h => ?_)
    · refine jg_iconst (pc := 19) X d_7_mayHoldOrBlank_19 ?_
      exact jg_ireturn (pc := 20) X hAe hlocks hr d_7_mayHoldOrBlank_20 ⟨(Nat.le_of_ble_eq_true rfl), (Nat.le_of_ble_eq_true rfl)⟩ rfl (⟨by decide, by decide⟩ : jRng 0) hw0 ⟨rfl, h⟩
    · refine jg_iconst (pc := 15) X d_7_mayHoldOrBlank_15 ?_
      refine jg_goto (tgt := 20) (pc := 16) X d_7_mayHoldOrBlank_16 (by decide) ?_
      exact jg_ireturn (pc := 20) X hAe hlocks hr d_7_mayHoldOrBlank_20 ⟨(Nat.le_of_ble_eq_true rfl), (Nat.le_of_ble_eq_true rfl)⟩ rfl (⟨by decide, by decide⟩ : jRng 1) hw0 ⟨rfl, h⟩
set_option maxHeartbeats 4000000 in
set_option maxRecDepth 100000 in
theorem m_11_replace {l : Launch} {Z : jE} {n : Nat} {C : jC} {v1 : Int} {v2 : Int} {v3 : Int} {v4 : Int} {ex : String → jC → Prop} {post : Int → jC → Prop} (rv1 : jRng v1) (rv2 : jRng v2) (rv3 : jRng v3) (rv4 : jRng v4) (hw0 : jWF n C) (h : wp_11_replace v1 v2 v3 v4 C ex post) : jXi l y_11_replace prog_1_method_17_code 8 (.int) q_11_replace Z n C [jr Z 0, jI v1, jI v2, jI v3, jI v4] ex post := by
  have hn := hw0.2.2.1
  unfold wp_11_replace at h
  refine jXi_of (lv0 := [(0, jr Z 0), (1, jI v1), (2, jI v2), (3, jI v3), (4, jI v4)]) (by decide) (Nat.le_of_ble_eq_true rfl) rfl ?_
  intro p e s m args below meth c A sz X hAe hr hlocks htab
  refine jg_aload_n (pc := 0) X d_11_replace_0 0 rfl ?_
  refine jg_iload_n (pc := 1) X d_11_replace_1 1 rfl ?_
  refine jg_pxcallVr (pc := 2) X hAe htab hlocks (m_11_viewNumbered rv1 hw0 h) jM_11_viewNumbered kw_772 (jl_0_11 hn) rfl rfl rfl rfl rfl (Nat.le_of_ble_eq_true rfl) d_11_replace_2 ⟨(Nat.le_of_ble_eq_true rfl), (Nat.le_of_ble_eq_true rfl)⟩ ⟨(Nat.le_of_ble_eq_true rfl), (Nat.le_of_ble_eq_true rfl)⟩ ⟨(Nat.le_of_ble_eq_true rfl), (Nat.le_of_ble_eq_true rfl)⟩ (fun x1 h => ?_)
  obtain ⟨t5, h⟩ := h
  refine jg_eqst (congrArg (· :: _) (jn_pos t5.1)) ?_
  refine jg_astore (pc := 5) X [(5, jr Z x1), (0, jr Z 0), (1, jI v1), (2, jI v2), (3, jI v3), (4, jI v4)] d_11_replace_5 (by decide) rfl ?_
  refine jg_aload_n (pc := 7) X d_11_replace_7 1 rfl ?_
  refine jg_iload_n (pc := 8) X d_11_replace_8 3 rfl ?_
  refine jg_pxcallVv (pc := 9) X hAe htab hlocks (m_11_needColumn rv2 hw0 h) jM_11_needColumn kw_904 (jl_0_11 hn) rfl rfl rfl rfl rfl (Nat.le_of_ble_eq_true rfl) d_11_replace_9 ⟨(Nat.le_of_ble_eq_true rfl), (Nat.le_of_ble_eq_true rfl)⟩ ⟨(Nat.le_of_ble_eq_true rfl), (Nat.le_of_ble_eq_true rfl)⟩ ⟨(Nat.le_of_ble_eq_true rfl), (Nat.le_of_ble_eq_true rfl)⟩ (fun h => ?_)
  refine jg_aload_n (pc := 12) X d_11_replace_12 1 rfl ?_
  refine jg_aload (pc := 13) X d_11_replace_13 0 rfl ?_
  refine jg_iload_n (pc := 15) X d_11_replace_15 3 rfl ?_
  refine jg_pxcallVv (pc := 16) X hAe htab hlocks (m_11_needShown t5 rv2 hw0 h) jM_11_needShown kw_993 (jl_0_11 hn) rfl rfl rfl rfl rfl (Nat.le_of_ble_eq_true rfl) d_11_replace_16 ⟨(Nat.le_of_ble_eq_true rfl), (Nat.le_of_ble_eq_true rfl)⟩ ⟨(Nat.le_of_ble_eq_true rfl), (Nat.le_of_ble_eq_true rfl)⟩ ⟨(Nat.le_of_ble_eq_true rfl), (Nat.le_of_ble_eq_true rfl)⟩ (fun h => ?_)
  refine jg_aload_n (pc := 19) X d_11_replace_19 1 rfl ?_
  refine jgf_11_2 (pc := 20) X (jl_0_11 hn) kw_338 d_11_replace_20 ?_
  refine jgfN_8_0 (pc := 23) X (jl_35_8 hn) kn_290 d_11_replace_23 ?_
  refine jg_iload_n (pc := 26) X d_11_replace_26 3 rfl ?_
  refine jg_iload_n (pc := 27) X d_11_replace_27 4 rfl ?_
  refine jg_pcallVi (pc := 28) X (m_7_mayHoldOrBlank (jl_36_7 hn) rv2 rv3 hw0 h) jM_7_mayHoldOrBlank kw_1079 (jl_36_7 hn) rfl rfl rfl rfl rfl (Nat.le_of_ble_eq_true rfl) d_11_replace_28 ⟨(Nat.le_of_ble_eq_true rfl), (Nat.le_of_ble_eq_true rfl)⟩ ⟨(Nat.le_of_ble_eq_true rfl), (Nat.le_of_ble_eq_true rfl)⟩ (fun x14 r16 h => ?_)
  refine jg_if_eq (tgt := 50) (pc := 31) X d_11_replace_31 (by decide) r16 h (fun c18 h => ?_) (fun c18 h => ?_)
  · exact jg_throw (pc := 50) X hAe htab hlocks (by decide) kw_612 kw_22 th_58 tg_58 d_11_replace_50 d_11_replace_53 d_11_replace_54 d_11_replace_57 ⟨(Nat.le_of_ble_eq_true rfl), (Nat.le_of_ble_eq_true rfl), (Nat.le_of_ble_eq_true rfl), (Nat.le_of_ble_eq_true rfl)⟩ ⟨(Nat.le_of_ble_eq_true rfl), (Nat.le_of_ble_eq_true rfl)⟩ hw0 h
  · refine jg_aload_n (pc := 34) X d_11_replace_34 1 rfl ?_
    refine jgf_11_2 (pc := 35) X (jl_0_11 hn) kw_338 d_11_replace_35 ?_
    refine jgfN_8_0 (pc := 38) X (jl_35_8 hn) kn_290 d_11_replace_38 ?_
    refine jg_iload_n (pc := 41) X d_11_replace_41 3 rfl ?_
    refine jg_iload (pc := 42) X d_11_replace_42 5 rfl ?_
    refine jg_pcallVi (pc := 44) X (m_7_mayHoldOrBlank (jl_36_7 hn) rv2 rv4 hw0 h) jM_7_mayHoldOrBlank kw_1079 (jl_36_7 hn) rfl rfl rfl rfl rfl (Nat.le_of_ble_eq_true rfl) d_11_replace_44 ⟨(Nat.le_of_ble_eq_true rfl), (Nat.le_of_ble_eq_true rfl)⟩ ⟨(Nat.le_of_ble_eq_true rfl), (Nat.le_of_ble_eq_true rfl)⟩ (fun x19 r21 h => ?_)
    refine jg_if_ne (tgt := 58) (pc := 47) X d_11_replace_47 (by decide) r21 h (fun c23 h => ?_) (fun c23 h => ?_)
    · exact jg_throw (pc := 50) X hAe htab hlocks (by decide) kw_612 kw_22 th_58 tg_58 d_11_replace_50 d_11_replace_53 d_11_replace_54 d_11_replace_57 ⟨(Nat.le_of_ble_eq_true rfl), (Nat.le_of_ble_eq_true rfl), (Nat.le_of_ble_eq_true rfl), (Nat.le_of_ble_eq_true rfl)⟩ ⟨(Nat.le_of_ble_eq_true rfl), (Nat.le_of_ble_eq_true rfl)⟩ hw0 h
    · refine jg_aload_n (pc := 58) X d_11_replace_58 1 rfl ?_
      refine jgf_11_2 (pc := 59) X (jl_0_11 hn) kw_338 d_11_replace_59 ?_
      refine jg_callVv (pc := 62) X (m_8_beginEdit (jl_35_8 hn) hw0 h) jM_8_beginEdit kw_1026 (jl_35_8 hn) rfl rfl rfl rfl rfl (Nat.le_of_ble_eq_true rfl) d_11_replace_62 ⟨(Nat.le_of_ble_eq_true rfl), (Nat.le_of_ble_eq_true rfl)⟩ ⟨(Nat.le_of_ble_eq_true rfl), (Nat.le_of_ble_eq_true rfl)⟩ (fun C25 w27 h => ?_)
      refine jg_iconst (pc := 65) X d_11_replace_65 ?_
      refine jg_istore (pc := 66) X [(6, jI 0), (5, jr Z x1), (0, jr Z 0), (1, jI v1), (2, jI v2), (3, jI v3), (4, jI v4)] d_11_replace_66 (by decide) rfl ?_
      have jl68 : ∀ (v5 : Int) (tv5 : jT n v5 10) (N : Nat) (v6 : Int) (C : jC) (rv6 : jRng v6) (hw : jWF n C), jI2 (wp_11_replace_68 v1 v2 v3 v4 v5 ex post) N v6 C → jG p l e q_11_replace s m args below meth c 8 Z A (jws Z n C) 3 18 (vx_MQ below (jQi Z n sz post) (jXC Z n sz ex) args s q_11_replace.cells q_11_replace.slots (jA Z n sz)) 68 [(0, jr Z 0), (1, jI v1), (2, jI v2), (3, jI v3), (4, jI v4), (5, jr Z v5), (6, jI v6)] [] := by
        intro v5 tv5 N
        have hn := hw0.2.2.1
        induction N with
        | zero => intro v6 C rv6 hw h; exact h.elim
        | succ N ih68 =>
          intro v6 C rv6 hw h
          have h : wp_11_replace_68 v1 v2 v3 v4 v5 ex post (jI2 (wp_11_replace_68 v1 v2 v3 v4 v5 ex post) N) v6 C := h
          generalize jI2 (wp_11_replace_68 v1 v2 v3 v4 v5 ex post) N = k68 at h ih68
          unfold wp_11_replace_68 at h
          refine jg_iload (pc := 68) X d_11_replace_68 6 rfl ?_
          refine jg_aload (pc := 70) X d_11_replace_70 5 rfl ?_
          refine jgfN_10_1 (pc := 72) X tv5 kn_275 d_11_replace_72 ?_
          refine jg_pcallVi (pc := 75) X (m_6_length (jc_vi_1 hn tv5) hw h) jM_6_length kw_896 (jc_vi_1 hn tv5) rfl rfl rfl rfl rfl (Nat.le_of_ble_eq_true rfl) d_11_replace_75 ⟨(Nat.le_of_ble_eq_true rfl), (Nat.le_of_ble_eq_true rfl)⟩ ⟨(Nat.le_of_ble_eq_true rfl), (Nat.le_of_ble_eq_true rfl)⟩ (fun x28 r30 h => ?_)
          refine jg_icmp_ge (tgt := 129) (pc := 78) X d_11_replace_78 (by decide) rv6 r30 h (fun c32 h => ?_) (fun c32 h => ?_)
          · refine jg_aload_n (pc := 129) X d_11_replace_129 0 rfl ?_
            refine jgf_11_2 (pc := 130) X (jl_0_11 hn) kw_338 d_11_replace_130 ?_
            refine jg_iload_n (pc := 133) X d_11_replace_133 1 rfl ?_
            refine jg_callVi (pc := 134) X (m_8_finishEdit (jl_35_8 hn) rv1 hw h) jM_8_finishEdit kw_1045 (jl_35_8 hn) rfl rfl rfl rfl rfl (Nat.le_of_ble_eq_true rfl) d_11_replace_134 ⟨(Nat.le_of_ble_eq_true rfl), (Nat.le_of_ble_eq_true rfl)⟩ ⟨(Nat.le_of_ble_eq_true rfl), (Nat.le_of_ble_eq_true rfl)⟩ (fun x33 C34 r35 w36 h => ?_)
            refine jg_ret_x ?_
            exact jg_ireturn (pc := 137) X hAe hlocks hr d_11_replace_137 ⟨(Nat.le_of_ble_eq_true rfl), (Nat.le_of_ble_eq_true rfl)⟩ rfl r35 w36 h
          · refine jg_aload (pc := 81) X d_11_replace_81 5 rfl ?_
            refine jgfN_10_1 (pc := 83) X tv5 kn_275 d_11_replace_83 ?_
            refine jg_iload (pc := 86) X d_11_replace_86 6 rfl ?_
            refine jg_pcallVi (pc := 88) X (m_6_at (jc_vi_1 hn tv5) rv6 hw h) jM_6_at kw_372 (jc_vi_1 hn tv5) rfl rfl rfl rfl rfl (Nat.le_of_ble_eq_true rfl) d_11_replace_88 ⟨(Nat.le_of_ble_eq_true rfl), (Nat.le_of_ble_eq_true rfl)⟩ ⟨(Nat.le_of_ble_eq_true rfl), (Nat.le_of_ble_eq_true rfl)⟩ (fun x37 r39 h => ?_)
            refine jg_istore (pc := 91) X [(7, jI x37), (0, jr Z 0), (1, jI v1), (2, jI v2), (3, jI v3), (4, jI v4), (5, jr Z v5), (6, jI v6)] d_11_replace_91 (by decide) rfl ?_
            refine jg_aload_n (pc := 93) X d_11_replace_93 1 rfl ?_
            refine jgf_11_2 (pc := 94) X (jl_0_11 hn) kw_338 d_11_replace_94 ?_
            refine jgfN_8_0 (pc := 97) X (jl_35_8 hn) kn_290 d_11_replace_97 ?_
            refine jg_iload (pc := 100) X d_11_replace_100 0 rfl ?_
            refine jg_iload_n (pc := 102) X d_11_replace_102 3 rfl ?_
            refine jg_pcallVi (pc := 103) X (m_7_valueAt (jl_36_7 hn) r39 rv2 hw h) jM_7_valueAt kw_930 (jl_36_7 hn) rfl rfl rfl rfl rfl (Nat.le_of_ble_eq_true rfl) d_11_replace_103 ⟨(Nat.le_of_ble_eq_true rfl), (Nat.le_of_ble_eq_true rfl)⟩ ⟨(Nat.le_of_ble_eq_true rfl), (Nat.le_of_ble_eq_true rfl)⟩ (fun x41 r43 h => ?_)
            refine jg_iload_n (pc := 106) X d_11_replace_106 4 rfl ?_
            refine jg_icmp_ne (tgt := 123) (pc := 107) X d_11_replace_107 (by decide) r43 rv3 h (fun c45 h => ?_) (fun c45 h => ?_)
            · refine jg_aload_n (pc := 110) X d_11_replace_110 1 rfl ?_
              refine jgf_11_2 (pc := 111) X (jl_0_11 hn) kw_338 d_11_replace_111 ?_
              refine jg_iload_n (pc := 114) X d_11_replace_114 2 rfl ?_
              refine jg_iload (pc := 115) X d_11_replace_115 0 rfl ?_
              refine jg_iload_n (pc := 117) X d_11_replace_117 3 rfl ?_
              refine jg_iload (pc := 118) X d_11_replace_118 5 rfl ?_
              refine jg_callVv (pc := 120) X (m_8_changeCell (jl_35_8 hn) rv1 r39 rv2 rv4 hw h) jM_8_changeCell kw_1030 (jl_35_8 hn) rfl rfl rfl rfl rfl (Nat.le_of_ble_eq_true rfl) d_11_replace_120 ⟨(Nat.le_of_ble_eq_true rfl), (Nat.le_of_ble_eq_true rfl)⟩ ⟨(Nat.le_of_ble_eq_true rfl), (Nat.le_of_ble_eq_true rfl)⟩ (fun C47 w49 h => ?_)
              refine jg_iinc (pc := 123) X [(6, jI (v6 + 1)), (7, jI x37), (0, jr Z 0), (1, jI v1), (2, jI v2), (3, jI v3), (4, jI v4), (5, jr Z v5)] d_11_replace_123 7 rfl (by decide) rfl ?_
              refine jg_goto (tgt := 68) (pc := 126) X d_11_replace_126 (by decide) ?_
              have r50 : jRng (v6 + 1) := by (unfold jRng; exact ⟨by (have z0 : jRng v6 := rv6; have z1 : jRng x28 := r30; unfold jRng at z0 z1; omega), by (have z0 : jRng v6 := rv6; have z1 : jRng x28 := r30; unfold jRng at z0 z1; omega)⟩)
              refine jg_sub [2, 3, 4, 5, 6, 7, 0] rfl ?_
              exact ih68 _ _ r50 w49 h
            · refine jg_iinc (pc := 123) X [(6, jI (v6 + 1)), (7, jI x37), (0, jr Z 0), (1, jI v1), (2, jI v2), (3, jI v3), (4, jI v4), (5, jr Z v5)] d_11_replace_123 7 rfl (by decide) rfl ?_
              refine jg_goto (tgt := 68) (pc := 126) X d_11_replace_126 (by decide) ?_
              have r51 : jRng (v6 + 1) := by (unfold jRng; exact ⟨by (have z0 : jRng v6 := rv6; have z1 : jRng x28 := r30; unfold jRng at z0 z1; omega), by (have z0 : jRng v6 := rv6; have z1 : jRng x28 := r30; unfold jRng at z0 z1; omega)⟩)
              refine jg_sub [2, 3, 4, 5, 6, 7, 0] rfl ?_
              exact ih68 _ _ r51 hw h
      obtain ⟨N, h⟩ := h
      refine jg_sub [2, 3, 4, 5, 6, 1, 0] rfl ?_
      exact jl68 _ t5 N _ _ (⟨by decide, by decide⟩ : jRng 0) w27 h
set_option maxHeartbeats 4000000 in
set_option maxRecDepth 100000 in
theorem m_11_swap {l : Launch} {Z : jE} {n : Nat} {C : jC} {v1 : Int} {v2 : Int} {v3 : Int} {v4 : Int} {ex : String → jC → Prop} {post : Int → jC → Prop} (rv1 : jRng v1) (rv2 : jRng v2) (rv3 : jRng v3) (rv4 : jRng v4) (hw0 : jWF n C) (h : wp_11_swap v1 v2 v3 v4 C ex post) : jXi l y_11_swap prog_1_method_18_code 10 (.int) q_11_swap Z n C [jr Z 0, jI v1, jI v2, jI v3, jI v4] ex post := by
  have hn := hw0.2.2.1
  unfold wp_11_swap at h
  refine jXi_of (lv0 := [(0, jr Z 0), (1, jI v1), (2, jI v2), (3, jI v3), (4, jI v4)]) (by decide) (Nat.le_of_ble_eq_true rfl) rfl ?_
  intro p e s m args below meth c A sz X hAe hr hlocks htab
  refine jg_aload_n (pc := 0) X d_11_swap_0 0 rfl ?_
  refine jg_iload_n (pc := 1) X d_11_swap_1 1 rfl ?_
  refine jg_pxcallVr (pc := 2) X hAe htab hlocks (m_11_viewNumbered rv1 hw0 h) jM_11_viewNumbered kw_772 (jl_0_11 hn) rfl rfl rfl rfl rfl (Nat.le_of_ble_eq_true rfl) d_11_swap_2 ⟨(Nat.le_of_ble_eq_true rfl), (Nat.le_of_ble_eq_true rfl)⟩ ⟨(Nat.le_of_ble_eq_true rfl), (Nat.le_of_ble_eq_true rfl)⟩ ⟨(Nat.le_of_ble_eq_true rfl), (Nat.le_of_ble_eq_true rfl)⟩ (fun x1 h => ?_)
  obtain ⟨t5, h⟩ := h
  refine jg_eqst (congrArg (· :: _) (jn_pos t5.1)) ?_
  refine jg_astore (pc := 5) X [(5, jr Z x1), (0, jr Z 0), (1, jI v1), (2, jI v2), (3, jI v3), (4, jI v4)] d_11_swap_5 (by decide) rfl ?_
  refine jg_aload_n (pc := 7) X d_11_swap_7 1 rfl ?_
  refine jg_aload (pc := 8) X d_11_swap_8 0 rfl ?_
  refine jg_iload_n (pc := 10) X d_11_swap_10 3 rfl ?_
  refine jg_pxcallVi (pc := 11) X hAe htab hlocks (m_11_seatAtPlace t5 rv2 hw0 h) jM_11_seatAtPlace kw_989 (jl_0_11 hn) rfl rfl rfl rfl rfl (Nat.le_of_ble_eq_true rfl) d_11_swap_11 ⟨(Nat.le_of_ble_eq_true rfl), (Nat.le_of_ble_eq_true rfl)⟩ ⟨(Nat.le_of_ble_eq_true rfl), (Nat.le_of_ble_eq_true rfl)⟩ ⟨(Nat.le_of_ble_eq_true rfl), (Nat.le_of_ble_eq_true rfl)⟩ (fun x6 r8 h => ?_)
  refine jg_istore (pc := 14) X [(6, jI x6), (5, jr Z x1), (0, jr Z 0), (1, jI v1), (2, jI v2), (3, jI v3), (4, jI v4)] d_11_swap_14 (by decide) rfl ?_
  refine jg_aload_n (pc := 16) X d_11_swap_16 2 rfl ?_
  refine jg_aload (pc := 17) X d_11_swap_17 1 rfl ?_
  refine jg_iload_n (pc := 19) X d_11_swap_19 5 rfl ?_
  refine jg_pxcallVi (pc := 20) X hAe htab hlocks (m_11_seatAtPlace t5 rv3 hw0 h) jM_11_seatAtPlace kw_989 (jl_0_11 hn) rfl rfl rfl rfl rfl (Nat.le_of_ble_eq_true rfl) d_11_swap_20 ⟨(Nat.le_of_ble_eq_true rfl), (Nat.le_of_ble_eq_true rfl)⟩ ⟨(Nat.le_of_ble_eq_true rfl), (Nat.le_of_ble_eq_true rfl)⟩ ⟨(Nat.le_of_ble_eq_true rfl), (Nat.le_of_ble_eq_true rfl)⟩ (fun x10 r12 h => ?_)
  refine jg_istore (pc := 23) X [(7, jI x10), (6, jI x6), (5, jr Z x1), (0, jr Z 0), (1, jI v1), (2, jI v2), (3, jI v3), (4, jI v4)] d_11_swap_23 (by decide) rfl ?_
  refine jg_aload_n (pc := 25) X d_11_swap_25 3 rfl ?_
  refine jg_iload (pc := 26) X d_11_swap_26 7 rfl ?_
  refine jg_pxcallVv (pc := 28) X hAe htab hlocks (m_11_needColumn rv4 hw0 h) jM_11_needColumn kw_904 (jl_0_11 hn) rfl rfl rfl rfl rfl (Nat.le_of_ble_eq_true rfl) d_11_swap_28 ⟨(Nat.le_of_ble_eq_true rfl), (Nat.le_of_ble_eq_true rfl)⟩ ⟨(Nat.le_of_ble_eq_true rfl), (Nat.le_of_ble_eq_true rfl)⟩ ⟨(Nat.le_of_ble_eq_true rfl), (Nat.le_of_ble_eq_true rfl)⟩ (fun h => ?_)
  refine jg_iload_n (pc := 31) X d_11_swap_31 5 rfl ?_
  refine jg_iload_n (pc := 32) X d_11_swap_32 6 rfl ?_
  refine jg_icmp_ne (tgt := 44) (pc := 33) X d_11_swap_33 (by decide) rv2 rv3 h (fun c18 h => ?_) (fun c18 h => ?_)
  · exact jg_throw (pc := 36) X hAe htab hlocks (by decide) kw_612 kw_22 th_58 tg_58 d_11_swap_36 d_11_swap_39 d_11_swap_40 d_11_swap_43 ⟨(Nat.le_of_ble_eq_true rfl), (Nat.le_of_ble_eq_true rfl), (Nat.le_of_ble_eq_true rfl), (Nat.le_of_ble_eq_true rfl)⟩ ⟨(Nat.le_of_ble_eq_true rfl), (Nat.le_of_ble_eq_true rfl)⟩ hw0 h
  · refine jg_aload_n (pc := 44) X d_11_swap_44 3 rfl ?_
    refine jg_aload (pc := 45) X d_11_swap_45 2 rfl ?_
    refine jg_iload (pc := 47) X d_11_swap_47 7 rfl ?_
    refine jg_pxcallVv (pc := 49) X hAe htab hlocks (m_11_needShown t5 rv4 hw0 h) jM_11_needShown kw_993 (jl_0_11 hn) rfl rfl rfl rfl rfl (Nat.le_of_ble_eq_true rfl) d_11_swap_49 ⟨(Nat.le_of_ble_eq_true rfl), (Nat.le_of_ble_eq_true rfl)⟩ ⟨(Nat.le_of_ble_eq_true rfl), (Nat.le_of_ble_eq_true rfl)⟩ ⟨(Nat.le_of_ble_eq_true rfl), (Nat.le_of_ble_eq_true rfl)⟩ (fun h => ?_)
    refine jg_aload_n (pc := 52) X d_11_swap_52 3 rfl ?_
    refine jgf_11_2 (pc := 53) X (jl_0_11 hn) kw_338 d_11_swap_53 ?_
    refine jgfN_8_0 (pc := 56) X (jl_35_8 hn) kn_290 d_11_swap_56 ?_
    refine jg_iload (pc := 59) X d_11_swap_59 1 rfl ?_
    refine jg_iload (pc := 61) X d_11_swap_61 7 rfl ?_
    refine jg_pcallVi (pc := 63) X (m_7_valueAt (jl_36_7 hn) r8 rv4 hw0 h) jM_7_valueAt kw_930 (jl_36_7 hn) rfl rfl rfl rfl rfl (Nat.le_of_ble_eq_true rfl) d_11_swap_63 ⟨(Nat.le_of_ble_eq_true rfl), (Nat.le_of_ble_eq_true rfl)⟩ ⟨(Nat.le_of_ble_eq_true rfl), (Nat.le_of_ble_eq_true rfl)⟩ (fun x23 r25 h => ?_)
    refine jg_istore (pc := 66) X [(8, jI x23), (7, jI x10), (6, jI x6), (5, jr Z x1), (0, jr Z 0), (1, jI v1), (2, jI v2), (3, jI v3), (4, jI v4)] d_11_swap_66 (by decide) rfl ?_
    refine jg_aload_n (pc := 68) X d_11_swap_68 4 rfl ?_
    refine jgf_11_2 (pc := 69) X (jl_0_11 hn) kw_338 d_11_swap_69 ?_
    refine jgfN_8_0 (pc := 72) X (jl_35_8 hn) kn_290 d_11_swap_72 ?_
    refine jg_iload (pc := 75) X d_11_swap_75 1 rfl ?_
    refine jg_iload (pc := 77) X d_11_swap_77 8 rfl ?_
    refine jg_pcallVi (pc := 79) X (m_7_valueAt (jl_36_7 hn) r12 rv4 hw0 h) jM_7_valueAt kw_930 (jl_36_7 hn) rfl rfl rfl rfl rfl (Nat.le_of_ble_eq_true rfl) d_11_swap_79 ⟨(Nat.le_of_ble_eq_true rfl), (Nat.le_of_ble_eq_true rfl)⟩ ⟨(Nat.le_of_ble_eq_true rfl), (Nat.le_of_ble_eq_true rfl)⟩ (fun x27 r29 h => ?_)
    refine jg_istore (pc := 82) X [(9, jI x27), (8, jI x23), (7, jI x10), (6, jI x6), (5, jr Z x1), (0, jr Z 0), (1, jI v1), (2, jI v2), (3, jI v3), (4, jI v4)] d_11_swap_82 (by decide) rfl ?_
    refine jg_aload_n (pc := 84) X d_11_swap_84 5 rfl ?_
    refine jgf_11_2 (pc := 85) X (jl_0_11 hn) kw_338 d_11_swap_85 ?_
    refine jg_callVv (pc := 88) X (m_8_beginEdit (jl_35_8 hn) hw0 h) jM_8_beginEdit kw_1026 (jl_35_8 hn) rfl rfl rfl rfl rfl (Nat.le_of_ble_eq_true rfl) d_11_swap_88 ⟨(Nat.le_of_ble_eq_true rfl), (Nat.le_of_ble_eq_true rfl)⟩ ⟨(Nat.le_of_ble_eq_true rfl), (Nat.le_of_ble_eq_true rfl)⟩ (fun C32 w34 h => ?_)
    refine jg_aload_n (pc := 91) X d_11_swap_91 5 rfl ?_
    refine jgf_11_2 (pc := 92) X (jl_0_11 hn) kw_338 d_11_swap_92 ?_
    refine jg_iload_n (pc := 95) X d_11_swap_95 6 rfl ?_
    refine jg_iload (pc := 96) X d_11_swap_96 3 rfl ?_
    refine jg_iload (pc := 98) X d_11_swap_98 9 rfl ?_
    refine jg_iload (pc := 100) X d_11_swap_100 0 rfl ?_
    refine jg_callVv (pc := 102) X (m_8_changeCell (jl_35_8 hn) rv1 r8 rv4 r29 w34 h) jM_8_changeCell kw_1030 (jl_35_8 hn) rfl rfl rfl rfl rfl (Nat.le_of_ble_eq_true rfl) d_11_swap_102 ⟨(Nat.le_of_ble_eq_true rfl), (Nat.le_of_ble_eq_true rfl)⟩ ⟨(Nat.le_of_ble_eq_true rfl), (Nat.le_of_ble_eq_true rfl)⟩ (fun C36 w38 h => ?_)
    refine jg_aload_n (pc := 105) X d_11_swap_105 5 rfl ?_
    refine jgf_11_2 (pc := 106) X (jl_0_11 hn) kw_338 d_11_swap_106 ?_
    refine jg_iload_n (pc := 109) X d_11_swap_109 6 rfl ?_
    refine jg_iload (pc := 110) X d_11_swap_110 2 rfl ?_
    refine jg_iload (pc := 112) X d_11_swap_112 9 rfl ?_
    refine jg_iload (pc := 114) X d_11_swap_114 1 rfl ?_
    refine jg_callVv (pc := 116) X (m_8_changeCell (jl_35_8 hn) rv1 r12 rv4 r25 w38 h) jM_8_changeCell kw_1030 (jl_35_8 hn) rfl rfl rfl rfl rfl (Nat.le_of_ble_eq_true rfl) d_11_swap_116 ⟨(Nat.le_of_ble_eq_true rfl), (Nat.le_of_ble_eq_true rfl)⟩ ⟨(Nat.le_of_ble_eq_true rfl), (Nat.le_of_ble_eq_true rfl)⟩ (fun C40 w42 h => ?_)
    refine jg_aload_n (pc := 119) X d_11_swap_119 5 rfl ?_
    refine jgf_11_2 (pc := 120) X (jl_0_11 hn) kw_338 d_11_swap_120 ?_
    refine jg_iload_n (pc := 123) X d_11_swap_123 6 rfl ?_
    refine jg_callVi (pc := 124) X (m_8_finishEdit (jl_35_8 hn) rv1 w42 h) jM_8_finishEdit kw_1045 (jl_35_8 hn) rfl rfl rfl rfl rfl (Nat.le_of_ble_eq_true rfl) d_11_swap_124 ⟨(Nat.le_of_ble_eq_true rfl), (Nat.le_of_ble_eq_true rfl)⟩ ⟨(Nat.le_of_ble_eq_true rfl), (Nat.le_of_ble_eq_true rfl)⟩ (fun x43 C44 r45 w46 h => ?_)
    refine jg_ret_x ?_
    exact jg_ireturn (pc := 127) X hAe hlocks hr d_11_swap_127 ⟨(Nat.le_of_ble_eq_true rfl), (Nat.le_of_ble_eq_true rfl)⟩ rfl r45 w46 h

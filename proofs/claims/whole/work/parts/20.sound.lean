set_option maxHeartbeats 4000000 in
set_option maxRecDepth 100000 in
theorem m_5_takeIn {l : Launch} {Z : jE} {n : Nat} {C : jC} {v1 : Int} {post : jC → Prop} (rv1 : jRng v1) (hw0 : jWF n C) (h : wp_5_takeIn v1 C post) : jCv l y_5_takeIn prog_7_method_2_code 3 q_5_takeIn Z n C [jr Z 1, jI v1] post := by
  have hn := hw0.2.2.1
  unfold wp_5_takeIn at h
  refine jCv_of (lv0 := [(0, jr Z 1), (1, jI v1)]) (by decide) (Nat.le_of_ble_eq_true rfl) rfl ?_
  intro p e s m args below meth c A sz X hAe hr hlocks
  refine jg_bipush (pc := 0) X d_5_takeIn_0 rfl ?_
  refine jg_istore_n (pc := 2) X [(2, jI 24), (0, jr Z 1), (1, jI v1)] d_5_takeIn_2 (by decide) rfl ?_
  have jl3 : ∀  (N : Nat) (v2 : Int) (C : jC) (rv2 : jRng v2) (hw : jWF n C), jI2 (wp_5_takeIn_3 v1 post) N v2 C → jG p l e q_5_takeIn s m args below meth c 3 Z A (jws Z n C) 0 0 (MQ below (jQv Z n sz post) args s q_5_takeIn.cells q_5_takeIn.slots (jA Z n sz)) 3 [(0, jr Z 1), (1, jI v1), (2, jI v2)] [] := by
    intro   N
    have hn := hw0.2.2.1
    induction N with
    | zero => intro v2 C rv2 hw h; exact h.elim
    | succ N ih3 =>
      intro v2 C rv2 hw h
      have h : wp_5_takeIn_3 v1 post (jI2 (wp_5_takeIn_3 v1 post) N) v2 C := h
      generalize jI2 (wp_5_takeIn_3 v1 post) N = k3 at h ih3
      unfold wp_5_takeIn_3 at h
      refine jg_iload_n (pc := 3) X d_5_takeIn_3 2 rfl ?_
      refine jg_if_lt (tgt := 49) (pc := 4) X d_5_takeIn_4 (by decide) rv2 h (fun c1 h => ?_) (fun c1 h => ?_)
      · exact jg_return (pc := 49) X hAe hlocks hr d_5_takeIn_49 ⟨(Nat.le_of_ble_eq_true rfl), (Nat.le_of_ble_eq_true rfl)⟩ hw h
      · refine jg_aload_n (pc := 7) X d_5_takeIn_7 0 rfl ?_
        refine jgf_5_1 (pc := 8) X (jl_1_5 hn) kw_44 d_5_takeIn_8 ?_
        refine jg_sipush (pc := 11) X d_5_takeIn_11 rfl ?_
        refine jg_icmp_ge (tgt := 43) (pc := 14) X d_5_takeIn_14 (by decide) (hw.1 _ _) (⟨by decide, by decide⟩ : jRng 400) h (fun c2 h => ?_) (fun c2 h => ?_)
        · have c2 : 400 ≤ (C 1 1) := c2
          refine jg_iinc (pc := 43) X [(2, jI (v2 + (-8))), (0, jr Z 1), (1, jI v1)] d_5_takeIn_43 2 rfl (by decide) rfl ?_
          refine jg_goto (tgt := 3) (pc := 46) X d_5_takeIn_46 (by decide) ?_
          have r3 : jRng (v2 + (-8)) := by (unfold jRng; exact ⟨by (have z0 : jRng v2 := rv2; unfold jRng at z0; omega), by (have z0 : jRng v2 := rv2; unfold jRng at z0; omega)⟩)
          refine jg_sub [1, 2, 0] rfl ?_
          exact ih3 _ _ r3 hw h
        · have c2 : ¬ (400 ≤ (C 1 1)) := c2
          refine jg_aload_n (pc := 17) X d_5_takeIn_17 0 rfl ?_
          refine jgf_5_0 (pc := 18) X (jl_1_5 hn) kw_42 d_5_takeIn_18 ?_
          refine jg_aload_n (pc := 21) X d_5_takeIn_21 0 rfl ?_
          refine jgf_5_1 (pc := 22) X (jl_1_5 hn) kw_44 d_5_takeIn_22 ?_
          refine jg_iload_n (pc := 25) X d_5_takeIn_25 1 rfl ?_
          refine jg_iload_n (pc := 26) X d_5_takeIn_26 2 rfl ?_
          refine jg_ishr (pc := 27) X d_5_takeIn_27 ?_
          refine jg_sipush (pc := 28) X d_5_takeIn_28 rfl ?_
          refine jg_iand (pc := 31) X d_5_takeIn_31 ?_
          obtain ⟨b4, h⟩ := h
          have b5 : (C 1 1) < 400 := by (have z0 : jRng (C 1 1) := (hw.1 _ _); unfold jRng at z0; omega)
          refine jg_iastore (len := 400) (pc := 32) X d_5_takeIn_32 (jl_2_1400 hn) (fun _ => rfl) (by decide) b4 b5 ?_
          have w6 := jWF.u (k := (C 1 1)) (v := (jAnd (jShr v1 v2) 255)) hw (jl_2_1400 hn) (by decide) (jAnd_rng _ _)
          refine jg_aload_n (pc := 33) X d_5_takeIn_33 0 rfl ?_
          refine jg_dup (pc := 34) X d_5_takeIn_34 rfl ?_
          refine jgf_5_1 (pc := 35) X (jl_1_5 hn) kw_44 d_5_takeIn_35 ?_
          refine jg_iconst (pc := 38) X d_5_takeIn_38 ?_
          refine jg_iadd (pc := 39) X d_5_takeIn_39 ?_
          obtain ⟨r7, h⟩ := h
          refine jgp_5_1 (pc := 40) X (jl_1_5 hn) kw_44 d_5_takeIn_40 ?_
          have w8 := jWF.u (k := 1) (v := (((jU C 2 (C 1 1) (jAnd (jShr v1 v2) 255)) 1 1) + 1)) w6 (jl_1_5 hn) (by decide) r7
          refine jg_iinc (pc := 43) X [(2, jI (v2 + (-8))), (0, jr Z 1), (1, jI v1)] d_5_takeIn_43 2 rfl (by decide) rfl ?_
          refine jg_goto (tgt := 3) (pc := 46) X d_5_takeIn_46 (by decide) ?_
          have r9 : jRng (v2 + (-8)) := by (unfold jRng; exact ⟨by (have z0 : jRng v2 := rv2; unfold jRng at z0; omega), by (have z0 : jRng v2 := rv2; unfold jRng at z0; omega)⟩)
          refine jg_sub [1, 2, 0] rfl ?_
          exact ih3 _ _ r9 w8 h
  obtain ⟨N, h⟩ := h
  refine jg_sub [1, 2, 0] rfl ?_
  exact jl3   N _ _ (⟨by decide, by decide⟩ : jRng 24) hw0 h
set_option maxHeartbeats 4000000 in
set_option maxRecDepth 100000 in
theorem m_11_feed {l : Launch} {Z : jE} {n : Nat} {C : jC} {v1 : Int} {v2 : Int} {v3 : Int} {v4 : Int} {v5 : Int} {post : Int → jC → Prop} (rv1 : jRng v1) (rv2 : jRng v2) (rv3 : jRng v3) (rv4 : jRng v4) (rv5 : jRng v5) (hw0 : jWF n C) (h : wp_11_feed v1 v2 v3 v4 v5 C post) : jCi l y_11_feed prog_1_method_2_code 6 (.int) q_11_feed Z n C [jr Z 0, jI v1, jI v2, jI v3, jI v4, jI v5] post := by
  have hn := hw0.2.2.1
  unfold wp_11_feed at h
  refine jCi_of (lv0 := [(0, jr Z 0), (1, jI v1), (2, jI v2), (3, jI v3), (4, jI v4), (5, jI v5)]) (by decide) (Nat.le_of_ble_eq_true rfl) rfl ?_
  intro p e s m args below meth c A sz X hAe hr hlocks
  refine jg_aload_n (pc := 0) X d_11_feed_0 0 rfl ?_
  refine jgf_11_0 (pc := 1) X (jl_0_11 hn) kw_336 d_11_feed_1 ?_
  refine jgfN_5_1 (pc := 4) X (jl_1_5 hn) kn_43 d_11_feed_4 ?_
  refine jg_bipush (pc := 7) X d_11_feed_7 rfl ?_
  refine jg_iadd (pc := 9) X d_11_feed_9 ?_
  refine jg_sipush (pc := 10) X d_11_feed_10 rfl ?_
  obtain ⟨r1, h⟩ := h
  refine jg_icmp_le (tgt := 18) (pc := 13) X d_11_feed_13 (by decide) r1 (⟨by decide, by decide⟩ : jRng 400) h (fun c2 h => ?_) (fun c2 h => ?_)
  · have c2 : ((C 1 1) + 20) ≤ 400 := c2
    refine jg_aload_n (pc := 18) X d_11_feed_18 0 rfl ?_
    refine jgf_11_0 (pc := 19) X (jl_0_11 hn) kw_336 d_11_feed_19 ?_
    refine jg_iload_n (pc := 22) X d_11_feed_22 1 rfl ?_
    refine jg_callVv (pc := 23) X (m_5_takeIn rv1 hw0 h) jM_5_takeIn kw_356 (jl_1_5 hn) rfl rfl rfl rfl rfl (Nat.le_of_ble_eq_true rfl) d_11_feed_23 ⟨(Nat.le_of_ble_eq_true rfl), (Nat.le_of_ble_eq_true rfl)⟩ ⟨(Nat.le_of_ble_eq_true rfl), (Nat.le_of_ble_eq_true rfl)⟩ (fun C4 w6 h => ?_)
    refine jg_aload_n (pc := 26) X d_11_feed_26 0 rfl ?_
    refine jgf_11_0 (pc := 27) X (jl_0_11 hn) kw_336 d_11_feed_27 ?_
    refine jg_iload_n (pc := 30) X d_11_feed_30 2 rfl ?_
    refine jg_callVv (pc := 31) X (m_5_takeIn rv2 w6 h) jM_5_takeIn kw_356 (jl_1_5 hn) rfl rfl rfl rfl rfl (Nat.le_of_ble_eq_true rfl) d_11_feed_31 ⟨(Nat.le_of_ble_eq_true rfl), (Nat.le_of_ble_eq_true rfl)⟩ ⟨(Nat.le_of_ble_eq_true rfl), (Nat.le_of_ble_eq_true rfl)⟩ (fun C8 w10 h => ?_)
    refine jg_aload_n (pc := 34) X d_11_feed_34 0 rfl ?_
    refine jgf_11_0 (pc := 35) X (jl_0_11 hn) kw_336 d_11_feed_35 ?_
    refine jg_iload_n (pc := 38) X d_11_feed_38 3 rfl ?_
    refine jg_callVv (pc := 39) X (m_5_takeIn rv3 w10 h) jM_5_takeIn kw_356 (jl_1_5 hn) rfl rfl rfl rfl rfl (Nat.le_of_ble_eq_true rfl) d_11_feed_39 ⟨(Nat.le_of_ble_eq_true rfl), (Nat.le_of_ble_eq_true rfl)⟩ ⟨(Nat.le_of_ble_eq_true rfl), (Nat.le_of_ble_eq_true rfl)⟩ (fun C12 w14 h => ?_)
    refine jg_aload_n (pc := 42) X d_11_feed_42 0 rfl ?_
    refine jgf_11_0 (pc := 43) X (jl_0_11 hn) kw_336 d_11_feed_43 ?_
    refine jg_iload (pc := 46) X d_11_feed_46 4 rfl ?_
    refine jg_callVv (pc := 48) X (m_5_takeIn rv4 w14 h) jM_5_takeIn kw_356 (jl_1_5 hn) rfl rfl rfl rfl rfl (Nat.le_of_ble_eq_true rfl) d_11_feed_48 ⟨(Nat.le_of_ble_eq_true rfl), (Nat.le_of_ble_eq_true rfl)⟩ ⟨(Nat.le_of_ble_eq_true rfl), (Nat.le_of_ble_eq_true rfl)⟩ (fun C16 w18 h => ?_)
    refine jg_aload_n (pc := 51) X d_11_feed_51 0 rfl ?_
    refine jgf_11_0 (pc := 52) X (jl_0_11 hn) kw_336 d_11_feed_52 ?_
    refine jg_iload (pc := 55) X d_11_feed_55 5 rfl ?_
    refine jg_callVv (pc := 57) X (m_5_takeIn rv5 w18 h) jM_5_takeIn kw_356 (jl_1_5 hn) rfl rfl rfl rfl rfl (Nat.le_of_ble_eq_true rfl) d_11_feed_57 ⟨(Nat.le_of_ble_eq_true rfl), (Nat.le_of_ble_eq_true rfl)⟩ ⟨(Nat.le_of_ble_eq_true rfl), (Nat.le_of_ble_eq_true rfl)⟩ (fun C20 w22 h => ?_)
    refine jg_aload_n (pc := 60) X d_11_feed_60 0 rfl ?_
    refine jgf_11_0 (pc := 61) X (jl_0_11 hn) kw_336 d_11_feed_61 ?_
    refine jgfN_5_1 (pc := 64) X (jl_1_5 hn) kn_43 d_11_feed_64 ?_
    exact jg_ireturn (pc := 67) X hAe hlocks hr d_11_feed_67 ⟨(Nat.le_of_ble_eq_true rfl), (Nat.le_of_ble_eq_true rfl)⟩ rfl (w22.1 _ _) w22 h
  · have c2 : ¬ (((C 1 1) + 20) ≤ 400) := c2
    refine jg_iconst (pc := 16) X d_11_feed_16 ?_
    exact jg_ireturn (pc := 17) X hAe hlocks hr d_11_feed_17 ⟨(Nat.le_of_ble_eq_true rfl), (Nat.le_of_ble_eq_true rfl)⟩ rfl (⟨by decide, by decide⟩ : jRng (-1)) hw0 h
set_option maxHeartbeats 4000000 in
set_option maxRecDepth 100000 in
theorem m_11_end {l : Launch} {Z : jE} {n : Nat} {C : jC} {v1 : Int} {post : Int → jC → Prop} (rv1 : jRng v1) (hw0 : jWF n C) (h : wp_11_end v1 C post) : jCi l y_11_end prog_1_method_3_code 2 (.boolean) q_11_end Z n C [jr Z 0, jI v1] post := by
  have hn := hw0.2.2.1
  unfold wp_11_end at h
  refine jCi_of (lv0 := [(0, jr Z 0), (1, jI v1)]) (by decide) (Nat.le_of_ble_eq_true rfl) rfl ?_
  intro p e s m args below meth c A sz X hAe hr hlocks
  refine jg_iload_n (pc := 0) X d_11_end_0 1 rfl ?_
  refine jg_if_lt (tgt := 15) (pc := 1) X d_11_end_1 (by decide) rv1 h (fun c1 h => ?_) (fun c1 h => ?_)
  · refine jg_iconst (pc := 15) X d_11_end_15 ?_
    exact jg_ireturn (pc := 16) X hAe hlocks hr d_11_end_16 ⟨(Nat.le_of_ble_eq_true rfl), (Nat.le_of_ble_eq_true rfl)⟩ rfl (⟨by decide, by decide⟩ : jRng 0) hw0 h
  · refine jg_iload_n (pc := 4) X d_11_end_4 1 rfl ?_
    refine jg_aload_n (pc := 5) X d_11_end_5 0 rfl ?_
    refine jgf_11_0 (pc := 6) X (jl_0_11 hn) kw_336 d_11_end_6 ?_
    refine jgfN_5_1 (pc := 9) X (jl_1_5 hn) kn_43 d_11_end_9 ?_
    refine jg_icmp_le (tgt := 17) (pc := 12) X d_11_end_12 (by decide) rv1 (hw0.1 _ _) h (fun c2 h => ?_) (fun c2 h => ?_)
    · have c2 : v1 ≤ (C 1 1) := c2
      refine jg_aload_n (pc := 17) X d_11_end_17 0 rfl ?_
      refine jgf_11_0 (pc := 18) X (jl_0_11 hn) kw_336 d_11_end_18 ?_
      refine jg_iload_n (pc := 21) X d_11_end_21 1 rfl ?_
      refine jgpN_5_1 (pc := 22) X (jl_1_5 hn) kn_43 d_11_end_22 ?_
      have w3 := jWF.u (k := 1) (v := v1) hw0 (jl_1_5 hn) (by decide) rv1
      refine jg_iconst (pc := 25) X d_11_end_25 ?_
      exact jg_ireturn (pc := 26) X hAe hlocks hr d_11_end_26 ⟨(Nat.le_of_ble_eq_true rfl), (Nat.le_of_ble_eq_true rfl)⟩ rfl (⟨by decide, by decide⟩ : jRng 1) w3 h
    · have c2 : ¬ (v1 ≤ (C 1 1)) := c2
      refine jg_iconst (pc := 15) X d_11_end_15 ?_
      exact jg_ireturn (pc := 16) X hAe hlocks hr d_11_end_16 ⟨(Nat.le_of_ble_eq_true rfl), (Nat.le_of_ble_eq_true rfl)⟩ rfl (⟨by decide, by decide⟩ : jRng 0) hw0 h
set_option maxHeartbeats 4000000 in
set_option maxRecDepth 100000 in
theorem m_11_fault {l : Launch} {Z : jE} {n : Nat} {C : jC}  {post : Int → Prop}  (hw0 : jWF n C) (h : wp_11_fault C post) : jCi l y_11_fault prog_1_method_6_code 1 (.int) q_11_fault Z n C [jr Z 0] (fun x C9 => C9 = C ∧ post x) := by
  have hn := hw0.2.2.1
  unfold wp_11_fault at h
  refine jCi_of (lv0 := [(0, jr Z 0)]) (by decide) (Nat.le_of_ble_eq_true rfl) rfl ?_
  intro p e s m args below meth c A sz X hAe hr hlocks
  refine jg_aload_n (pc := 0) X d_11_fault_0 0 rfl ?_
  refine jgf_11_0 (pc := 1) X (jl_0_11 hn) kw_336 d_11_fault_1 ?_
  refine jgfN_5_4 (pc := 4) X (jl_1_5 hn) kn_49 d_11_fault_4 ?_
  exact jg_ireturn (pc := 7) X hAe hlocks hr d_11_fault_7 ⟨(Nat.le_of_ble_eq_true rfl), (Nat.le_of_ble_eq_true rfl)⟩ rfl (hw0.1 _ _) hw0 ⟨rfl, h⟩
set_option maxHeartbeats 4000000 in
set_option maxRecDepth 100000 in
theorem m_6_at {l : Launch} {Z : jE} {n : Nat} {C : jC} {v0 : Int} {v1 : Int} {post : Int → Prop} (tv0 : jT n v0 6) (rv1 : jRng v1) (hw0 : jWF n C) (h : wp_6_at v0 v1 C post) : jCi l y_6_at prog_8_method_3_code 2 (.int) q_6_at Z n C [jr Z v0, jI v1] (fun x C9 => C9 = C ∧ post x) := by
  have hn := hw0.2.2.1
  unfold wp_6_at at h
  refine jCi_of (lv0 := [(0, jr Z v0), (1, jI v1)]) (by decide) (Nat.le_of_ble_eq_true rfl) rfl ?_
  intro p e s m args below meth c A sz X hAe hr hlocks
  refine jg_iload_n (pc := 0) X d_6_at_0 1 rfl ?_
  refine jg_if_lt (tgt := 27) (pc := 1) X d_6_at_1 (by decide) rv1 h (fun c1 h => ?_) (fun c1 h => ?_)
  · refine jg_iconst (pc := 27) X d_6_at_27 ?_
    exact jg_ireturn (pc := 28) X hAe hlocks hr d_6_at_28 ⟨(Nat.le_of_ble_eq_true rfl), (Nat.le_of_ble_eq_true rfl)⟩ rfl (⟨by decide, by decide⟩ : jRng (-1)) hw0 ⟨rfl, h⟩
  · refine jg_iload_n (pc := 4) X d_6_at_4 1 rfl ?_
    refine jg_aload_n (pc := 5) X d_6_at_5 0 rfl ?_
    refine jgf_6_1 (pc := 6) X tv0 kw_167 d_6_at_6 ?_
    refine jg_icmp_ge (tgt := 27) (pc := 9) X d_6_at_9 (by decide) rv1 (hw0.1 _ _) h (fun c2 h => ?_) (fun c2 h => ?_)
    · have c2 : (C v0 1) ≤ v1 := c2
      refine jg_iconst (pc := 27) X d_6_at_27 ?_
      exact jg_ireturn (pc := 28) X hAe hlocks hr d_6_at_28 ⟨(Nat.le_of_ble_eq_true rfl), (Nat.le_of_ble_eq_true rfl)⟩ rfl (⟨by decide, by decide⟩ : jRng (-1)) hw0 ⟨rfl, h⟩
    · have c2 : ¬ ((C v0 1) ≤ v1) := c2
      refine jg_iload_n (pc := 12) X d_6_at_12 1 rfl ?_
      refine jg_bipush (pc := 13) X d_6_at_13 rfl ?_
      refine jg_icmp_ge (tgt := 27) (pc := 15) X d_6_at_15 (by decide) rv1 (⟨by decide, by decide⟩ : jRng 24) h (fun c3 h => ?_) (fun c3 h => ?_)
      · refine jg_iconst (pc := 27) X d_6_at_27 ?_
        exact jg_ireturn (pc := 28) X hAe hlocks hr d_6_at_28 ⟨(Nat.le_of_ble_eq_true rfl), (Nat.le_of_ble_eq_true rfl)⟩ rfl (⟨by decide, by decide⟩ : jRng (-1)) hw0 ⟨rfl, h⟩
      · refine jg_aload_n (pc := 18) X d_6_at_18 0 rfl ?_
        refine jgf_6_0 (pc := 19) X tv0 kw_166 d_6_at_19 ?_
        refine jg_iload_n (pc := 22) X d_6_at_22 1 rfl ?_
        have b4 : 0 ≤ v1 := by (have z0 : jRng v1 := rv1; have z1 : jRng (C v0 1) := (hw0.1 _ _); unfold jRng at z0 z1; omega)
        have b5 : v1 < 24 := by (have z0 : jRng v1 := rv1; have z1 : jRng (C v0 1) := (hw0.1 _ _); unfold jRng at z0 z1; omega)
        refine jg_iaload (len := 24) (pc := 23) X d_6_at_23 (jc_ro_0 hn tv0) (fun _ => rfl) (by decide) b4 b5 ?_
        refine jg_goto (tgt := 28) (pc := 24) X d_6_at_24 (by decide) ?_
        exact jg_ireturn (pc := 28) X hAe hlocks hr d_6_at_28 ⟨(Nat.le_of_ble_eq_true rfl), (Nat.le_of_ble_eq_true rfl)⟩ rfl (hw0.1 _ _) hw0 ⟨rfl, h⟩
set_option maxHeartbeats 4000000 in
set_option maxRecDepth 100000 in
theorem m_7_isSeat {l : Launch} {Z : jE} {n : Nat} {C : jC} {v0 : Int} {v1 : Int} {post : Int → Prop} (tv0 : jT n v0 7) (rv1 : jRng v1) (hw0 : jWF n C) (h : wp_7_isSeat v0 v1 C post) : jCi l y_7_isSeat prog_9_method_4_code 2 (.boolean) q_7_isSeat Z n C [jr Z v0, jI v1] (fun x C9 => C9 = C ∧ post x) := by
  have hn := hw0.2.2.1
  unfold wp_7_isSeat at h
  refine jCi_of (lv0 := [(0, jr Z v0), (1, jI v1)]) (by decide) (Nat.le_of_ble_eq_true rfl) rfl ?_
  intro p e s m args below meth c A sz X hAe hr hlocks
  refine jg_iload_n (pc := 0) X d_7_isSeat_0 1 rfl ?_
  refine jg_if_lt (tgt := 14) (pc := 1) X d_7_isSeat_1 (by decide) rv1 h (fun c1 h => ?_) (fun c1 h => ?_)
  · refine jg_iconst (pc := 14) X d_7_isSeat_14 ?_
    exact jg_ireturn (pc := 15) X hAe hlocks hr d_7_isSeat_15 ⟨(Nat.le_of_ble_eq_true rfl), (Nat.le_of_ble_eq_true rfl)⟩ rfl (⟨by decide, by decide⟩ : jRng 0) hw0 ⟨rfl, h⟩
  · refine jg_iload_n (pc := 4) X d_7_isSeat_4 1 rfl ?_
    refine jg_bipush (pc := 5) X d_7_isSeat_5 rfl ?_
    refine jg_icmp_ge (tgt := 14) (pc := 7) X d_7_isSeat_7 (by decide) rv1 (⟨by decide, by decide⟩ : jRng 24) h (fun c2 h => ?_) (fun c2 h => ?_)
    · refine jg_iconst (pc := 14) X d_7_isSeat_14 ?_
      exact jg_ireturn (pc := 15) X hAe hlocks hr d_7_isSeat_15 ⟨(Nat.le_of_ble_eq_true rfl), (Nat.le_of_ble_eq_true rfl)⟩ rfl (⟨by decide, by decide⟩ : jRng 0) hw0 ⟨rfl, h⟩
    · refine jg_iconst (pc := 10) X d_7_isSeat_10 ?_
      refine jg_goto (tgt := 15) (pc := 11) X d_7_isSeat_11 (by decide) ?_
      exact jg_ireturn (pc := 15) X hAe hlocks hr d_7_isSeat_15 ⟨(Nat.le_of_ble_eq_true rfl), (Nat.le_of_ble_eq_true rfl)⟩ rfl (⟨by decide, by decide⟩ : jRng 1) hw0 ⟨rfl, h⟩
set_option maxHeartbeats 4000000 in
set_option maxRecDepth 100000 in
theorem m_7_keyAt {l : Launch} {Z : jE} {n : Nat} {C : jC} {v0 : Int} {v1 : Int} {post : Int → Prop} (tv0 : jT n v0 7) (rv1 : jRng v1) (hw0 : jWF n C) (h : wp_7_keyAt v0 v1 C post) : jCi l y_7_keyAt prog_9_method_6_code 2 (.int) q_7_keyAt Z n C [jr Z v0, jI v1] (fun x C9 => C9 = C ∧ post x) := by
  have hn := hw0.2.2.1
  unfold wp_7_keyAt at h
  refine jCi_of (lv0 := [(0, jr Z v0), (1, jI v1)]) (by decide) (Nat.le_of_ble_eq_true rfl) rfl ?_
  intro p e s m args below meth c A sz X hAe hr hlocks
  refine jg_aload_n (pc := 0) X d_7_keyAt_0 0 rfl ?_
  refine jg_iload_n (pc := 1) X d_7_keyAt_1 1 rfl ?_
  refine jg_pcallVi (pc := 2) X (m_7_isSeat tv0 rv1 hw0 h) jM_7_isSeat kw_380 tv0 rfl rfl rfl rfl rfl (Nat.le_of_ble_eq_true rfl) d_7_keyAt_2 ⟨(Nat.le_of_ble_eq_true rfl), (Nat.le_of_ble_eq_true rfl)⟩ ⟨(Nat.le_of_ble_eq_true rfl), (Nat.le_of_ble_eq_true rfl)⟩ (fun x1 r3 h => ?_)
  refine jg_if_eq (tgt := 17) (pc := 5) X d_7_keyAt_5 (by decide) r3 h (fun c5 h => ?_) (fun c5 h => ?_)
  · refine jg_iconst (pc := 17) X d_7_keyAt_17 ?_
    exact jg_ireturn (pc := 18) X hAe hlocks hr d_7_keyAt_18 ⟨(Nat.le_of_ble_eq_true rfl), (Nat.le_of_ble_eq_true rfl)⟩ rfl (⟨by decide, by decide⟩ : jRng (-1)) hw0 ⟨rfl, h⟩
  · refine jg_aload_n (pc := 8) X d_7_keyAt_8 0 rfl ?_
    refine jgf_7_2 (pc := 9) X tv0 kw_181 d_7_keyAt_9 ?_
    refine jg_iload_n (pc := 12) X d_7_keyAt_12 1 rfl ?_
    obtain ⟨b6, b7, h⟩ := h
    refine jg_iaload (len := 24) (pc := 13) X d_7_keyAt_13 (jc_sh_2 hn tv0) (fun _ => rfl) (by decide) b6 b7 ?_
    refine jg_goto (tgt := 18) (pc := 14) X d_7_keyAt_14 (by decide) ?_
    exact jg_ireturn (pc := 18) X hAe hlocks hr d_7_keyAt_18 ⟨(Nat.le_of_ble_eq_true rfl), (Nat.le_of_ble_eq_true rfl)⟩ rfl (hw0.1 _ _) hw0 ⟨rfl, h⟩
set_option maxHeartbeats 4000000 in
set_option maxRecDepth 100000 in
theorem m_11_order {l : Launch} {Z : jE} {n : Nat} {C : jC} {v1 : Int} {post : Int → Prop} (rv1 : jRng v1) (hw0 : jWF n C) (h : wp_11_order v1 C post) : jCi l y_11_order prog_1_method_9_code 2 (.int) q_11_order Z n C [jr Z 0, jI v1] (fun x C9 => C9 = C ∧ post x) := by
  have hn := hw0.2.2.1
  unfold wp_11_order at h
  refine jCi_of (lv0 := [(0, jr Z 0), (1, jI v1)]) (by decide) (Nat.le_of_ble_eq_true rfl) rfl ?_
  intro p e s m args below meth c A sz X hAe hr hlocks
  refine jg_aload_n (pc := 0) X d_11_order_0 0 rfl ?_
  refine jgf_11_2 (pc := 1) X (jl_0_11 hn) kw_338 d_11_order_1 ?_
  refine jgfN_8_0 (pc := 4) X (jl_35_8 hn) kn_290 d_11_order_4 ?_
  refine jg_aload_n (pc := 7) X d_11_order_7 0 rfl ?_
  refine jgf_11_2 (pc := 8) X (jl_0_11 hn) kw_338 d_11_order_8 ?_
  refine jgfN_8_0 (pc := 11) X (jl_35_8 hn) kn_290 d_11_order_11 ?_
  refine jgfN_7_5 (pc := 14) X (jl_36_7 hn) kn_187 d_11_order_14 ?_
  refine jg_iload_n (pc := 17) X d_11_order_17 1 rfl ?_
  refine jg_pcallVi (pc := 18) X (m_6_at (jl_41_6 hn) rv1 hw0 h) jM_6_at kw_372 (jl_41_6 hn) rfl rfl rfl rfl rfl (Nat.le_of_ble_eq_true rfl) d_11_order_18 ⟨(Nat.le_of_ble_eq_true rfl), (Nat.le_of_ble_eq_true rfl)⟩ ⟨(Nat.le_of_ble_eq_true rfl), (Nat.le_of_ble_eq_true rfl)⟩ (fun x1 r3 h => ?_)
  refine jg_pcallVi (pc := 21) X (m_7_keyAt (jl_36_7 hn) r3 hw0 h) jM_7_keyAt kw_376 (jl_36_7 hn) rfl rfl rfl rfl rfl (Nat.le_of_ble_eq_true rfl) d_11_order_21 ⟨(Nat.le_of_ble_eq_true rfl), (Nat.le_of_ble_eq_true rfl)⟩ ⟨(Nat.le_of_ble_eq_true rfl), (Nat.le_of_ble_eq_true rfl)⟩ (fun x5 r7 h => ?_)
  exact jg_ireturn (pc := 24) X hAe hlocks hr d_11_order_24 ⟨(Nat.le_of_ble_eq_true rfl), (Nat.le_of_ble_eq_true rfl)⟩ rfl r7 hw0 ⟨rfl, h⟩
set_option maxHeartbeats 4000000 in
set_option maxRecDepth 100000 in
theorem m_6_copyFrom {l : Launch} {Z : jE} {n : Nat} {C : jC} {v0 : Int} {v1 : Int} {post : jC → Prop} (tv0 : jT n v0 6) (tv1 : jT n v1 6) (hw0 : jWF n C) (h : wp_6_copyFrom v0 v1 C post) : jCv l y_6_copyFrom prog_8_method_10_code 2 q_6_copyFrom Z n C [jr Z v0, jr Z v1] post := by
  have hn := hw0.2.2.1
  unfold wp_6_copyFrom at h
  refine jCv_of (lv0 := [(0, jr Z v0), (1, jr Z v1)]) (by decide) (Nat.le_of_ble_eq_true rfl) rfl ?_
  intro p e s m args below meth c A sz X hAe hr hlocks
  refine jg_aload_n (pc := 0) X d_6_copyFrom_0 1 rfl ?_
  refine jgf_6_0 (pc := 1) X tv1 kw_166 d_6_copyFrom_1 ?_
  refine jg_iconst (pc := 4) X d_6_copyFrom_4 ?_
  refine jg_aload_n (pc := 5) X d_6_copyFrom_5 0 rfl ?_
  refine jgf_6_0 (pc := 6) X tv0 kw_166 d_6_copyFrom_6 ?_
  refine jg_iconst (pc := 9) X d_6_copyFrom_9 ?_
  refine jg_bipush (pc := 10) X d_6_copyFrom_10 rfl ?_
  refine jg_copy (n0 := 24) (n1 := 24) (pc := 12) X kw_403 d_6_copyFrom_12 kw_cp1 kw_cp2 kw_cp3 (jc_ro_0 hn tv1) (fun _ => rfl) (jc_ro_0 hn tv0) (fun _ => rfl) (by decide) (by decide) (by decide) (by decide) (by decide) (by decide) (by decide) ⟨(Nat.le_of_ble_eq_true rfl), (Nat.le_of_ble_eq_true rfl)⟩ ?_
  have w1 := jWF.cpy (src := (v1 + 1)) (sp := 0) (dp := 0) (len := 24) hw0 (jc_ro_0 hn tv0) (by decide)
  refine jg_aload_n (pc := 15) X d_6_copyFrom_15 0 rfl ?_
  refine jg_aload_n (pc := 16) X d_6_copyFrom_16 1 rfl ?_
  refine jgf_6_1 (pc := 17) X tv1 kw_167 d_6_copyFrom_17 ?_
  refine jgp_6_1 (pc := 20) X tv0 kw_167 d_6_copyFrom_20 ?_
  have w2 := jWF.u (k := 1) (v := ((jCpy C (v1 + 1) 0 (v0 + 1) 0 24) v1 1)) w1 tv0 (by decide) (w1.1 _ _)
  exact jg_return (pc := 23) X hAe hlocks hr d_6_copyFrom_23 ⟨(Nat.le_of_ble_eq_true rfl), (Nat.le_of_ble_eq_true rfl)⟩ w2 h
set_option maxHeartbeats 4000000 in
set_option maxRecDepth 100000 in
theorem m_7_copyFrom {l : Launch} {Z : jE} {n : Nat} {C : jC} {v0 : Int} {v1 : Int} {post : jC → Prop} (tv0 : jT n v0 7) (tv1 : jT n v1 7) (hw0 : jWF n C) (h : wp_7_copyFrom v0 v1 C post) : jCv l y_7_copyFrom prog_9_method_16_code 2 q_7_copyFrom Z n C [jr Z v0, jr Z v1] post := by
  have hn := hw0.2.2.1
  unfold wp_7_copyFrom at h
  refine jCv_of (lv0 := [(0, jr Z v0), (1, jr Z v1)]) (by decide) (Nat.le_of_ble_eq_true rfl) rfl ?_
  intro p e s m args below meth c A sz X hAe hr hlocks
  refine jg_aload_n (pc := 0) X d_7_copyFrom_0 0 rfl ?_
  refine jg_aload_n (pc := 1) X d_7_copyFrom_1 1 rfl ?_
  refine jgf_7_0 (pc := 2) X tv1 kw_174 d_7_copyFrom_2 ?_
  refine jgp_7_0 (pc := 5) X tv0 kw_174 d_7_copyFrom_5 ?_
  have w1 := jWF.u (k := 0) (v := (C v1 0)) hw0 tv0 (by decide) (hw0.1 _ _)
  refine jg_aload_n (pc := 8) X d_7_copyFrom_8 1 rfl ?_
  refine jgf_7_1 (pc := 9) X tv1 kw_178 d_7_copyFrom_9 ?_
  refine jg_iconst (pc := 12) X d_7_copyFrom_12 ?_
  refine jg_aload_n (pc := 13) X d_7_copyFrom_13 0 rfl ?_
  refine jgf_7_1 (pc := 14) X tv0 kw_178 d_7_copyFrom_14 ?_
  refine jg_iconst (pc := 17) X d_7_copyFrom_17 ?_
  refine jg_iconst (pc := 18) X d_7_copyFrom_18 ?_
  refine jg_copy (n0 := 5) (n1 := 5) (pc := 19) X kw_396 d_7_copyFrom_19 kw_cp1 kw_cp2 kw_cp3 (jc_sh_1 hn tv1) (fun _ => rfl) (jc_sh_1 hn tv0) (fun _ => rfl) (by decide) (by decide) (by decide) (by decide) (by decide) (by decide) (by decide) ⟨(Nat.le_of_ble_eq_true rfl), (Nat.le_of_ble_eq_true rfl)⟩ ?_
  have w2 := jWF.cpy (src := (v1 + 1)) (sp := 0) (dp := 0) (len := 5) w1 (jc_sh_1 hn tv0) (by decide)
  refine jg_aload_n (pc := 22) X d_7_copyFrom_22 1 rfl ?_
  refine jgf_7_2 (pc := 23) X tv1 kw_181 d_7_copyFrom_23 ?_
  refine jg_iconst (pc := 26) X d_7_copyFrom_26 ?_
  refine jg_aload_n (pc := 27) X d_7_copyFrom_27 0 rfl ?_
  refine jgf_7_2 (pc := 28) X tv0 kw_181 d_7_copyFrom_28 ?_
  refine jg_iconst (pc := 31) X d_7_copyFrom_31 ?_
  refine jg_bipush (pc := 32) X d_7_copyFrom_32 rfl ?_
  refine jg_copy (n0 := 24) (n1 := 24) (pc := 34) X kw_396 d_7_copyFrom_34 kw_cp1 kw_cp2 kw_cp3 (jc_sh_2 hn tv1) (fun _ => rfl) (jc_sh_2 hn tv0) (fun _ => rfl) (by decide) (by decide) (by decide) (by decide) (by decide) (by decide) (by decide) ⟨(Nat.le_of_ble_eq_true rfl), (Nat.le_of_ble_eq_true rfl)⟩ ?_
  have w3 := jWF.cpy (src := (v1 + 2)) (sp := 0) (dp := 0) (len := 24) w2 (jc_sh_2 hn tv0) (by decide)
  refine jg_aload_n (pc := 37) X d_7_copyFrom_37 1 rfl ?_
  refine jgf_7_3 (pc := 38) X tv1 kw_182 d_7_copyFrom_38 ?_
  refine jg_iconst (pc := 41) X d_7_copyFrom_41 ?_
  refine jg_aload_n (pc := 42) X d_7_copyFrom_42 0 rfl ?_
  refine jgf_7_3 (pc := 43) X tv0 kw_182 d_7_copyFrom_43 ?_
  refine jg_iconst (pc := 46) X d_7_copyFrom_46 ?_
  refine jg_bipush (pc := 47) X d_7_copyFrom_47 rfl ?_
  refine jg_copy (n0 := 120) (n1 := 120) (pc := 49) X kw_396 d_7_copyFrom_49 kw_cp1 kw_cp2 kw_cp3 (jc_sh_3 hn tv1) (fun _ => rfl) (jc_sh_3 hn tv0) (fun _ => rfl) (by decide) (by decide) (by decide) (by decide) (by decide) (by decide) (by decide) ⟨(Nat.le_of_ble_eq_true rfl), (Nat.le_of_ble_eq_true rfl)⟩ ?_
  have w4 := jWF.cpy (src := (v1 + 3)) (sp := 0) (dp := 0) (len := 120) w3 (jc_sh_3 hn tv0) (by decide)
  refine jg_aload_n (pc := 52) X d_7_copyFrom_52 1 rfl ?_
  refine jgf_7_4 (pc := 53) X tv1 kw_183 d_7_copyFrom_53 ?_
  refine jg_iconst (pc := 56) X d_7_copyFrom_56 ?_
  refine jg_aload_n (pc := 57) X d_7_copyFrom_57 0 rfl ?_
  refine jgf_7_4 (pc := 58) X tv0 kw_183 d_7_copyFrom_58 ?_
  refine jg_iconst (pc := 61) X d_7_copyFrom_61 ?_
  refine jg_bipush (pc := 62) X d_7_copyFrom_62 rfl ?_
  refine jg_copy (n0 := 120) (n1 := 120) (pc := 64) X kw_396 d_7_copyFrom_64 kw_cp1 kw_cp2 kw_cp3 (jc_sh_4 hn tv1) (fun _ => rfl) (jc_sh_4 hn tv0) (fun _ => rfl) (by decide) (by decide) (by decide) (by decide) (by decide) (by decide) (by decide) ⟨(Nat.le_of_ble_eq_true rfl), (Nat.le_of_ble_eq_true rfl)⟩ ?_
  have w5 := jWF.cpy (src := (v1 + 4)) (sp := 0) (dp := 0) (len := 120) w4 (jc_sh_4 hn tv0) (by decide)
  refine jg_aload_n (pc := 67) X d_7_copyFrom_67 0 rfl ?_
  refine jgf_7_5 (pc := 68) X tv0 kw_184 d_7_copyFrom_68 ?_
  refine jg_aload_n (pc := 71) X d_7_copyFrom_71 1 rfl ?_
  refine jgf_7_5 (pc := 72) X tv1 kw_184 d_7_copyFrom_72 ?_
  refine jg_callVv (pc := 75) X (m_6_copyFrom (jc_sh_5 hn tv0) (jc_sh_5 hn tv1) w5 h) jM_6_copyFrom kw_399 (jc_sh_5 hn tv0) rfl rfl rfl rfl rfl (Nat.le_of_ble_eq_true rfl) d_7_copyFrom_75 ⟨(Nat.le_of_ble_eq_true rfl), (Nat.le_of_ble_eq_true rfl)⟩ ⟨(Nat.le_of_ble_eq_true rfl), (Nat.le_of_ble_eq_true rfl)⟩ (fun C7 w9 h => ?_)
  refine jg_aload_n (pc := 78) X d_7_copyFrom_78 0 rfl ?_
  refine jg_aload_n (pc := 79) X d_7_copyFrom_79 1 rfl ?_
  refine jgf_7_6 (pc := 80) X tv1 kw_190 d_7_copyFrom_80 ?_
  refine jgp_7_6 (pc := 83) X tv0 kw_190 d_7_copyFrom_83 ?_
  have w10 := jWF.u (k := 6) (v := (C7 v1 6)) w9 tv0 (by decide) (w9.1 _ _)
  refine jg_aload_n (pc := 86) X d_7_copyFrom_86 0 rfl ?_
  refine jg_aload_n (pc := 87) X d_7_copyFrom_87 1 rfl ?_
  refine jgf_7_7 (pc := 88) X tv1 kw_191 d_7_copyFrom_88 ?_
  refine jgp_7_7 (pc := 91) X tv0 kw_191 d_7_copyFrom_91 ?_
  have w11 := jWF.u (k := 7) (v := ((jU C7 v0 6 (C7 v1 6)) v1 7)) w10 tv0 (by decide) (w10.1 _ _)
  exact jg_return (pc := 94) X hAe hlocks hr d_7_copyFrom_94 ⟨(Nat.le_of_ble_eq_true rfl), (Nat.le_of_ble_eq_true rfl)⟩ w11 h
set_option maxHeartbeats 4000000 in
set_option maxRecDepth 100000 in
theorem m_1_copyFrom {l : Launch} {Z : jE} {n : Nat} {C : jC} {v0 : Int} {v1 : Int} {post : jC → Prop} (tv0 : jT n v0 1) (tv1 : jT n v1 1) (hw0 : jWF n C) (h : wp_1_copyFrom v0 v1 C post) : jCv l y_1_copyFrom prog_3_method_8_code 2 q_1_copyFrom Z n C [jr Z v0, jr Z v1] post := by
  have hn := hw0.2.2.1
  unfold wp_1_copyFrom at h
  refine jCv_of (lv0 := [(0, jr Z v0), (1, jr Z v1)]) (by decide) (Nat.le_of_ble_eq_true rfl) rfl ?_
  intro p e s m args below meth c A sz X hAe hr hlocks
  refine jg_aload_n (pc := 0) X d_1_copyFrom_0 0 rfl ?_
  refine jg_aload_n (pc := 1) X d_1_copyFrom_1 1 rfl ?_
  refine jgf_1_0 (pc := 2) X tv1 kw_89 d_1_copyFrom_2 ?_
  refine jgp_1_0 (pc := 5) X tv0 kw_89 d_1_copyFrom_5 ?_
  have w1 := jWF.u (k := 0) (v := (C v1 0)) hw0 tv0 (by decide) (hw0.1 _ _)
  refine jg_aload_n (pc := 8) X d_1_copyFrom_8 1 rfl ?_
  refine jgf_1_1 (pc := 9) X tv1 kw_92 d_1_copyFrom_9 ?_
  refine jg_iconst (pc := 12) X d_1_copyFrom_12 ?_
  refine jg_aload_n (pc := 13) X d_1_copyFrom_13 0 rfl ?_
  refine jgf_1_1 (pc := 14) X tv0 kw_92 d_1_copyFrom_14 ?_
  refine jg_iconst (pc := 17) X d_1_copyFrom_17 ?_
  refine jg_bipush (pc := 18) X d_1_copyFrom_18 rfl ?_
  refine jg_copy (n0 := 6) (n1 := 6) (pc := 20) X kw_416 d_1_copyFrom_20 kw_cp1 kw_cp2 kw_cp3 (jc_fi_1 hn tv1) (fun _ => rfl) (jc_fi_1 hn tv0) (fun _ => rfl) (by decide) (by decide) (by decide) (by decide) (by decide) (by decide) (by decide) ⟨(Nat.le_of_ble_eq_true rfl), (Nat.le_of_ble_eq_true rfl)⟩ ?_
  have w2 := jWF.cpy (src := (v1 + 1)) (sp := 0) (dp := 0) (len := 6) w1 (jc_fi_1 hn tv0) (by decide)
  refine jg_aload_n (pc := 23) X d_1_copyFrom_23 1 rfl ?_
  refine jgf_1_2 (pc := 24) X tv1 kw_93 d_1_copyFrom_24 ?_
  refine jg_iconst (pc := 27) X d_1_copyFrom_27 ?_
  refine jg_aload_n (pc := 28) X d_1_copyFrom_28 0 rfl ?_
  refine jgf_1_2 (pc := 29) X tv0 kw_93 d_1_copyFrom_29 ?_
  refine jg_iconst (pc := 32) X d_1_copyFrom_32 ?_
  refine jg_bipush (pc := 33) X d_1_copyFrom_33 rfl ?_
  refine jg_copy (n0 := 6) (n1 := 6) (pc := 35) X kw_416 d_1_copyFrom_35 kw_cp1 kw_cp2 kw_cp3 (jc_fi_2 hn tv1) (fun _ => rfl) (jc_fi_2 hn tv0) (fun _ => rfl) (by decide) (by decide) (by decide) (by decide) (by decide) (by decide) (by decide) ⟨(Nat.le_of_ble_eq_true rfl), (Nat.le_of_ble_eq_true rfl)⟩ ?_
  have w3 := jWF.cpy (src := (v1 + 2)) (sp := 0) (dp := 0) (len := 6) w2 (jc_fi_2 hn tv0) (by decide)
  refine jg_aload_n (pc := 38) X d_1_copyFrom_38 1 rfl ?_
  refine jgf_1_3 (pc := 39) X tv1 kw_94 d_1_copyFrom_39 ?_
  refine jg_iconst (pc := 42) X d_1_copyFrom_42 ?_
  refine jg_aload_n (pc := 43) X d_1_copyFrom_43 0 rfl ?_
  refine jgf_1_3 (pc := 44) X tv0 kw_94 d_1_copyFrom_44 ?_
  refine jg_iconst (pc := 47) X d_1_copyFrom_47 ?_
  refine jg_bipush (pc := 48) X d_1_copyFrom_48 rfl ?_
  refine jg_copy (n0 := 6) (n1 := 6) (pc := 50) X kw_416 d_1_copyFrom_50 kw_cp1 kw_cp2 kw_cp3 (jc_fi_3 hn tv1) (fun _ => rfl) (jc_fi_3 hn tv0) (fun _ => rfl) (by decide) (by decide) (by decide) (by decide) (by decide) (by decide) (by decide) ⟨(Nat.le_of_ble_eq_true rfl), (Nat.le_of_ble_eq_true rfl)⟩ ?_
  have w4 := jWF.cpy (src := (v1 + 3)) (sp := 0) (dp := 0) (len := 6) w3 (jc_fi_3 hn tv0) (by decide)
  refine jg_aload_n (pc := 53) X d_1_copyFrom_53 1 rfl ?_
  refine jgf_1_4 (pc := 54) X tv1 kw_95 d_1_copyFrom_54 ?_
  refine jg_iconst (pc := 57) X d_1_copyFrom_57 ?_
  refine jg_aload_n (pc := 58) X d_1_copyFrom_58 0 rfl ?_
  refine jgf_1_4 (pc := 59) X tv0 kw_95 d_1_copyFrom_59 ?_
  refine jg_iconst (pc := 62) X d_1_copyFrom_62 ?_
  refine jg_bipush (pc := 63) X d_1_copyFrom_63 rfl ?_
  refine jg_copy (n0 := 6) (n1 := 6) (pc := 65) X kw_416 d_1_copyFrom_65 kw_cp1 kw_cp2 kw_cp3 (jc_fi_4 hn tv1) (fun _ => rfl) (jc_fi_4 hn tv0) (fun _ => rfl) (by decide) (by decide) (by decide) (by decide) (by decide) (by decide) (by decide) ⟨(Nat.le_of_ble_eq_true rfl), (Nat.le_of_ble_eq_true rfl)⟩ ?_
  have w5 := jWF.cpy (src := (v1 + 4)) (sp := 0) (dp := 0) (len := 6) w4 (jc_fi_4 hn tv0) (by decide)
  exact jg_return (pc := 68) X hAe hlocks hr d_1_copyFrom_68 ⟨(Nat.le_of_ble_eq_true rfl), (Nat.le_of_ble_eq_true rfl)⟩ w5 h
set_option maxHeartbeats 4000000 in
set_option maxRecDepth 100000 in
theorem m_2_copyFrom {l : Launch} {Z : jE} {n : Nat} {C : jC} {v0 : Int} {v1 : Int} {post : jC → Prop} (tv0 : jT n v0 2) (tv1 : jT n v1 2) (hw0 : jWF n C) (h : wp_2_copyFrom v0 v1 C post) : jCv l y_2_copyFrom prog_4_method_12_code 3 q_2_copyFrom Z n C [jr Z v0, jr Z v1] post := by
  have hn := hw0.2.2.1
  unfold wp_2_copyFrom at h
  refine jCv_of (lv0 := [(0, jr Z v0), (1, jr Z v1)]) (by decide) (Nat.le_of_ble_eq_true rfl) rfl ?_
  intro p e s m args below meth c A sz X hAe hr hlocks
  refine jg_iconst (pc := 0) X d_2_copyFrom_0 ?_
  refine jg_istore_n (pc := 1) X [(2, jI 0), (0, jr Z v0), (1, jr Z v1)] d_2_copyFrom_1 (by decide) rfl ?_
  have jl2 : ∀  (N : Nat) (v2 : Int) (C : jC) (rv2 : jRng v2) (hw : jWF n C), jI2 (wp_2_copyFrom_2 v0 v1 post) N v2 C → jG p l e q_2_copyFrom s m args below meth c 3 Z A (jws Z n C) 0 0 (MQ below (jQv Z n sz post) args s q_2_copyFrom.cells q_2_copyFrom.slots (jA Z n sz)) 2 [(0, jr Z v0), (1, jr Z v1), (2, jI v2)] [] := by
    intro   N
    have hn := hw0.2.2.1
    induction N with
    | zero => intro v2 C rv2 hw h; exact h.elim
    | succ N ih2 =>
      intro v2 C rv2 hw h
      have h : wp_2_copyFrom_2 v0 v1 post (jI2 (wp_2_copyFrom_2 v0 v1 post) N) v2 C := h
      generalize jI2 (wp_2_copyFrom_2 v0 v1 post) N = k2 at h ih2
      unfold wp_2_copyFrom_2 at h
      refine jg_iload_n (pc := 2) X d_2_copyFrom_2 2 rfl ?_
      refine jg_iconst (pc := 3) X d_2_copyFrom_3 ?_
      refine jg_icmp_ge (tgt := 28) (pc := 4) X d_2_copyFrom_4 (by decide) rv2 (⟨by decide, by decide⟩ : jRng 5) h (fun c1 h => ?_) (fun c1 h => ?_)
      · refine jg_aload_n (pc := 28) X d_2_copyFrom_28 1 rfl ?_
        refine jgf_2_1 (pc := 29) X tv1 kw_108 d_2_copyFrom_29 ?_
        refine jg_iconst (pc := 32) X d_2_copyFrom_32 ?_
        refine jg_aload_n (pc := 33) X d_2_copyFrom_33 0 rfl ?_
        refine jgf_2_1 (pc := 34) X tv0 kw_108 d_2_copyFrom_34 ?_
        refine jg_iconst (pc := 37) X d_2_copyFrom_37 ?_
        refine jg_iconst (pc := 38) X d_2_copyFrom_38 ?_
        refine jg_copy (n0 := 3) (n1 := 3) (pc := 39) X kw_417 d_2_copyFrom_39 kw_cp1 kw_cp2 kw_cp3 (jc_le_1 hn tv1) (fun _ => rfl) (jc_le_1 hn tv0) (fun _ => rfl) (by decide) (by decide) (by decide) (by decide) (by decide) (by decide) (by decide) ⟨(Nat.le_of_ble_eq_true rfl), (Nat.le_of_ble_eq_true rfl)⟩ ?_
        have w2 := jWF.cpy (src := (v1 + 2)) (sp := 0) (dp := 0) (len := 3) hw (jc_le_1 hn tv0) (by decide)
        refine jg_aload_n (pc := 42) X d_2_copyFrom_42 0 rfl ?_
        refine jg_aload_n (pc := 43) X d_2_copyFrom_43 1 rfl ?_
        refine jgf_2_2 (pc := 44) X tv1 kw_109 d_2_copyFrom_44 ?_
        refine jgp_2_2 (pc := 47) X tv0 kw_109 d_2_copyFrom_47 ?_
        have w3 := jWF.u (k := 2) (v := ((jCpy C (v1 + 2) 0 (v0 + 2) 0 3) v1 2)) w2 tv0 (by decide) (w2.1 _ _)
        refine jg_aload_n (pc := 50) X d_2_copyFrom_50 0 rfl ?_
        refine jg_aload_n (pc := 51) X d_2_copyFrom_51 1 rfl ?_
        refine jgf_2_3 (pc := 52) X tv1 kw_112 d_2_copyFrom_52 ?_
        refine jgp_2_3 (pc := 55) X tv0 kw_112 d_2_copyFrom_55 ?_
        have w4 := jWF.u (k := 3) (v := ((jU (jCpy C (v1 + 2) 0 (v0 + 2) 0 3) v0 2 ((jCpy C (v1 + 2) 0 (v0 + 2) 0 3) v1 2)) v1 3)) w3 tv0 (by decide) (w3.1 _ _)
        exact jg_return (pc := 58) X hAe hlocks hr d_2_copyFrom_58 ⟨(Nat.le_of_ble_eq_true rfl), (Nat.le_of_ble_eq_true rfl)⟩ w4 h
      · refine jg_aload_n (pc := 7) X d_2_copyFrom_7 0 rfl ?_
        refine jgf_2_0 (pc := 8) X tv0 kw_107 d_2_copyFrom_8 ?_
        refine jg_iload_n (pc := 11) X d_2_copyFrom_11 2 rfl ?_
        obtain ⟨b5, h⟩ := h
        have b6 : v2 < 5 := by (have z0 : jRng v2 := rv2; unfold jRng at z0; omega)
        refine jg_aaloadF (pc := 12) X d_2_copyFrom_12 (jc_le_0 hn tv0) b5 b6 ?_
        refine jg_aload_n (pc := 13) X d_2_copyFrom_13 1 rfl ?_
        refine jgf_2_0 (pc := 14) X tv1 kw_107 d_2_copyFrom_14 ?_
        refine jg_iload_n (pc := 17) X d_2_copyFrom_17 2 rfl ?_
        have b7 : 0 ≤ v2 := by (have z0 : jRng v2 := rv2; unfold jRng at z0; omega)
        have b8 : v2 < 5 := by (have z0 : jRng v2 := rv2; unfold jRng at z0; omega)
        refine jg_aaloadF (pc := 18) X d_2_copyFrom_18 (jc_le_0 hn tv1) b7 b8 ?_
        refine jg_callVv (pc := 19) X (m_1_copyFrom (jc_fa hn (jc_le_0 hn tv0) b5 b6) (jc_fa hn (jc_le_0 hn tv1) b7 b8) hw h) jM_1_copyFrom kw_412 (jc_fa hn (jc_le_0 hn tv0) b5 b6) rfl rfl rfl rfl rfl (Nat.le_of_ble_eq_true rfl) d_2_copyFrom_19 ⟨(Nat.le_of_ble_eq_true rfl), (Nat.le_of_ble_eq_true rfl)⟩ ⟨(Nat.le_of_ble_eq_true rfl), (Nat.le_of_ble_eq_true rfl)⟩ (fun C10 w12 h => ?_)
        refine jg_iinc (pc := 22) X [(2, jI (v2 + 1)), (0, jr Z v0), (1, jr Z v1)] d_2_copyFrom_22 2 rfl (by decide) rfl ?_
        refine jg_goto (tgt := 2) (pc := 25) X d_2_copyFrom_25 (by decide) ?_
        have r13 : jRng (v2 + 1) := by (unfold jRng; exact ⟨by (have z0 : jRng v2 := rv2; unfold jRng at z0; omega), by (have z0 : jRng v2 := rv2; unfold jRng at z0; omega)⟩)
        refine jg_sub [1, 2, 0] rfl ?_
        exact ih2 _ _ r13 w12 h
  obtain ⟨N, h⟩ := h
  refine jg_sub [1, 2, 0] rfl ?_
  exact jl2   N _ _ (⟨by decide, by decide⟩ : jRng 0) hw0 h
set_option maxHeartbeats 4000000 in
set_option maxRecDepth 100000 in
theorem m_0_copyFrom {l : Launch} {Z : jE} {n : Nat} {C : jC} {v0 : Int} {v1 : Int} {post : jC → Prop} (tv0 : jT n v0 0) (tv1 : jT n v1 0) (hw0 : jWF n C) (h : wp_0_copyFrom v0 v1 C post) : jCv l y_0_copyFrom prog_2_method_4_code 2 q_0_copyFrom Z n C [jr Z v0, jr Z v1] post := by
  have hn := hw0.2.2.1
  unfold wp_0_copyFrom at h
  refine jCv_of (lv0 := [(0, jr Z v0), (1, jr Z v1)]) (by decide) (Nat.le_of_ble_eq_true rfl) rfl ?_
  intro p e s m args below meth c A sz X hAe hr hlocks
  refine jg_aload_n (pc := 0) X d_0_copyFrom_0 0 rfl ?_
  refine jg_aload_n (pc := 1) X d_0_copyFrom_1 1 rfl ?_
  refine jgf_0_0 (pc := 2) X tv1 kw_235 d_0_copyFrom_2 ?_
  refine jg_bipush (pc := 5) X d_0_copyFrom_5 rfl ?_
  have r1 : jRng (min (C v1 0) 60) := jrng_min (hw0.1 _ _) (⟨by decide, by decide⟩ : jRng 60)
  refine jg_min (pc := 7) X kw_423 d_0_copyFrom_7 kw_min1 kw_ma kw_min2 ⟨(Nat.le_of_ble_eq_true rfl), (Nat.le_of_ble_eq_true rfl), (Nat.le_of_ble_eq_true rfl), (Nat.le_of_ble_eq_true rfl)⟩ (hw0.1 _ _) (⟨by decide, by decide⟩ : jRng 60) ?_
  refine jgp_0_0 (pc := 10) X tv0 kw_235 d_0_copyFrom_10 ?_
  have w2 := jWF.u (k := 0) (v := (min (C v1 0) 60)) hw0 tv0 (by decide) r1
  refine jg_aload_n (pc := 13) X d_0_copyFrom_13 1 rfl ?_
  refine jgf_0_1 (pc := 14) X tv1 kw_237 d_0_copyFrom_14 ?_
  refine jg_iconst (pc := 17) X d_0_copyFrom_17 ?_
  refine jg_aload_n (pc := 18) X d_0_copyFrom_18 0 rfl ?_
  refine jgf_0_1 (pc := 19) X tv0 kw_237 d_0_copyFrom_19 ?_
  refine jg_iconst (pc := 22) X d_0_copyFrom_22 ?_
  refine jg_aload_n (pc := 23) X d_0_copyFrom_23 0 rfl ?_
  refine jgf_0_0 (pc := 24) X tv0 kw_235 d_0_copyFrom_24 ?_
  obtain ⟨b3, b4, h⟩ := h
  refine jg_copy (n0 := 60) (n1 := 60) (pc := 27) X kw_426 d_0_copyFrom_27 kw_cp1 kw_cp2 kw_cp3 (jc_ed_1 hn tv1) (fun _ => rfl) (jc_ed_1 hn tv0) (fun _ => rfl) (by decide) (by decide) (by decide) (by decide) b3 (by omega) (by omega) ⟨(Nat.le_of_ble_eq_true rfl), (Nat.le_of_ble_eq_true rfl)⟩ ?_
  have w5 := jWF.cpy (src := (v1 + 1)) (sp := 0) (dp := 0) (len := ((jU C v0 0 (min (C v1 0) 60)) v0 0)) w2 (jc_ed_1 hn tv0) (by decide)
  refine jg_aload_n (pc := 30) X d_0_copyFrom_30 1 rfl ?_
  refine jgf_0_2 (pc := 31) X tv1 kw_239 d_0_copyFrom_31 ?_
  refine jg_iconst (pc := 34) X d_0_copyFrom_34 ?_
  refine jg_aload_n (pc := 35) X d_0_copyFrom_35 0 rfl ?_
  refine jgf_0_2 (pc := 36) X tv0 kw_239 d_0_copyFrom_36 ?_
  refine jg_iconst (pc := 39) X d_0_copyFrom_39 ?_
  refine jg_aload_n (pc := 40) X d_0_copyFrom_40 0 rfl ?_
  refine jgf_0_0 (pc := 41) X tv0 kw_235 d_0_copyFrom_41 ?_
  obtain ⟨b6, b7, h⟩ := h
  refine jg_copy (n0 := 60) (n1 := 60) (pc := 44) X kw_426 d_0_copyFrom_44 kw_cp1 kw_cp2 kw_cp3 (jc_ed_2 hn tv1) (fun _ => rfl) (jc_ed_2 hn tv0) (fun _ => rfl) (by decide) (by decide) (by decide) (by decide) b6 (by omega) (by omega) ⟨(Nat.le_of_ble_eq_true rfl), (Nat.le_of_ble_eq_true rfl)⟩ ?_
  have w8 := jWF.cpy (src := (v1 + 2)) (sp := 0) (dp := 0) (len := ((jCpy (jU C v0 0 (min (C v1 0) 60)) (v1 + 1) 0 (v0 + 1) 0 ((jU C v0 0 (min (C v1 0) 60)) v0 0)) v0 0)) w5 (jc_ed_2 hn tv0) (by decide)
  refine jg_aload_n (pc := 47) X d_0_copyFrom_47 1 rfl ?_
  refine jgf_0_3 (pc := 48) X tv1 kw_241 d_0_copyFrom_48 ?_
  refine jg_iconst (pc := 51) X d_0_copyFrom_51 ?_
  refine jg_aload_n (pc := 52) X d_0_copyFrom_52 0 rfl ?_
  refine jgf_0_3 (pc := 53) X tv0 kw_241 d_0_copyFrom_53 ?_
  refine jg_iconst (pc := 56) X d_0_copyFrom_56 ?_
  refine jg_aload_n (pc := 57) X d_0_copyFrom_57 0 rfl ?_
  refine jgf_0_0 (pc := 58) X tv0 kw_235 d_0_copyFrom_58 ?_
  obtain ⟨b9, b10, h⟩ := h
  refine jg_copy (n0 := 60) (n1 := 60) (pc := 61) X kw_426 d_0_copyFrom_61 kw_cp1 kw_cp2 kw_cp3 (jc_ed_3 hn tv1) (fun _ => rfl) (jc_ed_3 hn tv0) (fun _ => rfl) (by decide) (by decide) (by decide) (by decide) b9 (by omega) (by omega) ⟨(Nat.le_of_ble_eq_true rfl), (Nat.le_of_ble_eq_true rfl)⟩ ?_
  have w11 := jWF.cpy (src := (v1 + 3)) (sp := 0) (dp := 0) (len := ((jCpy (jCpy (jU C v0 0 (min (C v1 0) 60)) (v1 + 1) 0 (v0 + 1) 0 ((jU C v0 0 (min (C v1 0) 60)) v0 0)) (v1 + 2) 0 (v0 + 2) 0 ((jCpy (jU C v0 0 (min (C v1 0) 60)) (v1 + 1) 0 (v0 + 1) 0 ((jU C v0 0 (min (C v1 0) 60)) v0 0)) v0 0)) v0 0)) w8 (jc_ed_3 hn tv0) (by decide)
  refine jg_aload_n (pc := 64) X d_0_copyFrom_64 1 rfl ?_
  refine jgf_0_4 (pc := 65) X tv1 kw_243 d_0_copyFrom_65 ?_
  refine jg_iconst (pc := 68) X d_0_copyFrom_68 ?_
  refine jg_aload_n (pc := 69) X d_0_copyFrom_69 0 rfl ?_
  refine jgf_0_4 (pc := 70) X tv0 kw_243 d_0_copyFrom_70 ?_
  refine jg_iconst (pc := 73) X d_0_copyFrom_73 ?_
  refine jg_aload_n (pc := 74) X d_0_copyFrom_74 0 rfl ?_
  refine jgf_0_0 (pc := 75) X tv0 kw_235 d_0_copyFrom_75 ?_
  obtain ⟨b12, b13, h⟩ := h
  refine jg_copy (n0 := 60) (n1 := 60) (pc := 78) X kw_426 d_0_copyFrom_78 kw_cp1 kw_cp2 kw_cp3 (jc_ed_4 hn tv1) (fun _ => rfl) (jc_ed_4 hn tv0) (fun _ => rfl) (by decide) (by decide) (by decide) (by decide) b12 (by omega) (by omega) ⟨(Nat.le_of_ble_eq_true rfl), (Nat.le_of_ble_eq_true rfl)⟩ ?_
  have w14 := jWF.cpy (src := (v1 + 4)) (sp := 0) (dp := 0) (len := ((jCpy (jCpy (jCpy (jU C v0 0 (min (C v1 0) 60)) (v1 + 1) 0 (v0 + 1) 0 ((jU C v0 0 (min (C v1 0) 60)) v0 0)) (v1 + 2) 0 (v0 + 2) 0 ((jCpy (jU C v0 0 (min (C v1 0) 60)) (v1 + 1) 0 (v0 + 1) 0 ((jU C v0 0 (min (C v1 0) 60)) v0 0)) v0 0)) (v1 + 3) 0 (v0 + 3) 0 ((jCpy (jCpy (jU C v0 0 (min (C v1 0) 60)) (v1 + 1) 0 (v0 + 1) 0 ((jU C v0 0 (min (C v1 0) 60)) v0 0)) (v1 + 2) 0 (v0 + 2) 0 ((jCpy (jU C v0 0 (min (C v1 0) 60)) (v1 + 1) 0 (v0 + 1) 0 ((jU C v0 0 (min (C v1 0) 60)) v0 0)) v0 0)) v0 0)) v0 0)) w11 (jc_ed_4 hn tv0) (by decide)
  exact jg_return (pc := 81) X hAe hlocks hr d_0_copyFrom_81 ⟨(Nat.le_of_ble_eq_true rfl), (Nat.le_of_ble_eq_true rfl)⟩ w14 h
set_option maxHeartbeats 4000000 in
set_option maxRecDepth 100000 in
theorem m_10_copyFrom {l : Launch} {Z : jE} {n : Nat} {C : jC} {v0 : Int} {v1 : Int} {post : jC → Prop} (tv0 : jT n v0 10) (tv1 : jT n v1 10) (hw0 : jWF n C) (h : wp_10_copyFrom v0 v1 C post) : jCv l y_10_copyFrom prog_12_method_6_code 3 q_10_copyFrom Z n C [jr Z v0, jr Z v1] post := by
  have hn := hw0.2.2.1
  unfold wp_10_copyFrom at h
  refine jCv_of (lv0 := [(0, jr Z v0), (1, jr Z v1)]) (by decide) (Nat.le_of_ble_eq_true rfl) rfl ?_
  intro p e s m args below meth c A sz X hAe hr hlocks
  refine jg_aload_n (pc := 0) X d_10_copyFrom_0 0 rfl ?_
  refine jgf_10_0 (pc := 1) X tv0 kw_268 d_10_copyFrom_1 ?_
  refine jg_aload_n (pc := 4) X d_10_copyFrom_4 1 rfl ?_
  refine jgf_10_0 (pc := 5) X tv1 kw_268 d_10_copyFrom_5 ?_
  refine jg_callVv (pc := 8) X (m_2_copyFrom (jc_vi_0 hn tv0) (jc_vi_0 hn tv1) hw0 h) jM_2_copyFrom kw_408 (jc_vi_0 hn tv0) rfl rfl rfl rfl rfl (Nat.le_of_ble_eq_true rfl) d_10_copyFrom_8 ⟨(Nat.le_of_ble_eq_true rfl), (Nat.le_of_ble_eq_true rfl)⟩ ⟨(Nat.le_of_ble_eq_true rfl), (Nat.le_of_ble_eq_true rfl)⟩ (fun C2 w4 h => ?_)
  refine jg_aload_n (pc := 11) X d_10_copyFrom_11 0 rfl ?_
  refine jgf_10_1 (pc := 12) X tv0 kw_272 d_10_copyFrom_12 ?_
  refine jg_aload_n (pc := 15) X d_10_copyFrom_15 1 rfl ?_
  refine jgf_10_1 (pc := 16) X tv1 kw_272 d_10_copyFrom_16 ?_
  refine jg_callVv (pc := 19) X (m_6_copyFrom (jc_vi_1 hn tv0) (jc_vi_1 hn tv1) w4 h) jM_6_copyFrom kw_418 (jc_vi_1 hn tv0) rfl rfl rfl rfl rfl (Nat.le_of_ble_eq_true rfl) d_10_copyFrom_19 ⟨(Nat.le_of_ble_eq_true rfl), (Nat.le_of_ble_eq_true rfl)⟩ ⟨(Nat.le_of_ble_eq_true rfl), (Nat.le_of_ble_eq_true rfl)⟩ (fun C6 w8 h => ?_)
  refine jg_aload_n (pc := 22) X d_10_copyFrom_22 0 rfl ?_
  refine jg_aload_n (pc := 23) X d_10_copyFrom_23 1 rfl ?_
  refine jgf_10_3 (pc := 24) X tv1 kw_277 d_10_copyFrom_24 ?_
  refine jgp_10_3 (pc := 27) X tv0 kw_277 d_10_copyFrom_27 ?_
  have w9 := jWF.u (k := 3) (v := (C6 v1 3)) w8 tv0 (by decide) (w8.1 _ _)
  refine jg_iconst (pc := 30) X d_10_copyFrom_30 ?_
  refine jg_istore_n (pc := 31) X [(2, jI 0), (0, jr Z v0), (1, jr Z v1)] d_10_copyFrom_31 (by decide) rfl ?_
  have jl32 : ∀  (N : Nat) (v2 : Int) (C : jC) (rv2 : jRng v2) (hw : jWF n C), jI2 (wp_10_copyFrom_32 v0 v1 post) N v2 C → jG p l e q_10_copyFrom s m args below meth c 3 Z A (jws Z n C) 0 0 (MQ below (jQv Z n sz post) args s q_10_copyFrom.cells q_10_copyFrom.slots (jA Z n sz)) 32 [(0, jr Z v0), (1, jr Z v1), (2, jI v2)] [] := by
    intro   N
    have hn := hw0.2.2.1
    induction N with
    | zero => intro v2 C rv2 hw h; exact h.elim
    | succ N ih32 =>
      intro v2 C rv2 hw h
      have h : wp_10_copyFrom_32 v0 v1 post (jI2 (wp_10_copyFrom_32 v0 v1 post) N) v2 C := h
      generalize jI2 (wp_10_copyFrom_32 v0 v1 post) N = k32 at h ih32
      unfold wp_10_copyFrom_32 at h
      refine jg_iload_n (pc := 32) X d_10_copyFrom_32 2 rfl ?_
      refine jg_aload_n (pc := 33) X d_10_copyFrom_33 0 rfl ?_
      refine jgf_10_3 (pc := 34) X tv0 kw_277 d_10_copyFrom_34 ?_
      refine jg_icmp_ge (tgt := 67) (pc := 37) X d_10_copyFrom_37 (by decide) rv2 (hw.1 _ _) h (fun c10 h => ?_) (fun c10 h => ?_)
      · have c10 : (C v0 3) ≤ v2 := c10
        exact jg_return (pc := 67) X hAe hlocks hr d_10_copyFrom_67 ⟨(Nat.le_of_ble_eq_true rfl), (Nat.le_of_ble_eq_true rfl)⟩ hw h
      · have c10 : ¬ ((C v0 3) ≤ v2) := c10
        refine jg_iload_n (pc := 40) X d_10_copyFrom_40 2 rfl ?_
        refine jg_bipush (pc := 41) X d_10_copyFrom_41 rfl ?_
        refine jg_icmp_ge (tgt := 67) (pc := 43) X d_10_copyFrom_43 (by decide) rv2 (⟨by decide, by decide⟩ : jRng 8) h (fun c11 h => ?_) (fun c11 h => ?_)
        · exact jg_return (pc := 67) X hAe hlocks hr d_10_copyFrom_67 ⟨(Nat.le_of_ble_eq_true rfl), (Nat.le_of_ble_eq_true rfl)⟩ hw h
        · refine jg_aload_n (pc := 46) X d_10_copyFrom_46 0 rfl ?_
          refine jgf_10_2 (pc := 47) X tv0 kw_276 d_10_copyFrom_47 ?_
          refine jg_iload_n (pc := 50) X d_10_copyFrom_50 2 rfl ?_
          obtain ⟨b12, h⟩ := h
          have b13 : v2 < 8 := by (have z0 : jRng v2 := rv2; have z1 : jRng (C v0 3) := (hw.1 _ _); unfold jRng at z0 z1; omega)
          refine jg_aaloadE (pc := 51) X d_10_copyFrom_51 (jc_vi_2 hn tv0) b12 b13 ?_
          refine jg_aload_n (pc := 52) X d_10_copyFrom_52 1 rfl ?_
          refine jgf_10_2 (pc := 53) X tv1 kw_276 d_10_copyFrom_53 ?_
          refine jg_iload_n (pc := 56) X d_10_copyFrom_56 2 rfl ?_
          have b14 : 0 ≤ v2 := by (have z0 : jRng v2 := rv2; have z1 : jRng (C v0 3) := (hw.1 _ _); unfold jRng at z0 z1; omega)
          have b15 : v2 < 8 := by (have z0 : jRng v2 := rv2; have z1 : jRng (C v0 3) := (hw.1 _ _); unfold jRng at z0 z1; omega)
          refine jg_aaloadE (pc := 57) X d_10_copyFrom_57 (jc_vi_2 hn tv1) b14 b15 ?_
          refine jg_callVv (pc := 58) X (m_0_copyFrom (hw.2.1 _ (jc_vi_2 hn tv0) _ b12 b13) (hw.2.1 _ (jc_vi_2 hn tv1) _ b14 b15) hw h) jM_0_copyFrom kw_419 (hw.2.1 _ (jc_vi_2 hn tv0) _ b12 b13) rfl rfl rfl rfl rfl (Nat.le_of_ble_eq_true rfl) d_10_copyFrom_58 ⟨(Nat.le_of_ble_eq_true rfl), (Nat.le_of_ble_eq_true rfl)⟩ ⟨(Nat.le_of_ble_eq_true rfl), (Nat.le_of_ble_eq_true rfl)⟩ (fun C17 w19 h => ?_)
          refine jg_iinc (pc := 61) X [(2, jI (v2 + 1)), (0, jr Z v0), (1, jr Z v1)] d_10_copyFrom_61 2 rfl (by decide) rfl ?_
          refine jg_goto (tgt := 32) (pc := 64) X d_10_copyFrom_64 (by decide) ?_
          have r20 : jRng (v2 + 1) := by (unfold jRng; exact ⟨by (have z0 : jRng v2 := rv2; have z1 : jRng (C v0 3) := (hw.1 _ _); unfold jRng at z0 z1; omega), by (have z0 : jRng v2 := rv2; have z1 : jRng (C v0 3) := (hw.1 _ _); unfold jRng at z0 z1; omega)⟩)
          refine jg_sub [1, 2, 0] rfl ?_
          exact ih32 _ _ r20 w19 h
  obtain ⟨N, h⟩ := h
  refine jg_sub [1, 2, 0] rfl ?_
  exact jl32   N _ _ (⟨by decide, by decide⟩ : jRng 0) w9 h
set_option maxHeartbeats 4000000 in
set_option maxRecDepth 100000 in
theorem m_3_copyFrom {l : Launch} {Z : jE} {n : Nat} {C : jC} {v0 : Int} {v1 : Int} {post : jC → Prop} (tv0 : jT n v0 3) (tv1 : jT n v1 3) (hw0 : jWF n C) (h : wp_3_copyFrom v0 v1 C post) : jCv l y_3_copyFrom prog_5_method_4_code 2 q_3_copyFrom Z n C [jr Z v0, jr Z v1] post := by
  have hn := hw0.2.2.1
  unfold wp_3_copyFrom at h
  refine jCv_of (lv0 := [(0, jr Z v0), (1, jr Z v1)]) (by decide) (Nat.le_of_ble_eq_true rfl) rfl ?_
  intro p e s m args below meth c A sz X hAe hr hlocks
  refine jg_aload_n (pc := 0) X d_3_copyFrom_0 1 rfl ?_
  refine jgf_3_0 (pc := 1) X tv1 kw_218 d_3_copyFrom_1 ?_
  refine jg_iconst (pc := 4) X d_3_copyFrom_4 ?_
  refine jg_aload_n (pc := 5) X d_3_copyFrom_5 0 rfl ?_
  refine jgf_3_0 (pc := 6) X tv0 kw_218 d_3_copyFrom_6 ?_
  refine jg_iconst (pc := 9) X d_3_copyFrom_9 ?_
  refine jg_sipush (pc := 10) X d_3_copyFrom_10 rfl ?_
  refine jg_copy (n0 := 200) (n1 := 200) (pc := 13) X kw_431 d_3_copyFrom_13 kw_cp1 kw_cp2 kw_cp3 (jc_lo_0 hn tv1) (fun _ => rfl) (jc_lo_0 hn tv0) (fun _ => rfl) (by decide) (by decide) (by decide) (by decide) (by decide) (by decide) (by decide) ⟨(Nat.le_of_ble_eq_true rfl), (Nat.le_of_ble_eq_true rfl)⟩ ?_
  have w1 := jWF.cpy (src := (v1 + 1)) (sp := 0) (dp := 0) (len := 200) hw0 (jc_lo_0 hn tv0) (by decide)
  refine jg_aload_n (pc := 16) X d_3_copyFrom_16 0 rfl ?_
  refine jg_aload_n (pc := 17) X d_3_copyFrom_17 1 rfl ?_
  refine jgf_3_1 (pc := 18) X tv1 kw_219 d_3_copyFrom_18 ?_
  refine jgp_3_1 (pc := 21) X tv0 kw_219 d_3_copyFrom_21 ?_
  have w2 := jWF.u (k := 1) (v := ((jCpy C (v1 + 1) 0 (v0 + 1) 0 200) v1 1)) w1 tv0 (by decide) (w1.1 _ _)
  refine jg_aload_n (pc := 24) X d_3_copyFrom_24 0 rfl ?_
  refine jg_aload_n (pc := 25) X d_3_copyFrom_25 1 rfl ?_
  refine jgf_3_2 (pc := 26) X tv1 kw_220 d_3_copyFrom_26 ?_
  refine jgp_3_2 (pc := 29) X tv0 kw_220 d_3_copyFrom_29 ?_
  have w3 := jWF.u (k := 2) (v := ((jU (jCpy C (v1 + 1) 0 (v0 + 1) 0 200) v0 1 ((jCpy C (v1 + 1) 0 (v0 + 1) 0 200) v1 1)) v1 2)) w2 tv0 (by decide) (w2.1 _ _)
  exact jg_return (pc := 32) X hAe hlocks hr d_3_copyFrom_32 ⟨(Nat.le_of_ble_eq_true rfl), (Nat.le_of_ble_eq_true rfl)⟩ w3 h
set_option maxHeartbeats 4000000 in
set_option maxRecDepth 100000 in
theorem m_8_copyFrom {l : Launch} {Z : jE} {n : Nat} {C : jC} {v0 : Int} {v1 : Int} {post : jC → Prop} (tv0 : jT n v0 8) (tv1 : jT n v1 8) (hw0 : jWF n C) (h : wp_8_copyFrom v0 v1 C post) : jCv l y_8_copyFrom prog_10_method_12_code 3 q_8_copyFrom Z n C [jr Z v0, jr Z v1] post := by
  have hn := hw0.2.2.1
  unfold wp_8_copyFrom at h
  refine jCv_of (lv0 := [(0, jr Z v0), (1, jr Z v1)]) (by decide) (Nat.le_of_ble_eq_true rfl) rfl ?_
  intro p e s m args below meth c A sz X hAe hr hlocks
  refine jg_aload_n (pc := 0) X d_8_copyFrom_0 0 rfl ?_
  refine jgf_8_0 (pc := 1) X tv0 kw_288 d_8_copyFrom_1 ?_
  refine jg_aload_n (pc := 4) X d_8_copyFrom_4 1 rfl ?_
  refine jgf_8_0 (pc := 5) X tv1 kw_288 d_8_copyFrom_5 ?_
  refine jg_callVv (pc := 8) X (m_7_copyFrom (jc_st_0 hn tv0) (jc_st_0 hn tv1) hw0 h) jM_7_copyFrom kw_392 (jc_st_0 hn tv0) rfl rfl rfl rfl rfl (Nat.le_of_ble_eq_true rfl) d_8_copyFrom_8 ⟨(Nat.le_of_ble_eq_true rfl), (Nat.le_of_ble_eq_true rfl)⟩ ⟨(Nat.le_of_ble_eq_true rfl), (Nat.le_of_ble_eq_true rfl)⟩ (fun C2 w4 h => ?_)
  refine jg_iconst (pc := 11) X d_8_copyFrom_11 ?_
  refine jg_istore_n (pc := 12) X [(2, jI 0), (0, jr Z v0), (1, jr Z v1)] d_8_copyFrom_12 (by decide) rfl ?_
  have jl13 : ∀  (N : Nat) (v2 : Int) (C : jC) (rv2 : jRng v2) (hw : jWF n C), jI2 (wp_8_copyFrom_13 v0 v1 post) N v2 C → jG p l e q_8_copyFrom s m args below meth c 3 Z A (jws Z n C) 0 0 (MQ below (jQv Z n sz post) args s q_8_copyFrom.cells q_8_copyFrom.slots (jA Z n sz)) 13 [(0, jr Z v0), (1, jr Z v1), (2, jI v2)] [] := by
    intro   N
    have hn := hw0.2.2.1
    induction N with
    | zero => intro v2 C rv2 hw h; exact h.elim
    | succ N ih13 =>
      intro v2 C rv2 hw h
      have h : wp_8_copyFrom_13 v0 v1 post (jI2 (wp_8_copyFrom_13 v0 v1 post) N) v2 C := h
      generalize jI2 (wp_8_copyFrom_13 v0 v1 post) N = k13 at h ih13
      unfold wp_8_copyFrom_13 at h
      refine jg_iload_n (pc := 13) X d_8_copyFrom_13 2 rfl ?_
      refine jg_iconst (pc := 14) X d_8_copyFrom_14 ?_
      refine jg_icmp_ge (tgt := 39) (pc := 15) X d_8_copyFrom_15 (by decide) rv2 (⟨by decide, by decide⟩ : jRng 4) h (fun c5 h => ?_) (fun c5 h => ?_)
      · refine jg_aload_n (pc := 39) X d_8_copyFrom_39 0 rfl ?_
        refine jgf_8_2 (pc := 40) X tv0 kw_293 d_8_copyFrom_40 ?_
        refine jg_aload_n (pc := 43) X d_8_copyFrom_43 1 rfl ?_
        refine jgf_8_2 (pc := 44) X tv1 kw_293 d_8_copyFrom_44 ?_
        refine jg_callVv (pc := 47) X (m_3_copyFrom (jc_st_2 hn tv0) (jc_st_2 hn tv1) hw h) jM_3_copyFrom kw_427 (jc_st_2 hn tv0) rfl rfl rfl rfl rfl (Nat.le_of_ble_eq_true rfl) d_8_copyFrom_47 ⟨(Nat.le_of_ble_eq_true rfl), (Nat.le_of_ble_eq_true rfl)⟩ ⟨(Nat.le_of_ble_eq_true rfl), (Nat.le_of_ble_eq_true rfl)⟩ (fun C7 w9 h => ?_)
        exact jg_return (pc := 50) X hAe hlocks hr d_8_copyFrom_50 ⟨(Nat.le_of_ble_eq_true rfl), (Nat.le_of_ble_eq_true rfl)⟩ w9 h
      · refine jg_aload_n (pc := 18) X d_8_copyFrom_18 0 rfl ?_
        refine jgf_8_1 (pc := 19) X tv0 kw_291 d_8_copyFrom_19 ?_
        refine jg_iload_n (pc := 22) X d_8_copyFrom_22 2 rfl ?_
        obtain ⟨b10, h⟩ := h
        have b11 : v2 < 4 := by (have z0 : jRng v2 := rv2; unfold jRng at z0; omega)
        refine jg_aaloadV (pc := 23) X d_8_copyFrom_23 (jc_st_1 hn tv0) b10 b11 ?_
        refine jg_aload_n (pc := 24) X d_8_copyFrom_24 1 rfl ?_
        refine jgf_8_1 (pc := 25) X tv1 kw_291 d_8_copyFrom_25 ?_
        refine jg_iload_n (pc := 28) X d_8_copyFrom_28 2 rfl ?_
        have b12 : 0 ≤ v2 := by (have z0 : jRng v2 := rv2; unfold jRng at z0; omega)
        have b13 : v2 < 4 := by (have z0 : jRng v2 := rv2; unfold jRng at z0; omega)
        refine jg_aaloadV (pc := 29) X d_8_copyFrom_29 (jc_st_1 hn tv1) b12 b13 ?_
        refine jg_callVv (pc := 30) X (m_10_copyFrom (jc_va hn (jc_st_1 hn tv0) b10 b11) (jc_va hn (jc_st_1 hn tv1) b12 b13) hw h) jM_10_copyFrom kw_404 (jc_va hn (jc_st_1 hn tv0) b10 b11) rfl rfl rfl rfl rfl (Nat.le_of_ble_eq_true rfl) d_8_copyFrom_30 ⟨(Nat.le_of_ble_eq_true rfl), (Nat.le_of_ble_eq_true rfl)⟩ ⟨(Nat.le_of_ble_eq_true rfl), (Nat.le_of_ble_eq_true rfl)⟩ (fun C15 w17 h => ?_)
        refine jg_iinc (pc := 33) X [(2, jI (v2 + 1)), (0, jr Z v0), (1, jr Z v1)] d_8_copyFrom_33 2 rfl (by decide) rfl ?_
        refine jg_goto (tgt := 13) (pc := 36) X d_8_copyFrom_36 (by decide) ?_
        have r18 : jRng (v2 + 1) := by (unfold jRng; exact ⟨by (have z0 : jRng v2 := rv2; unfold jRng at z0; omega), by (have z0 : jRng v2 := rv2; unfold jRng at z0; omega)⟩)
        refine jg_sub [1, 2, 0] rfl ?_
        exact ih13 _ _ r18 w17 h
  obtain ⟨N, h⟩ := h
  refine jg_sub [1, 2, 0] rfl ?_
  exact jl13   N _ _ (⟨by decide, by decide⟩ : jRng 0) w4 h
set_option maxHeartbeats 4000000 in
set_option maxRecDepth 100000 in
theorem m_11_back {l : Launch} {Z : jE} {n : Nat} {C : jC}  {post : Int → jC → Prop}  (hw0 : jWF n C) (h : wp_11_back C post) : jCi l y_11_back prog_1_method_45_code 1 (.boolean) q_11_back Z n C [jr Z 0] post := by
  have hn := hw0.2.2.1
  unfold wp_11_back at h
  refine jCi_of (lv0 := [(0, jr Z 0)]) (by decide) (Nat.le_of_ble_eq_true rfl) rfl ?_
  intro p e s m args below meth c A sz X hAe hr hlocks
  refine jg_aload_n (pc := 0) X d_11_back_0 0 rfl ?_
  refine jgf_11_4 (pc := 1) X (jl_0_11 hn) kw_340 d_11_back_1 ?_
  refine jg_ifnonnull (tgt := 9) (pc := 4) X d_11_back_4 (by decide) h (fun c1 h => ?_) (fun c1 h => ?_)
  · refine jg_iconst (pc := 7) X d_11_back_7 ?_
    exact jg_ireturn (pc := 8) X hAe hlocks hr d_11_back_8 ⟨(Nat.le_of_ble_eq_true rfl), (Nat.le_of_ble_eq_true rfl)⟩ rfl (⟨by decide, by decide⟩ : jRng 0) hw0 h
  · refine jg_aload_n (pc := 9) X d_11_back_9 0 rfl ?_
    refine jgf_11_2 (pc := 10) X (jl_0_11 hn) kw_338 d_11_back_10 ?_
    refine jg_aload_n (pc := 13) X d_11_back_13 0 rfl ?_
    refine jgf_11_4 (pc := 14) X (jl_0_11 hn) kw_340 d_11_back_14 ?_
    refine jg_eqst (congrArg (· :: _) (jn_pos c1)) ?_
    refine jg_callVv (pc := 17) X (m_8_copyFrom (jl_35_8 hn) (jWF_kept hw0 c1) hw0 h) jM_8_copyFrom kw_388 (jl_35_8 hn) rfl rfl rfl rfl rfl (Nat.le_of_ble_eq_true rfl) d_11_back_17 ⟨(Nat.le_of_ble_eq_true rfl), (Nat.le_of_ble_eq_true rfl)⟩ ⟨(Nat.le_of_ble_eq_true rfl), (Nat.le_of_ble_eq_true rfl)⟩ (fun C3 w5 h => ?_)
    refine jg_iconst (pc := 20) X d_11_back_20 ?_
    exact jg_ireturn (pc := 21) X hAe hlocks hr d_11_back_21 ⟨(Nat.le_of_ble_eq_true rfl), (Nat.le_of_ble_eq_true rfl)⟩ rfl (⟨by decide, by decide⟩ : jRng 1) w5 h
set_option maxHeartbeats 4000000 in
set_option maxRecDepth 100000 in
theorem m_6_length {l : Launch} {Z : jE} {n : Nat} {C : jC} {v0 : Int} {post : Int → Prop} (tv0 : jT n v0 6) (hw0 : jWF n C) (h : wp_6_length v0 C post) : jCi l y_6_length prog_8_method_2_code 1 (.int) q_6_length Z n C [jr Z v0] (fun x C9 => C9 = C ∧ post x) := by
  have hn := hw0.2.2.1
  unfold wp_6_length at h
  refine jCi_of (lv0 := [(0, jr Z v0)]) (by decide) (Nat.le_of_ble_eq_true rfl) rfl ?_
  intro p e s m args below meth c A sz X hAe hr hlocks
  refine jg_aload_n (pc := 0) X d_6_length_0 0 rfl ?_
  refine jgf_6_1 (pc := 1) X tv0 kw_167 d_6_length_1 ?_
  exact jg_ireturn (pc := 4) X hAe hlocks hr d_6_length_4 ⟨(Nat.le_of_ble_eq_true rfl), (Nat.le_of_ble_eq_true rfl)⟩ rfl (hw0.1 _ _) hw0 ⟨rfl, h⟩
set_option maxHeartbeats 4000000 in
set_option maxRecDepth 100000 in
theorem m_7_rowsNow {l : Launch} {Z : jE} {n : Nat} {C : jC} {v0 : Int} {post : Int → Prop} (tv0 : jT n v0 7) (hw0 : jWF n C) (h : wp_7_rowsNow v0 C post) : jCi l y_7_rowsNow prog_9_method_2_code 1 (.int) q_7_rowsNow Z n C [jr Z v0] (fun x C9 => C9 = C ∧ post x) := by
  have hn := hw0.2.2.1
  unfold wp_7_rowsNow at h
  refine jCi_of (lv0 := [(0, jr Z v0)]) (by decide) (Nat.le_of_ble_eq_true rfl) rfl ?_
  intro p e s m args below meth c A sz X hAe hr hlocks
  refine jg_aload_n (pc := 0) X d_7_rowsNow_0 0 rfl ?_
  refine jgf_7_5 (pc := 1) X tv0 kw_184 d_7_rowsNow_1 ?_
  refine jg_pcallVi (pc := 4) X (m_6_length (jc_sh_5 hn tv0) hw0 h) jM_6_length kw_444 (jc_sh_5 hn tv0) rfl rfl rfl rfl rfl (Nat.le_of_ble_eq_true rfl) d_7_rowsNow_4 ⟨(Nat.le_of_ble_eq_true rfl), (Nat.le_of_ble_eq_true rfl)⟩ ⟨(Nat.le_of_ble_eq_true rfl), (Nat.le_of_ble_eq_true rfl)⟩ (fun x1 r3 h => ?_)
  exact jg_ireturn (pc := 7) X hAe hlocks hr d_7_rowsNow_7 ⟨(Nat.le_of_ble_eq_true rfl), (Nat.le_of_ble_eq_true rfl)⟩ rfl r3 hw0 ⟨rfl, h⟩
set_option maxHeartbeats 4000000 in
set_option maxRecDepth 100000 in
theorem m_11_count {l : Launch} {Z : jE} {n : Nat} {C : jC} {v1 : Int} {post : Int → Prop} (rv1 : jRng v1) (hw0 : jWF n C) (h : wp_11_count v1 C post) : jCi l y_11_count prog_1_method_46_code 2 (.int) q_11_count Z n C [jr Z 0, jI v1] (fun x C9 => C9 = C ∧ post x) := by
  have hn := hw0.2.2.1
  unfold wp_11_count at h
  refine jCi_of (lv0 := [(0, jr Z 0), (1, jI v1)]) (by decide) (Nat.le_of_ble_eq_true rfl) rfl ?_
  intro p e s m args below meth c A sz X hAe hr hlocks
  refine jg_iload_n (pc := 0) X d_11_count_0 1 rfl ?_
  by_cases c1 : v1 = 0
  · rw [if_pos c1] at h
    refine jg_tswIn (tgt := 36) (pc := 1) X d_11_count_1 rv1 (by omega) (by omega) (by rw [c1]; rfl) (by decide) ?_
    refine jg_aload_n (pc := 36) X d_11_count_36 0 rfl ?_
    refine jgf_11_2 (pc := 37) X (jl_0_11 hn) kw_338 d_11_count_37 ?_
    refine jgfN_8_0 (pc := 40) X (jl_35_8 hn) kn_290 d_11_count_40 ?_
    refine jgfN_7_0 (pc := 43) X (jl_36_7 hn) kn_177 d_11_count_43 ?_
    exact jg_ireturn (pc := 46) X hAe hlocks hr d_11_count_46 ⟨(Nat.le_of_ble_eq_true rfl), (Nat.le_of_ble_eq_true rfl)⟩ rfl (hw0.1 _ _) hw0 ⟨rfl, h⟩
  · rw [if_neg c1] at h
    by_cases c2 : v1 = 1
    · rw [if_pos c2] at h
      refine jg_tswIn (tgt := 47) (pc := 1) X d_11_count_1 rv1 (by omega) (by omega) (by rw [c2]; rfl) (by decide) ?_
      refine jg_aload_n (pc := 47) X d_11_count_47 0 rfl ?_
      refine jgf_11_2 (pc := 48) X (jl_0_11 hn) kw_338 d_11_count_48 ?_
      refine jgfN_8_0 (pc := 51) X (jl_35_8 hn) kn_290 d_11_count_51 ?_
      refine jg_pcallVi (pc := 54) X (m_7_rowsNow (jl_36_7 hn) hw0 h) jM_7_rowsNow kw_440 (jl_36_7 hn) rfl rfl rfl rfl rfl (Nat.le_of_ble_eq_true rfl) d_11_count_54 ⟨(Nat.le_of_ble_eq_true rfl), (Nat.le_of_ble_eq_true rfl)⟩ ⟨(Nat.le_of_ble_eq_true rfl), (Nat.le_of_ble_eq_true rfl)⟩ (fun x6 r8 h => ?_)
      exact jg_ireturn (pc := 57) X hAe hlocks hr d_11_count_57 ⟨(Nat.le_of_ble_eq_true rfl), (Nat.le_of_ble_eq_true rfl)⟩ rfl r8 hw0 ⟨rfl, h⟩
    · rw [if_neg c2] at h
      by_cases c3 : v1 = 2
      · rw [if_pos c3] at h
        refine jg_tswIn (tgt := 58) (pc := 1) X d_11_count_1 rv1 (by omega) (by omega) (by rw [c3]; rfl) (by decide) ?_
        refine jg_aload_n (pc := 58) X d_11_count_58 0 rfl ?_
        refine jgf_11_2 (pc := 59) X (jl_0_11 hn) kw_338 d_11_count_59 ?_
        refine jgfN_8_0 (pc := 62) X (jl_35_8 hn) kn_290 d_11_count_62 ?_
        refine jgfN_7_6 (pc := 65) X (jl_36_7 hn) kn_189 d_11_count_65 ?_
        exact jg_ireturn (pc := 68) X hAe hlocks hr d_11_count_68 ⟨(Nat.le_of_ble_eq_true rfl), (Nat.le_of_ble_eq_true rfl)⟩ rfl (hw0.1 _ _) hw0 ⟨rfl, h⟩
      · rw [if_neg c3] at h
        by_cases c4 : v1 = 3
        · rw [if_pos c4] at h
          refine jg_tswIn (tgt := 69) (pc := 1) X d_11_count_1 rv1 (by omega) (by omega) (by rw [c4]; rfl) (by decide) ?_
          refine jg_aload_n (pc := 69) X d_11_count_69 0 rfl ?_
          refine jgf_11_2 (pc := 70) X (jl_0_11 hn) kw_338 d_11_count_70 ?_
          refine jgfN_8_0 (pc := 73) X (jl_35_8 hn) kn_290 d_11_count_73 ?_
          refine jgfN_7_7 (pc := 76) X (jl_36_7 hn) kn_192 d_11_count_76 ?_
          exact jg_ireturn (pc := 79) X hAe hlocks hr d_11_count_79 ⟨(Nat.le_of_ble_eq_true rfl), (Nat.le_of_ble_eq_true rfl)⟩ rfl (hw0.1 _ _) hw0 ⟨rfl, h⟩
        · rw [if_neg c4] at h
          by_cases c5 : v1 = 4
          · rw [if_pos c5] at h
            refine jg_tswIn (tgt := 80) (pc := 1) X d_11_count_1 rv1 (by omega) (by omega) (by rw [c5]; rfl) (by decide) ?_
            refine jg_aload_n (pc := 80) X d_11_count_80 0 rfl ?_
            refine jgf_11_2 (pc := 81) X (jl_0_11 hn) kw_338 d_11_count_81 ?_
            refine jgfN_8_2 (pc := 84) X (jl_35_8 hn) kn_294 d_11_count_84 ?_
            refine jgfN_3_2 (pc := 87) X (jl_44_3 hn) kn_221 d_11_count_87 ?_
            exact jg_ireturn (pc := 90) X hAe hlocks hr d_11_count_90 ⟨(Nat.le_of_ble_eq_true rfl), (Nat.le_of_ble_eq_true rfl)⟩ rfl (hw0.1 _ _) hw0 ⟨rfl, h⟩
          · rw [if_neg c5] at h
            refine jg_tswOut (tgt := 91) (pc := 1) X d_11_count_1 rv1 (by omega) (by decide) ?_
            refine jg_iconst (pc := 91) X d_11_count_91 ?_
            exact jg_ireturn (pc := 92) X hAe hlocks hr d_11_count_92 ⟨(Nat.le_of_ble_eq_true rfl), (Nat.le_of_ble_eq_true rfl)⟩ rfl (⟨by decide, by decide⟩ : jRng (-1)) hw0 ⟨rfl, h⟩
set_option maxHeartbeats 4000000 in
set_option maxRecDepth 100000 in
theorem m_5_useUp {l : Launch} {Z : jE} {n : Nat} {C : jC}  {post : jC → Prop}  (hw0 : jWF n C) (h : wp_5_useUp C post) : jCv l y_5_useUp prog_7_method_3_code 1 q_5_useUp Z n C [jr Z 1] post := by
  have hn := hw0.2.2.1
  unfold wp_5_useUp at h
  refine jCv_of (lv0 := [(0, jr Z 1)]) (by decide) (Nat.le_of_ble_eq_true rfl) rfl ?_
  intro p e s m args below meth c A sz X hAe hr hlocks
  refine jg_aload_n (pc := 0) X d_5_useUp_0 0 rfl ?_
  refine jg_aload_n (pc := 1) X d_5_useUp_1 0 rfl ?_
  refine jgf_5_1 (pc := 2) X (jl_1_5 hn) kw_44 d_5_useUp_2 ?_
  refine jgp_5_2 (pc := 5) X (jl_1_5 hn) kw_45 d_5_useUp_5 ?_
  have w1 := jWF.u (k := 2) (v := (C 1 1)) hw0 (jl_1_5 hn) (by decide) (hw0.1 _ _)
  refine jg_aload_n (pc := 8) X d_5_useUp_8 0 rfl ?_
  refine jg_iconst (pc := 9) X d_5_useUp_9 ?_
  refine jgp_5_1 (pc := 10) X (jl_1_5 hn) kw_44 d_5_useUp_10 ?_
  have w2 := jWF.u (k := 1) (v := 0) w1 (jl_1_5 hn) (by decide) (⟨by decide, by decide⟩ : jRng 0)
  exact jg_return (pc := 13) X hAe hlocks hr d_5_useUp_13 ⟨(Nat.le_of_ble_eq_true rfl), (Nat.le_of_ble_eq_true rfl)⟩ w2 h
set_option maxHeartbeats 4000000 in
set_option maxRecDepth 100000 in
theorem m_5_openUsedText {l : Launch} {Z : jE} {n : Nat} {C : jC}  {post : jC → Prop}  (hw0 : jWF n C) (h : wp_5_openUsedText C post) : jCv l y_5_openUsedText prog_7_method_4_code 1 q_5_openUsedText Z n C [jr Z 1] post := by
  have hn := hw0.2.2.1
  unfold wp_5_openUsedText at h
  refine jCv_of (lv0 := [(0, jr Z 1)]) (by decide) (Nat.le_of_ble_eq_true rfl) rfl ?_
  intro p e s m args below meth c A sz X hAe hr hlocks
  refine jg_aload_n (pc := 0) X d_5_openUsedText_0 0 rfl ?_
  refine jg_iconst (pc := 1) X d_5_openUsedText_1 ?_
  refine jgp_5_3 (pc := 2) X (jl_1_5 hn) kw_46 d_5_openUsedText_2 ?_
  have w1 := jWF.u (k := 3) (v := 0) hw0 (jl_1_5 hn) (by decide) (⟨by decide, by decide⟩ : jRng 0)
  refine jg_aload_n (pc := 5) X d_5_openUsedText_5 0 rfl ?_
  refine jg_iconst (pc := 6) X d_5_openUsedText_6 ?_
  refine jgp_5_4 (pc := 7) X (jl_1_5 hn) kw_48 d_5_openUsedText_7 ?_
  have w2 := jWF.u (k := 4) (v := (-1)) w1 (jl_1_5 hn) (by decide) (⟨by decide, by decide⟩ : jRng (-1))
  exact jg_return (pc := 10) X hAe hlocks hr d_5_openUsedText_10 ⟨(Nat.le_of_ble_eq_true rfl), (Nat.le_of_ble_eq_true rfl)⟩ w2 h
set_option maxHeartbeats 4000000 in
set_option maxRecDepth 100000 in
theorem m_5_openText {l : Launch} {Z : jE} {n : Nat} {C : jC}  {post : jC → Prop}  (hw0 : jWF n C) (h : wp_5_openText C post) : jCv l y_5_openText prog_7_method_5_code 1 q_5_openText Z n C [jr Z 1] post := by
  have hn := hw0.2.2.1
  unfold wp_5_openText at h
  refine jCv_of (lv0 := [(0, jr Z 1)]) (by decide) (Nat.le_of_ble_eq_true rfl) rfl ?_
  intro p e s m args below meth c A sz X hAe hr hlocks
  refine jg_aload_n (pc := 0) X d_5_openText_0 0 rfl ?_
  refine jg_callVv (pc := 1) X (m_5_useUp hw0 h) jM_5_useUp kw_461 (jl_1_5 hn) rfl rfl rfl rfl rfl (Nat.le_of_ble_eq_true rfl) d_5_openText_1 ⟨(Nat.le_of_ble_eq_true rfl), (Nat.le_of_ble_eq_true rfl)⟩ ⟨(Nat.le_of_ble_eq_true rfl), (Nat.le_of_ble_eq_true rfl)⟩ (fun C2 w4 h => ?_)
  refine jg_aload_n (pc := 4) X d_5_openText_4 0 rfl ?_
  refine jg_callVv (pc := 5) X (m_5_openUsedText w4 h) jM_5_openUsedText kw_465 (jl_1_5 hn) rfl rfl rfl rfl rfl (Nat.le_of_ble_eq_true rfl) d_5_openText_5 ⟨(Nat.le_of_ble_eq_true rfl), (Nat.le_of_ble_eq_true rfl)⟩ ⟨(Nat.le_of_ble_eq_true rfl), (Nat.le_of_ble_eq_true rfl)⟩ (fun C6 w8 h => ?_)
  exact jg_return (pc := 8) X hAe hlocks hr d_5_openText_8 ⟨(Nat.le_of_ble_eq_true rfl), (Nat.le_of_ble_eq_true rfl)⟩ w8 h
set_option maxHeartbeats 4000000 in
set_option maxRecDepth 100000 in
theorem m_9_knowColumns {l : Launch} {Z : jE} {n : Nat} {C : jC} {v1 : Int} {post : jC → Prop} (tv1 : jT n v1 7) (hw0 : jWF n C) (h : wp_9_knowColumns v1 C post) : jCv l y_9_knowColumns prog_11_method_4_code 2 q_9_knowColumns Z n C [jr Z 3, jr Z v1] post := by
  have hn := hw0.2.2.1
  unfold wp_9_knowColumns at h
  refine jCv_of (lv0 := [(0, jr Z 3), (1, jr Z v1)]) (by decide) (Nat.le_of_ble_eq_true rfl) rfl ?_
  intro p e s m args below meth c A sz X hAe hr hlocks
  refine jg_aload_n (pc := 0) X d_9_knowColumns_0 0 rfl ?_
  refine jg_aload_n (pc := 1) X d_9_knowColumns_1 1 rfl ?_
  refine jgfN_7_0 (pc := 2) X tv1 kn_175 d_9_knowColumns_2 ?_
  refine jgp_9_0 (pc := 5) X (jl_3_9 hn) kw_125 d_9_knowColumns_5 ?_
  have w1 := jWF.u (k := 0) (v := (C v1 0)) hw0 (jl_3_9 hn) (by decide) (hw0.1 _ _)
  refine jg_aload_n (pc := 8) X d_9_knowColumns_8 1 rfl ?_
  refine jgfN_7_1 (pc := 9) X tv1 kn_180 d_9_knowColumns_9 ?_
  refine jg_iconst (pc := 12) X d_9_knowColumns_12 ?_
  refine jg_aload_n (pc := 13) X d_9_knowColumns_13 0 rfl ?_
  refine jgf_9_1 (pc := 14) X (jl_3_9 hn) kw_126 d_9_knowColumns_14 ?_
  refine jg_iconst (pc := 17) X d_9_knowColumns_17 ?_
  refine jg_iconst (pc := 18) X d_9_knowColumns_18 ?_
  refine jg_copy (n0 := 5) (n1 := 5) (pc := 19) X kw_477 d_9_knowColumns_19 kw_cp1 kw_cp2 kw_cp3 (jc_sh_1 hn tv1) (fun _ => rfl) (jl_4_1005 hn) (fun _ => rfl) (by decide) (by decide) (by decide) (by decide) (by decide) (by decide) (by decide) ⟨(Nat.le_of_ble_eq_true rfl), (Nat.le_of_ble_eq_true rfl)⟩ ?_
  have w2 := jWF.cpy (src := (v1 + 1)) (sp := 0) (dp := 0) (len := 5) w1 (jl_4_1005 hn) (by decide)
  refine jg_aload_n (pc := 22) X d_9_knowColumns_22 0 rfl ?_
  refine jg_iconst (pc := 23) X d_9_knowColumns_23 ?_
  refine jgp_9_2 (pc := 24) X (jl_3_9 hn) kw_128 d_9_knowColumns_24 ?_
  have w3 := jWF.u (k := 2) (v := 0) w2 (jl_3_9 hn) (by decide) (⟨by decide, by decide⟩ : jRng 0)
  exact jg_return (pc := 27) X hAe hlocks hr d_9_knowColumns_27 ⟨(Nat.le_of_ble_eq_true rfl), (Nat.le_of_ble_eq_true rfl)⟩ w3 h
set_option maxHeartbeats 4000000 in
set_option maxRecDepth 100000 in
theorem m_5_skipBlanks {l : Launch} {Z : jE} {n : Nat} {C : jC}  {post : jC → Prop}  (hw0 : jWF n C) (h : wp_5_skipBlanks C post) : jCv l y_5_skipBlanks prog_7_method_11_code 1 q_5_skipBlanks Z n C [jr Z 1] post := by
  have hn := hw0.2.2.1
  unfold wp_5_skipBlanks at h
  refine jCv_of (lv0 := [(0, jr Z 1)]) (by decide) (Nat.le_of_ble_eq_true rfl) rfl ?_
  intro p e s m args below meth c A sz X hAe hr hlocks
  have jl0 : ∀  (N : Nat) (C : jC) (hw : jWF n C), jI1 (wp_5_skipBlanks_0  post) N C → jG p l e q_5_skipBlanks s m args below meth c 1 Z A (jws Z n C) 0 0 (MQ below (jQv Z n sz post) args s q_5_skipBlanks.cells q_5_skipBlanks.slots (jA Z n sz)) 0 [(0, jr Z 1)] [] := by
    intro   N
    have hn := hw0.2.2.1
    induction N with
    | zero => intro C hw h; exact h.elim
    | succ N ih0 =>
      intro C hw h
      have h : wp_5_skipBlanks_0  post (jI1 (wp_5_skipBlanks_0  post) N) C := h
      generalize jI1 (wp_5_skipBlanks_0  post) N = k0 at h ih0
      unfold wp_5_skipBlanks_0 at h
      refine jg_aload_n (pc := 0) X d_5_skipBlanks_0 0 rfl ?_
      refine jgf_5_3 (pc := 1) X (jl_1_5 hn) kw_46 d_5_skipBlanks_1 ?_
      refine jg_aload_n (pc := 4) X d_5_skipBlanks_4 0 rfl ?_
      refine jgf_5_2 (pc := 5) X (jl_1_5 hn) kw_45 d_5_skipBlanks_5 ?_
      refine jg_icmp_ge (tgt := 38) (pc := 8) X d_5_skipBlanks_8 (by decide) (hw.1 _ _) (hw.1 _ _) h (fun c1 h => ?_) (fun c1 h => ?_)
      · have c1 : (C 1 2) ≤ (C 1 3) := c1
        exact jg_return (pc := 38) X hAe hlocks hr d_5_skipBlanks_38 ⟨(Nat.le_of_ble_eq_true rfl), (Nat.le_of_ble_eq_true rfl)⟩ hw h
      · have c1 : ¬ ((C 1 2) ≤ (C 1 3)) := c1
        refine jg_aload_n (pc := 11) X d_5_skipBlanks_11 0 rfl ?_
        refine jgf_5_0 (pc := 12) X (jl_1_5 hn) kw_42 d_5_skipBlanks_12 ?_
        refine jg_aload_n (pc := 15) X d_5_skipBlanks_15 0 rfl ?_
        refine jgf_5_3 (pc := 16) X (jl_1_5 hn) kw_46 d_5_skipBlanks_16 ?_
        obtain ⟨b2, b3, h⟩ := h
        refine jg_iaload (len := 400) (pc := 19) X d_5_skipBlanks_19 (jl_2_1400 hn) (fun _ => rfl) (by decide) b2 b3 ?_
        refine jg_bipush (pc := 20) X d_5_skipBlanks_20 rfl ?_
        refine jg_icmp_ne (tgt := 38) (pc := 22) X d_5_skipBlanks_22 (by decide) (hw.1 _ _) (⟨by decide, by decide⟩ : jRng 32) h (fun c4 h => ?_) (fun c4 h => ?_)
        · have c4 : (C 2 (C 1 3)) = 32 := c4
          refine jg_aload_n (pc := 25) X d_5_skipBlanks_25 0 rfl ?_
          refine jg_dup (pc := 26) X d_5_skipBlanks_26 rfl ?_
          refine jgf_5_3 (pc := 27) X (jl_1_5 hn) kw_46 d_5_skipBlanks_27 ?_
          refine jg_iconst (pc := 30) X d_5_skipBlanks_30 ?_
          refine jg_iadd (pc := 31) X d_5_skipBlanks_31 ?_
          have r5 : jRng ((C 1 3) + 1) := by (unfold jRng; exact ⟨by (have z0 : jRng (C 1 3) := (hw.1 _ _); have z1 : jRng (C 1 2) := (hw.1 _ _); unfold jRng at z0 z1; omega), by (have z0 : jRng (C 1 3) := (hw.1 _ _); have z1 : jRng (C 1 2) := (hw.1 _ _); unfold jRng at z0 z1; omega)⟩)
          refine jgp_5_3 (pc := 32) X (jl_1_5 hn) kw_46 d_5_skipBlanks_32 ?_
          have w6 := jWF.u (k := 3) (v := ((C 1 3) + 1)) hw (jl_1_5 hn) (by decide) r5
          refine jg_goto (tgt := 0) (pc := 35) X d_5_skipBlanks_35 (by decide) ?_
          refine jg_sub [0] rfl ?_
          exact ih0 _ w6 h
        · have c4 : ¬ ((C 2 (C 1 3)) = 32) := c4
          exact jg_return (pc := 38) X hAe hlocks hr d_5_skipBlanks_38 ⟨(Nat.le_of_ble_eq_true rfl), (Nat.le_of_ble_eq_true rfl)⟩ hw h
  obtain ⟨N, h⟩ := h
  refine jg_sub [0] rfl ?_
  exact jl0   N _ hw0 h
set_option maxHeartbeats 4000000 in
set_option maxRecDepth 100000 in
theorem m_5_isOver {l : Launch} {Z : jE} {n : Nat} {C : jC}  {post : Int → jC → Prop}  (hw0 : jWF n C) (h : wp_5_isOver C post) : jCi l y_5_isOver prog_7_method_12_code 1 (.boolean) q_5_isOver Z n C [jr Z 1] post := by
  have hn := hw0.2.2.1
  unfold wp_5_isOver at h
  refine jCi_of (lv0 := [(0, jr Z 1)]) (by decide) (Nat.le_of_ble_eq_true rfl) rfl ?_
  intro p e s m args below meth c A sz X hAe hr hlocks
  refine jg_aload_n (pc := 0) X d_5_isOver_0 0 rfl ?_
  refine jg_callVv (pc := 1) X (m_5_skipBlanks hw0 h) jM_5_skipBlanks kw_482 (jl_1_5 hn) rfl rfl rfl rfl rfl (Nat.le_of_ble_eq_true rfl) d_5_isOver_1 ⟨(Nat.le_of_ble_eq_true rfl), (Nat.le_of_ble_eq_true rfl)⟩ ⟨(Nat.le_of_ble_eq_true rfl), (Nat.le_of_ble_eq_true rfl)⟩ (fun C2 w4 h => ?_)
  refine jg_aload_n (pc := 4) X d_5_isOver_4 0 rfl ?_
  refine jgf_5_3 (pc := 5) X (jl_1_5 hn) kw_46 d_5_isOver_5 ?_
  refine jg_aload_n (pc := 8) X d_5_isOver_8 0 rfl ?_
  refine jgf_5_2 (pc := 9) X (jl_1_5 hn) kw_45 d_5_isOver_9 ?_
  refine jg_icmp_lt (tgt := 19) (pc := 12) X d_5_isOver_12 (by decide) (w4.1 _ _) (w4.1 _ _) h (fun c5 h => ?_) (fun c5 h => ?_)
  · have c5 : (C2 1 3) < (C2 1 2) := c5
    refine jg_iconst (pc := 19) X d_5_isOver_19 ?_
    exact jg_ireturn (pc := 20) X hAe hlocks hr d_5_isOver_20 ⟨(Nat.le_of_ble_eq_true rfl), (Nat.le_of_ble_eq_true rfl)⟩ rfl (⟨by decide, by decide⟩ : jRng 0) w4 h
  · have c5 : ¬ ((C2 1 3) < (C2 1 2)) := c5
    refine jg_iconst (pc := 15) X d_5_isOver_15 ?_
    refine jg_goto (tgt := 20) (pc := 16) X d_5_isOver_16 (by decide) ?_
    exact jg_ireturn (pc := 20) X hAe hlocks hr d_5_isOver_20 ⟨(Nat.le_of_ble_eq_true rfl), (Nat.le_of_ble_eq_true rfl)⟩ rfl (⟨by decide, by decide⟩ : jRng 1) w4 h
set_option maxHeartbeats 4000000 in
set_option maxRecDepth 100000 in
theorem m_5_isWordHere {l : Launch} {Z : jE} {n : Nat} {C : jC} {v1 : Nat} {post : Int → Prop} (qv1 : v1 < 11) (hw0 : jWF n C) (h : wp_5_isWordHere v1 C post) : jCi l y_5_isWordHere prog_7_method_14_code 4 (.boolean) q_5_isWordHere Z n C [jr Z 1, Value.ref (jsK Z v1)] (fun x C9 => C9 = C ∧ post x) := by
  have hn := hw0.2.2.1
  unfold wp_5_isWordHere at h
  refine jCi_of (lv0 := [(0, jr Z 1), (1, Value.ref (jsK Z v1))]) (by decide) (Nat.le_of_ble_eq_true rfl) rfl ?_
  intro p e s m args below meth c A sz X hAe hr hlocks
  refine jg_aload_n (pc := 0) X d_5_isWordHere_0 0 rfl ?_
  refine jgf_5_3 (pc := 1) X (jl_1_5 hn) kw_46 d_5_isWordHere_1 ?_
  refine jg_sload_n (pc := 4) X d_5_isWordHere_4 1 rfl ?_
  refine jg_strlen (pc := 5) X qv1 kw_501 d_5_isWordHere_5 hw0 (Nat.le_of_ble_eq_true rfl) ⟨(Nat.le_of_ble_eq_true rfl), (Nat.le_of_ble_eq_true rfl)⟩ ⟨(Nat.le_of_ble_eq_true rfl), (Nat.le_of_ble_eq_true rfl)⟩ ?_
  refine jg_iadd (pc := 8) X d_5_isWordHere_8 ?_
  refine jg_istore_n (pc := 9) X [(2, jI ((C 1 3) + (jSlen v1))), (0, jr Z 1), (1, Value.ref (jsK Z v1))] d_5_isWordHere_9 (by decide) rfl ?_
  refine jg_iload_n (pc := 10) X d_5_isWordHere_10 0 rfl ?_
  refine jg_aload_n (pc := 11) X d_5_isWordHere_11 1 rfl ?_
  refine jgf_5_2 (pc := 12) X (jl_1_5 hn) kw_45 d_5_isWordHere_12 ?_
  obtain ⟨r1, h⟩ := h
  refine jg_icmp_le (tgt := 20) (pc := 15) X d_5_isWordHere_15 (by decide) r1 (hw0.1 _ _) h (fun c2 h => ?_) (fun c2 h => ?_)
  · have c2 : ((C 1 3) + (jSlen v1)) ≤ (C 1 2) := c2
    refine jg_iconst (pc := 20) X d_5_isWordHere_20 ?_
    refine jg_istore_n (pc := 21) X [(3, jI 0), (2, jI ((C 1 3) + (jSlen v1))), (0, jr Z 1), (1, Value.ref (jsK Z v1))] d_5_isWordHere_21 (by decide) rfl ?_
    have hw : jWF n C := hw0
    have jl22 : ∀ (v2 : Int) (rv2 : jRng v2) (N : Nat) (v3 : Int) (rv3 : jRng v3), jI1 (wp_5_isWordHere_22 v1 v2 C post) N v3 → jG p l e q_5_isWordHere s m args below meth c 4 Z A (jws Z n C) 0 0 (MQ below (jQi Z n sz (fun x C9 => C9 = C ∧ post x)) args s q_5_isWordHere.cells q_5_isWordHere.slots (jA Z n sz)) 22 [(0, jr Z 1), (1, Value.ref (jsK Z v1)), (2, jI v2), (3, jI v3)] [] := by
      intro v2 rv2 N
      have hn := hw0.2.2.1
      induction N with
      | zero => intro v3 rv3 h; exact h.elim
      | succ N ih22 =>
        intro v3 rv3 h
        have h : wp_5_isWordHere_22 v1 v2 C post (jI1 (wp_5_isWordHere_22 v1 v2 C post) N) v3 := h
        generalize jI1 (wp_5_isWordHere_22 v1 v2 C post) N = k22 at h ih22
        unfold wp_5_isWordHere_22 at h
        refine jg_iload_n (pc := 22) X d_5_isWordHere_22 3 rfl ?_
        refine jg_sload_n (pc := 23) X d_5_isWordHere_23 1 rfl ?_
        refine jg_strlen (pc := 24) X qv1 kw_501 d_5_isWordHere_24 hw (Nat.le_of_ble_eq_true rfl) ⟨(Nat.le_of_ble_eq_true rfl), (Nat.le_of_ble_eq_true rfl)⟩ ⟨(Nat.le_of_ble_eq_true rfl), (Nat.le_of_ble_eq_true rfl)⟩ ?_
        refine jg_icmp_ge (tgt := 57) (pc := 27) X d_5_isWordHere_27 (by decide) rv3 (jSlen_rng _) h (fun c3 h => ?_) (fun c3 h => ?_)
        · have c3 : (jSlen v1) ≤ v3 := c3
          refine jg_iload_n (pc := 57) X d_5_isWordHere_57 2 rfl ?_
          refine jg_aload_n (pc := 58) X d_5_isWordHere_58 0 rfl ?_
          refine jgf_5_2 (pc := 59) X (jl_1_5 hn) kw_45 d_5_isWordHere_59 ?_
          refine jg_icmp_ge (tgt := 87) (pc := 62) X d_5_isWordHere_62 (by decide) rv2 (hw.1 _ _) h (fun c4 h => ?_) (fun c4 h => ?_)
          · have c4 : (C 1 2) ≤ v2 := c4
            refine jg_iconst (pc := 87) X d_5_isWordHere_87 ?_
            refine jg_goto (tgt := 92) (pc := 88) X d_5_isWordHere_88 (by decide) ?_
            exact jg_ireturn (pc := 92) X hAe hlocks hr d_5_isWordHere_92 ⟨(Nat.le_of_ble_eq_true rfl), (Nat.le_of_ble_eq_true rfl)⟩ rfl (⟨by decide, by decide⟩ : jRng 1) hw ⟨rfl, h⟩
          · have c4 : ¬ ((C 1 2) ≤ v2) := c4
            refine jg_aload_n (pc := 65) X d_5_isWordHere_65 0 rfl ?_
            refine jgf_5_0 (pc := 66) X (jl_1_5 hn) kw_42 d_5_isWordHere_66 ?_
            refine jg_iload_n (pc := 69) X d_5_isWordHere_69 2 rfl ?_
            obtain ⟨b5, b6, h⟩ := h
            refine jg_iaload (len := 400) (pc := 70) X d_5_isWordHere_70 (jl_2_1400 hn) (fun _ => rfl) (by decide) b5 b6 ?_
            refine jg_bipush (pc := 71) X d_5_isWordHere_71 rfl ?_
            refine jg_icmp_lt (tgt := 87) (pc := 73) X d_5_isWordHere_73 (by decide) (hw.1 _ _) (⟨by decide, by decide⟩ : jRng 97) h (fun c7 h => ?_) (fun c7 h => ?_)
            · have c7 : (C 2 v2) < 97 := c7
              refine jg_iconst (pc := 87) X d_5_isWordHere_87 ?_
              refine jg_goto (tgt := 92) (pc := 88) X d_5_isWordHere_88 (by decide) ?_
              exact jg_ireturn (pc := 92) X hAe hlocks hr d_5_isWordHere_92 ⟨(Nat.le_of_ble_eq_true rfl), (Nat.le_of_ble_eq_true rfl)⟩ rfl (⟨by decide, by decide⟩ : jRng 1) hw ⟨rfl, h⟩
            · have c7 : ¬ ((C 2 v2) < 97) := c7
              refine jg_aload_n (pc := 76) X d_5_isWordHere_76 0 rfl ?_
              refine jgf_5_0 (pc := 77) X (jl_1_5 hn) kw_42 d_5_isWordHere_77 ?_
              refine jg_iload_n (pc := 80) X d_5_isWordHere_80 2 rfl ?_
              have b8 : 0 ≤ v2 := by (have z0 : jRng v2 := rv2; have z1 : jRng (C 1 2) := (hw.1 _ _); unfold jRng at z0 z1; omega)
              have b9 : v2 < 400 := by (have z0 : jRng v2 := rv2; have z1 : jRng (C 1 2) := (hw.1 _ _); unfold jRng at z0 z1; omega)
              refine jg_iaload (len := 400) (pc := 81) X d_5_isWordHere_81 (jl_2_1400 hn) (fun _ => rfl) (by decide) b8 b9 ?_
              refine jg_bipush (pc := 82) X d_5_isWordHere_82 rfl ?_
              refine jg_icmp_le (tgt := 91) (pc := 84) X d_5_isWordHere_84 (by decide) (hw.1 _ _) (⟨by decide, by decide⟩ : jRng 122) h (fun c10 h => ?_) (fun c10 h => ?_)
              · have c10 : (C 2 v2) ≤ 122 := c10
                refine jg_iconst (pc := 91) X d_5_isWordHere_91 ?_
                exact jg_ireturn (pc := 92) X hAe hlocks hr d_5_isWordHere_92 ⟨(Nat.le_of_ble_eq_true rfl), (Nat.le_of_ble_eq_true rfl)⟩ rfl (⟨by decide, by decide⟩ : jRng 0) hw ⟨rfl, h⟩
              · have c10 : ¬ ((C 2 v2) ≤ 122) := c10
                refine jg_iconst (pc := 87) X d_5_isWordHere_87 ?_
                refine jg_goto (tgt := 92) (pc := 88) X d_5_isWordHere_88 (by decide) ?_
                exact jg_ireturn (pc := 92) X hAe hlocks hr d_5_isWordHere_92 ⟨(Nat.le_of_ble_eq_true rfl), (Nat.le_of_ble_eq_true rfl)⟩ rfl (⟨by decide, by decide⟩ : jRng 1) hw ⟨rfl, h⟩
        · have c3 : ¬ ((jSlen v1) ≤ v3) := c3
          refine jg_aload_n (pc := 30) X d_5_isWordHere_30 0 rfl ?_
          refine jgf_5_0 (pc := 31) X (jl_1_5 hn) kw_42 d_5_isWordHere_31 ?_
          refine jg_aload_n (pc := 34) X d_5_isWordHere_34 0 rfl ?_
          refine jgf_5_3 (pc := 35) X (jl_1_5 hn) kw_46 d_5_isWordHere_35 ?_
          refine jg_iload_n (pc := 38) X d_5_isWordHere_38 3 rfl ?_
          refine jg_iadd (pc := 39) X d_5_isWordHere_39 ?_
          obtain ⟨b11, b12, h⟩ := h
          refine jg_iaload (len := 400) (pc := 40) X d_5_isWordHere_40 (jl_2_1400 hn) (fun _ => rfl) (by decide) b11 b12 ?_
          refine jg_sload_n (pc := 41) X d_5_isWordHere_41 1 rfl ?_
          refine jg_iload_n (pc := 42) X d_5_isWordHere_42 3 rfl ?_
          obtain ⟨b13, b14, h⟩ := h
          refine jg_strchar (pc := 43) X qv1 rv3 b13 b14 kw_511 d_5_isWordHere_43 hw (Nat.le_of_ble_eq_true rfl) ⟨(Nat.le_of_ble_eq_true rfl), (Nat.le_of_ble_eq_true rfl)⟩ ⟨(Nat.le_of_ble_eq_true rfl), (Nat.le_of_ble_eq_true rfl)⟩ ?_
          refine jg_icmp_eq (tgt := 51) (pc := 46) X d_5_isWordHere_46 (by decide) (hw.1 _ _) (jSch_rng _ _) h (fun c15 h => ?_) (fun c15 h => ?_)
          · have c15 : (C 2 ((C 1 3) + v3)) = (jSch v1 v3) := c15
            refine jg_iinc (pc := 51) X [(3, jI (v3 + 1)), (0, jr Z 1), (1, Value.ref (jsK Z v1)), (2, jI v2)] d_5_isWordHere_51 3 rfl (by decide) rfl ?_
            refine jg_goto (tgt := 22) (pc := 54) X d_5_isWordHere_54 (by decide) ?_
            have r16 : jRng (v3 + 1) := by (unfold jRng; exact ⟨by (have z0 : jRng v3 := rv3; have z1 : jRng (jSlen v1) := (jSlen_rng _); unfold jRng at z0 z1; omega), by (have z0 : jRng v3 := rv3; have z1 : jRng (jSlen v1) := (jSlen_rng _); unfold jRng at z0 z1; omega)⟩)
            refine jg_sub [1, 2, 3, 0] rfl ?_
            exact ih22 _ r16 h
          · have c15 : ¬ ((C 2 ((C 1 3) + v3)) = (jSch v1 v3)) := c15
            refine jg_iconst (pc := 49) X d_5_isWordHere_49 ?_
            exact jg_ireturn (pc := 50) X hAe hlocks hr d_5_isWordHere_50 ⟨(Nat.le_of_ble_eq_true rfl), (Nat.le_of_ble_eq_true rfl)⟩ rfl (⟨by decide, by decide⟩ : jRng 0) hw ⟨rfl, h⟩
    obtain ⟨N, h⟩ := h
    refine jg_sub [2, 3, 1, 0] rfl ?_
    exact jl22 _ r1 N _ (⟨by decide, by decide⟩ : jRng 0) h
  · have c2 : ¬ (((C 1 3) + (jSlen v1)) ≤ (C 1 2)) := c2
    refine jg_iconst (pc := 18) X d_5_isWordHere_18 ?_
    exact jg_ireturn (pc := 19) X hAe hlocks hr d_5_isWordHere_19 ⟨(Nat.le_of_ble_eq_true rfl), (Nat.le_of_ble_eq_true rfl)⟩ rfl (⟨by decide, by decide⟩ : jRng 0) hw0 ⟨rfl, h⟩
set_option maxHeartbeats 4000000 in
set_option maxRecDepth 100000 in
theorem m_5_takeWord {l : Launch} {Z : jE} {n : Nat} {C : jC} {v1 : Nat} {post : Int → jC → Prop} (qv1 : v1 < 11) (hw0 : jWF n C) (h : wp_5_takeWord v1 C post) : jCi l y_5_takeWord prog_7_method_15_code 2 (.boolean) q_5_takeWord Z n C [jr Z 1, Value.ref (jsK Z v1)] post := by
  have hn := hw0.2.2.1
  unfold wp_5_takeWord at h
  refine jCi_of (lv0 := [(0, jr Z 1), (1, Value.ref (jsK Z v1))]) (by decide) (Nat.le_of_ble_eq_true rfl) rfl ?_
  intro p e s m args below meth c A sz X hAe hr hlocks
  refine jg_aload_n (pc := 0) X d_5_takeWord_0 0 rfl ?_
  refine jg_callVv (pc := 1) X (m_5_skipBlanks hw0 h) jM_5_skipBlanks kw_482 (jl_1_5 hn) rfl rfl rfl rfl rfl (Nat.le_of_ble_eq_true rfl) d_5_takeWord_1 ⟨(Nat.le_of_ble_eq_true rfl), (Nat.le_of_ble_eq_true rfl)⟩ ⟨(Nat.le_of_ble_eq_true rfl), (Nat.le_of_ble_eq_true rfl)⟩ (fun C2 w4 h => ?_)
  refine jg_aload_n (pc := 4) X d_5_takeWord_4 0 rfl ?_
  refine jg_sload_n (pc := 5) X d_5_takeWord_5 1 rfl ?_
  refine jg_pcallVi (pc := 6) X (m_5_isWordHere qv1 w4 h) jM_5_isWordHere kw_497 (jl_1_5 hn) rfl rfl rfl rfl rfl (Nat.le_of_ble_eq_true rfl) d_5_takeWord_6 ⟨(Nat.le_of_ble_eq_true rfl), (Nat.le_of_ble_eq_true rfl)⟩ ⟨(Nat.le_of_ble_eq_true rfl), (Nat.le_of_ble_eq_true rfl)⟩ (fun x5 r7 h => ?_)
  refine jg_if_ne (tgt := 14) (pc := 9) X d_5_takeWord_9 (by decide) r7 h (fun c9 h => ?_) (fun c9 h => ?_)
  · refine jg_iconst (pc := 12) X d_5_takeWord_12 ?_
    exact jg_ireturn (pc := 13) X hAe hlocks hr d_5_takeWord_13 ⟨(Nat.le_of_ble_eq_true rfl), (Nat.le_of_ble_eq_true rfl)⟩ rfl (⟨by decide, by decide⟩ : jRng 0) w4 h
  · refine jg_aload_n (pc := 14) X d_5_takeWord_14 0 rfl ?_
    refine jg_dup (pc := 15) X d_5_takeWord_15 rfl ?_
    refine jgf_5_3 (pc := 16) X (jl_1_5 hn) kw_46 d_5_takeWord_16 ?_
    refine jg_sload_n (pc := 19) X d_5_takeWord_19 1 rfl ?_
    refine jg_strlen (pc := 20) X qv1 kw_501 d_5_takeWord_20 w4 (Nat.le_of_ble_eq_true rfl) ⟨(Nat.le_of_ble_eq_true rfl), (Nat.le_of_ble_eq_true rfl)⟩ ⟨(Nat.le_of_ble_eq_true rfl), (Nat.le_of_ble_eq_true rfl)⟩ ?_
    refine jg_iadd (pc := 23) X d_5_takeWord_23 ?_
    obtain ⟨r10, h⟩ := h
    refine jgp_5_3 (pc := 24) X (jl_1_5 hn) kw_46 d_5_takeWord_24 ?_
    have w11 := jWF.u (k := 3) (v := ((C2 1 3) + (jSlen v1))) w4 (jl_1_5 hn) (by decide) r10
    refine jg_iconst (pc := 27) X d_5_takeWord_27 ?_
    exact jg_ireturn (pc := 28) X hAe hlocks hr d_5_takeWord_28 ⟨(Nat.le_of_ble_eq_true rfl), (Nat.le_of_ble_eq_true rfl)⟩ rfl (⟨by decide, by decide⟩ : jRng 1) w11 h
set_option maxHeartbeats 4000000 in
set_option maxRecDepth 100000 in
theorem m_5_failHere {l : Launch} {Z : jE} {n : Nat} {C : jC}  {post : Int → jC → Prop}  (hw0 : jWF n C) (h : wp_5_failHere C post) : jCi l y_5_failHere prog_7_method_7_code 1 (.boolean) q_5_failHere Z n C [jr Z 1] post := by
  have hn := hw0.2.2.1
  unfold wp_5_failHere at h
  refine jCi_of (lv0 := [(0, jr Z 1)]) (by decide) (Nat.le_of_ble_eq_true rfl) rfl ?_
  intro p e s m args below meth c A sz X hAe hr hlocks
  refine jg_aload_n (pc := 0) X d_5_failHere_0 0 rfl ?_
  refine jg_aload_n (pc := 1) X d_5_failHere_1 0 rfl ?_
  refine jgf_5_3 (pc := 2) X (jl_1_5 hn) kw_46 d_5_failHere_2 ?_
  refine jgp_5_4 (pc := 5) X (jl_1_5 hn) kw_48 d_5_failHere_5 ?_
  have w1 := jWF.u (k := 4) (v := (C 1 3)) hw0 (jl_1_5 hn) (by decide) (hw0.1 _ _)
  refine jg_iconst (pc := 8) X d_5_failHere_8 ?_
  exact jg_ireturn (pc := 9) X hAe hlocks hr d_5_failHere_9 ⟨(Nat.le_of_ble_eq_true rfl), (Nat.le_of_ble_eq_true rfl)⟩ rfl (⟨by decide, by decide⟩ : jRng 0) w1 h
set_option maxHeartbeats 4000000 in
set_option maxRecDepth 100000 in
theorem m_9_readKinds {l : Launch} {Z : jE} {n : Nat} {C : jC}  {post : Int → jC → Prop}  (hw0 : jWF n C) (h : wp_9_readKinds C post) : jCi l y_9_readKinds prog_11_method_10_code 3 (.boolean) q_9_readKinds Z n C [jr Z 3, jr Z 1] post := by
  have hn := hw0.2.2.1
  unfold wp_9_readKinds at h
  refine jCi_of (lv0 := [(0, jr Z 3), (1, jr Z 1)]) (by decide) (Nat.le_of_ble_eq_true rfl) rfl ?_
  intro p e s m args below meth c A sz X hAe hr hlocks
  refine jg_iconst (pc := 0) X d_9_readKinds_0 ?_
  refine jg_istore_n (pc := 1) X [(2, jI 0), (0, jr Z 3), (1, jr Z 1)] d_9_readKinds_1 (by decide) rfl ?_
  have jl2 : ∀  (N : Nat) (v2 : Int) (C : jC) (rv2 : jRng v2) (hw : jWF n C), jI2 (wp_9_readKinds_2  post) N v2 C → jG p l e q_9_readKinds s m args below meth c 3 Z A (jws Z n C) 0 0 (MQ below (jQi Z n sz post) args s q_9_readKinds.cells q_9_readKinds.slots (jA Z n sz)) 2 [(0, jr Z 3), (1, jr Z 1), (2, jI v2)] [] := by
    intro   N
    have hn := hw0.2.2.1
    induction N with
    | zero => intro v2 C rv2 hw h; exact h.elim
    | succ N ih2 =>
      intro v2 C rv2 hw h
      have h : wp_9_readKinds_2  post (jI2 (wp_9_readKinds_2  post) N) v2 C := h
      generalize jI2 (wp_9_readKinds_2  post) N = k2 at h ih2
      unfold wp_9_readKinds_2 at h
      refine jg_iload_n (pc := 2) X d_9_readKinds_2 2 rfl ?_
      refine jg_iconst (pc := 3) X d_9_readKinds_3 ?_
      refine jg_icmp_ge (tgt := 75) (pc := 4) X d_9_readKinds_4 (by decide) rv2 (⟨by decide, by decide⟩ : jRng 5) h (fun c1 h => ?_) (fun c1 h => ?_)
      · refine jg_iconst (pc := 75) X d_9_readKinds_75 ?_
        exact jg_ireturn (pc := 76) X hAe hlocks hr d_9_readKinds_76 ⟨(Nat.le_of_ble_eq_true rfl), (Nat.le_of_ble_eq_true rfl)⟩ rfl (⟨by decide, by decide⟩ : jRng 1) hw h
      · refine jg_aload_n (pc := 7) X d_9_readKinds_7 1 rfl ?_
        refine jg_ldcS (pc := 8) "number" 2 X (by decide +kernel) d_9_readKinds_8 ?_
        refine jg_callVi (pc := 10) X (m_5_takeWord (by decide) hw h) jM_5_takeWord kw_493 (jl_1_5 hn) rfl rfl rfl rfl rfl (Nat.le_of_ble_eq_true rfl) d_9_readKinds_10 ⟨(Nat.le_of_ble_eq_true rfl), (Nat.le_of_ble_eq_true rfl)⟩ ⟨(Nat.le_of_ble_eq_true rfl), (Nat.le_of_ble_eq_true rfl)⟩ (fun x2 C3 r4 w5 h => ?_)
        refine jg_if_eq (tgt := 26) (pc := 13) X d_9_readKinds_13 (by decide) r4 h (fun c6 h => ?_) (fun c6 h => ?_)
        · refine jg_aload_n (pc := 26) X d_9_readKinds_26 1 rfl ?_
          refine jg_ldcS (pc := 27) "word" 3 X (by decide +kernel) d_9_readKinds_27 ?_
          refine jg_callVi (pc := 29) X (m_5_takeWord (by decide) w5 h) jM_5_takeWord kw_493 (jl_1_5 hn) rfl rfl rfl rfl rfl (Nat.le_of_ble_eq_true rfl) d_9_readKinds_29 ⟨(Nat.le_of_ble_eq_true rfl), (Nat.le_of_ble_eq_true rfl)⟩ ⟨(Nat.le_of_ble_eq_true rfl), (Nat.le_of_ble_eq_true rfl)⟩ (fun x7 C8 r9 w10 h => ?_)
          refine jg_if_eq (tgt := 45) (pc := 32) X d_9_readKinds_32 (by decide) r9 h (fun c11 h => ?_) (fun c11 h => ?_)
          · refine jg_iload_n (pc := 45) X d_9_readKinds_45 2 rfl ?_
            refine jg_if_gt (tgt := 56) (pc := 46) X d_9_readKinds_46 (by decide) rv2 h (fun c12 h => ?_) (fun c12 h => ?_)
            · refine jg_iconst (pc := 56) X d_9_readKinds_56 ?_
              refine jg_goto (tgt := 61) (pc := 57) X d_9_readKinds_57 (by decide) ?_
              exact jg_ireturn (pc := 61) X hAe hlocks hr d_9_readKinds_61 ⟨(Nat.le_of_ble_eq_true rfl), (Nat.le_of_ble_eq_true rfl)⟩ rfl (⟨by decide, by decide⟩ : jRng 1) w10 h
            · refine jg_aload_n (pc := 49) X d_9_readKinds_49 1 rfl ?_
              refine jg_callVi (pc := 50) X (m_5_failHere w10 h) jM_5_failHere kw_555 (jl_1_5 hn) rfl rfl rfl rfl rfl (Nat.le_of_ble_eq_true rfl) d_9_readKinds_50 ⟨(Nat.le_of_ble_eq_true rfl), (Nat.le_of_ble_eq_true rfl)⟩ ⟨(Nat.le_of_ble_eq_true rfl), (Nat.le_of_ble_eq_true rfl)⟩ (fun x13 C14 r15 w16 h => ?_)
              refine jg_if_eq (tgt := 60) (pc := 53) X d_9_readKinds_53 (by decide) r15 h (fun c17 h => ?_) (fun c17 h => ?_)
              · refine jg_iconst (pc := 60) X d_9_readKinds_60 ?_
                exact jg_ireturn (pc := 61) X hAe hlocks hr d_9_readKinds_61 ⟨(Nat.le_of_ble_eq_true rfl), (Nat.le_of_ble_eq_true rfl)⟩ rfl (⟨by decide, by decide⟩ : jRng 0) w16 h
              · refine jg_iconst (pc := 56) X d_9_readKinds_56 ?_
                refine jg_goto (tgt := 61) (pc := 57) X d_9_readKinds_57 (by decide) ?_
                exact jg_ireturn (pc := 61) X hAe hlocks hr d_9_readKinds_61 ⟨(Nat.le_of_ble_eq_true rfl), (Nat.le_of_ble_eq_true rfl)⟩ rfl (⟨by decide, by decide⟩ : jRng 1) w16 h
          · refine jg_aload_n (pc := 35) X d_9_readKinds_35 0 rfl ?_
            refine jgf_9_1 (pc := 36) X (jl_3_9 hn) kw_126 d_9_readKinds_36 ?_
            refine jg_iload_n (pc := 39) X d_9_readKinds_39 2 rfl ?_
            refine jg_iconst (pc := 40) X d_9_readKinds_40 ?_
            obtain ⟨b18, h⟩ := h
            have b19 : v2 < 5 := by (have z0 : jRng v2 := rv2; unfold jRng at z0; omega)
            refine jg_iastore (len := 5) (pc := 41) X d_9_readKinds_41 (jl_4_1005 hn) (fun _ => rfl) (by decide) b18 b19 ?_
            have w20 := jWF.u (k := v2) (v := 1) w10 (jl_4_1005 hn) (by decide) (⟨by decide, by decide⟩ : jRng 1)
            refine jg_goto (tgt := 62) (pc := 42) X d_9_readKinds_42 (by decide) ?_
            refine jg_aload_n (pc := 62) X d_9_readKinds_62 0 rfl ?_
            refine jg_iload_n (pc := 63) X d_9_readKinds_63 2 rfl ?_
            refine jg_iconst (pc := 64) X d_9_readKinds_64 ?_
            refine jg_iadd (pc := 65) X d_9_readKinds_65 ?_
            have r21 : jRng (v2 + 1) := by (unfold jRng; exact ⟨by (have z0 : jRng v2 := rv2; unfold jRng at z0; omega), by (have z0 : jRng v2 := rv2; unfold jRng at z0; omega)⟩)
            refine jgp_9_0 (pc := 66) X (jl_3_9 hn) kw_125 d_9_readKinds_66 ?_
            have w22 := jWF.u (k := 0) (v := (v2 + 1)) w20 (jl_3_9 hn) (by decide) r21
            refine jg_iinc (pc := 69) X [(2, jI (v2 + 1)), (0, jr Z 3), (1, jr Z 1)] d_9_readKinds_69 2 rfl (by decide) rfl ?_
            refine jg_goto (tgt := 2) (pc := 72) X d_9_readKinds_72 (by decide) ?_
            refine jg_sub [1, 2, 0] rfl ?_
            exact ih2 _ _ r21 w22 h
        · refine jg_aload_n (pc := 16) X d_9_readKinds_16 0 rfl ?_
          refine jgf_9_1 (pc := 17) X (jl_3_9 hn) kw_126 d_9_readKinds_17 ?_
          refine jg_iload_n (pc := 20) X d_9_readKinds_20 2 rfl ?_
          refine jg_iconst (pc := 21) X d_9_readKinds_21 ?_
          obtain ⟨b23, h⟩ := h
          have b24 : v2 < 5 := by (have z0 : jRng v2 := rv2; unfold jRng at z0; omega)
          refine jg_iastore (len := 5) (pc := 22) X d_9_readKinds_22 (jl_4_1005 hn) (fun _ => rfl) (by decide) b23 b24 ?_
          have w25 := jWF.u (k := v2) (v := 0) w5 (jl_4_1005 hn) (by decide) (⟨by decide, by decide⟩ : jRng 0)
          refine jg_goto (tgt := 62) (pc := 23) X d_9_readKinds_23 (by decide) ?_
          refine jg_aload_n (pc := 62) X d_9_readKinds_62 0 rfl ?_
          refine jg_iload_n (pc := 63) X d_9_readKinds_63 2 rfl ?_
          refine jg_iconst (pc := 64) X d_9_readKinds_64 ?_
          refine jg_iadd (pc := 65) X d_9_readKinds_65 ?_
          have r26 : jRng (v2 + 1) := by (unfold jRng; exact ⟨by (have z0 : jRng v2 := rv2; unfold jRng at z0; omega), by (have z0 : jRng v2 := rv2; unfold jRng at z0; omega)⟩)
          refine jgp_9_0 (pc := 66) X (jl_3_9 hn) kw_125 d_9_readKinds_66 ?_
          have w27 := jWF.u (k := 0) (v := (v2 + 1)) w25 (jl_3_9 hn) (by decide) r26
          refine jg_iinc (pc := 69) X [(2, jI (v2 + 1)), (0, jr Z 3), (1, jr Z 1)] d_9_readKinds_69 2 rfl (by decide) rfl ?_
          refine jg_goto (tgt := 2) (pc := 72) X d_9_readKinds_72 (by decide) ?_
          refine jg_sub [1, 2, 0] rfl ?_
          exact ih2 _ _ r26 w27 h
  obtain ⟨N, h⟩ := h
  refine jg_sub [1, 2, 0] rfl ?_
  exact jl2   N _ _ (⟨by decide, by decide⟩ : jRng 0) hw0 h
set_option maxHeartbeats 4000000 in
set_option maxRecDepth 100000 in
theorem m_5_failAt {l : Launch} {Z : jE} {n : Nat} {C : jC} {v1 : Int} {post : Int → jC → Prop} (rv1 : jRng v1) (hw0 : jWF n C) (h : wp_5_failAt v1 C post) : jCi l y_5_failAt prog_7_method_6_code 2 (.boolean) q_5_failAt Z n C [jr Z 1, jI v1] post := by
  have hn := hw0.2.2.1
  unfold wp_5_failAt at h
  refine jCi_of (lv0 := [(0, jr Z 1), (1, jI v1)]) (by decide) (Nat.le_of_ble_eq_true rfl) rfl ?_
  intro p e s m args below meth c A sz X hAe hr hlocks
  refine jg_aload_n (pc := 0) X d_5_failAt_0 0 rfl ?_
  refine jg_iload_n (pc := 1) X d_5_failAt_1 1 rfl ?_
  refine jgp_5_4 (pc := 2) X (jl_1_5 hn) kw_48 d_5_failAt_2 ?_
  have w1 := jWF.u (k := 4) (v := v1) hw0 (jl_1_5 hn) (by decide) rv1
  refine jg_iconst (pc := 5) X d_5_failAt_5 ?_
  exact jg_ireturn (pc := 6) X hAe hlocks hr d_5_failAt_6 ⟨(Nat.le_of_ble_eq_true rfl), (Nat.le_of_ble_eq_true rfl)⟩ rfl (⟨by decide, by decide⟩ : jRng 0) w1 h
set_option maxHeartbeats 4000000 in
set_option maxRecDepth 100000 in
theorem m_9_beginRow {l : Launch} {Z : jE} {n : Nat} {C : jC}  {post : jC → Prop}  (hw0 : jWF n C) (h : wp_9_beginRow C post) : jCv l y_9_beginRow prog_11_method_6_code 1 q_9_beginRow Z n C [jr Z 3] post := by
  have hn := hw0.2.2.1
  unfold wp_9_beginRow at h
  refine jCv_of (lv0 := [(0, jr Z 3)]) (by decide) (Nat.le_of_ble_eq_true rfl) rfl ?_
  intro p e s m args below meth c A sz X hAe hr hlocks
  refine jg_aload_n (pc := 0) X d_9_beginRow_0 0 rfl ?_
  refine jgf_9_2 (pc := 1) X (jl_3_9 hn) kw_128 d_9_beginRow_1 ?_
  refine jg_bipush (pc := 4) X d_9_beginRow_4 rfl ?_
  refine jg_icmp_ge (tgt := 19) (pc := 6) X d_9_beginRow_6 (by decide) (hw0.1 _ _) (⟨by decide, by decide⟩ : jRng 14) h (fun c1 h => ?_) (fun c1 h => ?_)
  · have c1 : 14 ≤ (C 3 2) := c1
    exact jg_return (pc := 19) X hAe hlocks hr d_9_beginRow_19 ⟨(Nat.le_of_ble_eq_true rfl), (Nat.le_of_ble_eq_true rfl)⟩ hw0 h
  · have c1 : ¬ (14 ≤ (C 3 2)) := c1
    refine jg_aload_n (pc := 9) X d_9_beginRow_9 0 rfl ?_
    refine jgf_9_3 (pc := 10) X (jl_3_9 hn) kw_131 d_9_beginRow_10 ?_
    refine jg_aload_n (pc := 13) X d_9_beginRow_13 0 rfl ?_
    refine jgf_9_2 (pc := 14) X (jl_3_9 hn) kw_128 d_9_beginRow_14 ?_
    refine jg_iconst (pc := 17) X d_9_beginRow_17 ?_
    obtain ⟨b2, h⟩ := h
    have b3 : (C 3 2) < 14 := by (have z0 : jRng (C 3 2) := (hw0.1 _ _); unfold jRng at z0; omega)
    refine jg_iastore (len := 14) (pc := 18) X d_9_beginRow_18 (jl_5_1014 hn) (fun _ => rfl) (by decide) b2 b3 ?_
    have w4 := jWF.u (k := (C 3 2)) (v := 0) hw0 (jl_5_1014 hn) (by decide) (⟨by decide, by decide⟩ : jRng 0)
    exact jg_return (pc := 19) X hAe hlocks hr d_9_beginRow_19 ⟨(Nat.le_of_ble_eq_true rfl), (Nat.le_of_ble_eq_true rfl)⟩ w4 h
set_option maxHeartbeats 4000000 in
set_option maxRecDepth 100000 in
theorem m_9_kindAsked {l : Launch} {Z : jE} {n : Nat} {C : jC} {v1 : Int} {post : Int → Prop} (rv1 : jRng v1) (hw0 : jWF n C) (h : wp_9_kindAsked v1 C post) : jCi l y_9_kindAsked prog_11_method_5_code 2 (.int) q_9_kindAsked Z n C [jr Z 3, jI v1] (fun x C9 => C9 = C ∧ post x) := by
  have hn := hw0.2.2.1
  unfold wp_9_kindAsked at h
  refine jCi_of (lv0 := [(0, jr Z 3), (1, jI v1)]) (by decide) (Nat.le_of_ble_eq_true rfl) rfl ?_
  intro p e s m args below meth c A sz X hAe hr hlocks
  refine jg_iload_n (pc := 0) X d_9_kindAsked_0 1 rfl ?_
  refine jg_if_lt (tgt := 26) (pc := 1) X d_9_kindAsked_1 (by decide) rv1 h (fun c1 h => ?_) (fun c1 h => ?_)
  · refine jg_iconst (pc := 26) X d_9_kindAsked_26 ?_
    exact jg_ireturn (pc := 27) X hAe hlocks hr d_9_kindAsked_27 ⟨(Nat.le_of_ble_eq_true rfl), (Nat.le_of_ble_eq_true rfl)⟩ rfl (⟨by decide, by decide⟩ : jRng (-1)) hw0 ⟨rfl, h⟩
  · refine jg_iload_n (pc := 4) X d_9_kindAsked_4 1 rfl ?_
    refine jg_aload_n (pc := 5) X d_9_kindAsked_5 0 rfl ?_
    refine jgf_9_0 (pc := 6) X (jl_3_9 hn) kw_125 d_9_kindAsked_6 ?_
    refine jg_icmp_ge (tgt := 26) (pc := 9) X d_9_kindAsked_9 (by decide) rv1 (hw0.1 _ _) h (fun c2 h => ?_) (fun c2 h => ?_)
    · have c2 : (C 3 0) ≤ v1 := c2
      refine jg_iconst (pc := 26) X d_9_kindAsked_26 ?_
      exact jg_ireturn (pc := 27) X hAe hlocks hr d_9_kindAsked_27 ⟨(Nat.le_of_ble_eq_true rfl), (Nat.le_of_ble_eq_true rfl)⟩ rfl (⟨by decide, by decide⟩ : jRng (-1)) hw0 ⟨rfl, h⟩
    · have c2 : ¬ ((C 3 0) ≤ v1) := c2
      refine jg_iload_n (pc := 12) X d_9_kindAsked_12 1 rfl ?_
      refine jg_iconst (pc := 13) X d_9_kindAsked_13 ?_
      refine jg_icmp_ge (tgt := 26) (pc := 14) X d_9_kindAsked_14 (by decide) rv1 (⟨by decide, by decide⟩ : jRng 5) h (fun c3 h => ?_) (fun c3 h => ?_)
      · refine jg_iconst (pc := 26) X d_9_kindAsked_26 ?_
        exact jg_ireturn (pc := 27) X hAe hlocks hr d_9_kindAsked_27 ⟨(Nat.le_of_ble_eq_true rfl), (Nat.le_of_ble_eq_true rfl)⟩ rfl (⟨by decide, by decide⟩ : jRng (-1)) hw0 ⟨rfl, h⟩
      · refine jg_aload_n (pc := 17) X d_9_kindAsked_17 0 rfl ?_
        refine jgf_9_1 (pc := 18) X (jl_3_9 hn) kw_126 d_9_kindAsked_18 ?_
        refine jg_iload_n (pc := 21) X d_9_kindAsked_21 1 rfl ?_
        have b4 : 0 ≤ v1 := by (have z0 : jRng v1 := rv1; have z1 : jRng (C 3 0) := (hw0.1 _ _); unfold jRng at z0 z1; omega)
        have b5 : v1 < 5 := by (have z0 : jRng v1 := rv1; have z1 : jRng (C 3 0) := (hw0.1 _ _); unfold jRng at z0 z1; omega)
        refine jg_iaload (len := 5) (pc := 22) X d_9_kindAsked_22 (jl_4_1005 hn) (fun _ => rfl) (by decide) b4 b5 ?_
        refine jg_goto (tgt := 27) (pc := 23) X d_9_kindAsked_23 (by decide) ?_
        exact jg_ireturn (pc := 27) X hAe hlocks hr d_9_kindAsked_27 ⟨(Nat.le_of_ble_eq_true rfl), (Nat.le_of_ble_eq_true rfl)⟩ rfl (hw0.1 _ _) hw0 ⟨rfl, h⟩
set_option maxHeartbeats 4000000 in
set_option maxRecDepth 100000 in
theorem m_5_byteAt {l : Launch} {Z : jE} {n : Nat} {C : jC} {v1 : Int} {post : Int → Prop} (rv1 : jRng v1) (hw0 : jWF n C) (h : wp_5_byteAt v1 C post) : jCi l y_5_byteAt prog_7_method_8_code 2 (.int) q_5_byteAt Z n C [jr Z 1, jI v1] (fun x C9 => C9 = C ∧ post x) := by
  have hn := hw0.2.2.1
  unfold wp_5_byteAt at h
  refine jCi_of (lv0 := [(0, jr Z 1), (1, jI v1)]) (by decide) (Nat.le_of_ble_eq_true rfl) rfl ?_
  intro p e s m args below meth c A sz X hAe hr hlocks
  refine jg_iload_n (pc := 0) X d_5_byteAt_0 1 rfl ?_
  refine jg_if_lt (tgt := 21) (pc := 1) X d_5_byteAt_1 (by decide) rv1 h (fun c1 h => ?_) (fun c1 h => ?_)
  · refine jg_iconst (pc := 21) X d_5_byteAt_21 ?_
    exact jg_ireturn (pc := 22) X hAe hlocks hr d_5_byteAt_22 ⟨(Nat.le_of_ble_eq_true rfl), (Nat.le_of_ble_eq_true rfl)⟩ rfl (⟨by decide, by decide⟩ : jRng (-1)) hw0 ⟨rfl, h⟩
  · refine jg_iload_n (pc := 4) X d_5_byteAt_4 1 rfl ?_
    refine jg_aload_n (pc := 5) X d_5_byteAt_5 0 rfl ?_
    refine jgf_5_2 (pc := 6) X (jl_1_5 hn) kw_45 d_5_byteAt_6 ?_
    refine jg_icmp_ge (tgt := 21) (pc := 9) X d_5_byteAt_9 (by decide) rv1 (hw0.1 _ _) h (fun c2 h => ?_) (fun c2 h => ?_)
    · have c2 : (C 1 2) ≤ v1 := c2
      refine jg_iconst (pc := 21) X d_5_byteAt_21 ?_
      exact jg_ireturn (pc := 22) X hAe hlocks hr d_5_byteAt_22 ⟨(Nat.le_of_ble_eq_true rfl), (Nat.le_of_ble_eq_true rfl)⟩ rfl (⟨by decide, by decide⟩ : jRng (-1)) hw0 ⟨rfl, h⟩
    · have c2 : ¬ ((C 1 2) ≤ v1) := c2
      refine jg_aload_n (pc := 12) X d_5_byteAt_12 0 rfl ?_
      refine jgf_5_0 (pc := 13) X (jl_1_5 hn) kw_42 d_5_byteAt_13 ?_
      refine jg_iload_n (pc := 16) X d_5_byteAt_16 1 rfl ?_
      obtain ⟨b4, h⟩ := h
      have b3 : 0 ≤ v1 := by (have z0 : jRng v1 := rv1; have z1 : jRng (C 1 2) := (hw0.1 _ _); unfold jRng at z0 z1; omega)
      refine jg_iaload (len := 400) (pc := 17) X d_5_byteAt_17 (jl_2_1400 hn) (fun _ => rfl) (by decide) b3 b4 ?_
      refine jg_goto (tgt := 22) (pc := 18) X d_5_byteAt_18 (by decide) ?_
      exact jg_ireturn (pc := 22) X hAe hlocks hr d_5_byteAt_22 ⟨(Nat.le_of_ble_eq_true rfl), (Nat.le_of_ble_eq_true rfl)⟩ rfl (hw0.1 _ _) hw0 ⟨rfl, h⟩
set_option maxHeartbeats 4000000 in
set_option maxRecDepth 100000 in
theorem m_5_takeSign {l : Launch} {Z : jE} {n : Nat} {C : jC} {v1 : Int} {post : Int → jC → Prop} (rv1 : jRng v1) (hw0 : jWF n C) (h : wp_5_takeSign v1 C post) : jCi l y_5_takeSign prog_7_method_13_code 2 (.boolean) q_5_takeSign Z n C [jr Z 1, jI v1] post := by
  have hn := hw0.2.2.1
  unfold wp_5_takeSign at h
  refine jCi_of (lv0 := [(0, jr Z 1), (1, jI v1)]) (by decide) (Nat.le_of_ble_eq_true rfl) rfl ?_
  intro p e s m args below meth c A sz X hAe hr hlocks
  refine jg_aload_n (pc := 0) X d_5_takeSign_0 0 rfl ?_
  refine jg_callVv (pc := 1) X (m_5_skipBlanks hw0 h) jM_5_skipBlanks kw_482 (jl_1_5 hn) rfl rfl rfl rfl rfl (Nat.le_of_ble_eq_true rfl) d_5_takeSign_1 ⟨(Nat.le_of_ble_eq_true rfl), (Nat.le_of_ble_eq_true rfl)⟩ ⟨(Nat.le_of_ble_eq_true rfl), (Nat.le_of_ble_eq_true rfl)⟩ (fun C2 w4 h => ?_)
  refine jg_aload_n (pc := 4) X d_5_takeSign_4 0 rfl ?_
  refine jg_aload_n (pc := 5) X d_5_takeSign_5 0 rfl ?_
  refine jgf_5_3 (pc := 6) X (jl_1_5 hn) kw_46 d_5_takeSign_6 ?_
  refine jg_pcallVi (pc := 9) X (m_5_byteAt (w4.1 _ _) w4 h) jM_5_byteAt kw_584 (jl_1_5 hn) rfl rfl rfl rfl rfl (Nat.le_of_ble_eq_true rfl) d_5_takeSign_9 ⟨(Nat.le_of_ble_eq_true rfl), (Nat.le_of_ble_eq_true rfl)⟩ ⟨(Nat.le_of_ble_eq_true rfl), (Nat.le_of_ble_eq_true rfl)⟩ (fun x5 r7 h => ?_)
  refine jg_iload_n (pc := 12) X d_5_takeSign_12 1 rfl ?_
  refine jg_icmp_eq (tgt := 18) (pc := 13) X d_5_takeSign_13 (by decide) r7 rv1 h (fun c9 h => ?_) (fun c9 h => ?_)
  · refine jg_aload_n (pc := 18) X d_5_takeSign_18 0 rfl ?_
    refine jg_dup (pc := 19) X d_5_takeSign_19 rfl ?_
    refine jgf_5_3 (pc := 20) X (jl_1_5 hn) kw_46 d_5_takeSign_20 ?_
    refine jg_iconst (pc := 23) X d_5_takeSign_23 ?_
    refine jg_iadd (pc := 24) X d_5_takeSign_24 ?_
    obtain ⟨r10, h⟩ := h
    refine jgp_5_3 (pc := 25) X (jl_1_5 hn) kw_46 d_5_takeSign_25 ?_
    have w11 := jWF.u (k := 3) (v := ((C2 1 3) + 1)) w4 (jl_1_5 hn) (by decide) r10
    refine jg_iconst (pc := 28) X d_5_takeSign_28 ?_
    exact jg_ireturn (pc := 29) X hAe hlocks hr d_5_takeSign_29 ⟨(Nat.le_of_ble_eq_true rfl), (Nat.le_of_ble_eq_true rfl)⟩ rfl (⟨by decide, by decide⟩ : jRng 1) w11 h
  · refine jg_iconst (pc := 16) X d_5_takeSign_16 ?_
    exact jg_ireturn (pc := 17) X hAe hlocks hr d_5_takeSign_17 ⟨(Nat.le_of_ble_eq_true rfl), (Nat.le_of_ble_eq_true rfl)⟩ rfl (⟨by decide, by decide⟩ : jRng 0) w4 h
set_option maxHeartbeats 4000000 in
set_option maxRecDepth 100000 in
theorem m_5_isDigitAt {l : Launch} {Z : jE} {n : Nat} {C : jC} {v1 : Int} {post : Int → Prop} (rv1 : jRng v1) (hw0 : jWF n C) (h : wp_5_isDigitAt v1 C post) : jCi l y_5_isDigitAt prog_7_method_10_code 2 (.boolean) q_5_isDigitAt Z n C [jr Z 1, jI v1] (fun x C9 => C9 = C ∧ post x) := by
  have hn := hw0.2.2.1
  unfold wp_5_isDigitAt at h
  refine jCi_of (lv0 := [(0, jr Z 1), (1, jI v1)]) (by decide) (Nat.le_of_ble_eq_true rfl) rfl ?_
  intro p e s m args below meth c A sz X hAe hr hlocks
  refine jg_iload_n (pc := 0) X d_5_isDigitAt_0 1 rfl ?_
  refine jg_if_lt (tgt := 38) (pc := 1) X d_5_isDigitAt_1 (by decide) rv1 h (fun c1 h => ?_) (fun c1 h => ?_)
  · refine jg_iconst (pc := 38) X d_5_isDigitAt_38 ?_
    exact jg_ireturn (pc := 39) X hAe hlocks hr d_5_isDigitAt_39 ⟨(Nat.le_of_ble_eq_true rfl), (Nat.le_of_ble_eq_true rfl)⟩ rfl (⟨by decide, by decide⟩ : jRng 0) hw0 ⟨rfl, h⟩
  · refine jg_iload_n (pc := 4) X d_5_isDigitAt_4 1 rfl ?_
    refine jg_aload_n (pc := 5) X d_5_isDigitAt_5 0 rfl ?_
    refine jgf_5_2 (pc := 6) X (jl_1_5 hn) kw_45 d_5_isDigitAt_6 ?_
    refine jg_icmp_ge (tgt := 38) (pc := 9) X d_5_isDigitAt_9 (by decide) rv1 (hw0.1 _ _) h (fun c2 h => ?_) (fun c2 h => ?_)
    · have c2 : (C 1 2) ≤ v1 := c2
      refine jg_iconst (pc := 38) X d_5_isDigitAt_38 ?_
      exact jg_ireturn (pc := 39) X hAe hlocks hr d_5_isDigitAt_39 ⟨(Nat.le_of_ble_eq_true rfl), (Nat.le_of_ble_eq_true rfl)⟩ rfl (⟨by decide, by decide⟩ : jRng 0) hw0 ⟨rfl, h⟩
    · have c2 : ¬ ((C 1 2) ≤ v1) := c2
      refine jg_aload_n (pc := 12) X d_5_isDigitAt_12 0 rfl ?_
      refine jgf_5_0 (pc := 13) X (jl_1_5 hn) kw_42 d_5_isDigitAt_13 ?_
      refine jg_iload_n (pc := 16) X d_5_isDigitAt_16 1 rfl ?_
      obtain ⟨b4, h⟩ := h
      have b3 : 0 ≤ v1 := by (have z0 : jRng v1 := rv1; have z1 : jRng (C 1 2) := (hw0.1 _ _); unfold jRng at z0 z1; omega)
      refine jg_iaload (len := 400) (pc := 17) X d_5_isDigitAt_17 (jl_2_1400 hn) (fun _ => rfl) (by decide) b3 b4 ?_
      refine jg_bipush (pc := 18) X d_5_isDigitAt_18 rfl ?_
      refine jg_icmp_lt (tgt := 38) (pc := 20) X d_5_isDigitAt_20 (by decide) (hw0.1 _ _) (⟨by decide, by decide⟩ : jRng 48) h (fun c5 h => ?_) (fun c5 h => ?_)
      · have c5 : (C 2 v1) < 48 := c5
        refine jg_iconst (pc := 38) X d_5_isDigitAt_38 ?_
        exact jg_ireturn (pc := 39) X hAe hlocks hr d_5_isDigitAt_39 ⟨(Nat.le_of_ble_eq_true rfl), (Nat.le_of_ble_eq_true rfl)⟩ rfl (⟨by decide, by decide⟩ : jRng 0) hw0 ⟨rfl, h⟩
      · have c5 : ¬ ((C 2 v1) < 48) := c5
        refine jg_aload_n (pc := 23) X d_5_isDigitAt_23 0 rfl ?_
        refine jgf_5_0 (pc := 24) X (jl_1_5 hn) kw_42 d_5_isDigitAt_24 ?_
        refine jg_iload_n (pc := 27) X d_5_isDigitAt_27 1 rfl ?_
        have b6 : 0 ≤ v1 := by (have z0 : jRng v1 := rv1; have z1 : jRng (C 1 2) := (hw0.1 _ _); unfold jRng at z0 z1; omega)
        have b7 : v1 < 400 := by (have z0 : jRng v1 := rv1; have z1 : jRng (C 1 2) := (hw0.1 _ _); unfold jRng at z0 z1; omega)
        refine jg_iaload (len := 400) (pc := 28) X d_5_isDigitAt_28 (jl_2_1400 hn) (fun _ => rfl) (by decide) b6 b7 ?_
        refine jg_bipush (pc := 29) X d_5_isDigitAt_29 rfl ?_
        refine jg_icmp_gt (tgt := 38) (pc := 31) X d_5_isDigitAt_31 (by decide) (hw0.1 _ _) (⟨by decide, by decide⟩ : jRng 57) h (fun c8 h => ?_) (fun c8 h => ?_)
        · have c8 : 57 < (C 2 v1) := c8
          refine jg_iconst (pc := 38) X d_5_isDigitAt_38 ?_
          exact jg_ireturn (pc := 39) X hAe hlocks hr d_5_isDigitAt_39 ⟨(Nat.le_of_ble_eq_true rfl), (Nat.le_of_ble_eq_true rfl)⟩ rfl (⟨by decide, by decide⟩ : jRng 0) hw0 ⟨rfl, h⟩
        · have c8 : ¬ (57 < (C 2 v1)) := c8
          refine jg_iconst (pc := 34) X d_5_isDigitAt_34 ?_
          refine jg_goto (tgt := 39) (pc := 35) X d_5_isDigitAt_35 (by decide) ?_
          exact jg_ireturn (pc := 39) X hAe hlocks hr d_5_isDigitAt_39 ⟨(Nat.le_of_ble_eq_true rfl), (Nat.le_of_ble_eq_true rfl)⟩ rfl (⟨by decide, by decide⟩ : jRng 1) hw0 ⟨rfl, h⟩
set_option maxHeartbeats 4000000 in
set_option maxRecDepth 100000 in
theorem m_5_takeNumber {l : Launch} {Z : jE} {n : Nat} {C : jC} {v1 : Int} {post : Int → jC → Prop} (rv1 : jRng v1) (hw0 : jWF n C) (h : wp_5_takeNumber v1 C post) : jCi l y_5_takeNumber prog_7_method_16_code 6 (.boolean) q_5_takeNumber Z n C [jr Z 1, jI v1] post := by
  have hn := hw0.2.2.1
  unfold wp_5_takeNumber at h
  refine jCi_of (lv0 := [(0, jr Z 1), (1, jI v1)]) (by decide) (Nat.le_of_ble_eq_true rfl) rfl ?_
  intro p e s m args below meth c A sz X hAe hr hlocks
  have jb101 : ∀ (v2 : Int) (v3 : Int) (v4 : Int) (v5 : Int) (C : jC) (rv2 : jRng v2) (rv3 : jRng v3) (rv4 : jRng v4) (rv5 : jRng v5) (hw : jWF n C), wp_5_takeNumber_101 v2 v3 v4 v5 C post → jG p l e q_5_takeNumber s m args below meth c 6 Z A (jws Z n C) 0 0 (MQ below (jQi Z n sz post) args s q_5_takeNumber.cells q_5_takeNumber.slots (jA Z n sz)) 101 [(0, jr Z 1), (2, jI v2), (3, jI v3), (4, jI v4), (5, jI v5)] [] := by
    intro v2 v3 v4 v5 C rv2 rv3 rv4 rv5 hw h
    unfold wp_5_takeNumber_101 at h
    refine jg_iload (pc := 101) X d_5_takeNumber_101 3 rfl ?_
    refine jg_if_ne (tgt := 112) (pc := 103) X d_5_takeNumber_103 (by decide) rv4 h (fun c1 h => ?_) (fun c1 h => ?_)
    · refine jg_aload_n (pc := 106) X d_5_takeNumber_106 0 rfl ?_
      refine jg_iload_n (pc := 107) X d_5_takeNumber_107 2 rfl ?_
      refine jg_callVi (pc := 108) X (m_5_failAt rv3 hw h) jM_5_failAt kw_597 (jl_1_5 hn) rfl rfl rfl rfl rfl (Nat.le_of_ble_eq_true rfl) d_5_takeNumber_108 ⟨(Nat.le_of_ble_eq_true rfl), (Nat.le_of_ble_eq_true rfl)⟩ ⟨(Nat.le_of_ble_eq_true rfl), (Nat.le_of_ble_eq_true rfl)⟩ (fun x2 C3 r4 w5 h => ?_)
      obtain ⟨b6, h⟩ := h
      exact jg_ireturn (pc := 111) X hAe hlocks hr d_5_takeNumber_111 ⟨(Nat.le_of_ble_eq_true rfl), (Nat.le_of_ble_eq_true rfl)⟩ (jnar_b b6) r4 w5 h
    · refine jg_iload (pc := 112) X d_5_takeNumber_112 3 rfl ?_
      refine jg_iconst (pc := 114) X d_5_takeNumber_114 ?_
      refine jg_icmp_le (tgt := 127) (pc := 115) X d_5_takeNumber_115 (by decide) rv4 (⟨by decide, by decide⟩ : jRng 3) h (fun c7 h => ?_) (fun c7 h => ?_)
      · refine jg_aload_n (pc := 127) X d_5_takeNumber_127 0 rfl ?_
        refine jg_iload_n (pc := 128) X d_5_takeNumber_128 2 rfl ?_
        refine jg_iload (pc := 129) X d_5_takeNumber_129 3 rfl ?_
        refine jg_iadd (pc := 131) X d_5_takeNumber_131 ?_
        obtain ⟨r8, h⟩ := h
        refine jgp_5_3 (pc := 132) X (jl_1_5 hn) kw_46 d_5_takeNumber_132 ?_
        have w9 := jWF.u (k := 3) (v := (v3 + v4)) hw (jl_1_5 hn) (by decide) r8
        refine jg_aload_n (pc := 135) X d_5_takeNumber_135 0 rfl ?_
        refine jg_iload_n (pc := 136) X d_5_takeNumber_136 1 rfl ?_
        refine jg_if_eq (tgt := 146) (pc := 137) X d_5_takeNumber_137 (by decide) rv2 h (fun c10 h => ?_) (fun c10 h => ?_)
        · refine jg_iload (pc := 146) X d_5_takeNumber_146 4 rfl ?_
          refine jgp_5_5 (pc := 148) X (jl_1_5 hn) kw_51 d_5_takeNumber_148 ?_
          have w11 := jWF.u (k := 5) (v := v5) w9 (jl_1_5 hn) (by decide) rv5
          refine jg_iconst (pc := 151) X d_5_takeNumber_151 ?_
          exact jg_ireturn (pc := 152) X hAe hlocks hr d_5_takeNumber_152 ⟨(Nat.le_of_ble_eq_true rfl), (Nat.le_of_ble_eq_true rfl)⟩ rfl (⟨by decide, by decide⟩ : jRng 1) w11 h
        · refine jg_iload (pc := 140) X d_5_takeNumber_140 4 rfl ?_
          refine jg_ineg (pc := 142) X d_5_takeNumber_142 ?_
          refine jg_goto (tgt := 148) (pc := 143) X d_5_takeNumber_143 (by decide) ?_
          obtain ⟨r12, h⟩ := h
          refine jgp_5_5 (pc := 148) X (jl_1_5 hn) kw_51 d_5_takeNumber_148 ?_
          have w13 := jWF.u (k := 5) (v := (-v5)) w9 (jl_1_5 hn) (by decide) r12
          refine jg_iconst (pc := 151) X d_5_takeNumber_151 ?_
          exact jg_ireturn (pc := 152) X hAe hlocks hr d_5_takeNumber_152 ⟨(Nat.le_of_ble_eq_true rfl), (Nat.le_of_ble_eq_true rfl)⟩ rfl (⟨by decide, by decide⟩ : jRng 1) w13 h
      · refine jg_aload_n (pc := 118) X d_5_takeNumber_118 0 rfl ?_
        refine jg_aload_n (pc := 119) X d_5_takeNumber_119 0 rfl ?_
        refine jgf_5_6 (pc := 120) X (jl_1_5 hn) kw_53 d_5_takeNumber_120 ?_
        refine jg_callVi (pc := 123) X (m_5_failAt (hw.1 _ _) hw h) jM_5_failAt kw_597 (jl_1_5 hn) rfl rfl rfl rfl rfl (Nat.le_of_ble_eq_true rfl) d_5_takeNumber_123 ⟨(Nat.le_of_ble_eq_true rfl), (Nat.le_of_ble_eq_true rfl)⟩ ⟨(Nat.le_of_ble_eq_true rfl), (Nat.le_of_ble_eq_true rfl)⟩ (fun x14 C15 r16 w17 h => ?_)
        obtain ⟨b18, h⟩ := h
        exact jg_ireturn (pc := 126) X hAe hlocks hr d_5_takeNumber_126 ⟨(Nat.le_of_ble_eq_true rfl), (Nat.le_of_ble_eq_true rfl)⟩ (jnar_b b18) r16 w17 h
  have jb34 : ∀ (s0 : Int) (C : jC) (rs0 : jRng s0) (hw : jWF n C), wp_5_takeNumber_34 s0 C post → jG p l e q_5_takeNumber s m args below meth c 6 Z A (jws Z n C) 0 0 (MQ below (jQi Z n sz post) args s q_5_takeNumber.cells q_5_takeNumber.slots (jA Z n sz)) 34 [(0, jr Z 1)] [jI s0] := by
    intro s0 C rs0 hw h
    unfold wp_5_takeNumber_34 at h
    refine jg_istore_n (pc := 34) X [(2, jI s0), (0, jr Z 1)] d_5_takeNumber_34 (by decide) rfl ?_
    refine jg_iload_n (pc := 35) X d_5_takeNumber_35 0 rfl ?_
    refine jg_if_eq (tgt := 48) (pc := 36) X d_5_takeNumber_36 (by decide) rs0 h (fun c19 h => ?_) (fun c19 h => ?_)
    · refine jg_aload_n (pc := 48) X d_5_takeNumber_48 1 rfl ?_
      refine jgf_5_3 (pc := 49) X (jl_1_5 hn) kw_46 d_5_takeNumber_49 ?_
      refine jg_istore_n (pc := 52) X [(3, jI (C 1 3)), (2, jI s0), (0, jr Z 1)] d_5_takeNumber_52 (by decide) rfl ?_
      refine jg_iconst (pc := 53) X d_5_takeNumber_53 ?_
      refine jg_istore (pc := 54) X [(4, jI 0), (3, jI (C 1 3)), (2, jI s0), (0, jr Z 1)] d_5_takeNumber_54 (by decide) rfl ?_
      refine jg_iconst (pc := 56) X d_5_takeNumber_56 ?_
      refine jg_istore (pc := 57) X [(5, jI 0), (4, jI 0), (3, jI (C 1 3)), (2, jI s0), (0, jr Z 1)] d_5_takeNumber_57 (by decide) rfl ?_
      have jl59 : ∀ (v2 : Int) (v3 : Int) (rv2 : jRng v2) (rv3 : jRng v3) (N : Nat) (v4 : Int) (v5 : Int) (rv4 : jRng v4) (rv5 : jRng v5), jI2 (wp_5_takeNumber_59 v2 v3 C post) N v4 v5 → jG p l e q_5_takeNumber s m args below meth c 6 Z A (jws Z n C) 0 0 (MQ below (jQi Z n sz post) args s q_5_takeNumber.cells q_5_takeNumber.slots (jA Z n sz)) 59 [(0, jr Z 1), (2, jI v2), (3, jI v3), (4, jI v4), (5, jI v5)] [] := by
        intro v2 v3 rv2 rv3 N
        have hn := hw0.2.2.1
        induction N with
        | zero => intro v4 v5 rv4 rv5 h; exact h.elim
        | succ N ih59 =>
          intro v4 v5 rv4 rv5 h
          have h : wp_5_takeNumber_59 v2 v3 C post (jI2 (wp_5_takeNumber_59 v2 v3 C post) N) v4 v5 := h
          generalize jI2 (wp_5_takeNumber_59 v2 v3 C post) N = k59 at h ih59
          unfold wp_5_takeNumber_59 at h
          refine jg_iload (pc := 59) X d_5_takeNumber_59 3 rfl ?_
          refine jg_iconst (pc := 61) X d_5_takeNumber_61 ?_
          refine jg_icmp_gt (tgt := 101) (pc := 62) X d_5_takeNumber_62 (by decide) rv4 (⟨by decide, by decide⟩ : jRng 3) h (fun c20 h => ?_) (fun c20 h => ?_)
          · refine jg_sub [0, 1, 2, 3, 4] rfl ?_
            exact jb101 _ _ _ _ _ rv2 rv3 rv4 rv5 hw h
          · refine jg_aload_n (pc := 65) X d_5_takeNumber_65 0 rfl ?_
            refine jg_iload_n (pc := 66) X d_5_takeNumber_66 2 rfl ?_
            refine jg_iload (pc := 67) X d_5_takeNumber_67 3 rfl ?_
            refine jg_iadd (pc := 69) X d_5_takeNumber_69 ?_
            obtain ⟨r21, h⟩ := h
            refine jg_pcallVi (pc := 70) X (m_5_isDigitAt r21 hw h) jM_5_isDigitAt kw_593 (jl_1_5 hn) rfl rfl rfl rfl rfl (Nat.le_of_ble_eq_true rfl) d_5_takeNumber_70 ⟨(Nat.le_of_ble_eq_true rfl), (Nat.le_of_ble_eq_true rfl)⟩ ⟨(Nat.le_of_ble_eq_true rfl), (Nat.le_of_ble_eq_true rfl)⟩ (fun x22 r24 h => ?_)
            refine jg_if_eq (tgt := 101) (pc := 73) X d_5_takeNumber_73 (by decide) r24 h (fun c26 h => ?_) (fun c26 h => ?_)
            · refine jg_sub [0, 1, 2, 3, 4] rfl ?_
              exact jb101 _ _ _ _ _ rv2 rv3 rv4 rv5 hw h
            · refine jg_iload (pc := 76) X d_5_takeNumber_76 4 rfl ?_
              refine jg_bipush (pc := 78) X d_5_takeNumber_78 rfl ?_
              refine jg_imul (pc := 80) X d_5_takeNumber_80 ?_
              refine jg_aload_n (pc := 81) X d_5_takeNumber_81 0 rfl ?_
              refine jg_iload_n (pc := 82) X d_5_takeNumber_82 2 rfl ?_
              refine jg_iload (pc := 83) X d_5_takeNumber_83 3 rfl ?_
              refine jg_iadd (pc := 85) X d_5_takeNumber_85 ?_
              refine jg_pcallVi (pc := 86) X (m_5_byteAt r21 hw h) jM_5_byteAt kw_584 (jl_1_5 hn) rfl rfl rfl rfl rfl (Nat.le_of_ble_eq_true rfl) d_5_takeNumber_86 ⟨(Nat.le_of_ble_eq_true rfl), (Nat.le_of_ble_eq_true rfl)⟩ ⟨(Nat.le_of_ble_eq_true rfl), (Nat.le_of_ble_eq_true rfl)⟩ (fun x27 r29 h => ?_)
              refine jg_iadd (pc := 89) X d_5_takeNumber_89 ?_
              refine jg_bipush (pc := 90) X d_5_takeNumber_90 rfl ?_
              refine jg_isub (pc := 92) X d_5_takeNumber_92 ?_
              refine jg_istore (pc := 93) X [(5, jI (((v5 * 10) + x27) - 48)), (0, jr Z 1), (2, jI v2), (3, jI v3), (4, jI v4)] d_5_takeNumber_93 (by decide) rfl ?_
              refine jg_iinc (pc := 95) X [(4, jI (v4 + 1)), (5, jI (((v5 * 10) + x27) - 48)), (0, jr Z 1), (2, jI v2), (3, jI v3)] d_5_takeNumber_95 4 rfl (by decide) rfl ?_
              refine jg_goto (tgt := 59) (pc := 98) X d_5_takeNumber_98 (by decide) ?_
              obtain ⟨r32, h⟩ := h
              have r31 : jRng (v4 + 1) := by (unfold jRng; exact ⟨by (have z0 : jRng v4 := rv4; unfold jRng at z0; omega), by (have z0 : jRng v4 := rv4; unfold jRng at z0; omega)⟩)
              refine jg_sub [2, 3, 4, 0, 1] rfl ?_
              exact ih59 _ _ r31 r32 h
      obtain ⟨N, h⟩ := h
      refine jg_sub [4, 3, 2, 1, 0] rfl ?_
      exact jl59 _ _ rs0 (hw.1 _ _) N _ _ (⟨by decide, by decide⟩ : jRng 0) (⟨by decide, by decide⟩ : jRng 0) h
    · refine jg_aload_n (pc := 39) X d_5_takeNumber_39 1 rfl ?_
      refine jgf_5_3 (pc := 40) X (jl_1_5 hn) kw_46 d_5_takeNumber_40 ?_
      refine jg_iconst (pc := 43) X d_5_takeNumber_43 ?_
      refine jg_iadd (pc := 44) X d_5_takeNumber_44 ?_
      refine jg_goto (tgt := 52) (pc := 45) X d_5_takeNumber_45 (by decide) ?_
      refine jg_istore_n (pc := 52) X [(3, jI ((C 1 3) + 1)), (2, jI s0), (0, jr Z 1)] d_5_takeNumber_52 (by decide) rfl ?_
      refine jg_iconst (pc := 53) X d_5_takeNumber_53 ?_
      refine jg_istore (pc := 54) X [(4, jI 0), (3, jI ((C 1 3) + 1)), (2, jI s0), (0, jr Z 1)] d_5_takeNumber_54 (by decide) rfl ?_
      refine jg_iconst (pc := 56) X d_5_takeNumber_56 ?_
      refine jg_istore (pc := 57) X [(5, jI 0), (4, jI 0), (3, jI ((C 1 3) + 1)), (2, jI s0), (0, jr Z 1)] d_5_takeNumber_57 (by decide) rfl ?_
      obtain ⟨r33, h⟩ := h
      have jl59 : ∀ (v2 : Int) (v3 : Int) (rv2 : jRng v2) (rv3 : jRng v3) (N : Nat) (v4 : Int) (v5 : Int) (rv4 : jRng v4) (rv5 : jRng v5), jI2 (wp_5_takeNumber_59 v2 v3 C post) N v4 v5 → jG p l e q_5_takeNumber s m args below meth c 6 Z A (jws Z n C) 0 0 (MQ below (jQi Z n sz post) args s q_5_takeNumber.cells q_5_takeNumber.slots (jA Z n sz)) 59 [(0, jr Z 1), (2, jI v2), (3, jI v3), (4, jI v4), (5, jI v5)] [] := by
        intro v2 v3 rv2 rv3 N
        have hn := hw0.2.2.1
        induction N with
        | zero => intro v4 v5 rv4 rv5 h; exact h.elim
        | succ N ih59 =>
          intro v4 v5 rv4 rv5 h
          have h : wp_5_takeNumber_59 v2 v3 C post (jI2 (wp_5_takeNumber_59 v2 v3 C post) N) v4 v5 := h
          generalize jI2 (wp_5_takeNumber_59 v2 v3 C post) N = k59 at h ih59
          unfold wp_5_takeNumber_59 at h
          refine jg_iload (pc := 59) X d_5_takeNumber_59 3 rfl ?_
          refine jg_iconst (pc := 61) X d_5_takeNumber_61 ?_
          refine jg_icmp_gt (tgt := 101) (pc := 62) X d_5_takeNumber_62 (by decide) rv4 (⟨by decide, by decide⟩ : jRng 3) h (fun c34 h => ?_) (fun c34 h => ?_)
          · refine jg_sub [0, 1, 2, 3, 4] rfl ?_
            exact jb101 _ _ _ _ _ rv2 rv3 rv4 rv5 hw h
          · refine jg_aload_n (pc := 65) X d_5_takeNumber_65 0 rfl ?_
            refine jg_iload_n (pc := 66) X d_5_takeNumber_66 2 rfl ?_
            refine jg_iload (pc := 67) X d_5_takeNumber_67 3 rfl ?_
            refine jg_iadd (pc := 69) X d_5_takeNumber_69 ?_
            obtain ⟨r35, h⟩ := h
            refine jg_pcallVi (pc := 70) X (m_5_isDigitAt r35 hw h) jM_5_isDigitAt kw_593 (jl_1_5 hn) rfl rfl rfl rfl rfl (Nat.le_of_ble_eq_true rfl) d_5_takeNumber_70 ⟨(Nat.le_of_ble_eq_true rfl), (Nat.le_of_ble_eq_true rfl)⟩ ⟨(Nat.le_of_ble_eq_true rfl), (Nat.le_of_ble_eq_true rfl)⟩ (fun x36 r38 h => ?_)
            refine jg_if_eq (tgt := 101) (pc := 73) X d_5_takeNumber_73 (by decide) r38 h (fun c40 h => ?_) (fun c40 h => ?_)
            · refine jg_sub [0, 1, 2, 3, 4] rfl ?_
              exact jb101 _ _ _ _ _ rv2 rv3 rv4 rv5 hw h
            · refine jg_iload (pc := 76) X d_5_takeNumber_76 4 rfl ?_
              refine jg_bipush (pc := 78) X d_5_takeNumber_78 rfl ?_
              refine jg_imul (pc := 80) X d_5_takeNumber_80 ?_
              refine jg_aload_n (pc := 81) X d_5_takeNumber_81 0 rfl ?_
              refine jg_iload_n (pc := 82) X d_5_takeNumber_82 2 rfl ?_
              refine jg_iload (pc := 83) X d_5_takeNumber_83 3 rfl ?_
              refine jg_iadd (pc := 85) X d_5_takeNumber_85 ?_
              refine jg_pcallVi (pc := 86) X (m_5_byteAt r35 hw h) jM_5_byteAt kw_584 (jl_1_5 hn) rfl rfl rfl rfl rfl (Nat.le_of_ble_eq_true rfl) d_5_takeNumber_86 ⟨(Nat.le_of_ble_eq_true rfl), (Nat.le_of_ble_eq_true rfl)⟩ ⟨(Nat.le_of_ble_eq_true rfl), (Nat.le_of_ble_eq_true rfl)⟩ (fun x41 r43 h => ?_)
              refine jg_iadd (pc := 89) X d_5_takeNumber_89 ?_
              refine jg_bipush (pc := 90) X d_5_takeNumber_90 rfl ?_
              refine jg_isub (pc := 92) X d_5_takeNumber_92 ?_
              refine jg_istore (pc := 93) X [(5, jI (((v5 * 10) + x41) - 48)), (0, jr Z 1), (2, jI v2), (3, jI v3), (4, jI v4)] d_5_takeNumber_93 (by decide) rfl ?_
              refine jg_iinc (pc := 95) X [(4, jI (v4 + 1)), (5, jI (((v5 * 10) + x41) - 48)), (0, jr Z 1), (2, jI v2), (3, jI v3)] d_5_takeNumber_95 4 rfl (by decide) rfl ?_
              refine jg_goto (tgt := 59) (pc := 98) X d_5_takeNumber_98 (by decide) ?_
              obtain ⟨r46, h⟩ := h
              have r45 : jRng (v4 + 1) := by (unfold jRng; exact ⟨by (have z0 : jRng v4 := rv4; unfold jRng at z0; omega), by (have z0 : jRng v4 := rv4; unfold jRng at z0; omega)⟩)
              refine jg_sub [2, 3, 4, 0, 1] rfl ?_
              exact ih59 _ _ r45 r46 h
      obtain ⟨N, h⟩ := h
      refine jg_sub [4, 3, 2, 1, 0] rfl ?_
      exact jl59 _ _ rs0 r33 N _ _ (⟨by decide, by decide⟩ : jRng 0) (⟨by decide, by decide⟩ : jRng 0) h
  refine jg_aload_n (pc := 0) X d_5_takeNumber_0 0 rfl ?_
  refine jg_callVv (pc := 1) X (m_5_skipBlanks hw0 h) jM_5_skipBlanks kw_482 (jl_1_5 hn) rfl rfl rfl rfl rfl (Nat.le_of_ble_eq_true rfl) d_5_takeNumber_1 ⟨(Nat.le_of_ble_eq_true rfl), (Nat.le_of_ble_eq_true rfl)⟩ ⟨(Nat.le_of_ble_eq_true rfl), (Nat.le_of_ble_eq_true rfl)⟩ (fun C48 w50 h => ?_)
  refine jg_aload_n (pc := 4) X d_5_takeNumber_4 0 rfl ?_
  refine jg_aload_n (pc := 5) X d_5_takeNumber_5 0 rfl ?_
  refine jgf_5_3 (pc := 6) X (jl_1_5 hn) kw_46 d_5_takeNumber_6 ?_
  refine jgp_5_6 (pc := 9) X (jl_1_5 hn) kw_53 d_5_takeNumber_9 ?_
  have w51 := jWF.u (k := 6) (v := (C48 1 3)) w50 (jl_1_5 hn) (by decide) (w50.1 _ _)
  refine jg_iload_n (pc := 12) X d_5_takeNumber_12 1 rfl ?_
  refine jg_if_eq (tgt := 33) (pc := 13) X d_5_takeNumber_13 (by decide) rv1 h (fun c52 h => ?_) (fun c52 h => ?_)
  · refine jg_iconst (pc := 33) X d_5_takeNumber_33 ?_
    refine jg_sub [0] rfl ?_
    exact jb34 _ _ (⟨by decide, by decide⟩ : jRng 0) w51 h
  · refine jg_aload_n (pc := 16) X d_5_takeNumber_16 0 rfl ?_
    refine jg_aload_n (pc := 17) X d_5_takeNumber_17 0 rfl ?_
    refine jgf_5_3 (pc := 18) X (jl_1_5 hn) kw_46 d_5_takeNumber_18 ?_
    refine jg_pcallVi (pc := 21) X (m_5_byteAt (w51.1 _ _) w51 h) jM_5_byteAt kw_584 (jl_1_5 hn) rfl rfl rfl rfl rfl (Nat.le_of_ble_eq_true rfl) d_5_takeNumber_21 ⟨(Nat.le_of_ble_eq_true rfl), (Nat.le_of_ble_eq_true rfl)⟩ ⟨(Nat.le_of_ble_eq_true rfl), (Nat.le_of_ble_eq_true rfl)⟩ (fun x53 r55 h => ?_)
    refine jg_bipush (pc := 24) X d_5_takeNumber_24 rfl ?_
    refine jg_icmp_ne (tgt := 33) (pc := 26) X d_5_takeNumber_26 (by decide) r55 (⟨by decide, by decide⟩ : jRng 45) h (fun c57 h => ?_) (fun c57 h => ?_)
    · refine jg_iconst (pc := 29) X d_5_takeNumber_29 ?_
      refine jg_goto (tgt := 34) (pc := 30) X d_5_takeNumber_30 (by decide) ?_
      refine jg_sub [0] rfl ?_
      exact jb34 _ _ (⟨by decide, by decide⟩ : jRng 1) w51 h
    · refine jg_iconst (pc := 33) X d_5_takeNumber_33 ?_
      refine jg_sub [0] rfl ?_
      exact jb34 _ _ (⟨by decide, by decide⟩ : jRng 0) w51 h
set_option maxHeartbeats 4000000 in
set_option maxRecDepth 100000 in
theorem m_5_isLetterAt {l : Launch} {Z : jE} {n : Nat} {C : jC} {v1 : Int} {post : Int → Prop} (rv1 : jRng v1) (hw0 : jWF n C) (h : wp_5_isLetterAt v1 C post) : jCi l y_5_isLetterAt prog_7_method_9_code 2 (.boolean) q_5_isLetterAt Z n C [jr Z 1, jI v1] (fun x C9 => C9 = C ∧ post x) := by
  have hn := hw0.2.2.1
  unfold wp_5_isLetterAt at h
  refine jCi_of (lv0 := [(0, jr Z 1), (1, jI v1)]) (by decide) (Nat.le_of_ble_eq_true rfl) rfl ?_
  intro p e s m args below meth c A sz X hAe hr hlocks
  refine jg_iload_n (pc := 0) X d_5_isLetterAt_0 1 rfl ?_
  refine jg_if_lt (tgt := 38) (pc := 1) X d_5_isLetterAt_1 (by decide) rv1 h (fun c1 h => ?_) (fun c1 h => ?_)
  · refine jg_iconst (pc := 38) X d_5_isLetterAt_38 ?_
    exact jg_ireturn (pc := 39) X hAe hlocks hr d_5_isLetterAt_39 ⟨(Nat.le_of_ble_eq_true rfl), (Nat.le_of_ble_eq_true rfl)⟩ rfl (⟨by decide, by decide⟩ : jRng 0) hw0 ⟨rfl, h⟩
  · refine jg_iload_n (pc := 4) X d_5_isLetterAt_4 1 rfl ?_
    refine jg_aload_n (pc := 5) X d_5_isLetterAt_5 0 rfl ?_
    refine jgf_5_2 (pc := 6) X (jl_1_5 hn) kw_45 d_5_isLetterAt_6 ?_
    refine jg_icmp_ge (tgt := 38) (pc := 9) X d_5_isLetterAt_9 (by decide) rv1 (hw0.1 _ _) h (fun c2 h => ?_) (fun c2 h => ?_)
    · have c2 : (C 1 2) ≤ v1 := c2
      refine jg_iconst (pc := 38) X d_5_isLetterAt_38 ?_
      exact jg_ireturn (pc := 39) X hAe hlocks hr d_5_isLetterAt_39 ⟨(Nat.le_of_ble_eq_true rfl), (Nat.le_of_ble_eq_true rfl)⟩ rfl (⟨by decide, by decide⟩ : jRng 0) hw0 ⟨rfl, h⟩
    · have c2 : ¬ ((C 1 2) ≤ v1) := c2
      refine jg_aload_n (pc := 12) X d_5_isLetterAt_12 0 rfl ?_
      refine jgf_5_0 (pc := 13) X (jl_1_5 hn) kw_42 d_5_isLetterAt_13 ?_
      refine jg_iload_n (pc := 16) X d_5_isLetterAt_16 1 rfl ?_
      obtain ⟨b4, h⟩ := h
      have b3 : 0 ≤ v1 := by (have z0 : jRng v1 := rv1; have z1 : jRng (C 1 2) := (hw0.1 _ _); unfold jRng at z0 z1; omega)
      refine jg_iaload (len := 400) (pc := 17) X d_5_isLetterAt_17 (jl_2_1400 hn) (fun _ => rfl) (by decide) b3 b4 ?_
      refine jg_bipush (pc := 18) X d_5_isLetterAt_18 rfl ?_
      refine jg_icmp_lt (tgt := 38) (pc := 20) X d_5_isLetterAt_20 (by decide) (hw0.1 _ _) (⟨by decide, by decide⟩ : jRng 97) h (fun c5 h => ?_) (fun c5 h => ?_)
      · have c5 : (C 2 v1) < 97 := c5
        refine jg_iconst (pc := 38) X d_5_isLetterAt_38 ?_
        exact jg_ireturn (pc := 39) X hAe hlocks hr d_5_isLetterAt_39 ⟨(Nat.le_of_ble_eq_true rfl), (Nat.le_of_ble_eq_true rfl)⟩ rfl (⟨by decide, by decide⟩ : jRng 0) hw0 ⟨rfl, h⟩
      · have c5 : ¬ ((C 2 v1) < 97) := c5
        refine jg_aload_n (pc := 23) X d_5_isLetterAt_23 0 rfl ?_
        refine jgf_5_0 (pc := 24) X (jl_1_5 hn) kw_42 d_5_isLetterAt_24 ?_
        refine jg_iload_n (pc := 27) X d_5_isLetterAt_27 1 rfl ?_
        have b6 : 0 ≤ v1 := by (have z0 : jRng v1 := rv1; have z1 : jRng (C 1 2) := (hw0.1 _ _); unfold jRng at z0 z1; omega)
        have b7 : v1 < 400 := by (have z0 : jRng v1 := rv1; have z1 : jRng (C 1 2) := (hw0.1 _ _); unfold jRng at z0 z1; omega)
        refine jg_iaload (len := 400) (pc := 28) X d_5_isLetterAt_28 (jl_2_1400 hn) (fun _ => rfl) (by decide) b6 b7 ?_
        refine jg_bipush (pc := 29) X d_5_isLetterAt_29 rfl ?_
        refine jg_icmp_gt (tgt := 38) (pc := 31) X d_5_isLetterAt_31 (by decide) (hw0.1 _ _) (⟨by decide, by decide⟩ : jRng 122) h (fun c8 h => ?_) (fun c8 h => ?_)
        · have c8 : 122 < (C 2 v1) := c8
          refine jg_iconst (pc := 38) X d_5_isLetterAt_38 ?_
          exact jg_ireturn (pc := 39) X hAe hlocks hr d_5_isLetterAt_39 ⟨(Nat.le_of_ble_eq_true rfl), (Nat.le_of_ble_eq_true rfl)⟩ rfl (⟨by decide, by decide⟩ : jRng 0) hw0 ⟨rfl, h⟩
        · have c8 : ¬ (122 < (C 2 v1)) := c8
          refine jg_iconst (pc := 34) X d_5_isLetterAt_34 ?_
          refine jg_goto (tgt := 39) (pc := 35) X d_5_isLetterAt_35 (by decide) ?_
          exact jg_ireturn (pc := 39) X hAe hlocks hr d_5_isLetterAt_39 ⟨(Nat.le_of_ble_eq_true rfl), (Nat.le_of_ble_eq_true rfl)⟩ rfl (⟨by decide, by decide⟩ : jRng 1) hw0 ⟨rfl, h⟩
set_option maxHeartbeats 4000000 in
set_option maxRecDepth 100000 in
theorem m_5_takeLetters {l : Launch} {Z : jE} {n : Nat} {C : jC}  {post : Int → jC → Prop}  (hw0 : jWF n C) (h : wp_5_takeLetters C post) : jCi l y_5_takeLetters prog_7_method_18_code 4 (.boolean) q_5_takeLetters Z n C [jr Z 1] post := by
  have hn := hw0.2.2.1
  unfold wp_5_takeLetters at h
  refine jCi_of (lv0 := [(0, jr Z 1)]) (by decide) (Nat.le_of_ble_eq_true rfl) rfl ?_
  intro p e s m args below meth c A sz X hAe hr hlocks
  have jb57 : ∀ (v1 : Int) (v2 : Int) (C : jC) (rv1 : jRng v1) (rv2 : jRng v2) (hw : jWF n C), wp_5_takeLetters_57 v1 v2 C post → jG p l e q_5_takeLetters s m args below meth c 4 Z A (jws Z n C) 0 0 (MQ below (jQi Z n sz post) args s q_5_takeLetters.cells q_5_takeLetters.slots (jA Z n sz)) 57 [(0, jr Z 1), (1, jI v1), (2, jI v2)] [] := by
    intro v1 v2 C rv1 rv2 hw h
    unfold wp_5_takeLetters_57 at h
    refine jg_iload_n (pc := 57) X d_5_takeLetters_57 1 rfl ?_
    refine jg_if_eq (tgt := 66) (pc := 58) X d_5_takeLetters_58 (by decide) rv1 h (fun c1 h => ?_) (fun c1 h => ?_)
    · refine jg_aload_n (pc := 66) X d_5_takeLetters_66 0 rfl ?_
      refine jg_callVi (pc := 67) X (m_5_failHere hw h) jM_5_failHere kw_606 (jl_1_5 hn) rfl rfl rfl rfl rfl (Nat.le_of_ble_eq_true rfl) d_5_takeLetters_67 ⟨(Nat.le_of_ble_eq_true rfl), (Nat.le_of_ble_eq_true rfl)⟩ ⟨(Nat.le_of_ble_eq_true rfl), (Nat.le_of_ble_eq_true rfl)⟩ (fun x2 C3 r4 w5 h => ?_)
      obtain ⟨b6, h⟩ := h
      exact jg_ireturn (pc := 70) X hAe hlocks hr d_5_takeLetters_70 ⟨(Nat.le_of_ble_eq_true rfl), (Nat.le_of_ble_eq_true rfl)⟩ (jnar_b b6) r4 w5 h
    · refine jg_iload_n (pc := 61) X d_5_takeLetters_61 1 rfl ?_
      refine jg_iconst (pc := 62) X d_5_takeLetters_62 ?_
      refine jg_icmp_le (tgt := 71) (pc := 63) X d_5_takeLetters_63 (by decide) rv1 (⟨by decide, by decide⟩ : jRng 4) h (fun c7 h => ?_) (fun c7 h => ?_)
      · refine jg_aload_n (pc := 71) X d_5_takeLetters_71 0 rfl ?_
        refine jg_dup (pc := 72) X d_5_takeLetters_72 rfl ?_
        refine jgf_5_3 (pc := 73) X (jl_1_5 hn) kw_46 d_5_takeLetters_73 ?_
        refine jg_iload_n (pc := 76) X d_5_takeLetters_76 1 rfl ?_
        refine jg_iadd (pc := 77) X d_5_takeLetters_77 ?_
        obtain ⟨r8, h⟩ := h
        refine jgp_5_3 (pc := 78) X (jl_1_5 hn) kw_46 d_5_takeLetters_78 ?_
        have w9 := jWF.u (k := 3) (v := ((C 1 3) + v1)) hw (jl_1_5 hn) (by decide) r8
        refine jg_aload_n (pc := 81) X d_5_takeLetters_81 0 rfl ?_
        refine jg_iload_n (pc := 82) X d_5_takeLetters_82 2 rfl ?_
        refine jgp_5_5 (pc := 83) X (jl_1_5 hn) kw_51 d_5_takeLetters_83 ?_
        have w10 := jWF.u (k := 5) (v := v2) w9 (jl_1_5 hn) (by decide) rv2
        refine jg_iconst (pc := 86) X d_5_takeLetters_86 ?_
        exact jg_ireturn (pc := 87) X hAe hlocks hr d_5_takeLetters_87 ⟨(Nat.le_of_ble_eq_true rfl), (Nat.le_of_ble_eq_true rfl)⟩ rfl (⟨by decide, by decide⟩ : jRng 1) w10 h
      · refine jg_aload_n (pc := 66) X d_5_takeLetters_66 0 rfl ?_
        refine jg_callVi (pc := 67) X (m_5_failHere hw h) jM_5_failHere kw_606 (jl_1_5 hn) rfl rfl rfl rfl rfl (Nat.le_of_ble_eq_true rfl) d_5_takeLetters_67 ⟨(Nat.le_of_ble_eq_true rfl), (Nat.le_of_ble_eq_true rfl)⟩ ⟨(Nat.le_of_ble_eq_true rfl), (Nat.le_of_ble_eq_true rfl)⟩ (fun x11 C12 r13 w14 h => ?_)
        obtain ⟨b15, h⟩ := h
        exact jg_ireturn (pc := 70) X hAe hlocks hr d_5_takeLetters_70 ⟨(Nat.le_of_ble_eq_true rfl), (Nat.le_of_ble_eq_true rfl)⟩ (jnar_b b15) r13 w14 h
  refine jg_iconst (pc := 0) X d_5_takeLetters_0 ?_
  refine jg_istore_n (pc := 1) X [(1, jI 0), (0, jr Z 1)] d_5_takeLetters_1 (by decide) rfl ?_
  refine jg_iconst (pc := 2) X d_5_takeLetters_2 ?_
  refine jg_istore_n (pc := 3) X [(2, jI 0), (1, jI 0), (0, jr Z 1)] d_5_takeLetters_3 (by decide) rfl ?_
  refine jg_sipush (pc := 4) X d_5_takeLetters_4 rfl ?_
  refine jg_istore_n (pc := 7) X [(3, jI 19683), (2, jI 0), (1, jI 0), (0, jr Z 1)] d_5_takeLetters_7 (by decide) rfl ?_
  have hw : jWF n C := hw0
  have jl8 : ∀  (N : Nat) (v1 : Int) (v2 : Int) (v3 : Int) (rv1 : jRng v1) (rv2 : jRng v2) (rv3 : jRng v3), jI3 (wp_5_takeLetters_8  C post) N v1 v2 v3 → jG p l e q_5_takeLetters s m args below meth c 4 Z A (jws Z n C) 0 0 (MQ below (jQi Z n sz post) args s q_5_takeLetters.cells q_5_takeLetters.slots (jA Z n sz)) 8 [(0, jr Z 1), (1, jI v1), (2, jI v2), (3, jI v3)] [] := by
    intro   N
    have hn := hw0.2.2.1
    induction N with
    | zero => intro v1 v2 v3 rv1 rv2 rv3 h; exact h.elim
    | succ N ih8 =>
      intro v1 v2 v3 rv1 rv2 rv3 h
      have h : wp_5_takeLetters_8  C post (jI3 (wp_5_takeLetters_8  C post) N) v1 v2 v3 := h
      generalize jI3 (wp_5_takeLetters_8  C post) N = k8 at h ih8
      unfold wp_5_takeLetters_8 at h
      refine jg_iload_n (pc := 8) X d_5_takeLetters_8 1 rfl ?_
      refine jg_iconst (pc := 9) X d_5_takeLetters_9 ?_
      refine jg_icmp_gt (tgt := 57) (pc := 10) X d_5_takeLetters_10 (by decide) rv1 (⟨by decide, by decide⟩ : jRng 4) h (fun c16 h => ?_) (fun c16 h => ?_)
      · refine jg_sub [0, 1, 2] rfl ?_
        exact jb57 _ _ _ rv1 rv2 hw h
      · refine jg_aload_n (pc := 13) X d_5_takeLetters_13 0 rfl ?_
        refine jg_aload_n (pc := 14) X d_5_takeLetters_14 0 rfl ?_
        refine jgf_5_3 (pc := 15) X (jl_1_5 hn) kw_46 d_5_takeLetters_15 ?_
        refine jg_iload_n (pc := 18) X d_5_takeLetters_18 1 rfl ?_
        refine jg_iadd (pc := 19) X d_5_takeLetters_19 ?_
        obtain ⟨r17, h⟩ := h
        refine jg_pcallVi (pc := 20) X (m_5_isLetterAt r17 hw h) jM_5_isLetterAt kw_602 (jl_1_5 hn) rfl rfl rfl rfl rfl (Nat.le_of_ble_eq_true rfl) d_5_takeLetters_20 ⟨(Nat.le_of_ble_eq_true rfl), (Nat.le_of_ble_eq_true rfl)⟩ ⟨(Nat.le_of_ble_eq_true rfl), (Nat.le_of_ble_eq_true rfl)⟩ (fun x18 r20 h => ?_)
        refine jg_if_eq (tgt := 57) (pc := 23) X d_5_takeLetters_23 (by decide) r20 h (fun c22 h => ?_) (fun c22 h => ?_)
        · refine jg_sub [0, 1, 2] rfl ?_
          exact jb57 _ _ _ rv1 rv2 hw h
        · refine jg_iload_n (pc := 26) X d_5_takeLetters_26 2 rfl ?_
          refine jg_aload_n (pc := 27) X d_5_takeLetters_27 0 rfl ?_
          refine jg_aload_n (pc := 28) X d_5_takeLetters_28 0 rfl ?_
          refine jgf_5_3 (pc := 29) X (jl_1_5 hn) kw_46 d_5_takeLetters_29 ?_
          refine jg_iload_n (pc := 32) X d_5_takeLetters_32 1 rfl ?_
          refine jg_iadd (pc := 33) X d_5_takeLetters_33 ?_
          refine jg_pcallVi (pc := 34) X (m_5_byteAt r17 hw h) jM_5_byteAt kw_584 (jl_1_5 hn) rfl rfl rfl rfl rfl (Nat.le_of_ble_eq_true rfl) d_5_takeLetters_34 ⟨(Nat.le_of_ble_eq_true rfl), (Nat.le_of_ble_eq_true rfl)⟩ ⟨(Nat.le_of_ble_eq_true rfl), (Nat.le_of_ble_eq_true rfl)⟩ (fun x23 r25 h => ?_)
          refine jg_bipush (pc := 37) X d_5_takeLetters_37 rfl ?_
          refine jg_isub (pc := 39) X d_5_takeLetters_39 ?_
          refine jg_iconst (pc := 40) X d_5_takeLetters_40 ?_
          refine jg_iadd (pc := 41) X d_5_takeLetters_41 ?_
          refine jg_iload_n (pc := 42) X d_5_takeLetters_42 3 rfl ?_
          refine jg_imul (pc := 43) X d_5_takeLetters_43 ?_
          refine jg_iadd (pc := 44) X d_5_takeLetters_44 ?_
          refine jg_istore_n (pc := 45) X [(2, jI (v2 + (((x23 - 97) + 1) * v3))), (0, jr Z 1), (1, jI v1), (3, jI v3)] d_5_takeLetters_45 (by decide) rfl ?_
          refine jg_iload_n (pc := 46) X d_5_takeLetters_46 3 rfl ?_
          refine jg_bipush (pc := 47) X d_5_takeLetters_47 rfl ?_
          have r27 : jRng (v3.tdiv 27) := jrng_tdiv rv3 (by decide) (by decide)
          refine jg_idiv (pc := 49) X d_5_takeLetters_49 rv3 (by decide) (by decide) ?_
          refine jg_istore_n (pc := 50) X [(3, jI (v3.tdiv 27)), (2, jI (v2 + (((x23 - 97) + 1) * v3))), (0, jr Z 1), (1, jI v1)] d_5_takeLetters_50 (by decide) rfl ?_
          refine jg_iinc (pc := 51) X [(1, jI (v1 + 1)), (3, jI (v3.tdiv 27)), (2, jI (v2 + (((x23 - 97) + 1) * v3))), (0, jr Z 1)] d_5_takeLetters_51 3 rfl (by decide) rfl ?_
          refine jg_goto (tgt := 8) (pc := 54) X d_5_takeLetters_54 (by decide) ?_
          obtain ⟨r29, h⟩ := h
          have r28 : jRng (v1 + 1) := by (unfold jRng; exact ⟨by (have z0 : jRng v1 := rv1; unfold jRng at z0; omega), by (have z0 : jRng v1 := rv1; unfold jRng at z0; omega)⟩)
          refine jg_sub [3, 0, 2, 1] rfl ?_
          exact ih8 _ _ _ r28 r29 r27 h
  obtain ⟨N, h⟩ := h
  refine jg_sub [3, 2, 1, 0] rfl ?_
  exact jl8   N _ _ _ (⟨by decide, by decide⟩ : jRng 0) (⟨by decide, by decide⟩ : jRng 0) (⟨by decide, by decide⟩ : jRng 19683) h
set_option maxHeartbeats 4000000 in
set_option maxRecDepth 100000 in
theorem m_5_takeCell {l : Launch} {Z : jE} {n : Nat} {C : jC} {v1 : Int} {post : Int → jC → Prop} (rv1 : jRng v1) (hw0 : jWF n C) (h : wp_5_takeCell v1 C post) : jCi l y_5_takeCell prog_7_method_17_code 2 (.boolean) q_5_takeCell Z n C [jr Z 1, jI v1] post := by
  have hn := hw0.2.2.1
  unfold wp_5_takeCell at h
  refine jCi_of (lv0 := [(0, jr Z 1), (1, jI v1)]) (by decide) (Nat.le_of_ble_eq_true rfl) rfl ?_
  intro p e s m args below meth c A sz X hAe hr hlocks
  refine jg_aload_n (pc := 0) X d_5_takeCell_0 0 rfl ?_
  refine jg_bipush (pc := 1) X d_5_takeCell_1 rfl ?_
  refine jg_callVi (pc := 3) X (m_5_takeSign (⟨by decide, by decide⟩ : jRng 46) hw0 h) jM_5_takeSign kw_580 (jl_1_5 hn) rfl rfl rfl rfl rfl (Nat.le_of_ble_eq_true rfl) d_5_takeCell_3 ⟨(Nat.le_of_ble_eq_true rfl), (Nat.le_of_ble_eq_true rfl)⟩ ⟨(Nat.le_of_ble_eq_true rfl), (Nat.le_of_ble_eq_true rfl)⟩ (fun x1 C2 r3 w4 h => ?_)
  refine jg_if_eq (tgt := 17) (pc := 6) X d_5_takeCell_6 (by decide) r3 h (fun c5 h => ?_) (fun c5 h => ?_)
  · refine jg_iload_n (pc := 17) X d_5_takeCell_17 1 rfl ?_
    refine jg_if_ne (tgt := 29) (pc := 18) X d_5_takeCell_18 (by decide) rv1 h (fun c6 h => ?_) (fun c6 h => ?_)
    · refine jg_aload_n (pc := 21) X d_5_takeCell_21 0 rfl ?_
      refine jg_iconst (pc := 22) X d_5_takeCell_22 ?_
      refine jg_callVi (pc := 23) X (m_5_takeNumber (⟨by decide, by decide⟩ : jRng 1) w4 h) jM_5_takeNumber kw_589 (jl_1_5 hn) rfl rfl rfl rfl rfl (Nat.le_of_ble_eq_true rfl) d_5_takeCell_23 ⟨(Nat.le_of_ble_eq_true rfl), (Nat.le_of_ble_eq_true rfl)⟩ ⟨(Nat.le_of_ble_eq_true rfl), (Nat.le_of_ble_eq_true rfl)⟩ (fun x7 C8 r9 w10 h => ?_)
      refine jg_goto (tgt := 33) (pc := 26) X d_5_takeCell_26 (by decide) ?_
      obtain ⟨b11, h⟩ := h
      exact jg_ireturn (pc := 33) X hAe hlocks hr d_5_takeCell_33 ⟨(Nat.le_of_ble_eq_true rfl), (Nat.le_of_ble_eq_true rfl)⟩ (jnar_b b11) r9 w10 h
    · refine jg_aload_n (pc := 29) X d_5_takeCell_29 0 rfl ?_
      refine jg_callVi (pc := 30) X (m_5_takeLetters w4 h) jM_5_takeLetters kw_598 (jl_1_5 hn) rfl rfl rfl rfl rfl (Nat.le_of_ble_eq_true rfl) d_5_takeCell_30 ⟨(Nat.le_of_ble_eq_true rfl), (Nat.le_of_ble_eq_true rfl)⟩ ⟨(Nat.le_of_ble_eq_true rfl), (Nat.le_of_ble_eq_true rfl)⟩ (fun x12 C13 r14 w15 h => ?_)
      obtain ⟨b16, h⟩ := h
      exact jg_ireturn (pc := 33) X hAe hlocks hr d_5_takeCell_33 ⟨(Nat.le_of_ble_eq_true rfl), (Nat.le_of_ble_eq_true rfl)⟩ (jnar_b b16) r14 w15 h
  · refine jg_aload_n (pc := 9) X d_5_takeCell_9 0 rfl ?_
    refine jg_ldk (pc := 10) (-1000000) X kw_588 (by decide) d_5_takeCell_10 ?_
    refine jgp_5_5 (pc := 12) X (jl_1_5 hn) kw_51 d_5_takeCell_12 ?_
    have w17 := jWF.u (k := 5) (v := (-1000000)) w4 (jl_1_5 hn) (by decide) (⟨by decide, by decide⟩ : jRng (-1000000))
    refine jg_iconst (pc := 15) X d_5_takeCell_15 ?_
    exact jg_ireturn (pc := 16) X hAe hlocks hr d_5_takeCell_16 ⟨(Nat.le_of_ble_eq_true rfl), (Nat.le_of_ble_eq_true rfl)⟩ rfl (⟨by decide, by decide⟩ : jRng 1) w17 h
set_option maxHeartbeats 4000000 in
set_option maxRecDepth 100000 in
theorem m_9_takeValue {l : Launch} {Z : jE} {n : Nat} {C : jC} {v1 : Int} {post : jC → Prop} (rv1 : jRng v1) (hw0 : jWF n C) (h : wp_9_takeValue v1 C post) : jCv l y_9_takeValue prog_11_method_7_code 2 q_9_takeValue Z n C [jr Z 3, jI v1] post := by
  have hn := hw0.2.2.1
  unfold wp_9_takeValue at h
  refine jCv_of (lv0 := [(0, jr Z 3), (1, jI v1)]) (by decide) (Nat.le_of_ble_eq_true rfl) rfl ?_
  intro p e s m args below meth c A sz X hAe hr hlocks
  refine jg_aload_n (pc := 0) X d_9_takeValue_0 0 rfl ?_
  refine jgf_9_2 (pc := 1) X (jl_3_9 hn) kw_128 d_9_takeValue_1 ?_
  refine jg_bipush (pc := 4) X d_9_takeValue_4 rfl ?_
  refine jg_icmp_ge (tgt := 57) (pc := 6) X d_9_takeValue_6 (by decide) (hw0.1 _ _) (⟨by decide, by decide⟩ : jRng 14) h (fun c1 h => ?_) (fun c1 h => ?_)
  · have c1 : 14 ≤ (C 3 2) := c1
    exact jg_return (pc := 57) X hAe hlocks hr d_9_takeValue_57 ⟨(Nat.le_of_ble_eq_true rfl), (Nat.le_of_ble_eq_true rfl)⟩ hw0 h
  · have c1 : ¬ (14 ≤ (C 3 2)) := c1
    refine jg_aload_n (pc := 9) X d_9_takeValue_9 0 rfl ?_
    refine jgf_9_3 (pc := 10) X (jl_3_9 hn) kw_131 d_9_takeValue_10 ?_
    refine jg_aload_n (pc := 13) X d_9_takeValue_13 0 rfl ?_
    refine jgf_9_2 (pc := 14) X (jl_3_9 hn) kw_128 d_9_takeValue_14 ?_
    obtain ⟨b2, h⟩ := h
    have b3 : (C 3 2) < 14 := by (have z0 : jRng (C 3 2) := (hw0.1 _ _); unfold jRng at z0; omega)
    refine jg_iaload (len := 14) (pc := 17) X d_9_takeValue_17 (jl_5_1014 hn) (fun _ => rfl) (by decide) b2 b3 ?_
    refine jg_iconst (pc := 18) X d_9_takeValue_18 ?_
    refine jg_icmp_ge (tgt := 57) (pc := 19) X d_9_takeValue_19 (by decide) (hw0.1 _ _) (⟨by decide, by decide⟩ : jRng 5) h (fun c4 h => ?_) (fun c4 h => ?_)
    · have c4 : 5 ≤ (C 5 (C 3 2)) := c4
      exact jg_return (pc := 57) X hAe hlocks hr d_9_takeValue_57 ⟨(Nat.le_of_ble_eq_true rfl), (Nat.le_of_ble_eq_true rfl)⟩ hw0 h
    · have c4 : ¬ (5 ≤ (C 5 (C 3 2))) := c4
      refine jg_aload_n (pc := 22) X d_9_takeValue_22 0 rfl ?_
      refine jgf_9_4 (pc := 23) X (jl_3_9 hn) kw_132 d_9_takeValue_23 ?_
      refine jg_aload_n (pc := 26) X d_9_takeValue_26 0 rfl ?_
      refine jgf_9_2 (pc := 27) X (jl_3_9 hn) kw_128 d_9_takeValue_27 ?_
      refine jg_iconst (pc := 30) X d_9_takeValue_30 ?_
      refine jg_imul (pc := 31) X d_9_takeValue_31 ?_
      refine jg_aload_n (pc := 32) X d_9_takeValue_32 0 rfl ?_
      refine jgf_9_3 (pc := 33) X (jl_3_9 hn) kw_131 d_9_takeValue_33 ?_
      refine jg_aload_n (pc := 36) X d_9_takeValue_36 0 rfl ?_
      refine jgf_9_2 (pc := 37) X (jl_3_9 hn) kw_128 d_9_takeValue_37 ?_
      have b5 : 0 ≤ (C 3 2) := by (have z0 : jRng (C 3 2) := (hw0.1 _ _); unfold jRng at z0; omega)
      have b6 : (C 3 2) < 14 := by (have z0 : jRng (C 3 2) := (hw0.1 _ _); unfold jRng at z0; omega)
      refine jg_iaload (len := 14) (pc := 40) X d_9_takeValue_40 (jl_5_1014 hn) (fun _ => rfl) (by decide) b5 b6 ?_
      refine jg_iadd (pc := 41) X d_9_takeValue_41 ?_
      refine jg_iload_n (pc := 42) X d_9_takeValue_42 1 rfl ?_
      obtain ⟨b7, h⟩ := h
      have b8 : (((C 3 2) * 5) + (C 5 (C 3 2))) < 70 := by (have z0 : jRng (C 3 2) := (hw0.1 _ _); have z1 : jRng (C 5 (C 3 2)) := (hw0.1 _ _); unfold jRng at z0 z1; omega)
      refine jg_iastore (len := 70) (pc := 43) X d_9_takeValue_43 (jl_6_1070 hn) (fun _ => rfl) (by decide) b7 b8 ?_
      have w9 := jWF.u (k := (((C 3 2) * 5) + (C 5 (C 3 2)))) (v := v1) hw0 (jl_6_1070 hn) (by decide) rv1
      refine jg_aload_n (pc := 44) X d_9_takeValue_44 0 rfl ?_
      refine jgf_9_3 (pc := 45) X (jl_3_9 hn) kw_131 d_9_takeValue_45 ?_
      refine jg_aload_n (pc := 48) X d_9_takeValue_48 0 rfl ?_
      refine jgf_9_2 (pc := 49) X (jl_3_9 hn) kw_128 d_9_takeValue_49 ?_
      refine jg_dup2 (pc := 52) X d_9_takeValue_52 rfl rfl ?_
      obtain ⟨b10, b11, h⟩ := h
      refine jg_iaload (len := 14) (pc := 53) X d_9_takeValue_53 (jl_5_1014 hn) (fun _ => rfl) (by decide) b10 b11 ?_
      refine jg_iconst (pc := 54) X d_9_takeValue_54 ?_
      refine jg_iadd (pc := 55) X d_9_takeValue_55 ?_
      obtain ⟨r14, h⟩ := h
      have b12 : 0 ≤ ((jU C 6 (((C 3 2) * 5) + (C 5 (C 3 2))) v1) 3 2) := by (have z0 : jRng ((jU C 6 (((C 3 2) * 5) + (C 5 (C 3 2))) v1) 3 2) := (w9.1 _ _); unfold jRng at z0; omega)
      have b13 : ((jU C 6 (((C 3 2) * 5) + (C 5 (C 3 2))) v1) 3 2) < 14 := by (have z0 : jRng ((jU C 6 (((C 3 2) * 5) + (C 5 (C 3 2))) v1) 3 2) := (w9.1 _ _); unfold jRng at z0; omega)
      refine jg_iastore (len := 14) (pc := 56) X d_9_takeValue_56 (jl_5_1014 hn) (fun _ => rfl) (by decide) b12 b13 ?_
      have w15 := jWF.u (k := ((jU C 6 (((C 3 2) * 5) + (C 5 (C 3 2))) v1) 3 2)) (v := (((jU C 6 (((C 3 2) * 5) + (C 5 (C 3 2))) v1) 5 ((jU C 6 (((C 3 2) * 5) + (C 5 (C 3 2))) v1) 3 2)) + 1)) w9 (jl_5_1014 hn) (by decide) r14
      exact jg_return (pc := 57) X hAe hlocks hr d_9_takeValue_57 ⟨(Nat.le_of_ble_eq_true rfl), (Nat.le_of_ble_eq_true rfl)⟩ w15 h
set_option maxHeartbeats 4000000 in
set_option maxRecDepth 100000 in
theorem m_9_readCells {l : Launch} {Z : jE} {n : Nat} {C : jC}  {post : Int → jC → Prop}  (hw0 : jWF n C) (h : wp_9_readCells C post) : jCi l y_9_readCells prog_11_method_11_code 3 (.boolean) q_9_readCells Z n C [jr Z 3, jr Z 1] post := by
  have hn := hw0.2.2.1
  unfold wp_9_readCells at h
  refine jCi_of (lv0 := [(0, jr Z 3), (1, jr Z 1)]) (by decide) (Nat.le_of_ble_eq_true rfl) rfl ?_
  intro p e s m args below meth c A sz X hAe hr hlocks
  refine jg_aload_n (pc := 0) X d_9_readCells_0 0 rfl ?_
  refine jg_callVv (pc := 1) X (m_9_beginRow hw0 h) jM_9_beginRow kw_568 (jl_3_9 hn) rfl rfl rfl rfl rfl (Nat.le_of_ble_eq_true rfl) d_9_readCells_1 ⟨(Nat.le_of_ble_eq_true rfl), (Nat.le_of_ble_eq_true rfl)⟩ ⟨(Nat.le_of_ble_eq_true rfl), (Nat.le_of_ble_eq_true rfl)⟩ (fun C2 w4 h => ?_)
  refine jg_iconst (pc := 4) X d_9_readCells_4 ?_
  refine jg_istore_n (pc := 5) X [(2, jI 0), (0, jr Z 3), (1, jr Z 1)] d_9_readCells_5 (by decide) rfl ?_
  have jl6 : ∀  (N : Nat) (v2 : Int) (C : jC) (rv2 : jRng v2) (hw : jWF n C), jI2 (wp_9_readCells_6  post) N v2 C → jG p l e q_9_readCells s m args below meth c 3 Z A (jws Z n C) 0 0 (MQ below (jQi Z n sz post) args s q_9_readCells.cells q_9_readCells.slots (jA Z n sz)) 6 [(0, jr Z 3), (1, jr Z 1), (2, jI v2)] [] := by
    intro   N
    have hn := hw0.2.2.1
    induction N with
    | zero => intro v2 C rv2 hw h; exact h.elim
    | succ N ih6 =>
      intro v2 C rv2 hw h
      have h : wp_9_readCells_6  post (jI2 (wp_9_readCells_6  post) N) v2 C := h
      generalize jI2 (wp_9_readCells_6  post) N = k6 at h ih6
      unfold wp_9_readCells_6 at h
      refine jg_iload_n (pc := 6) X d_9_readCells_6 2 rfl ?_
      refine jg_aload_n (pc := 7) X d_9_readCells_7 0 rfl ?_
      refine jgf_9_0 (pc := 8) X (jl_3_9 hn) kw_125 d_9_readCells_8 ?_
      refine jg_icmp_ge (tgt := 42) (pc := 11) X d_9_readCells_11 (by decide) rv2 (hw.1 _ _) h (fun c5 h => ?_) (fun c5 h => ?_)
      · have c5 : (C 3 0) ≤ v2 := c5
        refine jg_aload_n (pc := 42) X d_9_readCells_42 0 rfl ?_
        refine jg_dup (pc := 43) X d_9_readCells_43 rfl ?_
        refine jgf_9_2 (pc := 44) X (jl_3_9 hn) kw_128 d_9_readCells_44 ?_
        refine jg_iconst (pc := 47) X d_9_readCells_47 ?_
        refine jg_iadd (pc := 48) X d_9_readCells_48 ?_
        obtain ⟨r6, h⟩ := h
        refine jgp_9_2 (pc := 49) X (jl_3_9 hn) kw_128 d_9_readCells_49 ?_
        have w7 := jWF.u (k := 2) (v := ((C 3 2) + 1)) hw (jl_3_9 hn) (by decide) r6
        refine jg_iconst (pc := 52) X d_9_readCells_52 ?_
        exact jg_ireturn (pc := 53) X hAe hlocks hr d_9_readCells_53 ⟨(Nat.le_of_ble_eq_true rfl), (Nat.le_of_ble_eq_true rfl)⟩ rfl (⟨by decide, by decide⟩ : jRng 1) w7 h
      · have c5 : ¬ ((C 3 0) ≤ v2) := c5
        refine jg_aload_n (pc := 14) X d_9_readCells_14 1 rfl ?_
        refine jg_aload_n (pc := 15) X d_9_readCells_15 0 rfl ?_
        refine jg_iload_n (pc := 16) X d_9_readCells_16 2 rfl ?_
        refine jg_pcallVi (pc := 17) X (m_9_kindAsked rv2 hw h) jM_9_kindAsked kw_572 (jl_3_9 hn) rfl rfl rfl rfl rfl (Nat.le_of_ble_eq_true rfl) d_9_readCells_17 ⟨(Nat.le_of_ble_eq_true rfl), (Nat.le_of_ble_eq_true rfl)⟩ ⟨(Nat.le_of_ble_eq_true rfl), (Nat.le_of_ble_eq_true rfl)⟩ (fun x8 r10 h => ?_)
        refine jg_callVi (pc := 20) X (m_5_takeCell r10 hw h) jM_5_takeCell kw_576 (jl_1_5 hn) rfl rfl rfl rfl rfl (Nat.le_of_ble_eq_true rfl) d_9_readCells_20 ⟨(Nat.le_of_ble_eq_true rfl), (Nat.le_of_ble_eq_true rfl)⟩ ⟨(Nat.le_of_ble_eq_true rfl), (Nat.le_of_ble_eq_true rfl)⟩ (fun x12 C13 r14 w15 h => ?_)
        refine jg_if_ne (tgt := 28) (pc := 23) X d_9_readCells_23 (by decide) r14 h (fun c16 h => ?_) (fun c16 h => ?_)
        · refine jg_iconst (pc := 26) X d_9_readCells_26 ?_
          exact jg_ireturn (pc := 27) X hAe hlocks hr d_9_readCells_27 ⟨(Nat.le_of_ble_eq_true rfl), (Nat.le_of_ble_eq_true rfl)⟩ rfl (⟨by decide, by decide⟩ : jRng 0) w15 h
        · refine jg_aload_n (pc := 28) X d_9_readCells_28 0 rfl ?_
          refine jg_aload_n (pc := 29) X d_9_readCells_29 1 rfl ?_
          refine jgfN_5_5 (pc := 30) X (jl_1_5 hn) kn_50 d_9_readCells_30 ?_
          refine jg_callVv (pc := 33) X (m_9_takeValue (w15.1 _ _) w15 h) jM_9_takeValue kw_607 (jl_3_9 hn) rfl rfl rfl rfl rfl (Nat.le_of_ble_eq_true rfl) d_9_readCells_33 ⟨(Nat.le_of_ble_eq_true rfl), (Nat.le_of_ble_eq_true rfl)⟩ ⟨(Nat.le_of_ble_eq_true rfl), (Nat.le_of_ble_eq_true rfl)⟩ (fun C18 w20 h => ?_)
          refine jg_iinc (pc := 36) X [(2, jI (v2 + 1)), (0, jr Z 3), (1, jr Z 1)] d_9_readCells_36 2 rfl (by decide) rfl ?_
          refine jg_goto (tgt := 6) (pc := 39) X d_9_readCells_39 (by decide) ?_
          have r21 : jRng (v2 + 1) := by (unfold jRng; exact ⟨by (have z0 : jRng v2 := rv2; have z1 : jRng (C 3 0) := (hw.1 _ _); unfold jRng at z0 z1; omega), by (have z0 : jRng v2 := rv2; have z1 : jRng (C 3 0) := (hw.1 _ _); unfold jRng at z0 z1; omega)⟩)
          refine jg_sub [1, 2, 0] rfl ?_
          exact ih6 _ _ r21 w20 h
  obtain ⟨N, h⟩ := h
  refine jg_sub [1, 2, 0] rfl ?_
  exact jl6   N _ _ (⟨by decide, by decide⟩ : jRng 0) w4 h
set_option maxHeartbeats 4000000 in
set_option maxRecDepth 100000 in
theorem m_9_readLine {l : Launch} {Z : jE} {n : Nat} {C : jC} {v2 : Int} {post : Int → jC → Prop} (rv2 : jRng v2) (hw0 : jWF n C) (h : wp_9_readLine v2 C post) : jCi l y_9_readLine prog_11_method_9_code 5 (.boolean) q_9_readLine Z n C [jr Z 3, jr Z 1, jI v2] post := by
  have hn := hw0.2.2.1
  unfold wp_9_readLine at h
  refine jCi_of (lv0 := [(0, jr Z 3), (1, jr Z 1), (2, jI v2)]) (by decide) (Nat.le_of_ble_eq_true rfl) rfl ?_
  intro p e s m args below meth c A sz X hAe hr hlocks
  refine jg_aload_n (pc := 0) X d_9_readLine_0 1 rfl ?_
  refine jg_callVv (pc := 1) X (m_5_skipBlanks hw0 h) jM_5_skipBlanks kw_491 (jl_1_5 hn) rfl rfl rfl rfl rfl (Nat.le_of_ble_eq_true rfl) d_9_readLine_1 ⟨(Nat.le_of_ble_eq_true rfl), (Nat.le_of_ble_eq_true rfl)⟩ ⟨(Nat.le_of_ble_eq_true rfl), (Nat.le_of_ble_eq_true rfl)⟩ (fun C2 w4 h => ?_)
  refine jg_aload_n (pc := 4) X d_9_readLine_4 1 rfl ?_
  refine jgfN_5_3 (pc := 5) X (jl_1_5 hn) kn_47 d_9_readLine_5 ?_
  refine jg_istore_n (pc := 8) X [(3, jI (C2 1 3)), (0, jr Z 3), (1, jr Z 1), (2, jI v2)] d_9_readLine_8 (by decide) rfl ?_
  refine jg_aload_n (pc := 9) X d_9_readLine_9 2 rfl ?_
  refine jg_ldcS (pc := 10) "columns" 0 X (by decide +kernel) d_9_readLine_10 ?_
  refine jg_callVi (pc := 12) X (m_5_takeWord (by decide) w4 h) jM_5_takeWord kw_493 (jl_1_5 hn) rfl rfl rfl rfl rfl (Nat.le_of_ble_eq_true rfl) d_9_readLine_12 ⟨(Nat.le_of_ble_eq_true rfl), (Nat.le_of_ble_eq_true rfl)⟩ ⟨(Nat.le_of_ble_eq_true rfl), (Nat.le_of_ble_eq_true rfl)⟩ (fun x5 C6 r7 w8 h => ?_)
  refine jg_if_eq (tgt := 39) (pc := 15) X d_9_readLine_15 (by decide) r7 h (fun c9 h => ?_) (fun c9 h => ?_)
  · refine jg_aload_n (pc := 39) X d_9_readLine_39 2 rfl ?_
    refine jg_ldcS (pc := 40) "row" 1 X (by decide +kernel) d_9_readLine_40 ?_
    refine jg_callVi (pc := 42) X (m_5_takeWord (by decide) w8 h) jM_5_takeWord kw_493 (jl_1_5 hn) rfl rfl rfl rfl rfl (Nat.le_of_ble_eq_true rfl) d_9_readLine_42 ⟨(Nat.le_of_ble_eq_true rfl), (Nat.le_of_ble_eq_true rfl)⟩ ⟨(Nat.le_of_ble_eq_true rfl), (Nat.le_of_ble_eq_true rfl)⟩ (fun x10 C11 r12 w13 h => ?_)
    refine jg_if_eq (tgt := 92) (pc := 45) X d_9_readLine_45 (by decide) r12 h (fun c14 h => ?_) (fun c14 h => ?_)
    · refine jg_aload_n (pc := 92) X d_9_readLine_92 2 rfl ?_
      refine jg_callVi (pc := 93) X (m_5_failHere w13 h) jM_5_failHere kw_555 (jl_1_5 hn) rfl rfl rfl rfl rfl (Nat.le_of_ble_eq_true rfl) d_9_readLine_93 ⟨(Nat.le_of_ble_eq_true rfl), (Nat.le_of_ble_eq_true rfl)⟩ ⟨(Nat.le_of_ble_eq_true rfl), (Nat.le_of_ble_eq_true rfl)⟩ (fun x15 C16 r17 w18 h => ?_)
      obtain ⟨b19, h⟩ := h
      exact jg_ireturn (pc := 96) X hAe hlocks hr d_9_readLine_96 ⟨(Nat.le_of_ble_eq_true rfl), (Nat.le_of_ble_eq_true rfl)⟩ (jnar_b b19) r17 w18 h
    · refine jg_aload_n (pc := 48) X d_9_readLine_48 1 rfl ?_
      refine jgf_9_0 (pc := 49) X (jl_3_9 hn) kw_125 d_9_readLine_49 ?_
      refine jg_if_le (tgt := 70) (pc := 52) X d_9_readLine_52 (by decide) (w13.1 _ _) h (fun c20 h => ?_) (fun c20 h => ?_)
      · have c20 : (C11 3 0) ≤ 0 := c20
        refine jg_iconst (pc := 70) X d_9_readLine_70 ?_
        refine jg_istore (pc := 71) X [(4, jI 0), (3, jI (C2 1 3)), (0, jr Z 3), (1, jr Z 1), (2, jI v2)] d_9_readLine_71 (by decide) rfl ?_
        refine jg_iload (pc := 73) X d_9_readLine_73 0 rfl ?_
        refine jg_if_eq (T := True) (F := False) (tgt := 86) (pc := 75) X d_9_readLine_75 (by decide) (⟨by decide, by decide⟩ : jRng 0) (by rw [if_pos (by decide)]; trivial) (fun _ _ => ?_) (fun _ h => h.elim)
        refine jg_aload_n (pc := 86) X d_9_readLine_86 3 rfl ?_
        refine jg_iload_n (pc := 87) X d_9_readLine_87 1 rfl ?_
        refine jg_callVi (pc := 88) X (m_5_failAt (w4.1 _ _) w13 h) jM_5_failAt kw_559 (jl_1_5 hn) rfl rfl rfl rfl rfl (Nat.le_of_ble_eq_true rfl) d_9_readLine_88 ⟨(Nat.le_of_ble_eq_true rfl), (Nat.le_of_ble_eq_true rfl)⟩ ⟨(Nat.le_of_ble_eq_true rfl), (Nat.le_of_ble_eq_true rfl)⟩ (fun x22 C23 r24 w25 h => ?_)
        obtain ⟨b26, h⟩ := h
        exact jg_ireturn (pc := 91) X hAe hlocks hr d_9_readLine_91 ⟨(Nat.le_of_ble_eq_true rfl), (Nat.le_of_ble_eq_true rfl)⟩ (jnar_b b26) r24 w25 h
      · have c20 : ¬ ((C11 3 0) ≤ 0) := c20
        refine jg_iload_n (pc := 55) X d_9_readLine_55 3 rfl ?_
        refine jg_aload_n (pc := 56) X d_9_readLine_56 1 rfl ?_
        refine jgf_9_2 (pc := 57) X (jl_3_9 hn) kw_128 d_9_readLine_57 ?_
        refine jg_iadd (pc := 60) X d_9_readLine_60 ?_
        refine jg_bipush (pc := 61) X d_9_readLine_61 rfl ?_
        obtain ⟨r27, h⟩ := h
        refine jg_icmp_ge (tgt := 70) (pc := 63) X d_9_readLine_63 (by decide) r27 (⟨by decide, by decide⟩ : jRng 24) h (fun c28 h => ?_) (fun c28 h => ?_)
        · have c28 : 24 ≤ (v2 + (C11 3 2)) := c28
          refine jg_iconst (pc := 70) X d_9_readLine_70 ?_
          refine jg_istore (pc := 71) X [(4, jI 0), (3, jI (C2 1 3)), (0, jr Z 3), (1, jr Z 1), (2, jI v2)] d_9_readLine_71 (by decide) rfl ?_
          refine jg_iload (pc := 73) X d_9_readLine_73 0 rfl ?_
          refine jg_if_eq (T := True) (F := False) (tgt := 86) (pc := 75) X d_9_readLine_75 (by decide) (⟨by decide, by decide⟩ : jRng 0) (by rw [if_pos (by decide)]; trivial) (fun _ _ => ?_) (fun _ h => h.elim)
          refine jg_aload_n (pc := 86) X d_9_readLine_86 3 rfl ?_
          refine jg_iload_n (pc := 87) X d_9_readLine_87 1 rfl ?_
          refine jg_callVi (pc := 88) X (m_5_failAt (w4.1 _ _) w13 h) jM_5_failAt kw_559 (jl_1_5 hn) rfl rfl rfl rfl rfl (Nat.le_of_ble_eq_true rfl) d_9_readLine_88 ⟨(Nat.le_of_ble_eq_true rfl), (Nat.le_of_ble_eq_true rfl)⟩ ⟨(Nat.le_of_ble_eq_true rfl), (Nat.le_of_ble_eq_true rfl)⟩ (fun x30 C31 r32 w33 h => ?_)
          obtain ⟨b34, h⟩ := h
          exact jg_ireturn (pc := 91) X hAe hlocks hr d_9_readLine_91 ⟨(Nat.le_of_ble_eq_true rfl), (Nat.le_of_ble_eq_true rfl)⟩ (jnar_b b34) r32 w33 h
        · have c28 : ¬ (24 ≤ (v2 + (C11 3 2))) := c28
          refine jg_iconst (pc := 66) X d_9_readLine_66 ?_
          refine jg_goto (tgt := 71) (pc := 67) X d_9_readLine_67 (by decide) ?_
          refine jg_istore (pc := 71) X [(4, jI 1), (3, jI (C2 1 3)), (0, jr Z 3), (1, jr Z 1), (2, jI v2)] d_9_readLine_71 (by decide) rfl ?_
          refine jg_iload (pc := 73) X d_9_readLine_73 0 rfl ?_
          refine jg_if_eq (T := False) (F := True) (tgt := 86) (pc := 75) X d_9_readLine_75 (by decide) (⟨by decide, by decide⟩ : jRng 1) (by rw [if_neg (by decide)]; trivial) (fun _ h => h.elim) (fun _ _ => ?_)
          refine jg_aload_n (pc := 78) X d_9_readLine_78 2 rfl ?_
          refine jg_aload_n (pc := 79) X d_9_readLine_79 3 rfl ?_
          refine jg_callVi (pc := 80) X (m_9_readCells w13 h) jM_9_readCells kw_564 (jl_3_9 hn) rfl rfl rfl rfl rfl (Nat.le_of_ble_eq_true rfl) d_9_readLine_80 ⟨(Nat.le_of_ble_eq_true rfl), (Nat.le_of_ble_eq_true rfl)⟩ ⟨(Nat.le_of_ble_eq_true rfl), (Nat.le_of_ble_eq_true rfl)⟩ (fun x36 C37 r38 w39 h => ?_)
          refine jg_goto (tgt := 91) (pc := 83) X d_9_readLine_83 (by decide) ?_
          obtain ⟨b40, h⟩ := h
          exact jg_ireturn (pc := 91) X hAe hlocks hr d_9_readLine_91 ⟨(Nat.le_of_ble_eq_true rfl), (Nat.le_of_ble_eq_true rfl)⟩ (jnar_b b40) r38 w39 h
  · refine jg_aload_n (pc := 18) X d_9_readLine_18 1 rfl ?_
    refine jgf_9_0 (pc := 19) X (jl_3_9 hn) kw_125 d_9_readLine_19 ?_
    refine jg_if_ne (tgt := 33) (pc := 22) X d_9_readLine_22 (by decide) (w8.1 _ _) h (fun c41 h => ?_) (fun c41 h => ?_)
    · have c41 : (C6 3 0) = 0 := c41
      refine jg_aload_n (pc := 25) X d_9_readLine_25 1 rfl ?_
      refine jg_aload_n (pc := 26) X d_9_readLine_26 2 rfl ?_
      refine jg_callVi (pc := 27) X (m_9_readKinds w8 h) jM_9_readKinds kw_549 (jl_3_9 hn) rfl rfl rfl rfl rfl (Nat.le_of_ble_eq_true rfl) d_9_readLine_27 ⟨(Nat.le_of_ble_eq_true rfl), (Nat.le_of_ble_eq_true rfl)⟩ ⟨(Nat.le_of_ble_eq_true rfl), (Nat.le_of_ble_eq_true rfl)⟩ (fun x42 C43 r44 w45 h => ?_)
      refine jg_goto (tgt := 38) (pc := 30) X d_9_readLine_30 (by decide) ?_
      obtain ⟨b46, h⟩ := h
      exact jg_ireturn (pc := 38) X hAe hlocks hr d_9_readLine_38 ⟨(Nat.le_of_ble_eq_true rfl), (Nat.le_of_ble_eq_true rfl)⟩ (jnar_b b46) r44 w45 h
    · have c41 : ¬ ((C6 3 0) = 0) := c41
      refine jg_aload_n (pc := 33) X d_9_readLine_33 2 rfl ?_
      refine jg_iload_n (pc := 34) X d_9_readLine_34 0 rfl ?_
      refine jg_callVi (pc := 35) X (m_5_failAt (w4.1 _ _) w8 h) jM_5_failAt kw_559 (jl_1_5 hn) rfl rfl rfl rfl rfl (Nat.le_of_ble_eq_true rfl) d_9_readLine_35 ⟨(Nat.le_of_ble_eq_true rfl), (Nat.le_of_ble_eq_true rfl)⟩ ⟨(Nat.le_of_ble_eq_true rfl), (Nat.le_of_ble_eq_true rfl)⟩ (fun x47 C48 r49 w50 h => ?_)
      obtain ⟨b51, h⟩ := h
      exact jg_ireturn (pc := 38) X hAe hlocks hr d_9_readLine_38 ⟨(Nat.le_of_ble_eq_true rfl), (Nat.le_of_ble_eq_true rfl)⟩ (jnar_b b51) r49 w50 h
